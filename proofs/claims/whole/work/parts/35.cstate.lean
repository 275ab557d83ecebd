set_option maxHeartbeats 4000000 in
set_option maxRecDepth 100000 in
theorem c_X3_keep (Z : jZ) (h : Nat) (q : Nat → Nat) (A : Nat → Nat) (K : Nat → Nat) (P : Nat → Nat) (kd : Nat → Nat) (am : Nat → Nat) (st : Nat → Nat) (rg : Nat → Nat) (hp : Nat) (ap : Nat) (Ro : Nat → Nat) (hR : rR A K P kd am st rg) (hP : rP A Ro) (h4 : A 4 ≤ 8) (h0 : A 0 ≤ 6) : CT Z yX3_keep cX3_keep 3 (none) 1 0 0 [.ref hp, .ref h] [(hp, .inr (1, [.int (nI (A 4)), .ref ap])), (ap, ia Z 128 (ni Ro)), cO h q (A 21) (A 5) (A 6) (A 7) (A 8) (A 0), (q 0, ia Z 12 (ni K)), (q 1, ia Z 12 (ni P)), (q 2, ia Z 6 (ni kd)), (q 3, ia Z 6 (ni am)), (q 4, ia Z 6 (ni st)), (q 5, ia Z 6 (ni rg))] (fun rr ww => ∃ Rz : Nat → Nat, rr = none ∧ ww = [(hp, .inr (1, [.int (nI ((saved A) 4)), .ref ap])), (ap, ia Z 128 (ni Rz)), cO h q (A 21) (A 5) (A 6) (A 7) (A 8) (A 0), (q 0, ia Z 12 (ni K)), (q 1, ia Z 12 (ni P)), (q 2, ia Z 6 (ni kd)), (q 3, ia Z 6 (ni am)), (q 4, ia Z 6 (ni st)), (q 5, ia Z 6 (ni rg))] ∧ rP (saved A) Rz) := by
  refine CT.of RX3 false rfl (fun h => by cases h) (by decide +kernel) (Nat.le_of_ble_eq_true rfl) ?_
  intro J hJ hE
  show J 0 [(0, .ref hp), (1, .ref h)] [] [(hp, .inr (1, [.int (nI (A 4)), .ref ap])), (ap, ia Z 128 (ni Ro)), cO h q (A 21) (A 5) (A 6) (A 7) (A 8) (A 0), (q 0, ia Z 12 (ni K)), (q 1, ia Z 12 (ni P)), (q 2, ia Z 6 (ni kd)), (q 3, ia Z 6 (ni am)), (q 4, ia Z 6 (ni st)), (q 5, ia Z 6 (ni rg))] 0 0
  refine j_aload_n hJ (q := 1) dX3_keep_0 rfl 0 rfl rfl ?_
  refine j_get hJ (q := 4) jf_X3_15 dX3_keep_1 0 rfl rfl rfl ?_
  refine j_bipush hJ (q := 6) dX3_keep_4 rfl kb_8 ?_
  refine jn_icmp_lt hJ (q := 9) (tgt := 31) dX3_keep_6 (by decide) rfl (by omega) (by omega) (fun c1 => ?_) (fun c1 => ?_)
  · skip
    refine j_aload_n hJ (q := 32) dX3_keep_31 rfl 0 rfl rfl ?_
    refine j_get hJ (q := 35) jf_X3_15 dX3_keep_32 0 rfl rfl rfl ?_
    refine j_bipush hJ (q := 37) dX3_keep_35 rfl kb_16 ?_
    refine j_imul hJ (q := 38) dX3_keep_37 rfl (pk_mul _ _) ?_
    refine j_istore_n hJ (q := 39) (lvs' := [(2, .int (nI ((A 4) * 16))), (0, .ref hp), (1, .ref h)]) dX3_keep_38 rfl (by decide) rfl rfl ?_
    refine j_aload_n hJ (q := 40) dX3_keep_39 rfl 1 rfl rfl ?_
    refine j_get hJ (q := 43) jf_X3_11 dX3_keep_40 0 rfl rfl rfl ?_
    refine j_iload_n hJ (q := 44) dX3_keep_43 rfl 0 rfl rfl ?_
    refine j_aload_n hJ (q := 45) dX3_keep_44 rfl 2 rfl rfl ?_
    refine j_get hJ (q := 48) jf_X3_25 dX3_keep_45 2 rfl rfl rfl ?_
    refine j_iastN hJ (q := 49) (ws' := [(hp, .inr (1, [.int (nI (A 4)), .ref ap])), (ap, ia Z 128 (ni (va_up Ro ((A 4) * 16) (A 5)))), cO h q (A 21) (A 5) (A 6) (A 7) (A 8) (A 0), (q 0, ia Z 12 (ni K)), (q 1, ia Z 12 (ni P)), (q 2, ia Z 6 (ni kd)), (q 3, ia Z 6 (ni am)), (q 4, ia Z 6 (ni st)), (q 5, ia Z 6 (ni rg))]) dX3_keep_48 1 rfl (by omega) (by decide) (ni_up _ _ _) rfl rfl ?_
    refine j_aload_n hJ (q := 50) dX3_keep_49 rfl 1 rfl rfl ?_
    refine j_get hJ (q := 53) jf_X3_11 dX3_keep_50 0 rfl rfl rfl ?_
    refine j_iload_n hJ (q := 54) dX3_keep_53 rfl 0 rfl rfl ?_
    refine j_iconst hJ (q := 55) dX3_keep_54 rfl ki_1 ?_
    refine j_iadd hJ (q := 56) dX3_keep_55 rfl (nI_add _ _) ?_
    refine j_aload_n hJ (q := 57) dX3_keep_56 rfl 2 rfl rfl ?_
    refine j_get hJ (q := 60) jf_X3_30 dX3_keep_57 2 rfl rfl rfl ?_
    refine j_iastN hJ (q := 61) (ws' := [(hp, .inr (1, [.int (nI (A 4)), .ref ap])), (ap, ia Z 128 (ni (va_up (va_up Ro ((A 4) * 16) (A 5)) ((A 4) * 16 + 1) (A 6)))), cO h q (A 21) (A 5) (A 6) (A 7) (A 8) (A 0), (q 0, ia Z 12 (ni K)), (q 1, ia Z 12 (ni P)), (q 2, ia Z 6 (ni kd)), (q 3, ia Z 6 (ni am)), (q 4, ia Z 6 (ni st)), (q 5, ia Z 6 (ni rg))]) dX3_keep_60 1 rfl (by omega) (by decide) (ni_up _ _ _) rfl rfl ?_
    refine j_aload_n hJ (q := 62) dX3_keep_61 rfl 1 rfl rfl ?_
    refine j_get hJ (q := 65) jf_X3_11 dX3_keep_62 0 rfl rfl rfl ?_
    refine j_iload_n hJ (q := 66) dX3_keep_65 rfl 0 rfl rfl ?_
    refine j_iconst hJ (q := 67) dX3_keep_66 rfl ki_2 ?_
    refine j_iadd hJ (q := 68) dX3_keep_67 rfl (nI_add _ _) ?_
    refine j_aload_n hJ (q := 69) dX3_keep_68 rfl 2 rfl rfl ?_
    refine j_get hJ (q := 72) jf_X3_33 dX3_keep_69 2 rfl rfl rfl ?_
    refine j_iastN hJ (q := 73) (ws' := [(hp, .inr (1, [.int (nI (A 4)), .ref ap])), (ap, ia Z 128 (ni (va_up (va_up (va_up Ro ((A 4) * 16) (A 5)) ((A 4) * 16 + 1) (A 6)) ((A 4) * 16 + 2) (A 7)))), cO h q (A 21) (A 5) (A 6) (A 7) (A 8) (A 0), (q 0, ia Z 12 (ni K)), (q 1, ia Z 12 (ni P)), (q 2, ia Z 6 (ni kd)), (q 3, ia Z 6 (ni am)), (q 4, ia Z 6 (ni st)), (q 5, ia Z 6 (ni rg))]) dX3_keep_72 1 rfl (by omega) (by decide) (ni_up _ _ _) rfl rfl ?_
    refine j_aload_n hJ (q := 74) dX3_keep_73 rfl 1 rfl rfl ?_
    refine j_get hJ (q := 77) jf_X3_11 dX3_keep_74 0 rfl rfl rfl ?_
    refine j_iload_n hJ (q := 78) dX3_keep_77 rfl 0 rfl rfl ?_
    refine j_iconst hJ (q := 79) dX3_keep_78 rfl ki_3 ?_
    refine j_iadd hJ (q := 80) dX3_keep_79 rfl (nI_add _ _) ?_
    refine j_aload_n hJ (q := 81) dX3_keep_80 rfl 2 rfl rfl ?_
    refine j_get hJ (q := 84) jf_X3_36 dX3_keep_81 2 rfl rfl rfl ?_
    refine j_iastN hJ (q := 85) (ws' := [(hp, .inr (1, [.int (nI (A 4)), .ref ap])), (ap, ia Z 128 (ni (va_up (va_up (va_up (va_up Ro ((A 4) * 16) (A 5)) ((A 4) * 16 + 1) (A 6)) ((A 4) * 16 + 2) (A 7)) ((A 4) * 16 + 3) (A 8)))), cO h q (A 21) (A 5) (A 6) (A 7) (A 8) (A 0), (q 0, ia Z 12 (ni K)), (q 1, ia Z 12 (ni P)), (q 2, ia Z 6 (ni kd)), (q 3, ia Z 6 (ni am)), (q 4, ia Z 6 (ni st)), (q 5, ia Z 6 (ni rg))]) dX3_keep_84 1 rfl (by omega) (by decide) (ni_up _ _ _) rfl rfl ?_
    refine j_aload_n hJ (q := 86) dX3_keep_85 rfl 2 rfl rfl ?_
    refine j_get hJ (q := 89) jf_X3_39 dX3_keep_86 2 rfl rfl rfl ?_
    refine j_iconst hJ (q := 90) dX3_keep_89 rfl ki_0 ?_
    refine j_aload_n hJ (q := 91) dX3_keep_90 rfl 1 rfl rfl ?_
    refine j_get hJ (q := 94) jf_X3_11 dX3_keep_91 0 rfl rfl rfl ?_
    refine j_iload_n hJ (q := 95) dX3_keep_94 rfl 0 rfl rfl ?_
    refine j_iconst hJ (q := 96) dX3_keep_95 rfl ki_4 ?_
    refine j_iadd hJ (q := 97) dX3_keep_96 rfl (nI_add _ _) ?_
    refine j_bipush hJ (q := 99) dX3_keep_97 rfl kb_6 ?_
    refine j_copyN hJ (q := 102) (n := 6) (sp := 0) (dp := ((A 4) * 16 + 4)) (f := st) (g := (va_up (va_up (va_up (va_up Ro ((A 4) * 16) (A 5)) ((A 4) * 16 + 1) (A 6)) ((A 4) * 16 + 2) (A 7)) ((A 4) * 16 + 3) (A 8))) (g' := (va_cpy st (va_up (va_up (va_up (va_up Ro ((A 4) * 16) (A 5)) ((A 4) * 16 + 1) (A 6)) ((A 4) * 16 + 2) (A 7)) ((A 4) * 16 + 3) (A 8)) 0 ((A 4) * 16 + 4) 6)) (ws' := [(hp, .inr (1, [.int (nI (A 4)), .ref ap])), (ap, ia Z 128 (ni (va_cpy st (va_up (va_up (va_up (va_up Ro ((A 4) * 16) (A 5)) ((A 4) * 16 + 1) (A 6)) ((A 4) * 16 + 2) (A 7)) ((A 4) * 16 + 3) (A 8)) 0 ((A 4) * 16 + 4) 6))), cO h q (A 21) (A 5) (A 6) (A 7) (A 8) (A 0), (q 0, ia Z 12 (ni K)), (q 1, ia Z 12 (ni P)), (q 2, ia Z 6 (ni kd)), (q 3, ia Z 6 (ni am)), (q 4, ia Z 6 (ni st)), (q 5, ia Z 6 (ni rg))]) tm_479 dX3_keep_99 7 1 rfl rfl (by omega) (by omega) (by decide) (by decide) (by decide) (Nat.le_of_ble_eq_true rfl) (fun j hj => rfl) rfl rfl ?_
    refine j_aload_n hJ (q := 103) dX3_keep_102 rfl 2 rfl rfl ?_
    refine j_get hJ (q := 106) jf_X3_42 dX3_keep_103 2 rfl rfl rfl ?_
    refine j_iconst hJ (q := 107) dX3_keep_106 rfl ki_0 ?_
    refine j_aload_n hJ (q := 108) dX3_keep_107 rfl 1 rfl rfl ?_
    refine j_get hJ (q := 111) jf_X3_11 dX3_keep_108 0 rfl rfl rfl ?_
    refine j_iload_n hJ (q := 112) dX3_keep_111 rfl 0 rfl rfl ?_
    refine j_iconst hJ (q := 113) dX3_keep_112 rfl ki_4 ?_
    refine j_iadd hJ (q := 114) dX3_keep_113 rfl (nI_add _ _) ?_
    refine j_bipush hJ (q := 116) dX3_keep_114 rfl kb_6 ?_
    refine j_iadd hJ (q := 117) dX3_keep_116 rfl (nI_add _ _) ?_
    refine j_bipush hJ (q := 119) dX3_keep_117 rfl kb_6 ?_
    refine j_copyN hJ (q := 122) (n := 6) (sp := 0) (dp := ((A 4) * 16 + 4 + 6)) (f := rg) (g := (va_cpy st (va_up (va_up (va_up (va_up Ro ((A 4) * 16) (A 5)) ((A 4) * 16 + 1) (A 6)) ((A 4) * 16 + 2) (A 7)) ((A 4) * 16 + 3) (A 8)) 0 ((A 4) * 16 + 4) 6)) (g' := (va_cpy rg (va_cpy st (va_up (va_up (va_up (va_up Ro ((A 4) * 16) (A 5)) ((A 4) * 16 + 1) (A 6)) ((A 4) * 16 + 2) (A 7)) ((A 4) * 16 + 3) (A 8)) 0 ((A 4) * 16 + 4) 6) 0 ((A 4) * 16 + 4 + 6) 6)) (ws' := [(hp, .inr (1, [.int (nI (A 4)), .ref ap])), (ap, ia Z 128 (ni (va_cpy rg (va_cpy st (va_up (va_up (va_up (va_up Ro ((A 4) * 16) (A 5)) ((A 4) * 16 + 1) (A 6)) ((A 4) * 16 + 2) (A 7)) ((A 4) * 16 + 3) (A 8)) 0 ((A 4) * 16 + 4) 6) 0 ((A 4) * 16 + 4 + 6) 6))), cO h q (A 21) (A 5) (A 6) (A 7) (A 8) (A 0), (q 0, ia Z 12 (ni K)), (q 1, ia Z 12 (ni P)), (q 2, ia Z 6 (ni kd)), (q 3, ia Z 6 (ni am)), (q 4, ia Z 6 (ni st)), (q 5, ia Z 6 (ni rg))]) tm_479 dX3_keep_119 8 1 rfl rfl (by omega) (by omega) (by decide) (by decide) (by decide) (Nat.le_of_ble_eq_true rfl) (fun j hj => rfl) rfl rfl ?_
    refine j_aload_n hJ (q := 123) dX3_keep_122 rfl 1 rfl rfl ?_
    refine j_dup hJ (q := 124) dX3_keep_123 rfl rfl ?_
    refine j_get hJ (q := 127) jf_X3_15 dX3_keep_124 0 rfl rfl rfl ?_
    refine j_iconst hJ (q := 128) dX3_keep_127 rfl ki_1 ?_
    refine j_iadd hJ (q := 129) dX3_keep_128 rfl (nI_add _ _) ?_
    refine j_put hJ (q := 132) (ws' := [(hp, .inr (1, [.int (nI (A 4 + 1)), .ref ap])), (ap, ia Z 128 (ni (va_cpy rg (va_cpy st (va_up (va_up (va_up (va_up Ro ((A 4) * 16) (A 5)) ((A 4) * 16 + 1) (A 6)) ((A 4) * 16 + 2) (A 7)) ((A 4) * 16 + 3) (A 8)) 0 ((A 4) * 16 + 4) 6) 0 ((A 4) * 16 + 4 + 6) 6))), cO h q (A 21) (A 5) (A 6) (A 7) (A 8) (A 0), (q 0, ia Z 12 (ni K)), (q 1, ia Z 12 (ni P)), (q 2, ia Z 6 (ni kd)), (q 3, ia Z 6 (ni am)), (q 4, ia Z 6 (ni st)), (q 5, ia Z 6 (ni rg))]) jp_X3_15 dX3_keep_129 0 rfl rfl rfl (Nat.le_of_ble_eq_true rfl) rfl rfl ?_
    exact hE.2.2 _ _ _ _ _ rfl dX3_keep_132 (Nat.le_refl _) (Nat.le_refl _) (⟨(va_cpy rg (va_cpy st (va_up (va_up (va_up (va_up Ro ((A 4) * 16) (A 5)) ((A 4) * 16 + 1) (A 6)) ((A 4) * 16 + 2) (A 7)) ((A 4) * 16 + 3) (A 8)) 0 ((A 4) * 16 + 4) 6) 0 ((A 4) * 16 + 4 + 6) 6), rfl, by rw [svd_4, if_neg (by omega)], rP_sv1 hP hR (by omega) (by omega)⟩)
  · skip
    refine j_aload_n hJ (q := 10) dX3_keep_9 rfl 0 rfl rfl ?_
    refine j_get hJ (q := 13) jf_X3_11 dX3_keep_10 0 rfl rfl rfl ?_
    refine j_bipush hJ (q := 15) dX3_keep_13 rfl kb_16 ?_
    refine j_aload_n hJ (q := 16) dX3_keep_15 rfl 0 rfl rfl ?_
    refine j_get hJ (q := 19) jf_X3_11 dX3_keep_16 0 rfl rfl rfl ?_
    refine j_iconst hJ (q := 20) dX3_keep_19 rfl ki_0 ?_
    refine j_bipush hJ (q := 22) dX3_keep_20 rfl kb_112 ?_
    refine j_copyN hJ (q := 25) (n := 112) (sp := 16) (dp := 0) (f := Ro) (g := Ro) (g' := (va_cpy Ro Ro 16 0 112)) (ws' := [(hp, .inr (1, [.int (nI (A 4)), .ref ap])), (ap, ia Z 128 (ni (va_cpy Ro Ro 16 0 112))), cO h q (A 21) (A 5) (A 6) (A 7) (A 8) (A 0), (q 0, ia Z 12 (ni K)), (q 1, ia Z 12 (ni P)), (q 2, ia Z 6 (ni kd)), (q 3, ia Z 6 (ni am)), (q 4, ia Z 6 (ni st)), (q 5, ia Z 6 (ni rg))]) tm_479 dX3_keep_22 1 1 rfl rfl (by decide) (by decide) (by decide) (by decide) (by decide) (Nat.le_of_ble_eq_true rfl) (fun j hj => rfl) rfl rfl ?_
    refine j_aload_n hJ (q := 26) dX3_keep_25 rfl 0 rfl rfl ?_
    refine j_bipush hJ (q := 28) dX3_keep_26 rfl kb_7 ?_
    refine j_put hJ (q := 31) (ws' := [(hp, .inr (1, [.int (nI 7), .ref ap])), (ap, ia Z 128 (ni (va_cpy Ro Ro 16 0 112))), cO h q (A 21) (A 5) (A 6) (A 7) (A 8) (A 0), (q 0, ia Z 12 (ni K)), (q 1, ia Z 12 (ni P)), (q 2, ia Z 6 (ni kd)), (q 3, ia Z 6 (ni am)), (q 4, ia Z 6 (ni st)), (q 5, ia Z 6 (ni rg))]) jp_X3_15 dX3_keep_28 0 rfl rfl rfl (Nat.le_of_ble_eq_true rfl) rfl rfl ?_
    refine j_aload_n hJ (q := 32) dX3_keep_31 rfl 0 rfl rfl ?_
    refine j_get hJ (q := 35) jf_X3_15 dX3_keep_32 0 rfl rfl rfl ?_
    refine j_bipush hJ (q := 37) dX3_keep_35 rfl kb_16 ?_
    refine j_imul hJ (q := 38) dX3_keep_37 rfl (pk_mul _ _) ?_
    refine j_istore_n hJ (q := 39) (lvs' := [(2, .int (nI (7 * 16))), (0, .ref hp), (1, .ref h)]) dX3_keep_38 rfl (by decide) rfl rfl ?_
    refine j_aload_n hJ (q := 40) dX3_keep_39 rfl 1 rfl rfl ?_
    refine j_get hJ (q := 43) jf_X3_11 dX3_keep_40 0 rfl rfl rfl ?_
    refine j_iload_n hJ (q := 44) dX3_keep_43 rfl 0 rfl rfl ?_
    refine j_aload_n hJ (q := 45) dX3_keep_44 rfl 2 rfl rfl ?_
    refine j_get hJ (q := 48) jf_X3_25 dX3_keep_45 2 rfl rfl rfl ?_
    refine j_iastN hJ (q := 49) (ws' := [(hp, .inr (1, [.int (nI 7), .ref ap])), (ap, ia Z 128 (ni (va_up (va_cpy Ro Ro 16 0 112) (7 * 16) (A 5)))), cO h q (A 21) (A 5) (A 6) (A 7) (A 8) (A 0), (q 0, ia Z 12 (ni K)), (q 1, ia Z 12 (ni P)), (q 2, ia Z 6 (ni kd)), (q 3, ia Z 6 (ni am)), (q 4, ia Z 6 (ni st)), (q 5, ia Z 6 (ni rg))]) dX3_keep_48 1 rfl (by omega) (by decide) (ni_up _ _ _) rfl rfl ?_
    refine j_aload_n hJ (q := 50) dX3_keep_49 rfl 1 rfl rfl ?_
    refine j_get hJ (q := 53) jf_X3_11 dX3_keep_50 0 rfl rfl rfl ?_
    refine j_iload_n hJ (q := 54) dX3_keep_53 rfl 0 rfl rfl ?_
    refine j_iconst hJ (q := 55) dX3_keep_54 rfl ki_1 ?_
    refine j_iadd hJ (q := 56) dX3_keep_55 rfl (nI_add _ _) ?_
    refine j_aload_n hJ (q := 57) dX3_keep_56 rfl 2 rfl rfl ?_
    refine j_get hJ (q := 60) jf_X3_30 dX3_keep_57 2 rfl rfl rfl ?_
    refine j_iastN hJ (q := 61) (ws' := [(hp, .inr (1, [.int (nI 7), .ref ap])), (ap, ia Z 128 (ni (va_up (va_up (va_cpy Ro Ro 16 0 112) (7 * 16) (A 5)) (7 * 16 + 1) (A 6)))), cO h q (A 21) (A 5) (A 6) (A 7) (A 8) (A 0), (q 0, ia Z 12 (ni K)), (q 1, ia Z 12 (ni P)), (q 2, ia Z 6 (ni kd)), (q 3, ia Z 6 (ni am)), (q 4, ia Z 6 (ni st)), (q 5, ia Z 6 (ni rg))]) dX3_keep_60 1 rfl (by omega) (by decide) (ni_up _ _ _) rfl rfl ?_
    refine j_aload_n hJ (q := 62) dX3_keep_61 rfl 1 rfl rfl ?_
    refine j_get hJ (q := 65) jf_X3_11 dX3_keep_62 0 rfl rfl rfl ?_
    refine j_iload_n hJ (q := 66) dX3_keep_65 rfl 0 rfl rfl ?_
    refine j_iconst hJ (q := 67) dX3_keep_66 rfl ki_2 ?_
    refine j_iadd hJ (q := 68) dX3_keep_67 rfl (nI_add _ _) ?_
    refine j_aload_n hJ (q := 69) dX3_keep_68 rfl 2 rfl rfl ?_
    refine j_get hJ (q := 72) jf_X3_33 dX3_keep_69 2 rfl rfl rfl ?_
    refine j_iastN hJ (q := 73) (ws' := [(hp, .inr (1, [.int (nI 7), .ref ap])), (ap, ia Z 128 (ni (va_up (va_up (va_up (va_cpy Ro Ro 16 0 112) (7 * 16) (A 5)) (7 * 16 + 1) (A 6)) (7 * 16 + 2) (A 7)))), cO h q (A 21) (A 5) (A 6) (A 7) (A 8) (A 0), (q 0, ia Z 12 (ni K)), (q 1, ia Z 12 (ni P)), (q 2, ia Z 6 (ni kd)), (q 3, ia Z 6 (ni am)), (q 4, ia Z 6 (ni st)), (q 5, ia Z 6 (ni rg))]) dX3_keep_72 1 rfl (by omega) (by decide) (ni_up _ _ _) rfl rfl ?_
    refine j_aload_n hJ (q := 74) dX3_keep_73 rfl 1 rfl rfl ?_
    refine j_get hJ (q := 77) jf_X3_11 dX3_keep_74 0 rfl rfl rfl ?_
    refine j_iload_n hJ (q := 78) dX3_keep_77 rfl 0 rfl rfl ?_
    refine j_iconst hJ (q := 79) dX3_keep_78 rfl ki_3 ?_
    refine j_iadd hJ (q := 80) dX3_keep_79 rfl (nI_add _ _) ?_
    refine j_aload_n hJ (q := 81) dX3_keep_80 rfl 2 rfl rfl ?_
    refine j_get hJ (q := 84) jf_X3_36 dX3_keep_81 2 rfl rfl rfl ?_
    refine j_iastN hJ (q := 85) (ws' := [(hp, .inr (1, [.int (nI 7), .ref ap])), (ap, ia Z 128 (ni (va_up (va_up (va_up (va_up (va_cpy Ro Ro 16 0 112) (7 * 16) (A 5)) (7 * 16 + 1) (A 6)) (7 * 16 + 2) (A 7)) (7 * 16 + 3) (A 8)))), cO h q (A 21) (A 5) (A 6) (A 7) (A 8) (A 0), (q 0, ia Z 12 (ni K)), (q 1, ia Z 12 (ni P)), (q 2, ia Z 6 (ni kd)), (q 3, ia Z 6 (ni am)), (q 4, ia Z 6 (ni st)), (q 5, ia Z 6 (ni rg))]) dX3_keep_84 1 rfl (by omega) (by decide) (ni_up _ _ _) rfl rfl ?_
    refine j_aload_n hJ (q := 86) dX3_keep_85 rfl 2 rfl rfl ?_
    refine j_get hJ (q := 89) jf_X3_39 dX3_keep_86 2 rfl rfl rfl ?_
    refine j_iconst hJ (q := 90) dX3_keep_89 rfl ki_0 ?_
    refine j_aload_n hJ (q := 91) dX3_keep_90 rfl 1 rfl rfl ?_
    refine j_get hJ (q := 94) jf_X3_11 dX3_keep_91 0 rfl rfl rfl ?_
    refine j_iload_n hJ (q := 95) dX3_keep_94 rfl 0 rfl rfl ?_
    refine j_iconst hJ (q := 96) dX3_keep_95 rfl ki_4 ?_
    refine j_iadd hJ (q := 97) dX3_keep_96 rfl (nI_add _ _) ?_
    refine j_bipush hJ (q := 99) dX3_keep_97 rfl kb_6 ?_
    refine j_copyN hJ (q := 102) (n := 6) (sp := 0) (dp := (7 * 16 + 4)) (f := st) (g := (va_up (va_up (va_up (va_up (va_cpy Ro Ro 16 0 112) (7 * 16) (A 5)) (7 * 16 + 1) (A 6)) (7 * 16 + 2) (A 7)) (7 * 16 + 3) (A 8))) (g' := (va_cpy st (va_up (va_up (va_up (va_up (va_cpy Ro Ro 16 0 112) (7 * 16) (A 5)) (7 * 16 + 1) (A 6)) (7 * 16 + 2) (A 7)) (7 * 16 + 3) (A 8)) 0 (7 * 16 + 4) 6)) (ws' := [(hp, .inr (1, [.int (nI 7), .ref ap])), (ap, ia Z 128 (ni (va_cpy st (va_up (va_up (va_up (va_up (va_cpy Ro Ro 16 0 112) (7 * 16) (A 5)) (7 * 16 + 1) (A 6)) (7 * 16 + 2) (A 7)) (7 * 16 + 3) (A 8)) 0 (7 * 16 + 4) 6))), cO h q (A 21) (A 5) (A 6) (A 7) (A 8) (A 0), (q 0, ia Z 12 (ni K)), (q 1, ia Z 12 (ni P)), (q 2, ia Z 6 (ni kd)), (q 3, ia Z 6 (ni am)), (q 4, ia Z 6 (ni st)), (q 5, ia Z 6 (ni rg))]) tm_479 dX3_keep_99 7 1 rfl rfl (by omega) (by omega) (by decide) (by decide) (by decide) (Nat.le_of_ble_eq_true rfl) (fun j hj => rfl) rfl rfl ?_
    refine j_aload_n hJ (q := 103) dX3_keep_102 rfl 2 rfl rfl ?_
    refine j_get hJ (q := 106) jf_X3_42 dX3_keep_103 2 rfl rfl rfl ?_
    refine j_iconst hJ (q := 107) dX3_keep_106 rfl ki_0 ?_
    refine j_aload_n hJ (q := 108) dX3_keep_107 rfl 1 rfl rfl ?_
    refine j_get hJ (q := 111) jf_X3_11 dX3_keep_108 0 rfl rfl rfl ?_
    refine j_iload_n hJ (q := 112) dX3_keep_111 rfl 0 rfl rfl ?_
    refine j_iconst hJ (q := 113) dX3_keep_112 rfl ki_4 ?_
    refine j_iadd hJ (q := 114) dX3_keep_113 rfl (nI_add _ _) ?_
    refine j_bipush hJ (q := 116) dX3_keep_114 rfl kb_6 ?_
    refine j_iadd hJ (q := 117) dX3_keep_116 rfl (nI_add _ _) ?_
    refine j_bipush hJ (q := 119) dX3_keep_117 rfl kb_6 ?_
    refine j_copyN hJ (q := 122) (n := 6) (sp := 0) (dp := (7 * 16 + 4 + 6)) (f := rg) (g := (va_cpy st (va_up (va_up (va_up (va_up (va_cpy Ro Ro 16 0 112) (7 * 16) (A 5)) (7 * 16 + 1) (A 6)) (7 * 16 + 2) (A 7)) (7 * 16 + 3) (A 8)) 0 (7 * 16 + 4) 6)) (g' := (va_cpy rg (va_cpy st (va_up (va_up (va_up (va_up (va_cpy Ro Ro 16 0 112) (7 * 16) (A 5)) (7 * 16 + 1) (A 6)) (7 * 16 + 2) (A 7)) (7 * 16 + 3) (A 8)) 0 (7 * 16 + 4) 6) 0 (7 * 16 + 4 + 6) 6)) (ws' := [(hp, .inr (1, [.int (nI 7), .ref ap])), (ap, ia Z 128 (ni (va_cpy rg (va_cpy st (va_up (va_up (va_up (va_up (va_cpy Ro Ro 16 0 112) (7 * 16) (A 5)) (7 * 16 + 1) (A 6)) (7 * 16 + 2) (A 7)) (7 * 16 + 3) (A 8)) 0 (7 * 16 + 4) 6) 0 (7 * 16 + 4 + 6) 6))), cO h q (A 21) (A 5) (A 6) (A 7) (A 8) (A 0), (q 0, ia Z 12 (ni K)), (q 1, ia Z 12 (ni P)), (q 2, ia Z 6 (ni kd)), (q 3, ia Z 6 (ni am)), (q 4, ia Z 6 (ni st)), (q 5, ia Z 6 (ni rg))]) tm_479 dX3_keep_119 8 1 rfl rfl (by omega) (by omega) (by decide) (by decide) (by decide) (Nat.le_of_ble_eq_true rfl) (fun j hj => rfl) rfl rfl ?_
    refine j_aload_n hJ (q := 123) dX3_keep_122 rfl 1 rfl rfl ?_
    refine j_dup hJ (q := 124) dX3_keep_123 rfl rfl ?_
    refine j_get hJ (q := 127) jf_X3_15 dX3_keep_124 0 rfl rfl rfl ?_
    refine j_iconst hJ (q := 128) dX3_keep_127 rfl ki_1 ?_
    refine j_iadd hJ (q := 129) dX3_keep_128 rfl (nI_add _ _) ?_
    refine j_put hJ (q := 132) (ws' := [(hp, .inr (1, [.int (nI (7 + 1)), .ref ap])), (ap, ia Z 128 (ni (va_cpy rg (va_cpy st (va_up (va_up (va_up (va_up (va_cpy Ro Ro 16 0 112) (7 * 16) (A 5)) (7 * 16 + 1) (A 6)) (7 * 16 + 2) (A 7)) (7 * 16 + 3) (A 8)) 0 (7 * 16 + 4) 6) 0 (7 * 16 + 4 + 6) 6))), cO h q (A 21) (A 5) (A 6) (A 7) (A 8) (A 0), (q 0, ia Z 12 (ni K)), (q 1, ia Z 12 (ni P)), (q 2, ia Z 6 (ni kd)), (q 3, ia Z 6 (ni am)), (q 4, ia Z 6 (ni st)), (q 5, ia Z 6 (ni rg))]) jp_X3_15 dX3_keep_129 0 rfl rfl rfl (Nat.le_of_ble_eq_true rfl) rfl rfl ?_
    exact hE.2.2 _ _ _ _ _ rfl dX3_keep_132 (Nat.le_refl _) (Nat.le_refl _) (⟨(va_cpy rg (va_cpy st (va_up (va_up (va_up (va_up (va_cpy Ro Ro 16 0 112) (7 * 16) (A 5)) (7 * 16 + 1) (A 6)) (7 * 16 + 2) (A 7)) (7 * 16 + 3) (A 8)) 0 (7 * 16 + 4) 6) 0 (7 * 16 + 4 + 6) 6), rfl, by rw [svd_4, if_pos (by omega)], rP_sv2 hP hR (by omega) (by omega)⟩)

set_option maxHeartbeats 4000000 in
set_option maxRecDepth 100000 in
theorem c_X3_giveBack (Z : jZ) (h : Nat) (q : Nat → Nat) (A : Nat → Nat) (K : Nat → Nat) (P : Nat → Nat) (kd : Nat → Nat) (am : Nat → Nat) (st : Nat → Nat) (rg : Nat → Nat) (hp : Nat) (ap : Nat) (Ro : Nat → Nat) (hR : rR A K P kd am st rg) (hP : rP A Ro) (h4 : 0 < A 4 ∧ A 4 ≤ 8) (h0 : A 0 ≤ 6) (h12 : A 21 ≤ 12) : CT Z yX3_giveBack cX3_giveBack 3 (none) 1 0 0 [.ref hp, .ref h] [(hp, .inr (1, [.int (nI (A 4)), .ref ap])), (ap, ia Z 128 (ni Ro)), cO h q (A 21) (A 5) (A 6) (A 7) (A 8) (A 0), (q 0, ia Z 12 (ni K)), (q 1, ia Z 12 (ni P)), (q 2, ia Z 6 (ni kd)), (q 3, ia Z 6 (ni am)), (q 4, ia Z 6 (ni st)), (q 5, ia Z 6 (ni rg))] (fun rr ww => ∃ sz : Nat → Nat, ∃ gz : Nat → Nat, rr = none ∧ ww = [(hp, .inr (1, [.int (nI ((und A) 4)), .ref ap])), (ap, ia Z 128 (ni Ro)), cO h q ((und A) 21) ((und A) 5) ((und A) 6) ((und A) 7) ((und A) 8) ((und A) 0), (q 0, ia Z 12 (ni K)), (q 1, ia Z 12 (ni P)), (q 2, ia Z 6 (ni kd)), (q 3, ia Z 6 (ni am)), (q 4, ia Z 6 (ni sz)), (q 5, ia Z 6 (ni gz))] ∧ (rR (und A) K P kd am sz gz) ∧ rP (und A) Ro) := by
  refine CT.of RX3 false rfl (fun h => by cases h) (by decide +kernel) (Nat.le_of_ble_eq_true rfl) ?_
  intro J hJ hE
  show J 0 [(0, .ref hp), (1, .ref h)] [] [(hp, .inr (1, [.int (nI (A 4)), .ref ap])), (ap, ia Z 128 (ni Ro)), cO h q (A 21) (A 5) (A 6) (A 7) (A 8) (A 0), (q 0, ia Z 12 (ni K)), (q 1, ia Z 12 (ni P)), (q 2, ia Z 6 (ni kd)), (q 3, ia Z 6 (ni am)), (q 4, ia Z 6 (ni st)), (q 5, ia Z 6 (ni rg))] 0 0
  refine j_aload_n hJ (q := 1) dX3_giveBack_0 rfl 0 rfl rfl ?_
  refine j_get hJ (q := 4) jf_X3_15 dX3_giveBack_1 0 rfl rfl rfl ?_
  refine jz_if_gt hJ (q := 7) (tgt := 8) dX3_giveBack_4 (by decide) rfl (zI_nat (A 4)).symm (by omega) (fun c1 => ?_) (fun c1 => ?_)
  · skip
    refine j_aload_n hJ (q := 9) dX3_giveBack_8 rfl 0 rfl rfl ?_
    refine j_dup hJ (q := 10) dX3_giveBack_9 rfl rfl ?_
    refine j_get hJ (q := 13) jf_X3_15 dX3_giveBack_10 0 rfl rfl rfl ?_
    refine j_iconst hJ (q := 14) dX3_giveBack_13 rfl ki_1 ?_
    refine j_isub hJ (q := 15) dX3_giveBack_14 rfl (pk_sub (by omega)) ?_
    refine j_put hJ (q := 18) (ws' := [(hp, .inr (1, [.int (nI (A 4 - 1)), .ref ap])), (ap, ia Z 128 (ni Ro)), cO h q (A 21) (A 5) (A 6) (A 7) (A 8) (A 0), (q 0, ia Z 12 (ni K)), (q 1, ia Z 12 (ni P)), (q 2, ia Z 6 (ni kd)), (q 3, ia Z 6 (ni am)), (q 4, ia Z 6 (ni st)), (q 5, ia Z 6 (ni rg))]) jp_X3_15 dX3_giveBack_15 0 rfl rfl rfl (Nat.le_of_ble_eq_true rfl) rfl rfl ?_
    refine j_aload_n hJ (q := 19) dX3_giveBack_18 rfl 0 rfl rfl ?_
    refine j_get hJ (q := 22) jf_X3_15 dX3_giveBack_19 0 rfl rfl rfl ?_
    refine j_bipush hJ (q := 24) dX3_giveBack_22 rfl kb_16 ?_
    refine j_imul hJ (q := 25) dX3_giveBack_24 rfl (pk_mul _ _) ?_
    refine j_istore_n hJ (q := 26) (lvs' := [(2, .int (nI ((A 4 - 1) * 16))), (0, .ref hp), (1, .ref h)]) dX3_giveBack_25 rfl (by decide) rfl rfl ?_
    refine j_aload_n hJ (q := 27) dX3_giveBack_26 rfl 2 rfl rfl ?_
    refine j_aload_n hJ (q := 28) dX3_giveBack_27 rfl 1 rfl rfl ?_
    refine j_get hJ (q := 31) jf_X3_11 dX3_giveBack_28 0 rfl rfl rfl ?_
    refine j_iload_n hJ (q := 32) dX3_giveBack_31 rfl 0 rfl rfl ?_
    refine j_ialdN hJ (q := 33) (z := nI (Ro ((A 4 - 1) * 16))) dX3_giveBack_32 1 rfl (by omega) (by decide) rfl rfl ?_
    refine j_put hJ (q := 36) (ws' := [(hp, .inr (1, [.int (nI (A 4 - 1)), .ref ap])), (ap, ia Z 128 (ni Ro)), cO h q (A 21) (Ro ((A 4 - 1) * 16)) (A 6) (A 7) (A 8) (A 0), (q 0, ia Z 12 (ni K)), (q 1, ia Z 12 (ni P)), (q 2, ia Z 6 (ni kd)), (q 3, ia Z 6 (ni am)), (q 4, ia Z 6 (ni st)), (q 5, ia Z 6 (ni rg))]) jp_X3_25 dX3_giveBack_33 2 rfl rfl rfl (Nat.le_of_ble_eq_true rfl) rfl rfl ?_
    refine j_aload_n hJ (q := 37) dX3_giveBack_36 rfl 2 rfl rfl ?_
    refine j_aload_n hJ (q := 38) dX3_giveBack_37 rfl 1 rfl rfl ?_
    refine j_get hJ (q := 41) jf_X3_11 dX3_giveBack_38 0 rfl rfl rfl ?_
    refine j_iload_n hJ (q := 42) dX3_giveBack_41 rfl 0 rfl rfl ?_
    refine j_iconst hJ (q := 43) dX3_giveBack_42 rfl ki_1 ?_
    refine j_iadd hJ (q := 44) dX3_giveBack_43 rfl (nI_add _ _) ?_
    refine j_ialdN hJ (q := 45) (z := nI (Ro (((A 4 - 1) * 16) + 1))) dX3_giveBack_44 1 rfl (by omega) (by decide) rfl rfl ?_
    refine j_put hJ (q := 48) (ws' := [(hp, .inr (1, [.int (nI (A 4 - 1)), .ref ap])), (ap, ia Z 128 (ni Ro)), cO h q (A 21) (Ro ((A 4 - 1) * 16)) (Ro (((A 4 - 1) * 16) + 1)) (A 7) (A 8) (A 0), (q 0, ia Z 12 (ni K)), (q 1, ia Z 12 (ni P)), (q 2, ia Z 6 (ni kd)), (q 3, ia Z 6 (ni am)), (q 4, ia Z 6 (ni st)), (q 5, ia Z 6 (ni rg))]) jp_X3_30 dX3_giveBack_45 2 rfl rfl rfl (Nat.le_of_ble_eq_true rfl) rfl rfl ?_
    refine j_aload_n hJ (q := 49) dX3_giveBack_48 rfl 2 rfl rfl ?_
    refine j_aload_n hJ (q := 50) dX3_giveBack_49 rfl 1 rfl rfl ?_
    refine j_get hJ (q := 53) jf_X3_11 dX3_giveBack_50 0 rfl rfl rfl ?_
    refine j_iload_n hJ (q := 54) dX3_giveBack_53 rfl 0 rfl rfl ?_
    refine j_iconst hJ (q := 55) dX3_giveBack_54 rfl ki_2 ?_
    refine j_iadd hJ (q := 56) dX3_giveBack_55 rfl (nI_add _ _) ?_
    refine j_ialdN hJ (q := 57) (z := nI (Ro (((A 4 - 1) * 16) + 2))) dX3_giveBack_56 1 rfl (by omega) (by decide) rfl rfl ?_
    refine j_put hJ (q := 60) (ws' := [(hp, .inr (1, [.int (nI (A 4 - 1)), .ref ap])), (ap, ia Z 128 (ni Ro)), cO h q (A 21) (Ro ((A 4 - 1) * 16)) (Ro (((A 4 - 1) * 16) + 1)) (Ro (((A 4 - 1) * 16) + 2)) (A 8) (A 0), (q 0, ia Z 12 (ni K)), (q 1, ia Z 12 (ni P)), (q 2, ia Z 6 (ni kd)), (q 3, ia Z 6 (ni am)), (q 4, ia Z 6 (ni st)), (q 5, ia Z 6 (ni rg))]) jp_X3_33 dX3_giveBack_57 2 rfl rfl rfl (Nat.le_of_ble_eq_true rfl) rfl rfl ?_
    refine j_aload_n hJ (q := 61) dX3_giveBack_60 rfl 2 rfl rfl ?_
    refine j_aload_n hJ (q := 62) dX3_giveBack_61 rfl 1 rfl rfl ?_
    refine j_get hJ (q := 65) jf_X3_11 dX3_giveBack_62 0 rfl rfl rfl ?_
    refine j_iload_n hJ (q := 66) dX3_giveBack_65 rfl 0 rfl rfl ?_
    refine j_iconst hJ (q := 67) dX3_giveBack_66 rfl ki_3 ?_
    refine j_iadd hJ (q := 68) dX3_giveBack_67 rfl (nI_add _ _) ?_
    refine j_ialdN hJ (q := 69) (z := nI (Ro (((A 4 - 1) * 16) + 3))) dX3_giveBack_68 1 rfl (by omega) (by decide) rfl rfl ?_
    refine j_put hJ (q := 72) (ws' := [(hp, .inr (1, [.int (nI (A 4 - 1)), .ref ap])), (ap, ia Z 128 (ni Ro)), cO h q (A 21) (Ro ((A 4 - 1) * 16)) (Ro (((A 4 - 1) * 16) + 1)) (Ro (((A 4 - 1) * 16) + 2)) (Ro (((A 4 - 1) * 16) + 3)) (A 0), (q 0, ia Z 12 (ni K)), (q 1, ia Z 12 (ni P)), (q 2, ia Z 6 (ni kd)), (q 3, ia Z 6 (ni am)), (q 4, ia Z 6 (ni st)), (q 5, ia Z 6 (ni rg))]) jp_X3_36 dX3_giveBack_69 2 rfl rfl rfl (Nat.le_of_ble_eq_true rfl) rfl rfl ?_
    refine j_aload_n hJ (q := 73) dX3_giveBack_72 rfl 1 rfl rfl ?_
    refine j_get hJ (q := 76) jf_X3_11 dX3_giveBack_73 0 rfl rfl rfl ?_
    refine j_iload_n hJ (q := 77) dX3_giveBack_76 rfl 0 rfl rfl ?_
    refine j_iconst hJ (q := 78) dX3_giveBack_77 rfl ki_4 ?_
    refine j_iadd hJ (q := 79) dX3_giveBack_78 rfl (nI_add _ _) ?_
    refine j_aload_n hJ (q := 80) dX3_giveBack_79 rfl 2 rfl rfl ?_
    refine j_get hJ (q := 83) jf_X3_39 dX3_giveBack_80 2 rfl rfl rfl ?_
    refine j_iconst hJ (q := 84) dX3_giveBack_83 rfl ki_0 ?_
    refine j_bipush hJ (q := 86) dX3_giveBack_84 rfl kb_6 ?_
    refine j_copyN hJ (q := 89) (n := 6) (sp := (((A 4 - 1) * 16) + 4)) (dp := 0) (f := Ro) (g := st) (g' := (va_cpy Ro st (((A 4 - 1) * 16) + 4) 0 6)) (ws' := [(hp, .inr (1, [.int (nI (A 4 - 1)), .ref ap])), (ap, ia Z 128 (ni Ro)), cO h q (A 21) (Ro ((A 4 - 1) * 16)) (Ro (((A 4 - 1) * 16) + 1)) (Ro (((A 4 - 1) * 16) + 2)) (Ro (((A 4 - 1) * 16) + 3)) (A 0), (q 0, ia Z 12 (ni K)), (q 1, ia Z 12 (ni P)), (q 2, ia Z 6 (ni kd)), (q 3, ia Z 6 (ni am)), (q 4, ia Z 6 (ni (va_cpy Ro st (((A 4 - 1) * 16) + 4) 0 6))), (q 5, ia Z 6 (ni rg))]) tm_479 dX3_giveBack_86 1 7 rfl rfl (by omega) (by omega) (by decide) (by decide) (by decide) (Nat.le_of_ble_eq_true rfl) (fun j hj => rfl) rfl rfl ?_
    refine j_aload_n hJ (q := 90) dX3_giveBack_89 rfl 1 rfl rfl ?_
    refine j_get hJ (q := 93) jf_X3_11 dX3_giveBack_90 0 rfl rfl rfl ?_
    refine j_iload_n hJ (q := 94) dX3_giveBack_93 rfl 0 rfl rfl ?_
    refine j_iconst hJ (q := 95) dX3_giveBack_94 rfl ki_4 ?_
    refine j_iadd hJ (q := 96) dX3_giveBack_95 rfl (nI_add _ _) ?_
    refine j_bipush hJ (q := 98) dX3_giveBack_96 rfl kb_6 ?_
    refine j_iadd hJ (q := 99) dX3_giveBack_98 rfl (nI_add _ _) ?_
    refine j_aload_n hJ (q := 100) dX3_giveBack_99 rfl 2 rfl rfl ?_
    refine j_get hJ (q := 103) jf_X3_42 dX3_giveBack_100 2 rfl rfl rfl ?_
    refine j_iconst hJ (q := 104) dX3_giveBack_103 rfl ki_0 ?_
    refine j_bipush hJ (q := 106) dX3_giveBack_104 rfl kb_6 ?_
    refine j_copyN hJ (q := 109) (n := 6) (sp := ((((A 4 - 1) * 16) + 4) + 6)) (dp := 0) (f := Ro) (g := rg) (g' := (va_cpy Ro rg ((((A 4 - 1) * 16) + 4) + 6) 0 6)) (ws' := [(hp, .inr (1, [.int (nI (A 4 - 1)), .ref ap])), (ap, ia Z 128 (ni Ro)), cO h q (A 21) (Ro ((A 4 - 1) * 16)) (Ro (((A 4 - 1) * 16) + 1)) (Ro (((A 4 - 1) * 16) + 2)) (Ro (((A 4 - 1) * 16) + 3)) (A 0), (q 0, ia Z 12 (ni K)), (q 1, ia Z 12 (ni P)), (q 2, ia Z 6 (ni kd)), (q 3, ia Z 6 (ni am)), (q 4, ia Z 6 (ni (va_cpy Ro st (((A 4 - 1) * 16) + 4) 0 6))), (q 5, ia Z 6 (ni (va_cpy Ro rg ((((A 4 - 1) * 16) + 4) + 6) 0 6)))]) tm_479 dX3_giveBack_106 1 8 rfl rfl (by omega) (by omega) (by decide) (by decide) (by decide) (Nat.le_of_ble_eq_true rfl) (fun j hj => rfl) rfl rfl ?_
    have e5 := rP_at hP h4.1 (t := 0) (by decide) (j := (A 4 - 1) * 16) rfl
    have e6 := rP_at hP h4.1 (t := 1) (by decide) (j := (A 4 - 1) * 16 + 1) rfl
    have e7 := rP_at hP h4.1 (t := 2) (by decide) (j := (A 4 - 1) * 16 + 2) rfl
    have e8 := rP_at hP h4.1 (t := 3) (by decide) (j := (A 4 - 1) * 16 + 3) rfl
    exact hE.2.2 _ _ _ _ _ rfl dX3_giveBack_109 (Nat.le_refl _) (Nat.le_refl _) (⟨(va_cpy Ro st (((A 4 - 1) * 16) + 4) 0 6), (va_cpy Ro rg ((((A 4 - 1) * 16) + 4) + 6) 0 6), rfl, by rw [e5, e6, e7, e8, und_4]; rfl, rR_und hP hR h4.1 h0 h12, rP_und hP h0⟩)
  · skip
    exfalso; omega

set_option maxHeartbeats 4000000 in
set_option maxRecDepth 100000 in
theorem c_X3_copyOf (Z : jZ) (hp : Nat) (ap : Nat) (Ro : Nat → Nat) (pz : Nat) (hp2 : Nat) (ap2 : Nat) (Ro2 : Nat → Nat) (pz2 : Nat)  : CT Z yX3_copyOf cX3_copyOf 2 (none) 1 0 0 [.ref hp, .ref hp2] [(hp, .inr (1, [.int (nI pz), .ref ap])), (ap, ia Z 128 (ni Ro)), (hp2, .inr (1, [.int (nI pz2), .ref ap2])), (ap2, ia Z 128 (ni Ro2))] (fun rr ww => rr = none ∧ ww = [(hp, .inr (1, [.int (nI pz2), .ref ap])), (ap, ia Z 128 (ni Ro2)), (hp2, .inr (1, [.int (nI pz2), .ref ap2])), (ap2, ia Z 128 (ni Ro2))]) := by
  refine CT.of RX3 false rfl (fun h => by cases h) (by decide +kernel) (Nat.le_of_ble_eq_true rfl) ?_
  intro J hJ hE
  show J 0 [(0, .ref hp), (1, .ref hp2)] [] [(hp, .inr (1, [.int (nI pz), .ref ap])), (ap, ia Z 128 (ni Ro)), (hp2, .inr (1, [.int (nI pz2), .ref ap2])), (ap2, ia Z 128 (ni Ro2))] 0 0
  refine j_aload_n hJ (q := 1) dX3_copyOf_0 rfl 0 rfl rfl ?_
  refine j_aload_n hJ (q := 2) dX3_copyOf_1 rfl 1 rfl rfl ?_
  refine j_get hJ (q := 5) jf_X3_15 dX3_copyOf_2 2 rfl rfl rfl ?_
  refine j_put hJ (q := 8) (ws' := [(hp, .inr (1, [.int (nI pz2), .ref ap])), (ap, ia Z 128 (ni Ro)), (hp2, .inr (1, [.int (nI pz2), .ref ap2])), (ap2, ia Z 128 (ni Ro2))]) jp_X3_15 dX3_copyOf_5 0 rfl rfl rfl (Nat.le_of_ble_eq_true rfl) rfl rfl ?_
  refine j_aload_n hJ (q := 9) dX3_copyOf_8 rfl 1 rfl rfl ?_
  refine j_get hJ (q := 12) jf_X3_11 dX3_copyOf_9 2 rfl rfl rfl ?_
  refine j_iconst hJ (q := 13) dX3_copyOf_12 rfl ki_0 ?_
  refine j_aload_n hJ (q := 14) dX3_copyOf_13 rfl 0 rfl rfl ?_
  refine j_get hJ (q := 17) jf_X3_11 dX3_copyOf_14 0 rfl rfl rfl ?_
  refine j_iconst hJ (q := 18) dX3_copyOf_17 rfl ki_0 ?_
  refine j_sipush hJ (q := 21) dX3_copyOf_18 rfl ks_128 ?_
  refine j_copyN hJ (q := 24) (n := 128) (sp := 0) (dp := 0) (f := Ro2) (g := Ro) (g' := Ro2) (ws' := [(hp, .inr (1, [.int (nI pz2), .ref ap])), (ap, ia Z 128 (ni Ro2)), (hp2, .inr (1, [.int (nI pz2), .ref ap2])), (ap2, ia Z 128 (ni Ro2))]) tm_479 dX3_copyOf_21 3 1 rfl rfl (by decide) (by decide) (by decide) (by decide) (by decide) (Nat.le_of_ble_eq_true rfl) (fun j hj => cpy_all hj) rfl rfl ?_
  exact hE.2.2 _ _ _ _ _ rfl dX3_copyOf_24 (Nat.le_refl _) (Nat.le_refl _) (⟨rfl, rfl⟩)

set_option maxHeartbeats 4000000 in
set_option maxRecDepth 100000 in
theorem c_X5_isFull (Z : jZ) (h : Nat) (a : Nat) (sz : Nat) (w : Nat) (mo : Nat) (C : Nat → Nat) (h1 : sz < 1000) (h2 : mo < 1000) : CR Z yX5_isFull cX5_isFull 1 ((some FieldType.boolean)) 1 [.ref h] [(h, .inr (3, [.int (nI sz), .int (nI w), .int (nI mo), .ref a])), (a, ia Z 30 (ni C))] (fun rr => rr = some (.int (bI (decide (mo ≤ sz))))) := by
  refine CR.of RX5 rfl (by decide +kernel) (Nat.le_of_ble_eq_true rfl) ?_
  intro J hJ hE
  show J 0 [(0, .ref h)] [] [(h, .inr (3, [.int (nI sz), .int (nI w), .int (nI mo), .ref a])), (a, ia Z 30 (ni C))] 0 0
  refine j_aload_n hJ (q := 1) dX5_isFull_0 rfl 0 rfl rfl ?_
  refine j_get hJ (q := 4) jf_X5_22 dX5_isFull_1 0 rfl rfl rfl ?_
  refine j_aload_n hJ (q := 5) dX5_isFull_4 rfl 0 rfl rfl ?_
  refine j_get hJ (q := 8) jf_X5_15 dX5_isFull_5 0 rfl rfl rfl ?_
  refine jn_icmp_lt hJ (q := 11) (tgt := 15) dX5_isFull_8 (by decide) rfl (by omega) (by omega) (fun c1 => ?_) (fun c1 => ?_)
  · skip
    refine j_iconst hJ (q := 16) dX5_isFull_15 rfl ki_0 ?_
    exact hE.1 _ _ _ _ _ _ _ rfl rfl dX5_isFull_16 (Nat.le_refl _) (Nat.le_refl _) (congrArg (fun z => some (Value.int z)) (bI_f (by omega)))
  · skip
    refine j_iconst hJ (q := 12) dX5_isFull_11 rfl ki_1 ?_
    refine j_goto hJ (q := 16) dX5_isFull_12 (by decide) ?_
    exact hE.1 _ _ _ _ _ _ _ rfl rfl dX5_isFull_16 (Nat.le_refl _) (Nat.le_refl _) (congrArg (fun z => some (Value.int z)) (bI_t (by omega)))

set_option maxHeartbeats 4000000 in
set_option maxRecDepth 100000 in
theorem c_X5_add (Z : jZ) (h : Nat) (a : Nat) (sz : Nat) (w : Nat) (mo : Nat) (C : Nat → Nat) (x1 : Nat) (x2 : Nat) (x3 : Nat) (x4 : Nat) (x5 : Nat) (h1 : sz < mo) (h2 : mo ≤ 6) : CT Z yX5_add cX5_add 7 (none) 1 0 0 [.ref h, .int (nI x1), .int (nI x2), .int (nI x3), .int (nI x4), .int (nI x5)] [(h, .inr (3, [.int (nI sz), .int (nI w), .int (nI mo), .ref a])), (a, ia Z 30 (ni C))] (fun rr ww => rr = none ∧ ww = [(h, .inr (3, [.int (nI (sz + 1)), .int (nI w), .int (nI mo), .ref a])), (a, ia Z 30 (ni (lay5 C (sz * 5) x1 x2 x3 x4 x5)))]) := by
  refine CT.of RX5 false rfl (fun h => by cases h) (by decide +kernel) (Nat.le_of_ble_eq_true rfl) ?_
  intro J hJ hE
  show J 0 [(0, .ref h), (1, .int (nI x1)), (2, .int (nI x2)), (3, .int (nI x3)), (4, .int (nI x4)), (5, .int (nI x5))] [] [(h, .inr (3, [.int (nI sz), .int (nI w), .int (nI mo), .ref a])), (a, ia Z 30 (ni C))] 0 0
  refine j_aload_n hJ (q := 1) dX5_add_0 rfl 0 rfl rfl ?_
  refine j_get hJ (q := 4) jf_X5_22 dX5_add_1 0 rfl rfl rfl ?_
  refine j_aload_n hJ (q := 5) dX5_add_4 rfl 0 rfl rfl ?_
  refine j_get hJ (q := 8) jf_X5_15 dX5_add_5 0 rfl rfl rfl ?_
  refine jn_icmp_ge hJ (q := 11) (tgt := 79) dX5_add_8 (by decide) rfl (by omega) (by omega) (fun c1 => ?_) (fun c1 => ?_)
  · skip
    exfalso; omega
  · skip
    refine j_aload_n hJ (q := 12) dX5_add_11 rfl 0 rfl rfl ?_
    refine j_get hJ (q := 15) jf_X5_22 dX5_add_12 0 rfl rfl rfl ?_
    refine j_iconst hJ (q := 16) dX5_add_15 rfl ki_5 ?_
    refine j_imul hJ (q := 17) dX5_add_16 rfl (pk_mul _ _) ?_
    refine j_istore hJ (q := 19) (lvs' := [(6, .int (nI (sz * 5))), (0, .ref h), (1, .int (nI x1)), (2, .int (nI x2)), (3, .int (nI x3)), (4, .int (nI x4)), (5, .int (nI x5))]) dX5_add_17 (by decide) rfl rfl ?_
    refine j_aload_n hJ (q := 20) dX5_add_19 rfl 1 rfl rfl ?_
    refine j_get hJ (q := 23) jf_X5_18 dX5_add_20 0 rfl rfl rfl ?_
    refine j_iload hJ (q := 25) dX5_add_23 0 rfl rfl ?_
    refine j_iload_n hJ (q := 26) dX5_add_25 rfl 2 rfl rfl ?_
    refine j_iastN hJ (q := 27) (ws' := [(h, .inr (3, [.int (nI sz), .int (nI w), .int (nI mo), .ref a])), (a, ia Z 30 (ni (va_up C (sz * 5) x1)))]) dX5_add_26 1 rfl (by omega) (by decide) (ni_up _ _ _) rfl rfl ?_
    refine j_aload_n hJ (q := 28) dX5_add_27 rfl 1 rfl rfl ?_
    refine j_get hJ (q := 31) jf_X5_18 dX5_add_28 0 rfl rfl rfl ?_
    refine j_iload hJ (q := 33) dX5_add_31 0 rfl rfl ?_
    refine j_iconst hJ (q := 34) dX5_add_33 rfl ki_1 ?_
    refine j_iadd hJ (q := 35) dX5_add_34 rfl (nI_add _ _) ?_
    refine j_iload_n hJ (q := 36) dX5_add_35 rfl 3 rfl rfl ?_
    refine j_iastN hJ (q := 37) (ws' := [(h, .inr (3, [.int (nI sz), .int (nI w), .int (nI mo), .ref a])), (a, ia Z 30 (ni (va_up (va_up C (sz * 5) x1) (sz * 5 + 1) x2)))]) dX5_add_36 1 rfl (by omega) (by decide) (ni_up _ _ _) rfl rfl ?_
    refine j_aload_n hJ (q := 38) dX5_add_37 rfl 1 rfl rfl ?_
    refine j_get hJ (q := 41) jf_X5_18 dX5_add_38 0 rfl rfl rfl ?_
    refine j_iload hJ (q := 43) dX5_add_41 0 rfl rfl ?_
    refine j_iconst hJ (q := 44) dX5_add_43 rfl ki_2 ?_
    refine j_iadd hJ (q := 45) dX5_add_44 rfl (nI_add _ _) ?_
    refine j_iload_n hJ (q := 46) dX5_add_45 rfl 4 rfl rfl ?_
    refine j_iastN hJ (q := 47) (ws' := [(h, .inr (3, [.int (nI sz), .int (nI w), .int (nI mo), .ref a])), (a, ia Z 30 (ni (va_up (va_up (va_up C (sz * 5) x1) (sz * 5 + 1) x2) (sz * 5 + 2) x3)))]) dX5_add_46 1 rfl (by omega) (by decide) (ni_up _ _ _) rfl rfl ?_
    refine j_aload_n hJ (q := 48) dX5_add_47 rfl 1 rfl rfl ?_
    refine j_get hJ (q := 51) jf_X5_18 dX5_add_48 0 rfl rfl rfl ?_
    refine j_iload hJ (q := 53) dX5_add_51 0 rfl rfl ?_
    refine j_iconst hJ (q := 54) dX5_add_53 rfl ki_3 ?_
    refine j_iadd hJ (q := 55) dX5_add_54 rfl (nI_add _ _) ?_
    refine j_iload hJ (q := 57) dX5_add_55 5 rfl rfl ?_
    refine j_iastN hJ (q := 58) (ws' := [(h, .inr (3, [.int (nI sz), .int (nI w), .int (nI mo), .ref a])), (a, ia Z 30 (ni (va_up (va_up (va_up (va_up C (sz * 5) x1) (sz * 5 + 1) x2) (sz * 5 + 2) x3) (sz * 5 + 3) x4)))]) dX5_add_57 1 rfl (by omega) (by decide) (ni_up _ _ _) rfl rfl ?_
    refine j_aload_n hJ (q := 59) dX5_add_58 rfl 1 rfl rfl ?_
    refine j_get hJ (q := 62) jf_X5_18 dX5_add_59 0 rfl rfl rfl ?_
    refine j_iload hJ (q := 64) dX5_add_62 0 rfl rfl ?_
    refine j_iconst hJ (q := 65) dX5_add_64 rfl ki_4 ?_
    refine j_iadd hJ (q := 66) dX5_add_65 rfl (nI_add _ _) ?_
    refine j_iload hJ (q := 68) dX5_add_66 6 rfl rfl ?_
    refine j_iastN hJ (q := 69) (ws' := [(h, .inr (3, [.int (nI sz), .int (nI w), .int (nI mo), .ref a])), (a, ia Z 30 (ni (va_up (va_up (va_up (va_up (va_up C (sz * 5) x1) (sz * 5 + 1) x2) (sz * 5 + 2) x3) (sz * 5 + 3) x4) (sz * 5 + 4) x5)))]) dX5_add_68 1 rfl (by omega) (by decide) (ni_up _ _ _) rfl rfl ?_
    refine j_aload_n hJ (q := 70) dX5_add_69 rfl 1 rfl rfl ?_
    refine j_dup hJ (q := 71) dX5_add_70 rfl rfl ?_
    refine j_get hJ (q := 74) jf_X5_22 dX5_add_71 0 rfl rfl rfl ?_
    refine j_iconst hJ (q := 75) dX5_add_74 rfl ki_1 ?_
    refine j_iadd hJ (q := 76) dX5_add_75 rfl (nI_add _ _) ?_
    refine j_put hJ (q := 79) (ws' := [(h, .inr (3, [.int (nI (sz + 1)), .int (nI w), .int (nI mo), .ref a])), (a, ia Z 30 (ni (va_up (va_up (va_up (va_up (va_up C (sz * 5) x1) (sz * 5 + 1) x2) (sz * 5 + 2) x3) (sz * 5 + 3) x4) (sz * 5 + 4) x5)))]) jp_X5_22 dX5_add_76 0 rfl rfl rfl (Nat.le_of_ble_eq_true rfl) rfl rfl ?_
    exact hE.2.2 _ _ _ _ _ rfl dX5_add_79 (Nat.le_refl _) (Nat.le_refl _) (⟨rfl, rfl⟩)

set_option maxHeartbeats 4000000 in
set_option maxRecDepth 100000 in
theorem c_X5_at (Z : jZ) (h : Nat) (a : Nat) (sz : Nat) (w : Nat) (mo : Nat) (C : Nat → Nat) (rw : Nat) (cl : Nat) (h1 : rw < 6) (h2 : cl < 5) : CR Z yX5_at cX5_at 3 ((some FieldType.int)) 1 [.ref h, .int (nI rw), .int (nI cl)] [(h, .inr (3, [.int (nI sz), .int (nI w), .int (nI mo), .ref a])), (a, ia Z 30 (ni C))] (fun rr => rr = some (.int (nI (C (rw * 5 + cl))))) := by
  refine CR.of RX5 rfl (by decide +kernel) (Nat.le_of_ble_eq_true rfl) ?_
  intro J hJ hE
  show J 0 [(0, .ref h), (1, .int (nI rw)), (2, .int (nI cl))] [] [(h, .inr (3, [.int (nI sz), .int (nI w), .int (nI mo), .ref a])), (a, ia Z 30 (ni C))] 0 0
  refine j_aload_n hJ (q := 1) dX5_at_0 rfl 0 rfl rfl ?_
  refine j_get hJ (q := 4) jf_X5_18 dX5_at_1 0 rfl rfl rfl ?_
  refine j_iload_n hJ (q := 5) dX5_at_4 rfl 1 rfl rfl ?_
  refine j_iconst hJ (q := 6) dX5_at_5 rfl ki_5 ?_
  refine j_imul hJ (q := 7) dX5_at_6 rfl (pk_mul _ _) ?_
  refine j_iload_n hJ (q := 8) dX5_at_7 rfl 2 rfl rfl ?_
  refine j_iadd hJ (q := 9) dX5_at_8 rfl (nI_add _ _) ?_
  refine j_ialdN hJ (q := 10) (z := nI (C (rw * 5 + cl))) dX5_at_9 1 rfl (by omega) (by decide) rfl rfl ?_
  exact hE.1 _ _ _ _ _ _ _ rfl rfl dX5_at_10 (Nat.le_refl _) (Nat.le_refl _) (congrArg (fun z => some (Value.int (nI z))) (by rfl))

set_option maxHeartbeats 4000000 in
set_option maxRecDepth 100000 in
theorem c_X5_drop (Z : jZ) (h : Nat) (a : Nat) (sz : Nat) (w : Nat) (mo : Nat) (C : Nat → Nat)  : CT Z yX5_drop cX5_drop 2 ((some FieldType.int)) 1 0 0 [.ref h] [(h, .inr (3, [.int (nI sz), .int (nI w), .int (nI mo), .ref a])), (a, ia Z 30 (ni C))] (fun rr ww => rr = some (.int (nI sz)) ∧ ww = [(h, .inr (3, [.int (nI 0), .int (nI w), .int (nI mo), .ref a])), (a, ia Z 30 (ni C))]) := by
  refine CT.of RX5 false rfl (fun h => by cases h) (by decide +kernel) (Nat.le_of_ble_eq_true rfl) ?_
  intro J hJ hE
  show J 0 [(0, .ref h)] [] [(h, .inr (3, [.int (nI sz), .int (nI w), .int (nI mo), .ref a])), (a, ia Z 30 (ni C))] 0 0
  refine j_aload_n hJ (q := 1) dX5_drop_0 rfl 0 rfl rfl ?_
  refine j_get hJ (q := 4) jf_X5_22 dX5_drop_1 0 rfl rfl rfl ?_
  refine j_istore_n hJ (q := 5) (lvs' := [(1, .int (nI sz)), (0, .ref h)]) dX5_drop_4 rfl (by decide) rfl rfl ?_
  refine j_aload_n hJ (q := 6) dX5_drop_5 rfl 1 rfl rfl ?_
  refine j_iconst hJ (q := 7) dX5_drop_6 rfl ki_0 ?_
  refine j_put hJ (q := 10) (ws' := [(h, .inr (3, [.int (nI 0), .int (nI w), .int (nI mo), .ref a])), (a, ia Z 30 (ni C))]) jp_X5_22 dX5_drop_7 0 rfl rfl rfl (Nat.le_of_ble_eq_true rfl) rfl rfl ?_
  refine j_iload_n hJ (q := 11) dX5_drop_10 rfl 0 rfl rfl ?_
  exact hE.1 _ _ _ _ _ _ _ rfl rfl dX5_drop_11 (Nat.le_refl _) (Nat.le_refl _) (⟨congrArg (fun z => some (Value.int (nI z))) (by rfl), rfl⟩)

set_option maxHeartbeats 4000000 in
set_option maxRecDepth 100000 in
theorem c_X5_copyOf (Z : jZ) (h : Nat) (a : Nat) (sz : Nat) (w : Nat) (mo : Nat) (C : Nat → Nat) (h2 : Nat) (a2 : Nat) (sz2 : Nat) (w2 : Nat) (mo2 : Nat) (C2 : Nat → Nat)  : CT Z yX5_copyOf cX5_copyOf 2 (none) 1 0 0 [.ref h, .ref h2] [(h, .inr (3, [.int (nI sz), .int (nI w), .int (nI mo), .ref a])), (a, ia Z 30 (ni C)), (h2, .inr (3, [.int (nI sz2), .int (nI w2), .int (nI mo2), .ref a2])), (a2, ia Z 30 (ni C2))] (fun rr ww => rr = none ∧ ww = [(h, .inr (3, [.int (nI sz2), .int (nI w), .int (nI mo), .ref a])), (a, ia Z 30 (ni C2)), (h2, .inr (3, [.int (nI sz2), .int (nI w2), .int (nI mo2), .ref a2])), (a2, ia Z 30 (ni C2))]) := by
  refine CT.of RX5 false rfl (fun h => by cases h) (by decide +kernel) (Nat.le_of_ble_eq_true rfl) ?_
  intro J hJ hE
  show J 0 [(0, .ref h), (1, .ref h2)] [] [(h, .inr (3, [.int (nI sz), .int (nI w), .int (nI mo), .ref a])), (a, ia Z 30 (ni C)), (h2, .inr (3, [.int (nI sz2), .int (nI w2), .int (nI mo2), .ref a2])), (a2, ia Z 30 (ni C2))] 0 0
  refine j_aload_n hJ (q := 1) dX5_copyOf_0 rfl 0 rfl rfl ?_
  refine j_aload_n hJ (q := 2) dX5_copyOf_1 rfl 1 rfl rfl ?_
  refine j_get hJ (q := 5) jf_X5_22 dX5_copyOf_2 2 rfl rfl rfl ?_
  refine j_put hJ (q := 8) (ws' := [(h, .inr (3, [.int (nI sz2), .int (nI w), .int (nI mo), .ref a])), (a, ia Z 30 (ni C)), (h2, .inr (3, [.int (nI sz2), .int (nI w2), .int (nI mo2), .ref a2])), (a2, ia Z 30 (ni C2))]) jp_X5_22 dX5_copyOf_5 0 rfl rfl rfl (Nat.le_of_ble_eq_true rfl) rfl rfl ?_
  refine j_aload_n hJ (q := 9) dX5_copyOf_8 rfl 1 rfl rfl ?_
  refine j_get hJ (q := 12) jf_X5_18 dX5_copyOf_9 2 rfl rfl rfl ?_
  refine j_iconst hJ (q := 13) dX5_copyOf_12 rfl ki_0 ?_
  refine j_aload_n hJ (q := 14) dX5_copyOf_13 rfl 0 rfl rfl ?_
  refine j_get hJ (q := 17) jf_X5_18 dX5_copyOf_14 0 rfl rfl rfl ?_
  refine j_iconst hJ (q := 18) dX5_copyOf_17 rfl ki_0 ?_
  refine j_bipush hJ (q := 20) dX5_copyOf_18 rfl kb_30 ?_
  refine j_copyN hJ (q := 23) (n := 30) (sp := 0) (dp := 0) (f := C2) (g := C) (g' := C2) (ws' := [(h, .inr (3, [.int (nI sz2), .int (nI w), .int (nI mo), .ref a])), (a, ia Z 30 (ni C2)), (h2, .inr (3, [.int (nI sz2), .int (nI w2), .int (nI mo2), .ref a2])), (a2, ia Z 30 (ni C2))]) tm_735 dX5_copyOf_20 3 1 rfl rfl (by decide) (by decide) (by decide) (by decide) (by decide) (Nat.le_of_ble_eq_true rfl) (fun j hj => cpy_all hj) rfl rfl ?_
  exact hE.2.2 _ _ _ _ _ rfl dX5_copyOf_23 (Nat.le_refl _) (Nat.le_refl _) (⟨rfl, rfl⟩)

set_option maxHeartbeats 4000000 in
set_option maxRecDepth 100000 in
theorem c_X5_mixInto (Z : jZ) (h : Nat) (a : Nat) (sz : Nat) (w : Nat) (mo : Nat) (C : Nat → Nat) (A : Nat → Nat) (fr : Nat) (x : Int) (hC : rC A C fr w sz) (h1 : sz ≤ 6) (h2 : w ≤ 5) (hb : ∀ j, A j < 100000) : CR Z yX5_mixInto cX5_mixInto 7 ((some FieldType.long)) 2 [.ref h, .long (zL x)] [(h, .inr (3, [.int (nI sz), .int (nI w), .int (nI mo), .ref a])), (a, ia Z 30 (ni C))] (fun rr => rr = some (.long (zL (smN A fr x (w * sz))))) := by
  refine CR.of RX5 rfl (by decide +kernel) (Nat.le_of_ble_eq_true rfl) ?_
  intro J hJ hE
  show J 0 [(0, .ref h), (1, .long (zL x))] [] [(h, .inr (3, [.int (nI sz), .int (nI w), .int (nI mo), .ref a])), (a, ia Z 30 (ni C))] 0 0
  refine j_lload_n hJ (q := 1) dX5_mixInto_0 rfl 1 rfl rfl ?_
  refine j_lstore_n hJ (q := 2) (lvs' := [(3, .long (zL x)), (0, .ref h), (1, .long (zL x))]) dX5_mixInto_1 rfl (by decide) rfl rfl ?_
  refine j_iconst hJ (q := 3) dX5_mixInto_2 rfl ki_0 ?_
  refine j_istore hJ (q := 5) (lvs' := [(5, .int (nI 0)), (3, .long (zL x)), (0, .ref h), (1, .long (zL x))]) dX5_mixInto_3 (by decide) rfl rfl ?_
  have L_5 : ∀ (fu_5 : Nat) (d1 : Int) (rw : Nat), sz - rw < fu_5 → (rw ≤ sz) → (d1 = smN A fr x (w * rw)) → J 5 [(0, .ref h), (1, .long (zL x)), (3, .long (zL d1)), (5, .int (nI rw))] [] [(h, .inr (3, [.int (nI sz), .int (nI w), .int (nI mo), .ref a])), (a, ia Z 30 (ni C))] 0 0 := by
    intro fu_5
    induction fu_5 with
    | zero => intro d1 rw hm; exact absurd hm (Nat.not_lt_zero _)
    | succ fu_5 ih_5 =>
      intro d1 rw hm_5 hr hd1
      refine j_iload hJ (q := 7) dX5_mixInto_5 3 rfl rfl ?_
      refine j_aload_n hJ (q := 8) dX5_mixInto_7 rfl 0 rfl rfl ?_
      refine j_get hJ (q := 11) jf_X5_22 dX5_mixInto_8 0 rfl rfl rfl ?_
      refine jn_icmp_ge hJ (q := 14) (tgt := 54) dX5_mixInto_11 (by decide) rfl (by omega) (by omega) (fun c1 => ?_) (fun c1 => ?_)
      · skip
        refine j_lload_n hJ (q := 55) dX5_mixInto_54 rfl 2 rfl rfl ?_
        exact hE.2.1 _ _ _ _ _ _ rfl dX5_mixInto_55 (Nat.le_refl _) (Nat.le_refl _) (congrArg (fun z => some (Value.long (zL z))) (by rw [hd1, show rw = sz by omega]))
      · skip
        refine j_iconst hJ (q := 15) dX5_mixInto_14 rfl ki_0 ?_
        refine j_istore hJ (q := 17) (lvs' := [(6, .int (nI 0)), (0, .ref h), (1, .long (zL x)), (3, .long (zL d1)), (5, .int (nI rw))]) dX5_mixInto_15 (by decide) rfl rfl ?_
        have L_17 : ∀ (fu_17 : Nat) (d2 : Int) (cl : Nat), w - cl < fu_17 → (cl ≤ w) → (d2 = smN A fr x (w * rw + cl)) → J 17 [(0, .ref h), (1, .long (zL x)), (3, .long (zL d2)), (5, .int (nI rw)), (6, .int (nI cl))] [] [(h, .inr (3, [.int (nI sz), .int (nI w), .int (nI mo), .ref a])), (a, ia Z 30 (ni C))] 0 0 := by
          intro fu_17
          induction fu_17 with
          | zero => intro d2 cl hm; exact absurd hm (Nat.not_lt_zero _)
          | succ fu_17 ih_17 =>
            intro d2 cl hm_17 hc hd2
            refine j_iload hJ (q := 19) dX5_mixInto_17 4 rfl rfl ?_
            refine j_aload_n hJ (q := 20) dX5_mixInto_19 rfl 0 rfl rfl ?_
            refine j_get hJ (q := 23) jf_X5_9 dX5_mixInto_20 0 rfl rfl rfl ?_
            refine jn_icmp_ge hJ (q := 26) (tgt := 48) dX5_mixInto_23 (by decide) rfl (by omega) (by omega) (fun c2 => ?_) (fun c2 => ?_)
            · skip
              refine j_iinc hJ (q := 51) (lvs' := [(5, .int (nI (rw + 1))), (0, .ref h), (1, .long (zL x)), (3, .long (zL d2)), (6, .int (nI cl))]) dX5_mixInto_48 3 rfl (by rw [show Int32.ofInt 1 = nI 1 from by decide +kernel]; exact nI_add _ _) (by decide) rfl rfl ?_
              refine j_goto hJ (q := 5) dX5_mixInto_51 (by decide) ?_
              refine j_locals hJ [1, 2, 3, 0] rfl ?_
              exact ih_5 d2 (rw + 1) (by omega) (by omega) (by rw [hd2, show cl = w by omega]; rfl)
            · skip
              refine j_ldc2 hJ (q := 29) (v' := zL 31) dX5_mixInto_26 tm_771 rfl rfl ?_
              refine j_lload_n hJ (q := 30) dX5_mixInto_29 rfl 2 rfl rfl ?_
              refine j_lmul hJ (q := 31) dX5_mixInto_30 rfl (zL_mul _ _) ?_
              refine j_aload_n hJ (q := 32) dX5_mixInto_31 rfl 0 rfl rfl ?_
              refine j_iload hJ (q := 34) dX5_mixInto_32 3 rfl rfl ?_
              refine j_iload hJ (q := 36) dX5_mixInto_34 4 rfl rfl ?_
              refine j_vR hJ (q := 39) (rest := [.long (zL (31 * d2))]) (As := [.int (nI rw), .int (nI cl)]) jl_X5_33 (c_X5_at Z h a sz w mo C rw cl (by omega) (by omega)) 0 rfl rfl dX5_mixInto_36 rfl (by decide) (Nat.le_of_ble_eq_true rfl) [0, 1] rfl rfl (fun rv hp => ?_)
              obtain rfl := hp
              show J 39 [(0, .ref h), (1, .long (zL x)), (3, .long (zL d2)), (5, .int (nI rw)), (6, .int (nI cl))] [.int (nI (C (rw * 5 + cl))), .long (zL (31 * d2))] [(h, .inr (3, [.int (nI sz), .int (nI w), .int (nI mo), .ref a])), (a, ia Z 30 (ni C))] 0 0
              have hcc := hC rw (by omega) cl (by omega)
              have hbb := hb (fr + (w * rw + cl))
              refine j_i2l hJ (q := 40) dX5_mixInto_39 rfl (zL_i _ (zI_nat (C (rw * 5 + cl))).symm (by omega)) ?_
              refine j_ladd hJ (q := 41) dX5_mixInto_40 rfl (zL_add _ _) ?_
              refine j_lstore_n hJ (q := 42) (lvs' := [(3, .long (zL (31 * d2 + ((C (rw * 5 + cl)) : Int)))), (0, .ref h), (1, .long (zL x)), (5, .int (nI rw)), (6, .int (nI cl))]) dX5_mixInto_41 rfl (by decide) rfl rfl ?_
              refine j_iinc hJ (q := 45) (lvs' := [(6, .int (nI (cl + 1))), (3, .long (zL (31 * d2 + ((C (rw * 5 + cl)) : Int)))), (0, .ref h), (1, .long (zL x)), (5, .int (nI rw))]) dX5_mixInto_42 4 rfl (by rw [show Int32.ofInt 1 = nI 1 from by decide +kernel]; exact nI_add _ _) (by decide) rfl rfl ?_
              refine j_goto hJ (q := 17) dX5_mixInto_45 (by decide) ?_
              refine j_locals hJ [2, 3, 1, 4, 0] rfl ?_
              exact ih_17 (31 * d2 + ((C (rw * 5 + cl)) : Int)) (cl + 1) (by omega) (by omega) (by rw [show w * rw + (cl + 1) = w * rw + cl + 1 by omega]; simp only [smN]; rw [← hd2, hcc])
        refine j_locals hJ [1, 2, 3, 4, 0] rfl ?_
        exact L_17 ((w - 0) + 1) d1 0 (Nat.lt_succ_self _) (by omega) (by rw [hd1]; rfl)
  refine j_locals hJ [2, 3, 1, 0] rfl ?_
  exact L_5 ((sz - 0) + 1) x 0 (Nat.lt_succ_self _) (by omega) (by rw [Nat.mul_zero]; rfl)

set_option maxHeartbeats 4000000 in
set_option maxRecDepth 100000 in
theorem c_X6_copyOf (Z : jZ) (hs : Nat) (s : Nat → Nat) (q : Nat → Nat) (B : Nat → Nat) (K : Nat → Nat) (P : Nat → Nat) (kd : Nat → Nat) (am : Nat → Nat) (st : Nat → Nat) (rg : Nat → Nat) (Ro : Nat → Nat) (Sn : Nat → Nat) (Nt : Nat → Nat) (Mk : Nat → Nat) (hs2 : Nat) (s2 : Nat → Nat) (q2 : Nat → Nat) (A : Nat → Nat) (K2 : Nat → Nat) (P2 : Nat → Nat) (kd2 : Nat → Nat) (am2 : Nat → Nat) (st2 : Nat → Nat) (rg2 : Nat → Nat) (Ro2 : Nat → Nat) (Sn2 : Nat → Nat) (Nt2 : Nat → Nat) (Mk2 : Nat → Nat)  : CT Z yX6_copyOf cX6_copyOf 2 (none) 2 0 0 [.ref hs, .ref hs2] [(hs, .inr (4, [.ref (s 0), .ref (s 1), .ref (s 3), .ref (s 5), .ref (s 7)])), cO (s 0) q (B 21) (B 5) (B 6) (B 7) (B 8) (B 0), (q 0, ia Z 12 (ni K)), (q 1, ia Z 12 (ni P)), (q 2, ia Z 6 (ni kd)), (q 3, ia Z 6 (ni am)), (q 4, ia Z 6 (ni st)), (q 5, ia Z 6 (ni rg)), (s 1, .inr (1, [.int (nI (B 4)), .ref (s 2)])), (s 2, ia Z 128 (ni Ro)), (s 3, .inr (3, [.int (nI (B 1)), .int (nI 4), .int (nI 5), .ref (s 4)])), (s 4, ia Z 30 (ni Sn)), (s 5, .inr (3, [.int (nI (B 2)), .int (nI 5), .int (nI 6), .ref (s 6)])), (s 6, ia Z 30 (ni Nt)), (s 7, .inr (3, [.int (nI (B 3)), .int (nI 5), .int (nI 6), .ref (s 8)])), (s 8, ia Z 30 (ni Mk)), (hs2, .inr (4, [.ref (s2 0), .ref (s2 1), .ref (s2 3), .ref (s2 5), .ref (s2 7)])), cO (s2 0) q2 (A 21) (A 5) (A 6) (A 7) (A 8) (A 0), (q2 0, ia Z 12 (ni K2)), (q2 1, ia Z 12 (ni P2)), (q2 2, ia Z 6 (ni kd2)), (q2 3, ia Z 6 (ni am2)), (q2 4, ia Z 6 (ni st2)), (q2 5, ia Z 6 (ni rg2)), (s2 1, .inr (1, [.int (nI (A 4)), .ref (s2 2)])), (s2 2, ia Z 128 (ni Ro2)), (s2 3, .inr (3, [.int (nI (A 1)), .int (nI 4), .int (nI 5), .ref (s2 4)])), (s2 4, ia Z 30 (ni Sn2)), (s2 5, .inr (3, [.int (nI (A 2)), .int (nI 5), .int (nI 6), .ref (s2 6)])), (s2 6, ia Z 30 (ni Nt2)), (s2 7, .inr (3, [.int (nI (A 3)), .int (nI 5), .int (nI 6), .ref (s2 8)])), (s2 8, ia Z 30 (ni Mk2))] (fun rr ww => rr = none ∧ ww = [(hs, .inr (4, [.ref (s 0), .ref (s 1), .ref (s 3), .ref (s 5), .ref (s 7)])), cO (s 0) q (A 21) (A 5) (A 6) (A 7) (A 8) (A 0), (q 0, ia Z 12 (ni K2)), (q 1, ia Z 12 (ni P2)), (q 2, ia Z 6 (ni kd2)), (q 3, ia Z 6 (ni am2)), (q 4, ia Z 6 (ni st2)), (q 5, ia Z 6 (ni rg2)), (s 1, .inr (1, [.int (nI (A 4)), .ref (s 2)])), (s 2, ia Z 128 (ni Ro2)), (s 3, .inr (3, [.int (nI (A 1)), .int (nI 4), .int (nI 5), .ref (s 4)])), (s 4, ia Z 30 (ni Sn2)), (s 5, .inr (3, [.int (nI (A 2)), .int (nI 5), .int (nI 6), .ref (s 6)])), (s 6, ia Z 30 (ni Nt2)), (s 7, .inr (3, [.int (nI (A 3)), .int (nI 5), .int (nI 6), .ref (s 8)])), (s 8, ia Z 30 (ni Mk2)), (hs2, .inr (4, [.ref (s2 0), .ref (s2 1), .ref (s2 3), .ref (s2 5), .ref (s2 7)])), cO (s2 0) q2 (A 21) (A 5) (A 6) (A 7) (A 8) (A 0), (q2 0, ia Z 12 (ni K2)), (q2 1, ia Z 12 (ni P2)), (q2 2, ia Z 6 (ni kd2)), (q2 3, ia Z 6 (ni am2)), (q2 4, ia Z 6 (ni st2)), (q2 5, ia Z 6 (ni rg2)), (s2 1, .inr (1, [.int (nI (A 4)), .ref (s2 2)])), (s2 2, ia Z 128 (ni Ro2)), (s2 3, .inr (3, [.int (nI (A 1)), .int (nI 4), .int (nI 5), .ref (s2 4)])), (s2 4, ia Z 30 (ni Sn2)), (s2 5, .inr (3, [.int (nI (A 2)), .int (nI 5), .int (nI 6), .ref (s2 6)])), (s2 6, ia Z 30 (ni Nt2)), (s2 7, .inr (3, [.int (nI (A 3)), .int (nI 5), .int (nI 6), .ref (s2 8)])), (s2 8, ia Z 30 (ni Mk2))]) := by
  refine CT.of RX6 false rfl (fun h => by cases h) (by decide +kernel) (Nat.le_of_ble_eq_true rfl) ?_
  intro J hJ hE
  show J 0 [(0, .ref hs), (1, .ref hs2)] [] [(hs, .inr (4, [.ref (s 0), .ref (s 1), .ref (s 3), .ref (s 5), .ref (s 7)])), cO (s 0) q (B 21) (B 5) (B 6) (B 7) (B 8) (B 0), (q 0, ia Z 12 (ni K)), (q 1, ia Z 12 (ni P)), (q 2, ia Z 6 (ni kd)), (q 3, ia Z 6 (ni am)), (q 4, ia Z 6 (ni st)), (q 5, ia Z 6 (ni rg)), (s 1, .inr (1, [.int (nI (B 4)), .ref (s 2)])), (s 2, ia Z 128 (ni Ro)), (s 3, .inr (3, [.int (nI (B 1)), .int (nI 4), .int (nI 5), .ref (s 4)])), (s 4, ia Z 30 (ni Sn)), (s 5, .inr (3, [.int (nI (B 2)), .int (nI 5), .int (nI 6), .ref (s 6)])), (s 6, ia Z 30 (ni Nt)), (s 7, .inr (3, [.int (nI (B 3)), .int (nI 5), .int (nI 6), .ref (s 8)])), (s 8, ia Z 30 (ni Mk)), (hs2, .inr (4, [.ref (s2 0), .ref (s2 1), .ref (s2 3), .ref (s2 5), .ref (s2 7)])), cO (s2 0) q2 (A 21) (A 5) (A 6) (A 7) (A 8) (A 0), (q2 0, ia Z 12 (ni K2)), (q2 1, ia Z 12 (ni P2)), (q2 2, ia Z 6 (ni kd2)), (q2 3, ia Z 6 (ni am2)), (q2 4, ia Z 6 (ni st2)), (q2 5, ia Z 6 (ni rg2)), (s2 1, .inr (1, [.int (nI (A 4)), .ref (s2 2)])), (s2 2, ia Z 128 (ni Ro2)), (s2 3, .inr (3, [.int (nI (A 1)), .int (nI 4), .int (nI 5), .ref (s2 4)])), (s2 4, ia Z 30 (ni Sn2)), (s2 5, .inr (3, [.int (nI (A 2)), .int (nI 5), .int (nI 6), .ref (s2 6)])), (s2 6, ia Z 30 (ni Nt2)), (s2 7, .inr (3, [.int (nI (A 3)), .int (nI 5), .int (nI 6), .ref (s2 8)])), (s2 8, ia Z 30 (ni Mk2))] 0 0
  refine j_aload_n hJ (q := 1) dX6_copyOf_0 rfl 0 rfl rfl ?_
  refine j_get hJ (q := 4) jf_X6_12 dX6_copyOf_1 0 rfl rfl rfl ?_
  refine j_aload_n hJ (q := 5) dX6_copyOf_4 rfl 1 rfl rfl ?_
  refine j_get hJ (q := 8) jf_X6_12 dX6_copyOf_5 16 rfl rfl rfl ?_
  refine j_vW hJ (q := 11) (rest := []) (As := [.ref (s2 0)]) (wr := [(hs, .inr (4, [.ref (s 0), .ref (s 1), .ref (s 3), .ref (s 5), .ref (s 7)])), (s 1, .inr (1, [.int (nI (B 4)), .ref (s 2)])), (s 2, ia Z 128 (ni Ro)), (s 3, .inr (3, [.int (nI (B 1)), .int (nI 4), .int (nI 5), .ref (s 4)])), (s 4, ia Z 30 (ni Sn)), (s 5, .inr (3, [.int (nI (B 2)), .int (nI 5), .int (nI 6), .ref (s 6)])), (s 6, ia Z 30 (ni Nt)), (s 7, .inr (3, [.int (nI (B 3)), .int (nI 5), .int (nI 6), .ref (s 8)])), (s 8, ia Z 30 (ni Mk)), (hs2, .inr (4, [.ref (s2 0), .ref (s2 1), .ref (s2 3), .ref (s2 5), .ref (s2 7)])), (s2 1, .inr (1, [.int (nI (A 4)), .ref (s2 2)])), (s2 2, ia Z 128 (ni Ro2)), (s2 3, .inr (3, [.int (nI (A 1)), .int (nI 4), .int (nI 5), .ref (s2 4)])), (s2 4, ia Z 30 (ni Sn2)), (s2 5, .inr (3, [.int (nI (A 2)), .int (nI 5), .int (nI 6), .ref (s2 6)])), (s2 6, ia Z 30 (ni Nt2)), (s2 7, .inr (3, [.int (nI (A 3)), .int (nI 5), .int (nI 6), .ref (s2 8)])), (s2 8, ia Z 30 (ni Mk2))]) jl_X6_40 (c_X4_copyOf Z (s 0) q (B 21) (B 5) (B 6) (B 7) (B 8) (B 0) K P kd am st rg (s2 0) q2 A K2 P2 kd2 am2 st2 rg2 ) 1 rfl rfl dX6_copyOf_8 rfl (by decide) (Nat.le_of_ble_eq_true rfl) [1, 2, 3, 4, 5, 6, 7, 17, 18, 19, 20, 21, 22, 23] [0, 8, 9, 10, 11, 12, 13, 14, 15, 16, 24, 25, 26, 27, 28, 29, 30, 31] rfl rfl rfl rfl (by decide) rfl (fun rv wv hp => ?_)
  obtain ⟨rfl, rfl⟩ := hp
  refine j_world hJ (ws' := [(hs, .inr (4, [.ref (s 0), .ref (s 1), .ref (s 3), .ref (s 5), .ref (s 7)])), cO (s 0) q (A 21) (A 5) (A 6) (A 7) (A 8) (A 0), (q 0, ia Z 12 (ni K2)), (q 1, ia Z 12 (ni P2)), (q 2, ia Z 6 (ni kd2)), (q 3, ia Z 6 (ni am2)), (q 4, ia Z 6 (ni st2)), (q 5, ia Z 6 (ni rg2)), (s 1, .inr (1, [.int (nI (B 4)), .ref (s 2)])), (s 2, ia Z 128 (ni Ro)), (s 3, .inr (3, [.int (nI (B 1)), .int (nI 4), .int (nI 5), .ref (s 4)])), (s 4, ia Z 30 (ni Sn)), (s 5, .inr (3, [.int (nI (B 2)), .int (nI 5), .int (nI 6), .ref (s 6)])), (s 6, ia Z 30 (ni Nt)), (s 7, .inr (3, [.int (nI (B 3)), .int (nI 5), .int (nI 6), .ref (s 8)])), (s 8, ia Z 30 (ni Mk)), (hs2, .inr (4, [.ref (s2 0), .ref (s2 1), .ref (s2 3), .ref (s2 5), .ref (s2 7)])), cO (s2 0) q2 (A 21) (A 5) (A 6) (A 7) (A 8) (A 0), (q2 0, ia Z 12 (ni K2)), (q2 1, ia Z 12 (ni P2)), (q2 2, ia Z 6 (ni kd2)), (q2 3, ia Z 6 (ni am2)), (q2 4, ia Z 6 (ni st2)), (q2 5, ia Z 6 (ni rg2)), (s2 1, .inr (1, [.int (nI (A 4)), .ref (s2 2)])), (s2 2, ia Z 128 (ni Ro2)), (s2 3, .inr (3, [.int (nI (A 1)), .int (nI 4), .int (nI 5), .ref (s2 4)])), (s2 4, ia Z 30 (ni Sn2)), (s2 5, .inr (3, [.int (nI (A 2)), .int (nI 5), .int (nI 6), .ref (s2 6)])), (s2 6, ia Z 30 (ni Nt2)), (s2 7, .inr (3, [.int (nI (A 3)), .int (nI 5), .int (nI 6), .ref (s2 8)])), (s2 8, ia Z 30 (ni Mk2))]) [0, 18, 19, 20, 21, 22, 23, 24, 1, 2, 3, 4, 5, 6, 7, 8, 9, 25, 26, 27, 28, 29, 30, 31, 10, 11, 12, 13, 14, 15, 16, 17] rfl rfl ?_
  show J 11 [(0, .ref hs), (1, .ref hs2)] [] [(hs, .inr (4, [.ref (s 0), .ref (s 1), .ref (s 3), .ref (s 5), .ref (s 7)])), cO (s 0) q (A 21) (A 5) (A 6) (A 7) (A 8) (A 0), (q 0, ia Z 12 (ni K2)), (q 1, ia Z 12 (ni P2)), (q 2, ia Z 6 (ni kd2)), (q 3, ia Z 6 (ni am2)), (q 4, ia Z 6 (ni st2)), (q 5, ia Z 6 (ni rg2)), (s 1, .inr (1, [.int (nI (B 4)), .ref (s 2)])), (s 2, ia Z 128 (ni Ro)), (s 3, .inr (3, [.int (nI (B 1)), .int (nI 4), .int (nI 5), .ref (s 4)])), (s 4, ia Z 30 (ni Sn)), (s 5, .inr (3, [.int (nI (B 2)), .int (nI 5), .int (nI 6), .ref (s 6)])), (s 6, ia Z 30 (ni Nt)), (s 7, .inr (3, [.int (nI (B 3)), .int (nI 5), .int (nI 6), .ref (s 8)])), (s 8, ia Z 30 (ni Mk)), (hs2, .inr (4, [.ref (s2 0), .ref (s2 1), .ref (s2 3), .ref (s2 5), .ref (s2 7)])), cO (s2 0) q2 (A 21) (A 5) (A 6) (A 7) (A 8) (A 0), (q2 0, ia Z 12 (ni K2)), (q2 1, ia Z 12 (ni P2)), (q2 2, ia Z 6 (ni kd2)), (q2 3, ia Z 6 (ni am2)), (q2 4, ia Z 6 (ni st2)), (q2 5, ia Z 6 (ni rg2)), (s2 1, .inr (1, [.int (nI (A 4)), .ref (s2 2)])), (s2 2, ia Z 128 (ni Ro2)), (s2 3, .inr (3, [.int (nI (A 1)), .int (nI 4), .int (nI 5), .ref (s2 4)])), (s2 4, ia Z 30 (ni Sn2)), (s2 5, .inr (3, [.int (nI (A 2)), .int (nI 5), .int (nI 6), .ref (s2 6)])), (s2 6, ia Z 30 (ni Nt2)), (s2 7, .inr (3, [.int (nI (A 3)), .int (nI 5), .int (nI 6), .ref (s2 8)])), (s2 8, ia Z 30 (ni Mk2))] 0 0
  refine j_aload_n hJ (q := 12) dX6_copyOf_11 rfl 0 rfl rfl ?_
  refine j_get hJ (q := 15) jf_X6_21 dX6_copyOf_12 0 rfl rfl rfl ?_
  refine j_aload_n hJ (q := 16) dX6_copyOf_15 rfl 1 rfl rfl ?_
  refine j_get hJ (q := 19) jf_X6_21 dX6_copyOf_16 16 rfl rfl rfl ?_
  refine j_vW hJ (q := 22) (rest := []) (As := [.ref (s2 1)]) (wr := [(hs, .inr (4, [.ref (s 0), .ref (s 1), .ref (s 3), .ref (s 5), .ref (s 7)])), cO (s 0) q (A 21) (A 5) (A 6) (A 7) (A 8) (A 0), (q 0, ia Z 12 (ni K2)), (q 1, ia Z 12 (ni P2)), (q 2, ia Z 6 (ni kd2)), (q 3, ia Z 6 (ni am2)), (q 4, ia Z 6 (ni st2)), (q 5, ia Z 6 (ni rg2)), (s 3, .inr (3, [.int (nI (B 1)), .int (nI 4), .int (nI 5), .ref (s 4)])), (s 4, ia Z 30 (ni Sn)), (s 5, .inr (3, [.int (nI (B 2)), .int (nI 5), .int (nI 6), .ref (s 6)])), (s 6, ia Z 30 (ni Nt)), (s 7, .inr (3, [.int (nI (B 3)), .int (nI 5), .int (nI 6), .ref (s 8)])), (s 8, ia Z 30 (ni Mk)), (hs2, .inr (4, [.ref (s2 0), .ref (s2 1), .ref (s2 3), .ref (s2 5), .ref (s2 7)])), cO (s2 0) q2 (A 21) (A 5) (A 6) (A 7) (A 8) (A 0), (q2 0, ia Z 12 (ni K2)), (q2 1, ia Z 12 (ni P2)), (q2 2, ia Z 6 (ni kd2)), (q2 3, ia Z 6 (ni am2)), (q2 4, ia Z 6 (ni st2)), (q2 5, ia Z 6 (ni rg2)), (s2 3, .inr (3, [.int (nI (A 1)), .int (nI 4), .int (nI 5), .ref (s2 4)])), (s2 4, ia Z 30 (ni Sn2)), (s2 5, .inr (3, [.int (nI (A 2)), .int (nI 5), .int (nI 6), .ref (s2 6)])), (s2 6, ia Z 30 (ni Nt2)), (s2 7, .inr (3, [.int (nI (A 3)), .int (nI 5), .int (nI 6), .ref (s2 8)])), (s2 8, ia Z 30 (ni Mk2))]) jl_X6_44 (c_X3_copyOf Z (s 1) (s 2) Ro (B 4) (s2 1) (s2 2) Ro2 (A 4) ) 8 rfl rfl dX6_copyOf_19 rfl (by decide) (Nat.le_of_ble_eq_true rfl) [8, 9, 24, 25] [0, 1, 2, 3, 4, 5, 6, 7, 10, 11, 12, 13, 14, 15, 16, 17, 18, 19, 20, 21, 22, 23, 26, 27, 28, 29, 30, 31] rfl rfl rfl rfl (by decide) rfl (fun rv wv hp => ?_)
  obtain ⟨rfl, rfl⟩ := hp
  refine j_world hJ (ws' := [(hs, .inr (4, [.ref (s 0), .ref (s 1), .ref (s 3), .ref (s 5), .ref (s 7)])), cO (s 0) q (A 21) (A 5) (A 6) (A 7) (A 8) (A 0), (q 0, ia Z 12 (ni K2)), (q 1, ia Z 12 (ni P2)), (q 2, ia Z 6 (ni kd2)), (q 3, ia Z 6 (ni am2)), (q 4, ia Z 6 (ni st2)), (q 5, ia Z 6 (ni rg2)), ((s 1), .inr (1, [.int (nI (A 4)), .ref (s 2)])), ((s 2), ia Z 128 (ni Ro2)), (s 3, .inr (3, [.int (nI (B 1)), .int (nI 4), .int (nI 5), .ref (s 4)])), (s 4, ia Z 30 (ni Sn)), (s 5, .inr (3, [.int (nI (B 2)), .int (nI 5), .int (nI 6), .ref (s 6)])), (s 6, ia Z 30 (ni Nt)), (s 7, .inr (3, [.int (nI (B 3)), .int (nI 5), .int (nI 6), .ref (s 8)])), (s 8, ia Z 30 (ni Mk)), (hs2, .inr (4, [.ref (s2 0), .ref (s2 1), .ref (s2 3), .ref (s2 5), .ref (s2 7)])), cO (s2 0) q2 (A 21) (A 5) (A 6) (A 7) (A 8) (A 0), (q2 0, ia Z 12 (ni K2)), (q2 1, ia Z 12 (ni P2)), (q2 2, ia Z 6 (ni kd2)), (q2 3, ia Z 6 (ni am2)), (q2 4, ia Z 6 (ni st2)), (q2 5, ia Z 6 (ni rg2)), ((s2 1), .inr (1, [.int (nI (A 4)), .ref (s2 2)])), ((s2 2), ia Z 128 (ni Ro2)), (s2 3, .inr (3, [.int (nI (A 1)), .int (nI 4), .int (nI 5), .ref (s2 4)])), (s2 4, ia Z 30 (ni Sn2)), (s2 5, .inr (3, [.int (nI (A 2)), .int (nI 5), .int (nI 6), .ref (s2 6)])), (s2 6, ia Z 30 (ni Nt2)), (s2 7, .inr (3, [.int (nI (A 3)), .int (nI 5), .int (nI 6), .ref (s2 8)])), (s2 8, ia Z 30 (ni Mk2))]) [0, 1, 2, 3, 4, 5, 6, 7, 28, 29, 8, 9, 10, 11, 12, 13, 14, 15, 16, 17, 18, 19, 20, 21, 30, 31, 22, 23, 24, 25, 26, 27] rfl rfl ?_
  show J 22 [(0, .ref hs), (1, .ref hs2)] [] [(hs, .inr (4, [.ref (s 0), .ref (s 1), .ref (s 3), .ref (s 5), .ref (s 7)])), cO (s 0) q (A 21) (A 5) (A 6) (A 7) (A 8) (A 0), (q 0, ia Z 12 (ni K2)), (q 1, ia Z 12 (ni P2)), (q 2, ia Z 6 (ni kd2)), (q 3, ia Z 6 (ni am2)), (q 4, ia Z 6 (ni st2)), (q 5, ia Z 6 (ni rg2)), ((s 1), .inr (1, [.int (nI (A 4)), .ref (s 2)])), ((s 2), ia Z 128 (ni Ro2)), (s 3, .inr (3, [.int (nI (B 1)), .int (nI 4), .int (nI 5), .ref (s 4)])), (s 4, ia Z 30 (ni Sn)), (s 5, .inr (3, [.int (nI (B 2)), .int (nI 5), .int (nI 6), .ref (s 6)])), (s 6, ia Z 30 (ni Nt)), (s 7, .inr (3, [.int (nI (B 3)), .int (nI 5), .int (nI 6), .ref (s 8)])), (s 8, ia Z 30 (ni Mk)), (hs2, .inr (4, [.ref (s2 0), .ref (s2 1), .ref (s2 3), .ref (s2 5), .ref (s2 7)])), cO (s2 0) q2 (A 21) (A 5) (A 6) (A 7) (A 8) (A 0), (q2 0, ia Z 12 (ni K2)), (q2 1, ia Z 12 (ni P2)), (q2 2, ia Z 6 (ni kd2)), (q2 3, ia Z 6 (ni am2)), (q2 4, ia Z 6 (ni st2)), (q2 5, ia Z 6 (ni rg2)), ((s2 1), .inr (1, [.int (nI (A 4)), .ref (s2 2)])), ((s2 2), ia Z 128 (ni Ro2)), (s2 3, .inr (3, [.int (nI (A 1)), .int (nI 4), .int (nI 5), .ref (s2 4)])), (s2 4, ia Z 30 (ni Sn2)), (s2 5, .inr (3, [.int (nI (A 2)), .int (nI 5), .int (nI 6), .ref (s2 6)])), (s2 6, ia Z 30 (ni Nt2)), (s2 7, .inr (3, [.int (nI (A 3)), .int (nI 5), .int (nI 6), .ref (s2 8)])), (s2 8, ia Z 30 (ni Mk2))] 0 0
  refine j_aload_n hJ (q := 23) dX6_copyOf_22 rfl 0 rfl rfl ?_
  refine j_get hJ (q := 26) jf_X6_30 dX6_copyOf_23 0 rfl rfl rfl ?_
  refine j_aload_n hJ (q := 27) dX6_copyOf_26 rfl 1 rfl rfl ?_
  refine j_get hJ (q := 30) jf_X6_30 dX6_copyOf_27 16 rfl rfl rfl ?_
  refine j_vW hJ (q := 33) (rest := []) (As := [.ref (s2 3)]) (wr := [(hs, .inr (4, [.ref (s 0), .ref (s 1), .ref (s 3), .ref (s 5), .ref (s 7)])), cO (s 0) q (A 21) (A 5) (A 6) (A 7) (A 8) (A 0), (q 0, ia Z 12 (ni K2)), (q 1, ia Z 12 (ni P2)), (q 2, ia Z 6 (ni kd2)), (q 3, ia Z 6 (ni am2)), (q 4, ia Z 6 (ni st2)), (q 5, ia Z 6 (ni rg2)), ((s 1), .inr (1, [.int (nI (A 4)), .ref (s 2)])), ((s 2), ia Z 128 (ni Ro2)), (s 5, .inr (3, [.int (nI (B 2)), .int (nI 5), .int (nI 6), .ref (s 6)])), (s 6, ia Z 30 (ni Nt)), (s 7, .inr (3, [.int (nI (B 3)), .int (nI 5), .int (nI 6), .ref (s 8)])), (s 8, ia Z 30 (ni Mk)), (hs2, .inr (4, [.ref (s2 0), .ref (s2 1), .ref (s2 3), .ref (s2 5), .ref (s2 7)])), cO (s2 0) q2 (A 21) (A 5) (A 6) (A 7) (A 8) (A 0), (q2 0, ia Z 12 (ni K2)), (q2 1, ia Z 12 (ni P2)), (q2 2, ia Z 6 (ni kd2)), (q2 3, ia Z 6 (ni am2)), (q2 4, ia Z 6 (ni st2)), (q2 5, ia Z 6 (ni rg2)), ((s2 1), .inr (1, [.int (nI (A 4)), .ref (s2 2)])), ((s2 2), ia Z 128 (ni Ro2)), (s2 5, .inr (3, [.int (nI (A 2)), .int (nI 5), .int (nI 6), .ref (s2 6)])), (s2 6, ia Z 30 (ni Nt2)), (s2 7, .inr (3, [.int (nI (A 3)), .int (nI 5), .int (nI 6), .ref (s2 8)])), (s2 8, ia Z 30 (ni Mk2))]) jl_X6_47 (c_X5_copyOf Z (s 3) (s 4) (B 1) 4 5 Sn (s2 3) (s2 4) (A 1) 4 5 Sn2 ) 10 rfl rfl dX6_copyOf_30 rfl (by decide) (Nat.le_of_ble_eq_true rfl) [10, 11, 26, 27] [0, 1, 2, 3, 4, 5, 6, 7, 8, 9, 12, 13, 14, 15, 16, 17, 18, 19, 20, 21, 22, 23, 24, 25, 28, 29, 30, 31] rfl rfl rfl rfl (by decide) rfl (fun rv wv hp => ?_)
  obtain ⟨rfl, rfl⟩ := hp
  refine j_world hJ (ws' := [(hs, .inr (4, [.ref (s 0), .ref (s 1), .ref (s 3), .ref (s 5), .ref (s 7)])), cO (s 0) q (A 21) (A 5) (A 6) (A 7) (A 8) (A 0), (q 0, ia Z 12 (ni K2)), (q 1, ia Z 12 (ni P2)), (q 2, ia Z 6 (ni kd2)), (q 3, ia Z 6 (ni am2)), (q 4, ia Z 6 (ni st2)), (q 5, ia Z 6 (ni rg2)), ((s 1), .inr (1, [.int (nI (A 4)), .ref (s 2)])), ((s 2), ia Z 128 (ni Ro2)), ((s 3), .inr (3, [.int (nI (A 1)), .int (nI 4), .int (nI 5), .ref (s 4)])), ((s 4), ia Z 30 (ni Sn2)), (s 5, .inr (3, [.int (nI (B 2)), .int (nI 5), .int (nI 6), .ref (s 6)])), (s 6, ia Z 30 (ni Nt)), (s 7, .inr (3, [.int (nI (B 3)), .int (nI 5), .int (nI 6), .ref (s 8)])), (s 8, ia Z 30 (ni Mk)), (hs2, .inr (4, [.ref (s2 0), .ref (s2 1), .ref (s2 3), .ref (s2 5), .ref (s2 7)])), cO (s2 0) q2 (A 21) (A 5) (A 6) (A 7) (A 8) (A 0), (q2 0, ia Z 12 (ni K2)), (q2 1, ia Z 12 (ni P2)), (q2 2, ia Z 6 (ni kd2)), (q2 3, ia Z 6 (ni am2)), (q2 4, ia Z 6 (ni st2)), (q2 5, ia Z 6 (ni rg2)), ((s2 1), .inr (1, [.int (nI (A 4)), .ref (s2 2)])), ((s2 2), ia Z 128 (ni Ro2)), ((s2 3), .inr (3, [.int (nI (A 1)), .int (nI 4), .int (nI 5), .ref (s2 4)])), ((s2 4), ia Z 30 (ni Sn2)), (s2 5, .inr (3, [.int (nI (A 2)), .int (nI 5), .int (nI 6), .ref (s2 6)])), (s2 6, ia Z 30 (ni Nt2)), (s2 7, .inr (3, [.int (nI (A 3)), .int (nI 5), .int (nI 6), .ref (s2 8)])), (s2 8, ia Z 30 (ni Mk2))]) [0, 1, 2, 3, 4, 5, 6, 7, 8, 9, 28, 29, 10, 11, 12, 13, 14, 15, 16, 17, 18, 19, 20, 21, 22, 23, 30, 31, 24, 25, 26, 27] rfl rfl ?_
  show J 33 [(0, .ref hs), (1, .ref hs2)] [] [(hs, .inr (4, [.ref (s 0), .ref (s 1), .ref (s 3), .ref (s 5), .ref (s 7)])), cO (s 0) q (A 21) (A 5) (A 6) (A 7) (A 8) (A 0), (q 0, ia Z 12 (ni K2)), (q 1, ia Z 12 (ni P2)), (q 2, ia Z 6 (ni kd2)), (q 3, ia Z 6 (ni am2)), (q 4, ia Z 6 (ni st2)), (q 5, ia Z 6 (ni rg2)), ((s 1), .inr (1, [.int (nI (A 4)), .ref (s 2)])), ((s 2), ia Z 128 (ni Ro2)), ((s 3), .inr (3, [.int (nI (A 1)), .int (nI 4), .int (nI 5), .ref (s 4)])), ((s 4), ia Z 30 (ni Sn2)), (s 5, .inr (3, [.int (nI (B 2)), .int (nI 5), .int (nI 6), .ref (s 6)])), (s 6, ia Z 30 (ni Nt)), (s 7, .inr (3, [.int (nI (B 3)), .int (nI 5), .int (nI 6), .ref (s 8)])), (s 8, ia Z 30 (ni Mk)), (hs2, .inr (4, [.ref (s2 0), .ref (s2 1), .ref (s2 3), .ref (s2 5), .ref (s2 7)])), cO (s2 0) q2 (A 21) (A 5) (A 6) (A 7) (A 8) (A 0), (q2 0, ia Z 12 (ni K2)), (q2 1, ia Z 12 (ni P2)), (q2 2, ia Z 6 (ni kd2)), (q2 3, ia Z 6 (ni am2)), (q2 4, ia Z 6 (ni st2)), (q2 5, ia Z 6 (ni rg2)), ((s2 1), .inr (1, [.int (nI (A 4)), .ref (s2 2)])), ((s2 2), ia Z 128 (ni Ro2)), ((s2 3), .inr (3, [.int (nI (A 1)), .int (nI 4), .int (nI 5), .ref (s2 4)])), ((s2 4), ia Z 30 (ni Sn2)), (s2 5, .inr (3, [.int (nI (A 2)), .int (nI 5), .int (nI 6), .ref (s2 6)])), (s2 6, ia Z 30 (ni Nt2)), (s2 7, .inr (3, [.int (nI (A 3)), .int (nI 5), .int (nI 6), .ref (s2 8)])), (s2 8, ia Z 30 (ni Mk2))] 0 0
  refine j_aload_n hJ (q := 34) dX6_copyOf_33 rfl 0 rfl rfl ?_
  refine j_get hJ (q := 37) jf_X6_34 dX6_copyOf_34 0 rfl rfl rfl ?_
  refine j_aload_n hJ (q := 38) dX6_copyOf_37 rfl 1 rfl rfl ?_
  refine j_get hJ (q := 41) jf_X6_34 dX6_copyOf_38 16 rfl rfl rfl ?_
  refine j_vW hJ (q := 44) (rest := []) (As := [.ref (s2 5)]) (wr := [(hs, .inr (4, [.ref (s 0), .ref (s 1), .ref (s 3), .ref (s 5), .ref (s 7)])), cO (s 0) q (A 21) (A 5) (A 6) (A 7) (A 8) (A 0), (q 0, ia Z 12 (ni K2)), (q 1, ia Z 12 (ni P2)), (q 2, ia Z 6 (ni kd2)), (q 3, ia Z 6 (ni am2)), (q 4, ia Z 6 (ni st2)), (q 5, ia Z 6 (ni rg2)), ((s 1), .inr (1, [.int (nI (A 4)), .ref (s 2)])), ((s 2), ia Z 128 (ni Ro2)), ((s 3), .inr (3, [.int (nI (A 1)), .int (nI 4), .int (nI 5), .ref (s 4)])), ((s 4), ia Z 30 (ni Sn2)), (s 7, .inr (3, [.int (nI (B 3)), .int (nI 5), .int (nI 6), .ref (s 8)])), (s 8, ia Z 30 (ni Mk)), (hs2, .inr (4, [.ref (s2 0), .ref (s2 1), .ref (s2 3), .ref (s2 5), .ref (s2 7)])), cO (s2 0) q2 (A 21) (A 5) (A 6) (A 7) (A 8) (A 0), (q2 0, ia Z 12 (ni K2)), (q2 1, ia Z 12 (ni P2)), (q2 2, ia Z 6 (ni kd2)), (q2 3, ia Z 6 (ni am2)), (q2 4, ia Z 6 (ni st2)), (q2 5, ia Z 6 (ni rg2)), ((s2 1), .inr (1, [.int (nI (A 4)), .ref (s2 2)])), ((s2 2), ia Z 128 (ni Ro2)), ((s2 3), .inr (3, [.int (nI (A 1)), .int (nI 4), .int (nI 5), .ref (s2 4)])), ((s2 4), ia Z 30 (ni Sn2)), (s2 7, .inr (3, [.int (nI (A 3)), .int (nI 5), .int (nI 6), .ref (s2 8)])), (s2 8, ia Z 30 (ni Mk2))]) jl_X6_47 (c_X5_copyOf Z (s 5) (s 6) (B 2) 5 6 Nt (s2 5) (s2 6) (A 2) 5 6 Nt2 ) 12 rfl rfl dX6_copyOf_41 rfl (by decide) (Nat.le_of_ble_eq_true rfl) [12, 13, 28, 29] [0, 1, 2, 3, 4, 5, 6, 7, 8, 9, 10, 11, 14, 15, 16, 17, 18, 19, 20, 21, 22, 23, 24, 25, 26, 27, 30, 31] rfl rfl rfl rfl (by decide) rfl (fun rv wv hp => ?_)
  obtain ⟨rfl, rfl⟩ := hp
  refine j_world hJ (ws' := [(hs, .inr (4, [.ref (s 0), .ref (s 1), .ref (s 3), .ref (s 5), .ref (s 7)])), cO (s 0) q (A 21) (A 5) (A 6) (A 7) (A 8) (A 0), (q 0, ia Z 12 (ni K2)), (q 1, ia Z 12 (ni P2)), (q 2, ia Z 6 (ni kd2)), (q 3, ia Z 6 (ni am2)), (q 4, ia Z 6 (ni st2)), (q 5, ia Z 6 (ni rg2)), ((s 1), .inr (1, [.int (nI (A 4)), .ref (s 2)])), ((s 2), ia Z 128 (ni Ro2)), ((s 3), .inr (3, [.int (nI (A 1)), .int (nI 4), .int (nI 5), .ref (s 4)])), ((s 4), ia Z 30 (ni Sn2)), ((s 5), .inr (3, [.int (nI (A 2)), .int (nI 5), .int (nI 6), .ref (s 6)])), ((s 6), ia Z 30 (ni Nt2)), (s 7, .inr (3, [.int (nI (B 3)), .int (nI 5), .int (nI 6), .ref (s 8)])), (s 8, ia Z 30 (ni Mk)), (hs2, .inr (4, [.ref (s2 0), .ref (s2 1), .ref (s2 3), .ref (s2 5), .ref (s2 7)])), cO (s2 0) q2 (A 21) (A 5) (A 6) (A 7) (A 8) (A 0), (q2 0, ia Z 12 (ni K2)), (q2 1, ia Z 12 (ni P2)), (q2 2, ia Z 6 (ni kd2)), (q2 3, ia Z 6 (ni am2)), (q2 4, ia Z 6 (ni st2)), (q2 5, ia Z 6 (ni rg2)), ((s2 1), .inr (1, [.int (nI (A 4)), .ref (s2 2)])), ((s2 2), ia Z 128 (ni Ro2)), ((s2 3), .inr (3, [.int (nI (A 1)), .int (nI 4), .int (nI 5), .ref (s2 4)])), ((s2 4), ia Z 30 (ni Sn2)), ((s2 5), .inr (3, [.int (nI (A 2)), .int (nI 5), .int (nI 6), .ref (s2 6)])), ((s2 6), ia Z 30 (ni Nt2)), (s2 7, .inr (3, [.int (nI (A 3)), .int (nI 5), .int (nI 6), .ref (s2 8)])), (s2 8, ia Z 30 (ni Mk2))]) [0, 1, 2, 3, 4, 5, 6, 7, 8, 9, 10, 11, 28, 29, 12, 13, 14, 15, 16, 17, 18, 19, 20, 21, 22, 23, 24, 25, 30, 31, 26, 27] rfl rfl ?_
  show J 44 [(0, .ref hs), (1, .ref hs2)] [] [(hs, .inr (4, [.ref (s 0), .ref (s 1), .ref (s 3), .ref (s 5), .ref (s 7)])), cO (s 0) q (A 21) (A 5) (A 6) (A 7) (A 8) (A 0), (q 0, ia Z 12 (ni K2)), (q 1, ia Z 12 (ni P2)), (q 2, ia Z 6 (ni kd2)), (q 3, ia Z 6 (ni am2)), (q 4, ia Z 6 (ni st2)), (q 5, ia Z 6 (ni rg2)), ((s 1), .inr (1, [.int (nI (A 4)), .ref (s 2)])), ((s 2), ia Z 128 (ni Ro2)), ((s 3), .inr (3, [.int (nI (A 1)), .int (nI 4), .int (nI 5), .ref (s 4)])), ((s 4), ia Z 30 (ni Sn2)), ((s 5), .inr (3, [.int (nI (A 2)), .int (nI 5), .int (nI 6), .ref (s 6)])), ((s 6), ia Z 30 (ni Nt2)), (s 7, .inr (3, [.int (nI (B 3)), .int (nI 5), .int (nI 6), .ref (s 8)])), (s 8, ia Z 30 (ni Mk)), (hs2, .inr (4, [.ref (s2 0), .ref (s2 1), .ref (s2 3), .ref (s2 5), .ref (s2 7)])), cO (s2 0) q2 (A 21) (A 5) (A 6) (A 7) (A 8) (A 0), (q2 0, ia Z 12 (ni K2)), (q2 1, ia Z 12 (ni P2)), (q2 2, ia Z 6 (ni kd2)), (q2 3, ia Z 6 (ni am2)), (q2 4, ia Z 6 (ni st2)), (q2 5, ia Z 6 (ni rg2)), ((s2 1), .inr (1, [.int (nI (A 4)), .ref (s2 2)])), ((s2 2), ia Z 128 (ni Ro2)), ((s2 3), .inr (3, [.int (nI (A 1)), .int (nI 4), .int (nI 5), .ref (s2 4)])), ((s2 4), ia Z 30 (ni Sn2)), ((s2 5), .inr (3, [.int (nI (A 2)), .int (nI 5), .int (nI 6), .ref (s2 6)])), ((s2 6), ia Z 30 (ni Nt2)), (s2 7, .inr (3, [.int (nI (A 3)), .int (nI 5), .int (nI 6), .ref (s2 8)])), (s2 8, ia Z 30 (ni Mk2))] 0 0
  refine j_aload_n hJ (q := 45) dX6_copyOf_44 rfl 0 rfl rfl ?_
  refine j_get hJ (q := 48) jf_X6_37 dX6_copyOf_45 0 rfl rfl rfl ?_
  refine j_aload_n hJ (q := 49) dX6_copyOf_48 rfl 1 rfl rfl ?_
  refine j_get hJ (q := 52) jf_X6_37 dX6_copyOf_49 16 rfl rfl rfl ?_
  refine j_vW hJ (q := 55) (rest := []) (As := [.ref (s2 7)]) (wr := [(hs, .inr (4, [.ref (s 0), .ref (s 1), .ref (s 3), .ref (s 5), .ref (s 7)])), cO (s 0) q (A 21) (A 5) (A 6) (A 7) (A 8) (A 0), (q 0, ia Z 12 (ni K2)), (q 1, ia Z 12 (ni P2)), (q 2, ia Z 6 (ni kd2)), (q 3, ia Z 6 (ni am2)), (q 4, ia Z 6 (ni st2)), (q 5, ia Z 6 (ni rg2)), ((s 1), .inr (1, [.int (nI (A 4)), .ref (s 2)])), ((s 2), ia Z 128 (ni Ro2)), ((s 3), .inr (3, [.int (nI (A 1)), .int (nI 4), .int (nI 5), .ref (s 4)])), ((s 4), ia Z 30 (ni Sn2)), ((s 5), .inr (3, [.int (nI (A 2)), .int (nI 5), .int (nI 6), .ref (s 6)])), ((s 6), ia Z 30 (ni Nt2)), (hs2, .inr (4, [.ref (s2 0), .ref (s2 1), .ref (s2 3), .ref (s2 5), .ref (s2 7)])), cO (s2 0) q2 (A 21) (A 5) (A 6) (A 7) (A 8) (A 0), (q2 0, ia Z 12 (ni K2)), (q2 1, ia Z 12 (ni P2)), (q2 2, ia Z 6 (ni kd2)), (q2 3, ia Z 6 (ni am2)), (q2 4, ia Z 6 (ni st2)), (q2 5, ia Z 6 (ni rg2)), ((s2 1), .inr (1, [.int (nI (A 4)), .ref (s2 2)])), ((s2 2), ia Z 128 (ni Ro2)), ((s2 3), .inr (3, [.int (nI (A 1)), .int (nI 4), .int (nI 5), .ref (s2 4)])), ((s2 4), ia Z 30 (ni Sn2)), ((s2 5), .inr (3, [.int (nI (A 2)), .int (nI 5), .int (nI 6), .ref (s2 6)])), ((s2 6), ia Z 30 (ni Nt2))]) jl_X6_47 (c_X5_copyOf Z (s 7) (s 8) (B 3) 5 6 Mk (s2 7) (s2 8) (A 3) 5 6 Mk2 ) 14 rfl rfl dX6_copyOf_52 rfl (by decide) (Nat.le_of_ble_eq_true rfl) [14, 15, 30, 31] [0, 1, 2, 3, 4, 5, 6, 7, 8, 9, 10, 11, 12, 13, 16, 17, 18, 19, 20, 21, 22, 23, 24, 25, 26, 27, 28, 29] rfl rfl rfl rfl (by decide) rfl (fun rv wv hp => ?_)
  obtain ⟨rfl, rfl⟩ := hp
  refine j_world hJ (ws' := [(hs, .inr (4, [.ref (s 0), .ref (s 1), .ref (s 3), .ref (s 5), .ref (s 7)])), cO (s 0) q (A 21) (A 5) (A 6) (A 7) (A 8) (A 0), (q 0, ia Z 12 (ni K2)), (q 1, ia Z 12 (ni P2)), (q 2, ia Z 6 (ni kd2)), (q 3, ia Z 6 (ni am2)), (q 4, ia Z 6 (ni st2)), (q 5, ia Z 6 (ni rg2)), ((s 1), .inr (1, [.int (nI (A 4)), .ref (s 2)])), ((s 2), ia Z 128 (ni Ro2)), ((s 3), .inr (3, [.int (nI (A 1)), .int (nI 4), .int (nI 5), .ref (s 4)])), ((s 4), ia Z 30 (ni Sn2)), ((s 5), .inr (3, [.int (nI (A 2)), .int (nI 5), .int (nI 6), .ref (s 6)])), ((s 6), ia Z 30 (ni Nt2)), ((s 7), .inr (3, [.int (nI (A 3)), .int (nI 5), .int (nI 6), .ref (s 8)])), ((s 8), ia Z 30 (ni Mk2)), (hs2, .inr (4, [.ref (s2 0), .ref (s2 1), .ref (s2 3), .ref (s2 5), .ref (s2 7)])), cO (s2 0) q2 (A 21) (A 5) (A 6) (A 7) (A 8) (A 0), (q2 0, ia Z 12 (ni K2)), (q2 1, ia Z 12 (ni P2)), (q2 2, ia Z 6 (ni kd2)), (q2 3, ia Z 6 (ni am2)), (q2 4, ia Z 6 (ni st2)), (q2 5, ia Z 6 (ni rg2)), ((s2 1), .inr (1, [.int (nI (A 4)), .ref (s2 2)])), ((s2 2), ia Z 128 (ni Ro2)), ((s2 3), .inr (3, [.int (nI (A 1)), .int (nI 4), .int (nI 5), .ref (s2 4)])), ((s2 4), ia Z 30 (ni Sn2)), ((s2 5), .inr (3, [.int (nI (A 2)), .int (nI 5), .int (nI 6), .ref (s2 6)])), ((s2 6), ia Z 30 (ni Nt2)), ((s2 7), .inr (3, [.int (nI (A 3)), .int (nI 5), .int (nI 6), .ref (s2 8)])), ((s2 8), ia Z 30 (ni Mk2))]) [0, 1, 2, 3, 4, 5, 6, 7, 8, 9, 10, 11, 12, 13, 28, 29, 14, 15, 16, 17, 18, 19, 20, 21, 22, 23, 24, 25, 26, 27, 30, 31] rfl rfl ?_
  show J 55 [(0, .ref hs), (1, .ref hs2)] [] [(hs, .inr (4, [.ref (s 0), .ref (s 1), .ref (s 3), .ref (s 5), .ref (s 7)])), cO (s 0) q (A 21) (A 5) (A 6) (A 7) (A 8) (A 0), (q 0, ia Z 12 (ni K2)), (q 1, ia Z 12 (ni P2)), (q 2, ia Z 6 (ni kd2)), (q 3, ia Z 6 (ni am2)), (q 4, ia Z 6 (ni st2)), (q 5, ia Z 6 (ni rg2)), ((s 1), .inr (1, [.int (nI (A 4)), .ref (s 2)])), ((s 2), ia Z 128 (ni Ro2)), ((s 3), .inr (3, [.int (nI (A 1)), .int (nI 4), .int (nI 5), .ref (s 4)])), ((s 4), ia Z 30 (ni Sn2)), ((s 5), .inr (3, [.int (nI (A 2)), .int (nI 5), .int (nI 6), .ref (s 6)])), ((s 6), ia Z 30 (ni Nt2)), ((s 7), .inr (3, [.int (nI (A 3)), .int (nI 5), .int (nI 6), .ref (s 8)])), ((s 8), ia Z 30 (ni Mk2)), (hs2, .inr (4, [.ref (s2 0), .ref (s2 1), .ref (s2 3), .ref (s2 5), .ref (s2 7)])), cO (s2 0) q2 (A 21) (A 5) (A 6) (A 7) (A 8) (A 0), (q2 0, ia Z 12 (ni K2)), (q2 1, ia Z 12 (ni P2)), (q2 2, ia Z 6 (ni kd2)), (q2 3, ia Z 6 (ni am2)), (q2 4, ia Z 6 (ni st2)), (q2 5, ia Z 6 (ni rg2)), ((s2 1), .inr (1, [.int (nI (A 4)), .ref (s2 2)])), ((s2 2), ia Z 128 (ni Ro2)), ((s2 3), .inr (3, [.int (nI (A 1)), .int (nI 4), .int (nI 5), .ref (s2 4)])), ((s2 4), ia Z 30 (ni Sn2)), ((s2 5), .inr (3, [.int (nI (A 2)), .int (nI 5), .int (nI 6), .ref (s2 6)])), ((s2 6), ia Z 30 (ni Nt2)), ((s2 7), .inr (3, [.int (nI (A 3)), .int (nI 5), .int (nI 6), .ref (s2 8)])), ((s2 8), ia Z 30 (ni Mk2))] 0 0
  exact hE.2.2 _ _ _ _ _ rfl dX6_copyOf_55 (Nat.le_refl _) (Nat.le_refl _) (⟨rfl, rfl⟩)

set_option maxHeartbeats 4000000 in
set_option maxRecDepth 100000 in
theorem c_X6_dropRest (Z : jZ) (hs : Nat) (s : Nat → Nat) (p4 : Nat) (p1 : Nat) (p2 : Nat) (p3 : Nat) (Ro : Nat → Nat) (Sn : Nat → Nat) (Nt : Nat → Nat) (Mk : Nat → Nat)  : CT Z yX6_dropRest cX6_dropRest 1 (none) 2 0 0 [.ref hs] [(hs, .inr (4, [.ref (s 0), .ref (s 1), .ref (s 3), .ref (s 5), .ref (s 7)])), (s 1, .inr (1, [.int (nI p4), .ref (s 2)])), (s 2, ia Z 128 (ni Ro)), (s 3, .inr (3, [.int (nI p1), .int (nI 4), .int (nI 5), .ref (s 4)])), (s 4, ia Z 30 (ni Sn)), (s 5, .inr (3, [.int (nI p2), .int (nI 5), .int (nI 6), .ref (s 6)])), (s 6, ia Z 30 (ni Nt)), (s 7, .inr (3, [.int (nI p3), .int (nI 5), .int (nI 6), .ref (s 8)])), (s 8, ia Z 30 (ni Mk))] (fun rr ww => rr = none ∧ ww = [(hs, .inr (4, [.ref (s 0), .ref (s 1), .ref (s 3), .ref (s 5), .ref (s 7)])), (s 1, .inr (1, [.int (nI 0), .ref (s 2)])), (s 2, ia Z 128 (ni Ro)), (s 3, .inr (3, [.int (nI 0), .int (nI 4), .int (nI 5), .ref (s 4)])), (s 4, ia Z 30 (ni Sn)), (s 5, .inr (3, [.int (nI 0), .int (nI 5), .int (nI 6), .ref (s 6)])), (s 6, ia Z 30 (ni Nt)), (s 7, .inr (3, [.int (nI 0), .int (nI 5), .int (nI 6), .ref (s 8)])), (s 8, ia Z 30 (ni Mk))]) := by
  refine CT.of RX6 false rfl (fun h => by cases h) (by decide +kernel) (Nat.le_of_ble_eq_true rfl) ?_
  intro J hJ hE
  show J 0 [(0, .ref hs)] [] [(hs, .inr (4, [.ref (s 0), .ref (s 1), .ref (s 3), .ref (s 5), .ref (s 7)])), (s 1, .inr (1, [.int (nI p4), .ref (s 2)])), (s 2, ia Z 128 (ni Ro)), (s 3, .inr (3, [.int (nI p1), .int (nI 4), .int (nI 5), .ref (s 4)])), (s 4, ia Z 30 (ni Sn)), (s 5, .inr (3, [.int (nI p2), .int (nI 5), .int (nI 6), .ref (s 6)])), (s 6, ia Z 30 (ni Nt)), (s 7, .inr (3, [.int (nI p3), .int (nI 5), .int (nI 6), .ref (s 8)])), (s 8, ia Z 30 (ni Mk))] 0 0
  refine j_aload_n hJ (q := 1) dX6_dropRest_0 rfl 0 rfl rfl ?_
  refine j_get hJ (q := 4) jf_X6_21 dX6_dropRest_1 0 rfl rfl rfl ?_
  refine j_iconst hJ (q := 5) dX6_dropRest_4 rfl ki_0 ?_
  refine j_put hJ (q := 8) (ws' := [(hs, .inr (4, [.ref (s 0), .ref (s 1), .ref (s 3), .ref (s 5), .ref (s 7)])), (s 1, .inr (1, [.int (nI 0), .ref (s 2)])), (s 2, ia Z 128 (ni Ro)), (s 3, .inr (3, [.int (nI p1), .int (nI 4), .int (nI 5), .ref (s 4)])), (s 4, ia Z 30 (ni Sn)), (s 5, .inr (3, [.int (nI p2), .int (nI 5), .int (nI 6), .ref (s 6)])), (s 6, ia Z 30 (ni Nt)), (s 7, .inr (3, [.int (nI p3), .int (nI 5), .int (nI 6), .ref (s 8)])), (s 8, ia Z 30 (ni Mk))]) jp_X6_50 dX6_dropRest_5 1 rfl rfl rfl (Nat.le_of_ble_eq_true rfl) rfl rfl ?_
  refine j_aload_n hJ (q := 9) dX6_dropRest_8 rfl 0 rfl rfl ?_
  refine j_get hJ (q := 12) jf_X6_30 dX6_dropRest_9 0 rfl rfl rfl ?_
  refine j_vW hJ (q := 15) (rest := []) (As := []) (wr := [(hs, .inr (4, [.ref (s 0), .ref (s 1), .ref (s 3), .ref (s 5), .ref (s 7)])), (s 1, .inr (1, [.int (nI 0), .ref (s 2)])), (s 2, ia Z 128 (ni Ro)), (s 5, .inr (3, [.int (nI p2), .int (nI 5), .int (nI 6), .ref (s 6)])), (s 6, ia Z 30 (ni Nt)), (s 7, .inr (3, [.int (nI p3), .int (nI 5), .int (nI 6), .ref (s 8)])), (s 8, ia Z 30 (ni Mk))]) jl_X6_54 (c_X5_drop Z (s 3) (s 4) p1 4 5 Sn ) 3 rfl rfl dX6_dropRest_12 rfl (by decide) (Nat.le_of_ble_eq_true rfl) [3, 4] [0, 1, 2, 5, 6, 7, 8] rfl rfl rfl rfl (by decide) rfl (fun rv wv hp => ?_)
  obtain ⟨rfl, rfl⟩ := hp
  refine j_world hJ (ws' := [(hs, .inr (4, [.ref (s 0), .ref (s 1), .ref (s 3), .ref (s 5), .ref (s 7)])), (s 1, .inr (1, [.int (nI 0), .ref (s 2)])), (s 2, ia Z 128 (ni Ro)), ((s 3), .inr (3, [.int (nI 0), .int (nI 4), .int (nI 5), .ref (s 4)])), ((s 4), ia Z 30 (ni Sn)), (s 5, .inr (3, [.int (nI p2), .int (nI 5), .int (nI 6), .ref (s 6)])), (s 6, ia Z 30 (ni Nt)), (s 7, .inr (3, [.int (nI p3), .int (nI 5), .int (nI 6), .ref (s 8)])), (s 8, ia Z 30 (ni Mk))]) [0, 1, 2, 7, 8, 3, 4, 5, 6] rfl rfl ?_
  show J 15 [(0, .ref hs)] [.int (nI p1)] [(hs, .inr (4, [.ref (s 0), .ref (s 1), .ref (s 3), .ref (s 5), .ref (s 7)])), (s 1, .inr (1, [.int (nI 0), .ref (s 2)])), (s 2, ia Z 128 (ni Ro)), ((s 3), .inr (3, [.int (nI 0), .int (nI 4), .int (nI 5), .ref (s 4)])), ((s 4), ia Z 30 (ni Sn)), (s 5, .inr (3, [.int (nI p2), .int (nI 5), .int (nI 6), .ref (s 6)])), (s 6, ia Z 30 (ni Nt)), (s 7, .inr (3, [.int (nI p3), .int (nI 5), .int (nI 6), .ref (s 8)])), (s 8, ia Z 30 (ni Mk))] 0 0
  refine j_pop hJ (q := 16) dX6_dropRest_15 rfl rfl ?_
  refine j_aload_n hJ (q := 17) dX6_dropRest_16 rfl 0 rfl rfl ?_
  refine j_get hJ (q := 20) jf_X6_34 dX6_dropRest_17 0 rfl rfl rfl ?_
  refine j_vW hJ (q := 23) (rest := []) (As := []) (wr := [(hs, .inr (4, [.ref (s 0), .ref (s 1), .ref (s 3), .ref (s 5), .ref (s 7)])), (s 1, .inr (1, [.int (nI 0), .ref (s 2)])), (s 2, ia Z 128 (ni Ro)), ((s 3), .inr (3, [.int (nI 0), .int (nI 4), .int (nI 5), .ref (s 4)])), ((s 4), ia Z 30 (ni Sn)), (s 7, .inr (3, [.int (nI p3), .int (nI 5), .int (nI 6), .ref (s 8)])), (s 8, ia Z 30 (ni Mk))]) jl_X6_54 (c_X5_drop Z (s 5) (s 6) p2 5 6 Nt ) 5 rfl rfl dX6_dropRest_20 rfl (by decide) (Nat.le_of_ble_eq_true rfl) [5, 6] [0, 1, 2, 3, 4, 7, 8] rfl rfl rfl rfl (by decide) rfl (fun rv wv hp => ?_)
  obtain ⟨rfl, rfl⟩ := hp
  refine j_world hJ (ws' := [(hs, .inr (4, [.ref (s 0), .ref (s 1), .ref (s 3), .ref (s 5), .ref (s 7)])), (s 1, .inr (1, [.int (nI 0), .ref (s 2)])), (s 2, ia Z 128 (ni Ro)), ((s 3), .inr (3, [.int (nI 0), .int (nI 4), .int (nI 5), .ref (s 4)])), ((s 4), ia Z 30 (ni Sn)), ((s 5), .inr (3, [.int (nI 0), .int (nI 5), .int (nI 6), .ref (s 6)])), ((s 6), ia Z 30 (ni Nt)), (s 7, .inr (3, [.int (nI p3), .int (nI 5), .int (nI 6), .ref (s 8)])), (s 8, ia Z 30 (ni Mk))]) [0, 1, 2, 3, 4, 7, 8, 5, 6] rfl rfl ?_
  show J 23 [(0, .ref hs)] [.int (nI p2)] [(hs, .inr (4, [.ref (s 0), .ref (s 1), .ref (s 3), .ref (s 5), .ref (s 7)])), (s 1, .inr (1, [.int (nI 0), .ref (s 2)])), (s 2, ia Z 128 (ni Ro)), ((s 3), .inr (3, [.int (nI 0), .int (nI 4), .int (nI 5), .ref (s 4)])), ((s 4), ia Z 30 (ni Sn)), ((s 5), .inr (3, [.int (nI 0), .int (nI 5), .int (nI 6), .ref (s 6)])), ((s 6), ia Z 30 (ni Nt)), (s 7, .inr (3, [.int (nI p3), .int (nI 5), .int (nI 6), .ref (s 8)])), (s 8, ia Z 30 (ni Mk))] 0 0
  refine j_pop hJ (q := 24) dX6_dropRest_23 rfl rfl ?_
  refine j_aload_n hJ (q := 25) dX6_dropRest_24 rfl 0 rfl rfl ?_
  refine j_get hJ (q := 28) jf_X6_37 dX6_dropRest_25 0 rfl rfl rfl ?_
  refine j_vW hJ (q := 31) (rest := []) (As := []) (wr := [(hs, .inr (4, [.ref (s 0), .ref (s 1), .ref (s 3), .ref (s 5), .ref (s 7)])), (s 1, .inr (1, [.int (nI 0), .ref (s 2)])), (s 2, ia Z 128 (ni Ro)), ((s 3), .inr (3, [.int (nI 0), .int (nI 4), .int (nI 5), .ref (s 4)])), ((s 4), ia Z 30 (ni Sn)), ((s 5), .inr (3, [.int (nI 0), .int (nI 5), .int (nI 6), .ref (s 6)])), ((s 6), ia Z 30 (ni Nt))]) jl_X6_54 (c_X5_drop Z (s 7) (s 8) p3 5 6 Mk ) 7 rfl rfl dX6_dropRest_28 rfl (by decide) (Nat.le_of_ble_eq_true rfl) [7, 8] [0, 1, 2, 3, 4, 5, 6] rfl rfl rfl rfl (by decide) rfl (fun rv wv hp => ?_)
  obtain ⟨rfl, rfl⟩ := hp
  show J 31 [(0, .ref hs)] [.int (nI p3)] [(hs, .inr (4, [.ref (s 0), .ref (s 1), .ref (s 3), .ref (s 5), .ref (s 7)])), (s 1, .inr (1, [.int (nI 0), .ref (s 2)])), (s 2, ia Z 128 (ni Ro)), ((s 3), .inr (3, [.int (nI 0), .int (nI 4), .int (nI 5), .ref (s 4)])), ((s 4), ia Z 30 (ni Sn)), ((s 5), .inr (3, [.int (nI 0), .int (nI 5), .int (nI 6), .ref (s 6)])), ((s 6), ia Z 30 (ni Nt)), ((s 7), .inr (3, [.int (nI 0), .int (nI 5), .int (nI 6), .ref (s 8)])), ((s 8), ia Z 30 (ni Mk))] 0 0
  refine j_pop hJ (q := 32) dX6_dropRest_31 rfl rfl ?_
  exact hE.2.2 _ _ _ _ _ rfl dX6_dropRest_32 (Nat.le_refl _) (Nat.le_refl _) (⟨rfl, rfl⟩)
