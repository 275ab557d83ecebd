set_option maxHeartbeats 4000000 in
set_option maxRecDepth 100000 in
theorem c_X5_atA (Z : jZ) (h : Nat) (a : Nat) (sz : Nat) (w : Nat) (mo : Nat) (C : Nat → Nat) (A : Nat → Nat) (fr : Nat) (rw : Nat) (cl : Nat) (hC : rC A C fr w sz) (h1 : rw < sz ∧ sz ≤ 6) (h2 : cl < w ∧ w ≤ 5) : CR Z yX5_at cX5_at 3 ((some FieldType.int)) 1 [.ref h, .int (nI rw), .int (nI cl)] [(h, .inr (3, [.int (nI sz), .int (nI w), .int (nI mo), .ref a])), (a, ia Z 30 (ni C))] (fun rr => rr = some (.int (nI (A (fr + (w * rw + cl)))))) := by
  refine CR.of RX5 rfl (by decide +kernel) (Nat.le_of_ble_eq_true rfl) ?_
  intro J hJ hE
  show J 0 [(0, .ref h), (1, .int (nI rw)), (2, .int (nI cl))] [] [(h, .inr (3, [.int (nI sz), .int (nI w), .int (nI mo), .ref a])), (a, ia Z 30 (ni C))] 0 0
  refine j_aload_n hJ (q := 1) dX5_at_0 rfl 0 rfl rfl ?_
  refine j_get hJ (q := 4) jf_X5_18 dX5_at_1 0 rfl rfl rfl ?_
  refine j_iload_n hJ (q := 5) dX5_at_4 rfl 1 rfl rfl ?_
  refine j_iconst hJ (q := 6) dX5_at_5 rfl ki_5 ?_
  refine j_imul hJ (q := 7) dX5_at_6 rfl (pk_mul _ _) ?_
  refine j_iload_n hJ (q := 8) dX5_at_7 rfl 2 rfl rfl ?_
  refine j_iadd hJ (q := 9) dX5_at_8 rfl (nI_add _ _) ?_
  refine j_ialdN hJ (q := 10) (z := nI (C (rw * 5 + cl))) dX5_at_9 1 rfl (by omega) (by decide) rfl rfl ?_
  exact hE.1 _ _ _ _ _ _ _ rfl rfl dX5_at_10 (Nat.le_refl _) (Nat.le_refl _) (congrArg (fun z => some (Value.int (nI z))) (by exact hC rw h1.1 cl h2.1))

set_option maxHeartbeats 4000000 in
set_option maxRecDepth 100000 in
theorem c_X8_howManyGuessed0 (Z : jZ)   : CR Z yX8_howManyGuessed cX8_howManyGuessed 1 ((some FieldType.int)) 1 [.int (nI 0)] [] (fun rr => rr = some (.int (nI 8))) := by
  refine CR.of RX8 rfl (by decide +kernel) (Nat.le_of_ble_eq_true rfl) ?_
  intro J hJ hE
  show J 0 [(0, .int (nI 0))] [] [] 0 0
  refine j_iload_n hJ (q := 1) dX8_howManyGuessed_0 rfl 0 rfl rfl ?_
  refine jn_if_ne hJ (q := 4) (tgt := 9) dX8_howManyGuessed_1 (by decide) rfl (by omega) (fun c1 => ?_) (fun c1 => ?_)
  · skip
    exfalso; omega
  · skip
    refine j_bipush hJ (q := 6) dX8_howManyGuessed_4 rfl kb_8 ?_
    refine j_goto hJ (q := 11) dX8_howManyGuessed_6 (by decide) ?_
    exact hE.1 _ _ _ _ _ _ _ rfl rfl dX8_howManyGuessed_11 (Nat.le_refl _) (Nat.le_refl _) (congrArg (fun z => some (Value.int (nI z))) (by rfl))

set_option maxHeartbeats 4000000 in
set_option maxRecDepth 100000 in
theorem c_X8_rowFits0 (Z : jZ) (h : Nat) (u : Nat → Nat) (ab : Int) (be : Int) (Rf : Nat → Nat) (s : Nat → Nat) (q : Nat → Nat) (A : Nat → Nat) (K : Nat → Nat) (P : Nat → Nat) (kd : Nat → Nat) (am : Nat → Nat) (st : Nat → Nat) (rg : Nat → Nat) (Ro : Nat → Nat) (Sn : Nat → Nat) (Nt : Nat → Nat) (Mk : Nat → Nat) (s1 : Nat) (k : Nat) (g : Nat) (hg : wg A) (hA : rA A K P kd am st rg Ro Sn Nt Mk) (hk : k < A 1) (h1 : s1 < A 21) (h2 : g ≤ 7) : CR Z yX8_rowFits cX8_rowFits 9 ((some FieldType.boolean)) 2 [.ref h, .int (nI 0), .int (nI s1), .ref (s 3), .int (nI k), .int (nI g)] [xO h u ab be (Rf 0) (Rf 1) (Rf 2), (u 0, .inr (4, [.ref (s 0), .ref (s 1), .ref (s 3), .ref (s 5), .ref (s 7)])), cO (s 0) q (A 21) (A 5) (A 6) (A 7) (A 8) (A 0), (q 0, ia Z 12 (ni K)), (q 1, ia Z 12 (ni P)), (q 2, ia Z 6 (ni kd)), (q 3, ia Z 6 (ni am)), (q 4, ia Z 6 (ni st)), (q 5, ia Z 6 (ni rg)), (s 1, .inr (1, [.int (nI (A 4)), .ref (s 2)])), (s 2, ia Z 128 (ni Ro)), (s 3, .inr (3, [.int (nI (A 1)), .int (nI 4), .int (nI 5), .ref (s 4)])), (s 4, ia Z 30 (ni Sn)), (s 5, .inr (3, [.int (nI (A 2)), .int (nI 5), .int (nI 6), .ref (s 6)])), (s 6, ia Z 30 (ni Nt)), (s 7, .inr (3, [.int (nI (A 3)), .int (nI 5), .int (nI 6), .ref (s 8)])), (s 8, ia Z 30 (ni Mk))] (fun rr => rr = some (.int (bI (decide (hgh (A (34 + s1)) g (A (58 + 4 * k + 1)) (A (58 + 4 * k + 2)) = A (58 + 4 * k + 3)))))) := by
  refine CR.of RX8 rfl (by decide +kernel) (Nat.le_of_ble_eq_true rfl) ?_
  intro J hJ hE
  show J 0 [(0, .ref h), (1, .int (nI 0)), (2, .int (nI s1)), (3, .ref (s 3)), (4, .int (nI k)), (5, .int (nI g))] [] [xO h u ab be (Rf 0) (Rf 1) (Rf 2), (u 0, .inr (4, [.ref (s 0), .ref (s 1), .ref (s 3), .ref (s 5), .ref (s 7)])), cO (s 0) q (A 21) (A 5) (A 6) (A 7) (A 8) (A 0), (q 0, ia Z 12 (ni K)), (q 1, ia Z 12 (ni P)), (q 2, ia Z 6 (ni kd)), (q 3, ia Z 6 (ni am)), (q 4, ia Z 6 (ni st)), (q 5, ia Z 6 (ni rg)), (s 1, .inr (1, [.int (nI (A 4)), .ref (s 2)])), (s 2, ia Z 128 (ni Ro)), (s 3, .inr (3, [.int (nI (A 1)), .int (nI 4), .int (nI 5), .ref (s 4)])), (s 4, ia Z 30 (ni Sn)), (s 5, .inr (3, [.int (nI (A 2)), .int (nI 5), .int (nI 6), .ref (s 6)])), (s 6, ia Z 30 (ni Nt)), (s 7, .inr (3, [.int (nI (A 3)), .int (nI 5), .int (nI 6), .ref (s 8)])), (s 8, ia Z 30 (ni Mk))] 0 0
  obtain ⟨hw, ⟨g1, g2, g3, g4, g8⟩, hrs, hrn, hrm, hpst⟩ := id hg
  obtain ⟨⟨w1, w2, w3, w4, w5, w6⟩, hb, wr, wh, wd⟩ := id hw
  obtain ⟨hR, hX⟩ := id hA
  obtain ⟨hP, hSn, hNt, hMk⟩ := id hX
  have hbk := hb ((58 + 4 * k + 1))
  have hbk := hb ((58 + 4 * k + 2))
  have hbk := hb ((58 + 4 * k + 3))
  have hbk := hb ((58 + 4 * k + 4))
  have h3 := hrs k hk
  have hk5 := wh s1 (by omega)
  refine j_aload_n hJ (q := 1) dX8_rowFits_0 rfl 3 rfl rfl ?_
  refine j_iload hJ (q := 3) dX8_rowFits_1 4 rfl rfl ?_
  refine j_iconst hJ (q := 4) dX8_rowFits_3 rfl ki_1 ?_
  refine j_vR hJ (q := 7) (rest := []) (As := [.int (nI k), .int (nI 1)]) jl_X8_293 (c_X5_atA Z (s 3) (s 4) (A 1) 4 5 Sn A 58 k 1 hSn (by omega) (by omega)) 11 rfl rfl dX8_rowFits_4 rfl (by decide) (Nat.le_of_ble_eq_true rfl) [11, 12] rfl rfl (fun rv hp => ?_)
  obtain rfl := hp
  show J 7 [(0, .ref h), (1, .int (nI 0)), (2, .int (nI s1)), (3, .ref (s 3)), (4, .int (nI k)), (5, .int (nI g))] [.int (nI (A (58 + (4 * k + 1))))] [xO h u ab be (Rf 0) (Rf 1) (Rf 2), (u 0, .inr (4, [.ref (s 0), .ref (s 1), .ref (s 3), .ref (s 5), .ref (s 7)])), cO (s 0) q (A 21) (A 5) (A 6) (A 7) (A 8) (A 0), (q 0, ia Z 12 (ni K)), (q 1, ia Z 12 (ni P)), (q 2, ia Z 6 (ni kd)), (q 3, ia Z 6 (ni am)), (q 4, ia Z 6 (ni st)), (q 5, ia Z 6 (ni rg)), (s 1, .inr (1, [.int (nI (A 4)), .ref (s 2)])), (s 2, ia Z 128 (ni Ro)), (s 3, .inr (3, [.int (nI (A 1)), .int (nI 4), .int (nI 5), .ref (s 4)])), (s 4, ia Z 30 (ni Sn)), (s 5, .inr (3, [.int (nI (A 2)), .int (nI 5), .int (nI 6), .ref (s 6)])), (s 6, ia Z 30 (ni Nt)), (s 7, .inr (3, [.int (nI (A 3)), .int (nI 5), .int (nI 6), .ref (s 8)])), (s 8, ia Z 30 (ni Mk))] 0 0
  refine j_top (congrArg nI (congrArg A (show 58 + (4 * k + 1) = 58 + 4 * k + 1 by omega))) ?_
  refine j_istore hJ (q := 9) (lvs' := [(6, .int (nI (A (58 + 4 * k + 1)))), (0, .ref h), (1, .int (nI 0)), (2, .int (nI s1)), (3, .ref (s 3)), (4, .int (nI k)), (5, .int (nI g))]) dX8_rowFits_7 (by decide) rfl rfl ?_
  refine j_aload_n hJ (q := 10) dX8_rowFits_9 rfl 4 rfl rfl ?_
  refine j_iload hJ (q := 12) dX8_rowFits_10 5 rfl rfl ?_
  refine j_iconst hJ (q := 13) dX8_rowFits_12 rfl ki_2 ?_
  refine j_vR hJ (q := 16) (rest := []) (As := [.int (nI k), .int (nI 2)]) jl_X8_293 (c_X5_atA Z (s 3) (s 4) (A 1) 4 5 Sn A 58 k 2 hSn (by omega) (by omega)) 11 rfl rfl dX8_rowFits_13 rfl (by decide) (Nat.le_of_ble_eq_true rfl) [11, 12] rfl rfl (fun rv hp => ?_)
  obtain rfl := hp
  show J 16 [(6, .int (nI (A (58 + 4 * k + 1)))), (0, .ref h), (1, .int (nI 0)), (2, .int (nI s1)), (3, .ref (s 3)), (4, .int (nI k)), (5, .int (nI g))] [.int (nI (A (58 + (4 * k + 2))))] [xO h u ab be (Rf 0) (Rf 1) (Rf 2), (u 0, .inr (4, [.ref (s 0), .ref (s 1), .ref (s 3), .ref (s 5), .ref (s 7)])), cO (s 0) q (A 21) (A 5) (A 6) (A 7) (A 8) (A 0), (q 0, ia Z 12 (ni K)), (q 1, ia Z 12 (ni P)), (q 2, ia Z 6 (ni kd)), (q 3, ia Z 6 (ni am)), (q 4, ia Z 6 (ni st)), (q 5, ia Z 6 (ni rg)), (s 1, .inr (1, [.int (nI (A 4)), .ref (s 2)])), (s 2, ia Z 128 (ni Ro)), (s 3, .inr (3, [.int (nI (A 1)), .int (nI 4), .int (nI 5), .ref (s 4)])), (s 4, ia Z 30 (ni Sn)), (s 5, .inr (3, [.int (nI (A 2)), .int (nI 5), .int (nI 6), .ref (s 6)])), (s 6, ia Z 30 (ni Nt)), (s 7, .inr (3, [.int (nI (A 3)), .int (nI 5), .int (nI 6), .ref (s 8)])), (s 8, ia Z 30 (ni Mk))] 0 0
  refine j_top (congrArg nI (congrArg A (show 58 + (4 * k + 2) = 58 + 4 * k + 2 by omega))) ?_
  refine j_istore hJ (q := 18) (lvs' := [(7, .int (nI (A (58 + 4 * k + 2)))), (6, .int (nI (A (58 + 4 * k + 1)))), (0, .ref h), (1, .int (nI 0)), (2, .int (nI s1)), (3, .ref (s 3)), (4, .int (nI k)), (5, .int (nI g))]) dX8_rowFits_16 (by decide) rfl rfl ?_
  refine j_aload_n hJ (q := 19) dX8_rowFits_18 rfl 5 rfl rfl ?_
  refine j_iload hJ (q := 21) dX8_rowFits_19 6 rfl rfl ?_
  refine j_iconst hJ (q := 22) dX8_rowFits_21 rfl ki_3 ?_
  refine j_vR hJ (q := 25) (rest := []) (As := [.int (nI k), .int (nI 3)]) jl_X8_293 (c_X5_atA Z (s 3) (s 4) (A 1) 4 5 Sn A 58 k 3 hSn (by omega) (by omega)) 11 rfl rfl dX8_rowFits_22 rfl (by decide) (Nat.le_of_ble_eq_true rfl) [11, 12] rfl rfl (fun rv hp => ?_)
  obtain rfl := hp
  show J 25 [(7, .int (nI (A (58 + 4 * k + 2)))), (6, .int (nI (A (58 + 4 * k + 1)))), (0, .ref h), (1, .int (nI 0)), (2, .int (nI s1)), (3, .ref (s 3)), (4, .int (nI k)), (5, .int (nI g))] [.int (nI (A (58 + (4 * k + 3))))] [xO h u ab be (Rf 0) (Rf 1) (Rf 2), (u 0, .inr (4, [.ref (s 0), .ref (s 1), .ref (s 3), .ref (s 5), .ref (s 7)])), cO (s 0) q (A 21) (A 5) (A 6) (A 7) (A 8) (A 0), (q 0, ia Z 12 (ni K)), (q 1, ia Z 12 (ni P)), (q 2, ia Z 6 (ni kd)), (q 3, ia Z 6 (ni am)), (q 4, ia Z 6 (ni st)), (q 5, ia Z 6 (ni rg)), (s 1, .inr (1, [.int (nI (A 4)), .ref (s 2)])), (s 2, ia Z 128 (ni Ro)), (s 3, .inr (3, [.int (nI (A 1)), .int (nI 4), .int (nI 5), .ref (s 4)])), (s 4, ia Z 30 (ni Sn)), (s 5, .inr (3, [.int (nI (A 2)), .int (nI 5), .int (nI 6), .ref (s 6)])), (s 6, ia Z 30 (ni Nt)), (s 7, .inr (3, [.int (nI (A 3)), .int (nI 5), .int (nI 6), .ref (s 8)])), (s 8, ia Z 30 (ni Mk))] 0 0
  refine j_top (congrArg nI (congrArg A (show 58 + (4 * k + 3) = 58 + 4 * k + 3 by omega))) ?_
  refine j_istore hJ (q := 27) (lvs' := [(8, .int (nI (A (58 + 4 * k + 3)))), (7, .int (nI (A (58 + 4 * k + 2)))), (6, .int (nI (A (58 + 4 * k + 1)))), (0, .ref h), (1, .int (nI 0)), (2, .int (nI s1)), (3, .ref (s 3)), (4, .int (nI k)), (5, .int (nI g))]) dX8_rowFits_25 (by decide) rfl rfl ?_
  refine j_iload_n hJ (q := 28) dX8_rowFits_27 rfl 4 rfl rfl ?_
  refine jn_lookup hJ (q := 56) (k := 0) (off := 28) dX8_rowFits_28 (by decide) (by decide) (by decide) ?_
  refine j_aload_n hJ (q := 57) dX8_rowFits_56 rfl 3 rfl rfl ?_
  refine j_get hJ (q := 60) jf_X8_10 dX8_rowFits_57 0 rfl rfl rfl ?_
  refine j_get hJ (q := 63) jf_X8_66 dX8_rowFits_60 1 rfl rfl rfl ?_
  refine j_get hJ (q := 66) jf_X8_84 dX8_rowFits_63 2 rfl rfl rfl ?_
  refine j_iload_n hJ (q := 67) dX8_rowFits_66 rfl 5 rfl rfl ?_
  refine j_ialdN hJ (q := 68) (z := nI (K s1)) dX8_rowFits_67 3 rfl (by omega) (by decide) rfl rfl ?_
  refine j_top (congrArg nI (rR_K hR (i := s1) (by omega))) ?_
  refine j_iload hJ (q := 70) dX8_rowFits_68 2 rfl rfl ?_
  refine j_iload hJ (q := 72) dX8_rowFits_70 8 rfl rfl ?_
  refine j_iload hJ (q := 74) dX8_rowFits_72 1 rfl rfl ?_
  refine j_sR hJ (q := 77) (rest := []) (As := [.int (nI (A (34 + s1))), .int (nI (A (58 + 4 * k + 1))), .int (nI g), .int (nI (A (58 + 4 * k + 2)))]) jl_X8_300 (c_X1_high Z (A (34 + s1)) (A (58 + 4 * k + 1)) g (A (58 + 4 * k + 2)) (by omega) (by omega) (by omega) (by omega)) dX8_rowFits_74 rfl (by decide) (Nat.le_of_ble_eq_true rfl) [] rfl rfl (fun rv hp => ?_)
  obtain rfl := hp
  show J 77 [(8, .int (nI (A (58 + 4 * k + 3)))), (7, .int (nI (A (58 + 4 * k + 2)))), (6, .int (nI (A (58 + 4 * k + 1)))), (0, .ref h), (1, .int (nI 0)), (2, .int (nI s1)), (3, .ref (s 3)), (4, .int (nI k)), (5, .int (nI g))] [.int (nI (hgh (A (34 + s1)) g (A (58 + 4 * k + 1)) (A (58 + 4 * k + 2))))] [xO h u ab be (Rf 0) (Rf 1) (Rf 2), (u 0, .inr (4, [.ref (s 0), .ref (s 1), .ref (s 3), .ref (s 5), .ref (s 7)])), cO (s 0) q (A 21) (A 5) (A 6) (A 7) (A 8) (A 0), (q 0, ia Z 12 (ni K)), (q 1, ia Z 12 (ni P)), (q 2, ia Z 6 (ni kd)), (q 3, ia Z 6 (ni am)), (q 4, ia Z 6 (ni st)), (q 5, ia Z 6 (ni rg)), (s 1, .inr (1, [.int (nI (A 4)), .ref (s 2)])), (s 2, ia Z 128 (ni Ro)), (s 3, .inr (3, [.int (nI (A 1)), .int (nI 4), .int (nI 5), .ref (s 4)])), (s 4, ia Z 30 (ni Sn)), (s 5, .inr (3, [.int (nI (A 2)), .int (nI 5), .int (nI 6), .ref (s 6)])), (s 6, ia Z 30 (ni Nt)), (s 7, .inr (3, [.int (nI (A 3)), .int (nI 5), .int (nI 6), .ref (s 8)])), (s 8, ia Z 30 (ni Mk))] 0 0
  have hgl : hgh (A (34 + s1)) g (A (58 + 4 * k + 1)) (A (58 + 4 * k + 2)) ≤ 10 := hgh_le h3
  refine j_iload hJ (q := 79) dX8_rowFits_77 0 rfl rfl ?_
  refine jn_icmp_ne hJ (q := 82) (tgt := 86) dX8_rowFits_79 (by decide) rfl (by omega) (by omega) (fun c1 => ?_) (fun c1 => ?_)
  · skip
    refine j_iconst hJ (q := 87) dX8_rowFits_86 rfl ki_0 ?_
    exact hE.1 _ _ _ _ _ _ _ rfl rfl dX8_rowFits_87 (Nat.le_refl _) (Nat.le_refl _) (congrArg (fun z => some (Value.int z)) (bI_f (by assumption)))
  · skip
    refine j_iconst hJ (q := 83) dX8_rowFits_82 rfl ki_1 ?_
    refine j_goto hJ (q := 87) dX8_rowFits_83 (by decide) ?_
    exact hE.1 _ _ _ _ _ _ _ rfl rfl dX8_rowFits_87 (Nat.le_refl _) (Nat.le_refl _) (congrArg (fun z => some (Value.int z)) (bI_t (by assumption)))

set_option maxHeartbeats 4000000 in
set_option maxRecDepth 100000 in
theorem c_X8_allFits0 (Z : jZ) (h : Nat) (u : Nat → Nat) (ab : Int) (be : Int) (Rf : Nat → Nat) (s : Nat → Nat) (q : Nat → Nat) (A : Nat → Nat) (K : Nat → Nat) (P : Nat → Nat) (kd : Nat → Nat) (am : Nat → Nat) (st : Nat → Nat) (rg : Nat → Nat) (Ro : Nat → Nat) (Sn : Nat → Nat) (Nt : Nat → Nat) (Mk : Nat → Nat) (s1 : Nat) (g : Nat) (hg : wg A) (hA : rA A K P kd am st rg Ro Sn Nt Mk) (h1 : s1 < A 21) (h2 : g ≤ 7) : CR Z yX8_allFits cX8_allFits 6 ((some FieldType.boolean)) 3 [.ref h, .int (nI 0), .int (nI s1), .int (nI g)] [xO h u ab be (Rf 0) (Rf 1) (Rf 2), (u 0, .inr (4, [.ref (s 0), .ref (s 1), .ref (s 3), .ref (s 5), .ref (s 7)])), cO (s 0) q (A 21) (A 5) (A 6) (A 7) (A 8) (A 0), (q 0, ia Z 12 (ni K)), (q 1, ia Z 12 (ni P)), (q 2, ia Z 6 (ni kd)), (q 3, ia Z 6 (ni am)), (q 4, ia Z 6 (ni st)), (q 5, ia Z 6 (ni rg)), (s 1, .inr (1, [.int (nI (A 4)), .ref (s 2)])), (s 2, ia Z 128 (ni Ro)), (s 3, .inr (3, [.int (nI (A 1)), .int (nI 4), .int (nI 5), .ref (s 4)])), (s 4, ia Z 30 (ni Sn)), (s 5, .inr (3, [.int (nI (A 2)), .int (nI 5), .int (nI 6), .ref (s 6)])), (s 6, ia Z 30 (ni Nt)), (s 7, .inr (3, [.int (nI (A 3)), .int (nI 5), .int (nI 6), .ref (s 8)])), (s 8, ia Z 30 (ni Mk))] (fun rr => rr = some (.int (bI (okN A s1 g (A 1))))) := by
  refine CR.of RX8 rfl (by decide +kernel) (Nat.le_of_ble_eq_true rfl) ?_
  intro J hJ hE
  show J 0 [(0, .ref h), (1, .int (nI 0)), (2, .int (nI s1)), (3, .int (nI g))] [] [xO h u ab be (Rf 0) (Rf 1) (Rf 2), (u 0, .inr (4, [.ref (s 0), .ref (s 1), .ref (s 3), .ref (s 5), .ref (s 7)])), cO (s 0) q (A 21) (A 5) (A 6) (A 7) (A 8) (A 0), (q 0, ia Z 12 (ni K)), (q 1, ia Z 12 (ni P)), (q 2, ia Z 6 (ni kd)), (q 3, ia Z 6 (ni am)), (q 4, ia Z 6 (ni st)), (q 5, ia Z 6 (ni rg)), (s 1, .inr (1, [.int (nI (A 4)), .ref (s 2)])), (s 2, ia Z 128 (ni Ro)), (s 3, .inr (3, [.int (nI (A 1)), .int (nI 4), .int (nI 5), .ref (s 4)])), (s 4, ia Z 30 (ni Sn)), (s 5, .inr (3, [.int (nI (A 2)), .int (nI 5), .int (nI 6), .ref (s 6)])), (s 6, ia Z 30 (ni Nt)), (s 7, .inr (3, [.int (nI (A 3)), .int (nI 5), .int (nI 6), .ref (s 8)])), (s 8, ia Z 30 (ni Mk))] 0 0
  obtain ⟨hw, ⟨g1, g2, g3, g4, g8⟩, hrs, hrn, hrm, hpst⟩ := id hg
  obtain ⟨⟨w1, w2, w3, w4, w5, w6⟩, hb, wr, wh, wd⟩ := id hw
  obtain ⟨hR, hX⟩ := id hA
  obtain ⟨hP, hSn, hNt, hMk⟩ := id hX
  refine j_iload_n hJ (q := 1) dX8_allFits_0 rfl 1 rfl rfl ?_
  refine jn_if_ne hJ (q := 4) (tgt := 14) dX8_allFits_1 (by decide) rfl (by omega) (fun c1 => ?_) (fun c1 => ?_)
  · skip
    exfalso; omega
  · skip
    refine j_aload_n hJ (q := 5) dX8_allFits_4 rfl 0 rfl rfl ?_
    refine j_get hJ (q := 8) jf_X8_10 dX8_allFits_5 0 rfl rfl rfl ?_
    refine j_get hJ (q := 11) jf_X8_196 dX8_allFits_8 1 rfl rfl rfl ?_
    refine j_goto hJ (q := 36) dX8_allFits_11 (by decide) ?_
    refine j_astore hJ (q := 38) (lvs' := [(4, .ref (s 3)), (0, .ref h), (1, .int (nI 0)), (2, .int (nI s1)), (3, .int (nI g))]) dX8_allFits_36 (by decide) rfl rfl ?_
    refine j_iconst hJ (q := 39) dX8_allFits_38 rfl ki_0 ?_
    refine j_istore hJ (q := 41) (lvs' := [(5, .int (nI 0)), (4, .ref (s 3)), (0, .ref h), (1, .int (nI 0)), (2, .int (nI s1)), (3, .int (nI g))]) dX8_allFits_39 (by decide) rfl rfl ?_
    have L_41 : ∀ (fu_41 : Nat) (k : Nat), A 1 - k < fu_41 → (k ≤ A 1) → (okN A s1 g k = true) → J 41 [(0, .ref h), (1, .int (nI 0)), (2, .int (nI s1)), (3, .int (nI g)), (4, .ref (s 3)), (5, .int (nI k))] [] [xO h u ab be (Rf 0) (Rf 1) (Rf 2), (u 0, .inr (4, [.ref (s 0), .ref (s 1), .ref (s 3), .ref (s 5), .ref (s 7)])), cO (s 0) q (A 21) (A 5) (A 6) (A 7) (A 8) (A 0), (q 0, ia Z 12 (ni K)), (q 1, ia Z 12 (ni P)), (q 2, ia Z 6 (ni kd)), (q 3, ia Z 6 (ni am)), (q 4, ia Z 6 (ni st)), (q 5, ia Z 6 (ni rg)), (s 1, .inr (1, [.int (nI (A 4)), .ref (s 2)])), (s 2, ia Z 128 (ni Ro)), (s 3, .inr (3, [.int (nI (A 1)), .int (nI 4), .int (nI 5), .ref (s 4)])), (s 4, ia Z 30 (ni Sn)), (s 5, .inr (3, [.int (nI (A 2)), .int (nI 5), .int (nI 6), .ref (s 6)])), (s 6, ia Z 30 (ni Nt)), (s 7, .inr (3, [.int (nI (A 3)), .int (nI 5), .int (nI 6), .ref (s 8)])), (s 8, ia Z 30 (ni Mk))] 0 0 := by
      intro fu_41
      induction fu_41 with
      | zero => intro k hm; exact absurd hm (Nat.not_lt_zero _)
      | succ fu_41 ih_41 =>
        intro k hm_41 hk hok
        refine j_iload hJ (q := 43) dX8_allFits_41 5 rfl rfl ?_
        refine j_aload hJ (q := 45) dX8_allFits_43 4 rfl rfl ?_
        refine j_get hJ (q := 48) jf_X8_210 dX8_allFits_45 11 rfl rfl rfl ?_
        refine jn_icmp_ge hJ (q := 51) (tgt := 85) dX8_allFits_48 (by decide) rfl (by omega) (by omega) (fun c2 => ?_) (fun c2 => ?_)
        · skip
          refine j_iconst hJ (q := 86) dX8_allFits_85 rfl ki_1 ?_
          exact hE.1 _ _ _ _ _ _ _ rfl rfl dX8_allFits_86 (Nat.le_refl _) (Nat.le_refl _) (congrArg (fun z => some (Value.int (bI z))) (show true = (okN A s1 g (A 1)) by rw [show A 1 = k by omega]; exact hok.symm))
        · skip
          refine j_aload hJ (q := 53) dX8_allFits_51 4 rfl rfl ?_
          refine j_iload hJ (q := 55) dX8_allFits_53 5 rfl rfl ?_
          refine j_iconst hJ (q := 56) dX8_allFits_55 rfl ki_0 ?_
          refine j_vR hJ (q := 59) (rest := []) (As := [.int (nI k), .int (nI 0)]) jl_X8_293 (c_X5_atA Z (s 3) (s 4) (A 1) 4 5 Sn A 58 k 0 hSn (by omega) (by omega)) 11 rfl rfl dX8_allFits_56 rfl (by decide) (Nat.le_of_ble_eq_true rfl) [11, 12] rfl rfl (fun rv hp => ?_)
          obtain rfl := hp
          show J 59 [(0, .ref h), (1, .int (nI 0)), (2, .int (nI s1)), (3, .int (nI g)), (4, .ref (s 3)), (5, .int (nI k))] [.int (nI (A (58 + (4 * k + 0))))] [xO h u ab be (Rf 0) (Rf 1) (Rf 2), (u 0, .inr (4, [.ref (s 0), .ref (s 1), .ref (s 3), .ref (s 5), .ref (s 7)])), cO (s 0) q (A 21) (A 5) (A 6) (A 7) (A 8) (A 0), (q 0, ia Z 12 (ni K)), (q 1, ia Z 12 (ni P)), (q 2, ia Z 6 (ni kd)), (q 3, ia Z 6 (ni am)), (q 4, ia Z 6 (ni st)), (q 5, ia Z 6 (ni rg)), (s 1, .inr (1, [.int (nI (A 4)), .ref (s 2)])), (s 2, ia Z 128 (ni Ro)), (s 3, .inr (3, [.int (nI (A 1)), .int (nI 4), .int (nI 5), .ref (s 4)])), (s 4, ia Z 30 (ni Sn)), (s 5, .inr (3, [.int (nI (A 2)), .int (nI 5), .int (nI 6), .ref (s 6)])), (s 6, ia Z 30 (ni Nt)), (s 7, .inr (3, [.int (nI (A 3)), .int (nI 5), .int (nI 6), .ref (s 8)])), (s 8, ia Z 30 (ni Mk))] 0 0
          have hbk := hb ((58 + 4 * k))
          refine j_top (congrArg nI (congrArg A (show 58 + (4 * k + 0) = 58 + 4 * k by omega))) ?_
          refine j_iload_n hJ (q := 60) dX8_allFits_59 rfl 2 rfl rfl ?_
          refine jn_icmp_ne hJ (q := 63) (tgt := 79) dX8_allFits_60 (by decide) rfl (by omega) (by omega) (fun c3 => ?_) (fun c3 => ?_)
          · skip
            refine j_iinc hJ (q := 82) (lvs' := [(5, .int (nI (k + 1))), (0, .ref h), (1, .int (nI 0)), (2, .int (nI s1)), (3, .int (nI g)), (4, .ref (s 3))]) dX8_allFits_79 5 rfl (by rw [show Int32.ofInt 1 = nI 1 from by decide +kernel]; exact nI_add _ _) (by decide) rfl rfl ?_
            refine j_goto hJ (q := 41) dX8_allFits_82 (by decide) ?_
            refine j_locals hJ [1, 2, 3, 4, 5, 0] rfl ?_
            exact ih_41 (k + 1) (by omega) (by omega) (by first | exact okN_y1 hok (by assumption) | exact okN_y2 hok (by assumption))
          · skip
            refine j_aload_n hJ (q := 64) dX8_allFits_63 rfl 0 rfl rfl ?_
            refine j_iload_n hJ (q := 65) dX8_allFits_64 rfl 1 rfl rfl ?_
            refine j_iload_n hJ (q := 66) dX8_allFits_65 rfl 2 rfl rfl ?_
            refine j_aload hJ (q := 68) dX8_allFits_66 4 rfl rfl ?_
            refine j_iload hJ (q := 70) dX8_allFits_68 5 rfl rfl ?_
            refine j_iload_n hJ (q := 71) dX8_allFits_70 rfl 3 rfl rfl ?_
            refine j_vR hJ (q := 74) (rest := []) (As := [.int (nI 0), .int (nI s1), .ref (s 3), .int (nI k), .int (nI g)]) jl_X8_296 (c_X8_rowFits0 Z h u ab be Rf s q A K P kd am st rg Ro Sn Nt Mk s1 k g hg hA (by omega) (by omega) (by omega)) 0 rfl rfl dX8_allFits_71 rfl (by decide) (Nat.le_of_ble_eq_true rfl) [0, 1, 2, 3, 4, 5, 6, 7, 8, 9, 10, 11, 12, 13, 14, 15, 16] rfl rfl (fun rv hp => ?_)
            obtain rfl := hp
            show J 74 [(0, .ref h), (1, .int (nI 0)), (2, .int (nI s1)), (3, .int (nI g)), (4, .ref (s 3)), (5, .int (nI k))] [.int (bI (decide (hgh (A (34 + s1)) g (A (58 + 4 * k + 1)) (A (58 + 4 * k + 2)) = A (58 + 4 * k + 3))))] [xO h u ab be (Rf 0) (Rf 1) (Rf 2), (u 0, .inr (4, [.ref (s 0), .ref (s 1), .ref (s 3), .ref (s 5), .ref (s 7)])), cO (s 0) q (A 21) (A 5) (A 6) (A 7) (A 8) (A 0), (q 0, ia Z 12 (ni K)), (q 1, ia Z 12 (ni P)), (q 2, ia Z 6 (ni kd)), (q 3, ia Z 6 (ni am)), (q 4, ia Z 6 (ni st)), (q 5, ia Z 6 (ni rg)), (s 1, .inr (1, [.int (nI (A 4)), .ref (s 2)])), (s 2, ia Z 128 (ni Ro)), (s 3, .inr (3, [.int (nI (A 1)), .int (nI 4), .int (nI 5), .ref (s 4)])), (s 4, ia Z 30 (ni Sn)), (s 5, .inr (3, [.int (nI (A 2)), .int (nI 5), .int (nI 6), .ref (s 6)])), (s 6, ia Z 30 (ni Nt)), (s 7, .inr (3, [.int (nI (A 3)), .int (nI 5), .int (nI 6), .ref (s 8)])), (s 8, ia Z 30 (ni Mk))] 0 0
            refine jp_if_ne hJ (q := 77) (tgt := 79) dX8_allFits_74 (by decide) rfl (fun c4 => ?_) (fun c4 => ?_)
            · skip
              refine j_iinc hJ (q := 82) (lvs' := [(5, .int (nI (k + 1))), (0, .ref h), (1, .int (nI 0)), (2, .int (nI s1)), (3, .int (nI g)), (4, .ref (s 3))]) dX8_allFits_79 5 rfl (by rw [show Int32.ofInt 1 = nI 1 from by decide +kernel]; exact nI_add _ _) (by decide) rfl rfl ?_
              refine j_goto hJ (q := 41) dX8_allFits_82 (by decide) ?_
              refine j_locals hJ [1, 2, 3, 4, 5, 0] rfl ?_
              exact ih_41 (k + 1) (by omega) (by omega) (by first | exact okN_y1 hok (by assumption) | exact okN_y2 hok (by assumption))
            · skip
              refine j_iconst hJ (q := 78) dX8_allFits_77 rfl ki_0 ?_
              exact hE.1 _ _ _ _ _ _ _ rfl rfl dX8_allFits_78 (Nat.le_refl _) (Nat.le_refl _) (congrArg (fun z => some (Value.int (bI z))) (show false = (okN A s1 g (A 1)) by exact (okN_no (k := k) (by omega) (by assumption) (by assumption)).symm))
    refine j_locals hJ [2, 3, 4, 5, 1, 0] rfl ?_
    exact L_41 ((A 1 - 0) + 1) 0 (Nat.lt_succ_self _) (by omega) rfl

set_option maxHeartbeats 4000000 in
set_option maxRecDepth 100000 in
theorem c_X8_thoseThatFit0 (Z : jZ) (h : Nat) (u : Nat → Nat) (ab : Int) (be : Int) (Rf : Nat → Nat) (s : Nat → Nat) (q : Nat → Nat) (A : Nat → Nat) (K : Nat → Nat) (P : Nat → Nat) (kd : Nat → Nat) (am : Nat → Nat) (st : Nat → Nat) (rg : Nat → Nat) (Ro : Nat → Nat) (Sn : Nat → Nat) (Nt : Nat → Nat) (Mk : Nat → Nat) (s1 : Nat) (hg : wg A) (hA : rA A K P kd am st rg Ro Sn Nt Mk) (h1 : s1 < A 21) : CR Z yX8_thoseThatFit cX8_thoseThatFit 5 ((some FieldType.int)) 4 [.ref h, .int (nI 0), .int (nI s1)] [xO h u ab be (Rf 0) (Rf 1) (Rf 2), (u 0, .inr (4, [.ref (s 0), .ref (s 1), .ref (s 3), .ref (s 5), .ref (s 7)])), cO (s 0) q (A 21) (A 5) (A 6) (A 7) (A 8) (A 0), (q 0, ia Z 12 (ni K)), (q 1, ia Z 12 (ni P)), (q 2, ia Z 6 (ni kd)), (q 3, ia Z 6 (ni am)), (q 4, ia Z 6 (ni st)), (q 5, ia Z 6 (ni rg)), (s 1, .inr (1, [.int (nI (A 4)), .ref (s 2)])), (s 2, ia Z 128 (ni Ro)), (s 3, .inr (3, [.int (nI (A 1)), .int (nI 4), .int (nI 5), .ref (s 4)])), (s 4, ia Z 30 (ni Sn)), (s 5, .inr (3, [.int (nI (A 2)), .int (nI 5), .int (nI 6), .ref (s 6)])), (s 6, ia Z 30 (ni Nt)), (s 7, .inr (3, [.int (nI (A 3)), .int (nI 5), .int (nI 6), .ref (s 8)])), (s 8, ia Z 30 (ni Mk))] (fun rr => rr = some (.int (nI (phs A s1)))) := by
  refine CR.of RX8 rfl (by decide +kernel) (Nat.le_of_ble_eq_true rfl) ?_
  intro J hJ hE
  show J 0 [(0, .ref h), (1, .int (nI 0)), (2, .int (nI s1))] [] [xO h u ab be (Rf 0) (Rf 1) (Rf 2), (u 0, .inr (4, [.ref (s 0), .ref (s 1), .ref (s 3), .ref (s 5), .ref (s 7)])), cO (s 0) q (A 21) (A 5) (A 6) (A 7) (A 8) (A 0), (q 0, ia Z 12 (ni K)), (q 1, ia Z 12 (ni P)), (q 2, ia Z 6 (ni kd)), (q 3, ia Z 6 (ni am)), (q 4, ia Z 6 (ni st)), (q 5, ia Z 6 (ni rg)), (s 1, .inr (1, [.int (nI (A 4)), .ref (s 2)])), (s 2, ia Z 128 (ni Ro)), (s 3, .inr (3, [.int (nI (A 1)), .int (nI 4), .int (nI 5), .ref (s 4)])), (s 4, ia Z 30 (ni Sn)), (s 5, .inr (3, [.int (nI (A 2)), .int (nI 5), .int (nI 6), .ref (s 6)])), (s 6, ia Z 30 (ni Nt)), (s 7, .inr (3, [.int (nI (A 3)), .int (nI 5), .int (nI 6), .ref (s 8)])), (s 8, ia Z 30 (ni Mk))] 0 0
  obtain ⟨hw, ⟨g1, g2, g3, g4, g8⟩, hrs, hrn, hrm, hpst⟩ := id hg
  obtain ⟨⟨w1, w2, w3, w4, w5, w6⟩, hb, wr, wh, wd⟩ := id hw
  refine j_iconst hJ (q := 1) dX8_thoseThatFit_0 rfl ki_0 ?_
  refine j_istore_n hJ (q := 2) (lvs' := [(3, .int (nI 0)), (0, .ref h), (1, .int (nI 0)), (2, .int (nI s1))]) dX8_thoseThatFit_1 rfl (by decide) rfl rfl ?_
  refine j_iconst hJ (q := 3) dX8_thoseThatFit_2 rfl ki_0 ?_
  refine j_istore hJ (q := 5) (lvs' := [(4, .int (nI 0)), (3, .int (nI 0)), (0, .ref h), (1, .int (nI 0)), (2, .int (nI s1))]) dX8_thoseThatFit_3 (by decide) rfl rfl ?_
  have L_5 : ∀ (fu_5 : Nat) (ft : Nat) (g : Nat), 8 - g < fu_5 → (g ≤ 8) → (ft = orN (fun p => okN A s1 p (A 1)) g) → J 5 [(0, .ref h), (1, .int (nI 0)), (2, .int (nI s1)), (3, .int (nI ft)), (4, .int (nI g))] [] [xO h u ab be (Rf 0) (Rf 1) (Rf 2), (u 0, .inr (4, [.ref (s 0), .ref (s 1), .ref (s 3), .ref (s 5), .ref (s 7)])), cO (s 0) q (A 21) (A 5) (A 6) (A 7) (A 8) (A 0), (q 0, ia Z 12 (ni K)), (q 1, ia Z 12 (ni P)), (q 2, ia Z 6 (ni kd)), (q 3, ia Z 6 (ni am)), (q 4, ia Z 6 (ni st)), (q 5, ia Z 6 (ni rg)), (s 1, .inr (1, [.int (nI (A 4)), .ref (s 2)])), (s 2, ia Z 128 (ni Ro)), (s 3, .inr (3, [.int (nI (A 1)), .int (nI 4), .int (nI 5), .ref (s 4)])), (s 4, ia Z 30 (ni Sn)), (s 5, .inr (3, [.int (nI (A 2)), .int (nI 5), .int (nI 6), .ref (s 6)])), (s 6, ia Z 30 (ni Nt)), (s 7, .inr (3, [.int (nI (A 3)), .int (nI 5), .int (nI 6), .ref (s 8)])), (s 8, ia Z 30 (ni Mk))] 0 0 := by
    intro fu_5
    induction fu_5 with
    | zero => intro ft g hm; exact absurd hm (Nat.not_lt_zero _)
    | succ fu_5 ih_5 =>
      intro ft g hm_5 hg1 hft
      have hp2 := pow_le8 (p := g) (by omega)
      refine j_iload hJ (q := 7) dX8_thoseThatFit_5 4 rfl rfl ?_
      refine j_iload_n hJ (q := 8) dX8_thoseThatFit_7 rfl 1 rfl rfl ?_
      refine j_sR hJ (q := 11) (rest := [.int (nI g)]) (As := [.int (nI 0)]) jl_X8_287 (c_X8_howManyGuessed0 Z  ) dX8_thoseThatFit_8 rfl (by decide) (Nat.le_of_ble_eq_true rfl) [] rfl rfl (fun rv hp => ?_)
      obtain rfl := hp
      show J 11 [(0, .ref h), (1, .int (nI 0)), (2, .int (nI s1)), (3, .int (nI ft)), (4, .int (nI g))] [.int (nI 8), .int (nI g)] [xO h u ab be (Rf 0) (Rf 1) (Rf 2), (u 0, .inr (4, [.ref (s 0), .ref (s 1), .ref (s 3), .ref (s 5), .ref (s 7)])), cO (s 0) q (A 21) (A 5) (A 6) (A 7) (A 8) (A 0), (q 0, ia Z 12 (ni K)), (q 1, ia Z 12 (ni P)), (q 2, ia Z 6 (ni kd)), (q 3, ia Z 6 (ni am)), (q 4, ia Z 6 (ni st)), (q 5, ia Z 6 (ni rg)), (s 1, .inr (1, [.int (nI (A 4)), .ref (s 2)])), (s 2, ia Z 128 (ni Ro)), (s 3, .inr (3, [.int (nI (A 1)), .int (nI 4), .int (nI 5), .ref (s 4)])), (s 4, ia Z 30 (ni Sn)), (s 5, .inr (3, [.int (nI (A 2)), .int (nI 5), .int (nI 6), .ref (s 6)])), (s 6, ia Z 30 (ni Nt)), (s 7, .inr (3, [.int (nI (A 3)), .int (nI 5), .int (nI 6), .ref (s 8)])), (s 8, ia Z 30 (ni Mk))] 0 0
      refine jn_icmp_ge hJ (q := 14) (tgt := 38) dX8_thoseThatFit_11 (by decide) rfl (by omega) (by omega) (fun c1 => ?_) (fun c1 => ?_)
      · skip
        refine j_iload_n hJ (q := 39) dX8_thoseThatFit_38 rfl 3 rfl rfl ?_
        exact hE.1 _ _ _ _ _ _ _ rfl rfl dX8_thoseThatFit_39 (Nat.le_refl _) (Nat.le_refl _) (congrArg (fun z => some (Value.int (nI z))) (by rw [hft, show g = 8 by omega]; rfl))
      · skip
        refine j_aload_n hJ (q := 15) dX8_thoseThatFit_14 rfl 0 rfl rfl ?_
        refine j_iload_n hJ (q := 16) dX8_thoseThatFit_15 rfl 1 rfl rfl ?_
        refine j_iload_n hJ (q := 17) dX8_thoseThatFit_16 rfl 2 rfl rfl ?_
        refine j_iload hJ (q := 19) dX8_thoseThatFit_17 4 rfl rfl ?_
        refine j_vR hJ (q := 22) (rest := []) (As := [.int (nI 0), .int (nI s1), .int (nI g)]) jl_X8_290 (c_X8_allFits0 Z h u ab be Rf s q A K P kd am st rg Ro Sn Nt Mk s1 g hg hA (by omega) (by omega)) 0 rfl rfl dX8_thoseThatFit_19 rfl (by decide) (Nat.le_of_ble_eq_true rfl) [0, 1, 2, 3, 4, 5, 6, 7, 8, 9, 10, 11, 12, 13, 14, 15, 16] rfl rfl (fun rv hp => ?_)
        obtain rfl := hp
        show J 22 [(0, .ref h), (1, .int (nI 0)), (2, .int (nI s1)), (3, .int (nI ft)), (4, .int (nI g))] [.int (bI (okN A s1 g (A 1)))] [xO h u ab be (Rf 0) (Rf 1) (Rf 2), (u 0, .inr (4, [.ref (s 0), .ref (s 1), .ref (s 3), .ref (s 5), .ref (s 7)])), cO (s 0) q (A 21) (A 5) (A 6) (A 7) (A 8) (A 0), (q 0, ia Z 12 (ni K)), (q 1, ia Z 12 (ni P)), (q 2, ia Z 6 (ni kd)), (q 3, ia Z 6 (ni am)), (q 4, ia Z 6 (ni st)), (q 5, ia Z 6 (ni rg)), (s 1, .inr (1, [.int (nI (A 4)), .ref (s 2)])), (s 2, ia Z 128 (ni Ro)), (s 3, .inr (3, [.int (nI (A 1)), .int (nI 4), .int (nI 5), .ref (s 4)])), (s 4, ia Z 30 (ni Sn)), (s 5, .inr (3, [.int (nI (A 2)), .int (nI 5), .int (nI 6), .ref (s 6)])), (s 6, ia Z 30 (ni Nt)), (s 7, .inr (3, [.int (nI (A 3)), .int (nI 5), .int (nI 6), .ref (s 8)])), (s 8, ia Z 30 (ni Mk))] 0 0
        refine jb_if_eq hJ (q := 25) (tgt := 32) dX8_thoseThatFit_22 (by decide) rfl (fun c2 => ?_) (fun c2 => ?_)
        · skip
          refine j_iinc hJ (q := 35) (lvs' := [(4, .int (nI (g + 1))), (0, .ref h), (1, .int (nI 0)), (2, .int (nI s1)), (3, .int (nI ft))]) dX8_thoseThatFit_32 4 rfl (by rw [show Int32.ofInt 1 = nI 1 from by decide +kernel]; exact nI_add _ _) (by decide) rfl rfl ?_
          refine j_goto hJ (q := 5) dX8_thoseThatFit_35 (by decide) ?_
          refine j_locals hJ [1, 2, 3, 4, 0] rfl ?_
          exact ih_5 ft (g + 1) (by omega) (by omega) (by simp only [orN]; rw [hft, if_neg (by simp_all), Nat.or_zero])
        · skip
          refine j_iload_n hJ (q := 26) dX8_thoseThatFit_25 rfl 3 rfl rfl ?_
          refine j_iconst hJ (q := 27) dX8_thoseThatFit_26 rfl ki_1 ?_
          refine j_iload hJ (q := 29) dX8_thoseThatFit_27 4 rfl rfl ?_
          refine j_ishl hJ (q := 30) dX8_thoseThatFit_29 rfl (nI_shl (by omega) (by omega)) ?_
          refine j_ior hJ (q := 31) dX8_thoseThatFit_30 rfl (nI_or _ _) ?_
          refine j_istore_n hJ (q := 32) (lvs' := [(3, .int (nI (ft ||| (1 * 2 ^ g)))), (0, .ref h), (1, .int (nI 0)), (2, .int (nI s1)), (4, .int (nI g))]) dX8_thoseThatFit_31 rfl (by decide) rfl rfl ?_
          refine j_iinc hJ (q := 35) (lvs' := [(4, .int (nI (g + 1))), (3, .int (nI (ft ||| (1 * 2 ^ g)))), (0, .ref h), (1, .int (nI 0)), (2, .int (nI s1))]) dX8_thoseThatFit_32 4 rfl (by rw [show Int32.ofInt 1 = nI 1 from by decide +kernel]; exact nI_add _ _) (by decide) rfl rfl ?_
          refine j_goto hJ (q := 5) dX8_thoseThatFit_35 (by decide) ?_
          refine j_locals hJ [2, 3, 4, 1, 0] rfl ?_
          exact ih_5 (ft ||| (1 * 2 ^ g)) (g + 1) (by omega) (by omega) (by simp only [orN]; rw [hft, if_pos (by assumption)])
  refine j_locals hJ [2, 3, 4, 1, 0] rfl ?_
  exact L_5 ((8 - 0) + 1) 0 0 (Nat.lt_succ_self _) (by omega) rfl

set_option maxHeartbeats 4000000 in
set_option maxRecDepth 100000 in
theorem c_X8_howManyGuessed1 (Z : jZ)   : CR Z yX8_howManyGuessed cX8_howManyGuessed 1 ((some FieldType.int)) 1 [.int (nI 1)] [] (fun rr => rr = some (.int (nI 6))) := by
  refine CR.of RX8 rfl (by decide +kernel) (Nat.le_of_ble_eq_true rfl) ?_
  intro J hJ hE
  show J 0 [(0, .int (nI 1))] [] [] 0 0
  refine j_iload_n hJ (q := 1) dX8_howManyGuessed_0 rfl 0 rfl rfl ?_
  refine jn_if_ne hJ (q := 4) (tgt := 9) dX8_howManyGuessed_1 (by decide) rfl (by omega) (fun c1 => ?_) (fun c1 => ?_)
  · skip
    refine j_bipush hJ (q := 11) dX8_howManyGuessed_9 rfl kb_6 ?_
    exact hE.1 _ _ _ _ _ _ _ rfl rfl dX8_howManyGuessed_11 (Nat.le_refl _) (Nat.le_refl _) (congrArg (fun z => some (Value.int (nI z))) (by rfl))
  · skip
    exfalso; omega

set_option maxHeartbeats 4000000 in
set_option maxRecDepth 100000 in
theorem c_X8_rowFits1 (Z : jZ) (h : Nat) (u : Nat → Nat) (ab : Int) (be : Int) (Rf : Nat → Nat) (s : Nat → Nat) (q : Nat → Nat) (A : Nat → Nat) (K : Nat → Nat) (P : Nat → Nat) (kd : Nat → Nat) (am : Nat → Nat) (st : Nat → Nat) (rg : Nat → Nat) (Ro : Nat → Nat) (Sn : Nat → Nat) (Nt : Nat → Nat) (Mk : Nat → Nat) (s1 : Nat) (k : Nat) (g : Nat) (hg : wg A) (hA : rA A K P kd am st rg Ro Sn Nt Mk) (hk : k < A 2) (h2 : g ≤ 5) : CR Z yX8_rowFits cX8_rowFits 9 ((some FieldType.boolean)) 2 [.ref h, .int (nI 1), .int (nI s1), .ref (s 5), .int (nI k), .int (nI g)] [xO h u ab be (Rf 0) (Rf 1) (Rf 2), (u 0, .inr (4, [.ref (s 0), .ref (s 1), .ref (s 3), .ref (s 5), .ref (s 7)])), cO (s 0) q (A 21) (A 5) (A 6) (A 7) (A 8) (A 0), (q 0, ia Z 12 (ni K)), (q 1, ia Z 12 (ni P)), (q 2, ia Z 6 (ni kd)), (q 3, ia Z 6 (ni am)), (q 4, ia Z 6 (ni st)), (q 5, ia Z 6 (ni rg)), (s 1, .inr (1, [.int (nI (A 4)), .ref (s 2)])), (s 2, ia Z 128 (ni Ro)), (s 3, .inr (3, [.int (nI (A 1)), .int (nI 4), .int (nI 5), .ref (s 4)])), (s 4, ia Z 30 (ni Sn)), (s 5, .inr (3, [.int (nI (A 2)), .int (nI 5), .int (nI 6), .ref (s 6)])), (s 6, ia Z 30 (ni Nt)), (s 7, .inr (3, [.int (nI (A 3)), .int (nI 5), .int (nI 6), .ref (s 8)])), (s 8, ia Z 30 (ni Mk))] (fun rr => rr = some (.int (bI (decide (rowv true g A (78 + 5 * k) = A (78 + 5 * k + 4)))))) := by
  refine CR.of RX8 rfl (by decide +kernel) (Nat.le_of_ble_eq_true rfl) ?_
  intro J hJ hE
  show J 0 [(0, .ref h), (1, .int (nI 1)), (2, .int (nI s1)), (3, .ref (s 5)), (4, .int (nI k)), (5, .int (nI g))] [] [xO h u ab be (Rf 0) (Rf 1) (Rf 2), (u 0, .inr (4, [.ref (s 0), .ref (s 1), .ref (s 3), .ref (s 5), .ref (s 7)])), cO (s 0) q (A 21) (A 5) (A 6) (A 7) (A 8) (A 0), (q 0, ia Z 12 (ni K)), (q 1, ia Z 12 (ni P)), (q 2, ia Z 6 (ni kd)), (q 3, ia Z 6 (ni am)), (q 4, ia Z 6 (ni st)), (q 5, ia Z 6 (ni rg)), (s 1, .inr (1, [.int (nI (A 4)), .ref (s 2)])), (s 2, ia Z 128 (ni Ro)), (s 3, .inr (3, [.int (nI (A 1)), .int (nI 4), .int (nI 5), .ref (s 4)])), (s 4, ia Z 30 (ni Sn)), (s 5, .inr (3, [.int (nI (A 2)), .int (nI 5), .int (nI 6), .ref (s 6)])), (s 6, ia Z 30 (ni Nt)), (s 7, .inr (3, [.int (nI (A 3)), .int (nI 5), .int (nI 6), .ref (s 8)])), (s 8, ia Z 30 (ni Mk))] 0 0
  obtain ⟨hw, ⟨g1, g2, g3, g4, g8⟩, hrs, hrn, hrm, hpst⟩ := id hg
  obtain ⟨⟨w1, w2, w3, w4, w5, w6⟩, hb, wr, wh, wd⟩ := id hw
  obtain ⟨hR, hX⟩ := id hA
  obtain ⟨hP, hSn, hNt, hMk⟩ := id hX
  have hbk := hb ((78 + 5 * k + 1))
  have hbk := hb ((78 + 5 * k + 2))
  have hbk := hb ((78 + 5 * k + 3))
  have hbk := hb ((78 + 5 * k + 4))
  have h3 := hrn k hk
  refine j_aload_n hJ (q := 1) dX8_rowFits_0 rfl 3 rfl rfl ?_
  refine j_iload hJ (q := 3) dX8_rowFits_1 4 rfl rfl ?_
  refine j_iconst hJ (q := 4) dX8_rowFits_3 rfl ki_1 ?_
  refine j_vR hJ (q := 7) (rest := []) (As := [.int (nI k), .int (nI 1)]) jl_X8_293 (c_X5_atA Z (s 5) (s 6) (A 2) 5 6 Nt A 78 k 1 hNt (by omega) (by omega)) 13 rfl rfl dX8_rowFits_4 rfl (by decide) (Nat.le_of_ble_eq_true rfl) [13, 14] rfl rfl (fun rv hp => ?_)
  obtain rfl := hp
  show J 7 [(0, .ref h), (1, .int (nI 1)), (2, .int (nI s1)), (3, .ref (s 5)), (4, .int (nI k)), (5, .int (nI g))] [.int (nI (A (78 + (5 * k + 1))))] [xO h u ab be (Rf 0) (Rf 1) (Rf 2), (u 0, .inr (4, [.ref (s 0), .ref (s 1), .ref (s 3), .ref (s 5), .ref (s 7)])), cO (s 0) q (A 21) (A 5) (A 6) (A 7) (A 8) (A 0), (q 0, ia Z 12 (ni K)), (q 1, ia Z 12 (ni P)), (q 2, ia Z 6 (ni kd)), (q 3, ia Z 6 (ni am)), (q 4, ia Z 6 (ni st)), (q 5, ia Z 6 (ni rg)), (s 1, .inr (1, [.int (nI (A 4)), .ref (s 2)])), (s 2, ia Z 128 (ni Ro)), (s 3, .inr (3, [.int (nI (A 1)), .int (nI 4), .int (nI 5), .ref (s 4)])), (s 4, ia Z 30 (ni Sn)), (s 5, .inr (3, [.int (nI (A 2)), .int (nI 5), .int (nI 6), .ref (s 6)])), (s 6, ia Z 30 (ni Nt)), (s 7, .inr (3, [.int (nI (A 3)), .int (nI 5), .int (nI 6), .ref (s 8)])), (s 8, ia Z 30 (ni Mk))] 0 0
  refine j_top (congrArg nI (congrArg A (show 78 + (5 * k + 1) = 78 + 5 * k + 1 by omega))) ?_
  refine j_istore hJ (q := 9) (lvs' := [(6, .int (nI (A (78 + 5 * k + 1)))), (0, .ref h), (1, .int (nI 1)), (2, .int (nI s1)), (3, .ref (s 5)), (4, .int (nI k)), (5, .int (nI g))]) dX8_rowFits_7 (by decide) rfl rfl ?_
  refine j_aload_n hJ (q := 10) dX8_rowFits_9 rfl 4 rfl rfl ?_
  refine j_iload hJ (q := 12) dX8_rowFits_10 5 rfl rfl ?_
  refine j_iconst hJ (q := 13) dX8_rowFits_12 rfl ki_2 ?_
  refine j_vR hJ (q := 16) (rest := []) (As := [.int (nI k), .int (nI 2)]) jl_X8_293 (c_X5_atA Z (s 5) (s 6) (A 2) 5 6 Nt A 78 k 2 hNt (by omega) (by omega)) 13 rfl rfl dX8_rowFits_13 rfl (by decide) (Nat.le_of_ble_eq_true rfl) [13, 14] rfl rfl (fun rv hp => ?_)
  obtain rfl := hp
  show J 16 [(6, .int (nI (A (78 + 5 * k + 1)))), (0, .ref h), (1, .int (nI 1)), (2, .int (nI s1)), (3, .ref (s 5)), (4, .int (nI k)), (5, .int (nI g))] [.int (nI (A (78 + (5 * k + 2))))] [xO h u ab be (Rf 0) (Rf 1) (Rf 2), (u 0, .inr (4, [.ref (s 0), .ref (s 1), .ref (s 3), .ref (s 5), .ref (s 7)])), cO (s 0) q (A 21) (A 5) (A 6) (A 7) (A 8) (A 0), (q 0, ia Z 12 (ni K)), (q 1, ia Z 12 (ni P)), (q 2, ia Z 6 (ni kd)), (q 3, ia Z 6 (ni am)), (q 4, ia Z 6 (ni st)), (q 5, ia Z 6 (ni rg)), (s 1, .inr (1, [.int (nI (A 4)), .ref (s 2)])), (s 2, ia Z 128 (ni Ro)), (s 3, .inr (3, [.int (nI (A 1)), .int (nI 4), .int (nI 5), .ref (s 4)])), (s 4, ia Z 30 (ni Sn)), (s 5, .inr (3, [.int (nI (A 2)), .int (nI 5), .int (nI 6), .ref (s 6)])), (s 6, ia Z 30 (ni Nt)), (s 7, .inr (3, [.int (nI (A 3)), .int (nI 5), .int (nI 6), .ref (s 8)])), (s 8, ia Z 30 (ni Mk))] 0 0
  refine j_top (congrArg nI (congrArg A (show 78 + (5 * k + 2) = 78 + 5 * k + 2 by omega))) ?_
  refine j_istore hJ (q := 18) (lvs' := [(7, .int (nI (A (78 + 5 * k + 2)))), (6, .int (nI (A (78 + 5 * k + 1)))), (0, .ref h), (1, .int (nI 1)), (2, .int (nI s1)), (3, .ref (s 5)), (4, .int (nI k)), (5, .int (nI g))]) dX8_rowFits_16 (by decide) rfl rfl ?_
  refine j_aload_n hJ (q := 19) dX8_rowFits_18 rfl 5 rfl rfl ?_
  refine j_iload hJ (q := 21) dX8_rowFits_19 6 rfl rfl ?_
  refine j_iconst hJ (q := 22) dX8_rowFits_21 rfl ki_3 ?_
  refine j_vR hJ (q := 25) (rest := []) (As := [.int (nI k), .int (nI 3)]) jl_X8_293 (c_X5_atA Z (s 5) (s 6) (A 2) 5 6 Nt A 78 k 3 hNt (by omega) (by omega)) 13 rfl rfl dX8_rowFits_22 rfl (by decide) (Nat.le_of_ble_eq_true rfl) [13, 14] rfl rfl (fun rv hp => ?_)
  obtain rfl := hp
  show J 25 [(7, .int (nI (A (78 + 5 * k + 2)))), (6, .int (nI (A (78 + 5 * k + 1)))), (0, .ref h), (1, .int (nI 1)), (2, .int (nI s1)), (3, .ref (s 5)), (4, .int (nI k)), (5, .int (nI g))] [.int (nI (A (78 + (5 * k + 3))))] [xO h u ab be (Rf 0) (Rf 1) (Rf 2), (u 0, .inr (4, [.ref (s 0), .ref (s 1), .ref (s 3), .ref (s 5), .ref (s 7)])), cO (s 0) q (A 21) (A 5) (A 6) (A 7) (A 8) (A 0), (q 0, ia Z 12 (ni K)), (q 1, ia Z 12 (ni P)), (q 2, ia Z 6 (ni kd)), (q 3, ia Z 6 (ni am)), (q 4, ia Z 6 (ni st)), (q 5, ia Z 6 (ni rg)), (s 1, .inr (1, [.int (nI (A 4)), .ref (s 2)])), (s 2, ia Z 128 (ni Ro)), (s 3, .inr (3, [.int (nI (A 1)), .int (nI 4), .int (nI 5), .ref (s 4)])), (s 4, ia Z 30 (ni Sn)), (s 5, .inr (3, [.int (nI (A 2)), .int (nI 5), .int (nI 6), .ref (s 6)])), (s 6, ia Z 30 (ni Nt)), (s 7, .inr (3, [.int (nI (A 3)), .int (nI 5), .int (nI 6), .ref (s 8)])), (s 8, ia Z 30 (ni Mk))] 0 0
  refine j_top (congrArg nI (congrArg A (show 78 + (5 * k + 3) = 78 + 5 * k + 3 by omega))) ?_
  refine j_istore hJ (q := 27) (lvs' := [(8, .int (nI (A (78 + 5 * k + 3)))), (7, .int (nI (A (78 + 5 * k + 2)))), (6, .int (nI (A (78 + 5 * k + 1)))), (0, .ref h), (1, .int (nI 1)), (2, .int (nI s1)), (3, .ref (s 5)), (4, .int (nI k)), (5, .int (nI g))]) dX8_rowFits_25 (by decide) rfl rfl ?_
  refine j_iload_n hJ (q := 28) dX8_rowFits_27 rfl 4 rfl rfl ?_
  refine jn_lookup hJ (q := 88) (k := 1) (off := 60) dX8_rowFits_28 (by decide) (by decide) (by decide) ?_
  refine j_iload hJ (q := 90) dX8_rowFits_88 8 rfl rfl ?_
  refine j_iload hJ (q := 92) dX8_rowFits_90 1 rfl rfl ?_
  refine j_iload hJ (q := 94) dX8_rowFits_92 2 rfl rfl ?_
  refine j_iload hJ (q := 96) dX8_rowFits_94 0 rfl rfl ?_
  refine j_sR hJ (q := 99) (rest := []) (As := [.int (nI g), .int (nI (A (78 + 5 * k + 2))), .int (nI (A (78 + 5 * k + 1))), .int (nI (A (78 + 5 * k + 3)))]) jl_X8_300 (c_X1_high Z g (A (78 + 5 * k + 2)) (A (78 + 5 * k + 1)) (A (78 + 5 * k + 3)) (by omega) (by omega) (by omega) (by omega)) dX8_rowFits_96 rfl (by decide) (Nat.le_of_ble_eq_true rfl) [] rfl rfl (fun rv hp => ?_)
  obtain rfl := hp
  show J 99 [(8, .int (nI (A (78 + 5 * k + 3)))), (7, .int (nI (A (78 + 5 * k + 2)))), (6, .int (nI (A (78 + 5 * k + 1)))), (0, .ref h), (1, .int (nI 1)), (2, .int (nI s1)), (3, .ref (s 5)), (4, .int (nI k)), (5, .int (nI g))] [.int (nI (hgh g (A (78 + 5 * k + 1)) (A (78 + 5 * k + 2)) (A (78 + 5 * k + 3))))] [xO h u ab be (Rf 0) (Rf 1) (Rf 2), (u 0, .inr (4, [.ref (s 0), .ref (s 1), .ref (s 3), .ref (s 5), .ref (s 7)])), cO (s 0) q (A 21) (A 5) (A 6) (A 7) (A 8) (A 0), (q 0, ia Z 12 (ni K)), (q 1, ia Z 12 (ni P)), (q 2, ia Z 6 (ni kd)), (q 3, ia Z 6 (ni am)), (q 4, ia Z 6 (ni st)), (q 5, ia Z 6 (ni rg)), (s 1, .inr (1, [.int (nI (A 4)), .ref (s 2)])), (s 2, ia Z 128 (ni Ro)), (s 3, .inr (3, [.int (nI (A 1)), .int (nI 4), .int (nI 5), .ref (s 4)])), (s 4, ia Z 30 (ni Sn)), (s 5, .inr (3, [.int (nI (A 2)), .int (nI 5), .int (nI 6), .ref (s 6)])), (s 6, ia Z 30 (ni Nt)), (s 7, .inr (3, [.int (nI (A 3)), .int (nI 5), .int (nI 6), .ref (s 8)])), (s 8, ia Z 30 (ni Mk))] 0 0
  have hgl : hgh g (A (78 + 5 * k + 1)) (A (78 + 5 * k + 2)) (A (78 + 5 * k + 3)) ≤ 10 := hgh_le h3
  refine j_aload_n hJ (q := 100) dX8_rowFits_99 rfl 6 rfl rfl ?_
  refine j_iload hJ (q := 102) dX8_rowFits_100 7 rfl rfl ?_
  refine j_iconst hJ (q := 103) dX8_rowFits_102 rfl ki_4 ?_
  refine j_vR hJ (q := 106) (rest := [.int (nI (hgh g (A (78 + 5 * k + 1)) (A (78 + 5 * k + 2)) (A (78 + 5 * k + 3))))]) (As := [.int (nI k), .int (nI 4)]) jl_X8_293 (c_X5_atA Z (s 5) (s 6) (A 2) 5 6 Nt A 78 k 4 hNt (by omega) (by omega)) 13 rfl rfl dX8_rowFits_103 rfl (by decide) (Nat.le_of_ble_eq_true rfl) [13, 14] rfl rfl (fun rv hp => ?_)
  obtain rfl := hp
  show J 106 [(8, .int (nI (A (78 + 5 * k + 3)))), (7, .int (nI (A (78 + 5 * k + 2)))), (6, .int (nI (A (78 + 5 * k + 1)))), (0, .ref h), (1, .int (nI 1)), (2, .int (nI s1)), (3, .ref (s 5)), (4, .int (nI k)), (5, .int (nI g))] [.int (nI (A (78 + (5 * k + 4)))), .int (nI (hgh g (A (78 + 5 * k + 1)) (A (78 + 5 * k + 2)) (A (78 + 5 * k + 3))))] [xO h u ab be (Rf 0) (Rf 1) (Rf 2), (u 0, .inr (4, [.ref (s 0), .ref (s 1), .ref (s 3), .ref (s 5), .ref (s 7)])), cO (s 0) q (A 21) (A 5) (A 6) (A 7) (A 8) (A 0), (q 0, ia Z 12 (ni K)), (q 1, ia Z 12 (ni P)), (q 2, ia Z 6 (ni kd)), (q 3, ia Z 6 (ni am)), (q 4, ia Z 6 (ni st)), (q 5, ia Z 6 (ni rg)), (s 1, .inr (1, [.int (nI (A 4)), .ref (s 2)])), (s 2, ia Z 128 (ni Ro)), (s 3, .inr (3, [.int (nI (A 1)), .int (nI 4), .int (nI 5), .ref (s 4)])), (s 4, ia Z 30 (ni Sn)), (s 5, .inr (3, [.int (nI (A 2)), .int (nI 5), .int (nI 6), .ref (s 6)])), (s 6, ia Z 30 (ni Nt)), (s 7, .inr (3, [.int (nI (A 3)), .int (nI 5), .int (nI 6), .ref (s 8)])), (s 8, ia Z 30 (ni Mk))] 0 0
  refine j_top (congrArg nI (congrArg A (show 78 + (5 * k + 4) = 78 + 5 * k + 4 by omega))) ?_
  refine jn_icmp_ne hJ (q := 109) (tgt := 113) dX8_rowFits_106 (by decide) rfl (by omega) (by omega) (fun c1 => ?_) (fun c1 => ?_)
  · skip
    refine j_iconst hJ (q := 114) dX8_rowFits_113 rfl ki_0 ?_
    exact hE.1 _ _ _ _ _ _ _ rfl rfl dX8_rowFits_114 (Nat.le_refl _) (Nat.le_refl _) (congrArg (fun z => some (Value.int z)) (bI_f (by first | (show hgh _ _ _ _ = _; assumption) | (show ¬ hgh _ _ _ _ = _; assumption))))
  · skip
    refine j_iconst hJ (q := 110) dX8_rowFits_109 rfl ki_1 ?_
    refine j_goto hJ (q := 114) dX8_rowFits_110 (by decide) ?_
    exact hE.1 _ _ _ _ _ _ _ rfl rfl dX8_rowFits_114 (Nat.le_refl _) (Nat.le_refl _) (congrArg (fun z => some (Value.int z)) (bI_t (by first | (show hgh _ _ _ _ = _; assumption) | (show ¬ hgh _ _ _ _ = _; assumption))))

set_option maxHeartbeats 4000000 in
set_option maxRecDepth 100000 in
theorem c_X8_allFits1 (Z : jZ) (h : Nat) (u : Nat → Nat) (ab : Int) (be : Int) (Rf : Nat → Nat) (s : Nat → Nat) (q : Nat → Nat) (A : Nat → Nat) (K : Nat → Nat) (P : Nat → Nat) (kd : Nat → Nat) (am : Nat → Nat) (st : Nat → Nat) (rg : Nat → Nat) (Ro : Nat → Nat) (Sn : Nat → Nat) (Nt : Nat → Nat) (Mk : Nat → Nat) (s1 : Nat) (g : Nat) (hg : wg A) (hA : rA A K P kd am st rg Ro Sn Nt Mk) (h1 : s1 < 100000) (h2 : g ≤ 5) : CR Z yX8_allFits cX8_allFits 6 ((some FieldType.boolean)) 3 [.ref h, .int (nI 1), .int (nI s1), .int (nI g)] [xO h u ab be (Rf 0) (Rf 1) (Rf 2), (u 0, .inr (4, [.ref (s 0), .ref (s 1), .ref (s 3), .ref (s 5), .ref (s 7)])), cO (s 0) q (A 21) (A 5) (A 6) (A 7) (A 8) (A 0), (q 0, ia Z 12 (ni K)), (q 1, ia Z 12 (ni P)), (q 2, ia Z 6 (ni kd)), (q 3, ia Z 6 (ni am)), (q 4, ia Z 6 (ni st)), (q 5, ia Z 6 (ni rg)), (s 1, .inr (1, [.int (nI (A 4)), .ref (s 2)])), (s 2, ia Z 128 (ni Ro)), (s 3, .inr (3, [.int (nI (A 1)), .int (nI 4), .int (nI 5), .ref (s 4)])), (s 4, ia Z 30 (ni Sn)), (s 5, .inr (3, [.int (nI (A 2)), .int (nI 5), .int (nI 6), .ref (s 6)])), (s 6, ia Z 30 (ni Nt)), (s 7, .inr (3, [.int (nI (A 3)), .int (nI 5), .int (nI 6), .ref (s 8)])), (s 8, ia Z 30 (ni Mk))] (fun rr => rr = some (.int (bI (kkN A s1 78 true g (A 2))))) := by
  refine CR.of RX8 rfl (by decide +kernel) (Nat.le_of_ble_eq_true rfl) ?_
  intro J hJ hE
  show J 0 [(0, .ref h), (1, .int (nI 1)), (2, .int (nI s1)), (3, .int (nI g))] [] [xO h u ab be (Rf 0) (Rf 1) (Rf 2), (u 0, .inr (4, [.ref (s 0), .ref (s 1), .ref (s 3), .ref (s 5), .ref (s 7)])), cO (s 0) q (A 21) (A 5) (A 6) (A 7) (A 8) (A 0), (q 0, ia Z 12 (ni K)), (q 1, ia Z 12 (ni P)), (q 2, ia Z 6 (ni kd)), (q 3, ia Z 6 (ni am)), (q 4, ia Z 6 (ni st)), (q 5, ia Z 6 (ni rg)), (s 1, .inr (1, [.int (nI (A 4)), .ref (s 2)])), (s 2, ia Z 128 (ni Ro)), (s 3, .inr (3, [.int (nI (A 1)), .int (nI 4), .int (nI 5), .ref (s 4)])), (s 4, ia Z 30 (ni Sn)), (s 5, .inr (3, [.int (nI (A 2)), .int (nI 5), .int (nI 6), .ref (s 6)])), (s 6, ia Z 30 (ni Nt)), (s 7, .inr (3, [.int (nI (A 3)), .int (nI 5), .int (nI 6), .ref (s 8)])), (s 8, ia Z 30 (ni Mk))] 0 0
  obtain ⟨hw, ⟨g1, g2, g3, g4, g8⟩, hrs, hrn, hrm, hpst⟩ := id hg
  obtain ⟨⟨w1, w2, w3, w4, w5, w6⟩, hb, wr, wh, wd⟩ := id hw
  obtain ⟨hR, hX⟩ := id hA
  obtain ⟨hP, hSn, hNt, hMk⟩ := id hX
  refine j_iload_n hJ (q := 1) dX8_allFits_0 rfl 1 rfl rfl ?_
  refine jn_if_ne hJ (q := 4) (tgt := 14) dX8_allFits_1 (by decide) rfl (by omega) (fun c1 => ?_) (fun c1 => ?_)
  · skip
    refine j_iload_n hJ (q := 15) dX8_allFits_14 rfl 1 rfl rfl ?_
    refine j_iconst hJ (q := 16) dX8_allFits_15 rfl ki_1 ?_
    refine jn_icmp_ne hJ (q := 19) (tgt := 29) dX8_allFits_16 (by decide) rfl (by omega) (by omega) (fun c2 => ?_) (fun c2 => ?_)
    · skip
      exfalso; omega
    · skip
      refine j_aload_n hJ (q := 20) dX8_allFits_19 rfl 0 rfl rfl ?_
      refine j_get hJ (q := 23) jf_X8_10 dX8_allFits_20 0 rfl rfl rfl ?_
      refine j_get hJ (q := 26) jf_X8_217 dX8_allFits_23 1 rfl rfl rfl ?_
      refine j_goto hJ (q := 36) dX8_allFits_26 (by decide) ?_
      refine j_astore hJ (q := 38) (lvs' := [(4, .ref (s 5)), (0, .ref h), (1, .int (nI 1)), (2, .int (nI s1)), (3, .int (nI g))]) dX8_allFits_36 (by decide) rfl rfl ?_
      refine j_iconst hJ (q := 39) dX8_allFits_38 rfl ki_0 ?_
      refine j_istore hJ (q := 41) (lvs' := [(5, .int (nI 0)), (4, .ref (s 5)), (0, .ref h), (1, .int (nI 1)), (2, .int (nI s1)), (3, .int (nI g))]) dX8_allFits_39 (by decide) rfl rfl ?_
      have L_41 : ∀ (fu_41 : Nat) (k : Nat), A 2 - k < fu_41 → (k ≤ A 2) → (kkN A s1 78 true g k = true) → J 41 [(0, .ref h), (1, .int (nI 1)), (2, .int (nI s1)), (3, .int (nI g)), (4, .ref (s 5)), (5, .int (nI k))] [] [xO h u ab be (Rf 0) (Rf 1) (Rf 2), (u 0, .inr (4, [.ref (s 0), .ref (s 1), .ref (s 3), .ref (s 5), .ref (s 7)])), cO (s 0) q (A 21) (A 5) (A 6) (A 7) (A 8) (A 0), (q 0, ia Z 12 (ni K)), (q 1, ia Z 12 (ni P)), (q 2, ia Z 6 (ni kd)), (q 3, ia Z 6 (ni am)), (q 4, ia Z 6 (ni st)), (q 5, ia Z 6 (ni rg)), (s 1, .inr (1, [.int (nI (A 4)), .ref (s 2)])), (s 2, ia Z 128 (ni Ro)), (s 3, .inr (3, [.int (nI (A 1)), .int (nI 4), .int (nI 5), .ref (s 4)])), (s 4, ia Z 30 (ni Sn)), (s 5, .inr (3, [.int (nI (A 2)), .int (nI 5), .int (nI 6), .ref (s 6)])), (s 6, ia Z 30 (ni Nt)), (s 7, .inr (3, [.int (nI (A 3)), .int (nI 5), .int (nI 6), .ref (s 8)])), (s 8, ia Z 30 (ni Mk))] 0 0 := by
        intro fu_41
        induction fu_41 with
        | zero => intro k hm; exact absurd hm (Nat.not_lt_zero _)
        | succ fu_41 ih_41 =>
          intro k hm_41 hk hok
          refine j_iload hJ (q := 43) dX8_allFits_41 5 rfl rfl ?_
          refine j_aload hJ (q := 45) dX8_allFits_43 4 rfl rfl ?_
          refine j_get hJ (q := 48) jf_X8_210 dX8_allFits_45 13 rfl rfl rfl ?_
          refine jn_icmp_ge hJ (q := 51) (tgt := 85) dX8_allFits_48 (by decide) rfl (by omega) (by omega) (fun c3 => ?_) (fun c3 => ?_)
          · skip
            refine j_iconst hJ (q := 86) dX8_allFits_85 rfl ki_1 ?_
            exact hE.1 _ _ _ _ _ _ _ rfl rfl dX8_allFits_86 (Nat.le_refl _) (Nat.le_refl _) (congrArg (fun z => some (Value.int (bI z))) (show true = (kkN A s1 78 true g (A 2)) by rw [show A 2 = k by omega]; exact hok.symm))
          · skip
            refine j_aload hJ (q := 53) dX8_allFits_51 4 rfl rfl ?_
            refine j_iload hJ (q := 55) dX8_allFits_53 5 rfl rfl ?_
            refine j_iconst hJ (q := 56) dX8_allFits_55 rfl ki_0 ?_
            refine j_vR hJ (q := 59) (rest := []) (As := [.int (nI k), .int (nI 0)]) jl_X8_293 (c_X5_atA Z (s 5) (s 6) (A 2) 5 6 Nt A 78 k 0 hNt (by omega) (by omega)) 13 rfl rfl dX8_allFits_56 rfl (by decide) (Nat.le_of_ble_eq_true rfl) [13, 14] rfl rfl (fun rv hp => ?_)
            obtain rfl := hp
            show J 59 [(0, .ref h), (1, .int (nI 1)), (2, .int (nI s1)), (3, .int (nI g)), (4, .ref (s 5)), (5, .int (nI k))] [.int (nI (A (78 + (5 * k + 0))))] [xO h u ab be (Rf 0) (Rf 1) (Rf 2), (u 0, .inr (4, [.ref (s 0), .ref (s 1), .ref (s 3), .ref (s 5), .ref (s 7)])), cO (s 0) q (A 21) (A 5) (A 6) (A 7) (A 8) (A 0), (q 0, ia Z 12 (ni K)), (q 1, ia Z 12 (ni P)), (q 2, ia Z 6 (ni kd)), (q 3, ia Z 6 (ni am)), (q 4, ia Z 6 (ni st)), (q 5, ia Z 6 (ni rg)), (s 1, .inr (1, [.int (nI (A 4)), .ref (s 2)])), (s 2, ia Z 128 (ni Ro)), (s 3, .inr (3, [.int (nI (A 1)), .int (nI 4), .int (nI 5), .ref (s 4)])), (s 4, ia Z 30 (ni Sn)), (s 5, .inr (3, [.int (nI (A 2)), .int (nI 5), .int (nI 6), .ref (s 6)])), (s 6, ia Z 30 (ni Nt)), (s 7, .inr (3, [.int (nI (A 3)), .int (nI 5), .int (nI 6), .ref (s 8)])), (s 8, ia Z 30 (ni Mk))] 0 0
            have hbk := hb ((78 + 5 * k))
            refine j_top (congrArg nI (congrArg A (show 78 + (5 * k + 0) = 78 + 5 * k by omega))) ?_
            refine j_iload_n hJ (q := 60) dX8_allFits_59 rfl 2 rfl rfl ?_
            refine jn_icmp_ne hJ (q := 63) (tgt := 79) dX8_allFits_60 (by decide) rfl (by omega) (by omega) (fun c4 => ?_) (fun c4 => ?_)
            · skip
              refine j_iinc hJ (q := 82) (lvs' := [(5, .int (nI (k + 1))), (0, .ref h), (1, .int (nI 1)), (2, .int (nI s1)), (3, .int (nI g)), (4, .ref (s 5))]) dX8_allFits_79 5 rfl (by rw [show Int32.ofInt 1 = nI 1 from by decide +kernel]; exact nI_add _ _) (by decide) rfl rfl ?_
              refine j_goto hJ (q := 41) dX8_allFits_82 (by decide) ?_
              refine j_locals hJ [1, 2, 3, 4, 5, 0] rfl ?_
              exact ih_41 (k + 1) (by omega) (by omega) (by first | exact kkN_y1 hok (by assumption) | exact kkN_y2 hok (by assumption))
            · skip
              refine j_aload_n hJ (q := 64) dX8_allFits_63 rfl 0 rfl rfl ?_
              refine j_iload_n hJ (q := 65) dX8_allFits_64 rfl 1 rfl rfl ?_
              refine j_iload_n hJ (q := 66) dX8_allFits_65 rfl 2 rfl rfl ?_
              refine j_aload hJ (q := 68) dX8_allFits_66 4 rfl rfl ?_
              refine j_iload hJ (q := 70) dX8_allFits_68 5 rfl rfl ?_
              refine j_iload_n hJ (q := 71) dX8_allFits_70 rfl 3 rfl rfl ?_
              refine j_vR hJ (q := 74) (rest := []) (As := [.int (nI 1), .int (nI s1), .ref (s 5), .int (nI k), .int (nI g)]) jl_X8_296 (c_X8_rowFits1 Z h u ab be Rf s q A K P kd am st rg Ro Sn Nt Mk s1 k g hg hA (by omega) (by omega)) 0 rfl rfl dX8_allFits_71 rfl (by decide) (Nat.le_of_ble_eq_true rfl) [0, 1, 2, 3, 4, 5, 6, 7, 8, 9, 10, 11, 12, 13, 14, 15, 16] rfl rfl (fun rv hp => ?_)
              obtain rfl := hp
              show J 74 [(0, .ref h), (1, .int (nI 1)), (2, .int (nI s1)), (3, .int (nI g)), (4, .ref (s 5)), (5, .int (nI k))] [.int (bI (decide (rowv true g A (78 + 5 * k) = A (78 + 5 * k + 4))))] [xO h u ab be (Rf 0) (Rf 1) (Rf 2), (u 0, .inr (4, [.ref (s 0), .ref (s 1), .ref (s 3), .ref (s 5), .ref (s 7)])), cO (s 0) q (A 21) (A 5) (A 6) (A 7) (A 8) (A 0), (q 0, ia Z 12 (ni K)), (q 1, ia Z 12 (ni P)), (q 2, ia Z 6 (ni kd)), (q 3, ia Z 6 (ni am)), (q 4, ia Z 6 (ni st)), (q 5, ia Z 6 (ni rg)), (s 1, .inr (1, [.int (nI (A 4)), .ref (s 2)])), (s 2, ia Z 128 (ni Ro)), (s 3, .inr (3, [.int (nI (A 1)), .int (nI 4), .int (nI 5), .ref (s 4)])), (s 4, ia Z 30 (ni Sn)), (s 5, .inr (3, [.int (nI (A 2)), .int (nI 5), .int (nI 6), .ref (s 6)])), (s 6, ia Z 30 (ni Nt)), (s 7, .inr (3, [.int (nI (A 3)), .int (nI 5), .int (nI 6), .ref (s 8)])), (s 8, ia Z 30 (ni Mk))] 0 0
              refine jp_if_ne hJ (q := 77) (tgt := 79) dX8_allFits_74 (by decide) rfl (fun c5 => ?_) (fun c5 => ?_)
              · skip
                refine j_iinc hJ (q := 82) (lvs' := [(5, .int (nI (k + 1))), (0, .ref h), (1, .int (nI 1)), (2, .int (nI s1)), (3, .int (nI g)), (4, .ref (s 5))]) dX8_allFits_79 5 rfl (by rw [show Int32.ofInt 1 = nI 1 from by decide +kernel]; exact nI_add _ _) (by decide) rfl rfl ?_
                refine j_goto hJ (q := 41) dX8_allFits_82 (by decide) ?_
                refine j_locals hJ [1, 2, 3, 4, 5, 0] rfl ?_
                exact ih_41 (k + 1) (by omega) (by omega) (by first | exact kkN_y1 hok (by assumption) | exact kkN_y2 hok (by assumption))
              · skip
                refine j_iconst hJ (q := 78) dX8_allFits_77 rfl ki_0 ?_
                exact hE.1 _ _ _ _ _ _ _ rfl rfl dX8_allFits_78 (Nat.le_refl _) (Nat.le_refl _) (congrArg (fun z => some (Value.int (bI z))) (show false = (kkN A s1 78 true g (A 2)) by exact (kkN_no (k := k) (by omega) (by assumption) (by assumption)).symm))
      refine j_locals hJ [2, 3, 4, 5, 1, 0] rfl ?_
      exact L_41 ((A 2 - 0) + 1) 0 (Nat.lt_succ_self _) (by omega) rfl
  · skip
    exfalso; omega

set_option maxHeartbeats 4000000 in
set_option maxRecDepth 100000 in
theorem c_X8_thoseThatFit1 (Z : jZ) (h : Nat) (u : Nat → Nat) (ab : Int) (be : Int) (Rf : Nat → Nat) (s : Nat → Nat) (q : Nat → Nat) (A : Nat → Nat) (K : Nat → Nat) (P : Nat → Nat) (kd : Nat → Nat) (am : Nat → Nat) (st : Nat → Nat) (rg : Nat → Nat) (Ro : Nat → Nat) (Sn : Nat → Nat) (Nt : Nat → Nat) (Mk : Nat → Nat) (s1 : Nat) (hg : wg A) (hA : rA A K P kd am st rg Ro Sn Nt Mk) (h1 : s1 < 100000) : CR Z yX8_thoseThatFit cX8_thoseThatFit 5 ((some FieldType.int)) 4 [.ref h, .int (nI 1), .int (nI s1)] [xO h u ab be (Rf 0) (Rf 1) (Rf 2), (u 0, .inr (4, [.ref (s 0), .ref (s 1), .ref (s 3), .ref (s 5), .ref (s 7)])), cO (s 0) q (A 21) (A 5) (A 6) (A 7) (A 8) (A 0), (q 0, ia Z 12 (ni K)), (q 1, ia Z 12 (ni P)), (q 2, ia Z 6 (ni kd)), (q 3, ia Z 6 (ni am)), (q 4, ia Z 6 (ni st)), (q 5, ia Z 6 (ni rg)), (s 1, .inr (1, [.int (nI (A 4)), .ref (s 2)])), (s 2, ia Z 128 (ni Ro)), (s 3, .inr (3, [.int (nI (A 1)), .int (nI 4), .int (nI 5), .ref (s 4)])), (s 4, ia Z 30 (ni Sn)), (s 5, .inr (3, [.int (nI (A 2)), .int (nI 5), .int (nI 6), .ref (s 6)])), (s 6, ia Z 30 (ni Nt)), (s 7, .inr (3, [.int (nI (A 3)), .int (nI 5), .int (nI 6), .ref (s 8)])), (s 8, ia Z 30 (ni Mk))] (fun rr => rr = some (.int (nI (kds A s1 78 (A 2) true)))) := by
  refine CR.of RX8 rfl (by decide +kernel) (Nat.le_of_ble_eq_true rfl) ?_
  intro J hJ hE
  show J 0 [(0, .ref h), (1, .int (nI 1)), (2, .int (nI s1))] [] [xO h u ab be (Rf 0) (Rf 1) (Rf 2), (u 0, .inr (4, [.ref (s 0), .ref (s 1), .ref (s 3), .ref (s 5), .ref (s 7)])), cO (s 0) q (A 21) (A 5) (A 6) (A 7) (A 8) (A 0), (q 0, ia Z 12 (ni K)), (q 1, ia Z 12 (ni P)), (q 2, ia Z 6 (ni kd)), (q 3, ia Z 6 (ni am)), (q 4, ia Z 6 (ni st)), (q 5, ia Z 6 (ni rg)), (s 1, .inr (1, [.int (nI (A 4)), .ref (s 2)])), (s 2, ia Z 128 (ni Ro)), (s 3, .inr (3, [.int (nI (A 1)), .int (nI 4), .int (nI 5), .ref (s 4)])), (s 4, ia Z 30 (ni Sn)), (s 5, .inr (3, [.int (nI (A 2)), .int (nI 5), .int (nI 6), .ref (s 6)])), (s 6, ia Z 30 (ni Nt)), (s 7, .inr (3, [.int (nI (A 3)), .int (nI 5), .int (nI 6), .ref (s 8)])), (s 8, ia Z 30 (ni Mk))] 0 0
  obtain ⟨hw, ⟨g1, g2, g3, g4, g8⟩, hrs, hrn, hrm, hpst⟩ := id hg
  obtain ⟨⟨w1, w2, w3, w4, w5, w6⟩, hb, wr, wh, wd⟩ := id hw
  refine j_iconst hJ (q := 1) dX8_thoseThatFit_0 rfl ki_0 ?_
  refine j_istore_n hJ (q := 2) (lvs' := [(3, .int (nI 0)), (0, .ref h), (1, .int (nI 1)), (2, .int (nI s1))]) dX8_thoseThatFit_1 rfl (by decide) rfl rfl ?_
  refine j_iconst hJ (q := 3) dX8_thoseThatFit_2 rfl ki_0 ?_
  refine j_istore hJ (q := 5) (lvs' := [(4, .int (nI 0)), (3, .int (nI 0)), (0, .ref h), (1, .int (nI 1)), (2, .int (nI s1))]) dX8_thoseThatFit_3 (by decide) rfl rfl ?_
  have L_5 : ∀ (fu_5 : Nat) (ft : Nat) (g : Nat), 6 - g < fu_5 → (g ≤ 6) → (ft = orN (fun kd => kkN A s1 78 true kd (A 2)) g) → J 5 [(0, .ref h), (1, .int (nI 1)), (2, .int (nI s1)), (3, .int (nI ft)), (4, .int (nI g))] [] [xO h u ab be (Rf 0) (Rf 1) (Rf 2), (u 0, .inr (4, [.ref (s 0), .ref (s 1), .ref (s 3), .ref (s 5), .ref (s 7)])), cO (s 0) q (A 21) (A 5) (A 6) (A 7) (A 8) (A 0), (q 0, ia Z 12 (ni K)), (q 1, ia Z 12 (ni P)), (q 2, ia Z 6 (ni kd)), (q 3, ia Z 6 (ni am)), (q 4, ia Z 6 (ni st)), (q 5, ia Z 6 (ni rg)), (s 1, .inr (1, [.int (nI (A 4)), .ref (s 2)])), (s 2, ia Z 128 (ni Ro)), (s 3, .inr (3, [.int (nI (A 1)), .int (nI 4), .int (nI 5), .ref (s 4)])), (s 4, ia Z 30 (ni Sn)), (s 5, .inr (3, [.int (nI (A 2)), .int (nI 5), .int (nI 6), .ref (s 6)])), (s 6, ia Z 30 (ni Nt)), (s 7, .inr (3, [.int (nI (A 3)), .int (nI 5), .int (nI 6), .ref (s 8)])), (s 8, ia Z 30 (ni Mk))] 0 0 := by
    intro fu_5
    induction fu_5 with
    | zero => intro ft g hm; exact absurd hm (Nat.not_lt_zero _)
    | succ fu_5 ih_5 =>
      intro ft g hm_5 hg1 hft
      have hp2 := pow_le8 (p := g) (by omega)
      refine j_iload hJ (q := 7) dX8_thoseThatFit_5 4 rfl rfl ?_
      refine j_iload_n hJ (q := 8) dX8_thoseThatFit_7 rfl 1 rfl rfl ?_
      refine j_sR hJ (q := 11) (rest := [.int (nI g)]) (As := [.int (nI 1)]) jl_X8_287 (c_X8_howManyGuessed1 Z  ) dX8_thoseThatFit_8 rfl (by decide) (Nat.le_of_ble_eq_true rfl) [] rfl rfl (fun rv hp => ?_)
      obtain rfl := hp
      show J 11 [(0, .ref h), (1, .int (nI 1)), (2, .int (nI s1)), (3, .int (nI ft)), (4, .int (nI g))] [.int (nI 6), .int (nI g)] [xO h u ab be (Rf 0) (Rf 1) (Rf 2), (u 0, .inr (4, [.ref (s 0), .ref (s 1), .ref (s 3), .ref (s 5), .ref (s 7)])), cO (s 0) q (A 21) (A 5) (A 6) (A 7) (A 8) (A 0), (q 0, ia Z 12 (ni K)), (q 1, ia Z 12 (ni P)), (q 2, ia Z 6 (ni kd)), (q 3, ia Z 6 (ni am)), (q 4, ia Z 6 (ni st)), (q 5, ia Z 6 (ni rg)), (s 1, .inr (1, [.int (nI (A 4)), .ref (s 2)])), (s 2, ia Z 128 (ni Ro)), (s 3, .inr (3, [.int (nI (A 1)), .int (nI 4), .int (nI 5), .ref (s 4)])), (s 4, ia Z 30 (ni Sn)), (s 5, .inr (3, [.int (nI (A 2)), .int (nI 5), .int (nI 6), .ref (s 6)])), (s 6, ia Z 30 (ni Nt)), (s 7, .inr (3, [.int (nI (A 3)), .int (nI 5), .int (nI 6), .ref (s 8)])), (s 8, ia Z 30 (ni Mk))] 0 0
      refine jn_icmp_ge hJ (q := 14) (tgt := 38) dX8_thoseThatFit_11 (by decide) rfl (by omega) (by omega) (fun c1 => ?_) (fun c1 => ?_)
      · skip
        refine j_iload_n hJ (q := 39) dX8_thoseThatFit_38 rfl 3 rfl rfl ?_
        exact hE.1 _ _ _ _ _ _ _ rfl rfl dX8_thoseThatFit_39 (Nat.le_refl _) (Nat.le_refl _) (congrArg (fun z => some (Value.int (nI z))) (by rw [hft, show g = 6 by omega]; rfl))
      · skip
        refine j_aload_n hJ (q := 15) dX8_thoseThatFit_14 rfl 0 rfl rfl ?_
        refine j_iload_n hJ (q := 16) dX8_thoseThatFit_15 rfl 1 rfl rfl ?_
        refine j_iload_n hJ (q := 17) dX8_thoseThatFit_16 rfl 2 rfl rfl ?_
        refine j_iload hJ (q := 19) dX8_thoseThatFit_17 4 rfl rfl ?_
        refine j_vR hJ (q := 22) (rest := []) (As := [.int (nI 1), .int (nI s1), .int (nI g)]) jl_X8_290 (c_X8_allFits1 Z h u ab be Rf s q A K P kd am st rg Ro Sn Nt Mk s1 g hg hA (by omega) (by omega)) 0 rfl rfl dX8_thoseThatFit_19 rfl (by decide) (Nat.le_of_ble_eq_true rfl) [0, 1, 2, 3, 4, 5, 6, 7, 8, 9, 10, 11, 12, 13, 14, 15, 16] rfl rfl (fun rv hp => ?_)
        obtain rfl := hp
        show J 22 [(0, .ref h), (1, .int (nI 1)), (2, .int (nI s1)), (3, .int (nI ft)), (4, .int (nI g))] [.int (bI (kkN A s1 78 true g (A 2)))] [xO h u ab be (Rf 0) (Rf 1) (Rf 2), (u 0, .inr (4, [.ref (s 0), .ref (s 1), .ref (s 3), .ref (s 5), .ref (s 7)])), cO (s 0) q (A 21) (A 5) (A 6) (A 7) (A 8) (A 0), (q 0, ia Z 12 (ni K)), (q 1, ia Z 12 (ni P)), (q 2, ia Z 6 (ni kd)), (q 3, ia Z 6 (ni am)), (q 4, ia Z 6 (ni st)), (q 5, ia Z 6 (ni rg)), (s 1, .inr (1, [.int (nI (A 4)), .ref (s 2)])), (s 2, ia Z 128 (ni Ro)), (s 3, .inr (3, [.int (nI (A 1)), .int (nI 4), .int (nI 5), .ref (s 4)])), (s 4, ia Z 30 (ni Sn)), (s 5, .inr (3, [.int (nI (A 2)), .int (nI 5), .int (nI 6), .ref (s 6)])), (s 6, ia Z 30 (ni Nt)), (s 7, .inr (3, [.int (nI (A 3)), .int (nI 5), .int (nI 6), .ref (s 8)])), (s 8, ia Z 30 (ni Mk))] 0 0
        refine jb_if_eq hJ (q := 25) (tgt := 32) dX8_thoseThatFit_22 (by decide) rfl (fun c2 => ?_) (fun c2 => ?_)
        · skip
          refine j_iinc hJ (q := 35) (lvs' := [(4, .int (nI (g + 1))), (0, .ref h), (1, .int (nI 1)), (2, .int (nI s1)), (3, .int (nI ft))]) dX8_thoseThatFit_32 4 rfl (by rw [show Int32.ofInt 1 = nI 1 from by decide +kernel]; exact nI_add _ _) (by decide) rfl rfl ?_
          refine j_goto hJ (q := 5) dX8_thoseThatFit_35 (by decide) ?_
          refine j_locals hJ [1, 2, 3, 4, 0] rfl ?_
          exact ih_5 ft (g + 1) (by omega) (by omega) (by simp only [orN]; rw [hft, if_neg (by simp_all), Nat.or_zero])
        · skip
          refine j_iload_n hJ (q := 26) dX8_thoseThatFit_25 rfl 3 rfl rfl ?_
          refine j_iconst hJ (q := 27) dX8_thoseThatFit_26 rfl ki_1 ?_
          refine j_iload hJ (q := 29) dX8_thoseThatFit_27 4 rfl rfl ?_
          refine j_ishl hJ (q := 30) dX8_thoseThatFit_29 rfl (nI_shl (by omega) (by omega)) ?_
          refine j_ior hJ (q := 31) dX8_thoseThatFit_30 rfl (nI_or _ _) ?_
          refine j_istore_n hJ (q := 32) (lvs' := [(3, .int (nI (ft ||| (1 * 2 ^ g)))), (0, .ref h), (1, .int (nI 1)), (2, .int (nI s1)), (4, .int (nI g))]) dX8_thoseThatFit_31 rfl (by decide) rfl rfl ?_
          refine j_iinc hJ (q := 35) (lvs' := [(4, .int (nI (g + 1))), (3, .int (nI (ft ||| (1 * 2 ^ g)))), (0, .ref h), (1, .int (nI 1)), (2, .int (nI s1))]) dX8_thoseThatFit_32 4 rfl (by rw [show Int32.ofInt 1 = nI 1 from by decide +kernel]; exact nI_add _ _) (by decide) rfl rfl ?_
          refine j_goto hJ (q := 5) dX8_thoseThatFit_35 (by decide) ?_
          refine j_locals hJ [2, 3, 4, 1, 0] rfl ?_
          exact ih_5 (ft ||| (1 * 2 ^ g)) (g + 1) (by omega) (by omega) (by simp only [orN]; rw [hft, if_pos (by assumption)])
  refine j_locals hJ [2, 3, 4, 1, 0] rfl ?_
  exact L_5 ((6 - 0) + 1) 0 0 (Nat.lt_succ_self _) (by omega) rfl

set_option maxHeartbeats 4000000 in
set_option maxRecDepth 100000 in
theorem c_X8_howManyGuessed2 (Z : jZ)   : CR Z yX8_howManyGuessed cX8_howManyGuessed 1 ((some FieldType.int)) 1 [.int (nI 2)] [] (fun rr => rr = some (.int (nI 6))) := by
  refine CR.of RX8 rfl (by decide +kernel) (Nat.le_of_ble_eq_true rfl) ?_
  intro J hJ hE
  show J 0 [(0, .int (nI 2))] [] [] 0 0
  refine j_iload_n hJ (q := 1) dX8_howManyGuessed_0 rfl 0 rfl rfl ?_
  refine jn_if_ne hJ (q := 4) (tgt := 9) dX8_howManyGuessed_1 (by decide) rfl (by omega) (fun c1 => ?_) (fun c1 => ?_)
  · skip
    refine j_bipush hJ (q := 11) dX8_howManyGuessed_9 rfl kb_6 ?_
    exact hE.1 _ _ _ _ _ _ _ rfl rfl dX8_howManyGuessed_11 (Nat.le_refl _) (Nat.le_refl _) (congrArg (fun z => some (Value.int (nI z))) (by rfl))
  · skip
    exfalso; omega

set_option maxHeartbeats 4000000 in
set_option maxRecDepth 100000 in
theorem c_X8_rowFits2 (Z : jZ) (h : Nat) (u : Nat → Nat) (ab : Int) (be : Int) (Rf : Nat → Nat) (s : Nat → Nat) (q : Nat → Nat) (A : Nat → Nat) (K : Nat → Nat) (P : Nat → Nat) (kd : Nat → Nat) (am : Nat → Nat) (st : Nat → Nat) (rg : Nat → Nat) (Ro : Nat → Nat) (Sn : Nat → Nat) (Nt : Nat → Nat) (Mk : Nat → Nat) (s1 : Nat) (k : Nat) (g : Nat) (hg : wg A) (hA : rA A K P kd am st rg Ro Sn Nt Mk) (hk : k < A 3) (h2 : g ≤ 5) : CR Z yX8_rowFits cX8_rowFits 9 ((some FieldType.boolean)) 2 [.ref h, .int (nI 2), .int (nI s1), .ref (s 7), .int (nI k), .int (nI g)] [xO h u ab be (Rf 0) (Rf 1) (Rf 2), (u 0, .inr (4, [.ref (s 0), .ref (s 1), .ref (s 3), .ref (s 5), .ref (s 7)])), cO (s 0) q (A 21) (A 5) (A 6) (A 7) (A 8) (A 0), (q 0, ia Z 12 (ni K)), (q 1, ia Z 12 (ni P)), (q 2, ia Z 6 (ni kd)), (q 3, ia Z 6 (ni am)), (q 4, ia Z 6 (ni st)), (q 5, ia Z 6 (ni rg)), (s 1, .inr (1, [.int (nI (A 4)), .ref (s 2)])), (s 2, ia Z 128 (ni Ro)), (s 3, .inr (3, [.int (nI (A 1)), .int (nI 4), .int (nI 5), .ref (s 4)])), (s 4, ia Z 30 (ni Sn)), (s 5, .inr (3, [.int (nI (A 2)), .int (nI 5), .int (nI 6), .ref (s 6)])), (s 6, ia Z 30 (ni Nt)), (s 7, .inr (3, [.int (nI (A 3)), .int (nI 5), .int (nI 6), .ref (s 8)])), (s 8, ia Z 30 (ni Mk))] (fun rr => rr = some (.int (bI (decide (rowv false g A (108 + 5 * k) = A (108 + 5 * k + 4)))))) := by
  refine CR.of RX8 rfl (by decide +kernel) (Nat.le_of_ble_eq_true rfl) ?_
  intro J hJ hE
  show J 0 [(0, .ref h), (1, .int (nI 2)), (2, .int (nI s1)), (3, .ref (s 7)), (4, .int (nI k)), (5, .int (nI g))] [] [xO h u ab be (Rf 0) (Rf 1) (Rf 2), (u 0, .inr (4, [.ref (s 0), .ref (s 1), .ref (s 3), .ref (s 5), .ref (s 7)])), cO (s 0) q (A 21) (A 5) (A 6) (A 7) (A 8) (A 0), (q 0, ia Z 12 (ni K)), (q 1, ia Z 12 (ni P)), (q 2, ia Z 6 (ni kd)), (q 3, ia Z 6 (ni am)), (q 4, ia Z 6 (ni st)), (q 5, ia Z 6 (ni rg)), (s 1, .inr (1, [.int (nI (A 4)), .ref (s 2)])), (s 2, ia Z 128 (ni Ro)), (s 3, .inr (3, [.int (nI (A 1)), .int (nI 4), .int (nI 5), .ref (s 4)])), (s 4, ia Z 30 (ni Sn)), (s 5, .inr (3, [.int (nI (A 2)), .int (nI 5), .int (nI 6), .ref (s 6)])), (s 6, ia Z 30 (ni Nt)), (s 7, .inr (3, [.int (nI (A 3)), .int (nI 5), .int (nI 6), .ref (s 8)])), (s 8, ia Z 30 (ni Mk))] 0 0
  obtain ⟨hw, ⟨g1, g2, g3, g4, g8⟩, hrs, hrn, hrm, hpst⟩ := id hg
  obtain ⟨⟨w1, w2, w3, w4, w5, w6⟩, hb, wr, wh, wd⟩ := id hw
  obtain ⟨hR, hX⟩ := id hA
  obtain ⟨hP, hSn, hNt, hMk⟩ := id hX
  have hbk := hb ((108 + 5 * k + 1))
  have hbk := hb ((108 + 5 * k + 2))
  have hbk := hb ((108 + 5 * k + 3))
  have hbk := hb ((108 + 5 * k + 4))
  have h3 := hrm k hk
  refine j_aload_n hJ (q := 1) dX8_rowFits_0 rfl 3 rfl rfl ?_
  refine j_iload hJ (q := 3) dX8_rowFits_1 4 rfl rfl ?_
  refine j_iconst hJ (q := 4) dX8_rowFits_3 rfl ki_1 ?_
  refine j_vR hJ (q := 7) (rest := []) (As := [.int (nI k), .int (nI 1)]) jl_X8_293 (c_X5_atA Z (s 7) (s 8) (A 3) 5 6 Mk A 108 k 1 hMk (by omega) (by omega)) 15 rfl rfl dX8_rowFits_4 rfl (by decide) (Nat.le_of_ble_eq_true rfl) [15, 16] rfl rfl (fun rv hp => ?_)
  obtain rfl := hp
  show J 7 [(0, .ref h), (1, .int (nI 2)), (2, .int (nI s1)), (3, .ref (s 7)), (4, .int (nI k)), (5, .int (nI g))] [.int (nI (A (108 + (5 * k + 1))))] [xO h u ab be (Rf 0) (Rf 1) (Rf 2), (u 0, .inr (4, [.ref (s 0), .ref (s 1), .ref (s 3), .ref (s 5), .ref (s 7)])), cO (s 0) q (A 21) (A 5) (A 6) (A 7) (A 8) (A 0), (q 0, ia Z 12 (ni K)), (q 1, ia Z 12 (ni P)), (q 2, ia Z 6 (ni kd)), (q 3, ia Z 6 (ni am)), (q 4, ia Z 6 (ni st)), (q 5, ia Z 6 (ni rg)), (s 1, .inr (1, [.int (nI (A 4)), .ref (s 2)])), (s 2, ia Z 128 (ni Ro)), (s 3, .inr (3, [.int (nI (A 1)), .int (nI 4), .int (nI 5), .ref (s 4)])), (s 4, ia Z 30 (ni Sn)), (s 5, .inr (3, [.int (nI (A 2)), .int (nI 5), .int (nI 6), .ref (s 6)])), (s 6, ia Z 30 (ni Nt)), (s 7, .inr (3, [.int (nI (A 3)), .int (nI 5), .int (nI 6), .ref (s 8)])), (s 8, ia Z 30 (ni Mk))] 0 0
  refine j_top (congrArg nI (congrArg A (show 108 + (5 * k + 1) = 108 + 5 * k + 1 by omega))) ?_
  refine j_istore hJ (q := 9) (lvs' := [(6, .int (nI (A (108 + 5 * k + 1)))), (0, .ref h), (1, .int (nI 2)), (2, .int (nI s1)), (3, .ref (s 7)), (4, .int (nI k)), (5, .int (nI g))]) dX8_rowFits_7 (by decide) rfl rfl ?_
  refine j_aload_n hJ (q := 10) dX8_rowFits_9 rfl 4 rfl rfl ?_
  refine j_iload hJ (q := 12) dX8_rowFits_10 5 rfl rfl ?_
  refine j_iconst hJ (q := 13) dX8_rowFits_12 rfl ki_2 ?_
  refine j_vR hJ (q := 16) (rest := []) (As := [.int (nI k), .int (nI 2)]) jl_X8_293 (c_X5_atA Z (s 7) (s 8) (A 3) 5 6 Mk A 108 k 2 hMk (by omega) (by omega)) 15 rfl rfl dX8_rowFits_13 rfl (by decide) (Nat.le_of_ble_eq_true rfl) [15, 16] rfl rfl (fun rv hp => ?_)
  obtain rfl := hp
  show J 16 [(6, .int (nI (A (108 + 5 * k + 1)))), (0, .ref h), (1, .int (nI 2)), (2, .int (nI s1)), (3, .ref (s 7)), (4, .int (nI k)), (5, .int (nI g))] [.int (nI (A (108 + (5 * k + 2))))] [xO h u ab be (Rf 0) (Rf 1) (Rf 2), (u 0, .inr (4, [.ref (s 0), .ref (s 1), .ref (s 3), .ref (s 5), .ref (s 7)])), cO (s 0) q (A 21) (A 5) (A 6) (A 7) (A 8) (A 0), (q 0, ia Z 12 (ni K)), (q 1, ia Z 12 (ni P)), (q 2, ia Z 6 (ni kd)), (q 3, ia Z 6 (ni am)), (q 4, ia Z 6 (ni st)), (q 5, ia Z 6 (ni rg)), (s 1, .inr (1, [.int (nI (A 4)), .ref (s 2)])), (s 2, ia Z 128 (ni Ro)), (s 3, .inr (3, [.int (nI (A 1)), .int (nI 4), .int (nI 5), .ref (s 4)])), (s 4, ia Z 30 (ni Sn)), (s 5, .inr (3, [.int (nI (A 2)), .int (nI 5), .int (nI 6), .ref (s 6)])), (s 6, ia Z 30 (ni Nt)), (s 7, .inr (3, [.int (nI (A 3)), .int (nI 5), .int (nI 6), .ref (s 8)])), (s 8, ia Z 30 (ni Mk))] 0 0
  refine j_top (congrArg nI (congrArg A (show 108 + (5 * k + 2) = 108 + 5 * k + 2 by omega))) ?_
  refine j_istore hJ (q := 18) (lvs' := [(7, .int (nI (A (108 + 5 * k + 2)))), (6, .int (nI (A (108 + 5 * k + 1)))), (0, .ref h), (1, .int (nI 2)), (2, .int (nI s1)), (3, .ref (s 7)), (4, .int (nI k)), (5, .int (nI g))]) dX8_rowFits_16 (by decide) rfl rfl ?_
  refine j_aload_n hJ (q := 19) dX8_rowFits_18 rfl 5 rfl rfl ?_
  refine j_iload hJ (q := 21) dX8_rowFits_19 6 rfl rfl ?_
  refine j_iconst hJ (q := 22) dX8_rowFits_21 rfl ki_3 ?_
  refine j_vR hJ (q := 25) (rest := []) (As := [.int (nI k), .int (nI 3)]) jl_X8_293 (c_X5_atA Z (s 7) (s 8) (A 3) 5 6 Mk A 108 k 3 hMk (by omega) (by omega)) 15 rfl rfl dX8_rowFits_22 rfl (by decide) (Nat.le_of_ble_eq_true rfl) [15, 16] rfl rfl (fun rv hp => ?_)
  obtain rfl := hp
  show J 25 [(7, .int (nI (A (108 + 5 * k + 2)))), (6, .int (nI (A (108 + 5 * k + 1)))), (0, .ref h), (1, .int (nI 2)), (2, .int (nI s1)), (3, .ref (s 7)), (4, .int (nI k)), (5, .int (nI g))] [.int (nI (A (108 + (5 * k + 3))))] [xO h u ab be (Rf 0) (Rf 1) (Rf 2), (u 0, .inr (4, [.ref (s 0), .ref (s 1), .ref (s 3), .ref (s 5), .ref (s 7)])), cO (s 0) q (A 21) (A 5) (A 6) (A 7) (A 8) (A 0), (q 0, ia Z 12 (ni K)), (q 1, ia Z 12 (ni P)), (q 2, ia Z 6 (ni kd)), (q 3, ia Z 6 (ni am)), (q 4, ia Z 6 (ni st)), (q 5, ia Z 6 (ni rg)), (s 1, .inr (1, [.int (nI (A 4)), .ref (s 2)])), (s 2, ia Z 128 (ni Ro)), (s 3, .inr (3, [.int (nI (A 1)), .int (nI 4), .int (nI 5), .ref (s 4)])), (s 4, ia Z 30 (ni Sn)), (s 5, .inr (3, [.int (nI (A 2)), .int (nI 5), .int (nI 6), .ref (s 6)])), (s 6, ia Z 30 (ni Nt)), (s 7, .inr (3, [.int (nI (A 3)), .int (nI 5), .int (nI 6), .ref (s 8)])), (s 8, ia Z 30 (ni Mk))] 0 0
  refine j_top (congrArg nI (congrArg A (show 108 + (5 * k + 3) = 108 + 5 * k + 3 by omega))) ?_
  refine j_istore hJ (q := 27) (lvs' := [(8, .int (nI (A (108 + 5 * k + 3)))), (7, .int (nI (A (108 + 5 * k + 2)))), (6, .int (nI (A (108 + 5 * k + 1)))), (0, .ref h), (1, .int (nI 2)), (2, .int (nI s1)), (3, .ref (s 7)), (4, .int (nI k)), (5, .int (nI g))]) dX8_rowFits_25 (by decide) rfl rfl ?_
  refine j_iload_n hJ (q := 28) dX8_rowFits_27 rfl 4 rfl rfl ?_
  refine jn_lookup hJ (q := 115) (k := 2) (off := 87) dX8_rowFits_28 (by decide) (by decide) (by decide) ?_
  refine j_iload hJ (q := 117) dX8_rowFits_115 8 rfl rfl ?_
  refine j_iload hJ (q := 119) dX8_rowFits_117 2 rfl rfl ?_
  refine j_iload hJ (q := 121) dX8_rowFits_119 1 rfl rfl ?_
  refine j_iload hJ (q := 123) dX8_rowFits_121 0 rfl rfl ?_
  refine j_sR hJ (q := 126) (rest := []) (As := [.int (nI g), .int (nI (A (108 + 5 * k + 1))), .int (nI (A (108 + 5 * k + 2))), .int (nI (A (108 + 5 * k + 3)))]) jl_X8_306 (c_X0_reach Z g (A (108 + 5 * k + 1)) (A (108 + 5 * k + 2)) (A (108 + 5 * k + 3)) (by omega) (by omega) (by omega) (by omega)) dX8_rowFits_123 rfl (by decide) (Nat.le_of_ble_eq_true rfl) [] rfl rfl (fun rv hp => ?_)
  obtain rfl := hp
  show J 126 [(8, .int (nI (A (108 + 5 * k + 3)))), (7, .int (nI (A (108 + 5 * k + 2)))), (6, .int (nI (A (108 + 5 * k + 1)))), (0, .ref h), (1, .int (nI 2)), (2, .int (nI s1)), (3, .ref (s 7)), (4, .int (nI k)), (5, .int (nI g))] [.int (nI (rch g (A (108 + 5 * k + 1)) (A (108 + 5 * k + 2)) (A (108 + 5 * k + 3))))] [xO h u ab be (Rf 0) (Rf 1) (Rf 2), (u 0, .inr (4, [.ref (s 0), .ref (s 1), .ref (s 3), .ref (s 5), .ref (s 7)])), cO (s 0) q (A 21) (A 5) (A 6) (A 7) (A 8) (A 0), (q 0, ia Z 12 (ni K)), (q 1, ia Z 12 (ni P)), (q 2, ia Z 6 (ni kd)), (q 3, ia Z 6 (ni am)), (q 4, ia Z 6 (ni st)), (q 5, ia Z 6 (ni rg)), (s 1, .inr (1, [.int (nI (A 4)), .ref (s 2)])), (s 2, ia Z 128 (ni Ro)), (s 3, .inr (3, [.int (nI (A 1)), .int (nI 4), .int (nI 5), .ref (s 4)])), (s 4, ia Z 30 (ni Sn)), (s 5, .inr (3, [.int (nI (A 2)), .int (nI 5), .int (nI 6), .ref (s 6)])), (s 6, ia Z 30 (ni Nt)), (s 7, .inr (3, [.int (nI (A 3)), .int (nI 5), .int (nI 6), .ref (s 8)])), (s 8, ia Z 30 (ni Mk))] 0 0
  have hgl : rch g (A (108 + 5 * k + 1)) (A (108 + 5 * k + 2)) (A (108 + 5 * k + 3)) ≤ 60 := rch_le h3.1 h3.2
  refine j_aload_n hJ (q := 127) dX8_rowFits_126 rfl 6 rfl rfl ?_
  refine j_iload hJ (q := 129) dX8_rowFits_127 7 rfl rfl ?_
  refine j_iconst hJ (q := 130) dX8_rowFits_129 rfl ki_4 ?_
  refine j_vR hJ (q := 133) (rest := [.int (nI (rch g (A (108 + 5 * k + 1)) (A (108 + 5 * k + 2)) (A (108 + 5 * k + 3))))]) (As := [.int (nI k), .int (nI 4)]) jl_X8_293 (c_X5_atA Z (s 7) (s 8) (A 3) 5 6 Mk A 108 k 4 hMk (by omega) (by omega)) 15 rfl rfl dX8_rowFits_130 rfl (by decide) (Nat.le_of_ble_eq_true rfl) [15, 16] rfl rfl (fun rv hp => ?_)
  obtain rfl := hp
  show J 133 [(8, .int (nI (A (108 + 5 * k + 3)))), (7, .int (nI (A (108 + 5 * k + 2)))), (6, .int (nI (A (108 + 5 * k + 1)))), (0, .ref h), (1, .int (nI 2)), (2, .int (nI s1)), (3, .ref (s 7)), (4, .int (nI k)), (5, .int (nI g))] [.int (nI (A (108 + (5 * k + 4)))), .int (nI (rch g (A (108 + 5 * k + 1)) (A (108 + 5 * k + 2)) (A (108 + 5 * k + 3))))] [xO h u ab be (Rf 0) (Rf 1) (Rf 2), (u 0, .inr (4, [.ref (s 0), .ref (s 1), .ref (s 3), .ref (s 5), .ref (s 7)])), cO (s 0) q (A 21) (A 5) (A 6) (A 7) (A 8) (A 0), (q 0, ia Z 12 (ni K)), (q 1, ia Z 12 (ni P)), (q 2, ia Z 6 (ni kd)), (q 3, ia Z 6 (ni am)), (q 4, ia Z 6 (ni st)), (q 5, ia Z 6 (ni rg)), (s 1, .inr (1, [.int (nI (A 4)), .ref (s 2)])), (s 2, ia Z 128 (ni Ro)), (s 3, .inr (3, [.int (nI (A 1)), .int (nI 4), .int (nI 5), .ref (s 4)])), (s 4, ia Z 30 (ni Sn)), (s 5, .inr (3, [.int (nI (A 2)), .int (nI 5), .int (nI 6), .ref (s 6)])), (s 6, ia Z 30 (ni Nt)), (s 7, .inr (3, [.int (nI (A 3)), .int (nI 5), .int (nI 6), .ref (s 8)])), (s 8, ia Z 30 (ni Mk))] 0 0
  refine j_top (congrArg nI (congrArg A (show 108 + (5 * k + 4) = 108 + 5 * k + 4 by omega))) ?_
  refine jn_icmp_ne hJ (q := 136) (tgt := 140) dX8_rowFits_133 (by decide) rfl (by omega) (by omega) (fun c1 => ?_) (fun c1 => ?_)
  · skip
    refine j_iconst hJ (q := 141) dX8_rowFits_140 rfl ki_0 ?_
    exact hE.1 _ _ _ _ _ _ _ rfl rfl dX8_rowFits_141 (Nat.le_refl _) (Nat.le_refl _) (congrArg (fun z => some (Value.int z)) (bI_f (by first | (show rch _ _ _ _ = _; assumption) | (show ¬ rch _ _ _ _ = _; assumption))))
  · skip
    refine j_iconst hJ (q := 137) dX8_rowFits_136 rfl ki_1 ?_
    refine j_goto hJ (q := 141) dX8_rowFits_137 (by decide) ?_
    exact hE.1 _ _ _ _ _ _ _ rfl rfl dX8_rowFits_141 (Nat.le_refl _) (Nat.le_refl _) (congrArg (fun z => some (Value.int z)) (bI_t (by first | (show rch _ _ _ _ = _; assumption) | (show ¬ rch _ _ _ _ = _; assumption))))

set_option maxHeartbeats 4000000 in
set_option maxRecDepth 100000 in
theorem c_X8_allFits2 (Z : jZ) (h : Nat) (u : Nat → Nat) (ab : Int) (be : Int) (Rf : Nat → Nat) (s : Nat → Nat) (q : Nat → Nat) (A : Nat → Nat) (K : Nat → Nat) (P : Nat → Nat) (kd : Nat → Nat) (am : Nat → Nat) (st : Nat → Nat) (rg : Nat → Nat) (Ro : Nat → Nat) (Sn : Nat → Nat) (Nt : Nat → Nat) (Mk : Nat → Nat) (s1 : Nat) (g : Nat) (hg : wg A) (hA : rA A K P kd am st rg Ro Sn Nt Mk) (h1 : s1 < 100000) (h2 : g ≤ 5) : CR Z yX8_allFits cX8_allFits 6 ((some FieldType.boolean)) 3 [.ref h, .int (nI 2), .int (nI s1), .int (nI g)] [xO h u ab be (Rf 0) (Rf 1) (Rf 2), (u 0, .inr (4, [.ref (s 0), .ref (s 1), .ref (s 3), .ref (s 5), .ref (s 7)])), cO (s 0) q (A 21) (A 5) (A 6) (A 7) (A 8) (A 0), (q 0, ia Z 12 (ni K)), (q 1, ia Z 12 (ni P)), (q 2, ia Z 6 (ni kd)), (q 3, ia Z 6 (ni am)), (q 4, ia Z 6 (ni st)), (q 5, ia Z 6 (ni rg)), (s 1, .inr (1, [.int (nI (A 4)), .ref (s 2)])), (s 2, ia Z 128 (ni Ro)), (s 3, .inr (3, [.int (nI (A 1)), .int (nI 4), .int (nI 5), .ref (s 4)])), (s 4, ia Z 30 (ni Sn)), (s 5, .inr (3, [.int (nI (A 2)), .int (nI 5), .int (nI 6), .ref (s 6)])), (s 6, ia Z 30 (ni Nt)), (s 7, .inr (3, [.int (nI (A 3)), .int (nI 5), .int (nI 6), .ref (s 8)])), (s 8, ia Z 30 (ni Mk))] (fun rr => rr = some (.int (bI (kkN A s1 108 false g (A 3))))) := by
  refine CR.of RX8 rfl (by decide +kernel) (Nat.le_of_ble_eq_true rfl) ?_
  intro J hJ hE
  show J 0 [(0, .ref h), (1, .int (nI 2)), (2, .int (nI s1)), (3, .int (nI g))] [] [xO h u ab be (Rf 0) (Rf 1) (Rf 2), (u 0, .inr (4, [.ref (s 0), .ref (s 1), .ref (s 3), .ref (s 5), .ref (s 7)])), cO (s 0) q (A 21) (A 5) (A 6) (A 7) (A 8) (A 0), (q 0, ia Z 12 (ni K)), (q 1, ia Z 12 (ni P)), (q 2, ia Z 6 (ni kd)), (q 3, ia Z 6 (ni am)), (q 4, ia Z 6 (ni st)), (q 5, ia Z 6 (ni rg)), (s 1, .inr (1, [.int (nI (A 4)), .ref (s 2)])), (s 2, ia Z 128 (ni Ro)), (s 3, .inr (3, [.int (nI (A 1)), .int (nI 4), .int (nI 5), .ref (s 4)])), (s 4, ia Z 30 (ni Sn)), (s 5, .inr (3, [.int (nI (A 2)), .int (nI 5), .int (nI 6), .ref (s 6)])), (s 6, ia Z 30 (ni Nt)), (s 7, .inr (3, [.int (nI (A 3)), .int (nI 5), .int (nI 6), .ref (s 8)])), (s 8, ia Z 30 (ni Mk))] 0 0
  obtain ⟨hw, ⟨g1, g2, g3, g4, g8⟩, hrs, hrn, hrm, hpst⟩ := id hg
  obtain ⟨⟨w1, w2, w3, w4, w5, w6⟩, hb, wr, wh, wd⟩ := id hw
  obtain ⟨hR, hX⟩ := id hA
  obtain ⟨hP, hSn, hNt, hMk⟩ := id hX
  refine j_iload_n hJ (q := 1) dX8_allFits_0 rfl 1 rfl rfl ?_
  refine jn_if_ne hJ (q := 4) (tgt := 14) dX8_allFits_1 (by decide) rfl (by omega) (fun c1 => ?_) (fun c1 => ?_)
  · skip
    refine j_iload_n hJ (q := 15) dX8_allFits_14 rfl 1 rfl rfl ?_
    refine j_iconst hJ (q := 16) dX8_allFits_15 rfl ki_1 ?_
    refine jn_icmp_ne hJ (q := 19) (tgt := 29) dX8_allFits_16 (by decide) rfl (by omega) (by omega) (fun c2 => ?_) (fun c2 => ?_)
    · skip
      refine j_aload_n hJ (q := 30) dX8_allFits_29 rfl 0 rfl rfl ?_
      refine j_get hJ (q := 33) jf_X8_10 dX8_allFits_30 0 rfl rfl rfl ?_
      refine j_get hJ (q := 36) jf_X8_220 dX8_allFits_33 1 rfl rfl rfl ?_
      refine j_astore hJ (q := 38) (lvs' := [(4, .ref (s 7)), (0, .ref h), (1, .int (nI 2)), (2, .int (nI s1)), (3, .int (nI g))]) dX8_allFits_36 (by decide) rfl rfl ?_
      refine j_iconst hJ (q := 39) dX8_allFits_38 rfl ki_0 ?_
      refine j_istore hJ (q := 41) (lvs' := [(5, .int (nI 0)), (4, .ref (s 7)), (0, .ref h), (1, .int (nI 2)), (2, .int (nI s1)), (3, .int (nI g))]) dX8_allFits_39 (by decide) rfl rfl ?_
      have L_41 : ∀ (fu_41 : Nat) (k : Nat), A 3 - k < fu_41 → (k ≤ A 3) → (kkN A s1 108 false g k = true) → J 41 [(0, .ref h), (1, .int (nI 2)), (2, .int (nI s1)), (3, .int (nI g)), (4, .ref (s 7)), (5, .int (nI k))] [] [xO h u ab be (Rf 0) (Rf 1) (Rf 2), (u 0, .inr (4, [.ref (s 0), .ref (s 1), .ref (s 3), .ref (s 5), .ref (s 7)])), cO (s 0) q (A 21) (A 5) (A 6) (A 7) (A 8) (A 0), (q 0, ia Z 12 (ni K)), (q 1, ia Z 12 (ni P)), (q 2, ia Z 6 (ni kd)), (q 3, ia Z 6 (ni am)), (q 4, ia Z 6 (ni st)), (q 5, ia Z 6 (ni rg)), (s 1, .inr (1, [.int (nI (A 4)), .ref (s 2)])), (s 2, ia Z 128 (ni Ro)), (s 3, .inr (3, [.int (nI (A 1)), .int (nI 4), .int (nI 5), .ref (s 4)])), (s 4, ia Z 30 (ni Sn)), (s 5, .inr (3, [.int (nI (A 2)), .int (nI 5), .int (nI 6), .ref (s 6)])), (s 6, ia Z 30 (ni Nt)), (s 7, .inr (3, [.int (nI (A 3)), .int (nI 5), .int (nI 6), .ref (s 8)])), (s 8, ia Z 30 (ni Mk))] 0 0 := by
        intro fu_41
        induction fu_41 with
        | zero => intro k hm; exact absurd hm (Nat.not_lt_zero _)
        | succ fu_41 ih_41 =>
          intro k hm_41 hk hok
          refine j_iload hJ (q := 43) dX8_allFits_41 5 rfl rfl ?_
          refine j_aload hJ (q := 45) dX8_allFits_43 4 rfl rfl ?_
          refine j_get hJ (q := 48) jf_X8_210 dX8_allFits_45 15 rfl rfl rfl ?_
          refine jn_icmp_ge hJ (q := 51) (tgt := 85) dX8_allFits_48 (by decide) rfl (by omega) (by omega) (fun c3 => ?_) (fun c3 => ?_)
          · skip
            refine j_iconst hJ (q := 86) dX8_allFits_85 rfl ki_1 ?_
            exact hE.1 _ _ _ _ _ _ _ rfl rfl dX8_allFits_86 (Nat.le_refl _) (Nat.le_refl _) (congrArg (fun z => some (Value.int (bI z))) (show true = (kkN A s1 108 false g (A 3)) by rw [show A 3 = k by omega]; exact hok.symm))
          · skip
            refine j_aload hJ (q := 53) dX8_allFits_51 4 rfl rfl ?_
            refine j_iload hJ (q := 55) dX8_allFits_53 5 rfl rfl ?_
            refine j_iconst hJ (q := 56) dX8_allFits_55 rfl ki_0 ?_
            refine j_vR hJ (q := 59) (rest := []) (As := [.int (nI k), .int (nI 0)]) jl_X8_293 (c_X5_atA Z (s 7) (s 8) (A 3) 5 6 Mk A 108 k 0 hMk (by omega) (by omega)) 15 rfl rfl dX8_allFits_56 rfl (by decide) (Nat.le_of_ble_eq_true rfl) [15, 16] rfl rfl (fun rv hp => ?_)
            obtain rfl := hp
            show J 59 [(0, .ref h), (1, .int (nI 2)), (2, .int (nI s1)), (3, .int (nI g)), (4, .ref (s 7)), (5, .int (nI k))] [.int (nI (A (108 + (5 * k + 0))))] [xO h u ab be (Rf 0) (Rf 1) (Rf 2), (u 0, .inr (4, [.ref (s 0), .ref (s 1), .ref (s 3), .ref (s 5), .ref (s 7)])), cO (s 0) q (A 21) (A 5) (A 6) (A 7) (A 8) (A 0), (q 0, ia Z 12 (ni K)), (q 1, ia Z 12 (ni P)), (q 2, ia Z 6 (ni kd)), (q 3, ia Z 6 (ni am)), (q 4, ia Z 6 (ni st)), (q 5, ia Z 6 (ni rg)), (s 1, .inr (1, [.int (nI (A 4)), .ref (s 2)])), (s 2, ia Z 128 (ni Ro)), (s 3, .inr (3, [.int (nI (A 1)), .int (nI 4), .int (nI 5), .ref (s 4)])), (s 4, ia Z 30 (ni Sn)), (s 5, .inr (3, [.int (nI (A 2)), .int (nI 5), .int (nI 6), .ref (s 6)])), (s 6, ia Z 30 (ni Nt)), (s 7, .inr (3, [.int (nI (A 3)), .int (nI 5), .int (nI 6), .ref (s 8)])), (s 8, ia Z 30 (ni Mk))] 0 0
            have hbk := hb ((108 + 5 * k))
            refine j_top (congrArg nI (congrArg A (show 108 + (5 * k + 0) = 108 + 5 * k by omega))) ?_
            refine j_iload_n hJ (q := 60) dX8_allFits_59 rfl 2 rfl rfl ?_
            refine jn_icmp_ne hJ (q := 63) (tgt := 79) dX8_allFits_60 (by decide) rfl (by omega) (by omega) (fun c4 => ?_) (fun c4 => ?_)
            · skip
              refine j_iinc hJ (q := 82) (lvs' := [(5, .int (nI (k + 1))), (0, .ref h), (1, .int (nI 2)), (2, .int (nI s1)), (3, .int (nI g)), (4, .ref (s 7))]) dX8_allFits_79 5 rfl (by rw [show Int32.ofInt 1 = nI 1 from by decide +kernel]; exact nI_add _ _) (by decide) rfl rfl ?_
              refine j_goto hJ (q := 41) dX8_allFits_82 (by decide) ?_
              refine j_locals hJ [1, 2, 3, 4, 5, 0] rfl ?_
              exact ih_41 (k + 1) (by omega) (by omega) (by first | exact kkN_y1 hok (by assumption) | exact kkN_y2 hok (by assumption))
            · skip
              refine j_aload_n hJ (q := 64) dX8_allFits_63 rfl 0 rfl rfl ?_
              refine j_iload_n hJ (q := 65) dX8_allFits_64 rfl 1 rfl rfl ?_
              refine j_iload_n hJ (q := 66) dX8_allFits_65 rfl 2 rfl rfl ?_
              refine j_aload hJ (q := 68) dX8_allFits_66 4 rfl rfl ?_
              refine j_iload hJ (q := 70) dX8_allFits_68 5 rfl rfl ?_
              refine j_iload_n hJ (q := 71) dX8_allFits_70 rfl 3 rfl rfl ?_
              refine j_vR hJ (q := 74) (rest := []) (As := [.int (nI 2), .int (nI s1), .ref (s 7), .int (nI k), .int (nI g)]) jl_X8_296 (c_X8_rowFits2 Z h u ab be Rf s q A K P kd am st rg Ro Sn Nt Mk s1 k g hg hA (by omega) (by omega)) 0 rfl rfl dX8_allFits_71 rfl (by decide) (Nat.le_of_ble_eq_true rfl) [0, 1, 2, 3, 4, 5, 6, 7, 8, 9, 10, 11, 12, 13, 14, 15, 16] rfl rfl (fun rv hp => ?_)
              obtain rfl := hp
              show J 74 [(0, .ref h), (1, .int (nI 2)), (2, .int (nI s1)), (3, .int (nI g)), (4, .ref (s 7)), (5, .int (nI k))] [.int (bI (decide (rowv false g A (108 + 5 * k) = A (108 + 5 * k + 4))))] [xO h u ab be (Rf 0) (Rf 1) (Rf 2), (u 0, .inr (4, [.ref (s 0), .ref (s 1), .ref (s 3), .ref (s 5), .ref (s 7)])), cO (s 0) q (A 21) (A 5) (A 6) (A 7) (A 8) (A 0), (q 0, ia Z 12 (ni K)), (q 1, ia Z 12 (ni P)), (q 2, ia Z 6 (ni kd)), (q 3, ia Z 6 (ni am)), (q 4, ia Z 6 (ni st)), (q 5, ia Z 6 (ni rg)), (s 1, .inr (1, [.int (nI (A 4)), .ref (s 2)])), (s 2, ia Z 128 (ni Ro)), (s 3, .inr (3, [.int (nI (A 1)), .int (nI 4), .int (nI 5), .ref (s 4)])), (s 4, ia Z 30 (ni Sn)), (s 5, .inr (3, [.int (nI (A 2)), .int (nI 5), .int (nI 6), .ref (s 6)])), (s 6, ia Z 30 (ni Nt)), (s 7, .inr (3, [.int (nI (A 3)), .int (nI 5), .int (nI 6), .ref (s 8)])), (s 8, ia Z 30 (ni Mk))] 0 0
              refine jp_if_ne hJ (q := 77) (tgt := 79) dX8_allFits_74 (by decide) rfl (fun c5 => ?_) (fun c5 => ?_)
              · skip
                refine j_iinc hJ (q := 82) (lvs' := [(5, .int (nI (k + 1))), (0, .ref h), (1, .int (nI 2)), (2, .int (nI s1)), (3, .int (nI g)), (4, .ref (s 7))]) dX8_allFits_79 5 rfl (by rw [show Int32.ofInt 1 = nI 1 from by decide +kernel]; exact nI_add _ _) (by decide) rfl rfl ?_
                refine j_goto hJ (q := 41) dX8_allFits_82 (by decide) ?_
                refine j_locals hJ [1, 2, 3, 4, 5, 0] rfl ?_
                exact ih_41 (k + 1) (by omega) (by omega) (by first | exact kkN_y1 hok (by assumption) | exact kkN_y2 hok (by assumption))
              · skip
                refine j_iconst hJ (q := 78) dX8_allFits_77 rfl ki_0 ?_
                exact hE.1 _ _ _ _ _ _ _ rfl rfl dX8_allFits_78 (Nat.le_refl _) (Nat.le_refl _) (congrArg (fun z => some (Value.int (bI z))) (show false = (kkN A s1 108 false g (A 3)) by exact (kkN_no (k := k) (by omega) (by assumption) (by assumption)).symm))
      refine j_locals hJ [2, 3, 4, 5, 1, 0] rfl ?_
      exact L_41 ((A 3 - 0) + 1) 0 (Nat.lt_succ_self _) (by omega) rfl
    · skip
      exfalso; omega
  · skip
    exfalso; omega

set_option maxHeartbeats 4000000 in
set_option maxRecDepth 100000 in
theorem c_X8_thoseThatFit2 (Z : jZ) (h : Nat) (u : Nat → Nat) (ab : Int) (be : Int) (Rf : Nat → Nat) (s : Nat → Nat) (q : Nat → Nat) (A : Nat → Nat) (K : Nat → Nat) (P : Nat → Nat) (kd : Nat → Nat) (am : Nat → Nat) (st : Nat → Nat) (rg : Nat → Nat) (Ro : Nat → Nat) (Sn : Nat → Nat) (Nt : Nat → Nat) (Mk : Nat → Nat) (s1 : Nat) (hg : wg A) (hA : rA A K P kd am st rg Ro Sn Nt Mk) (h1 : s1 < 100000) : CR Z yX8_thoseThatFit cX8_thoseThatFit 5 ((some FieldType.int)) 4 [.ref h, .int (nI 2), .int (nI s1)] [xO h u ab be (Rf 0) (Rf 1) (Rf 2), (u 0, .inr (4, [.ref (s 0), .ref (s 1), .ref (s 3), .ref (s 5), .ref (s 7)])), cO (s 0) q (A 21) (A 5) (A 6) (A 7) (A 8) (A 0), (q 0, ia Z 12 (ni K)), (q 1, ia Z 12 (ni P)), (q 2, ia Z 6 (ni kd)), (q 3, ia Z 6 (ni am)), (q 4, ia Z 6 (ni st)), (q 5, ia Z 6 (ni rg)), (s 1, .inr (1, [.int (nI (A 4)), .ref (s 2)])), (s 2, ia Z 128 (ni Ro)), (s 3, .inr (3, [.int (nI (A 1)), .int (nI 4), .int (nI 5), .ref (s 4)])), (s 4, ia Z 30 (ni Sn)), (s 5, .inr (3, [.int (nI (A 2)), .int (nI 5), .int (nI 6), .ref (s 6)])), (s 6, ia Z 30 (ni Nt)), (s 7, .inr (3, [.int (nI (A 3)), .int (nI 5), .int (nI 6), .ref (s 8)])), (s 8, ia Z 30 (ni Mk))] (fun rr => rr = some (.int (nI (kds A s1 108 (A 3) false)))) := by
  refine CR.of RX8 rfl (by decide +kernel) (Nat.le_of_ble_eq_true rfl) ?_
  intro J hJ hE
  show J 0 [(0, .ref h), (1, .int (nI 2)), (2, .int (nI s1))] [] [xO h u ab be (Rf 0) (Rf 1) (Rf 2), (u 0, .inr (4, [.ref (s 0), .ref (s 1), .ref (s 3), .ref (s 5), .ref (s 7)])), cO (s 0) q (A 21) (A 5) (A 6) (A 7) (A 8) (A 0), (q 0, ia Z 12 (ni K)), (q 1, ia Z 12 (ni P)), (q 2, ia Z 6 (ni kd)), (q 3, ia Z 6 (ni am)), (q 4, ia Z 6 (ni st)), (q 5, ia Z 6 (ni rg)), (s 1, .inr (1, [.int (nI (A 4)), .ref (s 2)])), (s 2, ia Z 128 (ni Ro)), (s 3, .inr (3, [.int (nI (A 1)), .int (nI 4), .int (nI 5), .ref (s 4)])), (s 4, ia Z 30 (ni Sn)), (s 5, .inr (3, [.int (nI (A 2)), .int (nI 5), .int (nI 6), .ref (s 6)])), (s 6, ia Z 30 (ni Nt)), (s 7, .inr (3, [.int (nI (A 3)), .int (nI 5), .int (nI 6), .ref (s 8)])), (s 8, ia Z 30 (ni Mk))] 0 0
  obtain ⟨hw, ⟨g1, g2, g3, g4, g8⟩, hrs, hrn, hrm, hpst⟩ := id hg
  obtain ⟨⟨w1, w2, w3, w4, w5, w6⟩, hb, wr, wh, wd⟩ := id hw
  refine j_iconst hJ (q := 1) dX8_thoseThatFit_0 rfl ki_0 ?_
  refine j_istore_n hJ (q := 2) (lvs' := [(3, .int (nI 0)), (0, .ref h), (1, .int (nI 2)), (2, .int (nI s1))]) dX8_thoseThatFit_1 rfl (by decide) rfl rfl ?_
  refine j_iconst hJ (q := 3) dX8_thoseThatFit_2 rfl ki_0 ?_
  refine j_istore hJ (q := 5) (lvs' := [(4, .int (nI 0)), (3, .int (nI 0)), (0, .ref h), (1, .int (nI 2)), (2, .int (nI s1))]) dX8_thoseThatFit_3 (by decide) rfl rfl ?_
  have L_5 : ∀ (fu_5 : Nat) (ft : Nat) (g : Nat), 6 - g < fu_5 → (g ≤ 6) → (ft = orN (fun kd => kkN A s1 108 false kd (A 3)) g) → J 5 [(0, .ref h), (1, .int (nI 2)), (2, .int (nI s1)), (3, .int (nI ft)), (4, .int (nI g))] [] [xO h u ab be (Rf 0) (Rf 1) (Rf 2), (u 0, .inr (4, [.ref (s 0), .ref (s 1), .ref (s 3), .ref (s 5), .ref (s 7)])), cO (s 0) q (A 21) (A 5) (A 6) (A 7) (A 8) (A 0), (q 0, ia Z 12 (ni K)), (q 1, ia Z 12 (ni P)), (q 2, ia Z 6 (ni kd)), (q 3, ia Z 6 (ni am)), (q 4, ia Z 6 (ni st)), (q 5, ia Z 6 (ni rg)), (s 1, .inr (1, [.int (nI (A 4)), .ref (s 2)])), (s 2, ia Z 128 (ni Ro)), (s 3, .inr (3, [.int (nI (A 1)), .int (nI 4), .int (nI 5), .ref (s 4)])), (s 4, ia Z 30 (ni Sn)), (s 5, .inr (3, [.int (nI (A 2)), .int (nI 5), .int (nI 6), .ref (s 6)])), (s 6, ia Z 30 (ni Nt)), (s 7, .inr (3, [.int (nI (A 3)), .int (nI 5), .int (nI 6), .ref (s 8)])), (s 8, ia Z 30 (ni Mk))] 0 0 := by
    intro fu_5
    induction fu_5 with
    | zero => intro ft g hm; exact absurd hm (Nat.not_lt_zero _)
    | succ fu_5 ih_5 =>
      intro ft g hm_5 hg1 hft
      have hp2 := pow_le8 (p := g) (by omega)
      refine j_iload hJ (q := 7) dX8_thoseThatFit_5 4 rfl rfl ?_
      refine j_iload_n hJ (q := 8) dX8_thoseThatFit_7 rfl 1 rfl rfl ?_
      refine j_sR hJ (q := 11) (rest := [.int (nI g)]) (As := [.int (nI 2)]) jl_X8_287 (c_X8_howManyGuessed2 Z  ) dX8_thoseThatFit_8 rfl (by decide) (Nat.le_of_ble_eq_true rfl) [] rfl rfl (fun rv hp => ?_)
      obtain rfl := hp
      show J 11 [(0, .ref h), (1, .int (nI 2)), (2, .int (nI s1)), (3, .int (nI ft)), (4, .int (nI g))] [.int (nI 6), .int (nI g)] [xO h u ab be (Rf 0) (Rf 1) (Rf 2), (u 0, .inr (4, [.ref (s 0), .ref (s 1), .ref (s 3), .ref (s 5), .ref (s 7)])), cO (s 0) q (A 21) (A 5) (A 6) (A 7) (A 8) (A 0), (q 0, ia Z 12 (ni K)), (q 1, ia Z 12 (ni P)), (q 2, ia Z 6 (ni kd)), (q 3, ia Z 6 (ni am)), (q 4, ia Z 6 (ni st)), (q 5, ia Z 6 (ni rg)), (s 1, .inr (1, [.int (nI (A 4)), .ref (s 2)])), (s 2, ia Z 128 (ni Ro)), (s 3, .inr (3, [.int (nI (A 1)), .int (nI 4), .int (nI 5), .ref (s 4)])), (s 4, ia Z 30 (ni Sn)), (s 5, .inr (3, [.int (nI (A 2)), .int (nI 5), .int (nI 6), .ref (s 6)])), (s 6, ia Z 30 (ni Nt)), (s 7, .inr (3, [.int (nI (A 3)), .int (nI 5), .int (nI 6), .ref (s 8)])), (s 8, ia Z 30 (ni Mk))] 0 0
      refine jn_icmp_ge hJ (q := 14) (tgt := 38) dX8_thoseThatFit_11 (by decide) rfl (by omega) (by omega) (fun c1 => ?_) (fun c1 => ?_)
      · skip
        refine j_iload_n hJ (q := 39) dX8_thoseThatFit_38 rfl 3 rfl rfl ?_
        exact hE.1 _ _ _ _ _ _ _ rfl rfl dX8_thoseThatFit_39 (Nat.le_refl _) (Nat.le_refl _) (congrArg (fun z => some (Value.int (nI z))) (by rw [hft, show g = 6 by omega]; rfl))
      · skip
        refine j_aload_n hJ (q := 15) dX8_thoseThatFit_14 rfl 0 rfl rfl ?_
        refine j_iload_n hJ (q := 16) dX8_thoseThatFit_15 rfl 1 rfl rfl ?_
        refine j_iload_n hJ (q := 17) dX8_thoseThatFit_16 rfl 2 rfl rfl ?_
        refine j_iload hJ (q := 19) dX8_thoseThatFit_17 4 rfl rfl ?_
        refine j_vR hJ (q := 22) (rest := []) (As := [.int (nI 2), .int (nI s1), .int (nI g)]) jl_X8_290 (c_X8_allFits2 Z h u ab be Rf s q A K P kd am st rg Ro Sn Nt Mk s1 g hg hA (by omega) (by omega)) 0 rfl rfl dX8_thoseThatFit_19 rfl (by decide) (Nat.le_of_ble_eq_true rfl) [0, 1, 2, 3, 4, 5, 6, 7, 8, 9, 10, 11, 12, 13, 14, 15, 16] rfl rfl (fun rv hp => ?_)
        obtain rfl := hp
        show J 22 [(0, .ref h), (1, .int (nI 2)), (2, .int (nI s1)), (3, .int (nI ft)), (4, .int (nI g))] [.int (bI (kkN A s1 108 false g (A 3)))] [xO h u ab be (Rf 0) (Rf 1) (Rf 2), (u 0, .inr (4, [.ref (s 0), .ref (s 1), .ref (s 3), .ref (s 5), .ref (s 7)])), cO (s 0) q (A 21) (A 5) (A 6) (A 7) (A 8) (A 0), (q 0, ia Z 12 (ni K)), (q 1, ia Z 12 (ni P)), (q 2, ia Z 6 (ni kd)), (q 3, ia Z 6 (ni am)), (q 4, ia Z 6 (ni st)), (q 5, ia Z 6 (ni rg)), (s 1, .inr (1, [.int (nI (A 4)), .ref (s 2)])), (s 2, ia Z 128 (ni Ro)), (s 3, .inr (3, [.int (nI (A 1)), .int (nI 4), .int (nI 5), .ref (s 4)])), (s 4, ia Z 30 (ni Sn)), (s 5, .inr (3, [.int (nI (A 2)), .int (nI 5), .int (nI 6), .ref (s 6)])), (s 6, ia Z 30 (ni Nt)), (s 7, .inr (3, [.int (nI (A 3)), .int (nI 5), .int (nI 6), .ref (s 8)])), (s 8, ia Z 30 (ni Mk))] 0 0
        refine jb_if_eq hJ (q := 25) (tgt := 32) dX8_thoseThatFit_22 (by decide) rfl (fun c2 => ?_) (fun c2 => ?_)
        · skip
          refine j_iinc hJ (q := 35) (lvs' := [(4, .int (nI (g + 1))), (0, .ref h), (1, .int (nI 2)), (2, .int (nI s1)), (3, .int (nI ft))]) dX8_thoseThatFit_32 4 rfl (by rw [show Int32.ofInt 1 = nI 1 from by decide +kernel]; exact nI_add _ _) (by decide) rfl rfl ?_
          refine j_goto hJ (q := 5) dX8_thoseThatFit_35 (by decide) ?_
          refine j_locals hJ [1, 2, 3, 4, 0] rfl ?_
          exact ih_5 ft (g + 1) (by omega) (by omega) (by simp only [orN]; rw [hft, if_neg (by simp_all), Nat.or_zero])
        · skip
          refine j_iload_n hJ (q := 26) dX8_thoseThatFit_25 rfl 3 rfl rfl ?_
          refine j_iconst hJ (q := 27) dX8_thoseThatFit_26 rfl ki_1 ?_
          refine j_iload hJ (q := 29) dX8_thoseThatFit_27 4 rfl rfl ?_
          refine j_ishl hJ (q := 30) dX8_thoseThatFit_29 rfl (nI_shl (by omega) (by omega)) ?_
          refine j_ior hJ (q := 31) dX8_thoseThatFit_30 rfl (nI_or _ _) ?_
          refine j_istore_n hJ (q := 32) (lvs' := [(3, .int (nI (ft ||| (1 * 2 ^ g)))), (0, .ref h), (1, .int (nI 2)), (2, .int (nI s1)), (4, .int (nI g))]) dX8_thoseThatFit_31 rfl (by decide) rfl rfl ?_
          refine j_iinc hJ (q := 35) (lvs' := [(4, .int (nI (g + 1))), (3, .int (nI (ft ||| (1 * 2 ^ g)))), (0, .ref h), (1, .int (nI 2)), (2, .int (nI s1))]) dX8_thoseThatFit_32 4 rfl (by rw [show Int32.ofInt 1 = nI 1 from by decide +kernel]; exact nI_add _ _) (by decide) rfl rfl ?_
          refine j_goto hJ (q := 5) dX8_thoseThatFit_35 (by decide) ?_
          refine j_locals hJ [2, 3, 4, 1, 0] rfl ?_
          exact ih_5 (ft ||| (1 * 2 ^ g)) (g + 1) (by omega) (by omega) (by simp only [orN]; rw [hft, if_pos (by assumption)])
  refine j_locals hJ [2, 3, 4, 1, 0] rfl ?_
  exact L_5 ((6 - 0) + 1) 0 0 (Nat.lt_succ_self _) (by omega) rfl

set_option maxHeartbeats 4000000 in
set_option maxRecDepth 100000 in
theorem c_X8_phases (Z : jZ) (h : Nat) (u : Nat → Nat) (ab : Int) (be : Int) (Rf : Nat → Nat) (s : Nat → Nat) (q : Nat → Nat) (A : Nat → Nat) (K : Nat → Nat) (P : Nat → Nat) (kd : Nat → Nat) (am : Nat → Nat) (st : Nat → Nat) (rg : Nat → Nat) (Ro : Nat → Nat) (Sn : Nat → Nat) (Nt : Nat → Nat) (Mk : Nat → Nat) (a : Int32) (hg : wg A) (hA : rA A K P kd am st rg Ro Sn Nt Mk) : CT Z yX8_phases cX8_phases 2 ((some FieldType.int)) 5 0 0 [.ref h, .int a] [xO h u ab be (Rf 0) (Rf 1) (Rf 2), (u 0, .inr (4, [.ref (s 0), .ref (s 1), .ref (s 3), .ref (s 5), .ref (s 7)])), cO (s 0) q (A 21) (A 5) (A 6) (A 7) (A 8) (A 0), (q 0, ia Z 12 (ni K)), (q 1, ia Z 12 (ni P)), (q 2, ia Z 6 (ni kd)), (q 3, ia Z 6 (ni am)), (q 4, ia Z 6 (ni st)), (q 5, ia Z 6 (ni rg)), (s 1, .inr (1, [.int (nI (A 4)), .ref (s 2)])), (s 2, ia Z 128 (ni Ro)), (s 3, .inr (3, [.int (nI (A 1)), .int (nI 4), .int (nI 5), .ref (s 4)])), (s 4, ia Z 30 (ni Sn)), (s 5, .inr (3, [.int (nI (A 2)), .int (nI 5), .int (nI 6), .ref (s 6)])), (s 6, ia Z 30 (ni Nt)), (s 7, .inr (3, [.int (nI (A 3)), .int (nI 5), .int (nI 6), .ref (s 8)])), (s 8, ia Z 30 (ni Mk))] (fun rr ww => rr = some (.int (zI (z_phases A a))) ∧ ww = [xO h u ab be ((if isS A a then Rf else bmp Rf 0) 0) ((if isS A a then Rf else bmp Rf 0) 1) ((if isS A a then Rf else bmp Rf 0) 2), (u 0, .inr (4, [.ref (s 0), .ref (s 1), .ref (s 3), .ref (s 5), .ref (s 7)])), cO (s 0) q (A 21) (A 5) (A 6) (A 7) (A 8) (A 0), (q 0, ia Z 12 (ni K)), (q 1, ia Z 12 (ni P)), (q 2, ia Z 6 (ni kd)), (q 3, ia Z 6 (ni am)), (q 4, ia Z 6 (ni st)), (q 5, ia Z 6 (ni rg)), (s 1, .inr (1, [.int (nI (A 4)), .ref (s 2)])), (s 2, ia Z 128 (ni Ro)), (s 3, .inr (3, [.int (nI (A 1)), .int (nI 4), .int (nI 5), .ref (s 4)])), (s 4, ia Z 30 (ni Sn)), (s 5, .inr (3, [.int (nI (A 2)), .int (nI 5), .int (nI 6), .ref (s 6)])), (s 6, ia Z 30 (ni Nt)), (s 7, .inr (3, [.int (nI (A 3)), .int (nI 5), .int (nI 6), .ref (s 8)])), (s 8, ia Z 30 (ni Mk))]) := by
  refine CT.of RX8 false rfl (fun h => by cases h) (by decide +kernel) (Nat.le_of_ble_eq_true rfl) ?_
  intro J hJ hE
  show J 0 [(0, .ref h), (1, .int a)] [] [xO h u ab be (Rf 0) (Rf 1) (Rf 2), (u 0, .inr (4, [.ref (s 0), .ref (s 1), .ref (s 3), .ref (s 5), .ref (s 7)])), cO (s 0) q (A 21) (A 5) (A 6) (A 7) (A 8) (A 0), (q 0, ia Z 12 (ni K)), (q 1, ia Z 12 (ni P)), (q 2, ia Z 6 (ni kd)), (q 3, ia Z 6 (ni am)), (q 4, ia Z 6 (ni st)), (q 5, ia Z 6 (ni rg)), (s 1, .inr (1, [.int (nI (A 4)), .ref (s 2)])), (s 2, ia Z 128 (ni Ro)), (s 3, .inr (3, [.int (nI (A 1)), .int (nI 4), .int (nI 5), .ref (s 4)])), (s 4, ia Z 30 (ni Sn)), (s 5, .inr (3, [.int (nI (A 2)), .int (nI 5), .int (nI 6), .ref (s 6)])), (s 6, ia Z 30 (ni Nt)), (s 7, .inr (3, [.int (nI (A 3)), .int (nI 5), .int (nI 6), .ref (s 8)])), (s 8, ia Z 30 (ni Mk))] 0 0
  obtain ⟨hw, ⟨g1, g2, g3, g4, g8⟩, hrs, hrn, hrm, hpst⟩ := id hg
  obtain ⟨⟨w1, w2, w3, w4, w5, w6⟩, hb, wr, wh, wd⟩ := id hw
  obtain ⟨hR, hX⟩ := id hA
  obtain ⟨hP, hSn, hNt, hMk⟩ := id hX
  have hr_a := zI_rng a
  refine j_aload_n hJ (q := 1) dX8_phases_0 rfl 0 rfl rfl ?_
  refine j_iload_n hJ (q := 2) dX8_phases_1 rfl 1 rfl rfl ?_
  refine j_vR hJ (q := 5) (rest := []) (As := [.int a]) jl_X8_80 (c_X8_isSeat Z h u ab be Rf s q A K P kd am st rg a (by omega)) 0 rfl rfl dX8_phases_2 rfl (by decide) (Nat.le_of_ble_eq_true rfl) [0, 1, 2, 3, 4, 5, 6, 7, 8] rfl rfl (fun rv hp => ?_)
  obtain rfl := hp
  show J 5 [(0, .ref h), (1, .int a)] [.int (bI (decide (0 ≤ a.toInt ∧ a.toInt ≤ (A 21 : Int) - 1)))] [xO h u ab be (Rf 0) (Rf 1) (Rf 2), (u 0, .inr (4, [.ref (s 0), .ref (s 1), .ref (s 3), .ref (s 5), .ref (s 7)])), cO (s 0) q (A 21) (A 5) (A 6) (A 7) (A 8) (A 0), (q 0, ia Z 12 (ni K)), (q 1, ia Z 12 (ni P)), (q 2, ia Z 6 (ni kd)), (q 3, ia Z 6 (ni am)), (q 4, ia Z 6 (ni st)), (q 5, ia Z 6 (ni rg)), (s 1, .inr (1, [.int (nI (A 4)), .ref (s 2)])), (s 2, ia Z 128 (ni Ro)), (s 3, .inr (3, [.int (nI (A 1)), .int (nI 4), .int (nI 5), .ref (s 4)])), (s 4, ia Z 30 (ni Sn)), (s 5, .inr (3, [.int (nI (A 2)), .int (nI 5), .int (nI 6), .ref (s 6)])), (s 6, ia Z 30 (ni Nt)), (s 7, .inr (3, [.int (nI (A 3)), .int (nI 5), .int (nI 6), .ref (s 8)])), (s 8, ia Z 30 (ni Mk))] 0 0
  refine jp_if_eq hJ (q := 8) (tgt := 17) dX8_phases_5 (by decide) rfl (fun c1 => ?_) (fun c1 => ?_)
  · skip
    refine j_aload_n hJ (q := 18) dX8_phases_17 rfl 0 rfl rfl ?_
    refine j_vW hJ (q := 21) (rest := []) (As := []) (wr := [(u 0, .inr (4, [.ref (s 0), .ref (s 1), .ref (s 3), .ref (s 5), .ref (s 7)])), cO (s 0) q (A 21) (A 5) (A 6) (A 7) (A 8) (A 0), (q 0, ia Z 12 (ni K)), (q 1, ia Z 12 (ni P)), (q 2, ia Z 6 (ni kd)), (q 3, ia Z 6 (ni am)), (q 4, ia Z 6 (ni st)), (q 5, ia Z 6 (ni rg)), (s 1, .inr (1, [.int (nI (A 4)), .ref (s 2)])), (s 2, ia Z 128 (ni Ro)), (s 3, .inr (3, [.int (nI (A 1)), .int (nI 4), .int (nI 5), .ref (s 4)])), (s 4, ia Z 30 (ni Sn)), (s 5, .inr (3, [.int (nI (A 2)), .int (nI 5), .int (nI 6), .ref (s 6)])), (s 6, ia Z 30 (ni Nt)), (s 7, .inr (3, [.int (nI (A 3)), .int (nI 5), .int (nI 6), .ref (s 8)])), (s 8, ia Z 30 (ni Mk))]) jl_X8_62 (c_X8_bad Z h u ab be Rf ) 0 rfl rfl dX8_phases_18 rfl (by decide) (Nat.le_of_ble_eq_true rfl) [0] [1, 2, 3, 4, 5, 6, 7, 8, 9, 10, 11, 12, 13, 14, 15, 16] rfl rfl rfl rfl (by decide) rfl (fun rv wv hp => ?_)
    obtain ⟨rfl, rfl⟩ := hp
    refine j_world hJ (ws' := [xO h u ab be ((bmp Rf 0) 0) ((bmp Rf 0) 1) ((bmp Rf 0) 2), (u 0, .inr (4, [.ref (s 0), .ref (s 1), .ref (s 3), .ref (s 5), .ref (s 7)])), cO (s 0) q (A 21) (A 5) (A 6) (A 7) (A 8) (A 0), (q 0, ia Z 12 (ni K)), (q 1, ia Z 12 (ni P)), (q 2, ia Z 6 (ni kd)), (q 3, ia Z 6 (ni am)), (q 4, ia Z 6 (ni st)), (q 5, ia Z 6 (ni rg)), (s 1, .inr (1, [.int (nI (A 4)), .ref (s 2)])), (s 2, ia Z 128 (ni Ro)), (s 3, .inr (3, [.int (nI (A 1)), .int (nI 4), .int (nI 5), .ref (s 4)])), (s 4, ia Z 30 (ni Sn)), (s 5, .inr (3, [.int (nI (A 2)), .int (nI 5), .int (nI 6), .ref (s 6)])), (s 6, ia Z 30 (ni Nt)), (s 7, .inr (3, [.int (nI (A 3)), .int (nI 5), .int (nI 6), .ref (s 8)])), (s 8, ia Z 30 (ni Mk))]) [16, 0, 1, 2, 3, 4, 5, 6, 7, 8, 9, 10, 11, 12, 13, 14, 15] rfl rfl ?_
    show J 21 [(0, .ref h), (1, .int a)] [.int (zI (-2))] [xO h u ab be ((bmp Rf 0) 0) ((bmp Rf 0) 1) ((bmp Rf 0) 2), (u 0, .inr (4, [.ref (s 0), .ref (s 1), .ref (s 3), .ref (s 5), .ref (s 7)])), cO (s 0) q (A 21) (A 5) (A 6) (A 7) (A 8) (A 0), (q 0, ia Z 12 (ni K)), (q 1, ia Z 12 (ni P)), (q 2, ia Z 6 (ni kd)), (q 3, ia Z 6 (ni am)), (q 4, ia Z 6 (ni st)), (q 5, ia Z 6 (ni rg)), (s 1, .inr (1, [.int (nI (A 4)), .ref (s 2)])), (s 2, ia Z 128 (ni Ro)), (s 3, .inr (3, [.int (nI (A 1)), .int (nI 4), .int (nI 5), .ref (s 4)])), (s 4, ia Z 30 (ni Sn)), (s 5, .inr (3, [.int (nI (A 2)), .int (nI 5), .int (nI 6), .ref (s 6)])), (s 6, ia Z 30 (ni Nt)), (s 7, .inr (3, [.int (nI (A 3)), .int (nI 5), .int (nI 6), .ref (s 8)])), (s 8, ia Z 30 (ni Mk))] 0 0
    have hP0 : ¬ (isS A a) := by simp only [rgI, isS, isR, pNote, pMark, pFast, pLever, pHands, pSlip, pEven]; omega
    exact hE.1 _ _ _ _ _ _ _ rfl rfl dX8_phases_21 (Nat.le_refl _) (Nat.le_refl _) (⟨congrArg (fun z => some (Value.int (zI z))) (by simp only [z_phases, if_neg hP0]), by rw [if_neg hP0] <;> rfl⟩)
  · skip
    have hn_a := nt_cast (x := a) (by omega)
    refine j_eql (lvs' := [(0, .ref h), (1, .int (nI (nt a)))]) (by rw [← nt_eq (x := a) (by omega)]) ?_
    refine j_aload_n hJ (q := 9) dX8_phases_8 rfl 0 rfl rfl ?_
    refine j_iconst hJ (q := 10) dX8_phases_9 rfl ki_0 ?_
    refine j_iload_n hJ (q := 11) dX8_phases_10 rfl 1 rfl rfl ?_
    refine j_vR hJ (q := 14) (rest := []) (As := [.int (nI 0), .int (nI (nt a))]) jl_X8_211 (c_X8_thoseThatFit0 Z h u ab be Rf s q A K P kd am st rg Ro Sn Nt Mk (nt a) hg hA (by omega)) 0 rfl rfl dX8_phases_11 rfl (by decide) (Nat.le_of_ble_eq_true rfl) [0, 1, 2, 3, 4, 5, 6, 7, 8, 9, 10, 11, 12, 13, 14, 15, 16] rfl rfl (fun rv hp => ?_)
    obtain rfl := hp
    show J 14 [(0, .ref h), (1, .int (nI (nt a)))] [.int (nI (phs A (nt a)))] [xO h u ab be (Rf 0) (Rf 1) (Rf 2), (u 0, .inr (4, [.ref (s 0), .ref (s 1), .ref (s 3), .ref (s 5), .ref (s 7)])), cO (s 0) q (A 21) (A 5) (A 6) (A 7) (A 8) (A 0), (q 0, ia Z 12 (ni K)), (q 1, ia Z 12 (ni P)), (q 2, ia Z 6 (ni kd)), (q 3, ia Z 6 (ni am)), (q 4, ia Z 6 (ni st)), (q 5, ia Z 6 (ni rg)), (s 1, .inr (1, [.int (nI (A 4)), .ref (s 2)])), (s 2, ia Z 128 (ni Ro)), (s 3, .inr (3, [.int (nI (A 1)), .int (nI 4), .int (nI 5), .ref (s 4)])), (s 4, ia Z 30 (ni Sn)), (s 5, .inr (3, [.int (nI (A 2)), .int (nI 5), .int (nI 6), .ref (s 6)])), (s 6, ia Z 30 (ni Nt)), (s 7, .inr (3, [.int (nI (A 3)), .int (nI 5), .int (nI 6), .ref (s 8)])), (s 8, ia Z 30 (ni Mk))] 0 0
    refine j_goto hJ (q := 21) dX8_phases_14 (by decide) ?_
    have hP0 : isS A a := by simp only [rgI, isS, isR, pNote, pMark, pFast, pLever, pHands, pSlip, pEven]; omega
    exact hE.1 _ _ _ _ _ _ _ rfl rfl dX8_phases_21 (Nat.le_refl _) (Nat.le_refl _) (⟨congrArg (fun z => some (Value.int z)) ((zI_nat _).symm.trans (congrArg zI (by simp only [z_phases, if_pos hP0]))), by rw [if_pos hP0] <;> rfl⟩)

set_option maxHeartbeats 4000000 in
set_option maxRecDepth 100000 in
theorem c_X8_is (Z : jZ) (h : Nat) (u : Nat → Nat) (ab : Int) (be : Int) (Rf : Nat → Nat) (s : Nat → Nat) (q : Nat → Nat) (A : Nat → Nat) (K : Nat → Nat) (P : Nat → Nat) (kd : Nat → Nat) (am : Nat → Nat) (st : Nat → Nat) (rg : Nat → Nat) (Ro : Nat → Nat) (Sn : Nat → Nat) (Nt : Nat → Nat) (Mk : Nat → Nat) (a : Int32) (hg : wg A) (hA : rA A K P kd am st rg Ro Sn Nt Mk) : CT Z yX8_is cX8_is 2 ((some FieldType.int)) 5 0 0 [.ref h, .int a] [xO h u ab be (Rf 0) (Rf 1) (Rf 2), (u 0, .inr (4, [.ref (s 0), .ref (s 1), .ref (s 3), .ref (s 5), .ref (s 7)])), cO (s 0) q (A 21) (A 5) (A 6) (A 7) (A 8) (A 0), (q 0, ia Z 12 (ni K)), (q 1, ia Z 12 (ni P)), (q 2, ia Z 6 (ni kd)), (q 3, ia Z 6 (ni am)), (q 4, ia Z 6 (ni st)), (q 5, ia Z 6 (ni rg)), (s 1, .inr (1, [.int (nI (A 4)), .ref (s 2)])), (s 2, ia Z 128 (ni Ro)), (s 3, .inr (3, [.int (nI (A 1)), .int (nI 4), .int (nI 5), .ref (s 4)])), (s 4, ia Z 30 (ni Sn)), (s 5, .inr (3, [.int (nI (A 2)), .int (nI 5), .int (nI 6), .ref (s 6)])), (s 6, ia Z 30 (ni Nt)), (s 7, .inr (3, [.int (nI (A 3)), .int (nI 5), .int (nI 6), .ref (s 8)])), (s 8, ia Z 30 (ni Mk))] (fun rr ww => rr = some (.int (zI (z_is A a))) ∧ ww = [xO h u ab be ((if isS A a then Rf else bmp Rf 0) 0) ((if isS A a then Rf else bmp Rf 0) 1) ((if isS A a then Rf else bmp Rf 0) 2), (u 0, .inr (4, [.ref (s 0), .ref (s 1), .ref (s 3), .ref (s 5), .ref (s 7)])), cO (s 0) q (A 21) (A 5) (A 6) (A 7) (A 8) (A 0), (q 0, ia Z 12 (ni K)), (q 1, ia Z 12 (ni P)), (q 2, ia Z 6 (ni kd)), (q 3, ia Z 6 (ni am)), (q 4, ia Z 6 (ni st)), (q 5, ia Z 6 (ni rg)), (s 1, .inr (1, [.int (nI (A 4)), .ref (s 2)])), (s 2, ia Z 128 (ni Ro)), (s 3, .inr (3, [.int (nI (A 1)), .int (nI 4), .int (nI 5), .ref (s 4)])), (s 4, ia Z 30 (ni Sn)), (s 5, .inr (3, [.int (nI (A 2)), .int (nI 5), .int (nI 6), .ref (s 6)])), (s 6, ia Z 30 (ni Nt)), (s 7, .inr (3, [.int (nI (A 3)), .int (nI 5), .int (nI 6), .ref (s 8)])), (s 8, ia Z 30 (ni Mk))]) := by
  refine CT.of RX8 false rfl (fun h => by cases h) (by decide +kernel) (Nat.le_of_ble_eq_true rfl) ?_
  intro J hJ hE
  show J 0 [(0, .ref h), (1, .int a)] [] [xO h u ab be (Rf 0) (Rf 1) (Rf 2), (u 0, .inr (4, [.ref (s 0), .ref (s 1), .ref (s 3), .ref (s 5), .ref (s 7)])), cO (s 0) q (A 21) (A 5) (A 6) (A 7) (A 8) (A 0), (q 0, ia Z 12 (ni K)), (q 1, ia Z 12 (ni P)), (q 2, ia Z 6 (ni kd)), (q 3, ia Z 6 (ni am)), (q 4, ia Z 6 (ni st)), (q 5, ia Z 6 (ni rg)), (s 1, .inr (1, [.int (nI (A 4)), .ref (s 2)])), (s 2, ia Z 128 (ni Ro)), (s 3, .inr (3, [.int (nI (A 1)), .int (nI 4), .int (nI 5), .ref (s 4)])), (s 4, ia Z 30 (ni Sn)), (s 5, .inr (3, [.int (nI (A 2)), .int (nI 5), .int (nI 6), .ref (s 6)])), (s 6, ia Z 30 (ni Nt)), (s 7, .inr (3, [.int (nI (A 3)), .int (nI 5), .int (nI 6), .ref (s 8)])), (s 8, ia Z 30 (ni Mk))] 0 0
  obtain ⟨hw, ⟨g1, g2, g3, g4, g8⟩, hrs, hrn, hrm, hpst⟩ := id hg
  obtain ⟨⟨w1, w2, w3, w4, w5, w6⟩, hb, wr, wh, wd⟩ := id hw
  obtain ⟨hR, hX⟩ := id hA
  obtain ⟨hP, hSn, hNt, hMk⟩ := id hX
  have hr_a := zI_rng a
  refine j_aload_n hJ (q := 1) dX8_is_0 rfl 0 rfl rfl ?_
  refine j_iload_n hJ (q := 2) dX8_is_1 rfl 1 rfl rfl ?_
  refine j_vR hJ (q := 5) (rest := []) (As := [.int a]) jl_X8_80 (c_X8_isSeat Z h u ab be Rf s q A K P kd am st rg a (by omega)) 0 rfl rfl dX8_is_2 rfl (by decide) (Nat.le_of_ble_eq_true rfl) [0, 1, 2, 3, 4, 5, 6, 7, 8] rfl rfl (fun rv hp => ?_)
  obtain rfl := hp
  show J 5 [(0, .ref h), (1, .int a)] [.int (bI (decide (0 ≤ a.toInt ∧ a.toInt ≤ (A 21 : Int) - 1)))] [xO h u ab be (Rf 0) (Rf 1) (Rf 2), (u 0, .inr (4, [.ref (s 0), .ref (s 1), .ref (s 3), .ref (s 5), .ref (s 7)])), cO (s 0) q (A 21) (A 5) (A 6) (A 7) (A 8) (A 0), (q 0, ia Z 12 (ni K)), (q 1, ia Z 12 (ni P)), (q 2, ia Z 6 (ni kd)), (q 3, ia Z 6 (ni am)), (q 4, ia Z 6 (ni st)), (q 5, ia Z 6 (ni rg)), (s 1, .inr (1, [.int (nI (A 4)), .ref (s 2)])), (s 2, ia Z 128 (ni Ro)), (s 3, .inr (3, [.int (nI (A 1)), .int (nI 4), .int (nI 5), .ref (s 4)])), (s 4, ia Z 30 (ni Sn)), (s 5, .inr (3, [.int (nI (A 2)), .int (nI 5), .int (nI 6), .ref (s 6)])), (s 6, ia Z 30 (ni Nt)), (s 7, .inr (3, [.int (nI (A 3)), .int (nI 5), .int (nI 6), .ref (s 8)])), (s 8, ia Z 30 (ni Mk))] 0 0
  refine jp_if_eq hJ (q := 8) (tgt := 17) dX8_is_5 (by decide) rfl (fun c1 => ?_) (fun c1 => ?_)
  · skip
    refine j_aload_n hJ (q := 18) dX8_is_17 rfl 0 rfl rfl ?_
    refine j_vW hJ (q := 21) (rest := []) (As := []) (wr := [(u 0, .inr (4, [.ref (s 0), .ref (s 1), .ref (s 3), .ref (s 5), .ref (s 7)])), cO (s 0) q (A 21) (A 5) (A 6) (A 7) (A 8) (A 0), (q 0, ia Z 12 (ni K)), (q 1, ia Z 12 (ni P)), (q 2, ia Z 6 (ni kd)), (q 3, ia Z 6 (ni am)), (q 4, ia Z 6 (ni st)), (q 5, ia Z 6 (ni rg)), (s 1, .inr (1, [.int (nI (A 4)), .ref (s 2)])), (s 2, ia Z 128 (ni Ro)), (s 3, .inr (3, [.int (nI (A 1)), .int (nI 4), .int (nI 5), .ref (s 4)])), (s 4, ia Z 30 (ni Sn)), (s 5, .inr (3, [.int (nI (A 2)), .int (nI 5), .int (nI 6), .ref (s 6)])), (s 6, ia Z 30 (ni Nt)), (s 7, .inr (3, [.int (nI (A 3)), .int (nI 5), .int (nI 6), .ref (s 8)])), (s 8, ia Z 30 (ni Mk))]) jl_X8_62 (c_X8_bad Z h u ab be Rf ) 0 rfl rfl dX8_is_18 rfl (by decide) (Nat.le_of_ble_eq_true rfl) [0] [1, 2, 3, 4, 5, 6, 7, 8, 9, 10, 11, 12, 13, 14, 15, 16] rfl rfl rfl rfl (by decide) rfl (fun rv wv hp => ?_)
    obtain ⟨rfl, rfl⟩ := hp
    refine j_world hJ (ws' := [xO h u ab be ((bmp Rf 0) 0) ((bmp Rf 0) 1) ((bmp Rf 0) 2), (u 0, .inr (4, [.ref (s 0), .ref (s 1), .ref (s 3), .ref (s 5), .ref (s 7)])), cO (s 0) q (A 21) (A 5) (A 6) (A 7) (A 8) (A 0), (q 0, ia Z 12 (ni K)), (q 1, ia Z 12 (ni P)), (q 2, ia Z 6 (ni kd)), (q 3, ia Z 6 (ni am)), (q 4, ia Z 6 (ni st)), (q 5, ia Z 6 (ni rg)), (s 1, .inr (1, [.int (nI (A 4)), .ref (s 2)])), (s 2, ia Z 128 (ni Ro)), (s 3, .inr (3, [.int (nI (A 1)), .int (nI 4), .int (nI 5), .ref (s 4)])), (s 4, ia Z 30 (ni Sn)), (s 5, .inr (3, [.int (nI (A 2)), .int (nI 5), .int (nI 6), .ref (s 6)])), (s 6, ia Z 30 (ni Nt)), (s 7, .inr (3, [.int (nI (A 3)), .int (nI 5), .int (nI 6), .ref (s 8)])), (s 8, ia Z 30 (ni Mk))]) [16, 0, 1, 2, 3, 4, 5, 6, 7, 8, 9, 10, 11, 12, 13, 14, 15] rfl rfl ?_
    show J 21 [(0, .ref h), (1, .int a)] [.int (zI (-2))] [xO h u ab be ((bmp Rf 0) 0) ((bmp Rf 0) 1) ((bmp Rf 0) 2), (u 0, .inr (4, [.ref (s 0), .ref (s 1), .ref (s 3), .ref (s 5), .ref (s 7)])), cO (s 0) q (A 21) (A 5) (A 6) (A 7) (A 8) (A 0), (q 0, ia Z 12 (ni K)), (q 1, ia Z 12 (ni P)), (q 2, ia Z 6 (ni kd)), (q 3, ia Z 6 (ni am)), (q 4, ia Z 6 (ni st)), (q 5, ia Z 6 (ni rg)), (s 1, .inr (1, [.int (nI (A 4)), .ref (s 2)])), (s 2, ia Z 128 (ni Ro)), (s 3, .inr (3, [.int (nI (A 1)), .int (nI 4), .int (nI 5), .ref (s 4)])), (s 4, ia Z 30 (ni Sn)), (s 5, .inr (3, [.int (nI (A 2)), .int (nI 5), .int (nI 6), .ref (s 6)])), (s 6, ia Z 30 (ni Nt)), (s 7, .inr (3, [.int (nI (A 3)), .int (nI 5), .int (nI 6), .ref (s 8)])), (s 8, ia Z 30 (ni Mk))] 0 0
    have hP0 : ¬ (isS A a) := by simp only [rgI, isS, isR, pNote, pMark, pFast, pLever, pHands, pSlip, pEven]; omega
    exact hE.1 _ _ _ _ _ _ _ rfl rfl dX8_is_21 (Nat.le_refl _) (Nat.le_refl _) (⟨congrArg (fun z => some (Value.int (zI z))) (by simp only [z_is, if_neg hP0]), by rw [if_neg hP0] <;> rfl⟩)
  · skip
    have hn_a := nt_cast (x := a) (by omega)
    refine j_eql (lvs' := [(0, .ref h), (1, .int (nI (nt a)))]) (by rw [← nt_eq (x := a) (by omega)]) ?_
    refine j_aload_n hJ (q := 9) dX8_is_8 rfl 0 rfl rfl ?_
    refine j_iconst hJ (q := 10) dX8_is_9 rfl ki_1 ?_
    refine j_iload_n hJ (q := 11) dX8_is_10 rfl 1 rfl rfl ?_
    refine j_vR hJ (q := 14) (rest := []) (As := [.int (nI 1), .int (nI (nt a))]) jl_X8_211 (c_X8_thoseThatFit1 Z h u ab be Rf s q A K P kd am st rg Ro Sn Nt Mk (nt a) hg hA (by omega)) 0 rfl rfl dX8_is_11 rfl (by decide) (Nat.le_of_ble_eq_true rfl) [0, 1, 2, 3, 4, 5, 6, 7, 8, 9, 10, 11, 12, 13, 14, 15, 16] rfl rfl (fun rv hp => ?_)
    obtain rfl := hp
    show J 14 [(0, .ref h), (1, .int (nI (nt a)))] [.int (nI (kds A (nt a) 78 (A 2) true))] [xO h u ab be (Rf 0) (Rf 1) (Rf 2), (u 0, .inr (4, [.ref (s 0), .ref (s 1), .ref (s 3), .ref (s 5), .ref (s 7)])), cO (s 0) q (A 21) (A 5) (A 6) (A 7) (A 8) (A 0), (q 0, ia Z 12 (ni K)), (q 1, ia Z 12 (ni P)), (q 2, ia Z 6 (ni kd)), (q 3, ia Z 6 (ni am)), (q 4, ia Z 6 (ni st)), (q 5, ia Z 6 (ni rg)), (s 1, .inr (1, [.int (nI (A 4)), .ref (s 2)])), (s 2, ia Z 128 (ni Ro)), (s 3, .inr (3, [.int (nI (A 1)), .int (nI 4), .int (nI 5), .ref (s 4)])), (s 4, ia Z 30 (ni Sn)), (s 5, .inr (3, [.int (nI (A 2)), .int (nI 5), .int (nI 6), .ref (s 6)])), (s 6, ia Z 30 (ni Nt)), (s 7, .inr (3, [.int (nI (A 3)), .int (nI 5), .int (nI 6), .ref (s 8)])), (s 8, ia Z 30 (ni Mk))] 0 0
    refine j_goto hJ (q := 21) dX8_is_14 (by decide) ?_
    have hP0 : isS A a := by simp only [rgI, isS, isR, pNote, pMark, pFast, pLever, pHands, pSlip, pEven]; omega
    exact hE.1 _ _ _ _ _ _ _ rfl rfl dX8_is_21 (Nat.le_refl _) (Nat.le_refl _) (⟨congrArg (fun z => some (Value.int z)) ((zI_nat _).symm.trans (congrArg zI (by simp only [z_is, if_pos hP0]))), by rw [if_pos hP0] <;> rfl⟩)

set_option maxHeartbeats 4000000 in
set_option maxRecDepth 100000 in
theorem c_X8_kinds (Z : jZ) (h : Nat) (u : Nat → Nat) (ab : Int) (be : Int) (Rf : Nat → Nat) (s : Nat → Nat) (q : Nat → Nat) (A : Nat → Nat) (K : Nat → Nat) (P : Nat → Nat) (kd : Nat → Nat) (am : Nat → Nat) (st : Nat → Nat) (rg : Nat → Nat) (Ro : Nat → Nat) (Sn : Nat → Nat) (Nt : Nat → Nat) (Mk : Nat → Nat) (a : Int32) (hg : wg A) (hA : rA A K P kd am st rg Ro Sn Nt Mk) : CT Z yX8_kinds cX8_kinds 2 ((some FieldType.int)) 5 0 0 [.ref h, .int a] [xO h u ab be (Rf 0) (Rf 1) (Rf 2), (u 0, .inr (4, [.ref (s 0), .ref (s 1), .ref (s 3), .ref (s 5), .ref (s 7)])), cO (s 0) q (A 21) (A 5) (A 6) (A 7) (A 8) (A 0), (q 0, ia Z 12 (ni K)), (q 1, ia Z 12 (ni P)), (q 2, ia Z 6 (ni kd)), (q 3, ia Z 6 (ni am)), (q 4, ia Z 6 (ni st)), (q 5, ia Z 6 (ni rg)), (s 1, .inr (1, [.int (nI (A 4)), .ref (s 2)])), (s 2, ia Z 128 (ni Ro)), (s 3, .inr (3, [.int (nI (A 1)), .int (nI 4), .int (nI 5), .ref (s 4)])), (s 4, ia Z 30 (ni Sn)), (s 5, .inr (3, [.int (nI (A 2)), .int (nI 5), .int (nI 6), .ref (s 6)])), (s 6, ia Z 30 (ni Nt)), (s 7, .inr (3, [.int (nI (A 3)), .int (nI 5), .int (nI 6), .ref (s 8)])), (s 8, ia Z 30 (ni Mk))] (fun rr ww => rr = some (.int (zI (z_kinds A a))) ∧ ww = [xO h u ab be ((if isR A a then Rf else bmp Rf 0) 0) ((if isR A a then Rf else bmp Rf 0) 1) ((if isR A a then Rf else bmp Rf 0) 2), (u 0, .inr (4, [.ref (s 0), .ref (s 1), .ref (s 3), .ref (s 5), .ref (s 7)])), cO (s 0) q (A 21) (A 5) (A 6) (A 7) (A 8) (A 0), (q 0, ia Z 12 (ni K)), (q 1, ia Z 12 (ni P)), (q 2, ia Z 6 (ni kd)), (q 3, ia Z 6 (ni am)), (q 4, ia Z 6 (ni st)), (q 5, ia Z 6 (ni rg)), (s 1, .inr (1, [.int (nI (A 4)), .ref (s 2)])), (s 2, ia Z 128 (ni Ro)), (s 3, .inr (3, [.int (nI (A 1)), .int (nI 4), .int (nI 5), .ref (s 4)])), (s 4, ia Z 30 (ni Sn)), (s 5, .inr (3, [.int (nI (A 2)), .int (nI 5), .int (nI 6), .ref (s 6)])), (s 6, ia Z 30 (ni Nt)), (s 7, .inr (3, [.int (nI (A 3)), .int (nI 5), .int (nI 6), .ref (s 8)])), (s 8, ia Z 30 (ni Mk))]) := by
  refine CT.of RX8 false rfl (fun h => by cases h) (by decide +kernel) (Nat.le_of_ble_eq_true rfl) ?_
  intro J hJ hE
  show J 0 [(0, .ref h), (1, .int a)] [] [xO h u ab be (Rf 0) (Rf 1) (Rf 2), (u 0, .inr (4, [.ref (s 0), .ref (s 1), .ref (s 3), .ref (s 5), .ref (s 7)])), cO (s 0) q (A 21) (A 5) (A 6) (A 7) (A 8) (A 0), (q 0, ia Z 12 (ni K)), (q 1, ia Z 12 (ni P)), (q 2, ia Z 6 (ni kd)), (q 3, ia Z 6 (ni am)), (q 4, ia Z 6 (ni st)), (q 5, ia Z 6 (ni rg)), (s 1, .inr (1, [.int (nI (A 4)), .ref (s 2)])), (s 2, ia Z 128 (ni Ro)), (s 3, .inr (3, [.int (nI (A 1)), .int (nI 4), .int (nI 5), .ref (s 4)])), (s 4, ia Z 30 (ni Sn)), (s 5, .inr (3, [.int (nI (A 2)), .int (nI 5), .int (nI 6), .ref (s 6)])), (s 6, ia Z 30 (ni Nt)), (s 7, .inr (3, [.int (nI (A 3)), .int (nI 5), .int (nI 6), .ref (s 8)])), (s 8, ia Z 30 (ni Mk))] 0 0
  obtain ⟨hw, ⟨g1, g2, g3, g4, g8⟩, hrs, hrn, hrm, hpst⟩ := id hg
  obtain ⟨⟨w1, w2, w3, w4, w5, w6⟩, hb, wr, wh, wd⟩ := id hw
  obtain ⟨hR, hX⟩ := id hA
  obtain ⟨hP, hSn, hNt, hMk⟩ := id hX
  have hr_a := zI_rng a
  refine j_aload_n hJ (q := 1) dX8_kinds_0 rfl 0 rfl rfl ?_
  refine j_iload_n hJ (q := 2) dX8_kinds_1 rfl 1 rfl rfl ?_
  refine j_vR hJ (q := 5) (rest := []) (As := [.int a]) jl_X8_141 (c_X8_isRider Z h u ab be Rf s q A K P kd am st rg a (by omega)) 0 rfl rfl dX8_kinds_2 rfl (by decide) (Nat.le_of_ble_eq_true rfl) [0, 1, 2, 3, 4, 5, 6, 7, 8] rfl rfl (fun rv hp => ?_)
  obtain rfl := hp
  show J 5 [(0, .ref h), (1, .int a)] [.int (bI (decide (0 ≤ a.toInt ∧ a.toInt ≤ (A 0 : Int) - 1)))] [xO h u ab be (Rf 0) (Rf 1) (Rf 2), (u 0, .inr (4, [.ref (s 0), .ref (s 1), .ref (s 3), .ref (s 5), .ref (s 7)])), cO (s 0) q (A 21) (A 5) (A 6) (A 7) (A 8) (A 0), (q 0, ia Z 12 (ni K)), (q 1, ia Z 12 (ni P)), (q 2, ia Z 6 (ni kd)), (q 3, ia Z 6 (ni am)), (q 4, ia Z 6 (ni st)), (q 5, ia Z 6 (ni rg)), (s 1, .inr (1, [.int (nI (A 4)), .ref (s 2)])), (s 2, ia Z 128 (ni Ro)), (s 3, .inr (3, [.int (nI (A 1)), .int (nI 4), .int (nI 5), .ref (s 4)])), (s 4, ia Z 30 (ni Sn)), (s 5, .inr (3, [.int (nI (A 2)), .int (nI 5), .int (nI 6), .ref (s 6)])), (s 6, ia Z 30 (ni Nt)), (s 7, .inr (3, [.int (nI (A 3)), .int (nI 5), .int (nI 6), .ref (s 8)])), (s 8, ia Z 30 (ni Mk))] 0 0
  refine jp_if_eq hJ (q := 8) (tgt := 17) dX8_kinds_5 (by decide) rfl (fun c1 => ?_) (fun c1 => ?_)
  · skip
    refine j_aload_n hJ (q := 18) dX8_kinds_17 rfl 0 rfl rfl ?_
    refine j_vW hJ (q := 21) (rest := []) (As := []) (wr := [(u 0, .inr (4, [.ref (s 0), .ref (s 1), .ref (s 3), .ref (s 5), .ref (s 7)])), cO (s 0) q (A 21) (A 5) (A 6) (A 7) (A 8) (A 0), (q 0, ia Z 12 (ni K)), (q 1, ia Z 12 (ni P)), (q 2, ia Z 6 (ni kd)), (q 3, ia Z 6 (ni am)), (q 4, ia Z 6 (ni st)), (q 5, ia Z 6 (ni rg)), (s 1, .inr (1, [.int (nI (A 4)), .ref (s 2)])), (s 2, ia Z 128 (ni Ro)), (s 3, .inr (3, [.int (nI (A 1)), .int (nI 4), .int (nI 5), .ref (s 4)])), (s 4, ia Z 30 (ni Sn)), (s 5, .inr (3, [.int (nI (A 2)), .int (nI 5), .int (nI 6), .ref (s 6)])), (s 6, ia Z 30 (ni Nt)), (s 7, .inr (3, [.int (nI (A 3)), .int (nI 5), .int (nI 6), .ref (s 8)])), (s 8, ia Z 30 (ni Mk))]) jl_X8_62 (c_X8_bad Z h u ab be Rf ) 0 rfl rfl dX8_kinds_18 rfl (by decide) (Nat.le_of_ble_eq_true rfl) [0] [1, 2, 3, 4, 5, 6, 7, 8, 9, 10, 11, 12, 13, 14, 15, 16] rfl rfl rfl rfl (by decide) rfl (fun rv wv hp => ?_)
    obtain ⟨rfl, rfl⟩ := hp
    refine j_world hJ (ws' := [xO h u ab be ((bmp Rf 0) 0) ((bmp Rf 0) 1) ((bmp Rf 0) 2), (u 0, .inr (4, [.ref (s 0), .ref (s 1), .ref (s 3), .ref (s 5), .ref (s 7)])), cO (s 0) q (A 21) (A 5) (A 6) (A 7) (A 8) (A 0), (q 0, ia Z 12 (ni K)), (q 1, ia Z 12 (ni P)), (q 2, ia Z 6 (ni kd)), (q 3, ia Z 6 (ni am)), (q 4, ia Z 6 (ni st)), (q 5, ia Z 6 (ni rg)), (s 1, .inr (1, [.int (nI (A 4)), .ref (s 2)])), (s 2, ia Z 128 (ni Ro)), (s 3, .inr (3, [.int (nI (A 1)), .int (nI 4), .int (nI 5), .ref (s 4)])), (s 4, ia Z 30 (ni Sn)), (s 5, .inr (3, [.int (nI (A 2)), .int (nI 5), .int (nI 6), .ref (s 6)])), (s 6, ia Z 30 (ni Nt)), (s 7, .inr (3, [.int (nI (A 3)), .int (nI 5), .int (nI 6), .ref (s 8)])), (s 8, ia Z 30 (ni Mk))]) [16, 0, 1, 2, 3, 4, 5, 6, 7, 8, 9, 10, 11, 12, 13, 14, 15] rfl rfl ?_
    show J 21 [(0, .ref h), (1, .int a)] [.int (zI (-2))] [xO h u ab be ((bmp Rf 0) 0) ((bmp Rf 0) 1) ((bmp Rf 0) 2), (u 0, .inr (4, [.ref (s 0), .ref (s 1), .ref (s 3), .ref (s 5), .ref (s 7)])), cO (s 0) q (A 21) (A 5) (A 6) (A 7) (A 8) (A 0), (q 0, ia Z 12 (ni K)), (q 1, ia Z 12 (ni P)), (q 2, ia Z 6 (ni kd)), (q 3, ia Z 6 (ni am)), (q 4, ia Z 6 (ni st)), (q 5, ia Z 6 (ni rg)), (s 1, .inr (1, [.int (nI (A 4)), .ref (s 2)])), (s 2, ia Z 128 (ni Ro)), (s 3, .inr (3, [.int (nI (A 1)), .int (nI 4), .int (nI 5), .ref (s 4)])), (s 4, ia Z 30 (ni Sn)), (s 5, .inr (3, [.int (nI (A 2)), .int (nI 5), .int (nI 6), .ref (s 6)])), (s 6, ia Z 30 (ni Nt)), (s 7, .inr (3, [.int (nI (A 3)), .int (nI 5), .int (nI 6), .ref (s 8)])), (s 8, ia Z 30 (ni Mk))] 0 0
    have hP0 : ¬ (isR A a) := by simp only [rgI, isS, isR, pNote, pMark, pFast, pLever, pHands, pSlip, pEven]; omega
    exact hE.1 _ _ _ _ _ _ _ rfl rfl dX8_kinds_21 (Nat.le_refl _) (Nat.le_refl _) (⟨congrArg (fun z => some (Value.int (zI z))) (by simp only [z_kinds, if_neg hP0]), by rw [if_neg hP0] <;> rfl⟩)
  · skip
    have hn_a := nt_cast (x := a) (by omega)
    refine j_eql (lvs' := [(0, .ref h), (1, .int (nI (nt a)))]) (by rw [← nt_eq (x := a) (by omega)]) ?_
    refine j_aload_n hJ (q := 9) dX8_kinds_8 rfl 0 rfl rfl ?_
    refine j_iconst hJ (q := 10) dX8_kinds_9 rfl ki_2 ?_
    refine j_iload_n hJ (q := 11) dX8_kinds_10 rfl 1 rfl rfl ?_
    refine j_vR hJ (q := 14) (rest := []) (As := [.int (nI 2), .int (nI (nt a))]) jl_X8_211 (c_X8_thoseThatFit2 Z h u ab be Rf s q A K P kd am st rg Ro Sn Nt Mk (nt a) hg hA (by omega)) 0 rfl rfl dX8_kinds_11 rfl (by decide) (Nat.le_of_ble_eq_true rfl) [0, 1, 2, 3, 4, 5, 6, 7, 8, 9, 10, 11, 12, 13, 14, 15, 16] rfl rfl (fun rv hp => ?_)
    obtain rfl := hp
    show J 14 [(0, .ref h), (1, .int (nI (nt a)))] [.int (nI (kds A (nt a) 108 (A 3) false))] [xO h u ab be (Rf 0) (Rf 1) (Rf 2), (u 0, .inr (4, [.ref (s 0), .ref (s 1), .ref (s 3), .ref (s 5), .ref (s 7)])), cO (s 0) q (A 21) (A 5) (A 6) (A 7) (A 8) (A 0), (q 0, ia Z 12 (ni K)), (q 1, ia Z 12 (ni P)), (q 2, ia Z 6 (ni kd)), (q 3, ia Z 6 (ni am)), (q 4, ia Z 6 (ni st)), (q 5, ia Z 6 (ni rg)), (s 1, .inr (1, [.int (nI (A 4)), .ref (s 2)])), (s 2, ia Z 128 (ni Ro)), (s 3, .inr (3, [.int (nI (A 1)), .int (nI 4), .int (nI 5), .ref (s 4)])), (s 4, ia Z 30 (ni Sn)), (s 5, .inr (3, [.int (nI (A 2)), .int (nI 5), .int (nI 6), .ref (s 6)])), (s 6, ia Z 30 (ni Nt)), (s 7, .inr (3, [.int (nI (A 3)), .int (nI 5), .int (nI 6), .ref (s 8)])), (s 8, ia Z 30 (ni Mk))] 0 0
    refine j_goto hJ (q := 21) dX8_kinds_14 (by decide) ?_
    have hP0 : isR A a := by simp only [rgI, isS, isR, pNote, pMark, pFast, pLever, pHands, pSlip, pEven]; omega
    exact hE.1 _ _ _ _ _ _ _ rfl rfl dX8_kinds_21 (Nat.le_refl _) (Nat.le_refl _) (⟨congrArg (fun z => some (Value.int z)) ((zI_nat _).symm.trans (congrArg zI (by simp only [z_kinds, if_pos hP0]))), by rw [if_pos hP0] <;> rfl⟩)
