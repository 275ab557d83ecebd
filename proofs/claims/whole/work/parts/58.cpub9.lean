set_option maxHeartbeats 4000000 in
set_option maxRecDepth 100000 in
theorem c_X8_chance0 (Z : jZ) (h : Nat) (q : Nat → Nat) (B : Nat → Nat) (K : Nat → Nat) (P : Nat → Nat) (kd : Nat → Nat) (am : Nat → Nat) (st : Nat → Nat) (rg : Nat → Nat) (i : Nat) (x : Nat) (c : Nat) (hw : wf B) (hR : rR B K P kd am st rg) (hi : i < B 0) (hx : x ≤ 99) (hc : c ≤ 10) (hB8 : B 8 + 0 < 90000) : CT Z yX8_chance cX8_chance 11 ((some FieldType.long)) 5 0 0 [.ref h, .int (nI i), .int (nI x), .int (nI c), .int (nI 0)] [cO h q (B 21) (B 5) (B 6) (B 7) (B 8) (B 0), (q 0, ia Z 12 (ni K)), (q 1, ia Z 12 (ni P)), (q 2, ia Z 6 (ni kd)), (q 3, ia Z 6 (ni am)), (q 4, ia Z 6 (ni st)), (q 5, ia Z 6 (ni rg))] (fun rr ww => ∃ gz : Nat → Nat, rr = some (.long (zL (chF i x c 0 B))) ∧ ww = [cO h q (B 21) (B 5) (B 6) (B 7) (B 8) (B 0), (q 0, ia Z 12 (ni K)), (q 1, ia Z 12 (ni P)), (q 2, ia Z 6 (ni kd)), (q 3, ia Z 6 (ni am)), (q 4, ia Z 6 (ni st)), (q 5, ia Z 6 (ni gz))] ∧ (rR B K P kd am st gz)) := by
  refine CT.of RX8 false rfl (fun h => by cases h) (by decide +kernel) (Nat.le_of_ble_eq_true rfl) ?_
  intro J hJ hE
  show J 0 [(0, .ref h), (1, .int (nI i)), (2, .int (nI x)), (3, .int (nI c)), (4, .int (nI 0))] [] [cO h q (B 21) (B 5) (B 6) (B 7) (B 8) (B 0), (q 0, ia Z 12 (ni K)), (q 1, ia Z 12 (ni P)), (q 2, ia Z 6 (ni kd)), (q 3, ia Z 6 (ni am)), (q 4, ia Z 6 (ni st)), (q 5, ia Z 6 (ni rg))] 0 0
  obtain ⟨⟨w1, w2, w3, w4, w5, w6⟩, hb, wr, wh, wd⟩ := id hw
  have hb8 := hb 8
  have hb5 := hb 5
  have hb7 := hb 7
  have hbi := wr i hi
  refine j_iload hJ (q := 2) dX8_chance_0 4 rfl rfl ?_
  refine jz_if_gt hJ (q := 5) (tgt := 21) dX8_chance_2 (by decide) rfl (zI_nat 0).symm (by omega) (fun c1 => ?_) (fun c1 => ?_)
  · skip
    exfalso; omega
  · skip
    refine j_aload_n hJ (q := 6) dX8_chance_5 rfl 0 rfl rfl ?_
    refine j_get hJ (q := 9) jf_X8_159 dX8_chance_6 0 rfl rfl rfl ?_
    refine j_iload_n hJ (q := 10) dX8_chance_9 rfl 1 rfl rfl ?_
    refine j_ialdN hJ (q := 11) (z := nI (rg i)) dX8_chance_10 6 rfl (by omega) (by decide) rfl rfl ?_
    refine j_top (congrArg nI (rR_r hR (i := i) (by omega))) ?_
    refine j_iload_n hJ (q := 12) dX8_chance_11 rfl 2 rfl rfl ?_
    refine jn_icmp_lt hJ (q := 15) (tgt := 19) dX8_chance_12 (by decide) rfl (by omega) (by omega) (fun c2 => ?_) (fun c2 => ?_)
    · skip
      refine j_lconst hJ (q := 20) (v := zL 0) dX8_chance_19 rfl rfl ?_
      exact hE.2.1 _ _ _ _ _ _ rfl dX8_chance_20 (Nat.le_refl _) (Nat.le_refl _) (⟨rg, congrArg (fun z => some (Value.long (zL z))) (by simp only [chF]; rw [if_neg (by omega)]), rfl, hR⟩)
    · skip
      refine j_lconst hJ (q := 16) (v := zL 1) dX8_chance_15 rfl rfl ?_
      refine j_goto hJ (q := 20) dX8_chance_16 (by decide) ?_
      exact hE.2.1 _ _ _ _ _ _ rfl dX8_chance_20 (Nat.le_refl _) (Nat.le_refl _) (⟨rg, congrArg (fun z => some (Value.long (zL z))) (by simp only [chF]; rw [if_pos (by omega)]), rfl, hR⟩)

set_option maxHeartbeats 4000000 in
set_option maxRecDepth 100000 in
theorem c_X8_chanceS (Z : jZ) (n : Nat) (h : Nat) (q : Nat → Nat) (B : Nat → Nat) (K : Nat → Nat) (P : Nat → Nat) (kd : Nat → Nat) (am : Nat → Nat) (st : Nat → Nat) (rg : Nat → Nat) (i : Nat) (x : Nat) (c : Nat) (ih : ∀ (Z : jZ) (h : Nat) (q : Nat → Nat) (B : Nat → Nat) (K : Nat → Nat) (P : Nat → Nat) (kd : Nat → Nat) (am : Nat → Nat) (st : Nat → Nat) (rg : Nat → Nat) (i : Nat) (x : Nat) (c : Nat) (hw : wf B) (hR : rR B K P kd am st rg) (hi : i < B 0) (hx : x ≤ 99) (hc : c ≤ 10) (hB8 : B 8 + n < 90000), CT Z yX8_chance cX8_chance 11 ((some FieldType.long)) (5 + n) 0 0 [.ref h, .int (nI i), .int (nI x), .int (nI c), .int (nI n)] [cO h q (B 21) (B 5) (B 6) (B 7) (B 8) (B 0), (q 0, ia Z 12 (ni K)), (q 1, ia Z 12 (ni P)), (q 2, ia Z 6 (ni kd)), (q 3, ia Z 6 (ni am)), (q 4, ia Z 6 (ni st)), (q 5, ia Z 6 (ni rg))] (fun rr ww => ∃ gz : Nat → Nat, rr = some (.long (zL (chF i x c n B))) ∧ ww = [cO h q (B 21) (B 5) (B 6) (B 7) (B 8) (B 0), (q 0, ia Z 12 (ni K)), (q 1, ia Z 12 (ni P)), (q 2, ia Z 6 (ni kd)), (q 3, ia Z 6 (ni am)), (q 4, ia Z 6 (ni st)), (q 5, ia Z 6 (ni gz))] ∧ (rR B K P kd am st gz))) (hn : n < 100) (hw : wf B) (hR : rR B K P kd am st rg) (hi : i < B 0) (hx : x ≤ 99) (hc : c ≤ 10) (hB8 : B 8 + (n + 1) < 90000) : CT Z yX8_chance cX8_chance 11 ((some FieldType.long)) (5 + (n + 1)) 0 0 [.ref h, .int (nI i), .int (nI x), .int (nI c), .int (nI (n + 1))] [cO h q (B 21) (B 5) (B 6) (B 7) (B 8) (B 0), (q 0, ia Z 12 (ni K)), (q 1, ia Z 12 (ni P)), (q 2, ia Z 6 (ni kd)), (q 3, ia Z 6 (ni am)), (q 4, ia Z 6 (ni st)), (q 5, ia Z 6 (ni rg))] (fun rr ww => ∃ gz : Nat → Nat, rr = some (.long (zL (chF i x c (n + 1) B))) ∧ ww = [cO h q (B 21) (B 5) (B 6) (B 7) (B 8) (B 0), (q 0, ia Z 12 (ni K)), (q 1, ia Z 12 (ni P)), (q 2, ia Z 6 (ni kd)), (q 3, ia Z 6 (ni am)), (q 4, ia Z 6 (ni st)), (q 5, ia Z 6 (ni gz))] ∧ (rR B K P kd am st gz)) := by
  refine CT.of RX8 false rfl (fun h => by cases h) (by decide +kernel) (Nat.le_of_ble_eq_true rfl) ?_
  intro J hJ hE
  show J 0 [(0, .ref h), (1, .int (nI i)), (2, .int (nI x)), (3, .int (nI c)), (4, .int (nI (n + 1)))] [] [cO h q (B 21) (B 5) (B 6) (B 7) (B 8) (B 0), (q 0, ia Z 12 (ni K)), (q 1, ia Z 12 (ni P)), (q 2, ia Z 6 (ni kd)), (q 3, ia Z 6 (ni am)), (q 4, ia Z 6 (ni st)), (q 5, ia Z 6 (ni rg))] 0 0
  obtain ⟨⟨w1, w2, w3, w4, w5, w6⟩, hb, wr, wh, wd⟩ := id hw
  have hb8 := hb 8
  have hb5 := hb 5
  have hb7 := hb 7
  have hbi := wr i hi
  refine j_iload hJ (q := 2) dX8_chance_0 4 rfl rfl ?_
  refine jz_if_gt hJ (q := 5) (tgt := 21) dX8_chance_2 (by decide) rfl (zI_nat (n + 1)).symm (by omega) (fun c1 => ?_) (fun c1 => ?_)
  · skip
    refine j_aload_n hJ (q := 22) dX8_chance_21 rfl 0 rfl rfl ?_
    refine j_get hJ (q := 25) jf_X8_135 dX8_chance_22 0 rfl rfl rfl ?_
    refine j_istore hJ (q := 27) (lvs' := [(5, .int (nI (B 5))), (0, .ref h), (1, .int (nI i)), (2, .int (nI x)), (3, .int (nI c)), (4, .int (nI (n + 1)))]) dX8_chance_25 (by decide) rfl rfl ?_
    refine j_aload_n hJ (q := 28) dX8_chance_27 rfl 1 rfl rfl ?_
    refine j_get hJ (q := 31) jf_X8_147 dX8_chance_28 0 rfl rfl rfl ?_
    refine j_istore hJ (q := 33) (lvs' := [(6, .int (nI (B 7))), (5, .int (nI (B 5))), (0, .ref h), (1, .int (nI i)), (2, .int (nI x)), (3, .int (nI c)), (4, .int (nI (n + 1)))]) dX8_chance_31 (by decide) rfl rfl ?_
    have hwT : wf (tick1 B) := wf_tick1 hw (by omega)
    have hRT : rR (tick1 B) K P kd am st rg := rR_tick hR w6 w2
    have hT8 : tick1 B 8 = B 8 + 1 := rfl
    have hT0 : tick1 B 0 = B 0 := rfl
    have hT21 : tick1 B 21 = B 21 := rfl
    refine j_aload_n hJ (q := 34) dX8_chance_33 rfl 2 rfl rfl ?_
    refine j_vW hJ (q := 37) (rest := []) (As := []) (wr := []) jl_X8_326 (c_X4_turn Z h q B K P kd am st rg hw) 0 rfl rfl dX8_chance_34 rfl (by omega) (Nat.le_of_ble_eq_true rfl) [0, 1, 2, 3, 4, 5, 6] [] rfl rfl rfl rfl (by decide) rfl (fun rv wv hp => ?_)
    obtain ⟨rfl, rfl⟩ := hp
    show J 37 [(6, .int (nI (B 7))), (5, .int (nI (B 5))), (0, .ref h), (1, .int (nI i)), (2, .int (nI x)), (3, .int (nI c)), (4, .int (nI (n + 1)))] [] [cO h q ((tick1 B) 21) ((tick1 B) 5) ((tick1 B) 6) ((tick1 B) 7) ((tick1 B) 8) ((tick1 B) 0), (q 0, ia Z 12 (ni K)), (q 1, ia Z 12 (ni P)), (q 2, ia Z 6 (ni kd)), (q 3, ia Z 6 (ni am)), (q 4, ia Z 6 (ni st)), (q 5, ia Z 6 (ni rg))] 0 0
    refine j_aload_n hJ (q := 38) dX8_chance_37 rfl 2 rfl rfl ?_
    refine j_vR hJ (q := 41) (rest := []) (As := []) jl_X8_329 (c_X4_whoReaches Z h q (tick1 B) K P kd am st rg hwT hRT) 0 rfl rfl dX8_chance_38 rfl (by omega) (Nat.le_of_ble_eq_true rfl) [0, 1, 2, 3, 4, 5, 6] rfl rfl (fun rv hp => ?_)
    obtain rfl := hp
    show J 41 [(6, .int (nI (B 7))), (5, .int (nI (B 5))), (0, .ref h), (1, .int (nI i)), (2, .int (nI x)), (3, .int (nI c)), (4, .int (nI (n + 1)))] [.int (oI (rchr (tick1 B)))] [cO h q ((tick1 B) 21) ((tick1 B) 5) ((tick1 B) 6) ((tick1 B) 7) ((tick1 B) 8) ((tick1 B) 0), (q 0, ia Z 12 (ni K)), (q 1, ia Z 12 (ni P)), (q 2, ia Z 6 (ni kd)), (q 3, ia Z 6 (ni am)), (q 4, ia Z 6 (ni st)), (q 5, ia Z 6 (ni rg))] 0 0
    refine j_caseo (fun o2 => ?_) (fun i3 o2 => ?_)
    · skip
      refine j_istore hJ (q := 43) (lvs' := [(7, .int (zI (-1))), (6, .int (nI (B 7))), (5, .int (nI (B 5))), (0, .ref h), (1, .int (nI i)), (2, .int (nI x)), (3, .int (nI c)), (4, .int (nI (n + 1)))]) dX8_chance_41 (by decide) rfl rfl ?_
      refine j_aload_n hJ (q := 44) dX8_chance_43 rfl 3 rfl rfl ?_
      refine j_iload_n hJ (q := 45) dX8_chance_44 rfl 4 rfl rfl ?_
      refine j_iload_n hJ (q := 46) dX8_chance_45 rfl 5 rfl rfl ?_
      refine j_iload_n hJ (q := 47) dX8_chance_46 rfl 6 rfl rfl ?_
      refine j_iload hJ (q := 49) dX8_chance_47 7 rfl rfl ?_
      refine j_iconst hJ (q := 50) dX8_chance_49 rfl ki_1 ?_
      refine j_isub hJ (q := 51) dX8_chance_50 rfl (pk_sub (by omega)) ?_
      refine j_sW hJ (q := 54) (rest := []) (As := [.ref h, .int (nI i), .int (nI x), .int (nI c), .int (nI n)]) (wr := []) jl_X8_235 (ih Z h q (tick1 B) K P kd am st rg i x c hwT hRT hi hx hc (by omega)) dX8_chance_51 rfl (by omega) (Nat.le_of_ble_eq_true rfl) [0, 1, 2, 3, 4, 5, 6] [] rfl rfl rfl rfl (by decide) rfl (fun rv wv hp => ?_)
      obtain ⟨gz4, rfl, rfl, f5⟩ := hp
      show J 54 [(7, .int (zI (-1))), (6, .int (nI (B 7))), (5, .int (nI (B 5))), (0, .ref h), (1, .int (nI i)), (2, .int (nI x)), (3, .int (nI c)), (4, .int (nI (n + 1)))] [.long (zL (chF i x c n (tick1 B)))] [cO h q ((tick1 B) 21) ((tick1 B) 5) ((tick1 B) 6) ((tick1 B) 7) ((tick1 B) 8) ((tick1 B) 0), (q 0, ia Z 12 (ni K)), (q 1, ia Z 12 (ni P)), (q 2, ia Z 6 (ni kd)), (q 3, ia Z 6 (ni am)), (q 4, ia Z 6 (ni st)), (q 5, ia Z 6 (ni gz4))] 0 0
      have hR1 := f5
      refine j_lstore hJ (q := 56) (lvs' := [(8, .long (zL (chF i x c n (tick1 B)))), (7, .int (zI (-1))), (6, .int (nI (B 7))), (5, .int (nI (B 5))), (0, .ref h), (1, .int (nI i)), (2, .int (nI x)), (3, .int (nI c)), (4, .int (nI (n + 1)))]) dX8_chance_54 (by decide) rfl rfl ?_
      refine j_iload hJ (q := 58) dX8_chance_56 1 rfl rfl ?_
      refine j_iconst hJ (q := 59) dX8_chance_58 rfl ki_m1 ?_
      refine jz_icmp_ne hJ (q := 62) (tgt := 73) dX8_chance_59 (by decide) rfl rfl rfl (by omega) (by omega) (fun c6 => ?_) (fun c6 => ?_)
      · skip
        exfalso; omega
      · skip
        refine j_lload hJ (q := 64) dX8_chance_62 0 rfl rfl ?_
        refine j_ldc2 hJ (q := 67) (v' := zL 10) dX8_chance_64 tm_691 rfl rfl ?_
        refine j_lmul hJ (q := 68) dX8_chance_67 rfl (zL_mul _ _) ?_
        refine j_lstore hJ (q := 70) (lvs' := [(8, .long (zL ((chF i x c n (tick1 B)) * 10))), (7, .int (zI (-1))), (6, .int (nI (B 7))), (5, .int (nI (B 5))), (0, .ref h), (1, .int (nI i)), (2, .int (nI x)), (3, .int (nI c)), (4, .int (nI (n + 1)))]) dX8_chance_68 (by decide) rfl rfl ?_
        refine j_goto hJ (q := 123) dX8_chance_70 (by decide) ?_
        refine j_aload_n hJ (q := 124) dX8_chance_123 rfl 4 rfl rfl ?_
        refine j_iload hJ (q := 126) dX8_chance_124 3 rfl rfl ?_
        refine j_vW hJ (q := 129) (rest := []) (As := [.int (nI (B 5))]) (wr := []) jl_X8_337 (c_X4_turnBackZ Z h q ((tick1 B) 21) ((tick1 B) 5) ((tick1 B) 6) ((tick1 B) 7) ((tick1 B) 8) ((tick1 B) 0) K P kd am st gz4 (B 5) (by first | (rw [hT8]; omega) | (rw [takeR_8 _ (by omega)]; omega))) 0 rfl rfl dX8_chance_126 rfl (by omega) (Nat.le_of_ble_eq_true rfl) [0, 1, 2, 3, 4, 5, 6] [] rfl rfl rfl rfl (by decide) rfl (fun rv wv hp => ?_)
        obtain ⟨rfl, rfl⟩ := hp
        show J 129 [(8, .long (zL ((chF i x c n (tick1 B)) * 10))), (7, .int (zI (-1))), (6, .int (nI (B 7))), (5, .int (nI (B 5))), (0, .ref h), (1, .int (nI i)), (2, .int (nI x)), (3, .int (nI c)), (4, .int (nI (n + 1)))] [] [cO h q ((tick1 B) 21) (B 5) ((tick1 B) 6) ((tick1 B) 7) (((tick1 B) 8) - 1) ((tick1 B) 0), (q 0, ia Z 12 (ni K)), (q 1, ia Z 12 (ni P)), (q 2, ia Z 6 (ni kd)), (q 3, ia Z 6 (ni am)), (q 4, ia Z 6 (ni st)), (q 5, ia Z 6 (ni gz4))] 0 0
        refine j_lload hJ (q := 131) dX8_chance_129 0 rfl rfl ?_
        exact hE.2.1 _ _ _ _ _ _ rfl dX8_chance_131 (Nat.le_refl _) (Nat.le_refl _) (⟨gz4, congrArg (fun z => some (Value.long (zL z))) (by rw [chF_none o2]), rfl, rR_untick0 hR1 w6 w2⟩)
    · skip
      have hwi := rchr_some o2
      have hw6 : i3 < 6 := by omega
      refine j_istore hJ (q := 43) (lvs' := [(7, .int (nI i3)), (6, .int (nI (B 7))), (5, .int (nI (B 5))), (0, .ref h), (1, .int (nI i)), (2, .int (nI x)), (3, .int (nI c)), (4, .int (nI (n + 1)))]) dX8_chance_41 (by decide) rfl rfl ?_
      refine j_aload_n hJ (q := 44) dX8_chance_43 rfl 3 rfl rfl ?_
      refine j_iload_n hJ (q := 45) dX8_chance_44 rfl 4 rfl rfl ?_
      refine j_iload_n hJ (q := 46) dX8_chance_45 rfl 5 rfl rfl ?_
      refine j_iload_n hJ (q := 47) dX8_chance_46 rfl 6 rfl rfl ?_
      refine j_iload hJ (q := 49) dX8_chance_47 7 rfl rfl ?_
      refine j_iconst hJ (q := 50) dX8_chance_49 rfl ki_1 ?_
      refine j_isub hJ (q := 51) dX8_chance_50 rfl (pk_sub (by omega)) ?_
      refine j_sW hJ (q := 54) (rest := []) (As := [.ref h, .int (nI i), .int (nI x), .int (nI c), .int (nI n)]) (wr := []) jl_X8_235 (ih Z h q (tick1 B) K P kd am st rg i x c hwT hRT hi hx hc (by omega)) dX8_chance_51 rfl (by omega) (Nat.le_of_ble_eq_true rfl) [0, 1, 2, 3, 4, 5, 6] [] rfl rfl rfl rfl (by decide) rfl (fun rv wv hp => ?_)
      obtain ⟨gz7, rfl, rfl, f8⟩ := hp
      show J 54 [(7, .int (nI i3)), (6, .int (nI (B 7))), (5, .int (nI (B 5))), (0, .ref h), (1, .int (nI i)), (2, .int (nI x)), (3, .int (nI c)), (4, .int (nI (n + 1)))] [.long (zL (chF i x c n (tick1 B)))] [cO h q ((tick1 B) 21) ((tick1 B) 5) ((tick1 B) 6) ((tick1 B) 7) ((tick1 B) 8) ((tick1 B) 0), (q 0, ia Z 12 (ni K)), (q 1, ia Z 12 (ni P)), (q 2, ia Z 6 (ni kd)), (q 3, ia Z 6 (ni am)), (q 4, ia Z 6 (ni st)), (q 5, ia Z 6 (ni gz7))] 0 0
      have hR1 := f8
      refine j_lstore hJ (q := 56) (lvs' := [(8, .long (zL (chF i x c n (tick1 B)))), (7, .int (nI i3)), (6, .int (nI (B 7))), (5, .int (nI (B 5))), (0, .ref h), (1, .int (nI i)), (2, .int (nI x)), (3, .int (nI c)), (4, .int (nI (n + 1)))]) dX8_chance_54 (by decide) rfl rfl ?_
      refine j_iload hJ (q := 58) dX8_chance_56 1 rfl rfl ?_
      refine j_iconst hJ (q := 59) dX8_chance_58 rfl ki_m1 ?_
      refine jz_icmp_ne hJ (q := 62) (tgt := 73) dX8_chance_59 (by decide) rfl (zI_nat i3).symm rfl (by omega) (by omega) (fun c9 => ?_) (fun c9 => ?_)
      · skip
        refine j_aload_n hJ (q := 74) dX8_chance_73 rfl 4 rfl rfl ?_
        refine j_get hJ (q := 77) jf_X8_159 dX8_chance_74 0 rfl rfl rfl ?_
        refine j_iload hJ (q := 79) dX8_chance_77 1 rfl rfl ?_
        refine j_ialdN hJ (q := 80) (z := nI (gz7 i3)) dX8_chance_79 6 rfl (by omega) (by decide) rfl rfl ?_
        refine j_top (congrArg nI (rR_r hR1 (i := i3) (by omega))) ?_
        have b10 := hwT.2.1 (9 + i3)
        refine j_istore hJ (q := 82) (lvs' := [(10, .int (nI ((tick1 B) (9 + i3)))), (8, .long (zL (chF i x c n (tick1 B)))), (7, .int (nI i3)), (6, .int (nI (B 7))), (5, .int (nI (B 5))), (0, .ref h), (1, .int (nI i)), (2, .int (nI x)), (3, .int (nI c)), (4, .int (nI (n + 1)))]) dX8_chance_80 (by decide) rfl rfl ?_
        refine j_aload_n hJ (q := 83) dX8_chance_82 rfl 5 rfl rfl ?_
        refine j_iload hJ (q := 85) dX8_chance_83 2 rfl rfl ?_
        refine j_vW hJ (q := 88) (rest := []) (As := [.int (nI i3)]) (wr := []) jl_X8_332 (c_X4_take Z h q (tick1 B) K P kd am st gz7 i3 hwT hR1 hwi) 0 rfl rfl dX8_chance_85 rfl (by omega) (Nat.le_of_ble_eq_true rfl) [0, 1, 2, 3, 4, 5, 6] [] rfl rfl rfl rfl (by decide) rfl (fun rv wv hp => ?_)
        obtain ⟨rz11, rfl, rfl, f12⟩ := hp
        show J 88 [(10, .int (nI ((tick1 B) (9 + i3)))), (8, .long (zL (chF i x c n (tick1 B)))), (7, .int (nI i3)), (6, .int (nI (B 7))), (5, .int (nI (B 5))), (0, .ref h), (1, .int (nI i)), (2, .int (nI x)), (3, .int (nI c)), (4, .int (nI (n + 1)))] [] [cO h q ((takeR (tick1 B) i3) 21) ((takeR (tick1 B) i3) 5) ((takeR (tick1 B) i3) 6) ((takeR (tick1 B) i3) 7) ((takeR (tick1 B) i3) 8) ((takeR (tick1 B) i3) 0), (q 0, ia Z 12 (ni K)), (q 1, ia Z 12 (ni P)), (q 2, ia Z 6 (ni kd)), (q 3, ia Z 6 (ni am)), (q 4, ia Z 6 (ni st)), (q 5, ia Z 6 (ni rz11))] 0 0
        have hRt := f12
        refine j_iload_n hJ (q := 89) dX8_chance_88 rfl 8 rfl rfl ?_
        refine j_i2l hJ (q := 90) dX8_chance_89 rfl (zL_i _ (zI_nat c).symm (by omega)) ?_
        refine j_lload hJ (q := 92) dX8_chance_90 1 rfl rfl ?_
        refine j_lmul hJ (q := 93) dX8_chance_92 rfl (zL_mul _ _) ?_
        refine j_bipush hJ (q := 95) dX8_chance_93 rfl kb_10 ?_
        refine j_iload_n hJ (q := 96) dX8_chance_95 rfl 8 rfl rfl ?_
        refine j_isub hJ (q := 97) dX8_chance_96 rfl (pk_sub (by omega)) ?_
        refine j_i2l hJ (q := 98) dX8_chance_97 rfl (zL_i _ (zI_nat (10 - c)).symm (by omega)) ?_
        refine j_aload_n hJ (q := 99) dX8_chance_98 rfl 5 rfl rfl ?_
        refine j_iload_n hJ (q := 100) dX8_chance_99 rfl 6 rfl rfl ?_
        refine j_iload_n hJ (q := 101) dX8_chance_100 rfl 7 rfl rfl ?_
        refine j_iload_n hJ (q := 102) dX8_chance_101 rfl 8 rfl rfl ?_
        refine j_iload hJ (q := 104) dX8_chance_102 9 rfl rfl ?_
        refine j_iconst hJ (q := 105) dX8_chance_104 rfl ki_1 ?_
        refine j_isub hJ (q := 106) dX8_chance_105 rfl (pk_sub (by omega)) ?_
        refine j_sW hJ (q := 109) (rest := [.long (zL ((10 - c : Nat) : Int)), .long (zL ((c : Int) * (chF i x c n (tick1 B))))]) (As := [.ref h, .int (nI i), .int (nI x), .int (nI c), .int (nI n)]) (wr := []) jl_X8_235 (ih Z h q (takeR (tick1 B) i3) K P kd am st rz11 i x c (wf_takeR hwT hwi) hRt (by rw [takeR_0]; exact hi) hx hc (by rw [takeR_8 _ (by omega)]; omega)) dX8_chance_106 rfl (by omega) (Nat.le_of_ble_eq_true rfl) [0, 1, 2, 3, 4, 5, 6] [] rfl rfl rfl rfl (by decide) rfl (fun rv wv hp => ?_)
        obtain ⟨gz13, rfl, rfl, f14⟩ := hp
        show J 109 [(10, .int (nI ((tick1 B) (9 + i3)))), (8, .long (zL (chF i x c n (tick1 B)))), (7, .int (nI i3)), (6, .int (nI (B 7))), (5, .int (nI (B 5))), (0, .ref h), (1, .int (nI i)), (2, .int (nI x)), (3, .int (nI c)), (4, .int (nI (n + 1)))] [.long (zL (chF i x c n (takeR (tick1 B) i3))), .long (zL ((10 - c : Nat) : Int)), .long (zL ((c : Int) * (chF i x c n (tick1 B))))] [cO h q ((takeR (tick1 B) i3) 21) ((takeR (tick1 B) i3) 5) ((takeR (tick1 B) i3) 6) ((takeR (tick1 B) i3) 7) ((takeR (tick1 B) i3) 8) ((takeR (tick1 B) i3) 0), (q 0, ia Z 12 (ni K)), (q 1, ia Z 12 (ni P)), (q 2, ia Z 6 (ni kd)), (q 3, ia Z 6 (ni am)), (q 4, ia Z 6 (ni st)), (q 5, ia Z 6 (ni gz13))] 0 0
        have hR2 := f14
        refine j_lmul hJ (q := 110) dX8_chance_109 rfl (zL_mul _ _) ?_
        refine j_ladd hJ (q := 111) dX8_chance_110 rfl (zL_add _ _) ?_
        refine j_lstore hJ (q := 113) (lvs' := [(8, .long (zL ((c : Int) * (chF i x c n (tick1 B)) + (((10 - c : Nat) : Int) * (chF i x c n (takeR (tick1 B) i3)))))), (10, .int (nI ((tick1 B) (9 + i3)))), (7, .int (nI i3)), (6, .int (nI (B 7))), (5, .int (nI (B 5))), (0, .ref h), (1, .int (nI i)), (2, .int (nI x)), (3, .int (nI c)), (4, .int (nI (n + 1)))]) dX8_chance_111 (by decide) rfl rfl ?_
        refine j_aload_n hJ (q := 114) dX8_chance_113 rfl 5 rfl rfl ?_
        refine j_iload hJ (q := 116) dX8_chance_114 2 rfl rfl ?_
        refine j_iload hJ (q := 118) dX8_chance_116 1 rfl rfl ?_
        refine j_iload hJ (q := 120) dX8_chance_118 3 rfl rfl ?_
        refine j_vW hJ (q := 123) (rest := []) (As := [.int (nI i3), .int (nI ((tick1 B) (9 + i3))), .int (nI (B 7))]) (wr := []) jl_X8_335 (c_X4_giveBack Z h q (takeR (tick1 B) i3) K P kd am st gz13 i3 ((tick1 B) (9 + i3)) (B 7) hw6) 0 rfl rfl dX8_chance_120 rfl (by omega) (Nat.le_of_ble_eq_true rfl) [0, 1, 2, 3, 4, 5, 6] [] rfl rfl rfl rfl (by decide) rfl (fun rv wv hp => ?_)
        obtain ⟨rfl, rfl⟩ := hp
        show J 123 [(8, .long (zL ((c : Int) * (chF i x c n (tick1 B)) + (((10 - c : Nat) : Int) * (chF i x c n (takeR (tick1 B) i3)))))), (10, .int (nI ((tick1 B) (9 + i3)))), (7, .int (nI i3)), (6, .int (nI (B 7))), (5, .int (nI (B 5))), (0, .ref h), (1, .int (nI i)), (2, .int (nI x)), (3, .int (nI c)), (4, .int (nI (n + 1)))] [] [cO h q ((takeR (tick1 B) i3) 21) ((takeR (tick1 B) i3) 5) ((takeR (tick1 B) i3) 6) (B 7) ((takeR (tick1 B) i3) 8) ((takeR (tick1 B) i3) 0), (q 0, ia Z 12 (ni K)), (q 1, ia Z 12 (ni P)), (q 2, ia Z 6 (ni kd)), (q 3, ia Z 6 (ni am)), (q 4, ia Z 6 (ni st)), (q 5, ia Z 6 (ni (va_up gz13 i3 ((tick1 B) (9 + i3)))))] 0 0
        refine j_aload_n hJ (q := 124) dX8_chance_123 rfl 5 rfl rfl ?_
        refine j_iload hJ (q := 126) dX8_chance_124 4 rfl rfl ?_
        refine j_vW hJ (q := 129) (rest := []) (As := [.int (nI (B 5))]) (wr := []) jl_X8_337 (c_X4_turnBackZ Z h q ((takeR (tick1 B) i3) 21) ((takeR (tick1 B) i3) 5) ((takeR (tick1 B) i3) 6) (B 7) ((takeR (tick1 B) i3) 8) ((takeR (tick1 B) i3) 0) K P kd am st (va_up gz13 i3 ((tick1 B) (9 + i3))) (B 5) (by first | (rw [hT8]; omega) | (rw [takeR_8 _ (by omega)]; omega))) 0 rfl rfl dX8_chance_126 rfl (by omega) (Nat.le_of_ble_eq_true rfl) [0, 1, 2, 3, 4, 5, 6] [] rfl rfl rfl rfl (by decide) rfl (fun rv wv hp => ?_)
        obtain ⟨rfl, rfl⟩ := hp
        show J 129 [(8, .long (zL ((c : Int) * (chF i x c n (tick1 B)) + (((10 - c : Nat) : Int) * (chF i x c n (takeR (tick1 B) i3)))))), (10, .int (nI ((tick1 B) (9 + i3)))), (7, .int (nI i3)), (6, .int (nI (B 7))), (5, .int (nI (B 5))), (0, .ref h), (1, .int (nI i)), (2, .int (nI x)), (3, .int (nI c)), (4, .int (nI (n + 1)))] [] [cO h q ((takeR (tick1 B) i3) 21) (B 5) ((takeR (tick1 B) i3) 6) (B 7) (((takeR (tick1 B) i3) 8) - 1) ((takeR (tick1 B) i3) 0), (q 0, ia Z 12 (ni K)), (q 1, ia Z 12 (ni P)), (q 2, ia Z 6 (ni kd)), (q 3, ia Z 6 (ni am)), (q 4, ia Z 6 (ni st)), (q 5, ia Z 6 (ni (va_up gz13 i3 ((tick1 B) (9 + i3)))))] 0 0
        refine j_lload hJ (q := 131) dX8_chance_129 0 rfl rfl ?_
        have ek21 : takeR (tick1 B) i3 21 = tick1 B 21 := takeR_ne _ (by decide) (by omega)
        have ek6 : takeR (tick1 B) i3 6 = tick1 B 6 := takeR_ne _ (by decide) (by omega)
        have ek8 : takeR (tick1 B) i3 8 = tick1 B 8 := takeR_ne _ (by decide) (by omega)
        have ek0 : takeR (tick1 B) i3 0 = tick1 B 0 := takeR_ne _ (by decide) (by omega)
        exact hE.2.1 _ _ _ _ _ _ rfl dX8_chance_131 (Nat.le_refl _) (Nat.le_refl _) (⟨(va_up gz13 i3 ((tick1 B) (9 + i3))), congrArg (fun z => some (Value.long (zL z))) (by rw [chF_some o2]), by rw [ek21, ek6, ek8, ek0] <;> rfl, rR_untick0 (rR_untake hR2 hwi hwT.1.2.2.2.2.2 hwT.1.2.1) w6 w2⟩)
      · skip
        exfalso; omega
  · skip
    exfalso; omega

theorem c_X8_chance (n : Nat) (hn : n < 100) : ∀ (Z : jZ) (h : Nat) (q : Nat → Nat) (B : Nat → Nat) (K : Nat → Nat) (P : Nat → Nat) (kd : Nat → Nat) (am : Nat → Nat) (st : Nat → Nat) (rg : Nat → Nat) (i : Nat) (x : Nat) (c : Nat) (hw : wf B) (hR : rR B K P kd am st rg) (hi : i < B 0) (hx : x ≤ 99) (hc : c ≤ 10) (hB8 : B 8 + n < 90000), CT Z yX8_chance cX8_chance 11 ((some FieldType.long)) (5 + n) 0 0 [.ref h, .int (nI i), .int (nI x), .int (nI c), .int (nI n)] [cO h q (B 21) (B 5) (B 6) (B 7) (B 8) (B 0), (q 0, ia Z 12 (ni K)), (q 1, ia Z 12 (ni P)), (q 2, ia Z 6 (ni kd)), (q 3, ia Z 6 (ni am)), (q 4, ia Z 6 (ni st)), (q 5, ia Z 6 (ni rg))] (fun rr ww => ∃ gz : Nat → Nat, rr = some (.long (zL (chF i x c n B))) ∧ ww = [cO h q (B 21) (B 5) (B 6) (B 7) (B 8) (B 0), (q 0, ia Z 12 (ni K)), (q 1, ia Z 12 (ni P)), (q 2, ia Z 6 (ni kd)), (q 3, ia Z 6 (ni am)), (q 4, ia Z 6 (ni st)), (q 5, ia Z 6 (ni gz))] ∧ (rR B K P kd am st gz)) := by
  induction n with
  | zero => intro Z h q B K P kd am st rg i x c hw hR hi hx hc hB8; exact c_X8_chance0 Z h q B K P kd am st rg i x c hw hR hi hx hc hB8
  | succ n ih => intro Z h q B K P kd am st rg i x c hw hR hi hx hc hB8; exact c_X8_chanceS Z n h q B K P kd am st rg i x c (ih (by omega)) (by omega) hw hR hi hx hc hB8

set_option maxHeartbeats 4000000 in
set_option maxRecDepth 100000 in
theorem c_X8_keepFraction (Z : jZ) (h : Nat) (u : Nat → Nat) (ab : Int) (be : Int) (Rf : Nat → Nat) (ov : Int) (un : Int) (h1 : 0 ≤ ov ∧ ov ≤ 100000000) (h2 : 1 ≤ un ∧ un ≤ 100000000) : CT Z yX8_keepFraction cX8_keepFraction 12 (none) 1 0 0 [.ref h, .long (zL ov), .long (zL un)] [xO h u ab be (Rf 0) (Rf 1) (Rf 2)] (fun rr ww => rr = none ∧ ww = [xO h u (ov / (Int.gcd ov un : Int)) (un / (Int.gcd ov un : Int)) (Rf 0) (Rf 1) (Rf 2)]) := by
  refine CT.of RX8 false rfl (fun h => by cases h) (by decide +kernel) (Nat.le_of_ble_eq_true rfl) ?_
  intro J hJ hE
  show J 0 [(0, .ref h), (1, .long (zL ov)), (3, .long (zL un))] [] [xO h u ab be (Rf 0) (Rf 1) (Rf 2)] 0 0
  refine j_lload_n hJ (q := 1) dX8_keepFraction_0 rfl 1 rfl rfl ?_
  refine j_lstore hJ (q := 3) (lvs' := [(5, .long (zL ov)), (0, .ref h), (1, .long (zL ov)), (3, .long (zL un))]) dX8_keepFraction_1 (by decide) rfl rfl ?_
  refine j_lload_n hJ (q := 4) dX8_keepFraction_3 rfl 3 rfl rfl ?_
  refine j_lstore hJ (q := 6) (lvs' := [(7, .long (zL un)), (5, .long (zL ov)), (0, .ref h), (1, .long (zL ov)), (3, .long (zL un))]) dX8_keepFraction_4 (by decide) rfl rfl ?_
  refine j_iconst hJ (q := 7) dX8_keepFraction_6 rfl ki_0 ?_
  refine j_istore hJ (q := 9) (lvs' := [(9, .int (nI 0)), (7, .long (zL un)), (5, .long (zL ov)), (0, .ref h), (1, .long (zL ov)), (3, .long (zL un))]) dX8_keepFraction_7 (by decide) rfl rfl ?_
  have L_9 : ∀ (fu_9 : Nat) (x : Int) (y : Int) (k : Nat), 100 - k < fu_9 → (k ≤ 100) → (EU ov un k x y) → J 9 [(0, .ref h), (1, .long (zL ov)), (3, .long (zL un)), (5, .long (zL x)), (7, .long (zL y)), (9, .int (nI k))] [] [xO h u ab be (Rf 0) (Rf 1) (Rf 2)] 0 0 := by
    intro fu_9
    induction fu_9 with
    | zero => intro x y k hm; exact absurd hm (Nat.not_lt_zero _)
    | succ fu_9 ih_9 =>
      intro x y k hm_9 hk hE1
      obtain ⟨x0, y0, -, x1, y1, -⟩ := id hE1
      refine j_iload hJ (q := 11) dX8_keepFraction_9 5 rfl rfl ?_
      refine j_bipush hJ (q := 13) dX8_keepFraction_11 rfl kb_100 ?_
      refine jn_icmp_ge hJ (q := 16) (tgt := 44) dX8_keepFraction_13 (by decide) rfl (by omega) (by omega) (fun c1 => ?_) (fun c1 => ?_)
      · skip
        have hy0 : y ≤ 0 := Int.not_lt.mp (fun hy => by have := EU_lt hE1 hy; omega)
        obtain ⟨hea, hep⟩ := EU_end hE1 hy0 (by omega)
        refine j_lload hJ (q := 46) dX8_keepFraction_44 3 rfl rfl ?_
        refine j_lconst hJ (q := 47) (v := zL 0) dX8_keepFraction_46 rfl rfl ?_
        refine j_lcmp hJ (q := 48) dX8_keepFraction_47 rfl (zI_cmp (by omega) (by omega)) ?_
        refine jc_if_le hJ (q := 51) (tgt := 67) dX8_keepFraction_48 (by decide) rfl (fun (c2 : x ≤ 0) => ?_) (fun (c2 : 0 < x) => ?_)
        · skip
          exfalso; omega
        · skip
          refine j_aload_n hJ (q := 52) dX8_keepFraction_51 rfl 0 rfl rfl ?_
          refine j_lload_n hJ (q := 53) dX8_keepFraction_52 rfl 1 rfl rfl ?_
          refine j_lload hJ (q := 55) dX8_keepFraction_53 3 rfl rfl ?_
          refine j_ldiv hJ (q := 56) dX8_keepFraction_55 rfl (zL_ne0 (by omega) (by omega)) (zL_div (by omega) (by omega) (by omega)) ?_
          refine j_put hJ (q := 59) (ws' := [xO h u (ov / x) be (Rf 0) (Rf 1) (Rf 2)]) jp_X8_27 dX8_keepFraction_56 0 rfl rfl rfl (Nat.le_of_ble_eq_true rfl) rfl rfl ?_
          refine j_aload_n hJ (q := 60) dX8_keepFraction_59 rfl 0 rfl rfl ?_
          refine j_lload_n hJ (q := 61) dX8_keepFraction_60 rfl 2 rfl rfl ?_
          refine j_lload hJ (q := 63) dX8_keepFraction_61 3 rfl rfl ?_
          refine j_ldiv hJ (q := 64) dX8_keepFraction_63 rfl (zL_ne0 (by omega) (by omega)) (zL_div (by omega) (by omega) (by omega)) ?_
          refine j_put hJ (q := 67) (ws' := [xO h u (ov / x) (un / x) (Rf 0) (Rf 1) (Rf 2)]) jp_X8_31 dX8_keepFraction_64 0 rfl rfl rfl (Nat.le_of_ble_eq_true rfl) rfl rfl ?_
          exact hE.2.2 _ _ _ _ _ rfl dX8_keepFraction_67 (Nat.le_refl _) (Nat.le_refl _) (⟨rfl, by rw [hea]⟩)
      · skip
        refine j_lload hJ (q := 18) dX8_keepFraction_16 4 rfl rfl ?_
        refine j_lconst hJ (q := 19) (v := zL 0) dX8_keepFraction_18 rfl rfl ?_
        refine j_lcmp hJ (q := 20) dX8_keepFraction_19 rfl (zI_cmp (by omega) (by omega)) ?_
        refine jc_if_le hJ (q := 23) (tgt := 44) dX8_keepFraction_20 (by decide) rfl (fun (c3 : y ≤ 0) => ?_) (fun (c3 : 0 < y) => ?_)
        · skip
          have hy0 : y ≤ 0 := Int.not_lt.mp (fun hy => by have := EU_lt hE1 hy; omega)
          obtain ⟨hea, hep⟩ := EU_end hE1 hy0 (by omega)
          refine j_lload hJ (q := 46) dX8_keepFraction_44 3 rfl rfl ?_
          refine j_lconst hJ (q := 47) (v := zL 0) dX8_keepFraction_46 rfl rfl ?_
          refine j_lcmp hJ (q := 48) dX8_keepFraction_47 rfl (zI_cmp (by omega) (by omega)) ?_
          refine jc_if_le hJ (q := 51) (tgt := 67) dX8_keepFraction_48 (by decide) rfl (fun (c4 : x ≤ 0) => ?_) (fun (c4 : 0 < x) => ?_)
          · skip
            exfalso; omega
          · skip
            refine j_aload_n hJ (q := 52) dX8_keepFraction_51 rfl 0 rfl rfl ?_
            refine j_lload_n hJ (q := 53) dX8_keepFraction_52 rfl 1 rfl rfl ?_
            refine j_lload hJ (q := 55) dX8_keepFraction_53 3 rfl rfl ?_
            refine j_ldiv hJ (q := 56) dX8_keepFraction_55 rfl (zL_ne0 (by omega) (by omega)) (zL_div (by omega) (by omega) (by omega)) ?_
            refine j_put hJ (q := 59) (ws' := [xO h u (ov / x) be (Rf 0) (Rf 1) (Rf 2)]) jp_X8_27 dX8_keepFraction_56 0 rfl rfl rfl (Nat.le_of_ble_eq_true rfl) rfl rfl ?_
            refine j_aload_n hJ (q := 60) dX8_keepFraction_59 rfl 0 rfl rfl ?_
            refine j_lload_n hJ (q := 61) dX8_keepFraction_60 rfl 2 rfl rfl ?_
            refine j_lload hJ (q := 63) dX8_keepFraction_61 3 rfl rfl ?_
            refine j_ldiv hJ (q := 64) dX8_keepFraction_63 rfl (zL_ne0 (by omega) (by omega)) (zL_div (by omega) (by omega) (by omega)) ?_
            refine j_put hJ (q := 67) (ws' := [xO h u (ov / x) (un / x) (Rf 0) (Rf 1) (Rf 2)]) jp_X8_31 dX8_keepFraction_64 0 rfl rfl rfl (Nat.le_of_ble_eq_true rfl) rfl rfl ?_
            exact hE.2.2 _ _ _ _ _ rfl dX8_keepFraction_67 (Nat.le_refl _) (Nat.le_refl _) (⟨rfl, by rw [hea]⟩)
        · skip
          refine j_lload hJ (q := 25) dX8_keepFraction_23 3 rfl rfl ?_
          refine j_lload hJ (q := 27) dX8_keepFraction_25 4 rfl rfl ?_
          refine j_lrem hJ (q := 28) dX8_keepFraction_27 rfl (zL_ne0 (by omega) (by omega)) (zL_rem (by omega) (by omega) (by omega)) ?_
          refine j_lstore hJ (q := 30) (lvs' := [(10, .long (zL (x % y))), (0, .ref h), (1, .long (zL ov)), (3, .long (zL un)), (5, .long (zL x)), (7, .long (zL y)), (9, .int (nI k))]) dX8_keepFraction_28 (by decide) rfl rfl ?_
          refine j_lload hJ (q := 32) dX8_keepFraction_30 5 rfl rfl ?_
          refine j_lstore hJ (q := 34) (lvs' := [(5, .long (zL y)), (10, .long (zL (x % y))), (0, .ref h), (1, .long (zL ov)), (3, .long (zL un)), (7, .long (zL y)), (9, .int (nI k))]) dX8_keepFraction_32 (by decide) rfl rfl ?_
          refine j_lload hJ (q := 36) dX8_keepFraction_34 1 rfl rfl ?_
          refine j_lstore hJ (q := 38) (lvs' := [(7, .long (zL (x % y))), (5, .long (zL y)), (10, .long (zL (x % y))), (0, .ref h), (1, .long (zL ov)), (3, .long (zL un)), (9, .int (nI k))]) dX8_keepFraction_36 (by decide) rfl rfl ?_
          refine j_iinc hJ (q := 41) (lvs' := [(9, .int (nI (k + 1))), (7, .long (zL (x % y))), (5, .long (zL y)), (10, .long (zL (x % y))), (0, .ref h), (1, .long (zL ov)), (3, .long (zL un))]) dX8_keepFraction_38 6 rfl (by rw [show Int32.ofInt 1 = nI 1 from by decide +kernel]; exact nI_add _ _) (by decide) rfl rfl ?_
          refine j_goto hJ (q := 9) dX8_keepFraction_41 (by decide) ?_
          refine j_locals hJ [4, 5, 6, 2, 1, 0] rfl ?_
          exact ih_9 y (x % y) (k + 1) (by omega) (by omega) (EU_go hE1 (by omega))
  refine j_locals hJ [3, 4, 5, 2, 1, 0] rfl ?_
  exact L_9 ((100 - 0) + 1) ov un 0 (Nat.lt_succ_self _) (by omega) (EU_0 h1 (by omega))

set_option maxHeartbeats 4000000 in
set_option maxRecDepth 100000 in
theorem c_X8_slip (Z : jZ) (h : Nat) (u : Nat → Nat) (ab : Int) (be : Int) (Rf : Nat → Nat) (s : Nat → Nat) (q : Nat → Nat) (A : Nat → Nat) (K : Nat → Nat) (P : Nat → Nat) (kd : Nat → Nat) (am : Nat → Nat) (st : Nat → Nat) (rg : Nat → Nat) (qt : Nat → Nat) (t1 : Nat) (t2 : Nat) (t3 : Nat) (t4 : Nat) (t5 : Nat) (t6 : Nat) (Kt : Nat → Nat) (Pt : Nat → Nat) (kt : Nat → Nat) (mt : Nat → Nat) (stt : Nat → Nat) (gt : Nat → Nat) (a : Int32) (b : Int32) (c : Int32) (d : Int32) (hg : wg A) (hR : rR A K P kd am st rg) : CT Z yX8_slip cX8_slip 8 ((some FieldType.int)) 13 0 0 [.ref h, .int a, .int b, .int c, .int d] [xO h u ab be (Rf 0) (Rf 1) (Rf 2), (u 0, .inr (4, [.ref (s 0), .ref (s 1), .ref (s 3), .ref (s 5), .ref (s 7)])), cO (s 0) q (A 21) (A 5) (A 6) (A 7) (A 8) (A 0), (q 0, ia Z 12 (ni K)), (q 1, ia Z 12 (ni P)), (q 2, ia Z 6 (ni kd)), (q 3, ia Z 6 (ni am)), (q 4, ia Z 6 (ni st)), (q 5, ia Z 6 (ni rg)), cO (u 3) qt t1 t2 t3 t4 t5 t6, (qt 0, ia Z 12 (ni Kt)), (qt 1, ia Z 12 (ni Pt)), (qt 2, ia Z 6 (ni kt)), (qt 3, ia Z 6 (ni mt)), (qt 4, ia Z 6 (ni stt)), (qt 5, ia Z 6 (ni gt))] (fun rr ww => ∃ y1 : Nat, ∃ y2 : Nat, ∃ y3 : Nat, ∃ y4 : Nat, ∃ y5 : Nat, ∃ y6 : Nat, ∃ Kx : Nat → Nat, ∃ Px : Nat → Nat, ∃ kx : Nat → Nat, ∃ mx : Nat → Nat, ∃ sx : Nat → Nat, ∃ gx : Nat → Nat, rr = some (.int (zI (z_slip A a b c d))) ∧ ww = [xO h u (ab_slip A ab a b c d) (be_slip A be a b c d) ((if pSlip A a b c d then Rf else bmp Rf 0) 0) ((if pSlip A a b c d then Rf else bmp Rf 0) 1) ((if pSlip A a b c d then Rf else bmp Rf 0) 2), (u 0, .inr (4, [.ref (s 0), .ref (s 1), .ref (s 3), .ref (s 5), .ref (s 7)])), cO (s 0) q (A 21) (A 5) (A 6) (A 7) (A 8) (A 0), (q 0, ia Z 12 (ni K)), (q 1, ia Z 12 (ni P)), (q 2, ia Z 6 (ni kd)), (q 3, ia Z 6 (ni am)), (q 4, ia Z 6 (ni st)), (q 5, ia Z 6 (ni rg)), cO (u 3) qt y1 y2 y3 y4 y5 y6, (qt 0, ia Z 12 (ni Kx)), (qt 1, ia Z 12 (ni Px)), (qt 2, ia Z 6 (ni kx)), (qt 3, ia Z 6 (ni mx)), (qt 4, ia Z 6 (ni sx)), (qt 5, ia Z 6 (ni gx))]) := by
  refine CT.of RX8 false rfl (fun h => by cases h) (by decide +kernel) (Nat.le_of_ble_eq_true rfl) ?_
  intro J hJ hE
  show J 0 [(0, .ref h), (1, .int a), (2, .int b), (3, .int c), (4, .int d)] [] [xO h u ab be (Rf 0) (Rf 1) (Rf 2), (u 0, .inr (4, [.ref (s 0), .ref (s 1), .ref (s 3), .ref (s 5), .ref (s 7)])), cO (s 0) q (A 21) (A 5) (A 6) (A 7) (A 8) (A 0), (q 0, ia Z 12 (ni K)), (q 1, ia Z 12 (ni P)), (q 2, ia Z 6 (ni kd)), (q 3, ia Z 6 (ni am)), (q 4, ia Z 6 (ni st)), (q 5, ia Z 6 (ni rg)), cO (u 3) qt t1 t2 t3 t4 t5 t6, (qt 0, ia Z 12 (ni Kt)), (qt 1, ia Z 12 (ni Pt)), (qt 2, ia Z 6 (ni kt)), (qt 3, ia Z 6 (ni mt)), (qt 4, ia Z 6 (ni stt)), (qt 5, ia Z 6 (ni gt))] 0 0
  obtain ⟨hw, ⟨g1, g2, g3, g4, g8⟩, hrs, hrn, hrm, hpst⟩ := id hg
  obtain ⟨⟨w1, w2, w3, w4, w5, w6⟩, hb, wr, wh, wd⟩ := id hw
  have hr_a := zI_rng a
  have hr_b := zI_rng b
  have hr_c := zI_rng c
  have hr_d := zI_rng d
  refine j_aload_n hJ (q := 1) dX8_slip_0 rfl 0 rfl rfl ?_
  refine j_iload_n hJ (q := 2) dX8_slip_1 rfl 1 rfl rfl ?_
  refine j_vR hJ (q := 5) (rest := []) (As := [.int a]) jl_X8_141 (c_X8_isRider Z h u ab be Rf s q A K P kd am st rg a (by omega)) 0 rfl rfl dX8_slip_2 rfl (by decide) (Nat.le_of_ble_eq_true rfl) [0, 1, 2, 3, 4, 5, 6, 7, 8] rfl rfl (fun rv hp => ?_)
  obtain rfl := hp
  show J 5 [(0, .ref h), (1, .int a), (2, .int b), (3, .int c), (4, .int d)] [.int (bI (decide (0 ≤ a.toInt ∧ a.toInt ≤ (A 0 : Int) - 1)))] [xO h u ab be (Rf 0) (Rf 1) (Rf 2), (u 0, .inr (4, [.ref (s 0), .ref (s 1), .ref (s 3), .ref (s 5), .ref (s 7)])), cO (s 0) q (A 21) (A 5) (A 6) (A 7) (A 8) (A 0), (q 0, ia Z 12 (ni K)), (q 1, ia Z 12 (ni P)), (q 2, ia Z 6 (ni kd)), (q 3, ia Z 6 (ni am)), (q 4, ia Z 6 (ni st)), (q 5, ia Z 6 (ni rg)), cO (u 3) qt t1 t2 t3 t4 t5 t6, (qt 0, ia Z 12 (ni Kt)), (qt 1, ia Z 12 (ni Pt)), (qt 2, ia Z 6 (ni kt)), (qt 3, ia Z 6 (ni mt)), (qt 4, ia Z 6 (ni stt)), (qt 5, ia Z 6 (ni gt))] 0 0
  refine jp_if_eq hJ (q := 8) (tgt := 39) dX8_slip_5 (by decide) rfl (fun c1 => ?_) (fun c1 => ?_)
  · skip
    refine j_aload_n hJ (q := 40) dX8_slip_39 rfl 0 rfl rfl ?_
    refine j_vW hJ (q := 43) (rest := []) (As := []) (wr := [(u 0, .inr (4, [.ref (s 0), .ref (s 1), .ref (s 3), .ref (s 5), .ref (s 7)])), cO (s 0) q (A 21) (A 5) (A 6) (A 7) (A 8) (A 0), (q 0, ia Z 12 (ni K)), (q 1, ia Z 12 (ni P)), (q 2, ia Z 6 (ni kd)), (q 3, ia Z 6 (ni am)), (q 4, ia Z 6 (ni st)), (q 5, ia Z 6 (ni rg)), cO (u 3) qt t1 t2 t3 t4 t5 t6, (qt 0, ia Z 12 (ni Kt)), (qt 1, ia Z 12 (ni Pt)), (qt 2, ia Z 6 (ni kt)), (qt 3, ia Z 6 (ni mt)), (qt 4, ia Z 6 (ni stt)), (qt 5, ia Z 6 (ni gt))]) jl_X8_62 (c_X8_bad Z h u ab be Rf ) 0 rfl rfl dX8_slip_40 rfl (by decide) (Nat.le_of_ble_eq_true rfl) [0] [1, 2, 3, 4, 5, 6, 7, 8, 9, 10, 11, 12, 13, 14, 15] rfl rfl rfl rfl (by decide) rfl (fun rv wv hp => ?_)
    obtain ⟨rfl, rfl⟩ := hp
    refine j_world hJ (ws' := [xO h u ab be ((bmp Rf 0) 0) ((bmp Rf 0) 1) ((bmp Rf 0) 2), (u 0, .inr (4, [.ref (s 0), .ref (s 1), .ref (s 3), .ref (s 5), .ref (s 7)])), cO (s 0) q (A 21) (A 5) (A 6) (A 7) (A 8) (A 0), (q 0, ia Z 12 (ni K)), (q 1, ia Z 12 (ni P)), (q 2, ia Z 6 (ni kd)), (q 3, ia Z 6 (ni am)), (q 4, ia Z 6 (ni st)), (q 5, ia Z 6 (ni rg)), cO (u 3) qt t1 t2 t3 t4 t5 t6, (qt 0, ia Z 12 (ni Kt)), (qt 1, ia Z 12 (ni Pt)), (qt 2, ia Z 6 (ni kt)), (qt 3, ia Z 6 (ni mt)), (qt 4, ia Z 6 (ni stt)), (qt 5, ia Z 6 (ni gt))]) [15, 0, 1, 2, 3, 4, 5, 6, 7, 8, 9, 10, 11, 12, 13, 14] rfl rfl ?_
    show J 43 [(0, .ref h), (1, .int a), (2, .int b), (3, .int c), (4, .int d)] [.int (zI (-2))] [xO h u ab be ((bmp Rf 0) 0) ((bmp Rf 0) 1) ((bmp Rf 0) 2), (u 0, .inr (4, [.ref (s 0), .ref (s 1), .ref (s 3), .ref (s 5), .ref (s 7)])), cO (s 0) q (A 21) (A 5) (A 6) (A 7) (A 8) (A 0), (q 0, ia Z 12 (ni K)), (q 1, ia Z 12 (ni P)), (q 2, ia Z 6 (ni kd)), (q 3, ia Z 6 (ni am)), (q 4, ia Z 6 (ni st)), (q 5, ia Z 6 (ni rg)), cO (u 3) qt t1 t2 t3 t4 t5 t6, (qt 0, ia Z 12 (ni Kt)), (qt 1, ia Z 12 (ni Pt)), (qt 2, ia Z 6 (ni kt)), (qt 3, ia Z 6 (ni mt)), (qt 4, ia Z 6 (ni stt)), (qt 5, ia Z 6 (ni gt))] 0 0
    have hP0 : ¬ pSlip A a b c d := by simp only [rgI, isS, isR, pNote, pMark, pFast, pLever, pHands, pSlip, pEven]; omega
    exact hE.1 _ _ _ _ _ _ _ rfl rfl dX8_slip_43 (Nat.le_refl _) (Nat.le_refl _) (⟨t1, t2, t3, t4, t5, t6, Kt, Pt, kt, mt, stt, gt, congrArg (fun z => some (Value.int (zI z))) (by simp only [z_slip, if_neg hP0]), by simp only [ab_slip, be_slip, if_neg hP0] <;> rfl⟩)
  · skip
    refine j_iload_n hJ (q := 9) dX8_slip_8 rfl 2 rfl rfl ?_
    refine j_iconst hJ (q := 10) dX8_slip_9 rfl ki_0 ?_
    refine j_bipush hJ (q := 12) dX8_slip_10 rfl kb_99 ?_
    refine j_sR hJ (q := 15) (rest := []) (As := [.int b, .int (zI 0), .int (zI 99)]) jl_X8_58 (c_X8_within Z b 0 99 (by omega) (by omega)) dX8_slip_12 rfl (by decide) (Nat.le_of_ble_eq_true rfl) [] rfl rfl (fun rv hp => ?_)
    obtain rfl := hp
    show J 15 [(0, .ref h), (1, .int a), (2, .int b), (3, .int c), (4, .int d)] [.int (bI (decide (0 ≤ b.toInt ∧ b.toInt ≤ 99)))] [xO h u ab be (Rf 0) (Rf 1) (Rf 2), (u 0, .inr (4, [.ref (s 0), .ref (s 1), .ref (s 3), .ref (s 5), .ref (s 7)])), cO (s 0) q (A 21) (A 5) (A 6) (A 7) (A 8) (A 0), (q 0, ia Z 12 (ni K)), (q 1, ia Z 12 (ni P)), (q 2, ia Z 6 (ni kd)), (q 3, ia Z 6 (ni am)), (q 4, ia Z 6 (ni st)), (q 5, ia Z 6 (ni rg)), cO (u 3) qt t1 t2 t3 t4 t5 t6, (qt 0, ia Z 12 (ni Kt)), (qt 1, ia Z 12 (ni Pt)), (qt 2, ia Z 6 (ni kt)), (qt 3, ia Z 6 (ni mt)), (qt 4, ia Z 6 (ni stt)), (qt 5, ia Z 6 (ni gt))] 0 0
    refine jp_if_eq hJ (q := 18) (tgt := 39) dX8_slip_15 (by decide) rfl (fun c2 => ?_) (fun c2 => ?_)
    · skip
      refine j_aload_n hJ (q := 40) dX8_slip_39 rfl 0 rfl rfl ?_
      refine j_vW hJ (q := 43) (rest := []) (As := []) (wr := [(u 0, .inr (4, [.ref (s 0), .ref (s 1), .ref (s 3), .ref (s 5), .ref (s 7)])), cO (s 0) q (A 21) (A 5) (A 6) (A 7) (A 8) (A 0), (q 0, ia Z 12 (ni K)), (q 1, ia Z 12 (ni P)), (q 2, ia Z 6 (ni kd)), (q 3, ia Z 6 (ni am)), (q 4, ia Z 6 (ni st)), (q 5, ia Z 6 (ni rg)), cO (u 3) qt t1 t2 t3 t4 t5 t6, (qt 0, ia Z 12 (ni Kt)), (qt 1, ia Z 12 (ni Pt)), (qt 2, ia Z 6 (ni kt)), (qt 3, ia Z 6 (ni mt)), (qt 4, ia Z 6 (ni stt)), (qt 5, ia Z 6 (ni gt))]) jl_X8_62 (c_X8_bad Z h u ab be Rf ) 0 rfl rfl dX8_slip_40 rfl (by decide) (Nat.le_of_ble_eq_true rfl) [0] [1, 2, 3, 4, 5, 6, 7, 8, 9, 10, 11, 12, 13, 14, 15] rfl rfl rfl rfl (by decide) rfl (fun rv wv hp => ?_)
      obtain ⟨rfl, rfl⟩ := hp
      refine j_world hJ (ws' := [xO h u ab be ((bmp Rf 0) 0) ((bmp Rf 0) 1) ((bmp Rf 0) 2), (u 0, .inr (4, [.ref (s 0), .ref (s 1), .ref (s 3), .ref (s 5), .ref (s 7)])), cO (s 0) q (A 21) (A 5) (A 6) (A 7) (A 8) (A 0), (q 0, ia Z 12 (ni K)), (q 1, ia Z 12 (ni P)), (q 2, ia Z 6 (ni kd)), (q 3, ia Z 6 (ni am)), (q 4, ia Z 6 (ni st)), (q 5, ia Z 6 (ni rg)), cO (u 3) qt t1 t2 t3 t4 t5 t6, (qt 0, ia Z 12 (ni Kt)), (qt 1, ia Z 12 (ni Pt)), (qt 2, ia Z 6 (ni kt)), (qt 3, ia Z 6 (ni mt)), (qt 4, ia Z 6 (ni stt)), (qt 5, ia Z 6 (ni gt))]) [15, 0, 1, 2, 3, 4, 5, 6, 7, 8, 9, 10, 11, 12, 13, 14] rfl rfl ?_
      show J 43 [(0, .ref h), (1, .int a), (2, .int b), (3, .int c), (4, .int d)] [.int (zI (-2))] [xO h u ab be ((bmp Rf 0) 0) ((bmp Rf 0) 1) ((bmp Rf 0) 2), (u 0, .inr (4, [.ref (s 0), .ref (s 1), .ref (s 3), .ref (s 5), .ref (s 7)])), cO (s 0) q (A 21) (A 5) (A 6) (A 7) (A 8) (A 0), (q 0, ia Z 12 (ni K)), (q 1, ia Z 12 (ni P)), (q 2, ia Z 6 (ni kd)), (q 3, ia Z 6 (ni am)), (q 4, ia Z 6 (ni st)), (q 5, ia Z 6 (ni rg)), cO (u 3) qt t1 t2 t3 t4 t5 t6, (qt 0, ia Z 12 (ni Kt)), (qt 1, ia Z 12 (ni Pt)), (qt 2, ia Z 6 (ni kt)), (qt 3, ia Z 6 (ni mt)), (qt 4, ia Z 6 (ni stt)), (qt 5, ia Z 6 (ni gt))] 0 0
      have hP0 : ¬ pSlip A a b c d := by simp only [rgI, isS, isR, pNote, pMark, pFast, pLever, pHands, pSlip, pEven]; omega
      exact hE.1 _ _ _ _ _ _ _ rfl rfl dX8_slip_43 (Nat.le_refl _) (Nat.le_refl _) (⟨t1, t2, t3, t4, t5, t6, Kt, Pt, kt, mt, stt, gt, congrArg (fun z => some (Value.int (zI z))) (by simp only [z_slip, if_neg hP0]), by simp only [ab_slip, be_slip, if_neg hP0] <;> rfl⟩)
    · skip
      refine j_iload_n hJ (q := 19) dX8_slip_18 rfl 3 rfl rfl ?_
      refine j_iconst hJ (q := 20) dX8_slip_19 rfl ki_0 ?_
      refine j_bipush hJ (q := 22) dX8_slip_20 rfl kb_6 ?_
      refine j_sR hJ (q := 25) (rest := []) (As := [.int c, .int (zI 0), .int (zI 6)]) jl_X8_58 (c_X8_within Z c 0 6 (by omega) (by omega)) dX8_slip_22 rfl (by decide) (Nat.le_of_ble_eq_true rfl) [] rfl rfl (fun rv hp => ?_)
      obtain rfl := hp
      show J 25 [(0, .ref h), (1, .int a), (2, .int b), (3, .int c), (4, .int d)] [.int (bI (decide (0 ≤ c.toInt ∧ c.toInt ≤ 6)))] [xO h u ab be (Rf 0) (Rf 1) (Rf 2), (u 0, .inr (4, [.ref (s 0), .ref (s 1), .ref (s 3), .ref (s 5), .ref (s 7)])), cO (s 0) q (A 21) (A 5) (A 6) (A 7) (A 8) (A 0), (q 0, ia Z 12 (ni K)), (q 1, ia Z 12 (ni P)), (q 2, ia Z 6 (ni kd)), (q 3, ia Z 6 (ni am)), (q 4, ia Z 6 (ni st)), (q 5, ia Z 6 (ni rg)), cO (u 3) qt t1 t2 t3 t4 t5 t6, (qt 0, ia Z 12 (ni Kt)), (qt 1, ia Z 12 (ni Pt)), (qt 2, ia Z 6 (ni kt)), (qt 3, ia Z 6 (ni mt)), (qt 4, ia Z 6 (ni stt)), (qt 5, ia Z 6 (ni gt))] 0 0
      refine jp_if_eq hJ (q := 28) (tgt := 39) dX8_slip_25 (by decide) rfl (fun c3 => ?_) (fun c3 => ?_)
      · skip
        refine j_aload_n hJ (q := 40) dX8_slip_39 rfl 0 rfl rfl ?_
        refine j_vW hJ (q := 43) (rest := []) (As := []) (wr := [(u 0, .inr (4, [.ref (s 0), .ref (s 1), .ref (s 3), .ref (s 5), .ref (s 7)])), cO (s 0) q (A 21) (A 5) (A 6) (A 7) (A 8) (A 0), (q 0, ia Z 12 (ni K)), (q 1, ia Z 12 (ni P)), (q 2, ia Z 6 (ni kd)), (q 3, ia Z 6 (ni am)), (q 4, ia Z 6 (ni st)), (q 5, ia Z 6 (ni rg)), cO (u 3) qt t1 t2 t3 t4 t5 t6, (qt 0, ia Z 12 (ni Kt)), (qt 1, ia Z 12 (ni Pt)), (qt 2, ia Z 6 (ni kt)), (qt 3, ia Z 6 (ni mt)), (qt 4, ia Z 6 (ni stt)), (qt 5, ia Z 6 (ni gt))]) jl_X8_62 (c_X8_bad Z h u ab be Rf ) 0 rfl rfl dX8_slip_40 rfl (by decide) (Nat.le_of_ble_eq_true rfl) [0] [1, 2, 3, 4, 5, 6, 7, 8, 9, 10, 11, 12, 13, 14, 15] rfl rfl rfl rfl (by decide) rfl (fun rv wv hp => ?_)
        obtain ⟨rfl, rfl⟩ := hp
        refine j_world hJ (ws' := [xO h u ab be ((bmp Rf 0) 0) ((bmp Rf 0) 1) ((bmp Rf 0) 2), (u 0, .inr (4, [.ref (s 0), .ref (s 1), .ref (s 3), .ref (s 5), .ref (s 7)])), cO (s 0) q (A 21) (A 5) (A 6) (A 7) (A 8) (A 0), (q 0, ia Z 12 (ni K)), (q 1, ia Z 12 (ni P)), (q 2, ia Z 6 (ni kd)), (q 3, ia Z 6 (ni am)), (q 4, ia Z 6 (ni st)), (q 5, ia Z 6 (ni rg)), cO (u 3) qt t1 t2 t3 t4 t5 t6, (qt 0, ia Z 12 (ni Kt)), (qt 1, ia Z 12 (ni Pt)), (qt 2, ia Z 6 (ni kt)), (qt 3, ia Z 6 (ni mt)), (qt 4, ia Z 6 (ni stt)), (qt 5, ia Z 6 (ni gt))]) [15, 0, 1, 2, 3, 4, 5, 6, 7, 8, 9, 10, 11, 12, 13, 14] rfl rfl ?_
        show J 43 [(0, .ref h), (1, .int a), (2, .int b), (3, .int c), (4, .int d)] [.int (zI (-2))] [xO h u ab be ((bmp Rf 0) 0) ((bmp Rf 0) 1) ((bmp Rf 0) 2), (u 0, .inr (4, [.ref (s 0), .ref (s 1), .ref (s 3), .ref (s 5), .ref (s 7)])), cO (s 0) q (A 21) (A 5) (A 6) (A 7) (A 8) (A 0), (q 0, ia Z 12 (ni K)), (q 1, ia Z 12 (ni P)), (q 2, ia Z 6 (ni kd)), (q 3, ia Z 6 (ni am)), (q 4, ia Z 6 (ni st)), (q 5, ia Z 6 (ni rg)), cO (u 3) qt t1 t2 t3 t4 t5 t6, (qt 0, ia Z 12 (ni Kt)), (qt 1, ia Z 12 (ni Pt)), (qt 2, ia Z 6 (ni kt)), (qt 3, ia Z 6 (ni mt)), (qt 4, ia Z 6 (ni stt)), (qt 5, ia Z 6 (ni gt))] 0 0
        have hP0 : ¬ pSlip A a b c d := by simp only [rgI, isS, isR, pNote, pMark, pFast, pLever, pHands, pSlip, pEven]; omega
        exact hE.1 _ _ _ _ _ _ _ rfl rfl dX8_slip_43 (Nat.le_refl _) (Nat.le_refl _) (⟨t1, t2, t3, t4, t5, t6, Kt, Pt, kt, mt, stt, gt, congrArg (fun z => some (Value.int (zI z))) (by simp only [z_slip, if_neg hP0]), by simp only [ab_slip, be_slip, if_neg hP0] <;> rfl⟩)
      · skip
        refine j_iload hJ (q := 30) dX8_slip_28 4 rfl rfl ?_
        refine j_iconst hJ (q := 31) dX8_slip_30 rfl ki_0 ?_
        refine j_bipush hJ (q := 33) dX8_slip_31 rfl kb_10 ?_
        refine j_sR hJ (q := 36) (rest := []) (As := [.int d, .int (zI 0), .int (zI 10)]) jl_X8_58 (c_X8_within Z d 0 10 (by omega) (by omega)) dX8_slip_33 rfl (by decide) (Nat.le_of_ble_eq_true rfl) [] rfl rfl (fun rv hp => ?_)
        obtain rfl := hp
        show J 36 [(0, .ref h), (1, .int a), (2, .int b), (3, .int c), (4, .int d)] [.int (bI (decide (0 ≤ d.toInt ∧ d.toInt ≤ 10)))] [xO h u ab be (Rf 0) (Rf 1) (Rf 2), (u 0, .inr (4, [.ref (s 0), .ref (s 1), .ref (s 3), .ref (s 5), .ref (s 7)])), cO (s 0) q (A 21) (A 5) (A 6) (A 7) (A 8) (A 0), (q 0, ia Z 12 (ni K)), (q 1, ia Z 12 (ni P)), (q 2, ia Z 6 (ni kd)), (q 3, ia Z 6 (ni am)), (q 4, ia Z 6 (ni st)), (q 5, ia Z 6 (ni rg)), cO (u 3) qt t1 t2 t3 t4 t5 t6, (qt 0, ia Z 12 (ni Kt)), (qt 1, ia Z 12 (ni Pt)), (qt 2, ia Z 6 (ni kt)), (qt 3, ia Z 6 (ni mt)), (qt 4, ia Z 6 (ni stt)), (qt 5, ia Z 6 (ni gt))] 0 0
        refine jp_if_ne hJ (q := 39) (tgt := 44) dX8_slip_36 (by decide) rfl (fun c4 => ?_) (fun c4 => ?_)
        · skip
          have hn_a := nt_cast (x := a) (by omega)
          refine j_eql (lvs' := [(0, .ref h), (1, .int (nI (nt a))), (2, .int b), (3, .int c), (4, .int d)]) (by rw [← nt_eq (x := a) (by omega)]) ?_
          have hn_b := nt_cast (x := b) (by omega)
          refine j_eql (lvs' := [(0, .ref h), (1, .int (nI (nt a))), (2, .int (nI (nt b))), (3, .int c), (4, .int d)]) (by rw [← nt_eq (x := b) (by omega)]) ?_
          have hn_c := nt_cast (x := c) (by omega)
          refine j_eql (lvs' := [(0, .ref h), (1, .int (nI (nt a))), (2, .int (nI (nt b))), (3, .int (nI (nt c))), (4, .int d)]) (by rw [← nt_eq (x := c) (by omega)]) ?_
          have hn_d := nt_cast (x := d) (by omega)
          refine j_eql (lvs' := [(0, .ref h), (1, .int (nI (nt a))), (2, .int (nI (nt b))), (3, .int (nI (nt c))), (4, .int (nI (nt d)))]) (by rw [← nt_eq (x := d) (by omega)]) ?_
          refine j_aload_n hJ (q := 45) dX8_slip_44 rfl 0 rfl rfl ?_
          refine j_get hJ (q := 48) jf_X8_37 dX8_slip_45 0 rfl rfl rfl ?_
          refine j_aload_n hJ (q := 49) dX8_slip_48 rfl 0 rfl rfl ?_
          refine j_get hJ (q := 52) jf_X8_10 dX8_slip_49 0 rfl rfl rfl ?_
          refine j_get hJ (q := 55) jf_X8_66 dX8_slip_52 1 rfl rfl rfl ?_
          refine j_vW hJ (q := 58) (rest := []) (As := [.ref (s 0)]) (wr := [xO h u ab be (Rf 0) (Rf 1) (Rf 2), (u 0, .inr (4, [.ref (s 0), .ref (s 1), .ref (s 3), .ref (s 5), .ref (s 7)]))]) jl_X8_122 (c_X4_copyOf Z (u 3) qt t1 t2 t3 t4 t5 t6 Kt Pt kt mt stt gt (s 0) q A K P kd am st rg ) 9 rfl rfl dX8_slip_55 rfl (by decide) (Nat.le_of_ble_eq_true rfl) [9, 10, 11, 12, 13, 14, 15, 2, 3, 4, 5, 6, 7, 8] [0, 1] rfl rfl rfl rfl (by decide) rfl (fun rv wv hp => ?_)
          obtain ⟨rfl, rfl⟩ := hp
          refine j_world hJ (ws' := [xO h u ab be (Rf 0) (Rf 1) (Rf 2), (u 0, .inr (4, [.ref (s 0), .ref (s 1), .ref (s 3), .ref (s 5), .ref (s 7)])), cO (s 0) q (A 21) (A 5) (A 6) (A 7) (A 8) (A 0), (q 0, ia Z 12 (ni K)), (q 1, ia Z 12 (ni P)), (q 2, ia Z 6 (ni kd)), (q 3, ia Z 6 (ni am)), (q 4, ia Z 6 (ni st)), (q 5, ia Z 6 (ni rg)), cO (u 3) qt (A 21) (A 5) (A 6) (A 7) (A 8) (A 0), (qt 0, ia Z 12 (ni K)), (qt 1, ia Z 12 (ni P)), (qt 2, ia Z 6 (ni kd)), (qt 3, ia Z 6 (ni am)), (qt 4, ia Z 6 (ni st)), (qt 5, ia Z 6 (ni rg))]) [0, 1, 9, 10, 11, 12, 13, 14, 15, 2, 3, 4, 5, 6, 7, 8] rfl rfl ?_
          show J 58 [(0, .ref h), (1, .int (nI (nt a))), (2, .int (nI (nt b))), (3, .int (nI (nt c))), (4, .int (nI (nt d)))] [] [xO h u ab be (Rf 0) (Rf 1) (Rf 2), (u 0, .inr (4, [.ref (s 0), .ref (s 1), .ref (s 3), .ref (s 5), .ref (s 7)])), cO (s 0) q (A 21) (A 5) (A 6) (A 7) (A 8) (A 0), (q 0, ia Z 12 (ni K)), (q 1, ia Z 12 (ni P)), (q 2, ia Z 6 (ni kd)), (q 3, ia Z 6 (ni am)), (q 4, ia Z 6 (ni st)), (q 5, ia Z 6 (ni rg)), cO (u 3) qt (A 21) (A 5) (A 6) (A 7) (A 8) (A 0), (qt 0, ia Z 12 (ni K)), (qt 1, ia Z 12 (ni P)), (qt 2, ia Z 6 (ni kd)), (qt 3, ia Z 6 (ni am)), (qt 4, ia Z 6 (ni st)), (qt 5, ia Z 6 (ni rg))] 0 0
          refine j_lconst hJ (q := 59) (v := zL 1) dX8_slip_58 rfl rfl ?_
          refine j_lstore hJ (q := 61) (lvs' := [(5, .long (zL 1)), (0, .ref h), (1, .int (nI (nt a))), (2, .int (nI (nt b))), (3, .int (nI (nt c))), (4, .int (nI (nt d)))]) dX8_slip_59 (by decide) rfl rfl ?_
          refine j_iconst hJ (q := 62) dX8_slip_61 rfl ki_0 ?_
          refine j_istore hJ (q := 64) (lvs' := [(7, .int (nI 0)), (5, .long (zL 1)), (0, .ref h), (1, .int (nI (nt a))), (2, .int (nI (nt b))), (3, .int (nI (nt c))), (4, .int (nI (nt d)))]) dX8_slip_62 (by decide) rfl rfl ?_
          have L_64 : ∀ (fu_64 : Nat) (wh_ : Int) (k0 : Nat), nt c - k0 < fu_64 → (k0 ≤ nt c) → (wh_ = p10 k0) → J 64 [(0, .ref h), (1, .int (nI (nt a))), (2, .int (nI (nt b))), (3, .int (nI (nt c))), (4, .int (nI (nt d))), (5, .long (zL wh_)), (7, .int (nI k0))] [] [xO h u ab be (Rf 0) (Rf 1) (Rf 2), (u 0, .inr (4, [.ref (s 0), .ref (s 1), .ref (s 3), .ref (s 5), .ref (s 7)])), cO (s 0) q (A 21) (A 5) (A 6) (A 7) (A 8) (A 0), (q 0, ia Z 12 (ni K)), (q 1, ia Z 12 (ni P)), (q 2, ia Z 6 (ni kd)), (q 3, ia Z 6 (ni am)), (q 4, ia Z 6 (ni st)), (q 5, ia Z 6 (ni rg)), cO (u 3) qt (A 21) (A 5) (A 6) (A 7) (A 8) (A 0), (qt 0, ia Z 12 (ni K)), (qt 1, ia Z 12 (ni P)), (qt 2, ia Z 6 (ni kd)), (qt 3, ia Z 6 (ni am)), (qt 4, ia Z 6 (ni st)), (qt 5, ia Z 6 (ni rg))] 0 0 := by
            intro fu_64
            induction fu_64 with
            | zero => intro wh_ k0 hm; exact absurd hm (Nat.not_lt_zero _)
            | succ fu_64 ih_64 =>
              intro wh_ k0 hm_64 hk0 hW
              refine j_iload hJ (q := 66) dX8_slip_64 6 rfl rfl ?_
              refine j_iload_n hJ (q := 67) dX8_slip_66 rfl 3 rfl rfl ?_
              refine jn_icmp_ge hJ (q := 70) (tgt := 84) dX8_slip_67 (by decide) rfl (by omega) (by omega) (fun c5 => ?_) (fun c5 => ?_)
              · skip
                have hp1 := p10_le k0 (by omega)
                rw [← hW] at hp1
                have hpw : 2 ^ nt c ≤ 64 := show 2 ^ nt c ≤ 2 ^ 6 from Nat.pow_le_pow_right (by decide) (by omega)
                have hsl : chF (nt a) (nt b) (nt d) (nt c) A = s_slip A a b c d := chF_sum (by omega) _ _
                have hsb := ssum_b (A := A) (i := nt a) (x := nt b) (n := nt c) (c := nt d) (by omega) (by omega) (1 * 2 ^ nt c)
                have hsb2 : 0 ≤ chF (nt a) (nt b) (nt d) (nt c) A ∧ chF (nt a) (nt b) (nt d) (nt c) A ≤ 100000000 := by rw [hsl]; unfold s_slip; omega
                refine j_aload_n hJ (q := 85) dX8_slip_84 rfl 0 rfl rfl ?_
                refine j_aload_n hJ (q := 86) dX8_slip_85 rfl 0 rfl rfl ?_
                refine j_get hJ (q := 89) jf_X8_37 dX8_slip_86 0 rfl rfl rfl ?_
                refine j_iload_n hJ (q := 90) dX8_slip_89 rfl 1 rfl rfl ?_
                refine j_iload_n hJ (q := 91) dX8_slip_90 rfl 2 rfl rfl ?_
                refine j_iload hJ (q := 93) dX8_slip_91 4 rfl rfl ?_
                refine j_iload_n hJ (q := 94) dX8_slip_93 rfl 3 rfl rfl ?_
                refine j_sW hJ (q := 97) (rest := [.ref h]) (As := [.ref (u 3), .int (nI (nt a)), .int (nI (nt b)), .int (nI (nt d)), .int (nI (nt c))]) (wr := [xO h u ab be (Rf 0) (Rf 1) (Rf 2), (u 0, .inr (4, [.ref (s 0), .ref (s 1), .ref (s 3), .ref (s 5), .ref (s 7)])), cO (s 0) q (A 21) (A 5) (A 6) (A 7) (A 8) (A 0), (q 0, ia Z 12 (ni K)), (q 1, ia Z 12 (ni P)), (q 2, ia Z 6 (ni kd)), (q 3, ia Z 6 (ni am)), (q 4, ia Z 6 (ni st)), (q 5, ia Z 6 (ni rg))]) jl_X8_235 (c_X8_chance (nt c) (by omega) Z (u 3) qt A K P kd am st rg (nt a) (nt b) (nt d) hw hR (by omega) (by omega) (by omega) (by omega)) dX8_slip_94 rfl (by omega) (Nat.le_of_ble_eq_true rfl) [9, 10, 11, 12, 13, 14, 15] [0, 1, 2, 3, 4, 5, 6, 7, 8] rfl rfl rfl rfl (by decide) rfl (fun rv wv hp => ?_)
                obtain ⟨gz6, rfl, rfl, f7⟩ := hp
                show J 97 [(0, .ref h), (1, .int (nI (nt a))), (2, .int (nI (nt b))), (3, .int (nI (nt c))), (4, .int (nI (nt d))), (5, .long (zL wh_)), (7, .int (nI k0))] [.long (zL (chF (nt a) (nt b) (nt d) (nt c) A)), .ref h] [xO h u ab be (Rf 0) (Rf 1) (Rf 2), (u 0, .inr (4, [.ref (s 0), .ref (s 1), .ref (s 3), .ref (s 5), .ref (s 7)])), cO (s 0) q (A 21) (A 5) (A 6) (A 7) (A 8) (A 0), (q 0, ia Z 12 (ni K)), (q 1, ia Z 12 (ni P)), (q 2, ia Z 6 (ni kd)), (q 3, ia Z 6 (ni am)), (q 4, ia Z 6 (ni st)), (q 5, ia Z 6 (ni rg)), cO (u 3) qt (A 21) (A 5) (A 6) (A 7) (A 8) (A 0), (qt 0, ia Z 12 (ni K)), (qt 1, ia Z 12 (ni P)), (qt 2, ia Z 6 (ni kd)), (qt 3, ia Z 6 (ni am)), (qt 4, ia Z 6 (ni st)), (qt 5, ia Z 6 (ni gz6))] 0 0
                refine j_lload hJ (q := 99) dX8_slip_97 5 rfl rfl ?_
                refine j_vW hJ (q := 102) (rest := []) (As := [.long (zL (chF (nt a) (nt b) (nt d) (nt c) A)), .long (zL wh_)]) (wr := [(u 0, .inr (4, [.ref (s 0), .ref (s 1), .ref (s 3), .ref (s 5), .ref (s 7)])), cO (s 0) q (A 21) (A 5) (A 6) (A 7) (A 8) (A 0), (q 0, ia Z 12 (ni K)), (q 1, ia Z 12 (ni P)), (q 2, ia Z 6 (ni kd)), (q 3, ia Z 6 (ni am)), (q 4, ia Z 6 (ni st)), (q 5, ia Z 6 (ni rg)), cO (u 3) qt (A 21) (A 5) (A 6) (A 7) (A 8) (A 0), (qt 0, ia Z 12 (ni K)), (qt 1, ia Z 12 (ni P)), (qt 2, ia Z 6 (ni kd)), (qt 3, ia Z 6 (ni am)), (qt 4, ia Z 6 (ni st)), (qt 5, ia Z 6 (ni gz6))]) jl_X8_239 (c_X8_keepFraction Z h u ab be Rf (chF (nt a) (nt b) (nt d) (nt c) A) wh_ hsb2 (by omega)) 0 rfl rfl dX8_slip_99 rfl (by decide) (Nat.le_of_ble_eq_true rfl) [0] [1, 2, 3, 4, 5, 6, 7, 8, 9, 10, 11, 12, 13, 14, 15] rfl rfl rfl rfl (by decide) rfl (fun rv wv hp => ?_)
                obtain ⟨rfl, rfl⟩ := hp
                refine j_world hJ (ws' := [xO h u ((chF (nt a) (nt b) (nt d) (nt c) A) / (Int.gcd (chF (nt a) (nt b) (nt d) (nt c) A) wh_ : Int)) (wh_ / (Int.gcd (chF (nt a) (nt b) (nt d) (nt c) A) wh_ : Int)) (Rf 0) (Rf 1) (Rf 2), (u 0, .inr (4, [.ref (s 0), .ref (s 1), .ref (s 3), .ref (s 5), .ref (s 7)])), cO (s 0) q (A 21) (A 5) (A 6) (A 7) (A 8) (A 0), (q 0, ia Z 12 (ni K)), (q 1, ia Z 12 (ni P)), (q 2, ia Z 6 (ni kd)), (q 3, ia Z 6 (ni am)), (q 4, ia Z 6 (ni st)), (q 5, ia Z 6 (ni rg)), cO (u 3) qt (A 21) (A 5) (A 6) (A 7) (A 8) (A 0), (qt 0, ia Z 12 (ni K)), (qt 1, ia Z 12 (ni P)), (qt 2, ia Z 6 (ni kd)), (qt 3, ia Z 6 (ni am)), (qt 4, ia Z 6 (ni st)), (qt 5, ia Z 6 (ni gz6))]) [15, 0, 1, 2, 3, 4, 5, 6, 7, 8, 9, 10, 11, 12, 13, 14] rfl rfl ?_
                show J 102 [(0, .ref h), (1, .int (nI (nt a))), (2, .int (nI (nt b))), (3, .int (nI (nt c))), (4, .int (nI (nt d))), (5, .long (zL wh_)), (7, .int (nI k0))] [] [xO h u ((chF (nt a) (nt b) (nt d) (nt c) A) / (Int.gcd (chF (nt a) (nt b) (nt d) (nt c) A) wh_ : Int)) (wh_ / (Int.gcd (chF (nt a) (nt b) (nt d) (nt c) A) wh_ : Int)) (Rf 0) (Rf 1) (Rf 2), (u 0, .inr (4, [.ref (s 0), .ref (s 1), .ref (s 3), .ref (s 5), .ref (s 7)])), cO (s 0) q (A 21) (A 5) (A 6) (A 7) (A 8) (A 0), (q 0, ia Z 12 (ni K)), (q 1, ia Z 12 (ni P)), (q 2, ia Z 6 (ni kd)), (q 3, ia Z 6 (ni am)), (q 4, ia Z 6 (ni st)), (q 5, ia Z 6 (ni rg)), cO (u 3) qt (A 21) (A 5) (A 6) (A 7) (A 8) (A 0), (qt 0, ia Z 12 (ni K)), (qt 1, ia Z 12 (ni P)), (qt 2, ia Z 6 (ni kd)), (qt 3, ia Z 6 (ni am)), (qt 4, ia Z 6 (ni st)), (qt 5, ia Z 6 (ni gz6))] 0 0
                refine j_iconst hJ (q := 103) dX8_slip_102 rfl ki_1 ?_
                have hP0 : pSlip A a b c d := by simp only [rgI, isS, isR, pNote, pMark, pFast, pLever, pHands, pSlip, pEven]; omega
                exact hE.1 _ _ _ _ _ _ _ rfl rfl dX8_slip_103 (Nat.le_refl _) (Nat.le_refl _) (⟨(A 21), (A 5), (A 6), (A 7), (A 8), (A 0), K, P, kd, am, st, gz6, congrArg (fun z => some (Value.int z)) ((zI_nat _).symm.trans (congrArg zI (by simp only [z_slip, if_pos hP0]; rfl))), by rw [hsl, hW, show k0 = nt c by omega]; simp only [ab_slip, be_slip, if_pos hP0] <;> rfl⟩)
              · skip
                refine j_lload hJ (q := 72) dX8_slip_70 5 rfl rfl ?_
                refine j_ldc2 hJ (q := 75) (v' := zL 10) dX8_slip_72 tm_691 rfl rfl ?_
                refine j_lmul hJ (q := 76) dX8_slip_75 rfl (zL_mul _ _) ?_
                refine j_lstore hJ (q := 78) (lvs' := [(5, .long (zL (wh_ * 10))), (0, .ref h), (1, .int (nI (nt a))), (2, .int (nI (nt b))), (3, .int (nI (nt c))), (4, .int (nI (nt d))), (7, .int (nI k0))]) dX8_slip_76 (by decide) rfl rfl ?_
                refine j_iinc hJ (q := 81) (lvs' := [(7, .int (nI (k0 + 1))), (5, .long (zL (wh_ * 10))), (0, .ref h), (1, .int (nI (nt a))), (2, .int (nI (nt b))), (3, .int (nI (nt c))), (4, .int (nI (nt d)))]) dX8_slip_78 6 rfl (by rw [show Int32.ofInt 1 = nI 1 from by decide +kernel]; exact nI_add _ _) (by decide) rfl rfl ?_
                refine j_goto hJ (q := 64) dX8_slip_81 (by decide) ?_
                refine j_locals hJ [2, 3, 4, 5, 6, 1, 0] rfl ?_
                exact ih_64 (wh_ * 10) (k0 + 1) (by omega) (by omega) (by rw [hW]; rfl)
          refine j_locals hJ [2, 3, 4, 5, 6, 1, 0] rfl ?_
          exact L_64 ((nt c - 0) + 1) 1 0 (Nat.lt_succ_self _) (by omega) rfl
        · skip
          refine j_aload_n hJ (q := 40) dX8_slip_39 rfl 0 rfl rfl ?_
          refine j_vW hJ (q := 43) (rest := []) (As := []) (wr := [(u 0, .inr (4, [.ref (s 0), .ref (s 1), .ref (s 3), .ref (s 5), .ref (s 7)])), cO (s 0) q (A 21) (A 5) (A 6) (A 7) (A 8) (A 0), (q 0, ia Z 12 (ni K)), (q 1, ia Z 12 (ni P)), (q 2, ia Z 6 (ni kd)), (q 3, ia Z 6 (ni am)), (q 4, ia Z 6 (ni st)), (q 5, ia Z 6 (ni rg)), cO (u 3) qt t1 t2 t3 t4 t5 t6, (qt 0, ia Z 12 (ni Kt)), (qt 1, ia Z 12 (ni Pt)), (qt 2, ia Z 6 (ni kt)), (qt 3, ia Z 6 (ni mt)), (qt 4, ia Z 6 (ni stt)), (qt 5, ia Z 6 (ni gt))]) jl_X8_62 (c_X8_bad Z h u ab be Rf ) 0 rfl rfl dX8_slip_40 rfl (by decide) (Nat.le_of_ble_eq_true rfl) [0] [1, 2, 3, 4, 5, 6, 7, 8, 9, 10, 11, 12, 13, 14, 15] rfl rfl rfl rfl (by decide) rfl (fun rv wv hp => ?_)
          obtain ⟨rfl, rfl⟩ := hp
          refine j_world hJ (ws' := [xO h u ab be ((bmp Rf 0) 0) ((bmp Rf 0) 1) ((bmp Rf 0) 2), (u 0, .inr (4, [.ref (s 0), .ref (s 1), .ref (s 3), .ref (s 5), .ref (s 7)])), cO (s 0) q (A 21) (A 5) (A 6) (A 7) (A 8) (A 0), (q 0, ia Z 12 (ni K)), (q 1, ia Z 12 (ni P)), (q 2, ia Z 6 (ni kd)), (q 3, ia Z 6 (ni am)), (q 4, ia Z 6 (ni st)), (q 5, ia Z 6 (ni rg)), cO (u 3) qt t1 t2 t3 t4 t5 t6, (qt 0, ia Z 12 (ni Kt)), (qt 1, ia Z 12 (ni Pt)), (qt 2, ia Z 6 (ni kt)), (qt 3, ia Z 6 (ni mt)), (qt 4, ia Z 6 (ni stt)), (qt 5, ia Z 6 (ni gt))]) [15, 0, 1, 2, 3, 4, 5, 6, 7, 8, 9, 10, 11, 12, 13, 14] rfl rfl ?_
          show J 43 [(0, .ref h), (1, .int a), (2, .int b), (3, .int c), (4, .int d)] [.int (zI (-2))] [xO h u ab be ((bmp Rf 0) 0) ((bmp Rf 0) 1) ((bmp Rf 0) 2), (u 0, .inr (4, [.ref (s 0), .ref (s 1), .ref (s 3), .ref (s 5), .ref (s 7)])), cO (s 0) q (A 21) (A 5) (A 6) (A 7) (A 8) (A 0), (q 0, ia Z 12 (ni K)), (q 1, ia Z 12 (ni P)), (q 2, ia Z 6 (ni kd)), (q 3, ia Z 6 (ni am)), (q 4, ia Z 6 (ni st)), (q 5, ia Z 6 (ni rg)), cO (u 3) qt t1 t2 t3 t4 t5 t6, (qt 0, ia Z 12 (ni Kt)), (qt 1, ia Z 12 (ni Pt)), (qt 2, ia Z 6 (ni kt)), (qt 3, ia Z 6 (ni mt)), (qt 4, ia Z 6 (ni stt)), (qt 5, ia Z 6 (ni gt))] 0 0
          have hP0 : ¬ pSlip A a b c d := by simp only [rgI, isS, isR, pNote, pMark, pFast, pLever, pHands, pSlip, pEven]; omega
          exact hE.1 _ _ _ _ _ _ _ rfl rfl dX8_slip_43 (Nat.le_refl _) (Nat.le_refl _) (⟨t1, t2, t3, t4, t5, t6, Kt, Pt, kt, mt, stt, gt, congrArg (fun z => some (Value.int (zI z))) (by simp only [z_slip, if_neg hP0]), by simp only [ab_slip, be_slip, if_neg hP0] <;> rfl⟩)
