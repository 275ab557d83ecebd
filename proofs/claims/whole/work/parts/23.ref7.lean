set_option maxHeartbeats 4000000 in
set_option maxRecDepth 100000 in
theorem c_X9_round (Z : jZ) (h : Nat) (q : Nat → Nat) (ab : Int) (be : Int) (bl : Nat) (ta : Nat) (tl : Nat) (tk : Nat) (va : Nat) (A : Nat → Nat) (Rf : Nat → Nat) (a : Int32) (b : Int32) (hg : wg A) : CT Z yX9_round cX9_round 4 ((some FieldType.int)) 3 0 0 [.ref h, .int a, .int b] [mO h q ab be bl ta tl tk va, (q 0, ia Z 266 (ni A)), (q 3, ia Z 3 (ni Rf))] (fun rr ww => rr = some (.int (zI (z_round A a b))) ∧ ww = [mO h q ab be bl ta tl tk va, (q 0, ia Z 266 (ni (a_round A a b))), (q 3, ia Z 3 (ni (if rgI 4 12 a ∧ rgI 0 3 b then Rf else bmp Rf 0)))]) := by
  refine CT.of RX9 false rfl (fun h => by cases h) (by decide +kernel) (Nat.le_of_ble_eq_true rfl) ?_
  intro J hJ hE
  show J 0 [(0, .ref h), (1, .int a), (2, .int b)] [] [mO h q ab be bl ta tl tk va, (q 0, ia Z 266 (ni A)), (q 3, ia Z 3 (ni Rf))] 0 0
  obtain ⟨hw, ⟨g1, g2, g3, g4, g8⟩, hrs, hrn, hrm, hpst⟩ := id hg
  obtain ⟨⟨w1, w2, w3, w4, w5, w6⟩, wb, wr, wh, wd⟩ := id hw
  have hb := wb
  have hr_a := zI_rng a
  have hr_b := zI_rng b
  refine j_iload_n hJ (q := 1) dX9_round_0 rfl 1 rfl rfl ?_
  refine j_i2l hJ (q := 2) dX9_round_1 rfl (zL_i _ (zI_of a) (zI_rng a)) ?_
  refine j_ldc2 hJ (q := 5) (v' := zL 4) dX9_round_2 tm_839 rfl rfl ?_
  refine j_ldc2 hJ (q := 8) (v' := zL 12) dX9_round_5 tm_840 rfl rfl ?_
  refine j_sR hJ (q := 11) (rest := []) (As := [.long (zL a.toInt), .long (zL 4), .long (zL 12)]) jl_X9_53 (c_X9_in Z a.toInt 4 12 (by omega) (by omega) (by omega)) dX9_round_8 rfl (by decide) (Nat.le_of_ble_eq_true rfl) [] rfl rfl (fun rv hp => ?_)
  obtain rfl := hp
  show J 11 [(0, .ref h), (1, .int a), (2, .int b)] [.int (bI (decide (4 ≤ a.toInt ∧ a.toInt ≤ 12)))] [mO h q ab be bl ta tl tk va, (q 0, ia Z 266 (ni A)), (q 3, ia Z 3 (ni Rf))] 0 0
  refine jp_if_eq hJ (q := 14) (tgt := 21) dX9_round_11 (by decide) rfl (fun c1 => ?_) (fun c1 => ?_)
  · skip
    refine j_aload_n hJ (q := 22) dX9_round_21 rfl 0 rfl rfl ?_
    refine j_bipush hJ (q := 24) dX9_round_22 rfl kb_m2 ?_
    refine j_vW hJ (q := 27) (rest := []) (As := [.int (zI (-2))]) (wr := [(q 0, ia Z 266 (ni A))]) jl_X9_73 (c_X9_bad Z h q ab be bl ta tl tk va Rf (-2) ) 0 rfl rfl dX9_round_24 rfl (by decide) (Nat.le_of_ble_eq_true rfl) [0, 2] [1] rfl rfl rfl rfl (by decide) rfl (fun rv wv hp => ?_)
    obtain ⟨rfl, rfl⟩ := hp
    refine j_world hJ (ws' := [mO h q ab be bl ta tl tk va, (q 0, ia Z 266 (ni A)), (q 3, ia Z 3 (ni (va_up Rf 0 (Rf 0 + 1))))]) [1, 0, 2] rfl rfl ?_
    show J 27 [(0, .ref h), (1, .int a), (2, .int b)] [.int (zI (-2))] [mO h q ab be bl ta tl tk va, (q 0, ia Z 266 (ni A)), (q 3, ia Z 3 (ni (va_up Rf 0 (Rf 0 + 1))))] 0 0
    have hP : ¬ (rgI 4 12 a ∧ rgI 0 3 b) := by simp only [rgI, isS, isR, pNote, pMark]; omega
    exact hE.1 _ _ _ _ _ _ _ rfl rfl dX9_round_27 (Nat.le_refl _) (Nat.le_refl _) (⟨congrArg (fun z => some (Value.int (zI z))) (by simp only [z_round, a_round, if_neg hP, bmp]), by simp only [z_round, a_round, if_neg hP, bmp]⟩)
  · skip
    refine j_iload_n hJ (q := 15) dX9_round_14 rfl 2 rfl rfl ?_
    refine j_sR hJ (q := 18) (rest := []) (As := [.int b]) jl_X9_69 (c_X9_isSpeed Z b ) dX9_round_15 rfl (by decide) (Nat.le_of_ble_eq_true rfl) [] rfl rfl (fun rv hp => ?_)
    obtain rfl := hp
    show J 18 [(0, .ref h), (1, .int a), (2, .int b)] [.int (bI (decide (0 ≤ b.toInt ∧ b.toInt ≤ 3)))] [mO h q ab be bl ta tl tk va, (q 0, ia Z 266 (ni A)), (q 3, ia Z 3 (ni Rf))] 0 0
    refine jp_if_ne hJ (q := 21) (tgt := 28) dX9_round_18 (by decide) rfl (fun c2 => ?_) (fun c2 => ?_)
    · skip
      refine j_aload_n hJ (q := 29) dX9_round_28 rfl 0 rfl rfl ?_
      refine j_vR hJ (q := 32) (rest := []) (As := []) jl_X9_49 (c_X9_many Z h q ab be bl ta tl tk va A ) 0 rfl rfl dX9_round_29 rfl (by decide) (Nat.le_of_ble_eq_true rfl) [0, 1] rfl rfl (fun rv hp => ?_)
      obtain rfl := hp
      show J 32 [(0, .ref h), (1, .int a), (2, .int b)] [.int (nI (A 0))] [mO h q ab be bl ta tl tk va, (q 0, ia Z 266 (ni A)), (q 3, ia Z 3 (ni Rf))] 0 0
      refine j_istore_n hJ (q := 33) (lvs' := [(3, .int (nI (A 0))), (0, .ref h), (1, .int a), (2, .int b)]) dX9_round_32 rfl (by decide) rfl rfl ?_
      have hn_a := nt_cast (x := a) (by omega)
      refine j_eql (lvs' := [(3, .int (nI (A 0))), (0, .ref h), (1, .int (nI (nt a))), (2, .int b)]) (by rw [← nt_eq (x := a) (by omega)]) ?_
      have hn_b := nt_cast (x := b) (by omega)
      refine j_eql (lvs' := [(3, .int (nI (A 0))), (0, .ref h), (1, .int (nI (nt a))), (2, .int (nI (nt b)))]) (by rw [← nt_eq (x := b) (by omega)]) ?_
      refine j_aload_n hJ (q := 34) dX9_round_33 rfl 1 rfl rfl ?_
      refine j_get hJ (q := 37) jf_X9_7 dX9_round_34 0 rfl rfl rfl ?_
      refine j_iload_n hJ (q := 38) dX9_round_37 rfl 2 rfl rfl ?_
      refine j_iload_n hJ (q := 39) dX9_round_38 rfl 3 rfl rfl ?_
      refine j_sW hJ (q := 42) (rest := []) (As := [.ref (q 0), .int (nI (nt a)), .int (nI (nt b))]) (wr := [mO h q ab be bl ta tl tk va, (q 3, ia Z 3 (ni Rf))]) jl_X9_45 (c_X9_begin Z (q 0) 266 A (nt a) (nt b) (by omega)) dX9_round_39 rfl (by decide) (Nat.le_of_ble_eq_true rfl) [1] [0, 2] rfl rfl rfl rfl (by decide) rfl (fun rv wv hp => ?_)
      obtain ⟨rfl, rfl⟩ := hp
      refine j_world hJ (ws' := [mO h q ab be bl ta tl tk va, ((q 0), ia Z 266 (ni (beg A (nt a) (nt b)))), (q 3, ia Z 3 (ni Rf))]) [0, 2, 1] rfl rfl ?_
      show J 42 [(3, .int (nI (A 0))), (0, .ref h), (1, .int (nI (nt a))), (2, .int (nI (nt b)))] [] [mO h q ab be bl ta tl tk va, ((q 0), ia Z 266 (ni (beg A (nt a) (nt b)))), (q 3, ia Z 3 (ni Rf))] 0 0
      refine j_iload_n hJ (q := 43) dX9_round_42 rfl 0 rfl rfl ?_
      have hP : rgI 4 12 a ∧ rgI 0 3 b := by simp only [rgI, isS, isR, pNote, pMark]; omega
      exact hE.1 _ _ _ _ _ _ _ rfl rfl dX9_round_43 (Nat.le_refl _) (Nat.le_refl _) (⟨congrArg (fun z => some (Value.int z)) ((zI_nat _).symm.trans (congrArg zI (by simp only [z_round, a_round, if_pos hP, bmp]))), by simp only [z_round, a_round, if_pos hP, bmp]⟩)
    · skip
      refine j_aload_n hJ (q := 22) dX9_round_21 rfl 0 rfl rfl ?_
      refine j_bipush hJ (q := 24) dX9_round_22 rfl kb_m2 ?_
      refine j_vW hJ (q := 27) (rest := []) (As := [.int (zI (-2))]) (wr := [(q 0, ia Z 266 (ni A))]) jl_X9_73 (c_X9_bad Z h q ab be bl ta tl tk va Rf (-2) ) 0 rfl rfl dX9_round_24 rfl (by decide) (Nat.le_of_ble_eq_true rfl) [0, 2] [1] rfl rfl rfl rfl (by decide) rfl (fun rv wv hp => ?_)
      obtain ⟨rfl, rfl⟩ := hp
      refine j_world hJ (ws' := [mO h q ab be bl ta tl tk va, (q 0, ia Z 266 (ni A)), (q 3, ia Z 3 (ni (va_up Rf 0 (Rf 0 + 1))))]) [1, 0, 2] rfl rfl ?_
      show J 27 [(0, .ref h), (1, .int a), (2, .int b)] [.int (zI (-2))] [mO h q ab be bl ta tl tk va, (q 0, ia Z 266 (ni A)), (q 3, ia Z 3 (ni (va_up Rf 0 (Rf 0 + 1))))] 0 0
      have hP : ¬ (rgI 4 12 a ∧ rgI 0 3 b) := by simp only [rgI, isS, isR, pNote, pMark]; omega
      exact hE.1 _ _ _ _ _ _ _ rfl rfl dX9_round_27 (Nat.le_refl _) (Nat.le_refl _) (⟨congrArg (fun z => some (Value.int (zI z))) (by simp only [z_round, a_round, if_neg hP, bmp]), by simp only [z_round, a_round, if_neg hP, bmp]⟩)

set_option maxHeartbeats 4000000 in
set_option maxRecDepth 100000 in
theorem c_X9_horse (Z : jZ) (h : Nat) (q : Nat → Nat) (ab : Int) (be : Int) (bl : Nat) (ta : Nat) (tl : Nat) (tk : Nat) (va : Nat) (A : Nat → Nat) (Rf : Nat → Nat) (a : Int32) (b : Int32) (c : Int32) (hg : wg A) : CT Z yX9_horse cX9_horse 5 ((some FieldType.int)) 3 0 0 [.ref h, .int a, .int b, .int c] [mO h q ab be bl ta tl tk va, (q 0, ia Z 266 (ni A)), (q 3, ia Z 3 (ni Rf))] (fun rr ww => rr = some (.int (zI (z_horse A a b c))) ∧ ww = [mO h q ab be bl ta tl tk va, (q 0, ia Z 266 (ni (a_horse A a b c))), (q 3, ia Z 3 (ni (if isS A a ∧ rgI 0 5 b ∧ rgI 0 7 c then Rf else bmp Rf 0)))]) := by
  refine CT.of RX9 false rfl (fun h => by cases h) (by decide +kernel) (Nat.le_of_ble_eq_true rfl) ?_
  intro J hJ hE
  show J 0 [(0, .ref h), (1, .int a), (2, .int b), (3, .int c)] [] [mO h q ab be bl ta tl tk va, (q 0, ia Z 266 (ni A)), (q 3, ia Z 3 (ni Rf))] 0 0
  obtain ⟨hw, ⟨g1, g2, g3, g4, g8⟩, hrs, hrn, hrm, hpst⟩ := id hg
  obtain ⟨⟨w1, w2, w3, w4, w5, w6⟩, wb, wr, wh, wd⟩ := id hw
  have hb := wb
  have hr_a := zI_rng a
  have hr_b := zI_rng b
  have hr_c := zI_rng c
  refine j_aload_n hJ (q := 1) dX9_horse_0 rfl 0 rfl rfl ?_
  refine j_iload_n hJ (q := 2) dX9_horse_1 rfl 1 rfl rfl ?_
  refine j_vR hJ (q := 5) (rest := []) (As := [.int a]) jl_X9_77 (c_X9_isSeat Z h q ab be bl ta tl tk va A a (by omega)) 0 rfl rfl dX9_horse_2 rfl (by decide) (Nat.le_of_ble_eq_true rfl) [0, 1] rfl rfl (fun rv hp => ?_)
  obtain rfl := hp
  show J 5 [(0, .ref h), (1, .int a), (2, .int b), (3, .int c)] [.int (bI (decide (0 ≤ a.toInt ∧ a.toInt ≤ (A 21 : Int) - 1)))] [mO h q ab be bl ta tl tk va, (q 0, ia Z 266 (ni A)), (q 3, ia Z 3 (ni Rf))] 0 0
  refine jp_if_eq hJ (q := 8) (tgt := 22) dX9_horse_5 (by decide) rfl (fun c1 => ?_) (fun c1 => ?_)
  · skip
    refine j_aload_n hJ (q := 23) dX9_horse_22 rfl 0 rfl rfl ?_
    refine j_bipush hJ (q := 25) dX9_horse_23 rfl kb_m2 ?_
    refine j_vW hJ (q := 28) (rest := []) (As := [.int (zI (-2))]) (wr := [(q 0, ia Z 266 (ni A))]) jl_X9_73 (c_X9_bad Z h q ab be bl ta tl tk va Rf (-2) ) 0 rfl rfl dX9_horse_25 rfl (by decide) (Nat.le_of_ble_eq_true rfl) [0, 2] [1] rfl rfl rfl rfl (by decide) rfl (fun rv wv hp => ?_)
    obtain ⟨rfl, rfl⟩ := hp
    refine j_world hJ (ws' := [mO h q ab be bl ta tl tk va, (q 0, ia Z 266 (ni A)), (q 3, ia Z 3 (ni (va_up Rf 0 (Rf 0 + 1))))]) [1, 0, 2] rfl rfl ?_
    show J 28 [(0, .ref h), (1, .int a), (2, .int b), (3, .int c)] [.int (zI (-2))] [mO h q ab be bl ta tl tk va, (q 0, ia Z 266 (ni A)), (q 3, ia Z 3 (ni (va_up Rf 0 (Rf 0 + 1))))] 0 0
    have hP : ¬ (isS A a ∧ rgI 0 5 b ∧ rgI 0 7 c) := by simp only [rgI, isS, isR, pNote, pMark]; omega
    exact hE.1 _ _ _ _ _ _ _ rfl rfl dX9_horse_28 (Nat.le_refl _) (Nat.le_refl _) (⟨congrArg (fun z => some (Value.int (zI z))) (by simp only [z_horse, a_horse, if_neg hP, bmp]), by simp only [z_horse, a_horse, if_neg hP, bmp]⟩)
  · skip
    refine j_iload_n hJ (q := 9) dX9_horse_8 rfl 2 rfl rfl ?_
    refine j_sR hJ (q := 12) (rest := []) (As := [.int b]) jl_X9_80 (c_X9_isKind Z b ) dX9_horse_9 rfl (by decide) (Nat.le_of_ble_eq_true rfl) [] rfl rfl (fun rv hp => ?_)
    obtain rfl := hp
    show J 12 [(0, .ref h), (1, .int a), (2, .int b), (3, .int c)] [.int (bI (decide (0 ≤ b.toInt ∧ b.toInt ≤ 5)))] [mO h q ab be bl ta tl tk va, (q 0, ia Z 266 (ni A)), (q 3, ia Z 3 (ni Rf))] 0 0
    refine jp_if_eq hJ (q := 15) (tgt := 22) dX9_horse_12 (by decide) rfl (fun c2 => ?_) (fun c2 => ?_)
    · skip
      refine j_aload_n hJ (q := 23) dX9_horse_22 rfl 0 rfl rfl ?_
      refine j_bipush hJ (q := 25) dX9_horse_23 rfl kb_m2 ?_
      refine j_vW hJ (q := 28) (rest := []) (As := [.int (zI (-2))]) (wr := [(q 0, ia Z 266 (ni A))]) jl_X9_73 (c_X9_bad Z h q ab be bl ta tl tk va Rf (-2) ) 0 rfl rfl dX9_horse_25 rfl (by decide) (Nat.le_of_ble_eq_true rfl) [0, 2] [1] rfl rfl rfl rfl (by decide) rfl (fun rv wv hp => ?_)
      obtain ⟨rfl, rfl⟩ := hp
      refine j_world hJ (ws' := [mO h q ab be bl ta tl tk va, (q 0, ia Z 266 (ni A)), (q 3, ia Z 3 (ni (va_up Rf 0 (Rf 0 + 1))))]) [1, 0, 2] rfl rfl ?_
      show J 28 [(0, .ref h), (1, .int a), (2, .int b), (3, .int c)] [.int (zI (-2))] [mO h q ab be bl ta tl tk va, (q 0, ia Z 266 (ni A)), (q 3, ia Z 3 (ni (va_up Rf 0 (Rf 0 + 1))))] 0 0
      have hP : ¬ (isS A a ∧ rgI 0 5 b ∧ rgI 0 7 c) := by simp only [rgI, isS, isR, pNote, pMark]; omega
      exact hE.1 _ _ _ _ _ _ _ rfl rfl dX9_horse_28 (Nat.le_refl _) (Nat.le_refl _) (⟨congrArg (fun z => some (Value.int (zI z))) (by simp only [z_horse, a_horse, if_neg hP, bmp]), by simp only [z_horse, a_horse, if_neg hP, bmp]⟩)
    · skip
      refine j_iload_n hJ (q := 16) dX9_horse_15 rfl 3 rfl rfl ?_
      refine j_sR hJ (q := 19) (rest := []) (As := [.int c]) jl_X9_83 (c_X9_isPhase Z c ) dX9_horse_16 rfl (by decide) (Nat.le_of_ble_eq_true rfl) [] rfl rfl (fun rv hp => ?_)
      obtain rfl := hp
      show J 19 [(0, .ref h), (1, .int a), (2, .int b), (3, .int c)] [.int (bI (decide (0 ≤ c.toInt ∧ c.toInt ≤ 7)))] [mO h q ab be bl ta tl tk va, (q 0, ia Z 266 (ni A)), (q 3, ia Z 3 (ni Rf))] 0 0
      refine jp_if_ne hJ (q := 22) (tgt := 29) dX9_horse_19 (by decide) rfl (fun c3 => ?_) (fun c3 => ?_)
      · skip
        have hn_a := nt_cast (x := a) (by omega)
        refine j_eql (lvs' := [(0, .ref h), (1, .int (nI (nt a))), (2, .int b), (3, .int c)]) (by rw [← nt_eq (x := a) (by omega)]) ?_
        have hn_b := nt_cast (x := b) (by omega)
        refine j_eql (lvs' := [(0, .ref h), (1, .int (nI (nt a))), (2, .int (nI (nt b))), (3, .int c)]) (by rw [← nt_eq (x := b) (by omega)]) ?_
        have hn_c := nt_cast (x := c) (by omega)
        refine j_eql (lvs' := [(0, .ref h), (1, .int (nI (nt a))), (2, .int (nI (nt b))), (3, .int (nI (nt c)))]) (by rw [← nt_eq (x := c) (by omega)]) ?_
        refine j_aload_n hJ (q := 30) dX9_horse_29 rfl 0 rfl rfl ?_
        refine j_get hJ (q := 33) jf_X9_7 dX9_horse_30 0 rfl rfl rfl ?_
        refine j_bipush hJ (q := 35) dX9_horse_33 rfl kb_34 ?_
        refine j_iload_n hJ (q := 36) dX9_horse_35 rfl 1 rfl rfl ?_
        refine j_iadd hJ (q := 37) dX9_horse_36 rfl (nI_add _ _) ?_
        refine j_ialdN hJ (q := 38) (z := nI (A (34 + (nt a)))) dX9_horse_37 1 rfl (by omega) (by decide) rfl rfl ?_
        refine j_istore hJ (q := 40) (lvs' := [(4, .int (nI (A (34 + (nt a))))), (0, .ref h), (1, .int (nI (nt a))), (2, .int (nI (nt b))), (3, .int (nI (nt c)))]) dX9_horse_38 (by decide) rfl rfl ?_
        refine j_aload_n hJ (q := 41) dX9_horse_40 rfl 1 rfl rfl ?_
        refine j_get hJ (q := 44) jf_X9_7 dX9_horse_41 0 rfl rfl rfl ?_
        refine j_bipush hJ (q := 46) dX9_horse_44 rfl kb_34 ?_
        refine j_iload_n hJ (q := 47) dX9_horse_46 rfl 2 rfl rfl ?_
        refine j_iadd hJ (q := 48) dX9_horse_47 rfl (nI_add _ _) ?_
        refine j_iload_n hJ (q := 49) dX9_horse_48 rfl 3 rfl rfl ?_
        refine j_iastN hJ (q := 50) (ws' := [mO h q ab be bl ta tl tk va, (q 0, ia Z 266 (ni (va_up A (34 + (nt a)) (nt b)))), (q 3, ia Z 3 (ni Rf))]) dX9_horse_49 1 rfl (by omega) (by decide) (ni_up _ _ _) rfl rfl ?_
        refine j_aload_n hJ (q := 51) dX9_horse_50 rfl 1 rfl rfl ?_
        refine j_get hJ (q := 54) jf_X9_7 dX9_horse_51 0 rfl rfl rfl ?_
        refine j_bipush hJ (q := 56) dX9_horse_54 rfl kb_46 ?_
        refine j_iload_n hJ (q := 57) dX9_horse_56 rfl 2 rfl rfl ?_
        refine j_iadd hJ (q := 58) dX9_horse_57 rfl (nI_add _ _) ?_
        refine j_iload_n hJ (q := 59) dX9_horse_58 rfl 4 rfl rfl ?_
        refine j_iastN hJ (q := 60) (ws' := [mO h q ab be bl ta tl tk va, (q 0, ia Z 266 (ni (va_up (va_up A (34 + (nt a)) (nt b)) (46 + (nt a)) (nt c)))), (q 3, ia Z 3 (ni Rf))]) dX9_horse_59 1 rfl (by omega) (by decide) (ni_up _ _ _) rfl rfl ?_
        refine j_aload_n hJ (q := 61) dX9_horse_60 rfl 1 rfl rfl ?_
        refine j_get hJ (q := 64) jf_X9_7 dX9_horse_61 0 rfl rfl rfl ?_
        refine j_iconst hJ (q := 65) dX9_horse_64 rfl ki_4 ?_
        refine j_iconst hJ (q := 66) dX9_horse_65 rfl ki_0 ?_
        refine j_iastN hJ (q := 67) (ws' := [mO h q ab be bl ta tl tk va, (q 0, ia Z 266 (ni (va_up (va_up (va_up A (34 + (nt a)) (nt b)) (46 + (nt a)) (nt c)) 4 0))), (q 3, ia Z 3 (ni Rf))]) dX9_horse_66 1 rfl (by decide) (by decide) (ni_up _ _ _) rfl rfl ?_
        refine j_iload hJ (q := 69) dX9_horse_67 0 rfl rfl ?_
        have hP : isS A a ∧ rgI 0 5 b ∧ rgI 0 7 c := by simp only [rgI, isS, isR, pNote, pMark]; omega
        exact hE.1 _ _ _ _ _ _ _ rfl rfl dX9_horse_69 (Nat.le_refl _) (Nat.le_refl _) (⟨congrArg (fun z => some (Value.int z)) ((zI_nat _).symm.trans (congrArg zI (by simp only [z_horse, a_horse, if_pos hP, bmp]))), by simp only [z_horse, a_horse, if_pos hP, bmp]⟩)
      · skip
        refine j_aload_n hJ (q := 23) dX9_horse_22 rfl 0 rfl rfl ?_
        refine j_bipush hJ (q := 25) dX9_horse_23 rfl kb_m2 ?_
        refine j_vW hJ (q := 28) (rest := []) (As := [.int (zI (-2))]) (wr := [(q 0, ia Z 266 (ni A))]) jl_X9_73 (c_X9_bad Z h q ab be bl ta tl tk va Rf (-2) ) 0 rfl rfl dX9_horse_25 rfl (by decide) (Nat.le_of_ble_eq_true rfl) [0, 2] [1] rfl rfl rfl rfl (by decide) rfl (fun rv wv hp => ?_)
        obtain ⟨rfl, rfl⟩ := hp
        refine j_world hJ (ws' := [mO h q ab be bl ta tl tk va, (q 0, ia Z 266 (ni A)), (q 3, ia Z 3 (ni (va_up Rf 0 (Rf 0 + 1))))]) [1, 0, 2] rfl rfl ?_
        show J 28 [(0, .ref h), (1, .int a), (2, .int b), (3, .int c)] [.int (zI (-2))] [mO h q ab be bl ta tl tk va, (q 0, ia Z 266 (ni A)), (q 3, ia Z 3 (ni (va_up Rf 0 (Rf 0 + 1))))] 0 0
        have hP : ¬ (isS A a ∧ rgI 0 5 b ∧ rgI 0 7 c) := by simp only [rgI, isS, isR, pNote, pMark]; omega
        exact hE.1 _ _ _ _ _ _ _ rfl rfl dX9_horse_28 (Nat.le_refl _) (Nat.le_refl _) (⟨congrArg (fun z => some (Value.int (zI z))) (by simp only [z_horse, a_horse, if_neg hP, bmp]), by simp only [z_horse, a_horse, if_neg hP, bmp]⟩)

set_option maxHeartbeats 4000000 in
set_option maxRecDepth 100000 in
theorem c_X9_rider (Z : jZ) (h : Nat) (q : Nat → Nat) (ab : Int) (be : Int) (bl : Nat) (ta : Nat) (tl : Nat) (tk : Nat) (va : Nat) (A : Nat → Nat) (Rf : Nat → Nat) (a : Int32) (b : Int32) (c : Int32) (hg : wg A) : CT Z yX9_rider cX9_rider 4 ((some FieldType.int)) 3 0 0 [.ref h, .int a, .int b, .int c] [mO h q ab be bl ta tl tk va, (q 0, ia Z 266 (ni A)), (q 3, ia Z 3 (ni Rf))] (fun rr ww => rr = some (.int (zI (z_rider A a b c))) ∧ ww = [mO h q ab be bl ta tl tk va, (q 0, ia Z 266 (ni (a_rider A a b c))), (q 3, ia Z 3 (ni (r_rider A Rf a b c)))]) := by
  refine CT.of RX9 false rfl (fun h => by cases h) (by decide +kernel) (Nat.le_of_ble_eq_true rfl) ?_
  intro J hJ hE
  show J 0 [(0, .ref h), (1, .int a), (2, .int b), (3, .int c)] [] [mO h q ab be bl ta tl tk va, (q 0, ia Z 266 (ni A)), (q 3, ia Z 3 (ni Rf))] 0 0
  obtain ⟨hw, ⟨g1, g2, g3, g4, g8⟩, hrs, hrn, hrm, hpst⟩ := id hg
  obtain ⟨⟨w1, w2, w3, w4, w5, w6⟩, wb, wr, wh, wd⟩ := id hw
  have hb := wb
  have hr_a := zI_rng a
  have hr_b := zI_rng b
  have hr_c := zI_rng c
  refine j_iload_n hJ (q := 1) dX9_rider_0 rfl 1 rfl rfl ?_
  refine j_sR hJ (q := 4) (rest := []) (As := [.int a]) jl_X9_80 (c_X9_isKind Z a ) dX9_rider_1 rfl (by decide) (Nat.le_of_ble_eq_true rfl) [] rfl rfl (fun rv hp => ?_)
  obtain rfl := hp
  show J 4 [(0, .ref h), (1, .int a), (2, .int b), (3, .int c)] [.int (bI (decide (0 ≤ a.toInt ∧ a.toInt ≤ 5)))] [mO h q ab be bl ta tl tk va, (q 0, ia Z 266 (ni A)), (q 3, ia Z 3 (ni Rf))] 0 0
  refine jp_if_eq hJ (q := 7) (tgt := 22) dX9_rider_4 (by decide) rfl (fun c1 => ?_) (fun c1 => ?_)
  · skip
    refine j_aload_n hJ (q := 23) dX9_rider_22 rfl 0 rfl rfl ?_
    refine j_bipush hJ (q := 25) dX9_rider_23 rfl kb_m2 ?_
    refine j_vW hJ (q := 28) (rest := []) (As := [.int (zI (-2))]) (wr := [(q 0, ia Z 266 (ni A))]) jl_X9_73 (c_X9_bad Z h q ab be bl ta tl tk va Rf (-2) ) 0 rfl rfl dX9_rider_25 rfl (by decide) (Nat.le_of_ble_eq_true rfl) [0, 2] [1] rfl rfl rfl rfl (by decide) rfl (fun rv wv hp => ?_)
    obtain ⟨rfl, rfl⟩ := hp
    refine j_world hJ (ws' := [mO h q ab be bl ta tl tk va, (q 0, ia Z 266 (ni A)), (q 3, ia Z 3 (ni (va_up Rf 0 (Rf 0 + 1))))]) [1, 0, 2] rfl rfl ?_
    show J 28 [(0, .ref h), (1, .int a), (2, .int b), (3, .int c)] [.int (zI (-2))] [mO h q ab be bl ta tl tk va, (q 0, ia Z 266 (ni A)), (q 3, ia Z 3 (ni (va_up Rf 0 (Rf 0 + 1))))] 0 0
    have hP : ¬ (rgI 0 5 a ∧ rgI 1 9 b ∧ isS A c) := by simp only [rgI, isS, isR, pNote, pMark]; omega
    exact hE.1 _ _ _ _ _ _ _ rfl rfl dX9_rider_28 (Nat.le_refl _) (Nat.le_refl _) (⟨congrArg (fun z => some (Value.int (zI z))) (by simp only [z_rider, a_rider, r_rider, if_neg hP, bmp]), by simp only [z_rider, a_rider, r_rider, if_neg hP, bmp]⟩)
  · skip
    refine j_iload_n hJ (q := 8) dX9_rider_7 rfl 2 rfl rfl ?_
    refine j_sR hJ (q := 11) (rest := []) (As := [.int b]) jl_X9_86 (c_X9_isArm Z b ) dX9_rider_8 rfl (by decide) (Nat.le_of_ble_eq_true rfl) [] rfl rfl (fun rv hp => ?_)
    obtain rfl := hp
    show J 11 [(0, .ref h), (1, .int a), (2, .int b), (3, .int c)] [.int (bI (decide (1 ≤ b.toInt ∧ b.toInt ≤ 9)))] [mO h q ab be bl ta tl tk va, (q 0, ia Z 266 (ni A)), (q 3, ia Z 3 (ni Rf))] 0 0
    refine jp_if_eq hJ (q := 14) (tgt := 22) dX9_rider_11 (by decide) rfl (fun c2 => ?_) (fun c2 => ?_)
    · skip
      refine j_aload_n hJ (q := 23) dX9_rider_22 rfl 0 rfl rfl ?_
      refine j_bipush hJ (q := 25) dX9_rider_23 rfl kb_m2 ?_
      refine j_vW hJ (q := 28) (rest := []) (As := [.int (zI (-2))]) (wr := [(q 0, ia Z 266 (ni A))]) jl_X9_73 (c_X9_bad Z h q ab be bl ta tl tk va Rf (-2) ) 0 rfl rfl dX9_rider_25 rfl (by decide) (Nat.le_of_ble_eq_true rfl) [0, 2] [1] rfl rfl rfl rfl (by decide) rfl (fun rv wv hp => ?_)
      obtain ⟨rfl, rfl⟩ := hp
      refine j_world hJ (ws' := [mO h q ab be bl ta tl tk va, (q 0, ia Z 266 (ni A)), (q 3, ia Z 3 (ni (va_up Rf 0 (Rf 0 + 1))))]) [1, 0, 2] rfl rfl ?_
      show J 28 [(0, .ref h), (1, .int a), (2, .int b), (3, .int c)] [.int (zI (-2))] [mO h q ab be bl ta tl tk va, (q 0, ia Z 266 (ni A)), (q 3, ia Z 3 (ni (va_up Rf 0 (Rf 0 + 1))))] 0 0
      have hP : ¬ (rgI 0 5 a ∧ rgI 1 9 b ∧ isS A c) := by simp only [rgI, isS, isR, pNote, pMark]; omega
      exact hE.1 _ _ _ _ _ _ _ rfl rfl dX9_rider_28 (Nat.le_refl _) (Nat.le_refl _) (⟨congrArg (fun z => some (Value.int (zI z))) (by simp only [z_rider, a_rider, r_rider, if_neg hP, bmp]), by simp only [z_rider, a_rider, r_rider, if_neg hP, bmp]⟩)
    · skip
      refine j_aload_n hJ (q := 15) dX9_rider_14 rfl 0 rfl rfl ?_
      refine j_iload_n hJ (q := 16) dX9_rider_15 rfl 3 rfl rfl ?_
      refine j_vR hJ (q := 19) (rest := []) (As := [.int c]) jl_X9_77 (c_X9_isSeat Z h q ab be bl ta tl tk va A c (by omega)) 0 rfl rfl dX9_rider_16 rfl (by decide) (Nat.le_of_ble_eq_true rfl) [0, 1] rfl rfl (fun rv hp => ?_)
      obtain rfl := hp
      show J 19 [(0, .ref h), (1, .int a), (2, .int b), (3, .int c)] [.int (bI (decide (0 ≤ c.toInt ∧ c.toInt ≤ (A 21 : Int) - 1)))] [mO h q ab be bl ta tl tk va, (q 0, ia Z 266 (ni A)), (q 3, ia Z 3 (ni Rf))] 0 0
      refine jp_if_ne hJ (q := 22) (tgt := 29) dX9_rider_19 (by decide) rfl (fun c3 => ?_) (fun c3 => ?_)
      · skip
        have hn_a := nt_cast (x := a) (by omega)
        refine j_eql (lvs' := [(0, .ref h), (1, .int (nI (nt a))), (2, .int b), (3, .int c)]) (by rw [← nt_eq (x := a) (by omega)]) ?_
        have hn_b := nt_cast (x := b) (by omega)
        refine j_eql (lvs' := [(0, .ref h), (1, .int (nI (nt a))), (2, .int (nI (nt b))), (3, .int c)]) (by rw [← nt_eq (x := b) (by omega)]) ?_
        have hn_c := nt_cast (x := c) (by omega)
        refine j_eql (lvs' := [(0, .ref h), (1, .int (nI (nt a))), (2, .int (nI (nt b))), (3, .int (nI (nt c)))]) (by rw [← nt_eq (x := c) (by omega)]) ?_
        refine j_aload_n hJ (q := 30) dX9_rider_29 rfl 0 rfl rfl ?_
        refine j_get hJ (q := 33) jf_X9_7 dX9_rider_30 0 rfl rfl rfl ?_
        refine j_iload_n hJ (q := 34) dX9_rider_33 rfl 3 rfl rfl ?_
        refine j_sR hJ (q := 37) (rest := []) (As := [.ref (q 0), .int (nI (nt c))]) jl_X9_89 (c_X9_whoIs Z (q 0) 266 A (nt c) (by omega) (by omega) (by omega) hb) dX9_rider_34 rfl (by decide) (Nat.le_of_ble_eq_true rfl) [1] rfl rfl (fun rv hp => ?_)
        obtain rfl := hp
        show J 37 [(0, .ref h), (1, .int (nI (nt a))), (2, .int (nI (nt b))), (3, .int (nI (nt c)))] [.int (oI (who A (nt c)))] [mO h q ab be bl ta tl tk va, (q 0, ia Z 266 (ni A)), (q 3, ia Z 3 (ni Rf))] 0 0
        refine j_caseo (fun o4 => ?_) (fun i5 o4 => ?_)
        · skip
          refine j_iconst hJ (q := 38) dX9_rider_37 rfl ki_m1 ?_
          refine jz_icmp_eq hJ (q := 41) (tgt := 46) dX9_rider_38 (by decide) rfl rfl rfl (by omega) (by omega) (fun c6 => ?_) (fun c6 => ?_)
          · skip
            refine j_aload_n hJ (q := 47) dX9_rider_46 rfl 0 rfl rfl ?_
            refine j_vR hJ (q := 50) (rest := []) (As := []) jl_X9_49 (c_X9_many Z h q ab be bl ta tl tk va A ) 0 rfl rfl dX9_rider_47 rfl (by decide) (Nat.le_of_ble_eq_true rfl) [0, 1] rfl rfl (fun rv hp => ?_)
            obtain rfl := hp
            show J 50 [(0, .ref h), (1, .int (nI (nt a))), (2, .int (nI (nt b))), (3, .int (nI (nt c)))] [.int (nI (A 0))] [mO h q ab be bl ta tl tk va, (q 0, ia Z 266 (ni A)), (q 3, ia Z 3 (ni Rf))] 0 0
            refine j_bipush hJ (q := 52) dX9_rider_50 rfl kb_6 ?_
            refine jn_icmp_ne hJ (q := 55) (tgt := 60) dX9_rider_52 (by decide) rfl (by omega) (by omega) (fun c7 => ?_) (fun c7 => ?_)
            · skip
              refine j_aload_n hJ (q := 61) dX9_rider_60 rfl 0 rfl rfl ?_
              refine j_get hJ (q := 64) jf_X9_7 dX9_rider_61 0 rfl rfl rfl ?_
              refine j_iload_n hJ (q := 65) dX9_rider_64 rfl 1 rfl rfl ?_
              refine j_iload_n hJ (q := 66) dX9_rider_65 rfl 2 rfl rfl ?_
              refine j_iload_n hJ (q := 67) dX9_rider_66 rfl 3 rfl rfl ?_
              refine j_sW hJ (q := 70) (rest := []) (As := [.ref (q 0), .int (nI (nt a)), .int (nI (nt b)), .int (nI (nt c))]) (wr := [mO h q ab be bl ta tl tk va, (q 3, ia Z 3 (ni Rf))]) jl_X9_99 (c_X9_layRider Z (q 0) 266 A (nt a) (nt b) (nt c) (by omega) (by omega)) dX9_rider_67 rfl (by decide) (Nat.le_of_ble_eq_true rfl) [1] [0, 2] rfl rfl rfl rfl (by decide) rfl (fun rv wv hp => ?_)
              obtain ⟨rfl, rfl⟩ := hp
              refine j_world hJ (ws' := [mO h q ab be bl ta tl tk va, ((q 0), ia Z 266 (ni (layR A (nt a) (nt b) (nt c)))), (q 3, ia Z 3 (ni Rf))]) [0, 2, 1] rfl rfl ?_
              show J 70 [(0, .ref h), (1, .int (nI (nt a))), (2, .int (nI (nt b))), (3, .int (nI (nt c)))] [] [mO h q ab be bl ta tl tk va, ((q 0), ia Z 266 (ni (layR A (nt a) (nt b) (nt c)))), (q 3, ia Z 3 (ni Rf))] 0 0
              refine j_aload_n hJ (q := 71) dX9_rider_70 rfl 0 rfl rfl ?_
              refine j_get hJ (q := 74) jf_X9_7 dX9_rider_71 0 rfl rfl rfl ?_
              refine j_iconst hJ (q := 75) dX9_rider_74 rfl ki_4 ?_
              refine j_iconst hJ (q := 76) dX9_rider_75 rfl ki_0 ?_
              refine j_iastN hJ (q := 77) (ws' := [mO h q ab be bl ta tl tk va, ((q 0), ia Z 266 (ni (va_up (layR A (nt a) (nt b) (nt c)) 4 0))), (q 3, ia Z 3 (ni Rf))]) dX9_rider_76 1 rfl (by decide) (by decide) (ni_up _ _ _) rfl rfl ?_
              have hl0 : va_up (layR A (nt a) (nt b) (nt c)) 4 0 0 = A 0 + 1 := by simp only [va_up]; rw [if_neg (by decide)]; exact (layR_at (by omega)).1
              refine j_aload_n hJ (q := 78) dX9_rider_77 rfl 0 rfl rfl ?_
              refine j_vR hJ (q := 81) (rest := []) (As := []) jl_X9_49 (c_X9_many Z h q ab be bl ta tl tk va (va_up (layR A (nt a) (nt b) (nt c)) 4 0) ) 0 rfl rfl dX9_rider_78 rfl (by decide) (Nat.le_of_ble_eq_true rfl) [0, 1] rfl rfl (fun rv hp => ?_)
              obtain rfl := hp
              show J 81 [(0, .ref h), (1, .int (nI (nt a))), (2, .int (nI (nt b))), (3, .int (nI (nt c)))] [.int (nI ((va_up (layR A (nt a) (nt b) (nt c)) 4 0) 0))] [mO h q ab be bl ta tl tk va, ((q 0), ia Z 266 (ni (va_up (layR A (nt a) (nt b) (nt c)) 4 0))), (q 3, ia Z 3 (ni Rf))] 0 0
              refine j_iconst hJ (q := 82) dX9_rider_81 rfl ki_1 ?_
              refine j_isub hJ (q := 83) dX9_rider_82 rfl (pk_sub (by omega)) ?_
              have hP : rgI 0 5 a ∧ rgI 1 9 b ∧ isS A c := by simp only [rgI, isS, isR, pNote, pMark]; omega
              have hQ0 : who A (nt c) = none := o4
              have hQ1 : ¬ (A 0 = 6) := by omega
              exact hE.1 _ _ _ _ _ _ _ rfl rfl dX9_rider_83 (Nat.le_refl _) (Nat.le_refl _) (⟨congrArg (fun z => some (Value.int z)) ((zI_nat _).symm.trans (congrArg zI (by simp only [z_rider, if_pos hP, if_pos hQ0, if_neg hQ1]; omega))), by simp only [z_rider, a_rider, r_rider, if_pos hP, if_pos hQ0, if_neg hQ1, bmp]⟩)
            · skip
              refine j_aload_n hJ (q := 56) dX9_rider_55 rfl 0 rfl rfl ?_
              refine j_vW hJ (q := 59) (rest := []) (As := []) (wr := [(q 0, ia Z 266 (ni A))]) jl_X9_96 (c_X9_full Z h q ab be bl ta tl tk va Rf ) 0 rfl rfl dX9_rider_56 rfl (by decide) (Nat.le_of_ble_eq_true rfl) [0, 2] [1] rfl rfl rfl rfl (by decide) rfl (fun rv wv hp => ?_)
              obtain ⟨rfl, rfl⟩ := hp
              refine j_world hJ (ws' := [mO h q ab be bl ta tl tk va, (q 0, ia Z 266 (ni A)), (q 3, ia Z 3 (ni (va_up Rf 2 (Rf 2 + 1))))]) [1, 0, 2] rfl rfl ?_
              show J 59 [(0, .ref h), (1, .int (nI (nt a))), (2, .int (nI (nt b))), (3, .int (nI (nt c)))] [.int (zI (-4))] [mO h q ab be bl ta tl tk va, (q 0, ia Z 266 (ni A)), (q 3, ia Z 3 (ni (va_up Rf 2 (Rf 2 + 1))))] 0 0
              have hP : rgI 0 5 a ∧ rgI 1 9 b ∧ isS A c := by simp only [rgI, isS, isR, pNote, pMark]; omega
              have hQ0 : who A (nt c) = none := o4
              have hQ1 : A 0 = 6 := by omega
              exact hE.1 _ _ _ _ _ _ _ rfl rfl dX9_rider_59 (Nat.le_refl _) (Nat.le_refl _) (⟨congrArg (fun z => some (Value.int (zI z))) (by simp only [z_rider, a_rider, r_rider, if_pos hP, if_pos hQ0, if_pos hQ1, bmp]), by simp only [z_rider, a_rider, r_rider, if_pos hP, if_pos hQ0, if_pos hQ1, bmp]⟩)
          · skip
            exfalso; omega
        · skip
          have hwi := who_some o4
          refine j_iconst hJ (q := 38) dX9_rider_37 rfl ki_m1 ?_
          refine jz_icmp_eq hJ (q := 41) (tgt := 46) dX9_rider_38 (by decide) rfl (zI_nat i5).symm rfl (by omega) (by omega) (fun c8 => ?_) (fun c8 => ?_)
          · skip
            exfalso; omega
          · skip
            refine j_aload_n hJ (q := 42) dX9_rider_41 rfl 0 rfl rfl ?_
            refine j_vW hJ (q := 45) (rest := []) (As := []) (wr := [(q 0, ia Z 266 (ni A))]) jl_X9_93 (c_X9_no Z h q ab be bl ta tl tk va Rf ) 0 rfl rfl dX9_rider_42 rfl (by decide) (Nat.le_of_ble_eq_true rfl) [0, 2] [1] rfl rfl rfl rfl (by decide) rfl (fun rv wv hp => ?_)
            obtain ⟨rfl, rfl⟩ := hp
            refine j_world hJ (ws' := [mO h q ab be bl ta tl tk va, (q 0, ia Z 266 (ni A)), (q 3, ia Z 3 (ni (va_up Rf 1 (Rf 1 + 1))))]) [1, 0, 2] rfl rfl ?_
            show J 45 [(0, .ref h), (1, .int (nI (nt a))), (2, .int (nI (nt b))), (3, .int (nI (nt c)))] [.int (zI (-3))] [mO h q ab be bl ta tl tk va, (q 0, ia Z 266 (ni A)), (q 3, ia Z 3 (ni (va_up Rf 1 (Rf 1 + 1))))] 0 0
            have hP : rgI 0 5 a ∧ rgI 1 9 b ∧ isS A c := by simp only [rgI, isS, isR, pNote, pMark]; omega
            have hQ0 : ¬ (who A (nt c) = none) := by rw [o4]; exact fun z => by cases z
            exact hE.1 _ _ _ _ _ _ _ rfl rfl dX9_rider_45 (Nat.le_refl _) (Nat.le_refl _) (⟨congrArg (fun z => some (Value.int (zI z))) (by simp only [z_rider, a_rider, r_rider, if_pos hP, if_neg hQ0, bmp]), by simp only [z_rider, a_rider, r_rider, if_pos hP, if_neg hQ0, bmp]⟩)
      · skip
        refine j_aload_n hJ (q := 23) dX9_rider_22 rfl 0 rfl rfl ?_
        refine j_bipush hJ (q := 25) dX9_rider_23 rfl kb_m2 ?_
        refine j_vW hJ (q := 28) (rest := []) (As := [.int (zI (-2))]) (wr := [(q 0, ia Z 266 (ni A))]) jl_X9_73 (c_X9_bad Z h q ab be bl ta tl tk va Rf (-2) ) 0 rfl rfl dX9_rider_25 rfl (by decide) (Nat.le_of_ble_eq_true rfl) [0, 2] [1] rfl rfl rfl rfl (by decide) rfl (fun rv wv hp => ?_)
        obtain ⟨rfl, rfl⟩ := hp
        refine j_world hJ (ws' := [mO h q ab be bl ta tl tk va, (q 0, ia Z 266 (ni A)), (q 3, ia Z 3 (ni (va_up Rf 0 (Rf 0 + 1))))]) [1, 0, 2] rfl rfl ?_
        show J 28 [(0, .ref h), (1, .int a), (2, .int b), (3, .int c)] [.int (zI (-2))] [mO h q ab be bl ta tl tk va, (q 0, ia Z 266 (ni A)), (q 3, ia Z 3 (ni (va_up Rf 0 (Rf 0 + 1))))] 0 0
        have hP : ¬ (rgI 0 5 a ∧ rgI 1 9 b ∧ isS A c) := by simp only [rgI, isS, isR, pNote, pMark]; omega
        exact hE.1 _ _ _ _ _ _ _ rfl rfl dX9_rider_28 (Nat.le_refl _) (Nat.le_refl _) (⟨congrArg (fun z => some (Value.int (zI z))) (by simp only [z_rider, a_rider, r_rider, if_neg hP, bmp]), by simp only [z_rider, a_rider, r_rider, if_neg hP, bmp]⟩)

set_option maxHeartbeats 4000000 in
set_option maxRecDepth 100000 in
theorem c_X9_ticks (Z : jZ) (h : Nat) (q : Nat → Nat) (ab : Int) (be : Int) (bl : Nat) (ta : Nat) (tl : Nat) (tk : Nat) (va : Nat) (A : Nat → Nat) (Rf : Nat → Nat) (a : Int32) (hg : wg A) : CT Z yX9_ticks cX9_ticks 2 ((some FieldType.int)) 6 0 0 [.ref h, .int a] [mO h q ab be bl ta tl tk va, (q 0, ia Z 266 (ni A)), (q 3, ia Z 3 (ni Rf))] (fun rr ww => rr = some (.int (zI (z_ticks A a))) ∧ ww = [mO h q ab be bl ta tl tk va, (q 0, ia Z 266 (ni (a_ticks A a))), (q 3, ia Z 3 (ni (if rgI 1 60 a then Rf else bmp Rf 0)))]) := by
  refine CT.of RX9 false rfl (fun h => by cases h) (by decide +kernel) (Nat.le_of_ble_eq_true rfl) ?_
  intro J hJ hE
  show J 0 [(0, .ref h), (1, .int a)] [] [mO h q ab be bl ta tl tk va, (q 0, ia Z 266 (ni A)), (q 3, ia Z 3 (ni Rf))] 0 0
  obtain ⟨hw, ⟨g1, g2, g3, g4, g8⟩, hrs, hrn, hrm, hpst⟩ := id hg
  obtain ⟨⟨w1, w2, w3, w4, w5, w6⟩, wb, wr, wh, wd⟩ := id hw
  have hb := wb
  have hr_a := zI_rng a
  refine j_iload_n hJ (q := 1) dX9_ticks_0 rfl 1 rfl rfl ?_
  refine j_i2l hJ (q := 2) dX9_ticks_1 rfl (zL_i _ (zI_of a) (zI_rng a)) ?_
  refine j_lconst hJ (q := 3) (v := zL 1) dX9_ticks_2 rfl rfl ?_
  refine j_ldc2 hJ (q := 6) (v' := zL 60) dX9_ticks_3 tm_898 rfl rfl ?_
  refine j_sR hJ (q := 9) (rest := []) (As := [.long (zL a.toInt), .long (zL 1), .long (zL 60)]) jl_X9_53 (c_X9_in Z a.toInt 1 60 (by omega) (by omega) (by omega)) dX9_ticks_6 rfl (by decide) (Nat.le_of_ble_eq_true rfl) [] rfl rfl (fun rv hp => ?_)
  obtain rfl := hp
  show J 9 [(0, .ref h), (1, .int a)] [.int (bI (decide (1 ≤ a.toInt ∧ a.toInt ≤ 60)))] [mO h q ab be bl ta tl tk va, (q 0, ia Z 266 (ni A)), (q 3, ia Z 3 (ni Rf))] 0 0
  refine jp_if_ne hJ (q := 12) (tgt := 19) dX9_ticks_9 (by decide) rfl (fun c1 => ?_) (fun c1 => ?_)
  · skip
    have hn_a := nt_cast (x := a) (by omega)
    refine j_eql (lvs' := [(0, .ref h), (1, .int (nI (nt a)))]) (by rw [← nt_eq (x := a) (by omega)]) ?_
    refine j_aload_n hJ (q := 20) dX9_ticks_19 rfl 0 rfl rfl ?_
    refine j_vW hJ (q := 23) (rest := []) (As := []) (wr := [(q 3, ia Z 3 (ni Rf))]) jl_X9_122 (c_X9_save Z h q ab be bl ta tl tk va A (by omega) (by omega)) 0 rfl rfl dX9_ticks_20 rfl (by decide) (Nat.le_of_ble_eq_true rfl) [0, 1] [2] rfl rfl rfl rfl (by decide) rfl (fun rv wv hp => ?_)
    obtain ⟨rfl, rfl⟩ := hp
    refine j_world hJ (ws' := [mO h q ab be bl ta tl tk va, (q 0, ia Z 266 (ni (saved A))), (q 3, ia Z 3 (ni Rf))]) [1, 2, 0] rfl rfl ?_
    show J 23 [(0, .ref h), (1, .int (nI (nt a)))] [] [mO h q ab be bl ta tl tk va, (q 0, ia Z 266 (ni (saved A))), (q 3, ia Z 3 (ni Rf))] 0 0
    refine j_aload_n hJ (q := 24) dX9_ticks_23 rfl 0 rfl rfl ?_
    refine j_get hJ (q := 27) jf_X9_7 dX9_ticks_24 0 rfl rfl rfl ?_
    refine j_iload_n hJ (q := 28) dX9_ticks_27 rfl 1 rfl rfl ?_
    refine j_sW hJ (q := 31) (rest := []) (As := [.ref (q 0), .int (nI (nt a))]) (wr := [mO h q ab be bl ta tl tk va, (q 3, ia Z 3 (ni Rf))]) jl_X9_125 (c_X9_goTicks Z (q 0) 266 (saved A) (nt a) (by omega) (wf_saved hw g4) (by omega)) dX9_ticks_28 rfl (by decide) (Nat.le_of_ble_eq_true rfl) [1] [0, 2] rfl rfl rfl rfl (by decide) rfl (fun rv wv hp => ?_)
    obtain ⟨rfl, rfl⟩ := hp
    refine j_world hJ (ws' := [mO h q ab be bl ta tl tk va, ((q 0), ia Z 266 (ni (goN (nt a) (saved A)))), (q 3, ia Z 3 (ni Rf))]) [0, 2, 1] rfl rfl ?_
    show J 31 [(0, .ref h), (1, .int (nI (nt a)))] [] [mO h q ab be bl ta tl tk va, ((q 0), ia Z 266 (ni (goN (nt a) (saved A)))), (q 3, ia Z 3 (ni Rf))] 0 0
    refine j_aload_n hJ (q := 32) dX9_ticks_31 rfl 0 rfl rfl ?_
    refine j_get hJ (q := 35) jf_X9_7 dX9_ticks_32 0 rfl rfl rfl ?_
    refine j_iconst hJ (q := 36) dX9_ticks_35 rfl ki_5 ?_
    refine j_ialdN hJ (q := 37) (z := nI ((goN (nt a) (saved A)) 5)) dX9_ticks_36 1 rfl (by decide) (by decide) rfl rfl ?_
    have hP : rgI 1 60 a := by simp only [rgI, isS, isR, pNote, pMark]; omega
    exact hE.1 _ _ _ _ _ _ _ rfl rfl dX9_ticks_37 (Nat.le_refl _) (Nat.le_refl _) (⟨congrArg (fun z => some (Value.int z)) ((zI_nat _).symm.trans (congrArg zI (by simp only [z_ticks, a_ticks, if_pos hP, bmp]))), by simp only [z_ticks, a_ticks, if_pos hP, bmp]⟩)
  · skip
    refine j_aload_n hJ (q := 13) dX9_ticks_12 rfl 0 rfl rfl ?_
    refine j_bipush hJ (q := 15) dX9_ticks_13 rfl kb_m2 ?_
    refine j_vW hJ (q := 18) (rest := []) (As := [.int (zI (-2))]) (wr := [(q 0, ia Z 266 (ni A))]) jl_X9_73 (c_X9_bad Z h q ab be bl ta tl tk va Rf (-2) ) 0 rfl rfl dX9_ticks_15 rfl (by decide) (Nat.le_of_ble_eq_true rfl) [0, 2] [1] rfl rfl rfl rfl (by decide) rfl (fun rv wv hp => ?_)
    obtain ⟨rfl, rfl⟩ := hp
    refine j_world hJ (ws' := [mO h q ab be bl ta tl tk va, (q 0, ia Z 266 (ni A)), (q 3, ia Z 3 (ni (va_up Rf 0 (Rf 0 + 1))))]) [1, 0, 2] rfl rfl ?_
    show J 18 [(0, .ref h), (1, .int a)] [.int (zI (-2))] [mO h q ab be bl ta tl tk va, (q 0, ia Z 266 (ni A)), (q 3, ia Z 3 (ni (va_up Rf 0 (Rf 0 + 1))))] 0 0
    have hP : ¬ (rgI 1 60 a) := by simp only [rgI, isS, isR, pNote, pMark]; omega
    exact hE.1 _ _ _ _ _ _ _ rfl rfl dX9_ticks_18 (Nat.le_refl _) (Nat.le_refl _) (⟨congrArg (fun z => some (Value.int (zI z))) (by simp only [z_ticks, a_ticks, if_neg hP, bmp]), by simp only [z_ticks, a_ticks, if_neg hP, bmp]⟩)

set_option maxHeartbeats 4000000 in
set_option maxRecDepth 100000 in
theorem c_X9_speed (Z : jZ) (h : Nat) (q : Nat → Nat) (ab : Int) (be : Int) (bl : Nat) (ta : Nat) (tl : Nat) (tk : Nat) (va : Nat) (A : Nat → Nat) (Rf : Nat → Nat) (a : Int32) (hg : wg A) : CT Z yX9_speed cX9_speed 3 ((some FieldType.int)) 3 0 0 [.ref h, .int a] [mO h q ab be bl ta tl tk va, (q 0, ia Z 266 (ni A)), (q 3, ia Z 3 (ni Rf))] (fun rr ww => rr = some (.int (zI (z_speed A a))) ∧ ww = [mO h q ab be bl ta tl tk va, (q 0, ia Z 266 (ni (a_speed A a))), (q 3, ia Z 3 (ni (r_speed A Rf a)))]) := by
  refine CT.of RX9 false rfl (fun h => by cases h) (by decide +kernel) (Nat.le_of_ble_eq_true rfl) ?_
  intro J hJ hE
  show J 0 [(0, .ref h), (1, .int a)] [] [mO h q ab be bl ta tl tk va, (q 0, ia Z 266 (ni A)), (q 3, ia Z 3 (ni Rf))] 0 0
  obtain ⟨hw, ⟨g1, g2, g3, g4, g8⟩, hrs, hrn, hrm, hpst⟩ := id hg
  obtain ⟨⟨w1, w2, w3, w4, w5, w6⟩, wb, wr, wh, wd⟩ := id hw
  have hb := wb
  have hr_a := zI_rng a
  refine j_iload_n hJ (q := 1) dX9_speed_0 rfl 1 rfl rfl ?_
  refine j_sR hJ (q := 4) (rest := []) (As := [.int a]) jl_X9_69 (c_X9_isSpeed Z a ) dX9_speed_1 rfl (by decide) (Nat.le_of_ble_eq_true rfl) [] rfl rfl (fun rv hp => ?_)
  obtain rfl := hp
  show J 4 [(0, .ref h), (1, .int a)] [.int (bI (decide (0 ≤ a.toInt ∧ a.toInt ≤ 3)))] [mO h q ab be bl ta tl tk va, (q 0, ia Z 266 (ni A)), (q 3, ia Z 3 (ni Rf))] 0 0
  refine jp_if_ne hJ (q := 7) (tgt := 14) dX9_speed_4 (by decide) rfl (fun c1 => ?_) (fun c1 => ?_)
  · skip
    have hn_a := nt_cast (x := a) (by omega)
    refine j_eql (lvs' := [(0, .ref h), (1, .int (nI (nt a)))]) (by rw [← nt_eq (x := a) (by omega)]) ?_
    refine j_aload_n hJ (q := 15) dX9_speed_14 rfl 0 rfl rfl ?_
    refine j_get hJ (q := 18) jf_X9_7 dX9_speed_15 0 rfl rfl rfl ?_
    refine j_bipush hJ (q := 20) dX9_speed_18 rfl kb_6 ?_
    refine j_ialdN hJ (q := 21) (z := nI (A 6)) dX9_speed_20 1 rfl (by decide) (by decide) rfl rfl ?_
    have b2 := hb 6
    refine j_istore_n hJ (q := 22) (lvs' := [(2, .int (nI (A 6))), (0, .ref h), (1, .int (nI (nt a)))]) dX9_speed_21 rfl (by decide) rfl rfl ?_
    refine j_iload_n hJ (q := 23) dX9_speed_22 rfl 0 rfl rfl ?_
    refine j_iload_n hJ (q := 24) dX9_speed_23 rfl 2 rfl rfl ?_
    refine jn_icmp_ne hJ (q := 27) (tgt := 32) dX9_speed_24 (by decide) rfl (by omega) (by omega) (fun c3 => ?_) (fun c3 => ?_)
    · skip
      refine j_aload_n hJ (q := 33) dX9_speed_32 rfl 1 rfl rfl ?_
      refine j_vW hJ (q := 36) (rest := []) (As := []) (wr := [(q 3, ia Z 3 (ni Rf))]) jl_X9_122 (c_X9_save Z h q ab be bl ta tl tk va A (by omega) (by omega)) 0 rfl rfl dX9_speed_33 rfl (by decide) (Nat.le_of_ble_eq_true rfl) [0, 1] [2] rfl rfl rfl rfl (by decide) rfl (fun rv wv hp => ?_)
      obtain ⟨rfl, rfl⟩ := hp
      refine j_world hJ (ws' := [mO h q ab be bl ta tl tk va, (q 0, ia Z 266 (ni (saved A))), (q 3, ia Z 3 (ni Rf))]) [1, 2, 0] rfl rfl ?_
      show J 36 [(2, .int (nI (A 6))), (0, .ref h), (1, .int (nI (nt a)))] [] [mO h q ab be bl ta tl tk va, (q 0, ia Z 266 (ni (saved A))), (q 3, ia Z 3 (ni Rf))] 0 0
      refine j_aload_n hJ (q := 37) dX9_speed_36 rfl 1 rfl rfl ?_
      refine j_get hJ (q := 40) jf_X9_7 dX9_speed_37 0 rfl rfl rfl ?_
      refine j_bipush hJ (q := 42) dX9_speed_40 rfl kb_6 ?_
      refine j_iload_n hJ (q := 43) dX9_speed_42 rfl 2 rfl rfl ?_
      refine j_iastN hJ (q := 44) (ws' := [mO h q ab be bl ta tl tk va, (q 0, ia Z 266 (ni (va_up (saved A) 6 (nt a)))), (q 3, ia Z 3 (ni Rf))]) dX9_speed_43 1 rfl (by decide) (by decide) (ni_up _ _ _) rfl rfl ?_
      refine j_iload_n hJ (q := 45) dX9_speed_44 rfl 0 rfl rfl ?_
      have hP : rgI 0 3 a := by simp only [rgI, isS, isR, pNote, pMark]; omega
      have hQ0 : ¬ (A 6 = nt a) := by omega
      exact hE.1 _ _ _ _ _ _ _ rfl rfl dX9_speed_45 (Nat.le_refl _) (Nat.le_refl _) (⟨congrArg (fun z => some (Value.int z)) ((zI_nat _).symm.trans (congrArg zI (by simp only [z_speed, a_speed, r_speed, if_pos hP, if_neg hQ0, bmp]))), by simp only [z_speed, a_speed, r_speed, if_pos hP, if_neg hQ0, bmp]⟩)
    · skip
      refine j_aload_n hJ (q := 28) dX9_speed_27 rfl 1 rfl rfl ?_
      refine j_vW hJ (q := 31) (rest := []) (As := []) (wr := [(q 0, ia Z 266 (ni A))]) jl_X9_93 (c_X9_no Z h q ab be bl ta tl tk va Rf ) 0 rfl rfl dX9_speed_28 rfl (by decide) (Nat.le_of_ble_eq_true rfl) [0, 2] [1] rfl rfl rfl rfl (by decide) rfl (fun rv wv hp => ?_)
      obtain ⟨rfl, rfl⟩ := hp
      refine j_world hJ (ws' := [mO h q ab be bl ta tl tk va, (q 0, ia Z 266 (ni A)), (q 3, ia Z 3 (ni (va_up Rf 1 (Rf 1 + 1))))]) [1, 0, 2] rfl rfl ?_
      show J 31 [(2, .int (nI (A 6))), (0, .ref h), (1, .int (nI (nt a)))] [.int (zI (-3))] [mO h q ab be bl ta tl tk va, (q 0, ia Z 266 (ni A)), (q 3, ia Z 3 (ni (va_up Rf 1 (Rf 1 + 1))))] 0 0
      have hP : rgI 0 3 a := by simp only [rgI, isS, isR, pNote, pMark]; omega
      have hQ0 : A 6 = nt a := by omega
      exact hE.1 _ _ _ _ _ _ _ rfl rfl dX9_speed_31 (Nat.le_refl _) (Nat.le_refl _) (⟨congrArg (fun z => some (Value.int (zI z))) (by simp only [z_speed, a_speed, r_speed, if_pos hP, if_pos hQ0, bmp]), by simp only [z_speed, a_speed, r_speed, if_pos hP, if_pos hQ0, bmp]⟩)
  · skip
    refine j_aload_n hJ (q := 8) dX9_speed_7 rfl 0 rfl rfl ?_
    refine j_bipush hJ (q := 10) dX9_speed_8 rfl kb_m2 ?_
    refine j_vW hJ (q := 13) (rest := []) (As := [.int (zI (-2))]) (wr := [(q 0, ia Z 266 (ni A))]) jl_X9_73 (c_X9_bad Z h q ab be bl ta tl tk va Rf (-2) ) 0 rfl rfl dX9_speed_10 rfl (by decide) (Nat.le_of_ble_eq_true rfl) [0, 2] [1] rfl rfl rfl rfl (by decide) rfl (fun rv wv hp => ?_)
    obtain ⟨rfl, rfl⟩ := hp
    refine j_world hJ (ws' := [mO h q ab be bl ta tl tk va, (q 0, ia Z 266 (ni A)), (q 3, ia Z 3 (ni (va_up Rf 0 (Rf 0 + 1))))]) [1, 0, 2] rfl rfl ?_
    show J 13 [(0, .ref h), (1, .int a)] [.int (zI (-2))] [mO h q ab be bl ta tl tk va, (q 0, ia Z 266 (ni A)), (q 3, ia Z 3 (ni (va_up Rf 0 (Rf 0 + 1))))] 0 0
    have hP : ¬ (rgI 0 3 a) := by simp only [rgI, isS, isR, pNote, pMark]; omega
    exact hE.1 _ _ _ _ _ _ _ rfl rfl dX9_speed_13 (Nat.le_refl _) (Nat.le_refl _) (⟨congrArg (fun z => some (Value.int (zI z))) (by simp only [z_speed, a_speed, r_speed, if_neg hP, bmp]), by simp only [z_speed, a_speed, r_speed, if_neg hP, bmp]⟩)

set_option maxHeartbeats 4000000 in
set_option maxRecDepth 100000 in
theorem c_X9_hangs (Z : jZ) (h : Nat) (q : Nat → Nat) (ab : Int) (be : Int) (bl : Nat) (ta : Nat) (tl : Nat) (tk : Nat) (va : Nat) (A : Nat → Nat) (Rf : Nat → Nat) (a : Int32) (hg : wg A) : CT Z yX9_hangs cX9_hangs 3 ((some FieldType.int)) 3 0 0 [.ref h, .int a] [mO h q ab be bl ta tl tk va, (q 0, ia Z 266 (ni A)), (q 3, ia Z 3 (ni Rf))] (fun rr ww => rr = some (.int (zI (z_hangs A a))) ∧ ww = [mO h q ab be bl ta tl tk va, (q 0, ia Z 266 (ni (a_hangs A a))), (q 3, ia Z 3 (ni (r_hangs A Rf a)))]) := by
  refine CT.of RX9 false rfl (fun h => by cases h) (by decide +kernel) (Nat.le_of_ble_eq_true rfl) ?_
  intro J hJ hE
  show J 0 [(0, .ref h), (1, .int a)] [] [mO h q ab be bl ta tl tk va, (q 0, ia Z 266 (ni A)), (q 3, ia Z 3 (ni Rf))] 0 0
  obtain ⟨hw, ⟨g1, g2, g3, g4, g8⟩, hrs, hrn, hrm, hpst⟩ := id hg
  obtain ⟨⟨w1, w2, w3, w4, w5, w6⟩, wb, wr, wh, wd⟩ := id hw
  have hb := wb
  have hr_a := zI_rng a
  refine j_iload_n hJ (q := 1) dX9_hangs_0 rfl 1 rfl rfl ?_
  refine j_i2l hJ (q := 2) dX9_hangs_1 rfl (zL_i _ (zI_of a) (zI_rng a)) ?_
  refine j_lconst hJ (q := 3) (v := zL 0) dX9_hangs_2 rfl rfl ?_
  refine j_ldc2 hJ (q := 6) (v' := zL 20) dX9_hangs_3 tm_937 rfl rfl ?_
  refine j_sR hJ (q := 9) (rest := []) (As := [.long (zL a.toInt), .long (zL 0), .long (zL 20)]) jl_X9_53 (c_X9_in Z a.toInt 0 20 (by omega) (by omega) (by omega)) dX9_hangs_6 rfl (by decide) (Nat.le_of_ble_eq_true rfl) [] rfl rfl (fun rv hp => ?_)
  obtain rfl := hp
  show J 9 [(0, .ref h), (1, .int a)] [.int (bI (decide (0 ≤ a.toInt ∧ a.toInt ≤ 20)))] [mO h q ab be bl ta tl tk va, (q 0, ia Z 266 (ni A)), (q 3, ia Z 3 (ni Rf))] 0 0
  refine jp_if_ne hJ (q := 12) (tgt := 19) dX9_hangs_9 (by decide) rfl (fun c1 => ?_) (fun c1 => ?_)
  · skip
    have hn_a := nt_cast (x := a) (by omega)
    refine j_eql (lvs' := [(0, .ref h), (1, .int (nI (nt a)))]) (by rw [← nt_eq (x := a) (by omega)]) ?_
    refine j_aload_n hJ (q := 20) dX9_hangs_19 rfl 0 rfl rfl ?_
    refine j_get hJ (q := 23) jf_X9_7 dX9_hangs_20 0 rfl rfl rfl ?_
    refine j_bipush hJ (q := 25) dX9_hangs_23 rfl kb_7 ?_
    refine j_ialdN hJ (q := 26) (z := nI (A 7)) dX9_hangs_25 1 rfl (by decide) (by decide) rfl rfl ?_
    have b2 := hb 7
    refine j_istore_n hJ (q := 27) (lvs' := [(2, .int (nI (A 7))), (0, .ref h), (1, .int (nI (nt a)))]) dX9_hangs_26 rfl (by decide) rfl rfl ?_
    refine j_iload_n hJ (q := 28) dX9_hangs_27 rfl 0 rfl rfl ?_
    refine j_iload_n hJ (q := 29) dX9_hangs_28 rfl 2 rfl rfl ?_
    refine jn_icmp_ne hJ (q := 32) (tgt := 37) dX9_hangs_29 (by decide) rfl (by omega) (by omega) (fun c3 => ?_) (fun c3 => ?_)
    · skip
      refine j_aload_n hJ (q := 38) dX9_hangs_37 rfl 1 rfl rfl ?_
      refine j_vW hJ (q := 41) (rest := []) (As := []) (wr := [(q 3, ia Z 3 (ni Rf))]) jl_X9_122 (c_X9_save Z h q ab be bl ta tl tk va A (by omega) (by omega)) 0 rfl rfl dX9_hangs_38 rfl (by decide) (Nat.le_of_ble_eq_true rfl) [0, 1] [2] rfl rfl rfl rfl (by decide) rfl (fun rv wv hp => ?_)
      obtain ⟨rfl, rfl⟩ := hp
      refine j_world hJ (ws' := [mO h q ab be bl ta tl tk va, (q 0, ia Z 266 (ni (saved A))), (q 3, ia Z 3 (ni Rf))]) [1, 2, 0] rfl rfl ?_
      show J 41 [(2, .int (nI (A 7))), (0, .ref h), (1, .int (nI (nt a)))] [] [mO h q ab be bl ta tl tk va, (q 0, ia Z 266 (ni (saved A))), (q 3, ia Z 3 (ni Rf))] 0 0
      refine j_aload_n hJ (q := 42) dX9_hangs_41 rfl 1 rfl rfl ?_
      refine j_get hJ (q := 45) jf_X9_7 dX9_hangs_42 0 rfl rfl rfl ?_
      refine j_bipush hJ (q := 47) dX9_hangs_45 rfl kb_7 ?_
      refine j_iload_n hJ (q := 48) dX9_hangs_47 rfl 2 rfl rfl ?_
      refine j_iastN hJ (q := 49) (ws' := [mO h q ab be bl ta tl tk va, (q 0, ia Z 266 (ni (va_up (saved A) 7 (nt a)))), (q 3, ia Z 3 (ni Rf))]) dX9_hangs_48 1 rfl (by decide) (by decide) (ni_up _ _ _) rfl rfl ?_
      refine j_iload_n hJ (q := 50) dX9_hangs_49 rfl 0 rfl rfl ?_
      have hP : rgI 0 20 a := by simp only [rgI, isS, isR, pNote, pMark]; omega
      have hQ0 : ¬ (A 7 = nt a) := by omega
      exact hE.1 _ _ _ _ _ _ _ rfl rfl dX9_hangs_50 (Nat.le_refl _) (Nat.le_refl _) (⟨congrArg (fun z => some (Value.int z)) ((zI_nat _).symm.trans (congrArg zI (by simp only [z_hangs, a_hangs, r_hangs, if_pos hP, if_neg hQ0, bmp]))), by simp only [z_hangs, a_hangs, r_hangs, if_pos hP, if_neg hQ0, bmp]⟩)
    · skip
      refine j_aload_n hJ (q := 33) dX9_hangs_32 rfl 1 rfl rfl ?_
      refine j_vW hJ (q := 36) (rest := []) (As := []) (wr := [(q 0, ia Z 266 (ni A))]) jl_X9_93 (c_X9_no Z h q ab be bl ta tl tk va Rf ) 0 rfl rfl dX9_hangs_33 rfl (by decide) (Nat.le_of_ble_eq_true rfl) [0, 2] [1] rfl rfl rfl rfl (by decide) rfl (fun rv wv hp => ?_)
      obtain ⟨rfl, rfl⟩ := hp
      refine j_world hJ (ws' := [mO h q ab be bl ta tl tk va, (q 0, ia Z 266 (ni A)), (q 3, ia Z 3 (ni (va_up Rf 1 (Rf 1 + 1))))]) [1, 0, 2] rfl rfl ?_
      show J 36 [(2, .int (nI (A 7))), (0, .ref h), (1, .int (nI (nt a)))] [.int (zI (-3))] [mO h q ab be bl ta tl tk va, (q 0, ia Z 266 (ni A)), (q 3, ia Z 3 (ni (va_up Rf 1 (Rf 1 + 1))))] 0 0
      have hP : rgI 0 20 a := by simp only [rgI, isS, isR, pNote, pMark]; omega
      have hQ0 : A 7 = nt a := by omega
      exact hE.1 _ _ _ _ _ _ _ rfl rfl dX9_hangs_36 (Nat.le_refl _) (Nat.le_refl _) (⟨congrArg (fun z => some (Value.int (zI z))) (by simp only [z_hangs, a_hangs, r_hangs, if_pos hP, if_pos hQ0, bmp]), by simp only [z_hangs, a_hangs, r_hangs, if_pos hP, if_pos hQ0, bmp]⟩)
  · skip
    refine j_aload_n hJ (q := 13) dX9_hangs_12 rfl 0 rfl rfl ?_
    refine j_bipush hJ (q := 15) dX9_hangs_13 rfl kb_m2 ?_
    refine j_vW hJ (q := 18) (rest := []) (As := [.int (zI (-2))]) (wr := [(q 0, ia Z 266 (ni A))]) jl_X9_73 (c_X9_bad Z h q ab be bl ta tl tk va Rf (-2) ) 0 rfl rfl dX9_hangs_15 rfl (by decide) (Nat.le_of_ble_eq_true rfl) [0, 2] [1] rfl rfl rfl rfl (by decide) rfl (fun rv wv hp => ?_)
    obtain ⟨rfl, rfl⟩ := hp
    refine j_world hJ (ws' := [mO h q ab be bl ta tl tk va, (q 0, ia Z 266 (ni A)), (q 3, ia Z 3 (ni (va_up Rf 0 (Rf 0 + 1))))]) [1, 0, 2] rfl rfl ?_
    show J 18 [(0, .ref h), (1, .int a)] [.int (zI (-2))] [mO h q ab be bl ta tl tk va, (q 0, ia Z 266 (ni A)), (q 3, ia Z 3 (ni (va_up Rf 0 (Rf 0 + 1))))] 0 0
    have hP : ¬ (rgI 0 20 a) := by simp only [rgI, isS, isR, pNote, pMark]; omega
    exact hE.1 _ _ _ _ _ _ _ rfl rfl dX9_hangs_18 (Nat.le_refl _) (Nat.le_refl _) (⟨congrArg (fun z => some (Value.int (zI z))) (by simp only [z_hangs, a_hangs, r_hangs, if_neg hP, bmp]), by simp only [z_hangs, a_hangs, r_hangs, if_neg hP, bmp]⟩)

set_option maxHeartbeats 4000000 in
set_option maxRecDepth 100000 in
theorem c_X9_changes (Z : jZ) (h : Nat) (q : Nat → Nat) (ab : Int) (be : Int) (bl : Nat) (ta : Nat) (tl : Nat) (tk : Nat) (va : Nat) (A : Nat → Nat) (Rf : Nat → Nat) (a : Int32) (b : Int32) (hg : wg A) : CT Z yX9_changes cX9_changes 4 ((some FieldType.int)) 3 0 0 [.ref h, .int a, .int b] [mO h q ab be bl ta tl tk va, (q 0, ia Z 266 (ni A)), (q 3, ia Z 3 (ni Rf))] (fun rr ww => rr = some (.int (zI (z_changes A a b))) ∧ ww = [mO h q ab be bl ta tl tk va, (q 0, ia Z 266 (ni (a_changes A a b))), (q 3, ia Z 3 (ni (r_changes A Rf a b)))]) := by
  refine CT.of RX9 false rfl (fun h => by cases h) (by decide +kernel) (Nat.le_of_ble_eq_true rfl) ?_
  intro J hJ hE
  show J 0 [(0, .ref h), (1, .int a), (2, .int b)] [] [mO h q ab be bl ta tl tk va, (q 0, ia Z 266 (ni A)), (q 3, ia Z 3 (ni Rf))] 0 0
  obtain ⟨hw, ⟨g1, g2, g3, g4, g8⟩, hrs, hrn, hrm, hpst⟩ := id hg
  obtain ⟨⟨w1, w2, w3, w4, w5, w6⟩, wb, wr, wh, wd⟩ := id hw
  have hb := wb
  have hr_a := zI_rng a
  have hr_b := zI_rng b
  refine j_aload_n hJ (q := 1) dX9_changes_0 rfl 0 rfl rfl ?_
  refine j_iload_n hJ (q := 2) dX9_changes_1 rfl 1 rfl rfl ?_
  refine j_vR hJ (q := 5) (rest := []) (As := [.int a]) jl_X9_129 (c_X9_isRider Z h q ab be bl ta tl tk va A a (by omega)) 0 rfl rfl dX9_changes_2 rfl (by decide) (Nat.le_of_ble_eq_true rfl) [0, 1] rfl rfl (fun rv hp => ?_)
  obtain rfl := hp
  show J 5 [(0, .ref h), (1, .int a), (2, .int b)] [.int (bI (decide (0 ≤ a.toInt ∧ a.toInt ≤ (A 0 : Int) - 1)))] [mO h q ab be bl ta tl tk va, (q 0, ia Z 266 (ni A)), (q 3, ia Z 3 (ni Rf))] 0 0
  refine jp_if_eq hJ (q := 8) (tgt := 16) dX9_changes_5 (by decide) rfl (fun c1 => ?_) (fun c1 => ?_)
  · skip
    refine j_aload_n hJ (q := 17) dX9_changes_16 rfl 0 rfl rfl ?_
    refine j_bipush hJ (q := 19) dX9_changes_17 rfl kb_m2 ?_
    refine j_vW hJ (q := 22) (rest := []) (As := [.int (zI (-2))]) (wr := [(q 0, ia Z 266 (ni A))]) jl_X9_73 (c_X9_bad Z h q ab be bl ta tl tk va Rf (-2) ) 0 rfl rfl dX9_changes_19 rfl (by decide) (Nat.le_of_ble_eq_true rfl) [0, 2] [1] rfl rfl rfl rfl (by decide) rfl (fun rv wv hp => ?_)
    obtain ⟨rfl, rfl⟩ := hp
    refine j_world hJ (ws' := [mO h q ab be bl ta tl tk va, (q 0, ia Z 266 (ni A)), (q 3, ia Z 3 (ni (va_up Rf 0 (Rf 0 + 1))))]) [1, 0, 2] rfl rfl ?_
    show J 22 [(0, .ref h), (1, .int a), (2, .int b)] [.int (zI (-2))] [mO h q ab be bl ta tl tk va, (q 0, ia Z 266 (ni A)), (q 3, ia Z 3 (ni (va_up Rf 0 (Rf 0 + 1))))] 0 0
    have hP : ¬ (isR A a ∧ isS A b) := by simp only [rgI, isS, isR, pNote, pMark]; omega
    exact hE.1 _ _ _ _ _ _ _ rfl rfl dX9_changes_22 (Nat.le_refl _) (Nat.le_refl _) (⟨congrArg (fun z => some (Value.int (zI z))) (by simp only [z_changes, a_changes, r_changes, if_neg hP, bmp]), by simp only [z_changes, a_changes, r_changes, if_neg hP, bmp]⟩)
  · skip
    refine j_aload_n hJ (q := 9) dX9_changes_8 rfl 0 rfl rfl ?_
    refine j_iload_n hJ (q := 10) dX9_changes_9 rfl 2 rfl rfl ?_
    refine j_vR hJ (q := 13) (rest := []) (As := [.int b]) jl_X9_77 (c_X9_isSeat Z h q ab be bl ta tl tk va A b (by omega)) 0 rfl rfl dX9_changes_10 rfl (by decide) (Nat.le_of_ble_eq_true rfl) [0, 1] rfl rfl (fun rv hp => ?_)
    obtain rfl := hp
    show J 13 [(0, .ref h), (1, .int a), (2, .int b)] [.int (bI (decide (0 ≤ b.toInt ∧ b.toInt ≤ (A 21 : Int) - 1)))] [mO h q ab be bl ta tl tk va, (q 0, ia Z 266 (ni A)), (q 3, ia Z 3 (ni Rf))] 0 0
    refine jp_if_ne hJ (q := 16) (tgt := 23) dX9_changes_13 (by decide) rfl (fun c2 => ?_) (fun c2 => ?_)
    · skip
      have hn_a := nt_cast (x := a) (by omega)
      refine j_eql (lvs' := [(0, .ref h), (1, .int (nI (nt a))), (2, .int b)]) (by rw [← nt_eq (x := a) (by omega)]) ?_
      have hn_b := nt_cast (x := b) (by omega)
      refine j_eql (lvs' := [(0, .ref h), (1, .int (nI (nt a))), (2, .int (nI (nt b)))]) (by rw [← nt_eq (x := b) (by omega)]) ?_
      refine j_aload_n hJ (q := 24) dX9_changes_23 rfl 0 rfl rfl ?_
      refine j_get hJ (q := 27) jf_X9_7 dX9_changes_24 0 rfl rfl rfl ?_
      refine j_iload_n hJ (q := 28) dX9_changes_27 rfl 2 rfl rfl ?_
      refine j_sR hJ (q := 31) (rest := []) (As := [.ref (q 0), .int (nI (nt b))]) jl_X9_89 (c_X9_whoIs Z (q 0) 266 A (nt b) (by omega) (by omega) (by omega) hb) dX9_changes_28 rfl (by decide) (Nat.le_of_ble_eq_true rfl) [1] rfl rfl (fun rv hp => ?_)
      obtain rfl := hp
      show J 31 [(0, .ref h), (1, .int (nI (nt a))), (2, .int (nI (nt b)))] [.int (oI (who A (nt b)))] [mO h q ab be bl ta tl tk va, (q 0, ia Z 266 (ni A)), (q 3, ia Z 3 (ni Rf))] 0 0
      refine j_caseo (fun o3 => ?_) (fun i4 o3 => ?_)
      · skip
        refine j_iconst hJ (q := 32) dX9_changes_31 rfl ki_m1 ?_
        refine jz_icmp_eq hJ (q := 35) (tgt := 40) dX9_changes_32 (by decide) rfl rfl rfl (by omega) (by omega) (fun c5 => ?_) (fun c5 => ?_)
        · skip
          refine j_aload_n hJ (q := 41) dX9_changes_40 rfl 0 rfl rfl ?_
          refine j_get hJ (q := 44) jf_X9_7 dX9_changes_41 0 rfl rfl rfl ?_
          refine j_bipush hJ (q := 46) dX9_changes_44 rfl kb_15 ?_
          refine j_iload_n hJ (q := 47) dX9_changes_46 rfl 1 rfl rfl ?_
          refine j_iadd hJ (q := 48) dX9_changes_47 rfl (nI_add _ _) ?_
          refine j_ialdN hJ (q := 49) (z := nI (A (15 + (nt a)))) dX9_changes_48 1 rfl (by omega) (by decide) rfl rfl ?_
          have b6 := hb (15 + (nt a))
          refine j_istore_n hJ (q := 50) (lvs' := [(3, .int (nI (A (15 + (nt a))))), (0, .ref h), (1, .int (nI (nt a))), (2, .int (nI (nt b)))]) dX9_changes_49 rfl (by decide) rfl rfl ?_
          refine j_aload_n hJ (q := 51) dX9_changes_50 rfl 1 rfl rfl ?_
          refine j_vW hJ (q := 54) (rest := []) (As := []) (wr := [(q 3, ia Z 3 (ni Rf))]) jl_X9_122 (c_X9_save Z h q ab be bl ta tl tk va A (by omega) (by omega)) 0 rfl rfl dX9_changes_51 rfl (by decide) (Nat.le_of_ble_eq_true rfl) [0, 1] [2] rfl rfl rfl rfl (by decide) rfl (fun rv wv hp => ?_)
          obtain ⟨rfl, rfl⟩ := hp
          refine j_world hJ (ws' := [mO h q ab be bl ta tl tk va, (q 0, ia Z 266 (ni (saved A))), (q 3, ia Z 3 (ni Rf))]) [1, 2, 0] rfl rfl ?_
          show J 54 [(3, .int (nI (A (15 + (nt a))))), (0, .ref h), (1, .int (nI (nt a))), (2, .int (nI (nt b)))] [] [mO h q ab be bl ta tl tk va, (q 0, ia Z 266 (ni (saved A))), (q 3, ia Z 3 (ni Rf))] 0 0
          refine j_aload_n hJ (q := 55) dX9_changes_54 rfl 1 rfl rfl ?_
          refine j_get hJ (q := 58) jf_X9_7 dX9_changes_55 0 rfl rfl rfl ?_
          refine j_bipush hJ (q := 60) dX9_changes_58 rfl kb_15 ?_
          refine j_iload_n hJ (q := 61) dX9_changes_60 rfl 2 rfl rfl ?_
          refine j_iadd hJ (q := 62) dX9_changes_61 rfl (nI_add _ _) ?_
          refine j_iload_n hJ (q := 63) dX9_changes_62 rfl 3 rfl rfl ?_
          refine j_iastN hJ (q := 64) (ws' := [mO h q ab be bl ta tl tk va, (q 0, ia Z 266 (ni (va_up (saved A) (15 + (nt a)) (nt b)))), (q 3, ia Z 3 (ni Rf))]) dX9_changes_63 1 rfl (by omega) (by decide) (ni_up _ _ _) rfl rfl ?_
          refine j_iload_n hJ (q := 65) dX9_changes_64 rfl 0 rfl rfl ?_
          have hP : isR A a ∧ isS A b := by simp only [rgI, isS, isR, pNote, pMark]; omega
          have hQ0 : who A (nt b) = none := o3
          exact hE.1 _ _ _ _ _ _ _ rfl rfl dX9_changes_65 (Nat.le_refl _) (Nat.le_refl _) (⟨congrArg (fun z => some (Value.int z)) ((zI_nat _).symm.trans (congrArg zI (by simp only [z_changes, a_changes, r_changes, if_pos hP, if_pos hQ0, bmp]))), by simp only [z_changes, a_changes, r_changes, if_pos hP, if_pos hQ0, bmp]⟩)
        · skip
          exfalso; omega
      · skip
        have hwi := who_some o3
        refine j_iconst hJ (q := 32) dX9_changes_31 rfl ki_m1 ?_
        refine jz_icmp_eq hJ (q := 35) (tgt := 40) dX9_changes_32 (by decide) rfl (zI_nat i4).symm rfl (by omega) (by omega) (fun c7 => ?_) (fun c7 => ?_)
        · skip
          exfalso; omega
        · skip
          refine j_aload_n hJ (q := 36) dX9_changes_35 rfl 0 rfl rfl ?_
          refine j_vW hJ (q := 39) (rest := []) (As := []) (wr := [(q 0, ia Z 266 (ni A))]) jl_X9_93 (c_X9_no Z h q ab be bl ta tl tk va Rf ) 0 rfl rfl dX9_changes_36 rfl (by decide) (Nat.le_of_ble_eq_true rfl) [0, 2] [1] rfl rfl rfl rfl (by decide) rfl (fun rv wv hp => ?_)
          obtain ⟨rfl, rfl⟩ := hp
          refine j_world hJ (ws' := [mO h q ab be bl ta tl tk va, (q 0, ia Z 266 (ni A)), (q 3, ia Z 3 (ni (va_up Rf 1 (Rf 1 + 1))))]) [1, 0, 2] rfl rfl ?_
          show J 39 [(0, .ref h), (1, .int (nI (nt a))), (2, .int (nI (nt b)))] [.int (zI (-3))] [mO h q ab be bl ta tl tk va, (q 0, ia Z 266 (ni A)), (q 3, ia Z 3 (ni (va_up Rf 1 (Rf 1 + 1))))] 0 0
          have hP : isR A a ∧ isS A b := by simp only [rgI, isS, isR, pNote, pMark]; omega
          have hQ0 : ¬ (who A (nt b) = none) := by rw [o3]; exact fun z => by cases z
          exact hE.1 _ _ _ _ _ _ _ rfl rfl dX9_changes_39 (Nat.le_refl _) (Nat.le_refl _) (⟨congrArg (fun z => some (Value.int (zI z))) (by simp only [z_changes, a_changes, r_changes, if_pos hP, if_neg hQ0, bmp]), by simp only [z_changes, a_changes, r_changes, if_pos hP, if_neg hQ0, bmp]⟩)
    · skip
      refine j_aload_n hJ (q := 17) dX9_changes_16 rfl 0 rfl rfl ?_
      refine j_bipush hJ (q := 19) dX9_changes_17 rfl kb_m2 ?_
      refine j_vW hJ (q := 22) (rest := []) (As := [.int (zI (-2))]) (wr := [(q 0, ia Z 266 (ni A))]) jl_X9_73 (c_X9_bad Z h q ab be bl ta tl tk va Rf (-2) ) 0 rfl rfl dX9_changes_19 rfl (by decide) (Nat.le_of_ble_eq_true rfl) [0, 2] [1] rfl rfl rfl rfl (by decide) rfl (fun rv wv hp => ?_)
      obtain ⟨rfl, rfl⟩ := hp
      refine j_world hJ (ws' := [mO h q ab be bl ta tl tk va, (q 0, ia Z 266 (ni A)), (q 3, ia Z 3 (ni (va_up Rf 0 (Rf 0 + 1))))]) [1, 0, 2] rfl rfl ?_
      show J 22 [(0, .ref h), (1, .int a), (2, .int b)] [.int (zI (-2))] [mO h q ab be bl ta tl tk va, (q 0, ia Z 266 (ni A)), (q 3, ia Z 3 (ni (va_up Rf 0 (Rf 0 + 1))))] 0 0
      have hP : ¬ (isR A a ∧ isS A b) := by simp only [rgI, isS, isR, pNote, pMark]; omega
      exact hE.1 _ _ _ _ _ _ _ rfl rfl dX9_changes_22 (Nat.le_refl _) (Nat.le_refl _) (⟨congrArg (fun z => some (Value.int (zI z))) (by simp only [z_changes, a_changes, r_changes, if_neg hP, bmp]), by simp only [z_changes, a_changes, r_changes, if_neg hP, bmp]⟩)

set_option maxHeartbeats 4000000 in
set_option maxRecDepth 100000 in
theorem c_X9_undo (Z : jZ) (h : Nat) (q : Nat → Nat) (ab : Int) (be : Int) (bl : Nat) (ta : Nat) (tl : Nat) (tk : Nat) (va : Nat) (A : Nat → Nat) (Rf : Nat → Nat) (hg : wg A) : CT Z yX9_undo cX9_undo 2 ((some FieldType.int)) 3 0 0 [.ref h] [mO h q ab be bl ta tl tk va, (q 0, ia Z 266 (ni A)), (q 3, ia Z 3 (ni Rf))] (fun rr ww => rr = some (.int (zI (z_undo A))) ∧ ww = [mO h q ab be bl ta tl tk va, (q 0, ia Z 266 (ni (a_undo A))), (q 3, ia Z 3 (ni (r_undo A Rf)))]) := by
  refine CT.of RX9 false rfl (fun h => by cases h) (by decide +kernel) (Nat.le_of_ble_eq_true rfl) ?_
  intro J hJ hE
  show J 0 [(0, .ref h)] [] [mO h q ab be bl ta tl tk va, (q 0, ia Z 266 (ni A)), (q 3, ia Z 3 (ni Rf))] 0 0
  obtain ⟨hw, ⟨g1, g2, g3, g4, g8⟩, hrs, hrn, hrm, hpst⟩ := id hg
  obtain ⟨⟨w1, w2, w3, w4, w5, w6⟩, wb, wr, wh, wd⟩ := id hw
  have hb := wb
  refine j_aload_n hJ (q := 1) dX9_undo_0 rfl 0 rfl rfl ?_
  refine j_get hJ (q := 4) jf_X9_7 dX9_undo_1 0 rfl rfl rfl ?_
  refine j_iconst hJ (q := 5) dX9_undo_4 rfl ki_4 ?_
  refine j_ialdN hJ (q := 6) (z := nI (A 4)) dX9_undo_5 1 rfl (by decide) (by decide) rfl rfl ?_
  refine jn_if_ne hJ (q := 9) (tgt := 14) dX9_undo_6 (by decide) rfl (by omega) (fun c1 => ?_) (fun c1 => ?_)
  · skip
    refine j_aload_n hJ (q := 15) dX9_undo_14 rfl 0 rfl rfl ?_
    refine j_get hJ (q := 18) jf_X9_7 dX9_undo_15 0 rfl rfl rfl ?_
    refine j_iconst hJ (q := 19) dX9_undo_18 rfl ki_4 ?_
    refine j_dup2 hJ (q := 20) dX9_undo_19 rfl rfl rfl ?_
    refine j_ialdN hJ (q := 21) (z := nI (A 4)) dX9_undo_20 1 rfl (by decide) (by decide) rfl rfl ?_
    refine j_iconst hJ (q := 22) dX9_undo_21 rfl ki_1 ?_
    refine j_isub hJ (q := 23) dX9_undo_22 rfl (pk_sub (by omega)) ?_
    refine j_iastN hJ (q := 24) (ws' := [mO h q ab be bl ta tl tk va, (q 0, ia Z 266 (ni (va_up A 4 (A 4 - 1)))), (q 3, ia Z 3 (ni Rf))]) dX9_undo_23 1 rfl (by decide) (by decide) (ni_up _ _ _) rfl rfl ?_
    obtain ⟨C, e_C⟩ : ∃ z : Nat → Nat, z = va_up A 4 (A 4 - 1) := ⟨_, rfl⟩
    refine j_eqw (ws' := [mO h q ab be bl ta tl tk va, (q 0, ia Z 266 (ni C)), (q 3, ia Z 3 (ni Rf))]) (by subst e_C; rfl) ?_
    have hC4 : C 4 = A 4 - 1 := by rw [e_C]; simp [va_up]
    refine j_iconst hJ (q := 25) dX9_undo_24 rfl ki_0 ?_
    refine j_istore_n hJ (q := 26) (lvs' := [(1, .int (nI 0)), (0, .ref h)]) dX9_undo_25 rfl (by decide) rfl rfl ?_
    have L_26 : ∀ (fu_26 : Nat) (D : Nat → Nat) (k : Nat), 16 - k < fu_26 → (k ≤ 16) → (D = resN C (C 4) k) → J 26 [(0, .ref h), (1, .int (nI k))] [] [mO h q ab be bl ta tl tk va, (q 0, ia Z 266 (ni D)), (q 3, ia Z 3 (ni Rf))] 0 0 := by
      intro fu_26
      induction fu_26 with
      | zero => intro D k hm; exact absurd hm (Nat.not_lt_zero _)
      | succ fu_26 ih_26 =>
        intro D k hm_26 hk hD
        have hD4 : D 4 = C 4 := by rw [hD]; simp only [resN]; rw [if_neg (by omega)]
        refine j_iload_n hJ (q := 27) dX9_undo_26 rfl 1 rfl rfl ?_
        refine j_bipush hJ (q := 29) dX9_undo_27 rfl kb_16 ?_
        refine jn_icmp_ge hJ (q := 32) (tgt := 66) dX9_undo_29 (by decide) rfl (by omega) (by omega) (fun c2 => ?_) (fun c2 => ?_)
        · skip
          refine j_aload_n hJ (q := 67) dX9_undo_66 rfl 0 rfl rfl ?_
          refine j_get hJ (q := 70) jf_X9_7 dX9_undo_67 0 rfl rfl rfl ?_
          refine j_bipush hJ (q := 72) dX9_undo_70 rfl kb_8 ?_
          refine j_ialdN hJ (q := 73) (z := nI (D 8)) dX9_undo_72 1 rfl (by decide) (by decide) rfl rfl ?_
          have hQ0 : ¬ A 4 = 0 := by omega
          have hU : D = und A := by rw [hD, show k = 16 by omega, hC4, e_C]; rfl
          exact hE.1 _ _ _ _ _ _ _ rfl rfl dX9_undo_73 (Nat.le_refl _) (Nat.le_refl _) (⟨congrArg (fun z => some (Value.int z)) ((zI_nat _).symm.trans (congrArg zI (by rw [hU]; simp only [z_undo, if_neg hQ0]))), by rw [hU]; simp only [a_undo, r_undo, if_neg hQ0]⟩)
        · skip
          refine j_aload_n hJ (q := 33) dX9_undo_32 rfl 0 rfl rfl ?_
          refine j_get hJ (q := 36) jf_X9_7 dX9_undo_33 0 rfl rfl rfl ?_
          refine j_iconst hJ (q := 37) dX9_undo_36 rfl ki_5 ?_
          refine j_iload_n hJ (q := 38) dX9_undo_37 rfl 1 rfl rfl ?_
          refine j_iadd hJ (q := 39) dX9_undo_38 rfl (nI_add _ _) ?_
          refine j_aload_n hJ (q := 40) dX9_undo_39 rfl 0 rfl rfl ?_
          refine j_get hJ (q := 43) jf_X9_7 dX9_undo_40 0 rfl rfl rfl ?_
          refine j_sipush hJ (q := 46) dX9_undo_43 rfl ks_138 ?_
          refine j_bipush hJ (q := 48) dX9_undo_46 rfl kb_16 ?_
          refine j_aload_n hJ (q := 49) dX9_undo_48 rfl 0 rfl rfl ?_
          refine j_get hJ (q := 52) jf_X9_7 dX9_undo_49 0 rfl rfl rfl ?_
          refine j_iconst hJ (q := 53) dX9_undo_52 rfl ki_4 ?_
          refine j_ialdN hJ (q := 54) (z := nI (D 4)) dX9_undo_53 1 rfl (by decide) (by decide) rfl rfl ?_
          refine j_imul hJ (q := 55) dX9_undo_54 rfl (pk_mul _ _) ?_
          refine j_iadd hJ (q := 56) dX9_undo_55 rfl (nI_add _ _) ?_
          refine j_iload_n hJ (q := 57) dX9_undo_56 rfl 1 rfl rfl ?_
          refine j_iadd hJ (q := 58) dX9_undo_57 rfl (nI_add _ _) ?_
          refine j_ialdN hJ (q := 59) (z := nI (D (138 + (16 * (D 4)) + k))) dX9_undo_58 1 rfl (by omega) (by decide) rfl rfl ?_
          refine j_iastN hJ (q := 60) (ws' := [mO h q ab be bl ta tl tk va, (q 0, ia Z 266 (ni (va_up D (5 + k) (D (138 + (16 * (D 4)) + k))))), (q 3, ia Z 3 (ni Rf))]) dX9_undo_59 1 rfl (by omega) (by decide) (ni_up _ _ _) rfl rfl ?_
          refine j_iinc hJ (q := 63) (lvs' := [(1, .int (nI (k + 1))), (0, .ref h)]) dX9_undo_60 1 rfl (by rw [show Int32.ofInt 1 = nI 1 from by decide +kernel]; exact nI_add _ _) (by decide) rfl rfl ?_
          refine j_goto hJ (q := 26) dX9_undo_63 (by decide) ?_
          refine j_locals hJ [1, 0] rfl ?_
          exact ih_26 (va_up D (5 + k) (D (138 + (16 * (D 4)) + k))) (k + 1) (by omega) (by omega) (by rw [hD4, hD]; exact resN_up C (by omega))
    refine j_locals hJ [1, 0] rfl ?_
    exact L_26 ((16 - 0) + 1) C 0 (Nat.lt_succ_self _) (by omega) (resN_0 C _)
  · skip
    refine j_aload_n hJ (q := 10) dX9_undo_9 rfl 0 rfl rfl ?_
    refine j_vW hJ (q := 13) (rest := []) (As := []) (wr := [(q 0, ia Z 266 (ni A))]) jl_X9_93 (c_X9_no Z h q ab be bl ta tl tk va Rf ) 0 rfl rfl dX9_undo_10 rfl (by decide) (Nat.le_of_ble_eq_true rfl) [0, 2] [1] rfl rfl rfl rfl (by decide) rfl (fun rv wv hp => ?_)
    obtain ⟨rfl, rfl⟩ := hp
    refine j_world hJ (ws' := [mO h q ab be bl ta tl tk va, (q 0, ia Z 266 (ni A)), (q 3, ia Z 3 (ni (va_up Rf 1 (Rf 1 + 1))))]) [1, 0, 2] rfl rfl ?_
    show J 13 [(0, .ref h)] [.int (zI (-3))] [mO h q ab be bl ta tl tk va, (q 0, ia Z 266 (ni A)), (q 3, ia Z 3 (ni (va_up Rf 1 (Rf 1 + 1))))] 0 0
    have hQ0 : A 4 = 0 := by omega
    exact hE.1 _ _ _ _ _ _ _ rfl rfl dX9_undo_13 (Nat.le_refl _) (Nat.le_refl _) (⟨congrArg (fun z => some (Value.int (zI z))) (by simp only [z_undo, a_undo, r_undo, if_pos hQ0, bmp]), by simp only [z_undo, a_undo, r_undo, if_pos hQ0, bmp]⟩)

set_option maxHeartbeats 4000000 in
set_option maxRecDepth 100000 in
theorem c_X9_type (Z : jZ) (h : Nat) (q : Nat → Nat) (ab : Int) (be : Int) (bl : Nat) (ta : Nat) (tl : Nat) (tk : Nat) (va : Nat) (By : Nat → Nat) (Rf : Nat → Nat) (a : Int32) (hbl : bl ≤ 150) : CT Z yX9_type cX9_type 2 ((some FieldType.int)) 3 0 0 [.ref h, .int a] [mO h q ab be bl ta tl tk va, (q 7, ia Z 150 (ni By)), (q 3, ia Z 3 (ni Rf))] (fun rr ww => rr = some (.int (zI (z_type bl a))) ∧ ww = [mO h q ab be (l_type bl a) ta tl tk va, (q 7, ia Z 150 (ni (b_type By bl a))), (q 3, ia Z 3 (ni (r_type Rf bl a)))]) := by
  refine CT.of RX9 false rfl (fun h => by cases h) (by decide +kernel) (Nat.le_of_ble_eq_true rfl) ?_
  intro J hJ hE
  show J 0 [(0, .ref h), (1, .int a)] [] [mO h q ab be bl ta tl tk va, (q 7, ia Z 150 (ni By)), (q 3, ia Z 3 (ni Rf))] 0 0
  have hr_a := zI_rng a
  refine j_iload_n hJ (q := 1) dX9_type_0 rfl 1 rfl rfl ?_
  refine j_i2l hJ (q := 2) dX9_type_1 rfl (zL_i _ (zI_of a) (zI_rng a)) ?_
  refine j_lconst hJ (q := 3) (v := zL 0) dX9_type_2 rfl rfl ?_
  refine j_ldc2 hJ (q := 6) (v' := zL 127) dX9_type_3 tm_1099 rfl rfl ?_
  refine j_sR hJ (q := 9) (rest := []) (As := [.long (zL a.toInt), .long (zL 0), .long (zL 127)]) jl_X9_53 (c_X9_in Z a.toInt 0 127 (by omega) (by omega) (by omega)) dX9_type_6 rfl (by decide) (Nat.le_of_ble_eq_true rfl) [] rfl rfl (fun rv hp => ?_)
  obtain rfl := hp
  show J 9 [(0, .ref h), (1, .int a)] [.int (bI (decide (0 ≤ a.toInt ∧ a.toInt ≤ 127)))] [mO h q ab be bl ta tl tk va, (q 7, ia Z 150 (ni By)), (q 3, ia Z 3 (ni Rf))] 0 0
  refine jp_if_ne hJ (q := 12) (tgt := 19) dX9_type_9 (by decide) rfl (fun c1 => ?_) (fun c1 => ?_)
  · skip
    have hn_a := nt_cast (x := a) (by omega)
    refine j_eql (lvs' := [(0, .ref h), (1, .int (nI (nt a)))]) (by rw [← nt_eq (x := a) (by omega)]) ?_
    refine j_aload_n hJ (q := 20) dX9_type_19 rfl 0 rfl rfl ?_
    refine j_get hJ (q := 23) jf_X9_208 dX9_type_20 0 rfl rfl rfl ?_
    refine j_sipush hJ (q := 26) dX9_type_23 rfl ks_150 ?_
    refine jn_icmp_ne hJ (q := 29) (tgt := 34) dX9_type_26 (by decide) rfl (by omega) (by omega) (fun c2 => ?_) (fun c2 => ?_)
    · skip
      refine j_aload_n hJ (q := 35) dX9_type_34 rfl 0 rfl rfl ?_
      refine j_get hJ (q := 38) jf_X9_36 dX9_type_35 0 rfl rfl rfl ?_
      refine j_aload_n hJ (q := 39) dX9_type_38 rfl 0 rfl rfl ?_
      refine j_get hJ (q := 42) jf_X9_208 dX9_type_39 0 rfl rfl rfl ?_
      refine j_iload_n hJ (q := 43) dX9_type_42 rfl 1 rfl rfl ?_
      refine j_iastN hJ (q := 44) (ws' := [mO h q ab be bl ta tl tk va, (q 7, ia Z 150 (ni (va_up By bl (nt a)))), (q 3, ia Z 3 (ni Rf))]) dX9_type_43 1 rfl (by omega) (by decide) (ni_up _ _ _) rfl rfl ?_
      refine j_aload_n hJ (q := 45) dX9_type_44 rfl 0 rfl rfl ?_
      refine j_dup hJ (q := 46) dX9_type_45 rfl rfl ?_
      refine j_get hJ (q := 49) jf_X9_208 dX9_type_46 0 rfl rfl rfl ?_
      refine j_iconst hJ (q := 50) dX9_type_49 rfl ki_1 ?_
      refine j_iadd hJ (q := 51) dX9_type_50 rfl (nI_add _ _) ?_
      refine j_put hJ (q := 54) (ws' := [mO h q ab be (bl + 1) ta tl tk va, (q 7, ia Z 150 (ni (va_up By bl (nt a)))), (q 3, ia Z 3 (ni Rf))]) jp_X9_208 dX9_type_51 0 rfl rfl rfl (Nat.le_of_ble_eq_true rfl) rfl rfl ?_
      refine j_aload_n hJ (q := 55) dX9_type_54 rfl 0 rfl rfl ?_
      refine j_get hJ (q := 58) jf_X9_208 dX9_type_55 0 rfl rfl rfl ?_
      have hP : rgI 0 127 a := by simp only [rgI, isS, isR, pNote, pMark]; omega
      have hQ0 : ¬ (bl = 150) := by omega
      exact hE.1 _ _ _ _ _ _ _ rfl rfl dX9_type_58 (Nat.le_refl _) (Nat.le_refl _) (⟨congrArg (fun z => some (Value.int z)) ((zI_nat _).symm.trans (congrArg zI (by simp only [z_type, if_pos hP, if_neg hQ0]; omega))), by simp only [z_type, b_type, l_type, r_type, if_pos hP, if_neg hQ0, bmp]⟩)
    · skip
      refine j_aload_n hJ (q := 30) dX9_type_29 rfl 0 rfl rfl ?_
      refine j_vW hJ (q := 33) (rest := []) (As := []) (wr := [(q 7, ia Z 150 (ni By))]) jl_X9_96 (c_X9_full Z h q ab be bl ta tl tk va Rf ) 0 rfl rfl dX9_type_30 rfl (by decide) (Nat.le_of_ble_eq_true rfl) [0, 2] [1] rfl rfl rfl rfl (by decide) rfl (fun rv wv hp => ?_)
      obtain ⟨rfl, rfl⟩ := hp
      refine j_world hJ (ws' := [mO h q ab be bl ta tl tk va, (q 7, ia Z 150 (ni By)), (q 3, ia Z 3 (ni (va_up Rf 2 (Rf 2 + 1))))]) [1, 0, 2] rfl rfl ?_
      show J 33 [(0, .ref h), (1, .int (nI (nt a)))] [.int (zI (-4))] [mO h q ab be bl ta tl tk va, (q 7, ia Z 150 (ni By)), (q 3, ia Z 3 (ni (va_up Rf 2 (Rf 2 + 1))))] 0 0
      have hP : rgI 0 127 a := by simp only [rgI, isS, isR, pNote, pMark]; omega
      have hQ0 : bl = 150 := by omega
      exact hE.1 _ _ _ _ _ _ _ rfl rfl dX9_type_33 (Nat.le_refl _) (Nat.le_refl _) (⟨congrArg (fun z => some (Value.int (zI z))) (by simp only [z_type, b_type, l_type, r_type, if_pos hP, if_pos hQ0, bmp]), by simp only [z_type, b_type, l_type, r_type, if_pos hP, if_pos hQ0, bmp]⟩)
  · skip
    refine j_aload_n hJ (q := 13) dX9_type_12 rfl 0 rfl rfl ?_
    refine j_bipush hJ (q := 15) dX9_type_13 rfl kb_m2 ?_
    refine j_vW hJ (q := 18) (rest := []) (As := [.int (zI (-2))]) (wr := [(q 7, ia Z 150 (ni By))]) jl_X9_73 (c_X9_bad Z h q ab be bl ta tl tk va Rf (-2) ) 0 rfl rfl dX9_type_15 rfl (by decide) (Nat.le_of_ble_eq_true rfl) [0, 2] [1] rfl rfl rfl rfl (by decide) rfl (fun rv wv hp => ?_)
    obtain ⟨rfl, rfl⟩ := hp
    refine j_world hJ (ws' := [mO h q ab be bl ta tl tk va, (q 7, ia Z 150 (ni By)), (q 3, ia Z 3 (ni (va_up Rf 0 (Rf 0 + 1))))]) [1, 0, 2] rfl rfl ?_
    show J 18 [(0, .ref h), (1, .int a)] [.int (zI (-2))] [mO h q ab be bl ta tl tk va, (q 7, ia Z 150 (ni By)), (q 3, ia Z 3 (ni (va_up Rf 0 (Rf 0 + 1))))] 0 0
    have hP : ¬ (rgI 0 127 a) := by simp only [rgI, isS, isR, pNote, pMark]; omega
    exact hE.1 _ _ _ _ _ _ _ rfl rfl dX9_type_18 (Nat.le_refl _) (Nat.le_refl _) (⟨congrArg (fun z => some (Value.int (zI z))) (by simp only [z_type, b_type, l_type, r_type, if_neg hP, bmp]), by simp only [z_type, b_type, l_type, r_type, if_neg hP, bmp]⟩)

set_option maxHeartbeats 4000000 in
set_option maxRecDepth 100000 in
theorem c_X9_clear (Z : jZ) (h : Nat) (q : Nat → Nat) (ab : Int) (be : Int) (bl : Nat) (ta : Nat) (tl : Nat) (tk : Nat) (va : Nat)  : CT Z yX9_clear cX9_clear 2 ((some FieldType.int)) 1 0 0 [.ref h] [mO h q ab be bl ta tl tk va] (fun rr ww => rr = some (.int (zI (bl : Int))) ∧ ww = [mO h q ab be 0 ta tl tk va]) := by
  refine CT.of RX9 false rfl (fun h => by cases h) (by decide +kernel) (Nat.le_of_ble_eq_true rfl) ?_
  intro J hJ hE
  show J 0 [(0, .ref h)] [] [mO h q ab be bl ta tl tk va] 0 0
  refine j_aload_n hJ (q := 1) dX9_clear_0 rfl 0 rfl rfl ?_
  refine j_get hJ (q := 4) jf_X9_208 dX9_clear_1 0 rfl rfl rfl ?_
  refine j_istore_n hJ (q := 5) (lvs' := [(1, .int (nI bl)), (0, .ref h)]) dX9_clear_4 rfl (by decide) rfl rfl ?_
  refine j_aload_n hJ (q := 6) dX9_clear_5 rfl 1 rfl rfl ?_
  refine j_iconst hJ (q := 7) dX9_clear_6 rfl ki_0 ?_
  refine j_put hJ (q := 10) (ws' := [mO h q ab be 0 ta tl tk va]) jp_X9_208 dX9_clear_7 0 rfl rfl rfl (Nat.le_of_ble_eq_true rfl) rfl rfl ?_
  refine j_iload_n hJ (q := 11) dX9_clear_10 rfl 0 rfl rfl ?_
  exact hE.1 _ _ _ _ _ _ _ rfl rfl dX9_clear_11 (Nat.le_refl _) (Nat.le_refl _) (⟨congrArg (fun z => some (Value.int z)) ((zI_nat _).symm.trans (congrArg zI (by rfl))), rfl⟩)

set_option maxHeartbeats 4000000 in
set_option maxRecDepth 100000 in
theorem c_X9_forget (Z : jZ) (h : Nat) (q : Nat → Nat) (ab : Int) (be : Int) (bl : Nat) (ta : Nat) (tl : Nat) (tk : Nat) (va : Nat) (A : Nat → Nat) (Rf : Nat → Nat) (a : Int32) (hg : wg A) : CT Z yX9_forget cX9_forget 3 ((some FieldType.int)) 3 0 0 [.ref h, .int a] [mO h q ab be bl ta tl tk va, (q 0, ia Z 266 (ni A)), (q 3, ia Z 3 (ni Rf))] (fun rr ww => rr = some (.int (zI (z_forget A a))) ∧ ww = [mO h q ab be bl ta tl tk va, (q 0, ia Z 266 (ni (a_forget A a))), (q 3, ia Z 3 (ni (if rgI 0 2 a then Rf else bmp Rf 0)))]) := by
  refine CT.of RX9 false rfl (fun h => by cases h) (by decide +kernel) (Nat.le_of_ble_eq_true rfl) ?_
  intro J hJ hE
  show J 0 [(0, .ref h), (1, .int a)] [] [mO h q ab be bl ta tl tk va, (q 0, ia Z 266 (ni A)), (q 3, ia Z 3 (ni Rf))] 0 0
  obtain ⟨hw, ⟨g1, g2, g3, g4, g8⟩, hrs, hrn, hrm, hpst⟩ := id hg
  obtain ⟨⟨w1, w2, w3, w4, w5, w6⟩, wb, wr, wh, wd⟩ := id hw
  have hb := wb
  have hr_a := zI_rng a
  refine j_iload_n hJ (q := 1) dX9_forget_0 rfl 1 rfl rfl ?_
  refine j_i2l hJ (q := 2) dX9_forget_1 rfl (zL_i _ (zI_of a) (zI_rng a)) ?_
  refine j_lconst hJ (q := 3) (v := zL 0) dX9_forget_2 rfl rfl ?_
  refine j_ldc2 hJ (q := 6) (v' := zL 2) dX9_forget_3 tm_1036 rfl rfl ?_
  refine j_sR hJ (q := 9) (rest := []) (As := [.long (zL a.toInt), .long (zL 0), .long (zL 2)]) jl_X9_53 (c_X9_in Z a.toInt 0 2 (by omega) (by omega) (by omega)) dX9_forget_6 rfl (by decide) (Nat.le_of_ble_eq_true rfl) [] rfl rfl (fun rv hp => ?_)
  obtain rfl := hp
  show J 9 [(0, .ref h), (1, .int a)] [.int (bI (decide (0 ≤ a.toInt ∧ a.toInt ≤ 2)))] [mO h q ab be bl ta tl tk va, (q 0, ia Z 266 (ni A)), (q 3, ia Z 3 (ni Rf))] 0 0
  refine jp_if_ne hJ (q := 12) (tgt := 19) dX9_forget_9 (by decide) rfl (fun c1 => ?_) (fun c1 => ?_)
  · skip
    have hn_a := nt_cast (x := a) (by omega)
    refine j_eql (lvs' := [(0, .ref h), (1, .int (nI (nt a)))]) (by rw [← nt_eq (x := a) (by omega)]) ?_
    refine j_aload_n hJ (q := 20) dX9_forget_19 rfl 0 rfl rfl ?_
    refine j_get hJ (q := 23) jf_X9_7 dX9_forget_20 0 rfl rfl rfl ?_
    refine j_iconst hJ (q := 24) dX9_forget_23 rfl ki_1 ?_
    refine j_iload_n hJ (q := 25) dX9_forget_24 rfl 1 rfl rfl ?_
    refine j_iadd hJ (q := 26) dX9_forget_25 rfl (nI_add _ _) ?_
    refine j_ialdN hJ (q := 27) (z := nI (A (1 + (nt a)))) dX9_forget_26 1 rfl (by omega) (by decide) rfl rfl ?_
    refine j_istore_n hJ (q := 28) (lvs' := [(2, .int (nI (A (1 + (nt a))))), (0, .ref h), (1, .int (nI (nt a)))]) dX9_forget_27 rfl (by decide) rfl rfl ?_
    refine j_aload_n hJ (q := 29) dX9_forget_28 rfl 1 rfl rfl ?_
    refine j_get hJ (q := 32) jf_X9_7 dX9_forget_29 0 rfl rfl rfl ?_
    refine j_iconst hJ (q := 33) dX9_forget_32 rfl ki_1 ?_
    refine j_iload_n hJ (q := 34) dX9_forget_33 rfl 2 rfl rfl ?_
    refine j_iadd hJ (q := 35) dX9_forget_34 rfl (nI_add _ _) ?_
    refine j_iconst hJ (q := 36) dX9_forget_35 rfl ki_0 ?_
    refine j_iastN hJ (q := 37) (ws' := [mO h q ab be bl ta tl tk va, (q 0, ia Z 266 (ni (va_up A (1 + (nt a)) 0))), (q 3, ia Z 3 (ni Rf))]) dX9_forget_36 1 rfl (by omega) (by decide) (ni_up _ _ _) rfl rfl ?_
    refine j_iload_n hJ (q := 38) dX9_forget_37 rfl 0 rfl rfl ?_
    have hP : rgI 0 2 a := by simp only [rgI, isS, isR, pNote, pMark]; omega
    exact hE.1 _ _ _ _ _ _ _ rfl rfl dX9_forget_38 (Nat.le_refl _) (Nat.le_refl _) (⟨congrArg (fun z => some (Value.int z)) ((zI_nat _).symm.trans (congrArg zI (by simp only [z_forget, a_forget, if_pos hP, bmp]))), by simp only [z_forget, a_forget, if_pos hP, bmp]⟩)
  · skip
    refine j_aload_n hJ (q := 13) dX9_forget_12 rfl 0 rfl rfl ?_
    refine j_bipush hJ (q := 15) dX9_forget_13 rfl kb_m2 ?_
    refine j_vW hJ (q := 18) (rest := []) (As := [.int (zI (-2))]) (wr := [(q 0, ia Z 266 (ni A))]) jl_X9_73 (c_X9_bad Z h q ab be bl ta tl tk va Rf (-2) ) 0 rfl rfl dX9_forget_15 rfl (by decide) (Nat.le_of_ble_eq_true rfl) [0, 2] [1] rfl rfl rfl rfl (by decide) rfl (fun rv wv hp => ?_)
    obtain ⟨rfl, rfl⟩ := hp
    refine j_world hJ (ws' := [mO h q ab be bl ta tl tk va, (q 0, ia Z 266 (ni A)), (q 3, ia Z 3 (ni (va_up Rf 0 (Rf 0 + 1))))]) [1, 0, 2] rfl rfl ?_
    show J 18 [(0, .ref h), (1, .int a)] [.int (zI (-2))] [mO h q ab be bl ta tl tk va, (q 0, ia Z 266 (ni A)), (q 3, ia Z 3 (ni (va_up Rf 0 (Rf 0 + 1))))] 0 0
    have hP : ¬ (rgI 0 2 a) := by simp only [rgI, isS, isR, pNote, pMark]; omega
    exact hE.1 _ _ _ _ _ _ _ rfl rfl dX9_forget_18 (Nat.le_refl _) (Nat.le_refl _) (⟨congrArg (fun z => some (Value.int (zI z))) (by simp only [z_forget, a_forget, if_neg hP, bmp]), by simp only [z_forget, a_forget, if_neg hP, bmp]⟩)

set_option maxHeartbeats 4000000 in
set_option maxRecDepth 100000 in
theorem c_X9_seen (Z : jZ) (h : Nat) (q : Nat → Nat) (ab : Int) (be : Int) (bl : Nat) (ta : Nat) (tl : Nat) (tk : Nat) (va : Nat) (A : Nat → Nat) (Rf : Nat → Nat) (a : Int32) (b : Int32) (c : Int32) (d : Int32) (hg : wg A) : CT Z yX9_seen cX9_seen 6 ((some FieldType.int)) 3 0 0 [.ref h, .int a, .int b, .int c, .int d] [mO h q ab be bl ta tl tk va, (q 0, ia Z 266 (ni A)), (q 3, ia Z 3 (ni Rf))] (fun rr ww => rr = some (.int (zI (z_seen A a b c d))) ∧ ww = [mO h q ab be bl ta tl tk va, (q 0, ia Z 266 (ni (a_seen A a b c d))), (q 3, ia Z 3 (ni (r_seen A Rf a b c d)))]) := by
  refine CT.of RX9 false rfl (fun h => by cases h) (by decide +kernel) (Nat.le_of_ble_eq_true rfl) ?_
  intro J hJ hE
  show J 0 [(0, .ref h), (1, .int a), (2, .int b), (3, .int c), (4, .int d)] [] [mO h q ab be bl ta tl tk va, (q 0, ia Z 266 (ni A)), (q 3, ia Z 3 (ni Rf))] 0 0
  obtain ⟨hw, ⟨g1, g2, g3, g4, g8⟩, hrs, hrn, hrm, hpst⟩ := id hg
  obtain ⟨⟨w1, w2, w3, w4, w5, w6⟩, wb, wr, wh, wd⟩ := id hw
  have hb := wb
  have hr_a := zI_rng a
  have hr_b := zI_rng b
  have hr_c := zI_rng c
  have hr_d := zI_rng d
  refine j_aload_n hJ (q := 1) dX9_seen_0 rfl 0 rfl rfl ?_
  refine j_iload_n hJ (q := 2) dX9_seen_1 rfl 1 rfl rfl ?_
  refine j_vR hJ (q := 5) (rest := []) (As := [.int a]) jl_X9_77 (c_X9_isSeat Z h q ab be bl ta tl tk va A a (by omega)) 0 rfl rfl dX9_seen_2 rfl (by decide) (Nat.le_of_ble_eq_true rfl) [0, 1] rfl rfl (fun rv hp => ?_)
  obtain rfl := hp
  show J 5 [(0, .ref h), (1, .int a), (2, .int b), (3, .int c), (4, .int d)] [.int (bI (decide (0 ≤ a.toInt ∧ a.toInt ≤ (A 21 : Int) - 1)))] [mO h q ab be bl ta tl tk va, (q 0, ia Z 266 (ni A)), (q 3, ia Z 3 (ni Rf))] 0 0
  refine jp_if_eq hJ (q := 8) (tgt := 40) dX9_seen_5 (by decide) rfl (fun c1 => ?_) (fun c1 => ?_)
  · skip
    refine j_aload_n hJ (q := 41) dX9_seen_40 rfl 0 rfl rfl ?_
    refine j_bipush hJ (q := 43) dX9_seen_41 rfl kb_m2 ?_
    refine j_vW hJ (q := 46) (rest := []) (As := [.int (zI (-2))]) (wr := [(q 0, ia Z 266 (ni A))]) jl_X9_73 (c_X9_bad Z h q ab be bl ta tl tk va Rf (-2) ) 0 rfl rfl dX9_seen_43 rfl (by decide) (Nat.le_of_ble_eq_true rfl) [0, 2] [1] rfl rfl rfl rfl (by decide) rfl (fun rv wv hp => ?_)
    obtain ⟨rfl, rfl⟩ := hp
    refine j_world hJ (ws' := [mO h q ab be bl ta tl tk va, (q 0, ia Z 266 (ni A)), (q 3, ia Z 3 (ni (va_up Rf 0 (Rf 0 + 1))))]) [1, 0, 2] rfl rfl ?_
    show J 46 [(0, .ref h), (1, .int a), (2, .int b), (3, .int c), (4, .int d)] [.int (zI (-2))] [mO h q ab be bl ta tl tk va, (q 0, ia Z 266 (ni A)), (q 3, ia Z 3 (ni (va_up Rf 0 (Rf 0 + 1))))] 0 0
    have hP : ¬ (isS A a ∧ rgI 0 99 b ∧ rgI 0 3 c ∧ rgI 0 15 d) := by simp only [rgI, isS, isR, pNote, pMark]; omega
    exact hE.1 _ _ _ _ _ _ _ rfl rfl dX9_seen_46 (Nat.le_refl _) (Nat.le_refl _) (⟨congrArg (fun z => some (Value.int (zI z))) (by simp only [z_seen, a_seen, r_seen, if_neg hP, bmp]), by simp only [z_seen, a_seen, r_seen, if_neg hP, bmp]⟩)
  · skip
    refine j_iload_n hJ (q := 9) dX9_seen_8 rfl 2 rfl rfl ?_
    refine j_i2l hJ (q := 10) dX9_seen_9 rfl (zL_i _ (zI_of b) (zI_rng b)) ?_
    refine j_lconst hJ (q := 11) (v := zL 0) dX9_seen_10 rfl rfl ?_
    refine j_ldc2 hJ (q := 14) (v' := zL 99) dX9_seen_11 tm_998 rfl rfl ?_
    refine j_sR hJ (q := 17) (rest := []) (As := [.long (zL b.toInt), .long (zL 0), .long (zL 99)]) jl_X9_53 (c_X9_in Z b.toInt 0 99 (by omega) (by omega) (by omega)) dX9_seen_14 rfl (by decide) (Nat.le_of_ble_eq_true rfl) [] rfl rfl (fun rv hp => ?_)
    obtain rfl := hp
    show J 17 [(0, .ref h), (1, .int a), (2, .int b), (3, .int c), (4, .int d)] [.int (bI (decide (0 ≤ b.toInt ∧ b.toInt ≤ 99)))] [mO h q ab be bl ta tl tk va, (q 0, ia Z 266 (ni A)), (q 3, ia Z 3 (ni Rf))] 0 0
    refine jp_if_eq hJ (q := 20) (tgt := 40) dX9_seen_17 (by decide) rfl (fun c2 => ?_) (fun c2 => ?_)
    · skip
      refine j_aload_n hJ (q := 41) dX9_seen_40 rfl 0 rfl rfl ?_
      refine j_bipush hJ (q := 43) dX9_seen_41 rfl kb_m2 ?_
      refine j_vW hJ (q := 46) (rest := []) (As := [.int (zI (-2))]) (wr := [(q 0, ia Z 266 (ni A))]) jl_X9_73 (c_X9_bad Z h q ab be bl ta tl tk va Rf (-2) ) 0 rfl rfl dX9_seen_43 rfl (by decide) (Nat.le_of_ble_eq_true rfl) [0, 2] [1] rfl rfl rfl rfl (by decide) rfl (fun rv wv hp => ?_)
      obtain ⟨rfl, rfl⟩ := hp
      refine j_world hJ (ws' := [mO h q ab be bl ta tl tk va, (q 0, ia Z 266 (ni A)), (q 3, ia Z 3 (ni (va_up Rf 0 (Rf 0 + 1))))]) [1, 0, 2] rfl rfl ?_
      show J 46 [(0, .ref h), (1, .int a), (2, .int b), (3, .int c), (4, .int d)] [.int (zI (-2))] [mO h q ab be bl ta tl tk va, (q 0, ia Z 266 (ni A)), (q 3, ia Z 3 (ni (va_up Rf 0 (Rf 0 + 1))))] 0 0
      have hP : ¬ (isS A a ∧ rgI 0 99 b ∧ rgI 0 3 c ∧ rgI 0 15 d) := by simp only [rgI, isS, isR, pNote, pMark]; omega
      exact hE.1 _ _ _ _ _ _ _ rfl rfl dX9_seen_46 (Nat.le_refl _) (Nat.le_refl _) (⟨congrArg (fun z => some (Value.int (zI z))) (by simp only [z_seen, a_seen, r_seen, if_neg hP, bmp]), by simp only [z_seen, a_seen, r_seen, if_neg hP, bmp]⟩)
    · skip
      refine j_iload_n hJ (q := 21) dX9_seen_20 rfl 3 rfl rfl ?_
      refine j_sR hJ (q := 24) (rest := []) (As := [.int c]) jl_X9_69 (c_X9_isSpeed Z c ) dX9_seen_21 rfl (by decide) (Nat.le_of_ble_eq_true rfl) [] rfl rfl (fun rv hp => ?_)
      obtain rfl := hp
      show J 24 [(0, .ref h), (1, .int a), (2, .int b), (3, .int c), (4, .int d)] [.int (bI (decide (0 ≤ c.toInt ∧ c.toInt ≤ 3)))] [mO h q ab be bl ta tl tk va, (q 0, ia Z 266 (ni A)), (q 3, ia Z 3 (ni Rf))] 0 0
      refine jp_if_eq hJ (q := 27) (tgt := 40) dX9_seen_24 (by decide) rfl (fun c3 => ?_) (fun c3 => ?_)
      · skip
        refine j_aload_n hJ (q := 41) dX9_seen_40 rfl 0 rfl rfl ?_
        refine j_bipush hJ (q := 43) dX9_seen_41 rfl kb_m2 ?_
        refine j_vW hJ (q := 46) (rest := []) (As := [.int (zI (-2))]) (wr := [(q 0, ia Z 266 (ni A))]) jl_X9_73 (c_X9_bad Z h q ab be bl ta tl tk va Rf (-2) ) 0 rfl rfl dX9_seen_43 rfl (by decide) (Nat.le_of_ble_eq_true rfl) [0, 2] [1] rfl rfl rfl rfl (by decide) rfl (fun rv wv hp => ?_)
        obtain ⟨rfl, rfl⟩ := hp
        refine j_world hJ (ws' := [mO h q ab be bl ta tl tk va, (q 0, ia Z 266 (ni A)), (q 3, ia Z 3 (ni (va_up Rf 0 (Rf 0 + 1))))]) [1, 0, 2] rfl rfl ?_
        show J 46 [(0, .ref h), (1, .int a), (2, .int b), (3, .int c), (4, .int d)] [.int (zI (-2))] [mO h q ab be bl ta tl tk va, (q 0, ia Z 266 (ni A)), (q 3, ia Z 3 (ni (va_up Rf 0 (Rf 0 + 1))))] 0 0
        have hP : ¬ (isS A a ∧ rgI 0 99 b ∧ rgI 0 3 c ∧ rgI 0 15 d) := by simp only [rgI, isS, isR, pNote, pMark]; omega
        exact hE.1 _ _ _ _ _ _ _ rfl rfl dX9_seen_46 (Nat.le_refl _) (Nat.le_refl _) (⟨congrArg (fun z => some (Value.int (zI z))) (by simp only [z_seen, a_seen, r_seen, if_neg hP, bmp]), by simp only [z_seen, a_seen, r_seen, if_neg hP, bmp]⟩)
      · skip
        refine j_iload hJ (q := 29) dX9_seen_27 4 rfl rfl ?_
        refine j_i2l hJ (q := 30) dX9_seen_29 rfl (zL_i _ (zI_of d) (zI_rng d)) ?_
        refine j_lconst hJ (q := 31) (v := zL 0) dX9_seen_30 rfl rfl ?_
        refine j_ldc2 hJ (q := 34) (v' := zL 15) dX9_seen_31 tm_999 rfl rfl ?_
        refine j_sR hJ (q := 37) (rest := []) (As := [.long (zL d.toInt), .long (zL 0), .long (zL 15)]) jl_X9_53 (c_X9_in Z d.toInt 0 15 (by omega) (by omega) (by omega)) dX9_seen_34 rfl (by decide) (Nat.le_of_ble_eq_true rfl) [] rfl rfl (fun rv hp => ?_)
        obtain rfl := hp
        show J 37 [(0, .ref h), (1, .int a), (2, .int b), (3, .int c), (4, .int d)] [.int (bI (decide (0 ≤ d.toInt ∧ d.toInt ≤ 15)))] [mO h q ab be bl ta tl tk va, (q 0, ia Z 266 (ni A)), (q 3, ia Z 3 (ni Rf))] 0 0
        refine jp_if_ne hJ (q := 40) (tgt := 47) dX9_seen_37 (by decide) rfl (fun c4 => ?_) (fun c4 => ?_)
        · skip
          have hn_a := nt_cast (x := a) (by omega)
          refine j_eql (lvs' := [(0, .ref h), (1, .int (nI (nt a))), (2, .int b), (3, .int c), (4, .int d)]) (by rw [← nt_eq (x := a) (by omega)]) ?_
          have hn_b := nt_cast (x := b) (by omega)
          refine j_eql (lvs' := [(0, .ref h), (1, .int (nI (nt a))), (2, .int (nI (nt b))), (3, .int c), (4, .int d)]) (by rw [← nt_eq (x := b) (by omega)]) ?_
          have hn_c := nt_cast (x := c) (by omega)
          refine j_eql (lvs' := [(0, .ref h), (1, .int (nI (nt a))), (2, .int (nI (nt b))), (3, .int (nI (nt c))), (4, .int d)]) (by rw [← nt_eq (x := c) (by omega)]) ?_
          have hn_d := nt_cast (x := d) (by omega)
          refine j_eql (lvs' := [(0, .ref h), (1, .int (nI (nt a))), (2, .int (nI (nt b))), (3, .int (nI (nt c))), (4, .int (nI (nt d)))]) (by rw [← nt_eq (x := d) (by omega)]) ?_
          refine j_aload_n hJ (q := 48) dX9_seen_47 rfl 0 rfl rfl ?_
          refine j_get hJ (q := 51) jf_X9_7 dX9_seen_48 0 rfl rfl rfl ?_
          refine j_iconst hJ (q := 52) dX9_seen_51 rfl ki_1 ?_
          refine j_ialdN hJ (q := 53) (z := nI (A 1)) dX9_seen_52 1 rfl (by decide) (by decide) rfl rfl ?_
          refine j_iconst hJ (q := 54) dX9_seen_53 rfl ki_5 ?_
          refine jn_icmp_ne hJ (q := 57) (tgt := 62) dX9_seen_54 (by decide) rfl (by omega) (by omega) (fun c5 => ?_) (fun c5 => ?_)
          · skip
            refine j_bipush hJ (q := 64) dX9_seen_62 rfl kb_58 ?_
            refine j_iconst hJ (q := 65) dX9_seen_64 rfl ki_4 ?_
            refine j_aload_n hJ (q := 66) dX9_seen_65 rfl 0 rfl rfl ?_
            refine j_get hJ (q := 69) jf_X9_7 dX9_seen_66 0 rfl rfl rfl ?_
            refine j_iconst hJ (q := 70) dX9_seen_69 rfl ki_1 ?_
            refine j_ialdN hJ (q := 71) (z := nI (A 1)) dX9_seen_70 1 rfl (by decide) (by decide) rfl rfl ?_
            refine j_imul hJ (q := 72) dX9_seen_71 rfl (pk_mul _ _) ?_
            refine j_iadd hJ (q := 73) dX9_seen_72 rfl (nI_add _ _) ?_
            refine j_istore hJ (q := 75) (lvs' := [(5, .int (nI (58 + (4 * (A 1))))), (0, .ref h), (1, .int (nI (nt a))), (2, .int (nI (nt b))), (3, .int (nI (nt c))), (4, .int (nI (nt d)))]) dX9_seen_73 (by decide) rfl rfl ?_
            refine j_aload_n hJ (q := 76) dX9_seen_75 rfl 1 rfl rfl ?_
            refine j_get hJ (q := 79) jf_X9_7 dX9_seen_76 0 rfl rfl rfl ?_
            refine j_iload hJ (q := 81) dX9_seen_79 0 rfl rfl ?_
            refine j_iload_n hJ (q := 82) dX9_seen_81 rfl 2 rfl rfl ?_
            refine j_iastN hJ (q := 83) (ws' := [mO h q ab be bl ta tl tk va, (q 0, ia Z 266 (ni (va_up A (58 + (4 * (A 1))) (nt a)))), (q 3, ia Z 3 (ni Rf))]) dX9_seen_82 1 rfl (by omega) (by decide) (ni_up _ _ _) rfl rfl ?_
            refine j_aload_n hJ (q := 84) dX9_seen_83 rfl 1 rfl rfl ?_
            refine j_get hJ (q := 87) jf_X9_7 dX9_seen_84 0 rfl rfl rfl ?_
            refine j_iload hJ (q := 89) dX9_seen_87 0 rfl rfl ?_
            refine j_iconst hJ (q := 90) dX9_seen_89 rfl ki_1 ?_
            refine j_iadd hJ (q := 91) dX9_seen_90 rfl (nI_add _ _) ?_
            refine j_iload_n hJ (q := 92) dX9_seen_91 rfl 3 rfl rfl ?_
            refine j_iastN hJ (q := 93) (ws' := [mO h q ab be bl ta tl tk va, (q 0, ia Z 266 (ni (va_up (va_up A (58 + (4 * (A 1))) (nt a)) (58 + (4 * (A 1)) + 1) (nt b)))), (q 3, ia Z 3 (ni Rf))]) dX9_seen_92 1 rfl (by omega) (by decide) (ni_up _ _ _) rfl rfl ?_
            refine j_aload_n hJ (q := 94) dX9_seen_93 rfl 1 rfl rfl ?_
            refine j_get hJ (q := 97) jf_X9_7 dX9_seen_94 0 rfl rfl rfl ?_
            refine j_iload hJ (q := 99) dX9_seen_97 0 rfl rfl ?_
            refine j_iconst hJ (q := 100) dX9_seen_99 rfl ki_2 ?_
            refine j_iadd hJ (q := 101) dX9_seen_100 rfl (nI_add _ _) ?_
            refine j_iload_n hJ (q := 102) dX9_seen_101 rfl 4 rfl rfl ?_
            refine j_iastN hJ (q := 103) (ws' := [mO h q ab be bl ta tl tk va, (q 0, ia Z 266 (ni (va_up (va_up (va_up A (58 + (4 * (A 1))) (nt a)) (58 + (4 * (A 1)) + 1) (nt b)) (58 + (4 * (A 1)) + 2) (nt c)))), (q 3, ia Z 3 (ni Rf))]) dX9_seen_102 1 rfl (by omega) (by decide) (ni_up _ _ _) rfl rfl ?_
            refine j_aload_n hJ (q := 104) dX9_seen_103 rfl 1 rfl rfl ?_
            refine j_get hJ (q := 107) jf_X9_7 dX9_seen_104 0 rfl rfl rfl ?_
            refine j_iload hJ (q := 109) dX9_seen_107 0 rfl rfl ?_
            refine j_iconst hJ (q := 110) dX9_seen_109 rfl ki_3 ?_
            refine j_iadd hJ (q := 111) dX9_seen_110 rfl (nI_add _ _) ?_
            refine j_iload hJ (q := 113) dX9_seen_111 5 rfl rfl ?_
            refine j_iastN hJ (q := 114) (ws' := [mO h q ab be bl ta tl tk va, (q 0, ia Z 266 (ni (va_up (va_up (va_up (va_up A (58 + (4 * (A 1))) (nt a)) (58 + (4 * (A 1)) + 1) (nt b)) (58 + (4 * (A 1)) + 2) (nt c)) (58 + (4 * (A 1)) + 3) (nt d)))), (q 3, ia Z 3 (ni Rf))]) dX9_seen_113 1 rfl (by omega) (by decide) (ni_up _ _ _) rfl rfl ?_
            obtain ⟨C, e_C⟩ : ∃ z : Nat → Nat, z = lay4 A (58 + 4 * A 1) (nt a) (nt b) (nt c) (nt d) := ⟨_, rfl⟩
            refine j_eqw (ws' := [mO h q ab be bl ta tl tk va, (q 0, ia Z 266 (ni C)), (q 3, ia Z 3 (ni Rf))]) (by subst e_C; rfl) ?_
            have hC1 : C 1 = A 1 := by rw [e_C]; simp only [lay4, va_up]; rw [if_neg (by omega), if_neg (by omega), if_neg (by omega), if_neg (by omega)]
            refine j_aload_n hJ (q := 115) dX9_seen_114 rfl 1 rfl rfl ?_
            refine j_get hJ (q := 118) jf_X9_7 dX9_seen_115 0 rfl rfl rfl ?_
            refine j_iconst hJ (q := 119) dX9_seen_118 rfl ki_1 ?_
            refine j_dup2 hJ (q := 120) dX9_seen_119 rfl rfl rfl ?_
            refine j_ialdN hJ (q := 121) (z := nI (C 1)) dX9_seen_120 1 rfl (by decide) (by decide) rfl rfl ?_
            refine j_iconst hJ (q := 122) dX9_seen_121 rfl ki_1 ?_
            refine j_iadd hJ (q := 123) dX9_seen_122 rfl (nI_add _ _) ?_
            refine j_iastN hJ (q := 124) (ws' := [mO h q ab be bl ta tl tk va, (q 0, ia Z 266 (ni (va_up C 1 (C 1 + 1)))), (q 3, ia Z 3 (ni Rf))]) dX9_seen_123 1 rfl (by decide) (by decide) (ni_up _ _ _) rfl rfl ?_
            refine j_aload_n hJ (q := 125) dX9_seen_124 rfl 1 rfl rfl ?_
            refine j_get hJ (q := 128) jf_X9_7 dX9_seen_125 0 rfl rfl rfl ?_
            refine j_iconst hJ (q := 129) dX9_seen_128 rfl ki_1 ?_
            refine j_ialdN hJ (q := 130) (z := nI (C 1 + 1)) dX9_seen_129 1 rfl (by decide) (by decide) rfl rfl ?_
            have hP : isS A a ∧ rgI 0 99 b ∧ rgI 0 3 c ∧ rgI 0 15 d := by simp only [rgI, isS, isR, pNote, pMark]; omega
            have hQ0 : ¬ (A 1 = 5) := by omega
            exact hE.1 _ _ _ _ _ _ _ rfl rfl dX9_seen_130 (Nat.le_refl _) (Nat.le_refl _) (⟨congrArg (fun z => some (Value.int z)) ((zI_nat _).symm.trans (congrArg zI (by simp only [z_seen, if_pos hP, if_neg hQ0]; omega))), by rw [hC1, e_C]; simp only [a_seen, r_seen, if_pos hP, if_neg hQ0]⟩)
          · skip
            refine j_aload_n hJ (q := 58) dX9_seen_57 rfl 0 rfl rfl ?_
            refine j_vW hJ (q := 61) (rest := []) (As := []) (wr := [(q 0, ia Z 266 (ni A))]) jl_X9_96 (c_X9_full Z h q ab be bl ta tl tk va Rf ) 0 rfl rfl dX9_seen_58 rfl (by decide) (Nat.le_of_ble_eq_true rfl) [0, 2] [1] rfl rfl rfl rfl (by decide) rfl (fun rv wv hp => ?_)
            obtain ⟨rfl, rfl⟩ := hp
            refine j_world hJ (ws' := [mO h q ab be bl ta tl tk va, (q 0, ia Z 266 (ni A)), (q 3, ia Z 3 (ni (va_up Rf 2 (Rf 2 + 1))))]) [1, 0, 2] rfl rfl ?_
            show J 61 [(0, .ref h), (1, .int (nI (nt a))), (2, .int (nI (nt b))), (3, .int (nI (nt c))), (4, .int (nI (nt d)))] [.int (zI (-4))] [mO h q ab be bl ta tl tk va, (q 0, ia Z 266 (ni A)), (q 3, ia Z 3 (ni (va_up Rf 2 (Rf 2 + 1))))] 0 0
            have hP : isS A a ∧ rgI 0 99 b ∧ rgI 0 3 c ∧ rgI 0 15 d := by simp only [rgI, isS, isR, pNote, pMark]; omega
            have hQ0 : A 1 = 5 := by omega
            exact hE.1 _ _ _ _ _ _ _ rfl rfl dX9_seen_61 (Nat.le_refl _) (Nat.le_refl _) (⟨congrArg (fun z => some (Value.int (zI z))) (by simp only [z_seen, a_seen, r_seen, if_pos hP, if_pos hQ0, bmp]), by simp only [z_seen, a_seen, r_seen, if_pos hP, if_pos hQ0, bmp]⟩)
        · skip
          refine j_aload_n hJ (q := 41) dX9_seen_40 rfl 0 rfl rfl ?_
          refine j_bipush hJ (q := 43) dX9_seen_41 rfl kb_m2 ?_
          refine j_vW hJ (q := 46) (rest := []) (As := [.int (zI (-2))]) (wr := [(q 0, ia Z 266 (ni A))]) jl_X9_73 (c_X9_bad Z h q ab be bl ta tl tk va Rf (-2) ) 0 rfl rfl dX9_seen_43 rfl (by decide) (Nat.le_of_ble_eq_true rfl) [0, 2] [1] rfl rfl rfl rfl (by decide) rfl (fun rv wv hp => ?_)
          obtain ⟨rfl, rfl⟩ := hp
          refine j_world hJ (ws' := [mO h q ab be bl ta tl tk va, (q 0, ia Z 266 (ni A)), (q 3, ia Z 3 (ni (va_up Rf 0 (Rf 0 + 1))))]) [1, 0, 2] rfl rfl ?_
          show J 46 [(0, .ref h), (1, .int a), (2, .int b), (3, .int c), (4, .int d)] [.int (zI (-2))] [mO h q ab be bl ta tl tk va, (q 0, ia Z 266 (ni A)), (q 3, ia Z 3 (ni (va_up Rf 0 (Rf 0 + 1))))] 0 0
          have hP : ¬ (isS A a ∧ rgI 0 99 b ∧ rgI 0 3 c ∧ rgI 0 15 d) := by simp only [rgI, isS, isR, pNote, pMark]; omega
          exact hE.1 _ _ _ _ _ _ _ rfl rfl dX9_seen_46 (Nat.le_refl _) (Nat.le_refl _) (⟨congrArg (fun z => some (Value.int (zI z))) (by simp only [z_seen, a_seen, r_seen, if_neg hP, bmp]), by simp only [z_seen, a_seen, r_seen, if_neg hP, bmp]⟩)

set_option maxHeartbeats 4000000 in
set_option maxRecDepth 100000 in
theorem c_X9_note (Z : jZ) (h : Nat) (q : Nat → Nat) (ab : Int) (be : Int) (bl : Nat) (ta : Nat) (tl : Nat) (tk : Nat) (va : Nat) (A : Nat → Nat) (Rf : Nat → Nat) (a : Int32) (b : Int32) (c : Int32) (d : Int32) (e : Int32) (hg : wg A) : CT Z yX9_note cX9_note 6 ((some FieldType.int)) 3 0 0 [.ref h, .int a, .int b, .int c, .int d, .int e] [mO h q ab be bl ta tl tk va, (q 0, ia Z 266 (ni A)), (q 3, ia Z 3 (ni Rf))] (fun rr ww => rr = some (.int (zI (z_note A a b c d e))) ∧ ww = [mO h q ab be bl ta tl tk va, (q 0, ia Z 266 (ni (a_note A a b c d e))), (q 3, ia Z 3 (ni (r_note A Rf a b c d e)))]) := by
  refine CT.of RX9 false rfl (fun h => by cases h) (by decide +kernel) (Nat.le_of_ble_eq_true rfl) ?_
  intro J hJ hE
  show J 0 [(0, .ref h), (1, .int a), (2, .int b), (3, .int c), (4, .int d), (5, .int e)] [] [mO h q ab be bl ta tl tk va, (q 0, ia Z 266 (ni A)), (q 3, ia Z 3 (ni Rf))] 0 0
  obtain ⟨hw, ⟨g1, g2, g3, g4, g8⟩, hrs, hrn, hrm, hpst⟩ := id hg
  obtain ⟨⟨w1, w2, w3, w4, w5, w6⟩, wb, wr, wh, wd⟩ := id hw
  have hb := wb
  have hr_a := zI_rng a
  have hr_b := zI_rng b
  have hr_c := zI_rng c
  have hr_d := zI_rng d
  have hr_e := zI_rng e
  refine j_aload_n hJ (q := 1) dX9_note_0 rfl 0 rfl rfl ?_
  refine j_iload_n hJ (q := 2) dX9_note_1 rfl 1 rfl rfl ?_
  refine j_vR hJ (q := 5) (rest := []) (As := [.int a]) jl_X9_77 (c_X9_isSeat Z h q ab be bl ta tl tk va A a (by omega)) 0 rfl rfl dX9_note_2 rfl (by decide) (Nat.le_of_ble_eq_true rfl) [0, 1] rfl rfl (fun rv hp => ?_)
  obtain rfl := hp
  show J 5 [(0, .ref h), (1, .int a), (2, .int b), (3, .int c), (4, .int d), (5, .int e)] [.int (bI (decide (0 ≤ a.toInt ∧ a.toInt ≤ (A 21 : Int) - 1)))] [mO h q ab be bl ta tl tk va, (q 0, ia Z 266 (ni A)), (q 3, ia Z 3 (ni Rf))] 0 0
  refine jp_if_eq hJ (q := 8) (tgt := 48) dX9_note_5 (by decide) rfl (fun c1 => ?_) (fun c1 => ?_)
  · skip
    refine j_aload_n hJ (q := 49) dX9_note_48 rfl 0 rfl rfl ?_
    refine j_bipush hJ (q := 51) dX9_note_49 rfl kb_m2 ?_
    refine j_vW hJ (q := 54) (rest := []) (As := [.int (zI (-2))]) (wr := [(q 0, ia Z 266 (ni A))]) jl_X9_73 (c_X9_bad Z h q ab be bl ta tl tk va Rf (-2) ) 0 rfl rfl dX9_note_51 rfl (by decide) (Nat.le_of_ble_eq_true rfl) [0, 2] [1] rfl rfl rfl rfl (by decide) rfl (fun rv wv hp => ?_)
    obtain ⟨rfl, rfl⟩ := hp
    refine j_world hJ (ws' := [mO h q ab be bl ta tl tk va, (q 0, ia Z 266 (ni A)), (q 3, ia Z 3 (ni (va_up Rf 0 (Rf 0 + 1))))]) [1, 0, 2] rfl rfl ?_
    show J 54 [(0, .ref h), (1, .int a), (2, .int b), (3, .int c), (4, .int d), (5, .int e)] [.int (zI (-2))] [mO h q ab be bl ta tl tk va, (q 0, ia Z 266 (ni A)), (q 3, ia Z 3 (ni (va_up Rf 0 (Rf 0 + 1))))] 0 0
    have hP : ¬ (pNote A a b c d e) := by simp only [rgI, isS, isR, pNote, pMark]; omega
    exact hE.1 _ _ _ _ _ _ _ rfl rfl dX9_note_54 (Nat.le_refl _) (Nat.le_refl _) (⟨congrArg (fun z => some (Value.int (zI z))) (by simp only [z_note, a_note, r_note, if_neg hP, bmp]), by simp only [z_note, a_note, r_note, if_neg hP, bmp]⟩)
  · skip
    refine j_iload_n hJ (q := 9) dX9_note_8 rfl 2 rfl rfl ?_
    refine j_sR hJ (q := 12) (rest := []) (As := [.int b]) jl_X9_83 (c_X9_isPhase Z b ) dX9_note_9 rfl (by decide) (Nat.le_of_ble_eq_true rfl) [] rfl rfl (fun rv hp => ?_)
    obtain rfl := hp
    show J 12 [(0, .ref h), (1, .int a), (2, .int b), (3, .int c), (4, .int d), (5, .int e)] [.int (bI (decide (0 ≤ b.toInt ∧ b.toInt ≤ 7)))] [mO h q ab be bl ta tl tk va, (q 0, ia Z 266 (ni A)), (q 3, ia Z 3 (ni Rf))] 0 0
    refine jp_if_eq hJ (q := 15) (tgt := 48) dX9_note_12 (by decide) rfl (fun c2 => ?_) (fun c2 => ?_)
    · skip
      refine j_aload_n hJ (q := 49) dX9_note_48 rfl 0 rfl rfl ?_
      refine j_bipush hJ (q := 51) dX9_note_49 rfl kb_m2 ?_
      refine j_vW hJ (q := 54) (rest := []) (As := [.int (zI (-2))]) (wr := [(q 0, ia Z 266 (ni A))]) jl_X9_73 (c_X9_bad Z h q ab be bl ta tl tk va Rf (-2) ) 0 rfl rfl dX9_note_51 rfl (by decide) (Nat.le_of_ble_eq_true rfl) [0, 2] [1] rfl rfl rfl rfl (by decide) rfl (fun rv wv hp => ?_)
      obtain ⟨rfl, rfl⟩ := hp
      refine j_world hJ (ws' := [mO h q ab be bl ta tl tk va, (q 0, ia Z 266 (ni A)), (q 3, ia Z 3 (ni (va_up Rf 0 (Rf 0 + 1))))]) [1, 0, 2] rfl rfl ?_
      show J 54 [(0, .ref h), (1, .int a), (2, .int b), (3, .int c), (4, .int d), (5, .int e)] [.int (zI (-2))] [mO h q ab be bl ta tl tk va, (q 0, ia Z 266 (ni A)), (q 3, ia Z 3 (ni (va_up Rf 0 (Rf 0 + 1))))] 0 0
      have hP : ¬ (pNote A a b c d e) := by simp only [rgI, isS, isR, pNote, pMark]; omega
      exact hE.1 _ _ _ _ _ _ _ rfl rfl dX9_note_54 (Nat.le_refl _) (Nat.le_refl _) (⟨congrArg (fun z => some (Value.int (zI z))) (by simp only [z_note, a_note, r_note, if_neg hP, bmp]), by simp only [z_note, a_note, r_note, if_neg hP, bmp]⟩)
    · skip
      refine j_iload_n hJ (q := 16) dX9_note_15 rfl 3 rfl rfl ?_
      refine j_i2l hJ (q := 17) dX9_note_16 rfl (zL_i _ (zI_of c) (zI_rng c)) ?_
      refine j_lconst hJ (q := 18) (v := zL 0) dX9_note_17 rfl rfl ?_
      refine j_ldc2 hJ (q := 21) (v' := zL 99) dX9_note_18 tm_998 rfl rfl ?_
      refine j_sR hJ (q := 24) (rest := []) (As := [.long (zL c.toInt), .long (zL 0), .long (zL 99)]) jl_X9_53 (c_X9_in Z c.toInt 0 99 (by omega) (by omega) (by omega)) dX9_note_21 rfl (by decide) (Nat.le_of_ble_eq_true rfl) [] rfl rfl (fun rv hp => ?_)
      obtain rfl := hp
      show J 24 [(0, .ref h), (1, .int a), (2, .int b), (3, .int c), (4, .int d), (5, .int e)] [.int (bI (decide (0 ≤ c.toInt ∧ c.toInt ≤ 99)))] [mO h q ab be bl ta tl tk va, (q 0, ia Z 266 (ni A)), (q 3, ia Z 3 (ni Rf))] 0 0
      refine jp_if_eq hJ (q := 27) (tgt := 48) dX9_note_24 (by decide) rfl (fun c3 => ?_) (fun c3 => ?_)
      · skip
        refine j_aload_n hJ (q := 49) dX9_note_48 rfl 0 rfl rfl ?_
        refine j_bipush hJ (q := 51) dX9_note_49 rfl kb_m2 ?_
        refine j_vW hJ (q := 54) (rest := []) (As := [.int (zI (-2))]) (wr := [(q 0, ia Z 266 (ni A))]) jl_X9_73 (c_X9_bad Z h q ab be bl ta tl tk va Rf (-2) ) 0 rfl rfl dX9_note_51 rfl (by decide) (Nat.le_of_ble_eq_true rfl) [0, 2] [1] rfl rfl rfl rfl (by decide) rfl (fun rv wv hp => ?_)
        obtain ⟨rfl, rfl⟩ := hp
        refine j_world hJ (ws' := [mO h q ab be bl ta tl tk va, (q 0, ia Z 266 (ni A)), (q 3, ia Z 3 (ni (va_up Rf 0 (Rf 0 + 1))))]) [1, 0, 2] rfl rfl ?_
        show J 54 [(0, .ref h), (1, .int a), (2, .int b), (3, .int c), (4, .int d), (5, .int e)] [.int (zI (-2))] [mO h q ab be bl ta tl tk va, (q 0, ia Z 266 (ni A)), (q 3, ia Z 3 (ni (va_up Rf 0 (Rf 0 + 1))))] 0 0
        have hP : ¬ (pNote A a b c d e) := by simp only [rgI, isS, isR, pNote, pMark]; omega
        exact hE.1 _ _ _ _ _ _ _ rfl rfl dX9_note_54 (Nat.le_refl _) (Nat.le_refl _) (⟨congrArg (fun z => some (Value.int (zI z))) (by simp only [z_note, a_note, r_note, if_neg hP, bmp]), by simp only [z_note, a_note, r_note, if_neg hP, bmp]⟩)
      · skip
        refine j_iload hJ (q := 29) dX9_note_27 4 rfl rfl ?_
        refine j_sR hJ (q := 32) (rest := []) (As := [.int d]) jl_X9_69 (c_X9_isSpeed Z d ) dX9_note_29 rfl (by decide) (Nat.le_of_ble_eq_true rfl) [] rfl rfl (fun rv hp => ?_)
        obtain rfl := hp
        show J 32 [(0, .ref h), (1, .int a), (2, .int b), (3, .int c), (4, .int d), (5, .int e)] [.int (bI (decide (0 ≤ d.toInt ∧ d.toInt ≤ 3)))] [mO h q ab be bl ta tl tk va, (q 0, ia Z 266 (ni A)), (q 3, ia Z 3 (ni Rf))] 0 0
        refine jp_if_eq hJ (q := 35) (tgt := 48) dX9_note_32 (by decide) rfl (fun c4 => ?_) (fun c4 => ?_)
        · skip
          refine j_aload_n hJ (q := 49) dX9_note_48 rfl 0 rfl rfl ?_
          refine j_bipush hJ (q := 51) dX9_note_49 rfl kb_m2 ?_
          refine j_vW hJ (q := 54) (rest := []) (As := [.int (zI (-2))]) (wr := [(q 0, ia Z 266 (ni A))]) jl_X9_73 (c_X9_bad Z h q ab be bl ta tl tk va Rf (-2) ) 0 rfl rfl dX9_note_51 rfl (by decide) (Nat.le_of_ble_eq_true rfl) [0, 2] [1] rfl rfl rfl rfl (by decide) rfl (fun rv wv hp => ?_)
          obtain ⟨rfl, rfl⟩ := hp
          refine j_world hJ (ws' := [mO h q ab be bl ta tl tk va, (q 0, ia Z 266 (ni A)), (q 3, ia Z 3 (ni (va_up Rf 0 (Rf 0 + 1))))]) [1, 0, 2] rfl rfl ?_
          show J 54 [(0, .ref h), (1, .int a), (2, .int b), (3, .int c), (4, .int d), (5, .int e)] [.int (zI (-2))] [mO h q ab be bl ta tl tk va, (q 0, ia Z 266 (ni A)), (q 3, ia Z 3 (ni (va_up Rf 0 (Rf 0 + 1))))] 0 0
          have hP : ¬ (pNote A a b c d e) := by simp only [rgI, isS, isR, pNote, pMark]; omega
          exact hE.1 _ _ _ _ _ _ _ rfl rfl dX9_note_54 (Nat.le_refl _) (Nat.le_refl _) (⟨congrArg (fun z => some (Value.int (zI z))) (by simp only [z_note, a_note, r_note, if_neg hP, bmp]), by simp only [z_note, a_note, r_note, if_neg hP, bmp]⟩)
        · skip
          refine j_iload hJ (q := 37) dX9_note_35 5 rfl rfl ?_
          refine j_i2l hJ (q := 38) dX9_note_37 rfl (zL_i _ (zI_of e) (zI_rng e)) ?_
          refine j_lconst hJ (q := 39) (v := zL 0) dX9_note_38 rfl rfl ?_
          refine j_ldc2 hJ (q := 42) (v' := zL 15) dX9_note_39 tm_999 rfl rfl ?_
          refine j_sR hJ (q := 45) (rest := []) (As := [.long (zL e.toInt), .long (zL 0), .long (zL 15)]) jl_X9_53 (c_X9_in Z e.toInt 0 15 (by omega) (by omega) (by omega)) dX9_note_42 rfl (by decide) (Nat.le_of_ble_eq_true rfl) [] rfl rfl (fun rv hp => ?_)
          obtain rfl := hp
          show J 45 [(0, .ref h), (1, .int a), (2, .int b), (3, .int c), (4, .int d), (5, .int e)] [.int (bI (decide (0 ≤ e.toInt ∧ e.toInt ≤ 15)))] [mO h q ab be bl ta tl tk va, (q 0, ia Z 266 (ni A)), (q 3, ia Z 3 (ni Rf))] 0 0
          refine jp_if_ne hJ (q := 48) (tgt := 55) dX9_note_45 (by decide) rfl (fun c5 => ?_) (fun c5 => ?_)
          · skip
            have hn_a := nt_cast (x := a) (by omega)
            refine j_eql (lvs' := [(0, .ref h), (1, .int (nI (nt a))), (2, .int b), (3, .int c), (4, .int d), (5, .int e)]) (by rw [← nt_eq (x := a) (by omega)]) ?_
            have hn_b := nt_cast (x := b) (by omega)
            refine j_eql (lvs' := [(0, .ref h), (1, .int (nI (nt a))), (2, .int (nI (nt b))), (3, .int c), (4, .int d), (5, .int e)]) (by rw [← nt_eq (x := b) (by omega)]) ?_
            have hn_c := nt_cast (x := c) (by omega)
            refine j_eql (lvs' := [(0, .ref h), (1, .int (nI (nt a))), (2, .int (nI (nt b))), (3, .int (nI (nt c))), (4, .int d), (5, .int e)]) (by rw [← nt_eq (x := c) (by omega)]) ?_
            have hn_d := nt_cast (x := d) (by omega)
            refine j_eql (lvs' := [(0, .ref h), (1, .int (nI (nt a))), (2, .int (nI (nt b))), (3, .int (nI (nt c))), (4, .int (nI (nt d))), (5, .int e)]) (by rw [← nt_eq (x := d) (by omega)]) ?_
            have hn_e := nt_cast (x := e) (by omega)
            refine j_eql (lvs' := [(0, .ref h), (1, .int (nI (nt a))), (2, .int (nI (nt b))), (3, .int (nI (nt c))), (4, .int (nI (nt d))), (5, .int (nI (nt e)))]) (by rw [← nt_eq (x := e) (by omega)]) ?_
            refine j_aload_n hJ (q := 56) dX9_note_55 rfl 0 rfl rfl ?_
            refine j_get hJ (q := 59) jf_X9_7 dX9_note_56 0 rfl rfl rfl ?_
            refine j_iconst hJ (q := 60) dX9_note_59 rfl ki_2 ?_
            refine j_ialdN hJ (q := 61) (z := nI (A 2)) dX9_note_60 1 rfl (by decide) (by decide) rfl rfl ?_
            refine j_bipush hJ (q := 63) dX9_note_61 rfl kb_6 ?_
            refine jn_icmp_ne hJ (q := 66) (tgt := 71) dX9_note_63 (by decide) rfl (by omega) (by omega) (fun c6 => ?_) (fun c6 => ?_)
            · skip
              refine j_aload_n hJ (q := 72) dX9_note_71 rfl 0 rfl rfl ?_
              refine j_bipush hJ (q := 74) dX9_note_72 rfl kb_78 ?_
              refine j_iconst hJ (q := 75) dX9_note_74 rfl ki_5 ?_
              refine j_aload_n hJ (q := 76) dX9_note_75 rfl 0 rfl rfl ?_
              refine j_get hJ (q := 79) jf_X9_7 dX9_note_76 0 rfl rfl rfl ?_
              refine j_iconst hJ (q := 80) dX9_note_79 rfl ki_2 ?_
              refine j_ialdN hJ (q := 81) (z := nI (A 2)) dX9_note_80 1 rfl (by decide) (by decide) rfl rfl ?_
              refine j_imul hJ (q := 82) dX9_note_81 rfl (pk_mul _ _) ?_
              refine j_iadd hJ (q := 83) dX9_note_82 rfl (nI_add _ _) ?_
              refine j_iload_n hJ (q := 84) dX9_note_83 rfl 1 rfl rfl ?_
              refine j_iload_n hJ (q := 85) dX9_note_84 rfl 2 rfl rfl ?_
              refine j_iload_n hJ (q := 86) dX9_note_85 rfl 3 rfl rfl ?_
              refine j_iload hJ (q := 88) dX9_note_86 4 rfl rfl ?_
              refine j_iload hJ (q := 90) dX9_note_88 5 rfl rfl ?_
              refine j_vW hJ (q := 93) (rest := []) (As := [.int (nI (78 + (5 * (A 2)))), .int (nI (nt a)), .int (nI (nt b)), .int (nI (nt c)), .int (nI (nt d)), .int (nI (nt e))]) (wr := [(q 3, ia Z 3 (ni Rf))]) jl_X9_165 (c_X9_layFive Z h q ab be bl ta tl tk va A (78 + (5 * (A 2))) (nt a) (nt b) (nt c) (nt d) (nt e) (by omega)) 0 rfl rfl dX9_note_90 rfl (by decide) (Nat.le_of_ble_eq_true rfl) [0, 1] [2] rfl rfl rfl rfl (by decide) rfl (fun rv wv hp => ?_)
              obtain ⟨rfl, rfl⟩ := hp
              refine j_world hJ (ws' := [mO h q ab be bl ta tl tk va, (q 0, ia Z 266 (ni (lay5 A (78 + (5 * (A 2))) (nt a) (nt b) (nt c) (nt d) (nt e)))), (q 3, ia Z 3 (ni Rf))]) [1, 2, 0] rfl rfl ?_
              show J 93 [(0, .ref h), (1, .int (nI (nt a))), (2, .int (nI (nt b))), (3, .int (nI (nt c))), (4, .int (nI (nt d))), (5, .int (nI (nt e)))] [] [mO h q ab be bl ta tl tk va, (q 0, ia Z 266 (ni (lay5 A (78 + (5 * (A 2))) (nt a) (nt b) (nt c) (nt d) (nt e)))), (q 3, ia Z 3 (ni Rf))] 0 0
              obtain ⟨C, e_C⟩ : ∃ z : Nat → Nat, z = lay5 A (78 + 5 * A 2) (nt a) (nt b) (nt c) (nt d) (nt e) := ⟨_, rfl⟩
              refine j_eqw (ws' := [mO h q ab be bl ta tl tk va, (q 0, ia Z 266 (ni C)), (q 3, ia Z 3 (ni Rf))]) (by subst e_C; rfl) ?_
              have hC1 : C 2 = A 2 := by rw [e_C]; simp only [lay5, va_up]; rw [if_neg (by omega), if_neg (by omega), if_neg (by omega), if_neg (by omega), if_neg (by omega)]
              refine j_aload_n hJ (q := 94) dX9_note_93 rfl 0 rfl rfl ?_
              refine j_get hJ (q := 97) jf_X9_7 dX9_note_94 0 rfl rfl rfl ?_
              refine j_iconst hJ (q := 98) dX9_note_97 rfl ki_2 ?_
              refine j_dup2 hJ (q := 99) dX9_note_98 rfl rfl rfl ?_
              refine j_ialdN hJ (q := 100) (z := nI (C 2)) dX9_note_99 1 rfl (by decide) (by decide) rfl rfl ?_
              refine j_iconst hJ (q := 101) dX9_note_100 rfl ki_1 ?_
              refine j_iadd hJ (q := 102) dX9_note_101 rfl (nI_add _ _) ?_
              refine j_iastN hJ (q := 103) (ws' := [mO h q ab be bl ta tl tk va, (q 0, ia Z 266 (ni (va_up C 2 (C 2 + 1)))), (q 3, ia Z 3 (ni Rf))]) dX9_note_102 1 rfl (by decide) (by decide) (ni_up _ _ _) rfl rfl ?_
              refine j_aload_n hJ (q := 104) dX9_note_103 rfl 0 rfl rfl ?_
              refine j_get hJ (q := 107) jf_X9_7 dX9_note_104 0 rfl rfl rfl ?_
              refine j_iconst hJ (q := 108) dX9_note_107 rfl ki_2 ?_
              refine j_ialdN hJ (q := 109) (z := nI (C 2 + 1)) dX9_note_108 1 rfl (by decide) (by decide) rfl rfl ?_
              have hP : pNote A a b c d e := by simp only [rgI, isS, isR, pNote, pMark]; omega
              have hQ0 : ¬ (A 2 = 6) := by omega
              exact hE.1 _ _ _ _ _ _ _ rfl rfl dX9_note_109 (Nat.le_refl _) (Nat.le_refl _) (⟨congrArg (fun z => some (Value.int z)) ((zI_nat _).symm.trans (congrArg zI (by simp only [z_note, if_pos hP, if_neg hQ0]; omega))), by rw [hC1, e_C]; simp only [a_note, r_note, if_pos hP, if_neg hQ0]⟩)
            · skip
              refine j_aload_n hJ (q := 67) dX9_note_66 rfl 0 rfl rfl ?_
              refine j_vW hJ (q := 70) (rest := []) (As := []) (wr := [(q 0, ia Z 266 (ni A))]) jl_X9_96 (c_X9_full Z h q ab be bl ta tl tk va Rf ) 0 rfl rfl dX9_note_67 rfl (by decide) (Nat.le_of_ble_eq_true rfl) [0, 2] [1] rfl rfl rfl rfl (by decide) rfl (fun rv wv hp => ?_)
              obtain ⟨rfl, rfl⟩ := hp
              refine j_world hJ (ws' := [mO h q ab be bl ta tl tk va, (q 0, ia Z 266 (ni A)), (q 3, ia Z 3 (ni (va_up Rf 2 (Rf 2 + 1))))]) [1, 0, 2] rfl rfl ?_
              show J 70 [(0, .ref h), (1, .int (nI (nt a))), (2, .int (nI (nt b))), (3, .int (nI (nt c))), (4, .int (nI (nt d))), (5, .int (nI (nt e)))] [.int (zI (-4))] [mO h q ab be bl ta tl tk va, (q 0, ia Z 266 (ni A)), (q 3, ia Z 3 (ni (va_up Rf 2 (Rf 2 + 1))))] 0 0
              have hP : pNote A a b c d e := by simp only [rgI, isS, isR, pNote, pMark]; omega
              have hQ0 : A 2 = 6 := by omega
              exact hE.1 _ _ _ _ _ _ _ rfl rfl dX9_note_70 (Nat.le_refl _) (Nat.le_refl _) (⟨congrArg (fun z => some (Value.int (zI z))) (by simp only [z_note, a_note, r_note, if_pos hP, if_pos hQ0, bmp]), by simp only [z_note, a_note, r_note, if_pos hP, if_pos hQ0, bmp]⟩)
          · skip
            refine j_aload_n hJ (q := 49) dX9_note_48 rfl 0 rfl rfl ?_
            refine j_bipush hJ (q := 51) dX9_note_49 rfl kb_m2 ?_
            refine j_vW hJ (q := 54) (rest := []) (As := [.int (zI (-2))]) (wr := [(q 0, ia Z 266 (ni A))]) jl_X9_73 (c_X9_bad Z h q ab be bl ta tl tk va Rf (-2) ) 0 rfl rfl dX9_note_51 rfl (by decide) (Nat.le_of_ble_eq_true rfl) [0, 2] [1] rfl rfl rfl rfl (by decide) rfl (fun rv wv hp => ?_)
            obtain ⟨rfl, rfl⟩ := hp
            refine j_world hJ (ws' := [mO h q ab be bl ta tl tk va, (q 0, ia Z 266 (ni A)), (q 3, ia Z 3 (ni (va_up Rf 0 (Rf 0 + 1))))]) [1, 0, 2] rfl rfl ?_
            show J 54 [(0, .ref h), (1, .int a), (2, .int b), (3, .int c), (4, .int d), (5, .int e)] [.int (zI (-2))] [mO h q ab be bl ta tl tk va, (q 0, ia Z 266 (ni A)), (q 3, ia Z 3 (ni (va_up Rf 0 (Rf 0 + 1))))] 0 0
            have hP : ¬ (pNote A a b c d e) := by simp only [rgI, isS, isR, pNote, pMark]; omega
            exact hE.1 _ _ _ _ _ _ _ rfl rfl dX9_note_54 (Nat.le_refl _) (Nat.le_refl _) (⟨congrArg (fun z => some (Value.int (zI z))) (by simp only [z_note, a_note, r_note, if_neg hP, bmp]), by simp only [z_note, a_note, r_note, if_neg hP, bmp]⟩)

set_option maxHeartbeats 4000000 in
set_option maxRecDepth 100000 in
theorem c_X9_mark (Z : jZ) (h : Nat) (q : Nat → Nat) (ab : Int) (be : Int) (bl : Nat) (ta : Nat) (tl : Nat) (tk : Nat) (va : Nat) (A : Nat → Nat) (Rf : Nat → Nat) (a : Int32) (b : Int32) (c : Int32) (d : Int32) (e : Int32) (hg : wg A) : CT Z yX9_mark cX9_mark 6 ((some FieldType.int)) 3 0 0 [.ref h, .int a, .int b, .int c, .int d, .int e] [mO h q ab be bl ta tl tk va, (q 0, ia Z 266 (ni A)), (q 3, ia Z 3 (ni Rf))] (fun rr ww => rr = some (.int (zI (z_mark A a b c d e))) ∧ ww = [mO h q ab be bl ta tl tk va, (q 0, ia Z 266 (ni (a_mark A a b c d e))), (q 3, ia Z 3 (ni (r_mark A Rf a b c d e)))]) := by
  refine CT.of RX9 false rfl (fun h => by cases h) (by decide +kernel) (Nat.le_of_ble_eq_true rfl) ?_
  intro J hJ hE
  show J 0 [(0, .ref h), (1, .int a), (2, .int b), (3, .int c), (4, .int d), (5, .int e)] [] [mO h q ab be bl ta tl tk va, (q 0, ia Z 266 (ni A)), (q 3, ia Z 3 (ni Rf))] 0 0
  obtain ⟨hw, ⟨g1, g2, g3, g4, g8⟩, hrs, hrn, hrm, hpst⟩ := id hg
  obtain ⟨⟨w1, w2, w3, w4, w5, w6⟩, wb, wr, wh, wd⟩ := id hw
  have hb := wb
  have hr_a := zI_rng a
  have hr_b := zI_rng b
  have hr_c := zI_rng c
  have hr_d := zI_rng d
  have hr_e := zI_rng e
  refine j_aload_n hJ (q := 1) dX9_mark_0 rfl 0 rfl rfl ?_
  refine j_iload_n hJ (q := 2) dX9_mark_1 rfl 1 rfl rfl ?_
  refine j_vR hJ (q := 5) (rest := []) (As := [.int a]) jl_X9_129 (c_X9_isRider Z h q ab be bl ta tl tk va A a (by omega)) 0 rfl rfl dX9_mark_2 rfl (by decide) (Nat.le_of_ble_eq_true rfl) [0, 1] rfl rfl (fun rv hp => ?_)
  obtain rfl := hp
  show J 5 [(0, .ref h), (1, .int a), (2, .int b), (3, .int c), (4, .int d), (5, .int e)] [.int (bI (decide (0 ≤ a.toInt ∧ a.toInt ≤ (A 0 : Int) - 1)))] [mO h q ab be bl ta tl tk va, (q 0, ia Z 266 (ni A)), (q 3, ia Z 3 (ni Rf))] 0 0
  refine jp_if_eq hJ (q := 8) (tgt := 53) dX9_mark_5 (by decide) rfl (fun c1 => ?_) (fun c1 => ?_)
  · skip
    refine j_aload_n hJ (q := 54) dX9_mark_53 rfl 0 rfl rfl ?_
    refine j_bipush hJ (q := 56) dX9_mark_54 rfl kb_m2 ?_
    refine j_vW hJ (q := 59) (rest := []) (As := [.int (zI (-2))]) (wr := [(q 0, ia Z 266 (ni A))]) jl_X9_73 (c_X9_bad Z h q ab be bl ta tl tk va Rf (-2) ) 0 rfl rfl dX9_mark_56 rfl (by decide) (Nat.le_of_ble_eq_true rfl) [0, 2] [1] rfl rfl rfl rfl (by decide) rfl (fun rv wv hp => ?_)
    obtain ⟨rfl, rfl⟩ := hp
    refine j_world hJ (ws' := [mO h q ab be bl ta tl tk va, (q 0, ia Z 266 (ni A)), (q 3, ia Z 3 (ni (va_up Rf 0 (Rf 0 + 1))))]) [1, 0, 2] rfl rfl ?_
    show J 59 [(0, .ref h), (1, .int a), (2, .int b), (3, .int c), (4, .int d), (5, .int e)] [.int (zI (-2))] [mO h q ab be bl ta tl tk va, (q 0, ia Z 266 (ni A)), (q 3, ia Z 3 (ni (va_up Rf 0 (Rf 0 + 1))))] 0 0
    have hP : ¬ (pMark A a b c d e) := by simp only [rgI, isS, isR, pNote, pMark]; omega
    exact hE.1 _ _ _ _ _ _ _ rfl rfl dX9_mark_59 (Nat.le_refl _) (Nat.le_refl _) (⟨congrArg (fun z => some (Value.int (zI z))) (by simp only [z_mark, a_mark, r_mark, if_neg hP, bmp]), by simp only [z_mark, a_mark, r_mark, if_neg hP, bmp]⟩)
  · skip
    refine j_iload_n hJ (q := 9) dX9_mark_8 rfl 2 rfl rfl ?_
    refine j_sR hJ (q := 12) (rest := []) (As := [.int b]) jl_X9_86 (c_X9_isArm Z b ) dX9_mark_9 rfl (by decide) (Nat.le_of_ble_eq_true rfl) [] rfl rfl (fun rv hp => ?_)
    obtain rfl := hp
    show J 12 [(0, .ref h), (1, .int a), (2, .int b), (3, .int c), (4, .int d), (5, .int e)] [.int (bI (decide (1 ≤ b.toInt ∧ b.toInt ≤ 9)))] [mO h q ab be bl ta tl tk va, (q 0, ia Z 266 (ni A)), (q 3, ia Z 3 (ni Rf))] 0 0
    refine jp_if_eq hJ (q := 15) (tgt := 53) dX9_mark_12 (by decide) rfl (fun c2 => ?_) (fun c2 => ?_)
    · skip
      refine j_aload_n hJ (q := 54) dX9_mark_53 rfl 0 rfl rfl ?_
      refine j_bipush hJ (q := 56) dX9_mark_54 rfl kb_m2 ?_
      refine j_vW hJ (q := 59) (rest := []) (As := [.int (zI (-2))]) (wr := [(q 0, ia Z 266 (ni A))]) jl_X9_73 (c_X9_bad Z h q ab be bl ta tl tk va Rf (-2) ) 0 rfl rfl dX9_mark_56 rfl (by decide) (Nat.le_of_ble_eq_true rfl) [0, 2] [1] rfl rfl rfl rfl (by decide) rfl (fun rv wv hp => ?_)
      obtain ⟨rfl, rfl⟩ := hp
      refine j_world hJ (ws' := [mO h q ab be bl ta tl tk va, (q 0, ia Z 266 (ni A)), (q 3, ia Z 3 (ni (va_up Rf 0 (Rf 0 + 1))))]) [1, 0, 2] rfl rfl ?_
      show J 59 [(0, .ref h), (1, .int a), (2, .int b), (3, .int c), (4, .int d), (5, .int e)] [.int (zI (-2))] [mO h q ab be bl ta tl tk va, (q 0, ia Z 266 (ni A)), (q 3, ia Z 3 (ni (va_up Rf 0 (Rf 0 + 1))))] 0 0
      have hP : ¬ (pMark A a b c d e) := by simp only [rgI, isS, isR, pNote, pMark]; omega
      exact hE.1 _ _ _ _ _ _ _ rfl rfl dX9_mark_59 (Nat.le_refl _) (Nat.le_refl _) (⟨congrArg (fun z => some (Value.int (zI z))) (by simp only [z_mark, a_mark, r_mark, if_neg hP, bmp]), by simp only [z_mark, a_mark, r_mark, if_neg hP, bmp]⟩)
    · skip
      refine j_iload_n hJ (q := 16) dX9_mark_15 rfl 3 rfl rfl ?_
      refine j_i2l hJ (q := 17) dX9_mark_16 rfl (zL_i _ (zI_of c) (zI_rng c)) ?_
      refine j_lconst hJ (q := 18) (v := zL 0) dX9_mark_17 rfl rfl ?_
      refine j_ldc2 hJ (q := 21) (v' := zL 15) dX9_mark_18 tm_999 rfl rfl ?_
      refine j_sR hJ (q := 24) (rest := []) (As := [.long (zL c.toInt), .long (zL 0), .long (zL 15)]) jl_X9_53 (c_X9_in Z c.toInt 0 15 (by omega) (by omega) (by omega)) dX9_mark_21 rfl (by decide) (Nat.le_of_ble_eq_true rfl) [] rfl rfl (fun rv hp => ?_)
      obtain rfl := hp
      show J 24 [(0, .ref h), (1, .int a), (2, .int b), (3, .int c), (4, .int d), (5, .int e)] [.int (bI (decide (0 ≤ c.toInt ∧ c.toInt ≤ 15)))] [mO h q ab be bl ta tl tk va, (q 0, ia Z 266 (ni A)), (q 3, ia Z 3 (ni Rf))] 0 0
      refine jp_if_eq hJ (q := 27) (tgt := 53) dX9_mark_24 (by decide) rfl (fun c3 => ?_) (fun c3 => ?_)
      · skip
        refine j_aload_n hJ (q := 54) dX9_mark_53 rfl 0 rfl rfl ?_
        refine j_bipush hJ (q := 56) dX9_mark_54 rfl kb_m2 ?_
        refine j_vW hJ (q := 59) (rest := []) (As := [.int (zI (-2))]) (wr := [(q 0, ia Z 266 (ni A))]) jl_X9_73 (c_X9_bad Z h q ab be bl ta tl tk va Rf (-2) ) 0 rfl rfl dX9_mark_56 rfl (by decide) (Nat.le_of_ble_eq_true rfl) [0, 2] [1] rfl rfl rfl rfl (by decide) rfl (fun rv wv hp => ?_)
        obtain ⟨rfl, rfl⟩ := hp
        refine j_world hJ (ws' := [mO h q ab be bl ta tl tk va, (q 0, ia Z 266 (ni A)), (q 3, ia Z 3 (ni (va_up Rf 0 (Rf 0 + 1))))]) [1, 0, 2] rfl rfl ?_
        show J 59 [(0, .ref h), (1, .int a), (2, .int b), (3, .int c), (4, .int d), (5, .int e)] [.int (zI (-2))] [mO h q ab be bl ta tl tk va, (q 0, ia Z 266 (ni A)), (q 3, ia Z 3 (ni (va_up Rf 0 (Rf 0 + 1))))] 0 0
        have hP : ¬ (pMark A a b c d e) := by simp only [rgI, isS, isR, pNote, pMark]; omega
        exact hE.1 _ _ _ _ _ _ _ rfl rfl dX9_mark_59 (Nat.le_refl _) (Nat.le_refl _) (⟨congrArg (fun z => some (Value.int (zI z))) (by simp only [z_mark, a_mark, r_mark, if_neg hP, bmp]), by simp only [z_mark, a_mark, r_mark, if_neg hP, bmp]⟩)
      · skip
        refine j_iload hJ (q := 29) dX9_mark_27 4 rfl rfl ?_
        refine j_i2l hJ (q := 30) dX9_mark_29 rfl (zL_i _ (zI_of d) (zI_rng d)) ?_
        refine j_lconst hJ (q := 31) (v := zL 0) dX9_mark_30 rfl rfl ?_
        refine j_ldc2 hJ (q := 34) (v' := zL 99) dX9_mark_31 tm_998 rfl rfl ?_
        refine j_sR hJ (q := 37) (rest := []) (As := [.long (zL d.toInt), .long (zL 0), .long (zL 99)]) jl_X9_53 (c_X9_in Z d.toInt 0 99 (by omega) (by omega) (by omega)) dX9_mark_34 rfl (by decide) (Nat.le_of_ble_eq_true rfl) [] rfl rfl (fun rv hp => ?_)
        obtain rfl := hp
        show J 37 [(0, .ref h), (1, .int a), (2, .int b), (3, .int c), (4, .int d), (5, .int e)] [.int (bI (decide (0 ≤ d.toInt ∧ d.toInt ≤ 99)))] [mO h q ab be bl ta tl tk va, (q 0, ia Z 266 (ni A)), (q 3, ia Z 3 (ni Rf))] 0 0
        refine jp_if_eq hJ (q := 40) (tgt := 53) dX9_mark_37 (by decide) rfl (fun c4 => ?_) (fun c4 => ?_)
        · skip
          refine j_aload_n hJ (q := 54) dX9_mark_53 rfl 0 rfl rfl ?_
          refine j_bipush hJ (q := 56) dX9_mark_54 rfl kb_m2 ?_
          refine j_vW hJ (q := 59) (rest := []) (As := [.int (zI (-2))]) (wr := [(q 0, ia Z 266 (ni A))]) jl_X9_73 (c_X9_bad Z h q ab be bl ta tl tk va Rf (-2) ) 0 rfl rfl dX9_mark_56 rfl (by decide) (Nat.le_of_ble_eq_true rfl) [0, 2] [1] rfl rfl rfl rfl (by decide) rfl (fun rv wv hp => ?_)
          obtain ⟨rfl, rfl⟩ := hp
          refine j_world hJ (ws' := [mO h q ab be bl ta tl tk va, (q 0, ia Z 266 (ni A)), (q 3, ia Z 3 (ni (va_up Rf 0 (Rf 0 + 1))))]) [1, 0, 2] rfl rfl ?_
          show J 59 [(0, .ref h), (1, .int a), (2, .int b), (3, .int c), (4, .int d), (5, .int e)] [.int (zI (-2))] [mO h q ab be bl ta tl tk va, (q 0, ia Z 266 (ni A)), (q 3, ia Z 3 (ni (va_up Rf 0 (Rf 0 + 1))))] 0 0
          have hP : ¬ (pMark A a b c d e) := by simp only [rgI, isS, isR, pNote, pMark]; omega
          exact hE.1 _ _ _ _ _ _ _ rfl rfl dX9_mark_59 (Nat.le_refl _) (Nat.le_refl _) (⟨congrArg (fun z => some (Value.int (zI z))) (by simp only [z_mark, a_mark, r_mark, if_neg hP, bmp]), by simp only [z_mark, a_mark, r_mark, if_neg hP, bmp]⟩)
        · skip
          refine j_iload hJ (q := 42) dX9_mark_40 5 rfl rfl ?_
          refine j_i2l hJ (q := 43) dX9_mark_42 rfl (zL_i _ (zI_of e) (zI_rng e)) ?_
          refine j_lconst hJ (q := 44) (v := zL 0) dX9_mark_43 rfl rfl ?_
          refine j_ldc2 hJ (q := 47) (v' := zL 60) dX9_mark_44 tm_898 rfl rfl ?_
          refine j_sR hJ (q := 50) (rest := []) (As := [.long (zL e.toInt), .long (zL 0), .long (zL 60)]) jl_X9_53 (c_X9_in Z e.toInt 0 60 (by omega) (by omega) (by omega)) dX9_mark_47 rfl (by decide) (Nat.le_of_ble_eq_true rfl) [] rfl rfl (fun rv hp => ?_)
          obtain rfl := hp
          show J 50 [(0, .ref h), (1, .int a), (2, .int b), (3, .int c), (4, .int d), (5, .int e)] [.int (bI (decide (0 ≤ e.toInt ∧ e.toInt ≤ 60)))] [mO h q ab be bl ta tl tk va, (q 0, ia Z 266 (ni A)), (q 3, ia Z 3 (ni Rf))] 0 0
          refine jp_if_ne hJ (q := 53) (tgt := 60) dX9_mark_50 (by decide) rfl (fun c5 => ?_) (fun c5 => ?_)
          · skip
            have hn_a := nt_cast (x := a) (by omega)
            refine j_eql (lvs' := [(0, .ref h), (1, .int (nI (nt a))), (2, .int b), (3, .int c), (4, .int d), (5, .int e)]) (by rw [← nt_eq (x := a) (by omega)]) ?_
            have hn_b := nt_cast (x := b) (by omega)
            refine j_eql (lvs' := [(0, .ref h), (1, .int (nI (nt a))), (2, .int (nI (nt b))), (3, .int c), (4, .int d), (5, .int e)]) (by rw [← nt_eq (x := b) (by omega)]) ?_
            have hn_c := nt_cast (x := c) (by omega)
            refine j_eql (lvs' := [(0, .ref h), (1, .int (nI (nt a))), (2, .int (nI (nt b))), (3, .int (nI (nt c))), (4, .int d), (5, .int e)]) (by rw [← nt_eq (x := c) (by omega)]) ?_
            have hn_d := nt_cast (x := d) (by omega)
            refine j_eql (lvs' := [(0, .ref h), (1, .int (nI (nt a))), (2, .int (nI (nt b))), (3, .int (nI (nt c))), (4, .int (nI (nt d))), (5, .int e)]) (by rw [← nt_eq (x := d) (by omega)]) ?_
            have hn_e := nt_cast (x := e) (by omega)
            refine j_eql (lvs' := [(0, .ref h), (1, .int (nI (nt a))), (2, .int (nI (nt b))), (3, .int (nI (nt c))), (4, .int (nI (nt d))), (5, .int (nI (nt e)))]) (by rw [← nt_eq (x := e) (by omega)]) ?_
            refine j_aload_n hJ (q := 61) dX9_mark_60 rfl 0 rfl rfl ?_
            refine j_get hJ (q := 64) jf_X9_7 dX9_mark_61 0 rfl rfl rfl ?_
            refine j_iconst hJ (q := 65) dX9_mark_64 rfl ki_3 ?_
            refine j_ialdN hJ (q := 66) (z := nI (A 3)) dX9_mark_65 1 rfl (by decide) (by decide) rfl rfl ?_
            refine j_bipush hJ (q := 68) dX9_mark_66 rfl kb_6 ?_
            refine jn_icmp_ne hJ (q := 71) (tgt := 76) dX9_mark_68 (by decide) rfl (by omega) (by omega) (fun c6 => ?_) (fun c6 => ?_)
            · skip
              refine j_aload_n hJ (q := 77) dX9_mark_76 rfl 0 rfl rfl ?_
              refine j_bipush hJ (q := 79) dX9_mark_77 rfl kb_108 ?_
              refine j_iconst hJ (q := 80) dX9_mark_79 rfl ki_5 ?_
              refine j_aload_n hJ (q := 81) dX9_mark_80 rfl 0 rfl rfl ?_
              refine j_get hJ (q := 84) jf_X9_7 dX9_mark_81 0 rfl rfl rfl ?_
              refine j_iconst hJ (q := 85) dX9_mark_84 rfl ki_3 ?_
              refine j_ialdN hJ (q := 86) (z := nI (A 3)) dX9_mark_85 1 rfl (by decide) (by decide) rfl rfl ?_
              refine j_imul hJ (q := 87) dX9_mark_86 rfl (pk_mul _ _) ?_
              refine j_iadd hJ (q := 88) dX9_mark_87 rfl (nI_add _ _) ?_
              refine j_iload_n hJ (q := 89) dX9_mark_88 rfl 1 rfl rfl ?_
              refine j_iload_n hJ (q := 90) dX9_mark_89 rfl 2 rfl rfl ?_
              refine j_iload_n hJ (q := 91) dX9_mark_90 rfl 3 rfl rfl ?_
              refine j_iload hJ (q := 93) dX9_mark_91 4 rfl rfl ?_
              refine j_iload hJ (q := 95) dX9_mark_93 5 rfl rfl ?_
              refine j_vW hJ (q := 98) (rest := []) (As := [.int (nI (108 + (5 * (A 3)))), .int (nI (nt a)), .int (nI (nt b)), .int (nI (nt c)), .int (nI (nt d)), .int (nI (nt e))]) (wr := [(q 3, ia Z 3 (ni Rf))]) jl_X9_165 (c_X9_layFive Z h q ab be bl ta tl tk va A (108 + (5 * (A 3))) (nt a) (nt b) (nt c) (nt d) (nt e) (by omega)) 0 rfl rfl dX9_mark_95 rfl (by decide) (Nat.le_of_ble_eq_true rfl) [0, 1] [2] rfl rfl rfl rfl (by decide) rfl (fun rv wv hp => ?_)
              obtain ⟨rfl, rfl⟩ := hp
              refine j_world hJ (ws' := [mO h q ab be bl ta tl tk va, (q 0, ia Z 266 (ni (lay5 A (108 + (5 * (A 3))) (nt a) (nt b) (nt c) (nt d) (nt e)))), (q 3, ia Z 3 (ni Rf))]) [1, 2, 0] rfl rfl ?_
              show J 98 [(0, .ref h), (1, .int (nI (nt a))), (2, .int (nI (nt b))), (3, .int (nI (nt c))), (4, .int (nI (nt d))), (5, .int (nI (nt e)))] [] [mO h q ab be bl ta tl tk va, (q 0, ia Z 266 (ni (lay5 A (108 + (5 * (A 3))) (nt a) (nt b) (nt c) (nt d) (nt e)))), (q 3, ia Z 3 (ni Rf))] 0 0
              obtain ⟨C, e_C⟩ : ∃ z : Nat → Nat, z = lay5 A (108 + 5 * A 3) (nt a) (nt b) (nt c) (nt d) (nt e) := ⟨_, rfl⟩
              refine j_eqw (ws' := [mO h q ab be bl ta tl tk va, (q 0, ia Z 266 (ni C)), (q 3, ia Z 3 (ni Rf))]) (by subst e_C; rfl) ?_
              have hC1 : C 3 = A 3 := by rw [e_C]; simp only [lay5, va_up]; rw [if_neg (by omega), if_neg (by omega), if_neg (by omega), if_neg (by omega), if_neg (by omega)]
              refine j_aload_n hJ (q := 99) dX9_mark_98 rfl 0 rfl rfl ?_
              refine j_get hJ (q := 102) jf_X9_7 dX9_mark_99 0 rfl rfl rfl ?_
              refine j_iconst hJ (q := 103) dX9_mark_102 rfl ki_3 ?_
              refine j_dup2 hJ (q := 104) dX9_mark_103 rfl rfl rfl ?_
              refine j_ialdN hJ (q := 105) (z := nI (C 3)) dX9_mark_104 1 rfl (by decide) (by decide) rfl rfl ?_
              refine j_iconst hJ (q := 106) dX9_mark_105 rfl ki_1 ?_
              refine j_iadd hJ (q := 107) dX9_mark_106 rfl (nI_add _ _) ?_
              refine j_iastN hJ (q := 108) (ws' := [mO h q ab be bl ta tl tk va, (q 0, ia Z 266 (ni (va_up C 3 (C 3 + 1)))), (q 3, ia Z 3 (ni Rf))]) dX9_mark_107 1 rfl (by decide) (by decide) (ni_up _ _ _) rfl rfl ?_
              refine j_aload_n hJ (q := 109) dX9_mark_108 rfl 0 rfl rfl ?_
              refine j_get hJ (q := 112) jf_X9_7 dX9_mark_109 0 rfl rfl rfl ?_
              refine j_iconst hJ (q := 113) dX9_mark_112 rfl ki_3 ?_
              refine j_ialdN hJ (q := 114) (z := nI (C 3 + 1)) dX9_mark_113 1 rfl (by decide) (by decide) rfl rfl ?_
              have hP : pMark A a b c d e := by simp only [rgI, isS, isR, pNote, pMark]; omega
              have hQ0 : ¬ (A 3 = 6) := by omega
              exact hE.1 _ _ _ _ _ _ _ rfl rfl dX9_mark_114 (Nat.le_refl _) (Nat.le_refl _) (⟨congrArg (fun z => some (Value.int z)) ((zI_nat _).symm.trans (congrArg zI (by simp only [z_mark, if_pos hP, if_neg hQ0]; omega))), by rw [hC1, e_C]; simp only [a_mark, r_mark, if_pos hP, if_neg hQ0]⟩)
            · skip
              refine j_aload_n hJ (q := 72) dX9_mark_71 rfl 0 rfl rfl ?_
              refine j_vW hJ (q := 75) (rest := []) (As := []) (wr := [(q 0, ia Z 266 (ni A))]) jl_X9_96 (c_X9_full Z h q ab be bl ta tl tk va Rf ) 0 rfl rfl dX9_mark_72 rfl (by decide) (Nat.le_of_ble_eq_true rfl) [0, 2] [1] rfl rfl rfl rfl (by decide) rfl (fun rv wv hp => ?_)
              obtain ⟨rfl, rfl⟩ := hp
              refine j_world hJ (ws' := [mO h q ab be bl ta tl tk va, (q 0, ia Z 266 (ni A)), (q 3, ia Z 3 (ni (va_up Rf 2 (Rf 2 + 1))))]) [1, 0, 2] rfl rfl ?_
              show J 75 [(0, .ref h), (1, .int (nI (nt a))), (2, .int (nI (nt b))), (3, .int (nI (nt c))), (4, .int (nI (nt d))), (5, .int (nI (nt e)))] [.int (zI (-4))] [mO h q ab be bl ta tl tk va, (q 0, ia Z 266 (ni A)), (q 3, ia Z 3 (ni (va_up Rf 2 (Rf 2 + 1))))] 0 0
              have hP : pMark A a b c d e := by simp only [rgI, isS, isR, pNote, pMark]; omega
              have hQ0 : A 3 = 6 := by omega
              exact hE.1 _ _ _ _ _ _ _ rfl rfl dX9_mark_75 (Nat.le_refl _) (Nat.le_refl _) (⟨congrArg (fun z => some (Value.int (zI z))) (by simp only [z_mark, a_mark, r_mark, if_pos hP, if_pos hQ0, bmp]), by simp only [z_mark, a_mark, r_mark, if_pos hP, if_pos hQ0, bmp]⟩)
          · skip
            refine j_aload_n hJ (q := 54) dX9_mark_53 rfl 0 rfl rfl ?_
            refine j_bipush hJ (q := 56) dX9_mark_54 rfl kb_m2 ?_
            refine j_vW hJ (q := 59) (rest := []) (As := [.int (zI (-2))]) (wr := [(q 0, ia Z 266 (ni A))]) jl_X9_73 (c_X9_bad Z h q ab be bl ta tl tk va Rf (-2) ) 0 rfl rfl dX9_mark_56 rfl (by decide) (Nat.le_of_ble_eq_true rfl) [0, 2] [1] rfl rfl rfl rfl (by decide) rfl (fun rv wv hp => ?_)
            obtain ⟨rfl, rfl⟩ := hp
            refine j_world hJ (ws' := [mO h q ab be bl ta tl tk va, (q 0, ia Z 266 (ni A)), (q 3, ia Z 3 (ni (va_up Rf 0 (Rf 0 + 1))))]) [1, 0, 2] rfl rfl ?_
            show J 59 [(0, .ref h), (1, .int a), (2, .int b), (3, .int c), (4, .int d), (5, .int e)] [.int (zI (-2))] [mO h q ab be bl ta tl tk va, (q 0, ia Z 266 (ni A)), (q 3, ia Z 3 (ni (va_up Rf 0 (Rf 0 + 1))))] 0 0
            have hP : ¬ (pMark A a b c d e) := by simp only [rgI, isS, isR, pNote, pMark]; omega
            exact hE.1 _ _ _ _ _ _ _ rfl rfl dX9_mark_59 (Nat.le_refl _) (Nat.le_refl _) (⟨congrArg (fun z => some (Value.int (zI z))) (by simp only [z_mark, a_mark, r_mark, if_neg hP, bmp]), by simp only [z_mark, a_mark, r_mark, if_neg hP, bmp]⟩)

set_option maxHeartbeats 4000000 in
set_option maxRecDepth 100000 in
theorem c_X9_phases (Z : jZ) (h : Nat) (q : Nat → Nat) (ab : Int) (be : Int) (bl : Nat) (ta : Nat) (tl : Nat) (tk : Nat) (va : Nat) (A : Nat → Nat) (Rf : Nat → Nat) (a : Int32) (hg : wg A) : CT Z yX9_phases cX9_phases 2 ((some FieldType.int)) 3 0 0 [.ref h, .int a] [mO h q ab be bl ta tl tk va, (q 0, ia Z 266 (ni A)), (q 3, ia Z 3 (ni Rf))] (fun rr ww => rr = some (.int (zI (z_phases A a))) ∧ ww = [mO h q ab be bl ta tl tk va, (q 0, ia Z 266 (ni A)), (q 3, ia Z 3 (ni (if isS A a then Rf else bmp Rf 0)))]) := by
  refine CT.of RX9 false rfl (fun h => by cases h) (by decide +kernel) (Nat.le_of_ble_eq_true rfl) ?_
  intro J hJ hE
  show J 0 [(0, .ref h), (1, .int a)] [] [mO h q ab be bl ta tl tk va, (q 0, ia Z 266 (ni A)), (q 3, ia Z 3 (ni Rf))] 0 0
  obtain ⟨hw, ⟨g1, g2, g3, g4, g8⟩, hrs, hrn, hrm, hpst⟩ := id hg
  obtain ⟨⟨w1, w2, w3, w4, w5, w6⟩, wb, wr, wh, wd⟩ := id hw
  have hb := wb
  have hr_a := zI_rng a
  refine j_aload_n hJ (q := 1) dX9_phases_0 rfl 0 rfl rfl ?_
  refine j_iload_n hJ (q := 2) dX9_phases_1 rfl 1 rfl rfl ?_
  refine j_vR hJ (q := 5) (rest := []) (As := [.int a]) jl_X9_77 (c_X9_isSeat Z h q ab be bl ta tl tk va A a (by omega)) 0 rfl rfl dX9_phases_2 rfl (by decide) (Nat.le_of_ble_eq_true rfl) [0, 1] rfl rfl (fun rv hp => ?_)
  obtain rfl := hp
  show J 5 [(0, .ref h), (1, .int a)] [.int (bI (decide (0 ≤ a.toInt ∧ a.toInt ≤ (A 21 : Int) - 1)))] [mO h q ab be bl ta tl tk va, (q 0, ia Z 266 (ni A)), (q 3, ia Z 3 (ni Rf))] 0 0
  refine jp_if_eq hJ (q := 8) (tgt := 16) dX9_phases_5 (by decide) rfl (fun c1 => ?_) (fun c1 => ?_)
  · skip
    refine j_aload_n hJ (q := 17) dX9_phases_16 rfl 0 rfl rfl ?_
    refine j_bipush hJ (q := 19) dX9_phases_17 rfl kb_m2 ?_
    refine j_vW hJ (q := 22) (rest := []) (As := [.int (zI (-2))]) (wr := [(q 0, ia Z 266 (ni A))]) jl_X9_73 (c_X9_bad Z h q ab be bl ta tl tk va Rf (-2) ) 0 rfl rfl dX9_phases_19 rfl (by decide) (Nat.le_of_ble_eq_true rfl) [0, 2] [1] rfl rfl rfl rfl (by decide) rfl (fun rv wv hp => ?_)
    obtain ⟨rfl, rfl⟩ := hp
    refine j_world hJ (ws' := [mO h q ab be bl ta tl tk va, (q 0, ia Z 266 (ni A)), (q 3, ia Z 3 (ni (va_up Rf 0 (Rf 0 + 1))))]) [1, 0, 2] rfl rfl ?_
    show J 22 [(0, .ref h), (1, .int a)] [.int (zI (-2))] [mO h q ab be bl ta tl tk va, (q 0, ia Z 266 (ni A)), (q 3, ia Z 3 (ni (va_up Rf 0 (Rf 0 + 1))))] 0 0
    have hP : ¬ (isS A a) := by simp only [rgI, isS, isR, pNote, pMark]; omega
    exact hE.1 _ _ _ _ _ _ _ rfl rfl dX9_phases_22 (Nat.le_refl _) (Nat.le_refl _) (⟨congrArg (fun z => some (Value.int (zI z))) (by simp only [z_phases, if_neg hP, bmp]), by simp only [z_phases, if_neg hP, bmp]⟩)
  · skip
    have hn_a := nt_cast (x := a) (by omega)
    refine j_eql (lvs' := [(0, .ref h), (1, .int (nI (nt a)))]) (by rw [← nt_eq (x := a) (by omega)]) ?_
    refine j_aload_n hJ (q := 9) dX9_phases_8 rfl 0 rfl rfl ?_
    refine j_iload_n hJ (q := 10) dX9_phases_9 rfl 1 rfl rfl ?_
    refine j_vR hJ (q := 13) (rest := []) (As := [.int (nI (nt a))]) jl_X9_154 (c_X9_phasesOf Z h q ab be bl ta tl tk va A (nt a) (by omega) hb (by omega) ((wh _ (by omega)).1) hrs) 0 rfl rfl dX9_phases_10 rfl (by decide) (Nat.le_of_ble_eq_true rfl) [0, 1] rfl rfl (fun rv hp => ?_)
    obtain rfl := hp
    show J 13 [(0, .ref h), (1, .int (nI (nt a)))] [.int (nI (phs A (nt a)))] [mO h q ab be bl ta tl tk va, (q 0, ia Z 266 (ni A)), (q 3, ia Z 3 (ni Rf))] 0 0
    refine j_goto hJ (q := 22) dX9_phases_13 (by decide) ?_
    have hP : isS A a := by simp only [rgI, isS, isR, pNote, pMark]; omega
    exact hE.1 _ _ _ _ _ _ _ rfl rfl dX9_phases_22 (Nat.le_refl _) (Nat.le_refl _) (⟨congrArg (fun z => some (Value.int z)) ((zI_nat _).symm.trans (congrArg zI (by simp only [z_phases, if_pos hP, bmp]))), by simp only [z_phases, if_pos hP, bmp]⟩)

set_option maxHeartbeats 4000000 in
set_option maxRecDepth 100000 in
theorem c_X9_is (Z : jZ) (h : Nat) (q : Nat → Nat) (ab : Int) (be : Int) (bl : Nat) (ta : Nat) (tl : Nat) (tk : Nat) (va : Nat) (A : Nat → Nat) (Rf : Nat → Nat) (a : Int32) (hg : wg A) : CT Z yX9_is cX9_is 2 ((some FieldType.int)) 4 0 0 [.ref h, .int a] [mO h q ab be bl ta tl tk va, (q 0, ia Z 266 (ni A)), (q 3, ia Z 3 (ni Rf))] (fun rr ww => rr = some (.int (zI (z_is A a))) ∧ ww = [mO h q ab be bl ta tl tk va, (q 0, ia Z 266 (ni A)), (q 3, ia Z 3 (ni (if isS A a then Rf else bmp Rf 0)))]) := by
  refine CT.of RX9 false rfl (fun h => by cases h) (by decide +kernel) (Nat.le_of_ble_eq_true rfl) ?_
  intro J hJ hE
  show J 0 [(0, .ref h), (1, .int a)] [] [mO h q ab be bl ta tl tk va, (q 0, ia Z 266 (ni A)), (q 3, ia Z 3 (ni Rf))] 0 0
  obtain ⟨hw, ⟨g1, g2, g3, g4, g8⟩, hrs, hrn, hrm, hpst⟩ := id hg
  obtain ⟨⟨w1, w2, w3, w4, w5, w6⟩, wb, wr, wh, wd⟩ := id hw
  have hb := wb
  have hr_a := zI_rng a
  refine j_aload_n hJ (q := 1) dX9_is_0 rfl 0 rfl rfl ?_
  refine j_iload_n hJ (q := 2) dX9_is_1 rfl 1 rfl rfl ?_
  refine j_vR hJ (q := 5) (rest := []) (As := [.int a]) jl_X9_77 (c_X9_isSeat Z h q ab be bl ta tl tk va A a (by omega)) 0 rfl rfl dX9_is_2 rfl (by decide) (Nat.le_of_ble_eq_true rfl) [0, 1] rfl rfl (fun rv hp => ?_)
  obtain rfl := hp
  show J 5 [(0, .ref h), (1, .int a)] [.int (bI (decide (0 ≤ a.toInt ∧ a.toInt ≤ (A 21 : Int) - 1)))] [mO h q ab be bl ta tl tk va, (q 0, ia Z 266 (ni A)), (q 3, ia Z 3 (ni Rf))] 0 0
  refine jp_if_eq hJ (q := 8) (tgt := 16) dX9_is_5 (by decide) rfl (fun c1 => ?_) (fun c1 => ?_)
  · skip
    refine j_aload_n hJ (q := 17) dX9_is_16 rfl 0 rfl rfl ?_
    refine j_bipush hJ (q := 19) dX9_is_17 rfl kb_m2 ?_
    refine j_vW hJ (q := 22) (rest := []) (As := [.int (zI (-2))]) (wr := [(q 0, ia Z 266 (ni A))]) jl_X9_73 (c_X9_bad Z h q ab be bl ta tl tk va Rf (-2) ) 0 rfl rfl dX9_is_19 rfl (by decide) (Nat.le_of_ble_eq_true rfl) [0, 2] [1] rfl rfl rfl rfl (by decide) rfl (fun rv wv hp => ?_)
    obtain ⟨rfl, rfl⟩ := hp
    refine j_world hJ (ws' := [mO h q ab be bl ta tl tk va, (q 0, ia Z 266 (ni A)), (q 3, ia Z 3 (ni (va_up Rf 0 (Rf 0 + 1))))]) [1, 0, 2] rfl rfl ?_
    show J 22 [(0, .ref h), (1, .int a)] [.int (zI (-2))] [mO h q ab be bl ta tl tk va, (q 0, ia Z 266 (ni A)), (q 3, ia Z 3 (ni (va_up Rf 0 (Rf 0 + 1))))] 0 0
    have hP : ¬ (isS A a) := by simp only [rgI, isS, isR, pNote, pMark]; omega
    exact hE.1 _ _ _ _ _ _ _ rfl rfl dX9_is_22 (Nat.le_refl _) (Nat.le_refl _) (⟨congrArg (fun z => some (Value.int (zI z))) (by simp only [z_is, if_neg hP, bmp]), by simp only [z_is, if_neg hP, bmp]⟩)
  · skip
    have hn_a := nt_cast (x := a) (by omega)
    refine j_eql (lvs' := [(0, .ref h), (1, .int (nI (nt a)))]) (by rw [← nt_eq (x := a) (by omega)]) ?_
    refine j_aload_n hJ (q := 9) dX9_is_8 rfl 0 rfl rfl ?_
    refine j_iload_n hJ (q := 10) dX9_is_9 rfl 1 rfl rfl ?_
    refine j_vR hJ (q := 13) (rest := []) (As := [.int (nI (nt a))]) jl_X9_175 (c_X9_kindsOfHorse Z h q ab be bl ta tl tk va A (nt a) (by omega) hb (by omega) hrn) 0 rfl rfl dX9_is_10 rfl (by decide) (Nat.le_of_ble_eq_true rfl) [0, 1] rfl rfl (fun rv hp => ?_)
    obtain rfl := hp
    show J 13 [(0, .ref h), (1, .int (nI (nt a)))] [.int (nI (kds A (nt a) 78 (A 2) true))] [mO h q ab be bl ta tl tk va, (q 0, ia Z 266 (ni A)), (q 3, ia Z 3 (ni Rf))] 0 0
    refine j_goto hJ (q := 22) dX9_is_13 (by decide) ?_
    have hP : isS A a := by simp only [rgI, isS, isR, pNote, pMark]; omega
    exact hE.1 _ _ _ _ _ _ _ rfl rfl dX9_is_22 (Nat.le_refl _) (Nat.le_refl _) (⟨congrArg (fun z => some (Value.int z)) ((zI_nat _).symm.trans (congrArg zI (by simp only [z_is, if_pos hP, bmp]))), by simp only [z_is, if_pos hP, bmp]⟩)

set_option maxHeartbeats 4000000 in
set_option maxRecDepth 100000 in
theorem c_X9_kinds (Z : jZ) (h : Nat) (q : Nat → Nat) (ab : Int) (be : Int) (bl : Nat) (ta : Nat) (tl : Nat) (tk : Nat) (va : Nat) (A : Nat → Nat) (Rf : Nat → Nat) (a : Int32) (hg : wg A) : CT Z yX9_kinds cX9_kinds 2 ((some FieldType.int)) 4 0 0 [.ref h, .int a] [mO h q ab be bl ta tl tk va, (q 0, ia Z 266 (ni A)), (q 3, ia Z 3 (ni Rf))] (fun rr ww => rr = some (.int (zI (z_kinds A a))) ∧ ww = [mO h q ab be bl ta tl tk va, (q 0, ia Z 266 (ni A)), (q 3, ia Z 3 (ni (if isR A a then Rf else bmp Rf 0)))]) := by
  refine CT.of RX9 false rfl (fun h => by cases h) (by decide +kernel) (Nat.le_of_ble_eq_true rfl) ?_
  intro J hJ hE
  show J 0 [(0, .ref h), (1, .int a)] [] [mO h q ab be bl ta tl tk va, (q 0, ia Z 266 (ni A)), (q 3, ia Z 3 (ni Rf))] 0 0
  obtain ⟨hw, ⟨g1, g2, g3, g4, g8⟩, hrs, hrn, hrm, hpst⟩ := id hg
  obtain ⟨⟨w1, w2, w3, w4, w5, w6⟩, wb, wr, wh, wd⟩ := id hw
  have hb := wb
  have hr_a := zI_rng a
  refine j_aload_n hJ (q := 1) dX9_kinds_0 rfl 0 rfl rfl ?_
  refine j_iload_n hJ (q := 2) dX9_kinds_1 rfl 1 rfl rfl ?_
  refine j_vR hJ (q := 5) (rest := []) (As := [.int a]) jl_X9_129 (c_X9_isRider Z h q ab be bl ta tl tk va A a (by omega)) 0 rfl rfl dX9_kinds_2 rfl (by decide) (Nat.le_of_ble_eq_true rfl) [0, 1] rfl rfl (fun rv hp => ?_)
  obtain rfl := hp
  show J 5 [(0, .ref h), (1, .int a)] [.int (bI (decide (0 ≤ a.toInt ∧ a.toInt ≤ (A 0 : Int) - 1)))] [mO h q ab be bl ta tl tk va, (q 0, ia Z 266 (ni A)), (q 3, ia Z 3 (ni Rf))] 0 0
  refine jp_if_eq hJ (q := 8) (tgt := 16) dX9_kinds_5 (by decide) rfl (fun c1 => ?_) (fun c1 => ?_)
  · skip
    refine j_aload_n hJ (q := 17) dX9_kinds_16 rfl 0 rfl rfl ?_
    refine j_bipush hJ (q := 19) dX9_kinds_17 rfl kb_m2 ?_
    refine j_vW hJ (q := 22) (rest := []) (As := [.int (zI (-2))]) (wr := [(q 0, ia Z 266 (ni A))]) jl_X9_73 (c_X9_bad Z h q ab be bl ta tl tk va Rf (-2) ) 0 rfl rfl dX9_kinds_19 rfl (by decide) (Nat.le_of_ble_eq_true rfl) [0, 2] [1] rfl rfl rfl rfl (by decide) rfl (fun rv wv hp => ?_)
    obtain ⟨rfl, rfl⟩ := hp
    refine j_world hJ (ws' := [mO h q ab be bl ta tl tk va, (q 0, ia Z 266 (ni A)), (q 3, ia Z 3 (ni (va_up Rf 0 (Rf 0 + 1))))]) [1, 0, 2] rfl rfl ?_
    show J 22 [(0, .ref h), (1, .int a)] [.int (zI (-2))] [mO h q ab be bl ta tl tk va, (q 0, ia Z 266 (ni A)), (q 3, ia Z 3 (ni (va_up Rf 0 (Rf 0 + 1))))] 0 0
    have hP : ¬ (isR A a) := by simp only [rgI, isS, isR, pNote, pMark]; omega
    exact hE.1 _ _ _ _ _ _ _ rfl rfl dX9_kinds_22 (Nat.le_refl _) (Nat.le_refl _) (⟨congrArg (fun z => some (Value.int (zI z))) (by simp only [z_kinds, if_neg hP, bmp]), by simp only [z_kinds, if_neg hP, bmp]⟩)
  · skip
    have hn_a := nt_cast (x := a) (by omega)
    refine j_eql (lvs' := [(0, .ref h), (1, .int (nI (nt a)))]) (by rw [← nt_eq (x := a) (by omega)]) ?_
    refine j_aload_n hJ (q := 9) dX9_kinds_8 rfl 0 rfl rfl ?_
    refine j_iload_n hJ (q := 10) dX9_kinds_9 rfl 1 rfl rfl ?_
    refine j_vR hJ (q := 13) (rest := []) (As := [.int (nI (nt a))]) jl_X9_178 (c_X9_kindsOfRider Z h q ab be bl ta tl tk va A (nt a) (by omega) hb (by omega) hrm) 0 rfl rfl dX9_kinds_10 rfl (by decide) (Nat.le_of_ble_eq_true rfl) [0, 1] rfl rfl (fun rv hp => ?_)
    obtain rfl := hp
    show J 13 [(0, .ref h), (1, .int (nI (nt a)))] [.int (nI (kds A (nt a) 108 (A 3) false))] [mO h q ab be bl ta tl tk va, (q 0, ia Z 266 (ni A)), (q 3, ia Z 3 (ni Rf))] 0 0
    refine j_goto hJ (q := 22) dX9_kinds_13 (by decide) ?_
    have hP : isR A a := by simp only [rgI, isS, isR, pNote, pMark]; omega
    exact hE.1 _ _ _ _ _ _ _ rfl rfl dX9_kinds_22 (Nat.le_refl _) (Nat.le_refl _) (⟨congrArg (fun z => some (Value.int z)) ((zI_nat _).symm.trans (congrArg zI (by simp only [z_kinds, if_pos hP, bmp]))), by simp only [z_kinds, if_pos hP, bmp]⟩)

set_option maxHeartbeats 4000000 in
set_option maxRecDepth 100000 in
theorem c_X9_status (Z : jZ) (h : Nat) (q : Nat → Nat) (ab : Int) (be : Int) (bl : Nat) (ta : Nat) (tl : Nat) (tk : Nat) (va : Nat) (Rf : Nat → Nat) (a : Int32)  : CT Z yX9_status cX9_status 2 ((some FieldType.int)) 3 0 0 [.ref h, .int a] [mO h q ab be bl ta tl tk va, (q 3, ia Z 3 (ni Rf))] (fun rr ww => rr = some (.int (zI (z_status Rf a))) ∧ ww = [mO h q ab be bl ta tl tk va, (q 3, ia Z 3 (ni (if rgI 0 2 a then Rf else bmp Rf 0)))]) := by
  refine CT.of RX9 false rfl (fun h => by cases h) (by decide +kernel) (Nat.le_of_ble_eq_true rfl) ?_
  intro J hJ hE
  show J 0 [(0, .ref h), (1, .int a)] [] [mO h q ab be bl ta tl tk va, (q 3, ia Z 3 (ni Rf))] 0 0
  have hr_a := zI_rng a
  refine j_iload_n hJ (q := 1) dX9_status_0 rfl 1 rfl rfl ?_
  refine j_i2l hJ (q := 2) dX9_status_1 rfl (zL_i _ (zI_of a) (zI_rng a)) ?_
  refine j_lconst hJ (q := 3) (v := zL 0) dX9_status_2 rfl rfl ?_
  refine j_ldc2 hJ (q := 6) (v' := zL 2) dX9_status_3 tm_1036 rfl rfl ?_
  refine j_sR hJ (q := 9) (rest := []) (As := [.long (zL a.toInt), .long (zL 0), .long (zL 2)]) jl_X9_53 (c_X9_in Z a.toInt 0 2 (by omega) (by omega) (by omega)) dX9_status_6 rfl (by decide) (Nat.le_of_ble_eq_true rfl) [] rfl rfl (fun rv hp => ?_)
  obtain rfl := hp
  show J 9 [(0, .ref h), (1, .int a)] [.int (bI (decide (0 ≤ a.toInt ∧ a.toInt ≤ 2)))] [mO h q ab be bl ta tl tk va, (q 3, ia Z 3 (ni Rf))] 0 0
  refine jp_if_eq hJ (q := 12) (tgt := 21) dX9_status_9 (by decide) rfl (fun c1 => ?_) (fun c1 => ?_)
  · skip
    refine j_aload_n hJ (q := 22) dX9_status_21 rfl 0 rfl rfl ?_
    refine j_iconst hJ (q := 23) dX9_status_22 rfl ki_m1 ?_
    refine j_vW hJ (q := 26) (rest := []) (As := [.int (zI (-1))]) (wr := []) jl_X9_73 (c_X9_bad Z h q ab be bl ta tl tk va Rf (-1) ) 0 rfl rfl dX9_status_23 rfl (by decide) (Nat.le_of_ble_eq_true rfl) [0, 1] [] rfl rfl rfl rfl (by decide) rfl (fun rv wv hp => ?_)
    obtain ⟨rfl, rfl⟩ := hp
    show J 26 [(0, .ref h), (1, .int a)] [.int (zI (-1))] [mO h q ab be bl ta tl tk va, (q 3, ia Z 3 (ni (va_up Rf 0 (Rf 0 + 1))))] 0 0
    have hP : ¬ (rgI 0 2 a) := by simp only [rgI, isS, isR, pNote, pMark]; omega
    exact hE.1 _ _ _ _ _ _ _ rfl rfl dX9_status_26 (Nat.le_refl _) (Nat.le_refl _) (⟨congrArg (fun z => some (Value.int (zI z))) (by simp only [z_status, if_neg hP, bmp]), by simp only [z_status, if_neg hP, bmp]⟩)
  · skip
    have hn_a := nt_cast (x := a) (by omega)
    refine j_eql (lvs' := [(0, .ref h), (1, .int (nI (nt a)))]) (by rw [← nt_eq (x := a) (by omega)]) ?_
    refine j_aload_n hJ (q := 13) dX9_status_12 rfl 0 rfl rfl ?_
    refine j_get hJ (q := 16) jf_X9_20 dX9_status_13 0 rfl rfl rfl ?_
    refine j_iload_n hJ (q := 17) dX9_status_16 rfl 1 rfl rfl ?_
    refine j_ialdN hJ (q := 18) (z := nI (Rf (nt a))) dX9_status_17 1 rfl (by omega) (by decide) rfl rfl ?_
    refine j_goto hJ (q := 26) dX9_status_18 (by decide) ?_
    have hP : rgI 0 2 a := by simp only [rgI, isS, isR, pNote, pMark]; omega
    exact hE.1 _ _ _ _ _ _ _ rfl rfl dX9_status_26 (Nat.le_refl _) (Nat.le_refl _) (⟨congrArg (fun z => some (Value.int z)) ((zI_nat _).symm.trans (congrArg zI (by simp only [z_status, if_pos hP, bmp]))), by simp only [z_status, if_pos hP, bmp]⟩)

set_option maxHeartbeats 4000000 in
set_option maxRecDepth 100000 in
theorem c_X9_count (Z : jZ) (h : Nat) (q : Nat → Nat) (ab : Int) (be : Int) (bl : Nat) (ta : Nat) (tl : Nat) (tk : Nat) (va : Nat) (A : Nat → Nat) (Rf : Nat → Nat) (a : Int32) (hg : wg A) : CT Z yX9_count cX9_count 2 ((some FieldType.int)) 3 0 0 [.ref h, .int a] [mO h q ab be bl ta tl tk va, (q 0, ia Z 266 (ni A)), (q 3, ia Z 3 (ni Rf))] (fun rr ww => rr = some (.int (zI (z_count A bl a))) ∧ ww = [mO h q ab be bl ta tl tk va, (q 0, ia Z 266 (ni A)), (q 3, ia Z 3 (ni (if rgI 0 11 a then Rf else bmp Rf 0)))]) := by
  refine CT.of RX9 false rfl (fun h => by cases h) (by decide +kernel) (Nat.le_of_ble_eq_true rfl) ?_
  intro J hJ hE
  show J 0 [(0, .ref h), (1, .int a)] [] [mO h q ab be bl ta tl tk va, (q 0, ia Z 266 (ni A)), (q 3, ia Z 3 (ni Rf))] 0 0
  obtain ⟨hw, ⟨g1, g2, g3, g4, g8⟩, hrs, hrn, hrm, hpst⟩ := id hg
  obtain ⟨⟨w1, w2, w3, w4, w5, w6⟩, wb, wr, wh, wd⟩ := id hw
  have hb := wb
  have hr_a := zI_rng a
  refine j_iload_n hJ (q := 1) dX9_count_0 rfl 1 rfl rfl ?_
  refine j_i2l hJ (q := 2) dX9_count_1 rfl (zL_i _ (zI_of a) (zI_rng a)) ?_
  refine j_lconst hJ (q := 3) (v := zL 0) dX9_count_2 rfl rfl ?_
  refine j_ldc2 hJ (q := 6) (v' := zL 11) dX9_count_3 tm_1174 rfl rfl ?_
  refine j_sR hJ (q := 9) (rest := []) (As := [.long (zL a.toInt), .long (zL 0), .long (zL 11)]) jl_X9_53 (c_X9_in Z a.toInt 0 11 (by omega) (by omega) (by omega)) dX9_count_6 rfl (by decide) (Nat.le_of_ble_eq_true rfl) [] rfl rfl (fun rv hp => ?_)
  obtain rfl := hp
  show J 9 [(0, .ref h), (1, .int a)] [.int (bI (decide (0 ≤ a.toInt ∧ a.toInt ≤ 11)))] [mO h q ab be bl ta tl tk va, (q 0, ia Z 266 (ni A)), (q 3, ia Z 3 (ni Rf))] 0 0
  refine jp_if_eq hJ (q := 12) (tgt := 20) dX9_count_9 (by decide) rfl (fun c1 => ?_) (fun c1 => ?_)
  · skip
    refine j_aload_n hJ (q := 21) dX9_count_20 rfl 0 rfl rfl ?_
    refine j_bipush hJ (q := 23) dX9_count_21 rfl kb_m2 ?_
    refine j_vW hJ (q := 26) (rest := []) (As := [.int (zI (-2))]) (wr := [(q 0, ia Z 266 (ni A))]) jl_X9_73 (c_X9_bad Z h q ab be bl ta tl tk va Rf (-2) ) 0 rfl rfl dX9_count_23 rfl (by decide) (Nat.le_of_ble_eq_true rfl) [0, 2] [1] rfl rfl rfl rfl (by decide) rfl (fun rv wv hp => ?_)
    obtain ⟨rfl, rfl⟩ := hp
    refine j_world hJ (ws' := [mO h q ab be bl ta tl tk va, (q 0, ia Z 266 (ni A)), (q 3, ia Z 3 (ni (va_up Rf 0 (Rf 0 + 1))))]) [1, 0, 2] rfl rfl ?_
    show J 26 [(0, .ref h), (1, .int a)] [.int (zI (-2))] [mO h q ab be bl ta tl tk va, (q 0, ia Z 266 (ni A)), (q 3, ia Z 3 (ni (va_up Rf 0 (Rf 0 + 1))))] 0 0
    have hP : ¬ (rgI 0 11 a) := by simp only [rgI, isS, isR, pNote, pMark]; omega
    exact hE.1 _ _ _ _ _ _ _ rfl rfl dX9_count_26 (Nat.le_refl _) (Nat.le_refl _) (⟨congrArg (fun z => some (Value.int (zI z))) (by simp only [z_count, if_neg hP, bmp]), by simp only [z_count, if_neg hP, bmp]⟩)
  · skip
    have hn_a := nt_cast (x := a) (by omega)
    refine j_eql (lvs' := [(0, .ref h), (1, .int (nI (nt a)))]) (by rw [← nt_eq (x := a) (by omega)]) ?_
    refine j_aload_n hJ (q := 13) dX9_count_12 rfl 0 rfl rfl ?_
    refine j_iload_n hJ (q := 14) dX9_count_13 rfl 1 rfl rfl ?_
    refine j_vR hJ (q := 17) (rest := []) (As := [.int (nI (nt a))]) jl_X9_271 (c_X9_counted Z h q ab be bl ta tl tk va A (nt a) (by omega) hb (by omega)) 0 rfl rfl dX9_count_14 rfl (by decide) (Nat.le_of_ble_eq_true rfl) [0, 1] rfl rfl (fun rv hp => ?_)
    obtain rfl := hp
    show J 17 [(0, .ref h), (1, .int (nI (nt a)))] [.int (nI (cnt A bl (nt a)))] [mO h q ab be bl ta tl tk va, (q 0, ia Z 266 (ni A)), (q 3, ia Z 3 (ni Rf))] 0 0
    refine j_goto hJ (q := 26) dX9_count_17 (by decide) ?_
    have hP : rgI 0 11 a := by simp only [rgI, isS, isR, pNote, pMark]; omega
    exact hE.1 _ _ _ _ _ _ _ rfl rfl dX9_count_26 (Nat.le_refl _) (Nat.le_refl _) (⟨congrArg (fun z => some (Value.int z)) ((zI_nat _).symm.trans (congrArg zI (by simp only [z_count, if_pos hP, bmp]))), by simp only [z_count, if_pos hP, bmp]⟩)

set_option maxHeartbeats 4000000 in
set_option maxRecDepth 100000 in
theorem c_X9_part (Z : jZ) (h : Nat) (q : Nat → Nat) (ab : Int) (be : Int) (bl : Nat) (ta : Nat) (tl : Nat) (tk : Nat) (va : Nat) (Rf : Nat → Nat) (a : Int32)  : CT Z yX9_part cX9_part 2 ((some FieldType.long)) 3 0 0 [.ref h, .int a] [mO h q ab be bl ta tl tk va, (q 3, ia Z 3 (ni Rf))] (fun rr ww => rr = some (.long (zL (z_part ab be a))) ∧ ww = [mO h q ab be bl ta tl tk va, (q 3, ia Z 3 (ni (if a.toInt = 0 ∨ a.toInt = 1 then Rf else bmp Rf 0)))]) := by
  refine CT.of RX9 false rfl (fun h => by cases h) (by decide +kernel) (Nat.le_of_ble_eq_true rfl) ?_
  intro J hJ hE
  show J 0 [(0, .ref h), (1, .int a)] [] [mO h q ab be bl ta tl tk va, (q 3, ia Z 3 (ni Rf))] 0 0
  have hr_a := zI_rng a
  refine j_iload_n hJ (q := 1) dX9_part_0 rfl 1 rfl rfl ?_
  refine jz_if_ne hJ (q := 4) (tgt := 11) dX9_part_1 (by decide) rfl (zI_of a) (zI_rng a) (fun c1 => ?_) (fun c1 => ?_)
  · skip
    refine j_iload_n hJ (q := 12) dX9_part_11 rfl 1 rfl rfl ?_
    refine j_iconst hJ (q := 13) dX9_part_12 rfl ki_1 ?_
    refine jz_icmp_ne hJ (q := 16) (tgt := 23) dX9_part_13 (by decide) rfl (zI_of a) (zI_nat 1).symm (zI_rng a) (by omega) (fun c2 => ?_) (fun c2 => ?_)
    · skip
      refine j_aload_n hJ (q := 24) dX9_part_23 rfl 0 rfl rfl ?_
      refine j_bipush hJ (q := 26) dX9_part_24 rfl kb_m2 ?_
      refine j_vW hJ (q := 29) (rest := []) (As := [.int (zI (-2))]) (wr := []) jl_X9_73 (c_X9_bad Z h q ab be bl ta tl tk va Rf (-2) ) 0 rfl rfl dX9_part_26 rfl (by decide) (Nat.le_of_ble_eq_true rfl) [0, 1] [] rfl rfl rfl rfl (by decide) rfl (fun rv wv hp => ?_)
      obtain ⟨rfl, rfl⟩ := hp
      show J 29 [(0, .ref h), (1, .int a)] [.int (zI (-2))] [mO h q ab be bl ta tl tk va, (q 3, ia Z 3 (ni (va_up Rf 0 (Rf 0 + 1))))] 0 0
      refine j_i2l hJ (q := 30) dX9_part_29 rfl (zL_i _ rfl (by omega)) ?_
      have hQ0 : ¬ (a.toInt = 0) := by omega
      have hQ1 : ¬ (a.toInt = 1) := by omega
      have hQ9 : ¬ (a.toInt = 0 ∨ a.toInt = 1) := by omega
      exact hE.2.1 _ _ _ _ _ _ rfl dX9_part_30 (Nat.le_refl _) (Nat.le_refl _) (⟨congrArg (fun z => some (Value.long (zL z))) (by simp only [z_part, if_neg hQ0, if_neg hQ1, bmp]), by simp only [if_neg hQ9, bmp]⟩)
    · skip
      refine j_aload_n hJ (q := 17) dX9_part_16 rfl 0 rfl rfl ?_
      refine j_get hJ (q := 20) jf_X9_23 dX9_part_17 0 rfl rfl rfl ?_
      refine j_goto hJ (q := 30) dX9_part_20 (by decide) ?_
      have hQ0 : ¬ (a.toInt = 0) := by omega
      have hQ1 : a.toInt = 1 := by omega
      have hQ9 : a.toInt = 0 ∨ a.toInt = 1 := by omega
      exact hE.2.1 _ _ _ _ _ _ rfl dX9_part_30 (Nat.le_refl _) (Nat.le_refl _) (⟨congrArg (fun z => some (Value.long (zL z))) (by simp only [z_part, if_neg hQ0, if_pos hQ1, bmp]), by simp only [if_pos hQ9, bmp]⟩)
  · skip
    refine j_aload_n hJ (q := 5) dX9_part_4 rfl 0 rfl rfl ?_
    refine j_get hJ (q := 8) jf_X9_187 dX9_part_5 0 rfl rfl rfl ?_
    refine j_goto hJ (q := 30) dX9_part_8 (by decide) ?_
    have hQ0 : a.toInt = 0 := by omega
    have hQ9 : a.toInt = 0 ∨ a.toInt = 1 := by omega
    exact hE.2.1 _ _ _ _ _ _ rfl dX9_part_30 (Nat.le_refl _) (Nat.le_refl _) (⟨congrArg (fun z => some (Value.long (zL z))) (by simp only [z_part, if_pos hQ0, bmp]), by simp only [if_pos hQ9, bmp]⟩)

set_option maxHeartbeats 4000000 in
set_option maxRecDepth 100000 in
theorem c_X9_image (Z : jZ) (h : Nat) (q : Nat → Nat) (ab : Int) (be : Int) (bl : Nat) (ta : Nat) (tl : Nat) (tk : Nat) (va : Nat) (A : Nat → Nat) (Kp : Nat → Nat) (Ik : Nat → Nat) (Rf : Nat → Nat) (a : Int32)  : CT Z yX9_image cX9_image 3 ((some FieldType.int)) 3 0 0 [.ref h, .int a] [mO h q ab be bl ta tl tk va, (q 0, ia Z 266 (ni A)), (q 1, ia Z 532 (ni Kp)), (q 2, za Z 2 (ni Ik)), (q 3, ia Z 3 (ni Rf))] (fun rr ww => rr = some (.int (zI (z_image a))) ∧ ww = [mO h q ab be bl ta tl tk va, (q 0, ia Z 266 (ni A)), (q 1, ia Z 532 (ni (k_image Kp A a))), (q 2, za Z 2 (ni (i_image Ik a))), (q 3, ia Z 3 (ni (if rgI 0 1 a then Rf else bmp Rf 0)))]) := by
  refine CT.of RX9 false rfl (fun h => by cases h) (by decide +kernel) (Nat.le_of_ble_eq_true rfl) ?_
  intro J hJ hE
  show J 0 [(0, .ref h), (1, .int a)] [] [mO h q ab be bl ta tl tk va, (q 0, ia Z 266 (ni A)), (q 1, ia Z 532 (ni Kp)), (q 2, za Z 2 (ni Ik)), (q 3, ia Z 3 (ni Rf))] 0 0
  have hr_a := zI_rng a
  refine j_iload_n hJ (q := 1) dX9_image_0 rfl 1 rfl rfl ?_
  refine j_i2l hJ (q := 2) dX9_image_1 rfl (zL_i _ (zI_of a) (zI_rng a)) ?_
  refine j_lconst hJ (q := 3) (v := zL 0) dX9_image_2 rfl rfl ?_
  refine j_lconst hJ (q := 4) (v := zL 1) dX9_image_3 rfl rfl ?_
  refine j_sR hJ (q := 7) (rest := []) (As := [.long (zL a.toInt), .long (zL 0), .long (zL 1)]) jl_X9_53 (c_X9_in Z a.toInt 0 1 (by omega) (by omega) (by omega)) dX9_image_4 rfl (by decide) (Nat.le_of_ble_eq_true rfl) [] rfl rfl (fun rv hp => ?_)
  obtain rfl := hp
  show J 7 [(0, .ref h), (1, .int a)] [.int (bI (decide (0 ≤ a.toInt ∧ a.toInt ≤ 1)))] [mO h q ab be bl ta tl tk va, (q 0, ia Z 266 (ni A)), (q 1, ia Z 532 (ni Kp)), (q 2, za Z 2 (ni Ik)), (q 3, ia Z 3 (ni Rf))] 0 0
  refine jp_if_ne hJ (q := 10) (tgt := 17) dX9_image_7 (by decide) rfl (fun c1 => ?_) (fun c1 => ?_)
  · skip
    have hn_a := nt_cast (x := a) (by omega)
    refine j_eql (lvs' := [(0, .ref h), (1, .int (nI (nt a)))]) (by rw [← nt_eq (x := a) (by omega)]) ?_
    refine j_iconst hJ (q := 18) dX9_image_17 rfl ki_0 ?_
    refine j_istore_n hJ (q := 19) (lvs' := [(2, .int (nI 0)), (0, .ref h), (1, .int (nI (nt a)))]) dX9_image_18 rfl (by decide) rfl rfl ?_
    have L_19 : ∀ (fu_19 : Nat) (B : Nat → Nat) (k : Nat), 266 - k < fu_19 → (k ≤ 266) → (B = cpI Kp A (266 * nt a) k) → J 19 [(0, .ref h), (1, .int (nI (nt a))), (2, .int (nI k))] [] [mO h q ab be bl ta tl tk va, (q 0, ia Z 266 (ni A)), (q 1, ia Z 532 (ni B)), (q 2, za Z 2 (ni Ik)), (q 3, ia Z 3 (ni Rf))] 0 0 := by
      intro fu_19
      induction fu_19 with
      | zero => intro B k hm; exact absurd hm (Nat.not_lt_zero _)
      | succ fu_19 ih_19 =>
        intro B k hm_19 hk hB
        refine j_iload_n hJ (q := 20) dX9_image_19 rfl 2 rfl rfl ?_
        refine j_sipush hJ (q := 23) dX9_image_20 rfl ks_266 ?_
        refine jn_icmp_ge hJ (q := 26) (tgt := 50) dX9_image_23 (by decide) rfl (by omega) (by omega) (fun c2 => ?_) (fun c2 => ?_)
        · skip
          refine j_aload_n hJ (q := 51) dX9_image_50 rfl 0 rfl rfl ?_
          refine j_get hJ (q := 54) jf_X9_16 dX9_image_51 0 rfl rfl rfl ?_
          refine j_iload_n hJ (q := 55) dX9_image_54 rfl 1 rfl rfl ?_
          refine j_iconst hJ (q := 56) dX9_image_55 rfl ki_1 ?_
          refine j_zastN hJ (q := 57) (ws' := [mO h q ab be bl ta tl tk va, (q 0, ia Z 266 (ni A)), (q 1, ia Z 532 (ni B)), (q 2, za Z 2 (ni (va_up Ik (nt a) 1))), (q 3, ia Z 3 (ni Rf))]) dX9_image_56 3 rfl (by omega) (by decide) (ni_upz _ _ (by omega)) rfl rfl ?_
          refine j_iconst hJ (q := 58) dX9_image_57 rfl ki_1 ?_
          have hP : rgI 0 1 a := by simp only [rgI, isS, isR, pNote, pMark]; omega
          exact hE.1 _ _ _ _ _ _ _ rfl rfl dX9_image_58 (Nat.le_refl _) (Nat.le_refl _) (⟨congrArg (fun z => some (Value.int z)) ((zI_nat _).symm.trans (congrArg zI (by simp only [z_image, if_pos hP]; rfl))), by rw [hB, show k = 266 by omega]; simp only [k_image, i_image, if_pos hP]⟩)
        · skip
          refine j_aload_n hJ (q := 27) dX9_image_26 rfl 0 rfl rfl ?_
          refine j_get hJ (q := 30) jf_X9_13 dX9_image_27 0 rfl rfl rfl ?_
          refine j_sipush hJ (q := 33) dX9_image_30 rfl ks_266 ?_
          refine j_iload_n hJ (q := 34) dX9_image_33 rfl 1 rfl rfl ?_
          refine j_imul hJ (q := 35) dX9_image_34 rfl (pk_mul _ _) ?_
          refine j_iload_n hJ (q := 36) dX9_image_35 rfl 2 rfl rfl ?_
          refine j_iadd hJ (q := 37) dX9_image_36 rfl (nI_add _ _) ?_
          refine j_aload_n hJ (q := 38) dX9_image_37 rfl 0 rfl rfl ?_
          refine j_get hJ (q := 41) jf_X9_7 dX9_image_38 0 rfl rfl rfl ?_
          refine j_iload_n hJ (q := 42) dX9_image_41 rfl 2 rfl rfl ?_
          refine j_ialdN hJ (q := 43) (z := nI (A k)) dX9_image_42 1 rfl (by omega) (by decide) rfl rfl ?_
          refine j_iastN hJ (q := 44) (ws' := [mO h q ab be bl ta tl tk va, (q 0, ia Z 266 (ni A)), (q 1, ia Z 532 (ni (va_up B (266 * (nt a) + k) (A k)))), (q 2, za Z 2 (ni Ik)), (q 3, ia Z 3 (ni Rf))]) dX9_image_43 2 rfl (by omega) (by decide) (ni_up _ _ _) rfl rfl ?_
          refine j_iinc hJ (q := 47) (lvs' := [(2, .int (nI (k + 1))), (0, .ref h), (1, .int (nI (nt a)))]) dX9_image_44 2 rfl (by rw [show Int32.ofInt 1 = nI 1 from by decide +kernel]; exact nI_add _ _) (by decide) rfl rfl ?_
          refine j_goto hJ (q := 19) dX9_image_47 (by decide) ?_
          refine j_locals hJ [1, 2, 0] rfl ?_
          exact ih_19 (va_up B (266 * (nt a) + k) (A k)) (k + 1) (by omega) (by omega) (by rw [hB]; exact cpI_up Kp A _ k)
    refine j_locals hJ [1, 2, 0] rfl ?_
    exact L_19 ((266 - 0) + 1) Kp 0 (Nat.lt_succ_self _) (by omega) (cpI_0 Kp A _)
  · skip
    refine j_aload_n hJ (q := 11) dX9_image_10 rfl 0 rfl rfl ?_
    refine j_bipush hJ (q := 13) dX9_image_11 rfl kb_m2 ?_
    refine j_vW hJ (q := 16) (rest := []) (As := [.int (zI (-2))]) (wr := [(q 0, ia Z 266 (ni A)), (q 1, ia Z 532 (ni Kp)), (q 2, za Z 2 (ni Ik))]) jl_X9_73 (c_X9_bad Z h q ab be bl ta tl tk va Rf (-2) ) 0 rfl rfl dX9_image_13 rfl (by decide) (Nat.le_of_ble_eq_true rfl) [0, 4] [1, 2, 3] rfl rfl rfl rfl (by decide) rfl (fun rv wv hp => ?_)
    obtain ⟨rfl, rfl⟩ := hp
    refine j_world hJ (ws' := [mO h q ab be bl ta tl tk va, (q 0, ia Z 266 (ni A)), (q 1, ia Z 532 (ni Kp)), (q 2, za Z 2 (ni Ik)), (q 3, ia Z 3 (ni (va_up Rf 0 (Rf 0 + 1))))]) [3, 0, 1, 2, 4] rfl rfl ?_
    show J 16 [(0, .ref h), (1, .int a)] [.int (zI (-2))] [mO h q ab be bl ta tl tk va, (q 0, ia Z 266 (ni A)), (q 1, ia Z 532 (ni Kp)), (q 2, za Z 2 (ni Ik)), (q 3, ia Z 3 (ni (va_up Rf 0 (Rf 0 + 1))))] 0 0
    have hP : ¬ (rgI 0 1 a) := by simp only [rgI, isS, isR, pNote, pMark]; omega
    exact hE.1 _ _ _ _ _ _ _ rfl rfl dX9_image_16 (Nat.le_refl _) (Nat.le_refl _) (⟨congrArg (fun z => some (Value.int (zI z))) (by simp only [z_image, k_image, i_image, if_neg hP, bmp]), by simp only [z_image, k_image, i_image, if_neg hP, bmp]⟩)

set_option maxHeartbeats 4000000 in
set_option maxRecDepth 100000 in
theorem c_X9_from (Z : jZ) (h : Nat) (q : Nat → Nat) (ab : Int) (be : Int) (bl : Nat) (ta : Nat) (tl : Nat) (tk : Nat) (va : Nat) (A : Nat → Nat) (Kp : Nat → Nat) (Ik : Nat → Nat) (Rf : Nat → Nat) (a : Int32) (hik : ∀ j, Ik j < 100000) : CT Z yX9_from cX9_from 3 ((some FieldType.int)) 3 0 0 [.ref h, .int a] [mO h q ab be bl ta tl tk va, (q 0, ia Z 266 (ni A)), (q 1, ia Z 532 (ni Kp)), (q 2, za Z 2 (ni Ik)), (q 3, ia Z 3 (ni Rf))] (fun rr ww => rr = some (.int (zI (z_from Ik a))) ∧ ww = [mO h q ab be bl ta tl tk va, (q 0, ia Z 266 (ni (a_from A Kp Ik a))), (q 1, ia Z 532 (ni Kp)), (q 2, za Z 2 (ni Ik)), (q 3, ia Z 3 (ni (r_from Rf Ik a)))]) := by
  refine CT.of RX9 false rfl (fun h => by cases h) (by decide +kernel) (Nat.le_of_ble_eq_true rfl) ?_
  intro J hJ hE
  show J 0 [(0, .ref h), (1, .int a)] [] [mO h q ab be bl ta tl tk va, (q 0, ia Z 266 (ni A)), (q 1, ia Z 532 (ni Kp)), (q 2, za Z 2 (ni Ik)), (q 3, ia Z 3 (ni Rf))] 0 0
  have hr_a := zI_rng a
  refine j_iload_n hJ (q := 1) dX9_from_0 rfl 1 rfl rfl ?_
  refine j_i2l hJ (q := 2) dX9_from_1 rfl (zL_i _ (zI_of a) (zI_rng a)) ?_
  refine j_lconst hJ (q := 3) (v := zL 0) dX9_from_2 rfl rfl ?_
  refine j_lconst hJ (q := 4) (v := zL 1) dX9_from_3 rfl rfl ?_
  refine j_sR hJ (q := 7) (rest := []) (As := [.long (zL a.toInt), .long (zL 0), .long (zL 1)]) jl_X9_53 (c_X9_in Z a.toInt 0 1 (by omega) (by omega) (by omega)) dX9_from_4 rfl (by decide) (Nat.le_of_ble_eq_true rfl) [] rfl rfl (fun rv hp => ?_)
  obtain rfl := hp
  show J 7 [(0, .ref h), (1, .int a)] [.int (bI (decide (0 ≤ a.toInt ∧ a.toInt ≤ 1)))] [mO h q ab be bl ta tl tk va, (q 0, ia Z 266 (ni A)), (q 1, ia Z 532 (ni Kp)), (q 2, za Z 2 (ni Ik)), (q 3, ia Z 3 (ni Rf))] 0 0
  refine jp_if_ne hJ (q := 10) (tgt := 17) dX9_from_7 (by decide) rfl (fun c1 => ?_) (fun c1 => ?_)
  · skip
    have hn_a := nt_cast (x := a) (by omega)
    refine j_eql (lvs' := [(0, .ref h), (1, .int (nI (nt a)))]) (by rw [← nt_eq (x := a) (by omega)]) ?_
    refine j_aload_n hJ (q := 18) dX9_from_17 rfl 0 rfl rfl ?_
    refine j_get hJ (q := 21) jf_X9_16 dX9_from_18 0 rfl rfl rfl ?_
    refine j_iload_n hJ (q := 22) dX9_from_21 rfl 1 rfl rfl ?_
    refine j_zaldN hJ (q := 23) (z := nI (Ik (nt a))) dX9_from_22 3 rfl (by omega) (by decide) rfl rfl ?_
    have b2 := hik (nt a)
    refine jn_if_ne hJ (q := 26) (tgt := 31) dX9_from_23 (by decide) rfl (by omega) (fun c3 => ?_) (fun c3 => ?_)
    · skip
      refine j_iconst hJ (q := 32) dX9_from_31 rfl ki_0 ?_
      refine j_istore_n hJ (q := 33) (lvs' := [(2, .int (nI 0)), (0, .ref h), (1, .int (nI (nt a)))]) dX9_from_32 rfl (by decide) rfl rfl ?_
      have L_33 : ∀ (fu_33 : Nat) (B : Nat → Nat) (k : Nat), 266 - k < fu_33 → (k ≤ 266) → (∀ j, j < k → B j = Kp (266 * nt a + j)) → J 33 [(0, .ref h), (1, .int (nI (nt a))), (2, .int (nI k))] [] [mO h q ab be bl ta tl tk va, (q 0, ia Z 266 (ni B)), (q 1, ia Z 532 (ni Kp)), (q 2, za Z 2 (ni Ik)), (q 3, ia Z 3 (ni Rf))] 0 0 := by
        intro fu_33
        induction fu_33 with
        | zero => intro B k hm; exact absurd hm (Nat.not_lt_zero _)
        | succ fu_33 ih_33 =>
          intro B k hm_33 hk hB
          refine j_iload_n hJ (q := 34) dX9_from_33 rfl 2 rfl rfl ?_
          refine j_sipush hJ (q := 37) dX9_from_34 rfl ks_266 ?_
          refine jn_icmp_ge hJ (q := 40) (tgt := 64) dX9_from_37 (by decide) rfl (by omega) (by omega) (fun c4 => ?_) (fun c4 => ?_)
          · skip
            refine j_ext hJ (ws' := [mO h q ab be bl ta tl tk va, (q 0, ia Z 266 (ni (fun j => Kp (266 * nt a + j)))), (q 1, ia Z 532 (ni Kp)), (q 2, za Z 2 (ni Ik)), (q 3, ia Z 3 (ni Rf))]) (g := ni (fun j => Kp (266 * nt a + j))) 1 rfl (fun j hj => congrArg nI (hB j (by omega))) rfl ?_
            refine j_iconst hJ (q := 65) dX9_from_64 rfl ki_1 ?_
            have hP : rgI 0 1 a := by simp only [rgI, isS, isR, pNote, pMark]; omega
            have hQ0 : ¬ (Ik (nt a) = 0) := by omega
            exact hE.1 _ _ _ _ _ _ _ rfl rfl dX9_from_65 (Nat.le_refl _) (Nat.le_refl _) (⟨congrArg (fun z => some (Value.int z)) ((zI_nat _).symm.trans (congrArg zI (by simp only [z_from, if_pos hP, if_neg hQ0]; rfl))), by simp only [z_from, a_from, r_from, if_pos hP, if_neg hQ0, bmp]⟩)
          · skip
            refine j_aload_n hJ (q := 41) dX9_from_40 rfl 0 rfl rfl ?_
            refine j_get hJ (q := 44) jf_X9_7 dX9_from_41 0 rfl rfl rfl ?_
            refine j_iload_n hJ (q := 45) dX9_from_44 rfl 2 rfl rfl ?_
            refine j_aload_n hJ (q := 46) dX9_from_45 rfl 0 rfl rfl ?_
            refine j_get hJ (q := 49) jf_X9_13 dX9_from_46 0 rfl rfl rfl ?_
            refine j_sipush hJ (q := 52) dX9_from_49 rfl ks_266 ?_
            refine j_iload_n hJ (q := 53) dX9_from_52 rfl 1 rfl rfl ?_
            refine j_imul hJ (q := 54) dX9_from_53 rfl (pk_mul _ _) ?_
            refine j_iload_n hJ (q := 55) dX9_from_54 rfl 2 rfl rfl ?_
            refine j_iadd hJ (q := 56) dX9_from_55 rfl (nI_add _ _) ?_
            refine j_ialdN hJ (q := 57) (z := nI (Kp (266 * (nt a) + k))) dX9_from_56 2 rfl (by omega) (by decide) rfl rfl ?_
            refine j_iastN hJ (q := 58) (ws' := [mO h q ab be bl ta tl tk va, (q 0, ia Z 266 (ni (va_up B k (Kp (266 * (nt a) + k))))), (q 1, ia Z 532 (ni Kp)), (q 2, za Z 2 (ni Ik)), (q 3, ia Z 3 (ni Rf))]) dX9_from_57 1 rfl (by omega) (by decide) (ni_up _ _ _) rfl rfl ?_
            refine j_iinc hJ (q := 61) (lvs' := [(2, .int (nI (k + 1))), (0, .ref h), (1, .int (nI (nt a)))]) dX9_from_58 2 rfl (by rw [show Int32.ofInt 1 = nI 1 from by decide +kernel]; exact nI_add _ _) (by decide) rfl rfl ?_
            refine j_goto hJ (q := 33) dX9_from_61 (by decide) ?_
            refine j_locals hJ [1, 2, 0] rfl ?_
            exact ih_33 (va_up B k (Kp (266 * (nt a) + k))) (k + 1) (by omega) (by omega) (fun j hj => by simp only [va_up]; by_cases h : j = k <;> simp only [h, if_true, if_false]; exact hB j (by omega))
      refine j_locals hJ [1, 2, 0] rfl ?_
      exact L_33 ((266 - 0) + 1) A 0 (Nat.lt_succ_self _) (by omega) (fun j hj => absurd hj (Nat.not_lt_zero _))
    · skip
      refine j_aload_n hJ (q := 27) dX9_from_26 rfl 0 rfl rfl ?_
      refine j_vW hJ (q := 30) (rest := []) (As := []) (wr := [(q 0, ia Z 266 (ni A)), (q 1, ia Z 532 (ni Kp)), (q 2, za Z 2 (ni Ik))]) jl_X9_93 (c_X9_no Z h q ab be bl ta tl tk va Rf ) 0 rfl rfl dX9_from_27 rfl (by decide) (Nat.le_of_ble_eq_true rfl) [0, 4] [1, 2, 3] rfl rfl rfl rfl (by decide) rfl (fun rv wv hp => ?_)
      obtain ⟨rfl, rfl⟩ := hp
      refine j_world hJ (ws' := [mO h q ab be bl ta tl tk va, (q 0, ia Z 266 (ni A)), (q 1, ia Z 532 (ni Kp)), (q 2, za Z 2 (ni Ik)), (q 3, ia Z 3 (ni (va_up Rf 1 (Rf 1 + 1))))]) [3, 0, 1, 2, 4] rfl rfl ?_
      show J 30 [(0, .ref h), (1, .int (nI (nt a)))] [.int (zI (-3))] [mO h q ab be bl ta tl tk va, (q 0, ia Z 266 (ni A)), (q 1, ia Z 532 (ni Kp)), (q 2, za Z 2 (ni Ik)), (q 3, ia Z 3 (ni (va_up Rf 1 (Rf 1 + 1))))] 0 0
      have hP : rgI 0 1 a := by simp only [rgI, isS, isR, pNote, pMark]; omega
      have hQ0 : Ik (nt a) = 0 := by omega
      exact hE.1 _ _ _ _ _ _ _ rfl rfl dX9_from_30 (Nat.le_refl _) (Nat.le_refl _) (⟨congrArg (fun z => some (Value.int (zI z))) (by simp only [z_from, a_from, r_from, if_pos hP, if_pos hQ0, bmp]), by simp only [z_from, a_from, r_from, if_pos hP, if_pos hQ0, bmp]⟩)
  · skip
    refine j_aload_n hJ (q := 11) dX9_from_10 rfl 0 rfl rfl ?_
    refine j_bipush hJ (q := 13) dX9_from_11 rfl kb_m2 ?_
    refine j_vW hJ (q := 16) (rest := []) (As := [.int (zI (-2))]) (wr := [(q 0, ia Z 266 (ni A)), (q 1, ia Z 532 (ni Kp)), (q 2, za Z 2 (ni Ik))]) jl_X9_73 (c_X9_bad Z h q ab be bl ta tl tk va Rf (-2) ) 0 rfl rfl dX9_from_13 rfl (by decide) (Nat.le_of_ble_eq_true rfl) [0, 4] [1, 2, 3] rfl rfl rfl rfl (by decide) rfl (fun rv wv hp => ?_)
    obtain ⟨rfl, rfl⟩ := hp
    refine j_world hJ (ws' := [mO h q ab be bl ta tl tk va, (q 0, ia Z 266 (ni A)), (q 1, ia Z 532 (ni Kp)), (q 2, za Z 2 (ni Ik)), (q 3, ia Z 3 (ni (va_up Rf 0 (Rf 0 + 1))))]) [3, 0, 1, 2, 4] rfl rfl ?_
    show J 16 [(0, .ref h), (1, .int a)] [.int (zI (-2))] [mO h q ab be bl ta tl tk va, (q 0, ia Z 266 (ni A)), (q 1, ia Z 532 (ni Kp)), (q 2, za Z 2 (ni Ik)), (q 3, ia Z 3 (ni (va_up Rf 0 (Rf 0 + 1))))] 0 0
    have hP : ¬ (rgI 0 1 a) := by simp only [rgI, isS, isR, pNote, pMark]; omega
    exact hE.1 _ _ _ _ _ _ _ rfl rfl dX9_from_16 (Nat.le_refl _) (Nat.le_refl _) (⟨congrArg (fun z => some (Value.int (zI z))) (by simp only [z_from, a_from, r_from, if_neg hP, bmp]), by simp only [z_from, a_from, r_from, if_neg hP, bmp]⟩)

set_option maxHeartbeats 4000000 in
set_option maxRecDepth 100000 in
theorem c_X9_of (Z : jZ) (h : Nat) (q : Nat → Nat) (ab : Int) (be : Int) (bl : Nat) (ta : Nat) (tl : Nat) (tk : Nat) (va : Nat) (A : Nat → Nat) (Rf : Nat → Nat) (a : Int32) (b : Int32) (hg : wg A) : CT Z yX9_of cX9_of 4 ((some FieldType.int)) 5 0 0 [.ref h, .int a, .int b] [mO h q ab be bl ta tl tk va, (q 0, ia Z 266 (ni A)), (q 3, ia Z 3 (ni Rf))] (fun rr ww => rr = some (.int (zI (z_of A a b))) ∧ ww = [mO h q ab be bl ta tl tk va, (q 0, ia Z 266 (ni A)), (q 3, ia Z 3 (ni (if isR A a ∧ rgI 0 6 b then Rf else bmp Rf 0)))]) := by
  refine CT.of RX9 false rfl (fun h => by cases h) (by decide +kernel) (Nat.le_of_ble_eq_true rfl) ?_
  intro J hJ hE
  show J 0 [(0, .ref h), (1, .int a), (2, .int b)] [] [mO h q ab be bl ta tl tk va, (q 0, ia Z 266 (ni A)), (q 3, ia Z 3 (ni Rf))] 0 0
  obtain ⟨hw, ⟨g1, g2, g3, g4, g8⟩, hrs, hrn, hrm, hpst⟩ := id hg
  obtain ⟨⟨w1, w2, w3, w4, w5, w6⟩, wb, wr, wh, wd⟩ := id hw
  have hb := wb
  have hr_a := zI_rng a
  have hr_b := zI_rng b
  refine j_aload_n hJ (q := 1) dX9_of_0 rfl 0 rfl rfl ?_
  refine j_iload_n hJ (q := 2) dX9_of_1 rfl 1 rfl rfl ?_
  refine j_vR hJ (q := 5) (rest := []) (As := [.int a]) jl_X9_129 (c_X9_isRider Z h q ab be bl ta tl tk va A a (by omega)) 0 rfl rfl dX9_of_2 rfl (by decide) (Nat.le_of_ble_eq_true rfl) [0, 1] rfl rfl (fun rv hp => ?_)
  obtain rfl := hp
  show J 5 [(0, .ref h), (1, .int a), (2, .int b)] [.int (bI (decide (0 ≤ a.toInt ∧ a.toInt ≤ (A 0 : Int) - 1)))] [mO h q ab be bl ta tl tk va, (q 0, ia Z 266 (ni A)), (q 3, ia Z 3 (ni Rf))] 0 0
  refine jp_if_eq hJ (q := 8) (tgt := 20) dX9_of_5 (by decide) rfl (fun c1 => ?_) (fun c1 => ?_)
  · skip
    refine j_aload_n hJ (q := 21) dX9_of_20 rfl 0 rfl rfl ?_
    refine j_bipush hJ (q := 23) dX9_of_21 rfl kb_m2 ?_
    refine j_vW hJ (q := 26) (rest := []) (As := [.int (zI (-2))]) (wr := [(q 0, ia Z 266 (ni A))]) jl_X9_73 (c_X9_bad Z h q ab be bl ta tl tk va Rf (-2) ) 0 rfl rfl dX9_of_23 rfl (by decide) (Nat.le_of_ble_eq_true rfl) [0, 2] [1] rfl rfl rfl rfl (by decide) rfl (fun rv wv hp => ?_)
    obtain ⟨rfl, rfl⟩ := hp
    refine j_world hJ (ws' := [mO h q ab be bl ta tl tk va, (q 0, ia Z 266 (ni A)), (q 3, ia Z 3 (ni (va_up Rf 0 (Rf 0 + 1))))]) [1, 0, 2] rfl rfl ?_
    show J 26 [(0, .ref h), (1, .int a), (2, .int b)] [.int (zI (-2))] [mO h q ab be bl ta tl tk va, (q 0, ia Z 266 (ni A)), (q 3, ia Z 3 (ni (va_up Rf 0 (Rf 0 + 1))))] 0 0
    have hP : ¬ (isR A a ∧ rgI 0 6 b) := by simp only [rgI, isS, isR, pNote, pMark]; omega
    exact hE.1 _ _ _ _ _ _ _ rfl rfl dX9_of_26 (Nat.le_refl _) (Nat.le_refl _) (⟨congrArg (fun z => some (Value.int (zI z))) (by simp only [z_of, if_neg hP, bmp]), by simp only [z_of, if_neg hP, bmp]⟩)
  · skip
    refine j_iload_n hJ (q := 9) dX9_of_8 rfl 2 rfl rfl ?_
    refine j_i2l hJ (q := 10) dX9_of_9 rfl (zL_i _ (zI_of b) (zI_rng b)) ?_
    refine j_lconst hJ (q := 11) (v := zL 0) dX9_of_10 rfl rfl ?_
    refine j_ldc2 hJ (q := 14) (v' := zL 6) dX9_of_11 tm_946 rfl rfl ?_
    refine j_sR hJ (q := 17) (rest := []) (As := [.long (zL b.toInt), .long (zL 0), .long (zL 6)]) jl_X9_53 (c_X9_in Z b.toInt 0 6 (by omega) (by omega) (by omega)) dX9_of_14 rfl (by decide) (Nat.le_of_ble_eq_true rfl) [] rfl rfl (fun rv hp => ?_)
    obtain rfl := hp
    show J 17 [(0, .ref h), (1, .int a), (2, .int b)] [.int (bI (decide (0 ≤ b.toInt ∧ b.toInt ≤ 6)))] [mO h q ab be bl ta tl tk va, (q 0, ia Z 266 (ni A)), (q 3, ia Z 3 (ni Rf))] 0 0
    refine jp_if_ne hJ (q := 20) (tgt := 27) dX9_of_17 (by decide) rfl (fun c2 => ?_) (fun c2 => ?_)
    · skip
      have hn_a := nt_cast (x := a) (by omega)
      refine j_eql (lvs' := [(0, .ref h), (1, .int (nI (nt a))), (2, .int b)]) (by rw [← nt_eq (x := a) (by omega)]) ?_
      have hn_b := nt_cast (x := b) (by omega)
      refine j_eql (lvs' := [(0, .ref h), (1, .int (nI (nt a))), (2, .int (nI (nt b)))]) (by rw [← nt_eq (x := b) (by omega)]) ?_
      refine j_aload_n hJ (q := 28) dX9_of_27 rfl 0 rfl rfl ?_
      refine j_get hJ (q := 31) jf_X9_7 dX9_of_28 0 rfl rfl rfl ?_
      refine j_bipush hJ (q := 33) dX9_of_31 rfl kb_15 ?_
      refine j_iload_n hJ (q := 34) dX9_of_33 rfl 1 rfl rfl ?_
      refine j_iadd hJ (q := 35) dX9_of_34 rfl (nI_add _ _) ?_
      refine j_ialdN hJ (q := 36) (z := nI (A (15 + (nt a)))) dX9_of_35 1 rfl (by omega) (by decide) rfl rfl ?_
      refine j_istore_n hJ (q := 37) (lvs' := [(3, .int (nI (A (15 + (nt a))))), (0, .ref h), (1, .int (nI (nt a))), (2, .int (nI (nt b)))]) dX9_of_36 rfl (by decide) rfl rfl ?_
      obtain ⟨r1, r2, r3, r4⟩ := wr (nt a) (by omega)
      have hh1 := wh (A (15 + nt a)) (by omega)
      refine j_iload_n hJ (q := 38) dX9_of_37 rfl 3 rfl rfl ?_
      have c3 : nt b = 0 ∨ nt b = 1 ∨ nt b = 2 ∨ nt b = 3 ∨ nt b = 4 ∨ nt b = 5 ∨ nt b = 6 := by omega
      rcases c3 with c3 | c3 | c3 | c3 | c3 | c3 | c3
      · skip
        refine jn_tableIn hJ (q := 76) (off := 38) (k := 0) c3 dX9_of_38 (by decide) (by decide) (by decide) (by decide) ?_
        refine j_aload_n hJ (q := 77) dX9_of_76 rfl 1 rfl rfl ?_
        refine j_get hJ (q := 80) jf_X9_7 dX9_of_77 0 rfl rfl rfl ?_
        refine j_bipush hJ (q := 82) dX9_of_80 rfl kb_22 ?_
        refine j_iload_n hJ (q := 83) dX9_of_82 rfl 2 rfl rfl ?_
        refine j_iadd hJ (q := 84) dX9_of_83 rfl (nI_add _ _) ?_
        refine j_ialdN hJ (q := 85) (z := nI (A (22 + (nt a)))) dX9_of_84 1 rfl (by omega) (by decide) rfl rfl ?_
        have hP : isR A a ∧ rgI 0 6 b := by simp only [rgI, isS, isR, pNote, pMark]; omega
        have hQ0 : nt b = 0 := by omega
        exact hE.1 _ _ _ _ _ _ _ rfl rfl dX9_of_85 (Nat.le_refl _) (Nat.le_refl _) (⟨congrArg (fun z => some (Value.int z)) ((zI_nat _).symm.trans (congrArg zI (by simp only [z_of, if_pos hP, if_pos hQ0, bmp]))), by simp only [z_of, if_pos hP, if_pos hQ0, bmp]⟩)
      · skip
        refine jn_tableIn hJ (q := 86) (off := 48) (k := 1) c3 dX9_of_38 (by decide) (by decide) (by decide) (by decide) ?_
        refine j_aload_n hJ (q := 87) dX9_of_86 rfl 1 rfl rfl ?_
        refine j_get hJ (q := 90) jf_X9_7 dX9_of_87 0 rfl rfl rfl ?_
        refine j_bipush hJ (q := 92) dX9_of_90 rfl kb_28 ?_
        refine j_iload_n hJ (q := 93) dX9_of_92 rfl 2 rfl rfl ?_
        refine j_iadd hJ (q := 94) dX9_of_93 rfl (nI_add _ _) ?_
        refine j_ialdN hJ (q := 95) (z := nI (A (28 + (nt a)))) dX9_of_94 1 rfl (by omega) (by decide) rfl rfl ?_
        have hP : isR A a ∧ rgI 0 6 b := by simp only [rgI, isS, isR, pNote, pMark]; omega
        have hQ0 : ¬ (nt b = 0) := by omega
        have hQ1 : nt b = 1 := by omega
        exact hE.1 _ _ _ _ _ _ _ rfl rfl dX9_of_95 (Nat.le_refl _) (Nat.le_refl _) (⟨congrArg (fun z => some (Value.int z)) ((zI_nat _).symm.trans (congrArg zI (by simp only [z_of, if_pos hP, if_neg hQ0, if_pos hQ1, bmp]))), by simp only [z_of, if_pos hP, if_neg hQ0, if_pos hQ1, bmp]⟩)
      · skip
        refine jn_tableIn hJ (q := 96) (off := 58) (k := 2) c3 dX9_of_38 (by decide) (by decide) (by decide) (by decide) ?_
        refine j_iload_n hJ (q := 97) dX9_of_96 rfl 0 rfl rfl ?_
        have hP : isR A a ∧ rgI 0 6 b := by simp only [rgI, isS, isR, pNote, pMark]; omega
        have hQ0 : ¬ (nt b = 0) := by omega
        have hQ1 : ¬ (nt b = 1) := by omega
        have hQ2 : nt b = 2 := by omega
        exact hE.1 _ _ _ _ _ _ _ rfl rfl dX9_of_97 (Nat.le_refl _) (Nat.le_refl _) (⟨congrArg (fun z => some (Value.int z)) ((zI_nat _).symm.trans (congrArg zI (by simp only [z_of, if_pos hP, if_neg hQ0, if_neg hQ1, if_pos hQ2, bmp]))), by simp only [z_of, if_pos hP, if_neg hQ0, if_neg hQ1, if_pos hQ2, bmp]⟩)
      · skip
        refine jn_tableIn hJ (q := 98) (off := 60) (k := 3) c3 dX9_of_38 (by decide) (by decide) (by decide) (by decide) ?_
        refine j_aload_n hJ (q := 99) dX9_of_98 rfl 1 rfl rfl ?_
        refine j_get hJ (q := 102) jf_X9_7 dX9_of_99 0 rfl rfl rfl ?_
        refine j_bipush hJ (q := 104) dX9_of_102 rfl kb_9 ?_
        refine j_iload_n hJ (q := 105) dX9_of_104 rfl 2 rfl rfl ?_
        refine j_iadd hJ (q := 106) dX9_of_105 rfl (nI_add _ _) ?_
        refine j_ialdN hJ (q := 107) (z := nI (A (9 + (nt a)))) dX9_of_106 1 rfl (by omega) (by decide) rfl rfl ?_
        have hP : isR A a ∧ rgI 0 6 b := by simp only [rgI, isS, isR, pNote, pMark]; omega
        have hQ0 : ¬ (nt b = 0) := by omega
        have hQ1 : ¬ (nt b = 1) := by omega
        have hQ2 : ¬ (nt b = 2) := by omega
        have hQ3 : nt b = 3 := by omega
        exact hE.1 _ _ _ _ _ _ _ rfl rfl dX9_of_107 (Nat.le_refl _) (Nat.le_refl _) (⟨congrArg (fun z => some (Value.int z)) ((zI_nat _).symm.trans (congrArg zI (by simp only [z_of, if_pos hP, if_neg hQ0, if_neg hQ1, if_neg hQ2, if_pos hQ3, bmp]))), by simp only [z_of, if_pos hP, if_neg hQ0, if_neg hQ1, if_neg hQ2, if_pos hQ3, bmp]⟩)
      · skip
        refine jn_tableIn hJ (q := 108) (off := 70) (k := 4) c3 dX9_of_38 (by decide) (by decide) (by decide) (by decide) ?_
        refine j_aload_n hJ (q := 109) dX9_of_108 rfl 1 rfl rfl ?_
        refine j_get hJ (q := 112) jf_X9_7 dX9_of_109 0 rfl rfl rfl ?_
        refine j_iload_n hJ (q := 113) dX9_of_112 rfl 0 rfl rfl ?_
        refine j_sR hJ (q := 116) (rest := []) (As := [.ref (q 0), .int (nI (A (15 + (nt a))))]) jl_X9_136 (c_X9_placeOf Z (q 0) 266 A (A (15 + (nt a))) (by omega) (by omega) (by omega) hb) dX9_of_113 rfl (by decide) (Nat.le_of_ble_eq_true rfl) [1] rfl rfl (fun rv hp => ?_)
        obtain rfl := hp
        show J 116 [(3, .int (nI (A (15 + (nt a))))), (0, .ref h), (1, .int (nI (nt a))), (2, .int (nI (nt b)))] [.int (nI (plc A (A (15 + (nt a)))))] [mO h q ab be bl ta tl tk va, (q 0, ia Z 266 (ni A)), (q 3, ia Z 3 (ni Rf))] 0 0
        have hP : isR A a ∧ rgI 0 6 b := by simp only [rgI, isS, isR, pNote, pMark]; omega
        have hQ0 : ¬ (nt b = 0) := by omega
        have hQ1 : ¬ (nt b = 1) := by omega
        have hQ2 : ¬ (nt b = 2) := by omega
        have hQ3 : ¬ (nt b = 3) := by omega
        have hQ4 : nt b = 4 := by omega
        exact hE.1 _ _ _ _ _ _ _ rfl rfl dX9_of_116 (Nat.le_refl _) (Nat.le_refl _) (⟨congrArg (fun z => some (Value.int z)) ((zI_nat _).symm.trans (congrArg zI (by simp only [z_of, if_pos hP, if_neg hQ0, if_neg hQ1, if_neg hQ2, if_neg hQ3, if_pos hQ4, bmp]))), by simp only [z_of, if_pos hP, if_neg hQ0, if_neg hQ1, if_neg hQ2, if_neg hQ3, if_pos hQ4, bmp]⟩)
      · skip
        refine jn_tableIn hJ (q := 117) (off := 79) (k := 5) c3 dX9_of_38 (by decide) (by decide) (by decide) (by decide) ?_
        refine j_aload_n hJ (q := 118) dX9_of_117 rfl 1 rfl rfl ?_
        refine j_get hJ (q := 121) jf_X9_7 dX9_of_118 0 rfl rfl rfl ?_
        refine j_iload_n hJ (q := 122) dX9_of_121 rfl 0 rfl rfl ?_
        refine j_sR hJ (q := 125) (rest := []) (As := [.ref (q 0), .int (nI (A (15 + (nt a))))]) jl_X9_107 (c_X9_highOf Z (q 0) 266 A (A (15 + (nt a))) (by omega) (by omega) hb hh1.1 (by omega)) dX9_of_122 rfl (by decide) (Nat.le_of_ble_eq_true rfl) [1] rfl rfl (fun rv hp => ?_)
        obtain rfl := hp
        show J 125 [(3, .int (nI (A (15 + (nt a))))), (0, .ref h), (1, .int (nI (nt a))), (2, .int (nI (nt b)))] [.int (nI (hghO A (A (15 + (nt a)))))] [mO h q ab be bl ta tl tk va, (q 0, ia Z 266 (ni A)), (q 3, ia Z 3 (ni Rf))] 0 0
        have hP : isR A a ∧ rgI 0 6 b := by simp only [rgI, isS, isR, pNote, pMark]; omega
        have hQ0 : ¬ (nt b = 0) := by omega
        have hQ1 : ¬ (nt b = 1) := by omega
        have hQ2 : ¬ (nt b = 2) := by omega
        have hQ3 : ¬ (nt b = 3) := by omega
        have hQ4 : ¬ (nt b = 4) := by omega
        have hQ5 : nt b = 5 := by omega
        exact hE.1 _ _ _ _ _ _ _ rfl rfl dX9_of_125 (Nat.le_refl _) (Nat.le_refl _) (⟨congrArg (fun z => some (Value.int z)) ((zI_nat _).symm.trans (congrArg zI (by simp only [z_of, if_pos hP, if_neg hQ0, if_neg hQ1, if_neg hQ2, if_neg hQ3, if_neg hQ4, if_pos hQ5, bmp]))), by simp only [z_of, if_pos hP, if_neg hQ0, if_neg hQ1, if_neg hQ2, if_neg hQ3, if_neg hQ4, if_pos hQ5, bmp]⟩)
      · skip
        refine jn_tableOut hJ (q := 126) (k := 6) c3 dX9_of_38 (by decide) (by decide) ?_
        refine j_aload_n hJ (q := 127) dX9_of_126 rfl 1 rfl rfl ?_
        refine j_get hJ (q := 130) jf_X9_7 dX9_of_127 0 rfl rfl rfl ?_
        refine j_iload_n hJ (q := 131) dX9_of_130 rfl 2 rfl rfl ?_
        refine j_sR hJ (q := 134) (rest := []) (As := [.ref (q 0), .int (nI (nt a))]) jl_X9_113 (c_X9_reachOf Z (q 0) 266 A (nt a) (by omega) hw (by omega)) dX9_of_131 rfl (by decide) (Nat.le_of_ble_eq_true rfl) [1] rfl rfl (fun rv hp => ?_)
        obtain rfl := hp
        show J 134 [(3, .int (nI (A (15 + (nt a))))), (0, .ref h), (1, .int (nI (nt a))), (2, .int (nI (nt b)))] [.int (nI (rchO A (nt a)))] [mO h q ab be bl ta tl tk va, (q 0, ia Z 266 (ni A)), (q 3, ia Z 3 (ni Rf))] 0 0
        have hP : isR A a ∧ rgI 0 6 b := by simp only [rgI, isS, isR, pNote, pMark]; omega
        have hQ0 : ¬ (nt b = 0) := by omega
        have hQ1 : ¬ (nt b = 1) := by omega
        have hQ2 : ¬ (nt b = 2) := by omega
        have hQ3 : ¬ (nt b = 3) := by omega
        have hQ4 : ¬ (nt b = 4) := by omega
        have hQ5 : ¬ (nt b = 5) := by omega
        exact hE.1 _ _ _ _ _ _ _ rfl rfl dX9_of_134 (Nat.le_refl _) (Nat.le_refl _) (⟨congrArg (fun z => some (Value.int z)) ((zI_nat _).symm.trans (congrArg zI (by simp only [z_of, if_pos hP, if_neg hQ0, if_neg hQ1, if_neg hQ2, if_neg hQ3, if_neg hQ4, if_neg hQ5, bmp]))), by simp only [z_of, if_pos hP, if_neg hQ0, if_neg hQ1, if_neg hQ2, if_neg hQ3, if_neg hQ4, if_neg hQ5, bmp]⟩)
    · skip
      refine j_aload_n hJ (q := 21) dX9_of_20 rfl 0 rfl rfl ?_
      refine j_bipush hJ (q := 23) dX9_of_21 rfl kb_m2 ?_
      refine j_vW hJ (q := 26) (rest := []) (As := [.int (zI (-2))]) (wr := [(q 0, ia Z 266 (ni A))]) jl_X9_73 (c_X9_bad Z h q ab be bl ta tl tk va Rf (-2) ) 0 rfl rfl dX9_of_23 rfl (by decide) (Nat.le_of_ble_eq_true rfl) [0, 2] [1] rfl rfl rfl rfl (by decide) rfl (fun rv wv hp => ?_)
      obtain ⟨rfl, rfl⟩ := hp
      refine j_world hJ (ws' := [mO h q ab be bl ta tl tk va, (q 0, ia Z 266 (ni A)), (q 3, ia Z 3 (ni (va_up Rf 0 (Rf 0 + 1))))]) [1, 0, 2] rfl rfl ?_
      show J 26 [(0, .ref h), (1, .int a), (2, .int b)] [.int (zI (-2))] [mO h q ab be bl ta tl tk va, (q 0, ia Z 266 (ni A)), (q 3, ia Z 3 (ni (va_up Rf 0 (Rf 0 + 1))))] 0 0
      have hP : ¬ (isR A a ∧ rgI 0 6 b) := by simp only [rgI, isS, isR, pNote, pMark]; omega
      exact hE.1 _ _ _ _ _ _ _ rfl rfl dX9_of_26 (Nat.le_refl _) (Nat.le_refl _) (⟨congrArg (fun z => some (Value.int (zI z))) (by simp only [z_of, if_neg hP, bmp]), by simp only [z_of, if_neg hP, bmp]⟩)

set_option maxHeartbeats 4000000 in
set_option maxRecDepth 100000 in
theorem c_X9_about (Z : jZ) (h : Nat) (q : Nat → Nat) (ab : Int) (be : Int) (bl : Nat) (ta : Nat) (tl : Nat) (tk : Nat) (va : Nat) (A : Nat → Nat) (Rf : Nat → Nat) (a : Int32) (b : Int32) (hg : wg A) : CT Z yX9_about cX9_about 3 ((some FieldType.int)) 3 0 0 [.ref h, .int a, .int b] [mO h q ab be bl ta tl tk va, (q 0, ia Z 266 (ni A)), (q 3, ia Z 3 (ni Rf))] (fun rr ww => rr = some (.int (zI (z_about A a b))) ∧ ww = [mO h q ab be bl ta tl tk va, (q 0, ia Z 266 (ni A)), (q 3, ia Z 3 (ni (if isS A a ∧ rgI 0 3 b then Rf else bmp Rf 0)))]) := by
  refine CT.of RX9 false rfl (fun h => by cases h) (by decide +kernel) (Nat.le_of_ble_eq_true rfl) ?_
  intro J hJ hE
  show J 0 [(0, .ref h), (1, .int a), (2, .int b)] [] [mO h q ab be bl ta tl tk va, (q 0, ia Z 266 (ni A)), (q 3, ia Z 3 (ni Rf))] 0 0
  obtain ⟨hw, ⟨g1, g2, g3, g4, g8⟩, hrs, hrn, hrm, hpst⟩ := id hg
  obtain ⟨⟨w1, w2, w3, w4, w5, w6⟩, wb, wr, wh, wd⟩ := id hw
  have hb := wb
  have hr_a := zI_rng a
  have hr_b := zI_rng b
  refine j_aload_n hJ (q := 1) dX9_about_0 rfl 0 rfl rfl ?_
  refine j_iload_n hJ (q := 2) dX9_about_1 rfl 1 rfl rfl ?_
  refine j_vR hJ (q := 5) (rest := []) (As := [.int a]) jl_X9_77 (c_X9_isSeat Z h q ab be bl ta tl tk va A a (by omega)) 0 rfl rfl dX9_about_2 rfl (by decide) (Nat.le_of_ble_eq_true rfl) [0, 1] rfl rfl (fun rv hp => ?_)
  obtain rfl := hp
  show J 5 [(0, .ref h), (1, .int a), (2, .int b)] [.int (bI (decide (0 ≤ a.toInt ∧ a.toInt ≤ (A 21 : Int) - 1)))] [mO h q ab be bl ta tl tk va, (q 0, ia Z 266 (ni A)), (q 3, ia Z 3 (ni Rf))] 0 0
  refine jp_if_eq hJ (q := 8) (tgt := 20) dX9_about_5 (by decide) rfl (fun c1 => ?_) (fun c1 => ?_)
  · skip
    refine j_aload_n hJ (q := 21) dX9_about_20 rfl 0 rfl rfl ?_
    refine j_bipush hJ (q := 23) dX9_about_21 rfl kb_m2 ?_
    refine j_vW hJ (q := 26) (rest := []) (As := [.int (zI (-2))]) (wr := [(q 0, ia Z 266 (ni A))]) jl_X9_73 (c_X9_bad Z h q ab be bl ta tl tk va Rf (-2) ) 0 rfl rfl dX9_about_23 rfl (by decide) (Nat.le_of_ble_eq_true rfl) [0, 2] [1] rfl rfl rfl rfl (by decide) rfl (fun rv wv hp => ?_)
    obtain ⟨rfl, rfl⟩ := hp
    refine j_world hJ (ws' := [mO h q ab be bl ta tl tk va, (q 0, ia Z 266 (ni A)), (q 3, ia Z 3 (ni (va_up Rf 0 (Rf 0 + 1))))]) [1, 0, 2] rfl rfl ?_
    show J 26 [(0, .ref h), (1, .int a), (2, .int b)] [.int (zI (-2))] [mO h q ab be bl ta tl tk va, (q 0, ia Z 266 (ni A)), (q 3, ia Z 3 (ni (va_up Rf 0 (Rf 0 + 1))))] 0 0
    have hP : ¬ (isS A a ∧ rgI 0 3 b) := by simp only [rgI, isS, isR, pNote, pMark]; omega
    exact hE.1 _ _ _ _ _ _ _ rfl rfl dX9_about_26 (Nat.le_refl _) (Nat.le_refl _) (⟨congrArg (fun z => some (Value.int (zI z))) (by simp only [z_about, if_neg hP, bmp]), by simp only [z_about, if_neg hP, bmp]⟩)
  · skip
    refine j_iload_n hJ (q := 9) dX9_about_8 rfl 2 rfl rfl ?_
    refine j_i2l hJ (q := 10) dX9_about_9 rfl (zL_i _ (zI_of b) (zI_rng b)) ?_
    refine j_lconst hJ (q := 11) (v := zL 0) dX9_about_10 rfl rfl ?_
    refine j_ldc2 hJ (q := 14) (v' := zL 3) dX9_about_11 tm_847 rfl rfl ?_
    refine j_sR hJ (q := 17) (rest := []) (As := [.long (zL b.toInt), .long (zL 0), .long (zL 3)]) jl_X9_53 (c_X9_in Z b.toInt 0 3 (by omega) (by omega) (by omega)) dX9_about_14 rfl (by decide) (Nat.le_of_ble_eq_true rfl) [] rfl rfl (fun rv hp => ?_)
    obtain rfl := hp
    show J 17 [(0, .ref h), (1, .int a), (2, .int b)] [.int (bI (decide (0 ≤ b.toInt ∧ b.toInt ≤ 3)))] [mO h q ab be bl ta tl tk va, (q 0, ia Z 266 (ni A)), (q 3, ia Z 3 (ni Rf))] 0 0
    refine jp_if_ne hJ (q := 20) (tgt := 27) dX9_about_17 (by decide) rfl (fun c2 => ?_) (fun c2 => ?_)
    · skip
      have hn_a := nt_cast (x := a) (by omega)
      refine j_eql (lvs' := [(0, .ref h), (1, .int (nI (nt a))), (2, .int b)]) (by rw [← nt_eq (x := a) (by omega)]) ?_
      have hn_b := nt_cast (x := b) (by omega)
      refine j_eql (lvs' := [(0, .ref h), (1, .int (nI (nt a))), (2, .int (nI (nt b)))]) (by rw [← nt_eq (x := b) (by omega)]) ?_
      refine j_iload_n hJ (q := 28) dX9_about_27 rfl 2 rfl rfl ?_
      have c3 : nt b = 0 ∨ nt b = 1 ∨ nt b = 2 ∨ nt b = 3 := by omega
      rcases c3 with c3 | c3 | c3 | c3
      · skip
        refine jn_tableIn hJ (q := 56) (off := 28) (k := 0) c3 dX9_about_28 (by decide) (by decide) (by decide) (by decide) ?_
        refine j_aload_n hJ (q := 57) dX9_about_56 rfl 0 rfl rfl ?_
        refine j_get hJ (q := 60) jf_X9_7 dX9_about_57 0 rfl rfl rfl ?_
        refine j_bipush hJ (q := 62) dX9_about_60 rfl kb_34 ?_
        refine j_iload_n hJ (q := 63) dX9_about_62 rfl 1 rfl rfl ?_
        refine j_iadd hJ (q := 64) dX9_about_63 rfl (nI_add _ _) ?_
        refine j_ialdN hJ (q := 65) (z := nI (A (34 + (nt a)))) dX9_about_64 1 rfl (by omega) (by decide) rfl rfl ?_
        have hP : isS A a ∧ rgI 0 3 b := by simp only [rgI, isS, isR, pNote, pMark]; omega
        have hQ0 : nt b = 0 := by omega
        exact hE.1 _ _ _ _ _ _ _ rfl rfl dX9_about_65 (Nat.le_refl _) (Nat.le_refl _) (⟨congrArg (fun z => some (Value.int z)) ((zI_nat _).symm.trans (congrArg zI (by simp only [z_about, if_pos hP, if_pos hQ0, bmp]))), by simp only [z_about, if_pos hP, if_pos hQ0, bmp]⟩)
      · skip
        refine jn_tableIn hJ (q := 66) (off := 38) (k := 1) c3 dX9_about_28 (by decide) (by decide) (by decide) (by decide) ?_
        refine j_aload_n hJ (q := 67) dX9_about_66 rfl 0 rfl rfl ?_
        refine j_get hJ (q := 70) jf_X9_7 dX9_about_67 0 rfl rfl rfl ?_
        refine j_bipush hJ (q := 72) dX9_about_70 rfl kb_46 ?_
        refine j_iload_n hJ (q := 73) dX9_about_72 rfl 1 rfl rfl ?_
        refine j_iadd hJ (q := 74) dX9_about_73 rfl (nI_add _ _) ?_
        refine j_ialdN hJ (q := 75) (z := nI (A (46 + (nt a)))) dX9_about_74 1 rfl (by omega) (by decide) rfl rfl ?_
        have hP : isS A a ∧ rgI 0 3 b := by simp only [rgI, isS, isR, pNote, pMark]; omega
        have hQ0 : ¬ (nt b = 0) := by omega
        have hQ1 : nt b = 1 := by omega
        exact hE.1 _ _ _ _ _ _ _ rfl rfl dX9_about_75 (Nat.le_refl _) (Nat.le_refl _) (⟨congrArg (fun z => some (Value.int z)) ((zI_nat _).symm.trans (congrArg zI (by simp only [z_about, if_pos hP, if_neg hQ0, if_pos hQ1, bmp]))), by simp only [z_about, if_pos hP, if_neg hQ0, if_pos hQ1, bmp]⟩)
      · skip
        refine jn_tableIn hJ (q := 76) (off := 48) (k := 2) c3 dX9_about_28 (by decide) (by decide) (by decide) (by decide) ?_
        have hh1 := wh (nt a) (by omega)
        refine j_aload_n hJ (q := 77) dX9_about_76 rfl 0 rfl rfl ?_
        refine j_get hJ (q := 80) jf_X9_7 dX9_about_77 0 rfl rfl rfl ?_
        refine j_iload_n hJ (q := 81) dX9_about_80 rfl 1 rfl rfl ?_
        refine j_sR hJ (q := 84) (rest := []) (As := [.ref (q 0), .int (nI (nt a))]) jl_X9_107 (c_X9_highOf Z (q 0) 266 A (nt a) (by omega) (by omega) hb hh1.1 (by omega)) dX9_about_81 rfl (by decide) (Nat.le_of_ble_eq_true rfl) [1] rfl rfl (fun rv hp => ?_)
        obtain rfl := hp
        show J 84 [(0, .ref h), (1, .int (nI (nt a))), (2, .int (nI (nt b)))] [.int (nI (hghO A (nt a)))] [mO h q ab be bl ta tl tk va, (q 0, ia Z 266 (ni A)), (q 3, ia Z 3 (ni Rf))] 0 0
        have hP : isS A a ∧ rgI 0 3 b := by simp only [rgI, isS, isR, pNote, pMark]; omega
        have hQ0 : ¬ (nt b = 0) := by omega
        have hQ1 : ¬ (nt b = 1) := by omega
        have hQ2 : nt b = 2 := by omega
        exact hE.1 _ _ _ _ _ _ _ rfl rfl dX9_about_84 (Nat.le_refl _) (Nat.le_refl _) (⟨congrArg (fun z => some (Value.int z)) ((zI_nat _).symm.trans (congrArg zI (by simp only [z_about, if_pos hP, if_neg hQ0, if_neg hQ1, if_pos hQ2, bmp]))), by simp only [z_about, if_pos hP, if_neg hQ0, if_neg hQ1, if_pos hQ2, bmp]⟩)
      · skip
        refine jn_tableOut hJ (q := 85) (k := 3) c3 dX9_about_28 (by decide) (by decide) ?_
        refine j_aload_n hJ (q := 86) dX9_about_85 rfl 0 rfl rfl ?_
        refine j_get hJ (q := 89) jf_X9_7 dX9_about_86 0 rfl rfl rfl ?_
        refine j_iload_n hJ (q := 90) dX9_about_89 rfl 1 rfl rfl ?_
        refine j_sR hJ (q := 93) (rest := []) (As := [.ref (q 0), .int (nI (nt a))]) jl_X9_89 (c_X9_whoIs Z (q 0) 266 A (nt a) (by omega) (by omega) (by omega) hb) dX9_about_90 rfl (by decide) (Nat.le_of_ble_eq_true rfl) [1] rfl rfl (fun rv hp => ?_)
        obtain rfl := hp
        show J 93 [(0, .ref h), (1, .int (nI (nt a))), (2, .int (nI (nt b)))] [.int (oI (who A (nt a)))] [mO h q ab be bl ta tl tk va, (q 0, ia Z 266 (ni A)), (q 3, ia Z 3 (ni Rf))] 0 0
        have hP : isS A a ∧ rgI 0 3 b := by simp only [rgI, isS, isR, pNote, pMark]; omega
        have hQ0 : ¬ (nt b = 0) := by omega
        have hQ1 : ¬ (nt b = 1) := by omega
        have hQ2 : ¬ (nt b = 2) := by omega
        exact hE.1 _ _ _ _ _ _ _ rfl rfl dX9_about_93 (Nat.le_refl _) (Nat.le_refl _) (⟨congrArg (fun z => some (Value.int z)) ((oI_oz _).trans (congrArg zI (by simp only [z_about, if_pos hP, if_neg hQ0, if_neg hQ1, if_neg hQ2, bmp]))), by simp only [z_about, if_pos hP, if_neg hQ0, if_neg hQ1, if_neg hQ2, bmp]⟩)
    · skip
      refine j_aload_n hJ (q := 21) dX9_about_20 rfl 0 rfl rfl ?_
      refine j_bipush hJ (q := 23) dX9_about_21 rfl kb_m2 ?_
      refine j_vW hJ (q := 26) (rest := []) (As := [.int (zI (-2))]) (wr := [(q 0, ia Z 266 (ni A))]) jl_X9_73 (c_X9_bad Z h q ab be bl ta tl tk va Rf (-2) ) 0 rfl rfl dX9_about_23 rfl (by decide) (Nat.le_of_ble_eq_true rfl) [0, 2] [1] rfl rfl rfl rfl (by decide) rfl (fun rv wv hp => ?_)
      obtain ⟨rfl, rfl⟩ := hp
      refine j_world hJ (ws' := [mO h q ab be bl ta tl tk va, (q 0, ia Z 266 (ni A)), (q 3, ia Z 3 (ni (va_up Rf 0 (Rf 0 + 1))))]) [1, 0, 2] rfl rfl ?_
      show J 26 [(0, .ref h), (1, .int a), (2, .int b)] [.int (zI (-2))] [mO h q ab be bl ta tl tk va, (q 0, ia Z 266 (ni A)), (q 3, ia Z 3 (ni (va_up Rf 0 (Rf 0 + 1))))] 0 0
      have hP : ¬ (isS A a ∧ rgI 0 3 b) := by simp only [rgI, isS, isR, pNote, pMark]; omega
      exact hE.1 _ _ _ _ _ _ _ rfl rfl dX9_about_26 (Nat.le_refl _) (Nat.le_refl _) (⟨congrArg (fun z => some (Value.int (zI z))) (by simp only [z_about, if_neg hP, bmp]), by simp only [z_about, if_neg hP, bmp]⟩)
