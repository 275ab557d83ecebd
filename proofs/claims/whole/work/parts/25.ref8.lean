set_option maxHeartbeats 4000000 in
set_option maxRecDepth 100000 in
theorem c_X9_where (Z : jZ) (h : Nat) (q : Nat → Nat) (ab : Int) (be : Int) (bl : Nat) (ta : Nat) (tl : Nat) (tk : Nat) (va : Nat) (A : Nat → Nat) (Hd : Nat → Nat) (Rf : Nat → Nat) (a : Int32) (b : Int32) (c : Int32) (hg : wg A) : CT Z yX9_where cX9_where 6 ((some FieldType.int)) 6 0 0 [.ref h, .int a, .int b, .int c] [mO h q ab be bl ta tl tk va, (q 0, ia Z 266 (ni A)), (q 4, ia Z 58 (ni Hd)), (q 3, ia Z 3 (ni Rf))] (fun rr ww => ∃ Hx : Nat → Nat, rr = some (.int (zI (z_where A a b c))) ∧ ww = [mO h q ab be bl ta tl tk va, (q 0, ia Z 266 (ni A)), (q 4, ia Z 58 (ni Hx)), (q 3, ia Z 3 (ni (if isR A a ∧ rgI 0 60 b ∧ rgI 0 1 c then Rf else bmp Rf 0)))]) := by
  refine CT.of RX9 false rfl (fun h => by cases h) (by decide +kernel) (Nat.le_of_ble_eq_true rfl) ?_
  intro J hJ hE
  show J 0 [(0, .ref h), (1, .int a), (2, .int b), (3, .int c)] [] [mO h q ab be bl ta tl tk va, (q 0, ia Z 266 (ni A)), (q 4, ia Z 58 (ni Hd)), (q 3, ia Z 3 (ni Rf))] 0 0
  obtain ⟨hw, ⟨g1, g2, g3, g4, g8⟩, hrs, hrn, hrm, hpst⟩ := id hg
  obtain ⟨⟨w1, w2, w3, w4, w5, w6⟩, wb, wr, wh, wd⟩ := id hw
  have hb := wb
  have hr_a := zI_rng a
  have hr_b := zI_rng b
  have hr_c := zI_rng c
  refine j_aload_n hJ (q := 1) dX9_where_0 rfl 0 rfl rfl ?_
  refine j_iload_n hJ (q := 2) dX9_where_1 rfl 1 rfl rfl ?_
  refine j_vR hJ (q := 5) (rest := []) (As := [.int a]) jl_X9_129 (c_X9_isRider Z h q ab be bl ta tl tk va A a (by omega)) 0 rfl rfl dX9_where_2 rfl (by decide) (Nat.le_of_ble_eq_true rfl) [0, 1] rfl rfl (fun rv hp => ?_)
  obtain rfl := hp
  show J 5 [(0, .ref h), (1, .int a), (2, .int b), (3, .int c)] [.int (bI (decide (0 ≤ a.toInt ∧ a.toInt ≤ (A 0 : Int) - 1)))] [mO h q ab be bl ta tl tk va, (q 0, ia Z 266 (ni A)), (q 4, ia Z 58 (ni Hd)), (q 3, ia Z 3 (ni Rf))] 0 0
  refine jp_if_eq hJ (q := 8) (tgt := 30) dX9_where_5 (by decide) rfl (fun c1 => ?_) (fun c1 => ?_)
  · skip
    refine j_aload_n hJ (q := 31) dX9_where_30 rfl 0 rfl rfl ?_
    refine j_bipush hJ (q := 33) dX9_where_31 rfl kb_m2 ?_
    refine j_vW hJ (q := 36) (rest := []) (As := [.int (zI (-2))]) (wr := [(q 0, ia Z 266 (ni A)), (q 4, ia Z 58 (ni Hd))]) jl_X9_73 (c_X9_bad Z h q ab be bl ta tl tk va Rf (-2) ) 0 rfl rfl dX9_where_33 rfl (by decide) (Nat.le_of_ble_eq_true rfl) [0, 3] [1, 2] rfl rfl rfl rfl (by decide) rfl (fun rv wv hp => ?_)
    obtain ⟨rfl, rfl⟩ := hp
    refine j_world hJ (ws' := [mO h q ab be bl ta tl tk va, (q 0, ia Z 266 (ni A)), (q 4, ia Z 58 (ni Hd)), (q 3, ia Z 3 (ni (va_up Rf 0 (Rf 0 + 1))))]) [2, 0, 1, 3] rfl rfl ?_
    show J 36 [(0, .ref h), (1, .int a), (2, .int b), (3, .int c)] [.int (zI (-2))] [mO h q ab be bl ta tl tk va, (q 0, ia Z 266 (ni A)), (q 4, ia Z 58 (ni Hd)), (q 3, ia Z 3 (ni (va_up Rf 0 (Rf 0 + 1))))] 0 0
    have hP : ¬ (isR A a ∧ rgI 0 60 b ∧ rgI 0 1 c) := by simp only [rgI, isS, isR, pNote, pMark, pFast, pLever, pHands, pSlip, pEven]; omega
    exact hE.1 _ _ _ _ _ _ _ rfl rfl dX9_where_36 (Nat.le_refl _) (Nat.le_refl _) (⟨Hd, congrArg (fun z => some (Value.int (zI z))) (by simp only [z_where, if_neg hP, bmp]), by simp only [z_where, if_neg hP, bmp]⟩)
  · skip
    refine j_iload_n hJ (q := 9) dX9_where_8 rfl 2 rfl rfl ?_
    refine j_i2l hJ (q := 10) dX9_where_9 rfl (zL_i _ (zI_of b) (zI_rng b)) ?_
    refine j_lconst hJ (q := 11) (v := zL 0) dX9_where_10 rfl rfl ?_
    refine j_ldc2 hJ (q := 14) (v' := zL 60) dX9_where_11 tm_898 rfl rfl ?_
    refine j_sR hJ (q := 17) (rest := []) (As := [.long (zL b.toInt), .long (zL 0), .long (zL 60)]) jl_X9_53 (c_X9_in Z b.toInt 0 60 (by omega) (by omega) (by omega)) dX9_where_14 rfl (by decide) (Nat.le_of_ble_eq_true rfl) [] rfl rfl (fun rv hp => ?_)
    obtain rfl := hp
    show J 17 [(0, .ref h), (1, .int a), (2, .int b), (3, .int c)] [.int (bI (decide (0 ≤ b.toInt ∧ b.toInt ≤ 60)))] [mO h q ab be bl ta tl tk va, (q 0, ia Z 266 (ni A)), (q 4, ia Z 58 (ni Hd)), (q 3, ia Z 3 (ni Rf))] 0 0
    refine jp_if_eq hJ (q := 20) (tgt := 30) dX9_where_17 (by decide) rfl (fun c2 => ?_) (fun c2 => ?_)
    · skip
      refine j_aload_n hJ (q := 31) dX9_where_30 rfl 0 rfl rfl ?_
      refine j_bipush hJ (q := 33) dX9_where_31 rfl kb_m2 ?_
      refine j_vW hJ (q := 36) (rest := []) (As := [.int (zI (-2))]) (wr := [(q 0, ia Z 266 (ni A)), (q 4, ia Z 58 (ni Hd))]) jl_X9_73 (c_X9_bad Z h q ab be bl ta tl tk va Rf (-2) ) 0 rfl rfl dX9_where_33 rfl (by decide) (Nat.le_of_ble_eq_true rfl) [0, 3] [1, 2] rfl rfl rfl rfl (by decide) rfl (fun rv wv hp => ?_)
      obtain ⟨rfl, rfl⟩ := hp
      refine j_world hJ (ws' := [mO h q ab be bl ta tl tk va, (q 0, ia Z 266 (ni A)), (q 4, ia Z 58 (ni Hd)), (q 3, ia Z 3 (ni (va_up Rf 0 (Rf 0 + 1))))]) [2, 0, 1, 3] rfl rfl ?_
      show J 36 [(0, .ref h), (1, .int a), (2, .int b), (3, .int c)] [.int (zI (-2))] [mO h q ab be bl ta tl tk va, (q 0, ia Z 266 (ni A)), (q 4, ia Z 58 (ni Hd)), (q 3, ia Z 3 (ni (va_up Rf 0 (Rf 0 + 1))))] 0 0
      have hP : ¬ (isR A a ∧ rgI 0 60 b ∧ rgI 0 1 c) := by simp only [rgI, isS, isR, pNote, pMark, pFast, pLever, pHands, pSlip, pEven]; omega
      exact hE.1 _ _ _ _ _ _ _ rfl rfl dX9_where_36 (Nat.le_refl _) (Nat.le_refl _) (⟨Hd, congrArg (fun z => some (Value.int (zI z))) (by simp only [z_where, if_neg hP, bmp]), by simp only [z_where, if_neg hP, bmp]⟩)
    · skip
      refine j_iload_n hJ (q := 21) dX9_where_20 rfl 3 rfl rfl ?_
      refine j_i2l hJ (q := 22) dX9_where_21 rfl (zL_i _ (zI_of c) (zI_rng c)) ?_
      refine j_lconst hJ (q := 23) (v := zL 0) dX9_where_22 rfl rfl ?_
      refine j_lconst hJ (q := 24) (v := zL 1) dX9_where_23 rfl rfl ?_
      refine j_sR hJ (q := 27) (rest := []) (As := [.long (zL c.toInt), .long (zL 0), .long (zL 1)]) jl_X9_53 (c_X9_in Z c.toInt 0 1 (by omega) (by omega) (by omega)) dX9_where_24 rfl (by decide) (Nat.le_of_ble_eq_true rfl) [] rfl rfl (fun rv hp => ?_)
      obtain rfl := hp
      show J 27 [(0, .ref h), (1, .int a), (2, .int b), (3, .int c)] [.int (bI (decide (0 ≤ c.toInt ∧ c.toInt ≤ 1)))] [mO h q ab be bl ta tl tk va, (q 0, ia Z 266 (ni A)), (q 4, ia Z 58 (ni Hd)), (q 3, ia Z 3 (ni Rf))] 0 0
      refine jp_if_ne hJ (q := 30) (tgt := 37) dX9_where_27 (by decide) rfl (fun c3 => ?_) (fun c3 => ?_)
      · skip
        have hn_a := nt_cast (x := a) (by omega)
        refine j_eql (lvs' := [(0, .ref h), (1, .int (nI (nt a))), (2, .int b), (3, .int c)]) (by rw [← nt_eq (x := a) (by omega)]) ?_
        have hn_b := nt_cast (x := b) (by omega)
        refine j_eql (lvs' := [(0, .ref h), (1, .int (nI (nt a))), (2, .int (nI (nt b))), (3, .int c)]) (by rw [← nt_eq (x := b) (by omega)]) ?_
        have hn_c := nt_cast (x := c) (by omega)
        refine j_eql (lvs' := [(0, .ref h), (1, .int (nI (nt a))), (2, .int (nI (nt b))), (3, .int (nI (nt c)))]) (by rw [← nt_eq (x := c) (by omega)]) ?_
        refine j_aload_n hJ (q := 38) dX9_where_37 rfl 0 rfl rfl ?_
        refine j_vW hJ (q := 41) (rest := []) (As := []) (wr := [(q 3, ia Z 3 (ni Rf))]) jl_X9_139 (c_X9_layHand Z h q ab be bl ta tl tk va A Hd ) 0 rfl rfl dX9_where_38 rfl (by decide) (Nat.le_of_ble_eq_true rfl) [0, 1, 2] [3] rfl rfl rfl rfl (by decide) rfl (fun rv wv hp => ?_)
        obtain ⟨rfl, rfl⟩ := hp
        refine j_world hJ (ws' := [mO h q ab be bl ta tl tk va, (q 0, ia Z 266 (ni A)), (q 4, ia Z 58 (ni A)), (q 3, ia Z 3 (ni Rf))]) [1, 2, 3, 0] rfl rfl ?_
        show J 41 [(0, .ref h), (1, .int (nI (nt a))), (2, .int (nI (nt b))), (3, .int (nI (nt c)))] [] [mO h q ab be bl ta tl tk va, (q 0, ia Z 266 (ni A)), (q 4, ia Z 58 (ni A)), (q 3, ia Z 3 (ni Rf))] 0 0
        refine j_iconst hJ (q := 42) dX9_where_41 rfl ki_0 ?_
        refine j_istore hJ (q := 44) (lvs' := [(4, .int (nI 0)), (0, .ref h), (1, .int (nI (nt a))), (2, .int (nI (nt b))), (3, .int (nI (nt c)))]) dX9_where_42 (by decide) rfl rfl ?_
        have L_44 : ∀ (fu_44 : Nat) (B : Nat → Nat) (k : Nat), nt b - k < fu_44 → (k ≤ nt b) → (gI (nt b - k) B = gI (nt b) A) → (wf B) → (B 8 + (nt b - k) < 90000) → (B 0 = A 0) → J 44 [(0, .ref h), (1, .int (nI (nt a))), (2, .int (nI (nt b))), (3, .int (nI (nt c))), (4, .int (nI k))] [] [mO h q ab be bl ta tl tk va, (q 0, ia Z 266 (ni A)), (q 4, ia Z 58 (ni B)), (q 3, ia Z 3 (ni Rf))] 0 0 := by
          intro fu_44
          induction fu_44 with
          | zero => intro B k hm; exact absurd hm (Nat.not_lt_zero _)
          | succ fu_44 ih_44 =>
            intro B k hm_44 hk hB hwB hBt hB0
            refine j_iload hJ (q := 46) dX9_where_44 4 rfl rfl ?_
            refine j_iload_n hJ (q := 47) dX9_where_46 rfl 2 rfl rfl ?_
            refine jn_icmp_ge hJ (q := 50) (tgt := 66) dX9_where_47 (by decide) rfl (by omega) (by omega) (fun c4 => ?_) (fun c4 => ?_)
            · skip
              obtain ⟨r1, r2, r3, r4⟩ := hwB.2.2.1 (nt a) (by rw [hB0]; omega)
              have hh1 := hwB.2.2.2.1 (B (15 + nt a)) (by have := hwB.1.2.1; omega)
              have q6 := hwB.1
              have hBb := hwB.2.1
              refine j_iload_n hJ (q := 67) dX9_where_66 rfl 3 rfl rfl ?_
              refine jn_if_ne hJ (q := 70) (tgt := 89) dX9_where_67 (by decide) rfl (by omega) (fun c5 => ?_) (fun c5 => ?_)
              · skip
                refine j_aload_n hJ (q := 90) dX9_where_89 rfl 0 rfl rfl ?_
                refine j_get hJ (q := 93) jf_X9_27 dX9_where_90 0 rfl rfl rfl ?_
                refine j_aload_n hJ (q := 94) dX9_where_93 rfl 0 rfl rfl ?_
                refine j_get hJ (q := 97) jf_X9_27 dX9_where_94 0 rfl rfl rfl ?_
                refine j_bipush hJ (q := 99) dX9_where_97 rfl kb_15 ?_
                refine j_iload_n hJ (q := 100) dX9_where_99 rfl 1 rfl rfl ?_
                refine j_iadd hJ (q := 101) dX9_where_100 rfl (nI_add _ _) ?_
                refine j_ialdN hJ (q := 102) (z := nI (B (15 + (nt a)))) dX9_where_101 2 rfl (by omega) (by decide) rfl rfl ?_
                refine j_sR hJ (q := 105) (rest := []) (As := [.ref (q 4), .int (nI (B (15 + (nt a))))]) jl_X9_107 (c_X9_highOf Z (q 4) 58 B (B (15 + (nt a))) (by omega) (by omega) hBb hh1.1 (by omega)) dX9_where_102 rfl (by decide) (Nat.le_of_ble_eq_true rfl) [2] rfl rfl (fun rv hp => ?_)
                obtain rfl := hp
                show J 105 [(0, .ref h), (1, .int (nI (nt a))), (2, .int (nI (nt b))), (3, .int (nI (nt c))), (4, .int (nI k))] [.int (nI (hghO B (B (15 + (nt a)))))] [mO h q ab be bl ta tl tk va, (q 0, ia Z 266 (ni A)), (q 4, ia Z 58 (ni B)), (q 3, ia Z 3 (ni Rf))] 0 0
                have hP : isR A a ∧ rgI 0 60 b ∧ rgI 0 1 c := by simp only [rgI, isS, isR, pNote, pMark, pFast, pLever, pHands, pSlip, pEven]; omega
                have hQ0 : ¬ (nt c = 0) := by omega
                have hBE : B = gI (nt b) A := by rw [← hB, show nt b - k = 0 by omega]; rfl
                exact hE.1 _ _ _ _ _ _ _ rfl rfl dX9_where_105 (Nat.le_refl _) (Nat.le_refl _) (⟨B, congrArg (fun z => some (Value.int z)) ((zI_nat _).symm.trans (congrArg zI (by rw [hBE]; simp only [z_where, if_pos hP, if_neg hQ0, bmp]))), by simp only [z_where, if_pos hP, if_neg hQ0, bmp]⟩)
              · skip
                refine j_aload_n hJ (q := 71) dX9_where_70 rfl 0 rfl rfl ?_
                refine j_get hJ (q := 74) jf_X9_27 dX9_where_71 0 rfl rfl rfl ?_
                refine j_aload_n hJ (q := 75) dX9_where_74 rfl 0 rfl rfl ?_
                refine j_get hJ (q := 78) jf_X9_27 dX9_where_75 0 rfl rfl rfl ?_
                refine j_bipush hJ (q := 80) dX9_where_78 rfl kb_15 ?_
                refine j_iload_n hJ (q := 81) dX9_where_80 rfl 1 rfl rfl ?_
                refine j_iadd hJ (q := 82) dX9_where_81 rfl (nI_add _ _) ?_
                refine j_ialdN hJ (q := 83) (z := nI (B (15 + (nt a)))) dX9_where_82 2 rfl (by omega) (by decide) rfl rfl ?_
                refine j_sR hJ (q := 86) (rest := []) (As := [.ref (q 4), .int (nI (B (15 + (nt a))))]) jl_X9_136 (c_X9_placeOf Z (q 4) 58 B (B (15 + (nt a))) (by omega) (by omega) (by omega) hBb) dX9_where_83 rfl (by decide) (Nat.le_of_ble_eq_true rfl) [2] rfl rfl (fun rv hp => ?_)
                obtain rfl := hp
                show J 86 [(0, .ref h), (1, .int (nI (nt a))), (2, .int (nI (nt b))), (3, .int (nI (nt c))), (4, .int (nI k))] [.int (nI (plc B (B (15 + (nt a)))))] [mO h q ab be bl ta tl tk va, (q 0, ia Z 266 (ni A)), (q 4, ia Z 58 (ni B)), (q 3, ia Z 3 (ni Rf))] 0 0
                refine j_goto hJ (q := 105) dX9_where_86 (by decide) ?_
                have hP : isR A a ∧ rgI 0 60 b ∧ rgI 0 1 c := by simp only [rgI, isS, isR, pNote, pMark, pFast, pLever, pHands, pSlip, pEven]; omega
                have hQ0 : nt c = 0 := by omega
                have hBE : B = gI (nt b) A := by rw [← hB, show nt b - k = 0 by omega]; rfl
                exact hE.1 _ _ _ _ _ _ _ rfl rfl dX9_where_105 (Nat.le_refl _) (Nat.le_refl _) (⟨B, congrArg (fun z => some (Value.int z)) ((zI_nat _).symm.trans (congrArg zI (by rw [hBE]; simp only [z_where, if_pos hP, if_pos hQ0, bmp]))), by simp only [z_where, if_pos hP, if_pos hQ0, bmp]⟩)
            · skip
              refine j_aload_n hJ (q := 51) dX9_where_50 rfl 0 rfl rfl ?_
              refine j_get hJ (q := 54) jf_X9_27 dX9_where_51 0 rfl rfl rfl ?_
              refine j_iconst hJ (q := 55) dX9_where_54 rfl ki_0 ?_
              refine j_sW hJ (q := 58) (rest := []) (As := [.ref (q 4), .int (bI false)]) (wr := [mO h q ab be bl ta tl tk va, (q 0, ia Z 266 (ni A)), (q 3, ia Z 3 (ni Rf))]) jl_X9_116 (c_X9_goTick Z (q 4) 58 B false (by omega) hwB (by omega)) dX9_where_55 rfl (by decide) (Nat.le_of_ble_eq_true rfl) [2] [0, 1, 3] rfl rfl rfl rfl (by decide) rfl (fun rv wv hp => ?_)
              obtain ⟨rfl, rfl⟩ := hp
              refine j_world hJ (ws' := [mO h q ab be bl ta tl tk va, (q 0, ia Z 266 (ni A)), ((q 4), ia Z 58 (ni ((goT B false).2))), (q 3, ia Z 3 (ni Rf))]) [0, 1, 3, 2] rfl rfl ?_
              show J 58 [(0, .ref h), (1, .int (nI (nt a))), (2, .int (nI (nt b))), (3, .int (nI (nt c))), (4, .int (nI k))] [.int (oI ((goT B false).1))] [mO h q ab be bl ta tl tk va, (q 0, ia Z 266 (ni A)), ((q 4), ia Z 58 (ni ((goT B false).2))), (q 3, ia Z 3 (ni Rf))] 0 0
              refine j_istore hJ (q := 60) (lvs' := [(5, .int (oI ((goT B false).1))), (0, .ref h), (1, .int (nI (nt a))), (2, .int (nI (nt b))), (3, .int (nI (nt c))), (4, .int (nI k))]) dX9_where_58 (by decide) rfl rfl ?_
              refine j_iinc hJ (q := 63) (lvs' := [(4, .int (nI (k + 1))), (5, .int (oI ((goT B false).1))), (0, .ref h), (1, .int (nI (nt a))), (2, .int (nI (nt b))), (3, .int (nI (nt c)))]) dX9_where_60 5 rfl (by rw [show Int32.ofInt 1 = nI 1 from by decide +kernel]; exact nI_add _ _) (by decide) rfl rfl ?_
              refine j_goto hJ (q := 44) dX9_where_63 (by decide) ?_
              refine j_locals hJ [2, 3, 4, 5, 0] rfl ?_
              exact ih_44 ((goT B false).2) (k + 1) (by omega) (by omega) (by rw [← hB, show nt b - k = (nt b - (k + 1)) + 1 by omega]; rfl) (wf_goT false hwB (by omega)) (by rw [goT_8]; omega) (by rw [goT_0]; exact hB0)
        refine j_locals hJ [1, 2, 3, 4, 0] rfl ?_
        exact L_44 ((nt b - 0) + 1) A 0 (Nat.lt_succ_self _) (by omega) rfl hw (by omega) rfl
      · skip
        refine j_aload_n hJ (q := 31) dX9_where_30 rfl 0 rfl rfl ?_
        refine j_bipush hJ (q := 33) dX9_where_31 rfl kb_m2 ?_
        refine j_vW hJ (q := 36) (rest := []) (As := [.int (zI (-2))]) (wr := [(q 0, ia Z 266 (ni A)), (q 4, ia Z 58 (ni Hd))]) jl_X9_73 (c_X9_bad Z h q ab be bl ta tl tk va Rf (-2) ) 0 rfl rfl dX9_where_33 rfl (by decide) (Nat.le_of_ble_eq_true rfl) [0, 3] [1, 2] rfl rfl rfl rfl (by decide) rfl (fun rv wv hp => ?_)
        obtain ⟨rfl, rfl⟩ := hp
        refine j_world hJ (ws' := [mO h q ab be bl ta tl tk va, (q 0, ia Z 266 (ni A)), (q 4, ia Z 58 (ni Hd)), (q 3, ia Z 3 (ni (va_up Rf 0 (Rf 0 + 1))))]) [2, 0, 1, 3] rfl rfl ?_
        show J 36 [(0, .ref h), (1, .int a), (2, .int b), (3, .int c)] [.int (zI (-2))] [mO h q ab be bl ta tl tk va, (q 0, ia Z 266 (ni A)), (q 4, ia Z 58 (ni Hd)), (q 3, ia Z 3 (ni (va_up Rf 0 (Rf 0 + 1))))] 0 0
        have hP : ¬ (isR A a ∧ rgI 0 60 b ∧ rgI 0 1 c) := by simp only [rgI, isS, isR, pNote, pMark, pFast, pLever, pHands, pSlip, pEven]; omega
        exact hE.1 _ _ _ _ _ _ _ rfl rfl dX9_where_36 (Nat.le_refl _) (Nat.le_refl _) (⟨Hd, congrArg (fun z => some (Value.int (zI z))) (by simp only [z_where, if_neg hP, bmp]), by simp only [z_where, if_neg hP, bmp]⟩)

set_option maxHeartbeats 4000000 in
set_option maxRecDepth 100000 in
theorem c_X9_takes (Z : jZ) (h : Nat) (q : Nat → Nat) (ab : Int) (be : Int) (bl : Nat) (ta : Nat) (tl : Nat) (tk : Nat) (va : Nat) (A : Nat → Nat) (Hd : Nat → Nat) (Rf : Nat → Nat) (a : Int32) (hg : wg A) : CT Z yX9_takes cX9_takes 3 ((some FieldType.int)) 6 0 0 [.ref h, .int a] [mO h q ab be bl ta tl tk va, (q 0, ia Z 266 (ni A)), (q 4, ia Z 58 (ni Hd)), (q 3, ia Z 3 (ni Rf))] (fun rr ww => ∃ Hx : Nat → Nat, rr = some (.int (zI (z_takes A a))) ∧ ww = [mO h q ab be bl ta tl tk va, (q 0, ia Z 266 (ni A)), (q 4, ia Z 58 (ni Hx)), (q 3, ia Z 3 (ni (if isR A a then Rf else bmp Rf 0)))]) := by
  refine CT.of RX9 false rfl (fun h => by cases h) (by decide +kernel) (Nat.le_of_ble_eq_true rfl) ?_
  intro J hJ hE
  show J 0 [(0, .ref h), (1, .int a)] [] [mO h q ab be bl ta tl tk va, (q 0, ia Z 266 (ni A)), (q 4, ia Z 58 (ni Hd)), (q 3, ia Z 3 (ni Rf))] 0 0
  obtain ⟨hw, ⟨g1, g2, g3, g4, g8⟩, hrs, hrn, hrm, hpst⟩ := id hg
  obtain ⟨⟨w1, w2, w3, w4, w5, w6⟩, wb, wr, wh, wd⟩ := id hw
  have hb := wb
  have hr_a := zI_rng a
  refine j_aload_n hJ (q := 1) dX9_takes_0 rfl 0 rfl rfl ?_
  refine j_iload_n hJ (q := 2) dX9_takes_1 rfl 1 rfl rfl ?_
  refine j_vR hJ (q := 5) (rest := []) (As := [.int a]) jl_X9_129 (c_X9_isRider Z h q ab be bl ta tl tk va A a (by omega)) 0 rfl rfl dX9_takes_2 rfl (by decide) (Nat.le_of_ble_eq_true rfl) [0, 1] rfl rfl (fun rv hp => ?_)
  obtain rfl := hp
  show J 5 [(0, .ref h), (1, .int a)] [.int (bI (decide (0 ≤ a.toInt ∧ a.toInt ≤ (A 0 : Int) - 1)))] [mO h q ab be bl ta tl tk va, (q 0, ia Z 266 (ni A)), (q 4, ia Z 58 (ni Hd)), (q 3, ia Z 3 (ni Rf))] 0 0
  refine jp_if_ne hJ (q := 8) (tgt := 15) dX9_takes_5 (by decide) rfl (fun c1 => ?_) (fun c1 => ?_)
  · skip
    have hn_a := nt_cast (x := a) (by omega)
    refine j_eql (lvs' := [(0, .ref h), (1, .int (nI (nt a)))]) (by rw [← nt_eq (x := a) (by omega)]) ?_
    refine j_aload_n hJ (q := 16) dX9_takes_15 rfl 0 rfl rfl ?_
    refine j_vW hJ (q := 19) (rest := []) (As := []) (wr := [(q 3, ia Z 3 (ni Rf))]) jl_X9_139 (c_X9_layHand Z h q ab be bl ta tl tk va A Hd ) 0 rfl rfl dX9_takes_16 rfl (by decide) (Nat.le_of_ble_eq_true rfl) [0, 1, 2] [3] rfl rfl rfl rfl (by decide) rfl (fun rv wv hp => ?_)
    obtain ⟨rfl, rfl⟩ := hp
    refine j_world hJ (ws' := [mO h q ab be bl ta tl tk va, (q 0, ia Z 266 (ni A)), (q 4, ia Z 58 (ni A)), (q 3, ia Z 3 (ni Rf))]) [1, 2, 3, 0] rfl rfl ?_
    show J 19 [(0, .ref h), (1, .int (nI (nt a)))] [] [mO h q ab be bl ta tl tk va, (q 0, ia Z 266 (ni A)), (q 4, ia Z 58 (ni A)), (q 3, ia Z 3 (ni Rf))] 0 0
    refine j_iconst hJ (q := 20) dX9_takes_19 rfl ki_1 ?_
    refine j_istore_n hJ (q := 21) (lvs' := [(2, .int (nI 1)), (0, .ref h), (1, .int (nI (nt a)))]) dX9_takes_20 rfl (by decide) rfl rfl ?_
    have L_21 : ∀ (fu_21 : Nat) (B : Nat → Nat) (m : Nat), 61 - m < fu_21 → (1 ≤ m ∧ m ≤ 61) → (tks (nt a) (61 - m) m B = tks (nt a) 60 1 A) → (wf B) → (B 8 + (61 - m) < 90000) → J 21 [(0, .ref h), (1, .int (nI (nt a))), (2, .int (nI m))] [] [mO h q ab be bl ta tl tk va, (q 0, ia Z 266 (ni A)), (q 4, ia Z 58 (ni B)), (q 3, ia Z 3 (ni Rf))] 0 0 := by
      intro fu_21
      induction fu_21 with
      | zero => intro B m hm; exact absurd hm (Nat.not_lt_zero _)
      | succ fu_21 ih_21 =>
        intro B m hm_21 hk hB hwB hBt
        refine j_iload_n hJ (q := 22) dX9_takes_21 rfl 2 rfl rfl ?_
        refine j_bipush hJ (q := 24) dX9_takes_22 rfl kb_60 ?_
        refine jn_icmp_gt hJ (q := 27) (tgt := 47) dX9_takes_24 (by decide) rfl (by omega) (by omega) (fun c2 => ?_) (fun c2 => ?_)
        · skip
          refine j_iconst hJ (q := 48) dX9_takes_47 rfl ki_m1 ?_
          have hP : isR A a := by simp only [rgI, isS, isR, pNote, pMark, pFast, pLever, pHands, pSlip, pEven]; omega
          exact hE.1 _ _ _ _ _ _ _ rfl rfl dX9_takes_48 (Nat.le_refl _) (Nat.le_refl _) (⟨B, congrArg (fun z => some (Value.int (zI z))) (by simp only [z_takes, if_pos hP]; rw [← hB, show 61 - m = 0 by omega]; rfl), by simp only [z_takes, if_pos hP, bmp]⟩)
        · skip
          refine j_aload_n hJ (q := 28) dX9_takes_27 rfl 0 rfl rfl ?_
          refine j_get hJ (q := 31) jf_X9_27 dX9_takes_28 0 rfl rfl rfl ?_
          refine j_iconst hJ (q := 32) dX9_takes_31 rfl ki_0 ?_
          refine j_sW hJ (q := 35) (rest := []) (As := [.ref (q 4), .int (bI false)]) (wr := [mO h q ab be bl ta tl tk va, (q 0, ia Z 266 (ni A)), (q 3, ia Z 3 (ni Rf))]) jl_X9_116 (c_X9_goTick Z (q 4) 58 B false (by omega) hwB (by omega)) dX9_takes_32 rfl (by decide) (Nat.le_of_ble_eq_true rfl) [2] [0, 1, 3] rfl rfl rfl rfl (by decide) rfl (fun rv wv hp => ?_)
          obtain ⟨rfl, rfl⟩ := hp
          refine j_world hJ (ws' := [mO h q ab be bl ta tl tk va, (q 0, ia Z 266 (ni A)), ((q 4), ia Z 58 (ni ((goT B false).2))), (q 3, ia Z 3 (ni Rf))]) [0, 1, 3, 2] rfl rfl ?_
          show J 35 [(0, .ref h), (1, .int (nI (nt a))), (2, .int (nI m))] [.int (oI ((goT B false).1))] [mO h q ab be bl ta tl tk va, (q 0, ia Z 266 (ni A)), ((q 4), ia Z 58 (ni ((goT B false).2))), (q 3, ia Z 3 (ni Rf))] 0 0
          refine j_caseo (fun o3 => ?_) (fun i4 o3 => ?_)
          · skip
            refine j_iload_n hJ (q := 36) dX9_takes_35 rfl 1 rfl rfl ?_
            refine jz_icmp_ne hJ (q := 39) (tgt := 41) dX9_takes_36 (by decide) rfl rfl (zI_nat (nt a)).symm (by omega) (by omega) (fun c5 => ?_) (fun c5 => ?_)
            · skip
              refine j_iinc hJ (q := 44) (lvs' := [(2, .int (nI (m + 1))), (0, .ref h), (1, .int (nI (nt a)))]) dX9_takes_41 2 rfl (by rw [show Int32.ofInt 1 = nI 1 from by decide +kernel]; exact nI_add _ _) (by decide) rfl rfl ?_
              refine j_goto hJ (q := 21) dX9_takes_44 (by decide) ?_
              refine j_locals hJ [1, 2, 0] rfl ?_
              exact ih_21 ((goT B false).2) (m + 1) (by omega) (by omega) (by rw [← hB, show 61 - m = (61 - (m + 1)) + 1 by omega]; simp only [tks]; rw [if_neg (by simp_all)]) (wf_goT false hwB (by omega)) (by rw [goT_8]; omega)
            · skip
              exfalso; omega
          · skip
            have hlt := goT_lt o3
            have hl6 := hwB.1.2.2.2.2.2
            refine j_iload_n hJ (q := 36) dX9_takes_35 rfl 1 rfl rfl ?_
            refine jn_icmp_ne hJ (q := 39) (tgt := 41) dX9_takes_36 (by decide) rfl (by omega) (by omega) (fun c6 => ?_) (fun c6 => ?_)
            · skip
              refine j_iinc hJ (q := 44) (lvs' := [(2, .int (nI (m + 1))), (0, .ref h), (1, .int (nI (nt a)))]) dX9_takes_41 2 rfl (by rw [show Int32.ofInt 1 = nI 1 from by decide +kernel]; exact nI_add _ _) (by decide) rfl rfl ?_
              refine j_goto hJ (q := 21) dX9_takes_44 (by decide) ?_
              refine j_locals hJ [1, 2, 0] rfl ?_
              exact ih_21 ((goT B false).2) (m + 1) (by omega) (by omega) (by rw [← hB, show 61 - m = (61 - (m + 1)) + 1 by omega]; simp only [tks]; rw [if_neg (by simp_all)]) (wf_goT false hwB (by omega)) (by rw [goT_8]; omega)
            · skip
              refine j_iload_n hJ (q := 40) dX9_takes_39 rfl 2 rfl rfl ?_
              have hP : isR A a := by simp only [rgI, isS, isR, pNote, pMark, pFast, pLever, pHands, pSlip, pEven]; omega
              exact hE.1 _ _ _ _ _ _ _ rfl rfl dX9_takes_40 (Nat.le_refl _) (Nat.le_refl _) (⟨((goT B false).2), congrArg (fun z => some (Value.int z)) ((zI_nat _).symm.trans (congrArg zI (by simp only [z_takes, if_pos hP]; rw [← hB, show 61 - m = (61 - (m + 1)) + 1 by omega]; simp only [tks]; rw [if_pos (by simp_all)]; rfl))), by simp only [z_takes, if_pos hP, bmp]⟩)
    refine j_locals hJ [1, 2, 0] rfl ?_
    exact L_21 ((61 - 1) + 1) A 1 (Nat.lt_succ_self _) (by omega) rfl hw (by omega)
  · skip
    refine j_aload_n hJ (q := 9) dX9_takes_8 rfl 0 rfl rfl ?_
    refine j_bipush hJ (q := 11) dX9_takes_9 rfl kb_m2 ?_
    refine j_vW hJ (q := 14) (rest := []) (As := [.int (zI (-2))]) (wr := [(q 0, ia Z 266 (ni A)), (q 4, ia Z 58 (ni Hd))]) jl_X9_73 (c_X9_bad Z h q ab be bl ta tl tk va Rf (-2) ) 0 rfl rfl dX9_takes_11 rfl (by decide) (Nat.le_of_ble_eq_true rfl) [0, 3] [1, 2] rfl rfl rfl rfl (by decide) rfl (fun rv wv hp => ?_)
    obtain ⟨rfl, rfl⟩ := hp
    refine j_world hJ (ws' := [mO h q ab be bl ta tl tk va, (q 0, ia Z 266 (ni A)), (q 4, ia Z 58 (ni Hd)), (q 3, ia Z 3 (ni (va_up Rf 0 (Rf 0 + 1))))]) [2, 0, 1, 3] rfl rfl ?_
    show J 14 [(0, .ref h), (1, .int a)] [.int (zI (-2))] [mO h q ab be bl ta tl tk va, (q 0, ia Z 266 (ni A)), (q 4, ia Z 58 (ni Hd)), (q 3, ia Z 3 (ni (va_up Rf 0 (Rf 0 + 1))))] 0 0
    have hP : ¬ (isR A a) := by simp only [rgI, isS, isR, pNote, pMark, pFast, pLever, pHands, pSlip, pEven]; omega
    exact hE.1 _ _ _ _ _ _ _ rfl rfl dX9_takes_14 (Nat.le_refl _) (Nat.le_refl _) (⟨Hd, congrArg (fun z => some (Value.int (zI z))) (by simp only [z_takes, if_neg hP, bmp]), by simp only [z_takes, if_neg hP, bmp]⟩)

set_option maxHeartbeats 4000000 in
set_option maxRecDepth 100000 in
theorem c_X9_level (Z : jZ) (h : Nat) (q : Nat → Nat) (ab : Int) (be : Int) (bl : Nat) (ta : Nat) (tl : Nat) (tk : Nat) (va : Nat) (A : Nat → Nat) (Rf : Nat → Nat) (a : Int32) (hg : wg A) : CT Z yX9_level cX9_level 5 ((some FieldType.int)) 4 0 0 [.ref h, .int a] [mO h q ab be bl ta tl tk va, (q 0, ia Z 266 (ni A)), (q 3, ia Z 3 (ni Rf))] (fun rr ww => rr = some (.int (zI (z_level A a))) ∧ ww = [mO h q ab be bl ta tl tk va, (q 0, ia Z 266 (ni A)), (q 3, ia Z 3 (ni (if -1 ≤ a.toInt then Rf else bmp Rf 0)))]) := by
  refine CT.of RX9 false rfl (fun h => by cases h) (by decide +kernel) (Nat.le_of_ble_eq_true rfl) ?_
  intro J hJ hE
  show J 0 [(0, .ref h), (1, .int a)] [] [mO h q ab be bl ta tl tk va, (q 0, ia Z 266 (ni A)), (q 3, ia Z 3 (ni Rf))] 0 0
  obtain ⟨hw, ⟨g1, g2, g3, g4, g8⟩, hrs, hrn, hrm, hpst⟩ := id hg
  obtain ⟨⟨w1, w2, w3, w4, w5, w6⟩, wb, wr, wh, wd⟩ := id hw
  have hb := wb
  have hr_a := zI_rng a
  refine j_iload_n hJ (q := 1) dX9_level_0 rfl 1 rfl rfl ?_
  refine j_iconst hJ (q := 2) dX9_level_1 rfl ki_m1 ?_
  refine jz_icmp_ge hJ (q := 5) (tgt := 12) dX9_level_2 (by decide) rfl (zI_of a) rfl (zI_rng a) (by omega) (fun c1 => ?_) (fun c1 => ?_)
  · skip
    refine j_iconst hJ (q := 13) dX9_level_12 rfl ki_0 ?_
    refine j_istore_n hJ (q := 14) (lvs' := [(2, .int (nI 0)), (0, .ref h), (1, .int a)]) dX9_level_13 rfl (by decide) rfl rfl ?_
    refine j_iconst hJ (q := 15) dX9_level_14 rfl ki_0 ?_
    refine j_istore_n hJ (q := 16) (lvs' := [(3, .int (nI 0)), (2, .int (nI 0)), (0, .ref h), (1, .int a)]) dX9_level_15 rfl (by decide) rfl rfl ?_
    have L_16 : ∀ (fu_16 : Nat) (ct : Nat) (i : Nat), A 0 - i < fu_16 → (i ≤ A 0) → (ct ≤ 6 * i) → (lvI A a.toInt (A 0 - i) i ct = lvI A a.toInt (A 0) 0 0) → J 16 [(0, .ref h), (1, .int a), (2, .int (nI ct)), (3, .int (nI i))] [] [mO h q ab be bl ta tl tk va, (q 0, ia Z 266 (ni A)), (q 3, ia Z 3 (ni Rf))] 0 0 := by
      intro fu_16
      induction fu_16 with
      | zero => intro ct i hm; exact absurd hm (Nat.not_lt_zero _)
      | succ fu_16 ih_16 =>
        intro ct i hm_16 hi hc hL
        refine j_iload_n hJ (q := 17) dX9_level_16 rfl 3 rfl rfl ?_
        refine j_aload_n hJ (q := 18) dX9_level_17 rfl 0 rfl rfl ?_
        refine j_vR hJ (q := 21) (rest := [.int (nI i)]) (As := []) jl_X9_49 (c_X9_many Z h q ab be bl ta tl tk va A ) 0 rfl rfl dX9_level_18 rfl (by decide) (Nat.le_of_ble_eq_true rfl) [0, 1] rfl rfl (fun rv hp => ?_)
        obtain rfl := hp
        show J 21 [(0, .ref h), (1, .int a), (2, .int (nI ct)), (3, .int (nI i))] [.int (nI (A 0)), .int (nI i)] [mO h q ab be bl ta tl tk va, (q 0, ia Z 266 (ni A)), (q 3, ia Z 3 (ni Rf))] 0 0
        refine jn_icmp_ge hJ (q := 24) (tgt := 102) dX9_level_21 (by decide) rfl (by omega) (by omega) (fun c2 => ?_) (fun c2 => ?_)
        · skip
          refine j_iload_n hJ (q := 103) dX9_level_102 rfl 1 rfl rfl ?_
          refine j_iconst hJ (q := 104) dX9_level_103 rfl ki_m1 ?_
          refine jz_icmp_ne hJ (q := 107) (tgt := 111) dX9_level_104 (by decide) rfl (zI_of a) rfl (zI_rng a) (by omega) (fun c3 => ?_) (fun c3 => ?_)
          · skip
            refine j_bipush hJ (q := 113) dX9_level_111 rfl kb_m5 ?_
            have hP : -1 ≤ a.toInt := by omega
            have hR : lvI A a.toInt (A 0) 0 0 = .inr ct := by rw [← hL]; exact lvI_end (by omega)
            exact hE.1 _ _ _ _ _ _ _ rfl rfl dX9_level_113 (Nat.le_refl _) (Nat.le_refl _) (⟨congrArg (fun z => some (Value.int (zI z))) (by simp only [z_level, if_pos hP]; rw [hR]; simp only [lvz]; rw [if_neg (by omega)]), by simp only [if_pos hP]⟩)
          · skip
            refine j_iload_n hJ (q := 108) dX9_level_107 rfl 2 rfl rfl ?_
            refine j_goto hJ (q := 113) dX9_level_108 (by decide) ?_
            have hP : -1 ≤ a.toInt := by omega
            have hR : lvI A a.toInt (A 0) 0 0 = .inr ct := by rw [← hL]; exact lvI_end (by omega)
            exact hE.1 _ _ _ _ _ _ _ rfl rfl dX9_level_113 (Nat.le_refl _) (Nat.le_refl _) (⟨congrArg (fun z => some (Value.int z)) ((zI_nat _).symm.trans (congrArg zI (by simp only [z_level, if_pos hP]; rw [hR]; simp only [lvz]; rw [if_pos (by omega)]))), by simp only [if_pos hP]⟩)
        · skip
          refine j_iload_n hJ (q := 25) dX9_level_24 rfl 3 rfl rfl ?_
          refine j_iconst hJ (q := 26) dX9_level_25 rfl ki_1 ?_
          refine j_iadd hJ (q := 27) dX9_level_26 rfl (nI_add _ _) ?_
          refine j_istore hJ (q := 29) (lvs' := [(4, .int (nI (i + 1))), (0, .ref h), (1, .int a), (2, .int (nI ct)), (3, .int (nI i))]) dX9_level_27 (by decide) rfl rfl ?_
          have L_29 : ∀ (fu_29 : Nat) (cu : Nat) (j : Nat), A 0 - j < fu_29 → (i < j ∧ j ≤ A 0) → (cu + i + 1 ≤ 6 * i + j) → (lvC A a.toInt i (A 0 - j) j cu = lvI A a.toInt (A 0) 0 0) → J 29 [(0, .ref h), (1, .int a), (2, .int (nI cu)), (3, .int (nI i)), (4, .int (nI j))] [] [mO h q ab be bl ta tl tk va, (q 0, ia Z 266 (ni A)), (q 3, ia Z 3 (ni Rf))] 0 0 := by
            intro fu_29
            induction fu_29 with
            | zero => intro cu j hm; exact absurd hm (Nat.not_lt_zero _)
            | succ fu_29 ih_29 =>
              intro cu j hm_29 hj hc2 hLJ
              refine j_iload hJ (q := 31) dX9_level_29 4 rfl rfl ?_
              refine j_aload_n hJ (q := 32) dX9_level_31 rfl 0 rfl rfl ?_
              refine j_vR hJ (q := 35) (rest := [.int (nI j)]) (As := []) jl_X9_49 (c_X9_many Z h q ab be bl ta tl tk va A ) 0 rfl rfl dX9_level_32 rfl (by decide) (Nat.le_of_ble_eq_true rfl) [0, 1] rfl rfl (fun rv hp => ?_)
              obtain rfl := hp
              show J 35 [(0, .ref h), (1, .int a), (2, .int (nI cu)), (3, .int (nI i)), (4, .int (nI j))] [.int (nI (A 0)), .int (nI j)] [mO h q ab be bl ta tl tk va, (q 0, ia Z 266 (ni A)), (q 3, ia Z 3 (ni Rf))] 0 0
              refine jn_icmp_ge hJ (q := 38) (tgt := 96) dX9_level_35 (by decide) rfl (by omega) (by omega) (fun c4 => ?_) (fun c4 => ?_)
              · skip
                refine j_iinc hJ (q := 99) (lvs' := [(3, .int (nI (i + 1))), (0, .ref h), (1, .int a), (2, .int (nI cu)), (4, .int (nI j))]) dX9_level_96 3 rfl (by rw [show Int32.ofInt 1 = nI 1 from by decide +kernel]; exact nI_add _ _) (by decide) rfl rfl ?_
                refine j_goto hJ (q := 16) dX9_level_99 (by decide) ?_
                refine j_locals hJ [1, 2, 3, 0] rfl ?_
                exact ih_16 cu (i + 1) (by omega) (by omega) (by omega) (by rw [← hLJ]; exact (lvC_end (by omega)).symm)
              · skip
                obtain ⟨r1, r2, r3, r4⟩ := wr i (by omega)
                obtain ⟨s1, s2, s3, s4⟩ := wr j (by omega)
                have hh1 := wh (A (15 + i)) (by omega)
                have hh2 := wh (A (15 + j)) (by omega)
                have q1 : hghO A (A (15 + i)) ≤ 10 := hgh_le w4
                have q2 : hghO A (A (15 + j)) ≤ 10 := hgh_le w4
                refine j_aload_n hJ (q := 39) dX9_level_38 rfl 0 rfl rfl ?_
                refine j_get hJ (q := 42) jf_X9_7 dX9_level_39 0 rfl rfl rfl ?_
                refine j_aload_n hJ (q := 43) dX9_level_42 rfl 0 rfl rfl ?_
                refine j_get hJ (q := 46) jf_X9_7 dX9_level_43 0 rfl rfl rfl ?_
                refine j_bipush hJ (q := 48) dX9_level_46 rfl kb_15 ?_
                refine j_iload_n hJ (q := 49) dX9_level_48 rfl 3 rfl rfl ?_
                refine j_iadd hJ (q := 50) dX9_level_49 rfl (nI_add _ _) ?_
                refine j_ialdN hJ (q := 51) (z := nI (A (15 + i))) dX9_level_50 1 rfl (by omega) (by decide) rfl rfl ?_
                have b5 := hb (15 + i)
                refine j_sR hJ (q := 54) (rest := []) (As := [.ref (q 0), .int (nI (A (15 + i)))]) jl_X9_107 (c_X9_highOf Z (q 0) 266 A (A (15 + i)) (by omega) (by omega) hb hh1.1 (by omega)) dX9_level_51 rfl (by decide) (Nat.le_of_ble_eq_true rfl) [1] rfl rfl (fun rv hp => ?_)
                obtain rfl := hp
                show J 54 [(0, .ref h), (1, .int a), (2, .int (nI cu)), (3, .int (nI i)), (4, .int (nI j))] [.int (nI (hghO A (A (15 + i))))] [mO h q ab be bl ta tl tk va, (q 0, ia Z 266 (ni A)), (q 3, ia Z 3 (ni Rf))] 0 0
                refine j_aload_n hJ (q := 55) dX9_level_54 rfl 0 rfl rfl ?_
                refine j_get hJ (q := 58) jf_X9_7 dX9_level_55 0 rfl rfl rfl ?_
                refine j_aload_n hJ (q := 59) dX9_level_58 rfl 0 rfl rfl ?_
                refine j_get hJ (q := 62) jf_X9_7 dX9_level_59 0 rfl rfl rfl ?_
                refine j_bipush hJ (q := 64) dX9_level_62 rfl kb_15 ?_
                refine j_iload hJ (q := 66) dX9_level_64 4 rfl rfl ?_
                refine j_iadd hJ (q := 67) dX9_level_66 rfl (nI_add _ _) ?_
                refine j_ialdN hJ (q := 68) (z := nI (A (15 + j))) dX9_level_67 1 rfl (by omega) (by decide) rfl rfl ?_
                have b6 := hb (15 + j)
                refine j_sR hJ (q := 71) (rest := [.int (nI (hghO A (A (15 + i))))]) (As := [.ref (q 0), .int (nI (A (15 + j)))]) jl_X9_107 (c_X9_highOf Z (q 0) 266 A (A (15 + j)) (by omega) (by omega) hb hh2.1 (by omega)) dX9_level_68 rfl (by decide) (Nat.le_of_ble_eq_true rfl) [1] rfl rfl (fun rv hp => ?_)
                obtain rfl := hp
                show J 71 [(0, .ref h), (1, .int a), (2, .int (nI cu)), (3, .int (nI i)), (4, .int (nI j))] [.int (nI (hghO A (A (15 + j)))), .int (nI (hghO A (A (15 + i))))] [mO h q ab be bl ta tl tk va, (q 0, ia Z 266 (ni A)), (q 3, ia Z 3 (ni Rf))] 0 0
                refine jn_icmp_ne hJ (q := 74) (tgt := 90) dX9_level_71 (by decide) rfl (by omega) (by omega) (fun c7 => ?_) (fun c7 => ?_)
                · skip
                  refine j_iinc hJ (q := 93) (lvs' := [(4, .int (nI (j + 1))), (0, .ref h), (1, .int a), (2, .int (nI cu)), (3, .int (nI i))]) dX9_level_90 4 rfl (by rw [show Int32.ofInt 1 = nI 1 from by decide +kernel]; exact nI_add _ _) (by decide) rfl rfl ?_
                  refine j_goto hJ (q := 29) dX9_level_93 (by decide) ?_
                  refine j_locals hJ [1, 2, 3, 4, 0] rfl ?_
                  exact ih_29 cu (j + 1) (by omega) (by omega) (by omega) (by rw [← hLJ]; exact (lvC_n2 (by omega) (by omega)).symm)
                · skip
                  refine j_iload_n hJ (q := 75) dX9_level_74 rfl 2 rfl rfl ?_
                  refine j_iload_n hJ (q := 76) dX9_level_75 rfl 1 rfl rfl ?_
                  refine jz_icmp_ne hJ (q := 79) (tgt := 87) dX9_level_76 (by decide) rfl (zI_nat cu).symm (zI_of a) (by omega) (zI_rng a) (fun c8 => ?_) (fun c8 => ?_)
                  · skip
                    refine j_iinc hJ (q := 90) (lvs' := [(2, .int (nI (cu + 1))), (0, .ref h), (1, .int a), (3, .int (nI i)), (4, .int (nI j))]) dX9_level_87 2 rfl (by rw [show Int32.ofInt 1 = nI 1 from by decide +kernel]; exact nI_add _ _) (by decide) rfl rfl ?_
                    refine j_iinc hJ (q := 93) (lvs' := [(4, .int (nI (j + 1))), (2, .int (nI (cu + 1))), (0, .ref h), (1, .int a), (3, .int (nI i))]) dX9_level_90 4 rfl (by rw [show Int32.ofInt 1 = nI 1 from by decide +kernel]; exact nI_add _ _) (by decide) rfl rfl ?_
                    refine j_goto hJ (q := 29) dX9_level_93 (by decide) ?_
                    refine j_locals hJ [2, 3, 1, 4, 0] rfl ?_
                    exact ih_29 (cu + 1) (j + 1) (by omega) (by omega) (by omega) (by rw [← hLJ]; exact (lvC_n1 (by omega) (by omega) (by omega)).symm)
                  · skip
                    refine j_bipush hJ (q := 81) dX9_level_79 rfl kb_10 ?_
                    refine j_iload_n hJ (q := 82) dX9_level_81 rfl 3 rfl rfl ?_
                    refine j_imul hJ (q := 83) dX9_level_82 rfl (pk_mul _ _) ?_
                    refine j_iload hJ (q := 85) dX9_level_83 4 rfl rfl ?_
                    refine j_iadd hJ (q := 86) dX9_level_85 rfl (nI_add _ _) ?_
                    have hP : -1 ≤ a.toInt := by omega
                    have hR : lvI A a.toInt (A 0) 0 0 = .inl (10 * i + j) := by rw [← hLJ]; exact lvC_eq (by omega) (by omega) (by omega)
                    exact hE.1 _ _ _ _ _ _ _ rfl rfl dX9_level_86 (Nat.le_refl _) (Nat.le_refl _) (⟨congrArg (fun z => some (Value.int z)) ((zI_nat _).symm.trans (congrArg zI (by simp only [z_level, if_pos hP]; rw [hR]; rfl))), by simp only [if_pos hP]⟩)
          refine j_locals hJ [1, 2, 3, 4, 0] rfl ?_
          exact L_29 ((A 0 - (i + 1)) + 1) ct (i + 1) (Nat.lt_succ_self _) (by omega) (by omega) (by rw [← hL]; exact (lvI_go (by omega)).symm)
    refine j_locals hJ [2, 3, 1, 0] rfl ?_
    exact L_16 ((A 0 - 0) + 1) 0 0 (Nat.lt_succ_self _) (by omega) (by omega) rfl
  · skip
    refine j_aload_n hJ (q := 6) dX9_level_5 rfl 0 rfl rfl ?_
    refine j_bipush hJ (q := 8) dX9_level_6 rfl kb_m10 ?_
    refine j_vW hJ (q := 11) (rest := []) (As := [.int (zI (-10))]) (wr := [(q 0, ia Z 266 (ni A))]) jl_X9_73 (c_X9_bad Z h q ab be bl ta tl tk va Rf (-10) ) 0 rfl rfl dX9_level_8 rfl (by decide) (Nat.le_of_ble_eq_true rfl) [0, 2] [1] rfl rfl rfl rfl (by decide) rfl (fun rv wv hp => ?_)
    obtain ⟨rfl, rfl⟩ := hp
    refine j_world hJ (ws' := [mO h q ab be bl ta tl tk va, (q 0, ia Z 266 (ni A)), (q 3, ia Z 3 (ni (va_up Rf 0 (Rf 0 + 1))))]) [1, 0, 2] rfl rfl ?_
    show J 11 [(0, .ref h), (1, .int a)] [.int (zI (-10))] [mO h q ab be bl ta tl tk va, (q 0, ia Z 266 (ni A)), (q 3, ia Z 3 (ni (va_up Rf 0 (Rf 0 + 1))))] 0 0
    have hP : ¬ -1 ≤ a.toInt := by omega
    exact hE.1 _ _ _ _ _ _ _ rfl rfl dX9_level_11 (Nat.le_refl _) (Nat.le_refl _) (⟨congrArg (fun z => some (Value.int (zI z))) (by simp only [z_level, if_neg hP]), by simp only [if_neg hP, bmp]⟩)

set_option maxHeartbeats 4000000 in
set_option maxRecDepth 100000 in
theorem c_X9_again (Z : jZ) (h : Nat) (q : Nat → Nat) (ab : Int) (be : Int) (bl : Nat) (ta : Nat) (tl : Nat) (tk : Nat) (va : Nat) (A : Nat → Nat) (Hd : Nat → Nat) (hg : wg A) : CT Z yX9_again cX9_again 5 ((some FieldType.int)) 6 0 0 [.ref h] [mO h q ab be bl ta tl tk va, (q 0, ia Z 266 (ni A)), (q 4, ia Z 58 (ni Hd))] (fun rr ww => ∃ Hx : Nat → Nat, rr = some (.int (zI (z_again A))) ∧ ww = [mO h q ab be bl ta tl tk va, (q 0, ia Z 266 (ni A)), (q 4, ia Z 58 (ni Hx))]) := by
  refine CT.of RX9 false rfl (fun h => by cases h) (by decide +kernel) (Nat.le_of_ble_eq_true rfl) ?_
  intro J hJ hE
  show J 0 [(0, .ref h)] [] [mO h q ab be bl ta tl tk va, (q 0, ia Z 266 (ni A)), (q 4, ia Z 58 (ni Hd))] 0 0
  obtain ⟨hw, ⟨g1, g2, g3, g4, g8⟩, hrs, hrn, hrm, hpst⟩ := id hg
  obtain ⟨⟨w1, w2, w3, w4, w5, w6⟩, wb, wr, wh, wd⟩ := id hw
  have hb := wb
  refine j_aload_n hJ (q := 1) dX9_again_0 rfl 0 rfl rfl ?_
  refine j_vW hJ (q := 4) (rest := []) (As := []) (wr := []) jl_X9_139 (c_X9_layHand Z h q ab be bl ta tl tk va A Hd ) 0 rfl rfl dX9_again_1 rfl (by decide) (Nat.le_of_ble_eq_true rfl) [0, 1, 2] [] rfl rfl rfl rfl (by decide) rfl (fun rv wv hp => ?_)
  obtain ⟨rfl, rfl⟩ := hp
  show J 4 [(0, .ref h)] [] [mO h q ab be bl ta tl tk va, (q 0, ia Z 266 (ni A)), (q 4, ia Z 58 (ni A))] 0 0
  refine j_iconst hJ (q := 5) dX9_again_4 rfl ki_1 ?_
  refine j_istore_n hJ (q := 6) (lvs' := [(1, .int (nI 1)), (0, .ref h)]) dX9_again_5 rfl (by decide) rfl rfl ?_
  have L_6 : ∀ (fu_6 : Nat) (B : Nat → Nat) (m : Nat), 61 - m < fu_6 → (1 ≤ m ∧ m ≤ 61) → (agF A (61 - m) m B = agF A 60 1 A) → (wf B) → (B 8 + (61 - m) < 90000) → J 6 [(0, .ref h), (1, .int (nI m))] [] [mO h q ab be bl ta tl tk va, (q 0, ia Z 266 (ni A)), (q 4, ia Z 58 (ni B))] 0 0 := by
    intro fu_6
    induction fu_6 with
    | zero => intro B m hm; exact absurd hm (Nat.not_lt_zero _)
    | succ fu_6 ih_6 =>
      intro B m hm_6 hk hB hwB hBt
      refine j_iload_n hJ (q := 7) dX9_again_6 rfl 1 rfl rfl ?_
      refine j_bipush hJ (q := 9) dX9_again_7 rfl kb_60 ?_
      refine jn_icmp_gt hJ (q := 12) (tgt := 112) dX9_again_9 (by decide) rfl (by omega) (by omega) (fun c1 => ?_) (fun c1 => ?_)
      · skip
        refine j_iconst hJ (q := 113) dX9_again_112 rfl ki_m1 ?_
        exact hE.1 _ _ _ _ _ _ _ rfl rfl dX9_again_113 (Nat.le_refl _) (Nat.le_refl _) (⟨B, congrArg (fun z => some (Value.int (zI z))) (by unfold z_again; rw [← hB, show 61 - m = 0 by omega]; rfl), rfl⟩)
      · skip
        refine j_aload_n hJ (q := 13) dX9_again_12 rfl 0 rfl rfl ?_
        refine j_get hJ (q := 16) jf_X9_27 dX9_again_13 0 rfl rfl rfl ?_
        refine j_iconst hJ (q := 17) dX9_again_16 rfl ki_0 ?_
        refine j_sW hJ (q := 20) (rest := []) (As := [.ref (q 4), .int (bI false)]) (wr := [mO h q ab be bl ta tl tk va, (q 0, ia Z 266 (ni A))]) jl_X9_116 (c_X9_goTick Z (q 4) 58 B false (by omega) hwB (by omega)) dX9_again_17 rfl (by decide) (Nat.le_of_ble_eq_true rfl) [2] [0, 1] rfl rfl rfl rfl (by decide) rfl (fun rv wv hp => ?_)
        obtain ⟨rfl, rfl⟩ := hp
        show J 20 [(0, .ref h), (1, .int (nI m))] [.int (oI ((goT B false).1))] [mO h q ab be bl ta tl tk va, (q 0, ia Z 266 (ni A)), ((q 4), ia Z 58 (ni ((goT B false).2)))] 0 0
        refine j_istore_n hJ (q := 21) (lvs' := [(2, .int (oI ((goT B false).1))), (0, .ref h), (1, .int (nI m))]) dX9_again_20 rfl (by decide) rfl rfl ?_
        obtain ⟨C, e_C⟩ : ∃ z : Nat → Nat, z = (goT B false).2 := ⟨_, rfl⟩
        refine j_eqw (ws' := [mO h q ab be bl ta tl tk va, (q 0, ia Z 266 (ni A)), ((q 4), ia Z 58 (ni C))]) (by subst e_C; rfl) ?_
        have hwC : wf C := by rw [e_C]; exact wf_goT false hwB (by omega)
        have hCb := hwC.2.1
        refine j_aload_n hJ (q := 22) dX9_again_21 rfl 1 rfl rfl ?_
        refine j_get hJ (q := 25) jf_X9_27 dX9_again_22 0 rfl rfl rfl ?_
        refine j_iconst hJ (q := 26) dX9_again_25 rfl ki_5 ?_
        refine j_ialdN hJ (q := 27) (z := nI (C 5)) dX9_again_26 2 rfl (by decide) (by decide) rfl rfl ?_
        have b2 := hCb 5
        refine j_aload_n hJ (q := 28) dX9_again_27 rfl 1 rfl rfl ?_
        refine j_get hJ (q := 31) jf_X9_7 dX9_again_28 0 rfl rfl rfl ?_
        refine j_iconst hJ (q := 32) dX9_again_31 rfl ki_5 ?_
        refine j_ialdN hJ (q := 33) (z := nI (A 5)) dX9_again_32 1 rfl (by decide) (by decide) rfl rfl ?_
        have b3 := hb 5
        refine jn_icmp_ne hJ (q := 36) (tgt := 47) dX9_again_33 (by decide) rfl (by omega) (by omega) (fun c4 => ?_) (fun c4 => ?_)
        · skip
          refine j_iconst hJ (q := 48) dX9_again_47 rfl ki_0 ?_
          refine j_istore_n hJ (q := 49) (lvs' := [(3, .int (nI 0)), (2, .int (oI ((goT B false).1))), (0, .ref h), (1, .int (nI m))]) dX9_again_48 rfl (by decide) rfl rfl ?_
          refine j_iconst hJ (q := 50) dX9_again_49 rfl ki_0 ?_
          refine j_istore hJ (q := 52) (lvs' := [(4, .int (nI 0)), (3, .int (nI 0)), (2, .int (oI ((goT B false).1))), (0, .ref h), (1, .int (nI m))]) dX9_again_50 (by decide) rfl rfl ?_
          have L_52 : ∀ (fu_52 : Nat) (t : Bool) (i : Nat), A 0 - i < fu_52 → (i ≤ A 0) → (t = (decide (C 5 = A 5 ∧ m % 8 = 0) && rgN A C i)) → J 52 [(0, .ref h), (1, .int (nI m)), (2, .int (oI ((goT B false).1))), (3, .int (bI t)), (4, .int (nI i))] [] [mO h q ab be bl ta tl tk va, (q 0, ia Z 266 (ni A)), ((q 4), ia Z 58 (ni C))] 0 0 := by
            intro fu_52
            induction fu_52 with
            | zero => intro t i hm; exact absurd hm (Nat.not_lt_zero _)
            | succ fu_52 ih_52 =>
              intro t i hm_52 hi htt
              refine j_iload hJ (q := 54) dX9_again_52 4 rfl rfl ?_
              refine j_aload_n hJ (q := 55) dX9_again_54 rfl 0 rfl rfl ?_
              refine j_vR hJ (q := 58) (rest := [.int (nI i)]) (As := []) jl_X9_49 (c_X9_many Z h q ab be bl ta tl tk va A ) 0 rfl rfl dX9_again_55 rfl (by decide) (Nat.le_of_ble_eq_true rfl) [0, 1] rfl rfl (fun rv hp => ?_)
              obtain rfl := hp
              show J 58 [(0, .ref h), (1, .int (nI m)), (2, .int (oI ((goT B false).1))), (3, .int (bI t)), (4, .int (nI i))] [.int (nI (A 0)), .int (nI i)] [mO h q ab be bl ta tl tk va, (q 0, ia Z 266 (ni A)), ((q 4), ia Z 58 (ni C))] 0 0
              refine jn_icmp_ge hJ (q := 61) (tgt := 100) dX9_again_58 (by decide) rfl (by omega) (by omega) (fun c5 => ?_) (fun c5 => ?_)
              · skip
                refine j_iload_n hJ (q := 101) dX9_again_100 rfl 3 rfl rfl ?_
                have hAg : agT A C m = t := by rw [htt, show i = A 0 by omega]; rfl
                refine jb_if_eq hJ (q := 104) (tgt := 106) dX9_again_101 (by decide) rfl (fun c6 => ?_) (fun c6 => ?_)
                · skip
                  refine j_iinc hJ (q := 109) (lvs' := [(1, .int (nI (m + 1))), (0, .ref h), (2, .int (oI ((goT B false).1))), (3, .int (bI t)), (4, .int (nI i))]) dX9_again_106 1 rfl (by rw [show Int32.ofInt 1 = nI 1 from by decide +kernel]; exact nI_add _ _) (by decide) rfl rfl ?_
                  refine j_goto hJ (q := 6) dX9_again_109 (by decide) ?_
                  refine j_locals hJ [1, 0] rfl ?_
                  exact ih_6 C (m + 1) (by omega) (by omega) (by rw [← hB, show 61 - m = (61 - (m + 1)) + 1 by omega]; simp only [agF]; rw [← e_C, if_neg (by rw [hAg]; simp_all)]) hwC (by rw [e_C, goT_8]; omega)
                · skip
                  refine j_iload_n hJ (q := 105) dX9_again_104 rfl 1 rfl rfl ?_
                  exact hE.1 _ _ _ _ _ _ _ rfl rfl dX9_again_105 (Nat.le_refl _) (Nat.le_refl _) (⟨C, congrArg (fun z => some (Value.int z)) ((zI_nat _).symm.trans (congrArg zI (by unfold z_again; rw [← hB, show 61 - m = (61 - (m + 1)) + 1 by omega]; simp only [agF]; rw [← e_C, if_pos (by rw [hAg]; assumption)]; rfl))), rfl⟩)
              · skip
                refine j_iload_n hJ (q := 62) dX9_again_61 rfl 3 rfl rfl ?_
                refine jb_if_eq hJ (q := 65) (tgt := 92) dX9_again_62 (by decide) rfl (fun c7 => ?_) (fun c7 => ?_)
                · skip
                  refine j_iconst hJ (q := 93) dX9_again_92 rfl ki_0 ?_
                  refine j_istore_n hJ (q := 94) (lvs' := [(3, .int (nI 0)), (0, .ref h), (1, .int (nI m)), (2, .int (oI ((goT B false).1))), (4, .int (nI i))]) dX9_again_93 rfl (by decide) rfl rfl ?_
                  refine j_iinc hJ (q := 97) (lvs' := [(4, .int (nI (i + 1))), (3, .int (nI 0)), (0, .ref h), (1, .int (nI m)), (2, .int (oI ((goT B false).1)))]) dX9_again_94 4 rfl (by rw [show Int32.ofInt 1 = nI 1 from by decide +kernel]; exact nI_add _ _) (by decide) rfl rfl ?_
                  refine j_goto hJ (q := 52) dX9_again_97 (by decide) ?_
                  refine j_locals hJ [2, 3, 4, 1, 0] rfl ?_
                  exact ih_52 false (i + 1) (by omega) (by omega) (by simp only [rgN]; rw [← Bool.and_assoc, ← htt]; simp_all)
                · skip
                  refine j_aload_n hJ (q := 66) dX9_again_65 rfl 0 rfl rfl ?_
                  refine j_get hJ (q := 69) jf_X9_27 dX9_again_66 0 rfl rfl rfl ?_
                  refine j_bipush hJ (q := 71) dX9_again_69 rfl kb_9 ?_
                  refine j_iload hJ (q := 73) dX9_again_71 4 rfl rfl ?_
                  refine j_iadd hJ (q := 74) dX9_again_73 rfl (nI_add _ _) ?_
                  refine j_ialdN hJ (q := 75) (z := nI (C (9 + i))) dX9_again_74 2 rfl (by omega) (by decide) rfl rfl ?_
                  have b8 := hCb (9 + i)
                  refine j_aload_n hJ (q := 76) dX9_again_75 rfl 0 rfl rfl ?_
                  refine j_get hJ (q := 79) jf_X9_7 dX9_again_76 0 rfl rfl rfl ?_
                  refine j_bipush hJ (q := 81) dX9_again_79 rfl kb_9 ?_
                  refine j_iload hJ (q := 83) dX9_again_81 4 rfl rfl ?_
                  refine j_iadd hJ (q := 84) dX9_again_83 rfl (nI_add _ _) ?_
                  refine j_ialdN hJ (q := 85) (z := nI (A (9 + i))) dX9_again_84 1 rfl (by omega) (by decide) rfl rfl ?_
                  have b9 := hb (9 + i)
                  refine jn_icmp_ne hJ (q := 88) (tgt := 92) dX9_again_85 (by decide) rfl (by omega) (by omega) (fun c10 => ?_) (fun c10 => ?_)
                  · skip
                    refine j_iconst hJ (q := 93) dX9_again_92 rfl ki_0 ?_
                    refine j_istore_n hJ (q := 94) (lvs' := [(3, .int (nI 0)), (0, .ref h), (1, .int (nI m)), (2, .int (oI ((goT B false).1))), (4, .int (nI i))]) dX9_again_93 rfl (by decide) rfl rfl ?_
                    refine j_iinc hJ (q := 97) (lvs' := [(4, .int (nI (i + 1))), (3, .int (nI 0)), (0, .ref h), (1, .int (nI m)), (2, .int (oI ((goT B false).1)))]) dX9_again_94 4 rfl (by rw [show Int32.ofInt 1 = nI 1 from by decide +kernel]; exact nI_add _ _) (by decide) rfl rfl ?_
                    refine j_goto hJ (q := 52) dX9_again_97 (by decide) ?_
                    refine j_locals hJ [2, 3, 4, 1, 0] rfl ?_
                    exact ih_52 false (i + 1) (by omega) (by omega) (by simp only [rgN]; rw [← Bool.and_assoc, ← htt]; simp_all)
                  · skip
                    refine j_iconst hJ (q := 89) dX9_again_88 rfl ki_1 ?_
                    refine j_goto hJ (q := 93) dX9_again_89 (by decide) ?_
                    refine j_istore_n hJ (q := 94) (lvs' := [(3, .int (nI 1)), (0, .ref h), (1, .int (nI m)), (2, .int (oI ((goT B false).1))), (4, .int (nI i))]) dX9_again_93 rfl (by decide) rfl rfl ?_
                    refine j_iinc hJ (q := 97) (lvs' := [(4, .int (nI (i + 1))), (3, .int (nI 1)), (0, .ref h), (1, .int (nI m)), (2, .int (oI ((goT B false).1)))]) dX9_again_94 4 rfl (by rw [show Int32.ofInt 1 = nI 1 from by decide +kernel]; exact nI_add _ _) (by decide) rfl rfl ?_
                    refine j_goto hJ (q := 52) dX9_again_97 (by decide) ?_
                    refine j_locals hJ [2, 3, 4, 1, 0] rfl ?_
                    exact ih_52 true (i + 1) (by omega) (by omega) (by simp only [rgN]; rw [← Bool.and_assoc, ← htt]; simp_all)
          refine j_locals hJ [3, 4, 2, 1, 0] rfl ?_
          exact L_52 ((A 0 - 0) + 1) false 0 (Nat.lt_succ_self _) (by omega) (by simp only [rgN, Bool.and_true]; rw [decide_eq_false (by omega)])
        · skip
          refine j_iload_n hJ (q := 37) dX9_again_36 rfl 2 rfl rfl ?_
          refine j_bipush hJ (q := 39) dX9_again_37 rfl kb_8 ?_
          refine j_irem hJ (q := 40) dX9_again_39 rfl (nI_ne0 (by omega) (by omega)) (pk_rem (by omega) (by omega) (by omega)) ?_
          refine jn_if_ne hJ (q := 43) (tgt := 47) dX9_again_40 (by decide) rfl (by omega) (fun c11 => ?_) (fun c11 => ?_)
          · skip
            refine j_iconst hJ (q := 48) dX9_again_47 rfl ki_0 ?_
            refine j_istore_n hJ (q := 49) (lvs' := [(3, .int (nI 0)), (2, .int (oI ((goT B false).1))), (0, .ref h), (1, .int (nI m))]) dX9_again_48 rfl (by decide) rfl rfl ?_
            refine j_iconst hJ (q := 50) dX9_again_49 rfl ki_0 ?_
            refine j_istore hJ (q := 52) (lvs' := [(4, .int (nI 0)), (3, .int (nI 0)), (2, .int (oI ((goT B false).1))), (0, .ref h), (1, .int (nI m))]) dX9_again_50 (by decide) rfl rfl ?_
            have L_52 : ∀ (fu_52 : Nat) (t : Bool) (i : Nat), A 0 - i < fu_52 → (i ≤ A 0) → (t = (decide (C 5 = A 5 ∧ m % 8 = 0) && rgN A C i)) → J 52 [(0, .ref h), (1, .int (nI m)), (2, .int (oI ((goT B false).1))), (3, .int (bI t)), (4, .int (nI i))] [] [mO h q ab be bl ta tl tk va, (q 0, ia Z 266 (ni A)), ((q 4), ia Z 58 (ni C))] 0 0 := by
              intro fu_52
              induction fu_52 with
              | zero => intro t i hm; exact absurd hm (Nat.not_lt_zero _)
              | succ fu_52 ih_52 =>
                intro t i hm_52 hi htt
                refine j_iload hJ (q := 54) dX9_again_52 4 rfl rfl ?_
                refine j_aload_n hJ (q := 55) dX9_again_54 rfl 0 rfl rfl ?_
                refine j_vR hJ (q := 58) (rest := [.int (nI i)]) (As := []) jl_X9_49 (c_X9_many Z h q ab be bl ta tl tk va A ) 0 rfl rfl dX9_again_55 rfl (by decide) (Nat.le_of_ble_eq_true rfl) [0, 1] rfl rfl (fun rv hp => ?_)
                obtain rfl := hp
                show J 58 [(0, .ref h), (1, .int (nI m)), (2, .int (oI ((goT B false).1))), (3, .int (bI t)), (4, .int (nI i))] [.int (nI (A 0)), .int (nI i)] [mO h q ab be bl ta tl tk va, (q 0, ia Z 266 (ni A)), ((q 4), ia Z 58 (ni C))] 0 0
                refine jn_icmp_ge hJ (q := 61) (tgt := 100) dX9_again_58 (by decide) rfl (by omega) (by omega) (fun c12 => ?_) (fun c12 => ?_)
                · skip
                  refine j_iload_n hJ (q := 101) dX9_again_100 rfl 3 rfl rfl ?_
                  have hAg : agT A C m = t := by rw [htt, show i = A 0 by omega]; rfl
                  refine jb_if_eq hJ (q := 104) (tgt := 106) dX9_again_101 (by decide) rfl (fun c13 => ?_) (fun c13 => ?_)
                  · skip
                    refine j_iinc hJ (q := 109) (lvs' := [(1, .int (nI (m + 1))), (0, .ref h), (2, .int (oI ((goT B false).1))), (3, .int (bI t)), (4, .int (nI i))]) dX9_again_106 1 rfl (by rw [show Int32.ofInt 1 = nI 1 from by decide +kernel]; exact nI_add _ _) (by decide) rfl rfl ?_
                    refine j_goto hJ (q := 6) dX9_again_109 (by decide) ?_
                    refine j_locals hJ [1, 0] rfl ?_
                    exact ih_6 C (m + 1) (by omega) (by omega) (by rw [← hB, show 61 - m = (61 - (m + 1)) + 1 by omega]; simp only [agF]; rw [← e_C, if_neg (by rw [hAg]; simp_all)]) hwC (by rw [e_C, goT_8]; omega)
                  · skip
                    refine j_iload_n hJ (q := 105) dX9_again_104 rfl 1 rfl rfl ?_
                    exact hE.1 _ _ _ _ _ _ _ rfl rfl dX9_again_105 (Nat.le_refl _) (Nat.le_refl _) (⟨C, congrArg (fun z => some (Value.int z)) ((zI_nat _).symm.trans (congrArg zI (by unfold z_again; rw [← hB, show 61 - m = (61 - (m + 1)) + 1 by omega]; simp only [agF]; rw [← e_C, if_pos (by rw [hAg]; assumption)]; rfl))), rfl⟩)
                · skip
                  refine j_iload_n hJ (q := 62) dX9_again_61 rfl 3 rfl rfl ?_
                  refine jb_if_eq hJ (q := 65) (tgt := 92) dX9_again_62 (by decide) rfl (fun c14 => ?_) (fun c14 => ?_)
                  · skip
                    refine j_iconst hJ (q := 93) dX9_again_92 rfl ki_0 ?_
                    refine j_istore_n hJ (q := 94) (lvs' := [(3, .int (nI 0)), (0, .ref h), (1, .int (nI m)), (2, .int (oI ((goT B false).1))), (4, .int (nI i))]) dX9_again_93 rfl (by decide) rfl rfl ?_
                    refine j_iinc hJ (q := 97) (lvs' := [(4, .int (nI (i + 1))), (3, .int (nI 0)), (0, .ref h), (1, .int (nI m)), (2, .int (oI ((goT B false).1)))]) dX9_again_94 4 rfl (by rw [show Int32.ofInt 1 = nI 1 from by decide +kernel]; exact nI_add _ _) (by decide) rfl rfl ?_
                    refine j_goto hJ (q := 52) dX9_again_97 (by decide) ?_
                    refine j_locals hJ [2, 3, 4, 1, 0] rfl ?_
                    exact ih_52 false (i + 1) (by omega) (by omega) (by simp only [rgN]; rw [← Bool.and_assoc, ← htt]; simp_all)
                  · skip
                    refine j_aload_n hJ (q := 66) dX9_again_65 rfl 0 rfl rfl ?_
                    refine j_get hJ (q := 69) jf_X9_27 dX9_again_66 0 rfl rfl rfl ?_
                    refine j_bipush hJ (q := 71) dX9_again_69 rfl kb_9 ?_
                    refine j_iload hJ (q := 73) dX9_again_71 4 rfl rfl ?_
                    refine j_iadd hJ (q := 74) dX9_again_73 rfl (nI_add _ _) ?_
                    refine j_ialdN hJ (q := 75) (z := nI (C (9 + i))) dX9_again_74 2 rfl (by omega) (by decide) rfl rfl ?_
                    have b15 := hCb (9 + i)
                    refine j_aload_n hJ (q := 76) dX9_again_75 rfl 0 rfl rfl ?_
                    refine j_get hJ (q := 79) jf_X9_7 dX9_again_76 0 rfl rfl rfl ?_
                    refine j_bipush hJ (q := 81) dX9_again_79 rfl kb_9 ?_
                    refine j_iload hJ (q := 83) dX9_again_81 4 rfl rfl ?_
                    refine j_iadd hJ (q := 84) dX9_again_83 rfl (nI_add _ _) ?_
                    refine j_ialdN hJ (q := 85) (z := nI (A (9 + i))) dX9_again_84 1 rfl (by omega) (by decide) rfl rfl ?_
                    have b16 := hb (9 + i)
                    refine jn_icmp_ne hJ (q := 88) (tgt := 92) dX9_again_85 (by decide) rfl (by omega) (by omega) (fun c17 => ?_) (fun c17 => ?_)
                    · skip
                      refine j_iconst hJ (q := 93) dX9_again_92 rfl ki_0 ?_
                      refine j_istore_n hJ (q := 94) (lvs' := [(3, .int (nI 0)), (0, .ref h), (1, .int (nI m)), (2, .int (oI ((goT B false).1))), (4, .int (nI i))]) dX9_again_93 rfl (by decide) rfl rfl ?_
                      refine j_iinc hJ (q := 97) (lvs' := [(4, .int (nI (i + 1))), (3, .int (nI 0)), (0, .ref h), (1, .int (nI m)), (2, .int (oI ((goT B false).1)))]) dX9_again_94 4 rfl (by rw [show Int32.ofInt 1 = nI 1 from by decide +kernel]; exact nI_add _ _) (by decide) rfl rfl ?_
                      refine j_goto hJ (q := 52) dX9_again_97 (by decide) ?_
                      refine j_locals hJ [2, 3, 4, 1, 0] rfl ?_
                      exact ih_52 false (i + 1) (by omega) (by omega) (by simp only [rgN]; rw [← Bool.and_assoc, ← htt]; simp_all)
                    · skip
                      refine j_iconst hJ (q := 89) dX9_again_88 rfl ki_1 ?_
                      refine j_goto hJ (q := 93) dX9_again_89 (by decide) ?_
                      refine j_istore_n hJ (q := 94) (lvs' := [(3, .int (nI 1)), (0, .ref h), (1, .int (nI m)), (2, .int (oI ((goT B false).1))), (4, .int (nI i))]) dX9_again_93 rfl (by decide) rfl rfl ?_
                      refine j_iinc hJ (q := 97) (lvs' := [(4, .int (nI (i + 1))), (3, .int (nI 1)), (0, .ref h), (1, .int (nI m)), (2, .int (oI ((goT B false).1)))]) dX9_again_94 4 rfl (by rw [show Int32.ofInt 1 = nI 1 from by decide +kernel]; exact nI_add _ _) (by decide) rfl rfl ?_
                      refine j_goto hJ (q := 52) dX9_again_97 (by decide) ?_
                      refine j_locals hJ [2, 3, 4, 1, 0] rfl ?_
                      exact ih_52 true (i + 1) (by omega) (by omega) (by simp only [rgN]; rw [← Bool.and_assoc, ← htt]; simp_all)
            refine j_locals hJ [3, 4, 2, 1, 0] rfl ?_
            exact L_52 ((A 0 - 0) + 1) false 0 (Nat.lt_succ_self _) (by omega) (by simp only [rgN, Bool.and_true]; rw [decide_eq_false (by omega)])
          · skip
            refine j_iconst hJ (q := 44) dX9_again_43 rfl ki_1 ?_
            refine j_goto hJ (q := 48) dX9_again_44 (by decide) ?_
            refine j_istore_n hJ (q := 49) (lvs' := [(3, .int (nI 1)), (2, .int (oI ((goT B false).1))), (0, .ref h), (1, .int (nI m))]) dX9_again_48 rfl (by decide) rfl rfl ?_
            refine j_iconst hJ (q := 50) dX9_again_49 rfl ki_0 ?_
            refine j_istore hJ (q := 52) (lvs' := [(4, .int (nI 0)), (3, .int (nI 1)), (2, .int (oI ((goT B false).1))), (0, .ref h), (1, .int (nI m))]) dX9_again_50 (by decide) rfl rfl ?_
            have L_52 : ∀ (fu_52 : Nat) (t : Bool) (i : Nat), A 0 - i < fu_52 → (i ≤ A 0) → (t = (decide (C 5 = A 5 ∧ m % 8 = 0) && rgN A C i)) → J 52 [(0, .ref h), (1, .int (nI m)), (2, .int (oI ((goT B false).1))), (3, .int (bI t)), (4, .int (nI i))] [] [mO h q ab be bl ta tl tk va, (q 0, ia Z 266 (ni A)), ((q 4), ia Z 58 (ni C))] 0 0 := by
              intro fu_52
              induction fu_52 with
              | zero => intro t i hm; exact absurd hm (Nat.not_lt_zero _)
              | succ fu_52 ih_52 =>
                intro t i hm_52 hi htt
                refine j_iload hJ (q := 54) dX9_again_52 4 rfl rfl ?_
                refine j_aload_n hJ (q := 55) dX9_again_54 rfl 0 rfl rfl ?_
                refine j_vR hJ (q := 58) (rest := [.int (nI i)]) (As := []) jl_X9_49 (c_X9_many Z h q ab be bl ta tl tk va A ) 0 rfl rfl dX9_again_55 rfl (by decide) (Nat.le_of_ble_eq_true rfl) [0, 1] rfl rfl (fun rv hp => ?_)
                obtain rfl := hp
                show J 58 [(0, .ref h), (1, .int (nI m)), (2, .int (oI ((goT B false).1))), (3, .int (bI t)), (4, .int (nI i))] [.int (nI (A 0)), .int (nI i)] [mO h q ab be bl ta tl tk va, (q 0, ia Z 266 (ni A)), ((q 4), ia Z 58 (ni C))] 0 0
                refine jn_icmp_ge hJ (q := 61) (tgt := 100) dX9_again_58 (by decide) rfl (by omega) (by omega) (fun c18 => ?_) (fun c18 => ?_)
                · skip
                  refine j_iload_n hJ (q := 101) dX9_again_100 rfl 3 rfl rfl ?_
                  have hAg : agT A C m = t := by rw [htt, show i = A 0 by omega]; rfl
                  refine jb_if_eq hJ (q := 104) (tgt := 106) dX9_again_101 (by decide) rfl (fun c19 => ?_) (fun c19 => ?_)
                  · skip
                    refine j_iinc hJ (q := 109) (lvs' := [(1, .int (nI (m + 1))), (0, .ref h), (2, .int (oI ((goT B false).1))), (3, .int (bI t)), (4, .int (nI i))]) dX9_again_106 1 rfl (by rw [show Int32.ofInt 1 = nI 1 from by decide +kernel]; exact nI_add _ _) (by decide) rfl rfl ?_
                    refine j_goto hJ (q := 6) dX9_again_109 (by decide) ?_
                    refine j_locals hJ [1, 0] rfl ?_
                    exact ih_6 C (m + 1) (by omega) (by omega) (by rw [← hB, show 61 - m = (61 - (m + 1)) + 1 by omega]; simp only [agF]; rw [← e_C, if_neg (by rw [hAg]; simp_all)]) hwC (by rw [e_C, goT_8]; omega)
                  · skip
                    refine j_iload_n hJ (q := 105) dX9_again_104 rfl 1 rfl rfl ?_
                    exact hE.1 _ _ _ _ _ _ _ rfl rfl dX9_again_105 (Nat.le_refl _) (Nat.le_refl _) (⟨C, congrArg (fun z => some (Value.int z)) ((zI_nat _).symm.trans (congrArg zI (by unfold z_again; rw [← hB, show 61 - m = (61 - (m + 1)) + 1 by omega]; simp only [agF]; rw [← e_C, if_pos (by rw [hAg]; assumption)]; rfl))), rfl⟩)
                · skip
                  refine j_iload_n hJ (q := 62) dX9_again_61 rfl 3 rfl rfl ?_
                  refine jb_if_eq hJ (q := 65) (tgt := 92) dX9_again_62 (by decide) rfl (fun c20 => ?_) (fun c20 => ?_)
                  · skip
                    refine j_iconst hJ (q := 93) dX9_again_92 rfl ki_0 ?_
                    refine j_istore_n hJ (q := 94) (lvs' := [(3, .int (nI 0)), (0, .ref h), (1, .int (nI m)), (2, .int (oI ((goT B false).1))), (4, .int (nI i))]) dX9_again_93 rfl (by decide) rfl rfl ?_
                    refine j_iinc hJ (q := 97) (lvs' := [(4, .int (nI (i + 1))), (3, .int (nI 0)), (0, .ref h), (1, .int (nI m)), (2, .int (oI ((goT B false).1)))]) dX9_again_94 4 rfl (by rw [show Int32.ofInt 1 = nI 1 from by decide +kernel]; exact nI_add _ _) (by decide) rfl rfl ?_
                    refine j_goto hJ (q := 52) dX9_again_97 (by decide) ?_
                    refine j_locals hJ [2, 3, 4, 1, 0] rfl ?_
                    exact ih_52 false (i + 1) (by omega) (by omega) (by simp only [rgN]; rw [← Bool.and_assoc, ← htt]; simp_all)
                  · skip
                    refine j_aload_n hJ (q := 66) dX9_again_65 rfl 0 rfl rfl ?_
                    refine j_get hJ (q := 69) jf_X9_27 dX9_again_66 0 rfl rfl rfl ?_
                    refine j_bipush hJ (q := 71) dX9_again_69 rfl kb_9 ?_
                    refine j_iload hJ (q := 73) dX9_again_71 4 rfl rfl ?_
                    refine j_iadd hJ (q := 74) dX9_again_73 rfl (nI_add _ _) ?_
                    refine j_ialdN hJ (q := 75) (z := nI (C (9 + i))) dX9_again_74 2 rfl (by omega) (by decide) rfl rfl ?_
                    have b21 := hCb (9 + i)
                    refine j_aload_n hJ (q := 76) dX9_again_75 rfl 0 rfl rfl ?_
                    refine j_get hJ (q := 79) jf_X9_7 dX9_again_76 0 rfl rfl rfl ?_
                    refine j_bipush hJ (q := 81) dX9_again_79 rfl kb_9 ?_
                    refine j_iload hJ (q := 83) dX9_again_81 4 rfl rfl ?_
                    refine j_iadd hJ (q := 84) dX9_again_83 rfl (nI_add _ _) ?_
                    refine j_ialdN hJ (q := 85) (z := nI (A (9 + i))) dX9_again_84 1 rfl (by omega) (by decide) rfl rfl ?_
                    have b22 := hb (9 + i)
                    refine jn_icmp_ne hJ (q := 88) (tgt := 92) dX9_again_85 (by decide) rfl (by omega) (by omega) (fun c23 => ?_) (fun c23 => ?_)
                    · skip
                      refine j_iconst hJ (q := 93) dX9_again_92 rfl ki_0 ?_
                      refine j_istore_n hJ (q := 94) (lvs' := [(3, .int (nI 0)), (0, .ref h), (1, .int (nI m)), (2, .int (oI ((goT B false).1))), (4, .int (nI i))]) dX9_again_93 rfl (by decide) rfl rfl ?_
                      refine j_iinc hJ (q := 97) (lvs' := [(4, .int (nI (i + 1))), (3, .int (nI 0)), (0, .ref h), (1, .int (nI m)), (2, .int (oI ((goT B false).1)))]) dX9_again_94 4 rfl (by rw [show Int32.ofInt 1 = nI 1 from by decide +kernel]; exact nI_add _ _) (by decide) rfl rfl ?_
                      refine j_goto hJ (q := 52) dX9_again_97 (by decide) ?_
                      refine j_locals hJ [2, 3, 4, 1, 0] rfl ?_
                      exact ih_52 false (i + 1) (by omega) (by omega) (by simp only [rgN]; rw [← Bool.and_assoc, ← htt]; simp_all)
                    · skip
                      refine j_iconst hJ (q := 89) dX9_again_88 rfl ki_1 ?_
                      refine j_goto hJ (q := 93) dX9_again_89 (by decide) ?_
                      refine j_istore_n hJ (q := 94) (lvs' := [(3, .int (nI 1)), (0, .ref h), (1, .int (nI m)), (2, .int (oI ((goT B false).1))), (4, .int (nI i))]) dX9_again_93 rfl (by decide) rfl rfl ?_
                      refine j_iinc hJ (q := 97) (lvs' := [(4, .int (nI (i + 1))), (3, .int (nI 1)), (0, .ref h), (1, .int (nI m)), (2, .int (oI ((goT B false).1)))]) dX9_again_94 4 rfl (by rw [show Int32.ofInt 1 = nI 1 from by decide +kernel]; exact nI_add _ _) (by decide) rfl rfl ?_
                      refine j_goto hJ (q := 52) dX9_again_97 (by decide) ?_
                      refine j_locals hJ [2, 3, 4, 1, 0] rfl ?_
                      exact ih_52 true (i + 1) (by omega) (by omega) (by simp only [rgN]; rw [← Bool.and_assoc, ← htt]; simp_all)
            refine j_locals hJ [3, 4, 2, 1, 0] rfl ?_
            exact L_52 ((A 0 - 0) + 1) true 0 (Nat.lt_succ_self _) (by omega) (by simp only [rgN, Bool.and_true]; rw [decide_eq_true (by omega)])
  refine j_locals hJ [1, 0] rfl ?_
  exact L_6 ((61 - 1) + 1) A 1 (Nat.lt_succ_self _) (by omega) rfl hw (by omega)

set_option maxHeartbeats 4000000 in
set_option maxRecDepth 100000 in
theorem c_X9_fast (Z : jZ) (h : Nat) (q : Nat → Nat) (ab : Int) (be : Int) (bl : Nat) (ta : Nat) (tl : Nat) (tk : Nat) (va : Nat) (A : Nat → Nat) (Hd : Nat → Nat) (Rf : Nat → Nat) (a : Int32) (b : Int32) (c : Int32) (hg : wg A) : CT Z yX9_fast cX9_fast 8 ((some FieldType.int)) 6 0 0 [.ref h, .int a, .int b, .int c] [mO h q ab be bl ta tl tk va, (q 0, ia Z 266 (ni A)), (q 4, ia Z 58 (ni Hd)), (q 3, ia Z 3 (ni Rf))] (fun rr ww => ∃ Hx : Nat → Nat, rr = some (.int (zI (z_fast A a b c))) ∧ ww = [mO h q ab be bl ta tl tk va, (q 0, ia Z 266 (ni A)), (q 4, ia Z 58 (ni Hx)), (q 3, ia Z 3 (ni (if pFast A a b c then Rf else bmp Rf 0)))]) := by
  refine CT.of RX9 false rfl (fun h => by cases h) (by decide +kernel) (Nat.le_of_ble_eq_true rfl) ?_
  intro J hJ hE
  show J 0 [(0, .ref h), (1, .int a), (2, .int b), (3, .int c)] [] [mO h q ab be bl ta tl tk va, (q 0, ia Z 266 (ni A)), (q 4, ia Z 58 (ni Hd)), (q 3, ia Z 3 (ni Rf))] 0 0
  obtain ⟨hw, ⟨g1, g2, g3, g4, g8⟩, hrs, hrn, hrm, hpst⟩ := id hg
  obtain ⟨⟨w1, w2, w3, w4, w5, w6⟩, wb, wr, wh, wd⟩ := id hw
  have hb := wb
  have hr_a := zI_rng a
  have hr_b := zI_rng b
  have hr_c := zI_rng c
  refine j_aload_n hJ (q := 1) dX9_fast_0 rfl 0 rfl rfl ?_
  refine j_iload_n hJ (q := 2) dX9_fast_1 rfl 1 rfl rfl ?_
  refine j_vR hJ (q := 5) (rest := []) (As := [.int a]) jl_X9_129 (c_X9_isRider Z h q ab be bl ta tl tk va A a (by omega)) 0 rfl rfl dX9_fast_2 rfl (by decide) (Nat.le_of_ble_eq_true rfl) [0, 1] rfl rfl (fun rv hp => ?_)
  obtain rfl := hp
  show J 5 [(0, .ref h), (1, .int a), (2, .int b), (3, .int c)] [.int (bI (decide (0 ≤ a.toInt ∧ a.toInt ≤ (A 0 : Int) - 1)))] [mO h q ab be bl ta tl tk va, (q 0, ia Z 266 (ni A)), (q 4, ia Z 58 (ni Hd)), (q 3, ia Z 3 (ni Rf))] 0 0
  refine jp_if_eq hJ (q := 8) (tgt := 30) dX9_fast_5 (by decide) rfl (fun c1 => ?_) (fun c1 => ?_)
  · skip
    refine j_aload_n hJ (q := 31) dX9_fast_30 rfl 0 rfl rfl ?_
    refine j_bipush hJ (q := 33) dX9_fast_31 rfl kb_m2 ?_
    refine j_vW hJ (q := 36) (rest := []) (As := [.int (zI (-2))]) (wr := [(q 0, ia Z 266 (ni A)), (q 4, ia Z 58 (ni Hd))]) jl_X9_73 (c_X9_bad Z h q ab be bl ta tl tk va Rf (-2) ) 0 rfl rfl dX9_fast_33 rfl (by decide) (Nat.le_of_ble_eq_true rfl) [0, 3] [1, 2] rfl rfl rfl rfl (by decide) rfl (fun rv wv hp => ?_)
    obtain ⟨rfl, rfl⟩ := hp
    refine j_world hJ (ws' := [mO h q ab be bl ta tl tk va, (q 0, ia Z 266 (ni A)), (q 4, ia Z 58 (ni Hd)), (q 3, ia Z 3 (ni (va_up Rf 0 (Rf 0 + 1))))]) [2, 0, 1, 3] rfl rfl ?_
    show J 36 [(0, .ref h), (1, .int a), (2, .int b), (3, .int c)] [.int (zI (-2))] [mO h q ab be bl ta tl tk va, (q 0, ia Z 266 (ni A)), (q 4, ia Z 58 (ni Hd)), (q 3, ia Z 3 (ni (va_up Rf 0 (Rf 0 + 1))))] 0 0
    have hP : ¬ (pFast A a b c) := by simp only [rgI, isS, isR, pNote, pMark, pFast, pLever, pHands, pSlip, pEven]; omega
    exact hE.1 _ _ _ _ _ _ _ rfl rfl dX9_fast_36 (Nat.le_refl _) (Nat.le_refl _) (⟨Hd, congrArg (fun z => some (Value.int (zI z))) (by simp only [z_fast, if_neg hP, bmp]), by simp only [z_fast, if_neg hP, bmp]⟩)
  · skip
    refine j_iload_n hJ (q := 9) dX9_fast_8 rfl 2 rfl rfl ?_
    refine j_i2l hJ (q := 10) dX9_fast_9 rfl (zL_i _ (zI_of b) (zI_rng b)) ?_
    refine j_lconst hJ (q := 11) (v := zL 1) dX9_fast_10 rfl rfl ?_
    refine j_ldc2 hJ (q := 14) (v' := zL 60) dX9_fast_11 tm_898 rfl rfl ?_
    refine j_sR hJ (q := 17) (rest := []) (As := [.long (zL b.toInt), .long (zL 1), .long (zL 60)]) jl_X9_53 (c_X9_in Z b.toInt 1 60 (by omega) (by omega) (by omega)) dX9_fast_14 rfl (by decide) (Nat.le_of_ble_eq_true rfl) [] rfl rfl (fun rv hp => ?_)
    obtain rfl := hp
    show J 17 [(0, .ref h), (1, .int a), (2, .int b), (3, .int c)] [.int (bI (decide (1 ≤ b.toInt ∧ b.toInt ≤ 60)))] [mO h q ab be bl ta tl tk va, (q 0, ia Z 266 (ni A)), (q 4, ia Z 58 (ni Hd)), (q 3, ia Z 3 (ni Rf))] 0 0
    refine jp_if_eq hJ (q := 20) (tgt := 30) dX9_fast_17 (by decide) rfl (fun c2 => ?_) (fun c2 => ?_)
    · skip
      refine j_aload_n hJ (q := 31) dX9_fast_30 rfl 0 rfl rfl ?_
      refine j_bipush hJ (q := 33) dX9_fast_31 rfl kb_m2 ?_
      refine j_vW hJ (q := 36) (rest := []) (As := [.int (zI (-2))]) (wr := [(q 0, ia Z 266 (ni A)), (q 4, ia Z 58 (ni Hd))]) jl_X9_73 (c_X9_bad Z h q ab be bl ta tl tk va Rf (-2) ) 0 rfl rfl dX9_fast_33 rfl (by decide) (Nat.le_of_ble_eq_true rfl) [0, 3] [1, 2] rfl rfl rfl rfl (by decide) rfl (fun rv wv hp => ?_)
      obtain ⟨rfl, rfl⟩ := hp
      refine j_world hJ (ws' := [mO h q ab be bl ta tl tk va, (q 0, ia Z 266 (ni A)), (q 4, ia Z 58 (ni Hd)), (q 3, ia Z 3 (ni (va_up Rf 0 (Rf 0 + 1))))]) [2, 0, 1, 3] rfl rfl ?_
      show J 36 [(0, .ref h), (1, .int a), (2, .int b), (3, .int c)] [.int (zI (-2))] [mO h q ab be bl ta tl tk va, (q 0, ia Z 266 (ni A)), (q 4, ia Z 58 (ni Hd)), (q 3, ia Z 3 (ni (va_up Rf 0 (Rf 0 + 1))))] 0 0
      have hP : ¬ (pFast A a b c) := by simp only [rgI, isS, isR, pNote, pMark, pFast, pLever, pHands, pSlip, pEven]; omega
      exact hE.1 _ _ _ _ _ _ _ rfl rfl dX9_fast_36 (Nat.le_refl _) (Nat.le_refl _) (⟨Hd, congrArg (fun z => some (Value.int (zI z))) (by simp only [z_fast, if_neg hP, bmp]), by simp only [z_fast, if_neg hP, bmp]⟩)
    · skip
      refine j_iload_n hJ (q := 21) dX9_fast_20 rfl 3 rfl rfl ?_
      refine j_i2l hJ (q := 22) dX9_fast_21 rfl (zL_i _ (zI_of c) (zI_rng c)) ?_
      refine j_lconst hJ (q := 23) (v := zL 0) dX9_fast_22 rfl rfl ?_
      refine j_lconst hJ (q := 24) (v := zL 1) dX9_fast_23 rfl rfl ?_
      refine j_sR hJ (q := 27) (rest := []) (As := [.long (zL c.toInt), .long (zL 0), .long (zL 1)]) jl_X9_53 (c_X9_in Z c.toInt 0 1 (by omega) (by omega) (by omega)) dX9_fast_24 rfl (by decide) (Nat.le_of_ble_eq_true rfl) [] rfl rfl (fun rv hp => ?_)
      obtain rfl := hp
      show J 27 [(0, .ref h), (1, .int a), (2, .int b), (3, .int c)] [.int (bI (decide (0 ≤ c.toInt ∧ c.toInt ≤ 1)))] [mO h q ab be bl ta tl tk va, (q 0, ia Z 266 (ni A)), (q 4, ia Z 58 (ni Hd)), (q 3, ia Z 3 (ni Rf))] 0 0
      refine jp_if_ne hJ (q := 30) (tgt := 37) dX9_fast_27 (by decide) rfl (fun c3 => ?_) (fun c3 => ?_)
      · skip
        have hn_a := nt_cast (x := a) (by omega)
        refine j_eql (lvs' := [(0, .ref h), (1, .int (nI (nt a))), (2, .int b), (3, .int c)]) (by rw [← nt_eq (x := a) (by omega)]) ?_
        have hn_b := nt_cast (x := b) (by omega)
        refine j_eql (lvs' := [(0, .ref h), (1, .int (nI (nt a))), (2, .int (nI (nt b))), (3, .int c)]) (by rw [← nt_eq (x := b) (by omega)]) ?_
        have hn_c := nt_cast (x := c) (by omega)
        refine j_eql (lvs' := [(0, .ref h), (1, .int (nI (nt a))), (2, .int (nI (nt b))), (3, .int (nI (nt c)))]) (by rw [← nt_eq (x := c) (by omega)]) ?_
        refine j_iconst hJ (q := 38) dX9_fast_37 rfl ki_m1 ?_
        refine j_istore hJ (q := 40) (lvs' := [(4, .int (zI (-1))), (0, .ref h), (1, .int (nI (nt a))), (2, .int (nI (nt b))), (3, .int (nI (nt c)))]) dX9_fast_38 (by decide) rfl rfl ?_
        refine j_iconst hJ (q := 41) dX9_fast_40 rfl ki_m1 ?_
        refine j_istore hJ (q := 43) (lvs' := [(5, .int (zI (-1))), (4, .int (zI (-1))), (0, .ref h), (1, .int (nI (nt a))), (2, .int (nI (nt b))), (3, .int (nI (nt c)))]) dX9_fast_41 (by decide) rfl rfl ?_
        refine j_iconst hJ (q := 44) dX9_fast_43 rfl ki_0 ?_
        refine j_istore hJ (q := 46) (lvs' := [(6, .int (nI 0)), (5, .int (zI (-1))), (4, .int (zI (-1))), (0, .ref h), (1, .int (nI (nt a))), (2, .int (nI (nt b))), (3, .int (nI (nt c)))]) dX9_fast_44 (by decide) rfl rfl ?_
        have L_46 : ∀ (fu_46 : Nat) (B : Nat → Nat) (bs : Int) (mo : Int) (vv : Nat), 4 - vv < fu_46 → (vv ≤ 4) → (bst (fFast A (nt a) (nt b)) vv = (bs, mo)) → J 46 [(0, .ref h), (1, .int (nI (nt a))), (2, .int (nI (nt b))), (3, .int (nI (nt c))), (4, .int (zI bs)), (5, .int (zI mo)), (6, .int (nI vv))] [] [mO h q ab be bl ta tl tk va, (q 0, ia Z 266 (ni A)), (q 4, ia Z 58 (ni B)), (q 3, ia Z 3 (ni Rf))] 0 0 := by
          intro fu_46
          induction fu_46 with
          | zero => intro B bs mo vv hm; exact absurd hm (Nat.not_lt_zero _)
          | succ fu_46 ih_46 =>
            intro B bs mo vv hm_46 hv hbm
            have hbl2 := bst_le (f := fFast A (nt a) (nt b)) (M := 60) (by decide) vv (fun u _ => by have := tkn_le (nt a) (nt b) (va_up A 6 u); show (tkn (nt a) (nt b) (va_up A 6 u) : Int) ≤ 60; omega)
            rw [hbm] at hbl2
            have hbl3 := hbl2.1
            have hbl4 := hbl2.2.1
            have hbl5 := hbl2.2.2.1
            have hbl6 := hbl2.2.2.2
            dsimp only at hbl3 hbl4 hbl5 hbl6
            refine j_iload hJ (q := 48) dX9_fast_46 6 rfl rfl ?_
            refine j_iconst hJ (q := 49) dX9_fast_48 rfl ki_4 ?_
            refine jn_icmp_ge hJ (q := 52) (tgt := 111) dX9_fast_49 (by decide) rfl (by omega) (by omega) (fun c4 => ?_) (fun c4 => ?_)
            · skip
              refine j_iload_n hJ (q := 112) dX9_fast_111 rfl 3 rfl rfl ?_
              refine jn_if_ne hJ (q := 115) (tgt := 120) dX9_fast_112 (by decide) rfl (by omega) (fun c5 => ?_) (fun c5 => ?_)
              · skip
                refine j_iload hJ (q := 122) dX9_fast_120 5 rfl rfl ?_
                have hP : pFast A a b c := by simp only [rgI, isS, isR, pNote, pMark, pFast, pLever, pHands, pSlip, pEven]; omega
                have hQ0 : ¬ (nt c = 0) := by omega
                exact hE.1 _ _ _ _ _ _ _ rfl rfl dX9_fast_122 (Nat.le_refl _) (Nat.le_refl _) (⟨B, congrArg (fun z => some (Value.int (zI z))) (by simp only [z_fast, if_pos hP, if_neg hQ0]; rw [show 4 = vv by omega, hbm]), by simp only [z_fast, if_pos hP, if_neg hQ0, bmp]⟩)
              · skip
                refine j_iload hJ (q := 117) dX9_fast_115 4 rfl rfl ?_
                refine j_goto hJ (q := 122) dX9_fast_117 (by decide) ?_
                have hP : pFast A a b c := by simp only [rgI, isS, isR, pNote, pMark, pFast, pLever, pHands, pSlip, pEven]; omega
                have hQ0 : nt c = 0 := by omega
                exact hE.1 _ _ _ _ _ _ _ rfl rfl dX9_fast_122 (Nat.le_refl _) (Nat.le_refl _) (⟨B, congrArg (fun z => some (Value.int (zI z))) (by simp only [z_fast, if_pos hP, if_pos hQ0]; rw [show 4 = vv by omega, hbm]), by simp only [z_fast, if_pos hP, if_pos hQ0, bmp]⟩)
            · skip
              refine j_aload_n hJ (q := 53) dX9_fast_52 rfl 0 rfl rfl ?_
              refine j_vW hJ (q := 56) (rest := []) (As := []) (wr := [(q 3, ia Z 3 (ni Rf))]) jl_X9_139 (c_X9_layHand Z h q ab be bl ta tl tk va A B ) 0 rfl rfl dX9_fast_53 rfl (by decide) (Nat.le_of_ble_eq_true rfl) [0, 1, 2] [3] rfl rfl rfl rfl (by decide) rfl (fun rv wv hp => ?_)
              obtain ⟨rfl, rfl⟩ := hp
              refine j_world hJ (ws' := [mO h q ab be bl ta tl tk va, (q 0, ia Z 266 (ni A)), (q 4, ia Z 58 (ni A)), (q 3, ia Z 3 (ni Rf))]) [1, 2, 3, 0] rfl rfl ?_
              show J 56 [(0, .ref h), (1, .int (nI (nt a))), (2, .int (nI (nt b))), (3, .int (nI (nt c))), (4, .int (zI bs)), (5, .int (zI mo)), (6, .int (nI vv))] [] [mO h q ab be bl ta tl tk va, (q 0, ia Z 266 (ni A)), (q 4, ia Z 58 (ni A)), (q 3, ia Z 3 (ni Rf))] 0 0
              refine j_aload_n hJ (q := 57) dX9_fast_56 rfl 0 rfl rfl ?_
              refine j_get hJ (q := 60) jf_X9_27 dX9_fast_57 0 rfl rfl rfl ?_
              refine j_bipush hJ (q := 62) dX9_fast_60 rfl kb_6 ?_
              refine j_iload hJ (q := 64) dX9_fast_62 6 rfl rfl ?_
              refine j_iastN hJ (q := 65) (ws' := [mO h q ab be bl ta tl tk va, (q 0, ia Z 266 (ni A)), (q 4, ia Z 58 (ni (va_up A 6 vv))), (q 3, ia Z 3 (ni Rf))]) dX9_fast_64 2 rfl (by decide) (by decide) (ni_up _ _ _) rfl rfl ?_
              refine j_aload_n hJ (q := 66) dX9_fast_65 rfl 0 rfl rfl ?_
              refine j_iload_n hJ (q := 67) dX9_fast_66 rfl 1 rfl rfl ?_
              refine j_iload_n hJ (q := 68) dX9_fast_67 rfl 2 rfl rfl ?_
              refine j_vW hJ (q := 71) (rest := []) (As := [.int (nI (nt a)), .int (nI (nt b))]) (wr := [(q 0, ia Z 266 (ni A)), (q 3, ia Z 3 (ni Rf))]) jl_X9_142 (c_X9_taken Z h q ab be bl ta tl tk va (va_up A 6 vv) (nt a) (nt b) (wf_speed hw (by omega)) (by omega) (by omega) (by simp only [va_up]; rw [if_neg (by decide)]; omega)) 0 rfl rfl dX9_fast_68 rfl (by decide) (Nat.le_of_ble_eq_true rfl) [0, 2] [1, 3] rfl rfl rfl rfl (by decide) rfl (fun rv wv hp => ?_)
              obtain ⟨Hx6, rfl, rfl⟩ := hp
              refine j_world hJ (ws' := [mO h q ab be bl ta tl tk va, (q 0, ia Z 266 (ni A)), (q 4, ia Z 58 (ni Hx6)), (q 3, ia Z 3 (ni Rf))]) [2, 0, 3, 1] rfl rfl ?_
              show J 71 [(0, .ref h), (1, .int (nI (nt a))), (2, .int (nI (nt b))), (3, .int (nI (nt c))), (4, .int (zI bs)), (5, .int (zI mo)), (6, .int (nI vv))] [.int (nI (tkn (nt a) (nt b) (va_up A 6 vv)))] [mO h q ab be bl ta tl tk va, (q 0, ia Z 266 (ni A)), (q 4, ia Z 58 (ni Hx6)), (q 3, ia Z 3 (ni Rf))] 0 0
              refine j_istore hJ (q := 73) (lvs' := [(7, .int (nI (tkn (nt a) (nt b) (va_up A 6 vv)))), (0, .ref h), (1, .int (nI (nt a))), (2, .int (nI (nt b))), (3, .int (nI (nt c))), (4, .int (zI bs)), (5, .int (zI mo)), (6, .int (nI vv))]) dX9_fast_71 (by decide) rfl rfl ?_
              have hfv : fFast A (nt a) (nt b) vv = (tkn (nt a) (nt b) (va_up A 6 vv) : Int) := rfl
              have htl := tkn_le (nt a) (nt b) (va_up A 6 vv)
              refine j_iload hJ (q := 75) dX9_fast_73 0 rfl rfl ?_
              refine j_iload hJ (q := 77) dX9_fast_75 6 rfl rfl ?_
              refine jz_icmp_le hJ (q := 80) (tgt := 85) dX9_fast_77 (by decide) rfl (zI_nat (tkn (nt a) (nt b) (va_up A 6 vv))).symm rfl (by omega) (by omega) (fun c7 => ?_) (fun c7 => ?_)
              · skip
                refine j_iload hJ (q := 87) dX9_fast_85 5 rfl rfl ?_
                refine j_istore hJ (q := 89) (lvs' := [(4, .int (zI bs)), (7, .int (nI (tkn (nt a) (nt b) (va_up A 6 vv)))), (0, .ref h), (1, .int (nI (nt a))), (2, .int (nI (nt b))), (3, .int (nI (nt c))), (5, .int (zI mo)), (6, .int (nI vv))]) dX9_fast_87 (by decide) rfl rfl ?_
                refine j_iload hJ (q := 91) dX9_fast_89 1 rfl rfl ?_
                refine j_iload hJ (q := 93) dX9_fast_91 6 rfl rfl ?_
                refine jz_icmp_le hJ (q := 96) (tgt := 101) dX9_fast_93 (by decide) rfl (zI_nat (tkn (nt a) (nt b) (va_up A 6 vv))).symm rfl (by omega) (by omega) (fun c8 => ?_) (fun c8 => ?_)
                · skip
                  refine j_iload hJ (q := 103) dX9_fast_101 6 rfl rfl ?_
                  refine j_istore hJ (q := 105) (lvs' := [(5, .int (zI mo)), (4, .int (zI bs)), (7, .int (nI (tkn (nt a) (nt b) (va_up A 6 vv)))), (0, .ref h), (1, .int (nI (nt a))), (2, .int (nI (nt b))), (3, .int (nI (nt c))), (6, .int (nI vv))]) dX9_fast_103 (by decide) rfl rfl ?_
                  refine j_iinc hJ (q := 108) (lvs' := [(6, .int (nI (vv + 1))), (5, .int (zI mo)), (4, .int (zI bs)), (7, .int (nI (tkn (nt a) (nt b) (va_up A 6 vv)))), (0, .ref h), (1, .int (nI (nt a))), (2, .int (nI (nt b))), (3, .int (nI (nt c)))]) dX9_fast_105 7 rfl (by rw [show Int32.ofInt 1 = nI 1 from by decide +kernel]; exact nI_add _ _) (by decide) rfl rfl ?_
                  refine j_goto hJ (q := 46) dX9_fast_108 (by decide) ?_
                  refine j_locals hJ [4, 5, 6, 7, 2, 1, 0] rfl ?_
                  exact ih_46 Hx6 bs mo (vv + 1) (by omega) (by omega) (bst_no hbm (by omega))
                · skip
                  refine j_iload hJ (q := 98) dX9_fast_96 1 rfl rfl ?_
                  refine j_goto hJ (q := 103) dX9_fast_98 (by decide) ?_
                  refine j_istore hJ (q := 105) (lvs' := [(5, .int (nI (tkn (nt a) (nt b) (va_up A 6 vv)))), (4, .int (zI bs)), (7, .int (nI (tkn (nt a) (nt b) (va_up A 6 vv)))), (0, .ref h), (1, .int (nI (nt a))), (2, .int (nI (nt b))), (3, .int (nI (nt c))), (6, .int (nI vv))]) dX9_fast_103 (by decide) rfl rfl ?_
                  refine j_iinc hJ (q := 108) (lvs' := [(6, .int (nI (vv + 1))), (5, .int (nI (tkn (nt a) (nt b) (va_up A 6 vv)))), (4, .int (zI bs)), (7, .int (nI (tkn (nt a) (nt b) (va_up A 6 vv)))), (0, .ref h), (1, .int (nI (nt a))), (2, .int (nI (nt b))), (3, .int (nI (nt c)))]) dX9_fast_105 7 rfl (by rw [show Int32.ofInt 1 = nI 1 from by decide +kernel]; exact nI_add _ _) (by decide) rfl rfl ?_
                  refine j_goto hJ (q := 46) dX9_fast_108 (by decide) ?_
                  refine j_locals hJ [4, 5, 6, 7, 2, 1, 0] rfl ?_
                  refine j_eql (lvs' := [(0, .ref h), (1, .int (nI (nt a))), (2, .int (nI (nt b))), (3, .int (nI (nt c))), (4, .int (zI bs)), (5, .int (zI ((tkn (nt a) (nt b) (va_up A 6 vv) : Nat) : Int))), (6, .int (nI (vv + 1)))]) (by simp only [zI_nat] <;> rfl) ?_
                  exact ih_46 Hx6 bs ((tkn (nt a) (nt b) (va_up A 6 vv) : Nat) : Int) (vv + 1) (by omega) (by omega) (by exfalso; omega)
              · skip
                refine j_iload hJ (q := 82) dX9_fast_80 7 rfl rfl ?_
                refine j_goto hJ (q := 87) dX9_fast_82 (by decide) ?_
                refine j_istore hJ (q := 89) (lvs' := [(4, .int (nI vv)), (7, .int (nI (tkn (nt a) (nt b) (va_up A 6 vv)))), (0, .ref h), (1, .int (nI (nt a))), (2, .int (nI (nt b))), (3, .int (nI (nt c))), (5, .int (zI mo)), (6, .int (nI vv))]) dX9_fast_87 (by decide) rfl rfl ?_
                refine j_iload hJ (q := 91) dX9_fast_89 1 rfl rfl ?_
                refine j_iload hJ (q := 93) dX9_fast_91 6 rfl rfl ?_
                refine jz_icmp_le hJ (q := 96) (tgt := 101) dX9_fast_93 (by decide) rfl (zI_nat (tkn (nt a) (nt b) (va_up A 6 vv))).symm rfl (by omega) (by omega) (fun c9 => ?_) (fun c9 => ?_)
                · skip
                  refine j_iload hJ (q := 103) dX9_fast_101 6 rfl rfl ?_
                  refine j_istore hJ (q := 105) (lvs' := [(5, .int (zI mo)), (4, .int (nI vv)), (7, .int (nI (tkn (nt a) (nt b) (va_up A 6 vv)))), (0, .ref h), (1, .int (nI (nt a))), (2, .int (nI (nt b))), (3, .int (nI (nt c))), (6, .int (nI vv))]) dX9_fast_103 (by decide) rfl rfl ?_
                  refine j_iinc hJ (q := 108) (lvs' := [(6, .int (nI (vv + 1))), (5, .int (zI mo)), (4, .int (nI vv)), (7, .int (nI (tkn (nt a) (nt b) (va_up A 6 vv)))), (0, .ref h), (1, .int (nI (nt a))), (2, .int (nI (nt b))), (3, .int (nI (nt c)))]) dX9_fast_105 7 rfl (by rw [show Int32.ofInt 1 = nI 1 from by decide +kernel]; exact nI_add _ _) (by decide) rfl rfl ?_
                  refine j_goto hJ (q := 46) dX9_fast_108 (by decide) ?_
                  refine j_locals hJ [4, 5, 6, 7, 2, 1, 0] rfl ?_
                  refine j_eql (lvs' := [(0, .ref h), (1, .int (nI (nt a))), (2, .int (nI (nt b))), (3, .int (nI (nt c))), (4, .int (zI ((vv : Nat) : Int))), (5, .int (zI mo)), (6, .int (nI (vv + 1)))]) (by simp only [zI_nat] <;> rfl) ?_
                  exact ih_46 Hx6 ((vv : Nat) : Int) mo (vv + 1) (by omega) (by omega) (by exfalso; omega)
                · skip
                  refine j_iload hJ (q := 98) dX9_fast_96 1 rfl rfl ?_
                  refine j_goto hJ (q := 103) dX9_fast_98 (by decide) ?_
                  refine j_istore hJ (q := 105) (lvs' := [(5, .int (nI (tkn (nt a) (nt b) (va_up A 6 vv)))), (4, .int (nI vv)), (7, .int (nI (tkn (nt a) (nt b) (va_up A 6 vv)))), (0, .ref h), (1, .int (nI (nt a))), (2, .int (nI (nt b))), (3, .int (nI (nt c))), (6, .int (nI vv))]) dX9_fast_103 (by decide) rfl rfl ?_
                  refine j_iinc hJ (q := 108) (lvs' := [(6, .int (nI (vv + 1))), (5, .int (nI (tkn (nt a) (nt b) (va_up A 6 vv)))), (4, .int (nI vv)), (7, .int (nI (tkn (nt a) (nt b) (va_up A 6 vv)))), (0, .ref h), (1, .int (nI (nt a))), (2, .int (nI (nt b))), (3, .int (nI (nt c)))]) dX9_fast_105 7 rfl (by rw [show Int32.ofInt 1 = nI 1 from by decide +kernel]; exact nI_add _ _) (by decide) rfl rfl ?_
                  refine j_goto hJ (q := 46) dX9_fast_108 (by decide) ?_
                  refine j_locals hJ [4, 5, 6, 7, 2, 1, 0] rfl ?_
                  refine j_eql (lvs' := [(0, .ref h), (1, .int (nI (nt a))), (2, .int (nI (nt b))), (3, .int (nI (nt c))), (4, .int (zI ((vv : Nat) : Int))), (5, .int (zI ((tkn (nt a) (nt b) (va_up A 6 vv) : Nat) : Int))), (6, .int (nI (vv + 1)))]) (by simp only [zI_nat] <;> rfl) ?_
                  exact ih_46 Hx6 ((vv : Nat) : Int) ((tkn (nt a) (nt b) (va_up A 6 vv) : Nat) : Int) (vv + 1) (by omega) (by omega) (by rw [← hfv]; exact bst_go hbm (by omega))
        refine j_locals hJ [3, 4, 5, 6, 2, 1, 0] rfl ?_
        exact L_46 ((4 - 0) + 1) Hd (-1) (-1) 0 (Nat.lt_succ_self _) (by omega) rfl
      · skip
        refine j_aload_n hJ (q := 31) dX9_fast_30 rfl 0 rfl rfl ?_
        refine j_bipush hJ (q := 33) dX9_fast_31 rfl kb_m2 ?_
        refine j_vW hJ (q := 36) (rest := []) (As := [.int (zI (-2))]) (wr := [(q 0, ia Z 266 (ni A)), (q 4, ia Z 58 (ni Hd))]) jl_X9_73 (c_X9_bad Z h q ab be bl ta tl tk va Rf (-2) ) 0 rfl rfl dX9_fast_33 rfl (by decide) (Nat.le_of_ble_eq_true rfl) [0, 3] [1, 2] rfl rfl rfl rfl (by decide) rfl (fun rv wv hp => ?_)
        obtain ⟨rfl, rfl⟩ := hp
        refine j_world hJ (ws' := [mO h q ab be bl ta tl tk va, (q 0, ia Z 266 (ni A)), (q 4, ia Z 58 (ni Hd)), (q 3, ia Z 3 (ni (va_up Rf 0 (Rf 0 + 1))))]) [2, 0, 1, 3] rfl rfl ?_
        show J 36 [(0, .ref h), (1, .int a), (2, .int b), (3, .int c)] [.int (zI (-2))] [mO h q ab be bl ta tl tk va, (q 0, ia Z 266 (ni A)), (q 4, ia Z 58 (ni Hd)), (q 3, ia Z 3 (ni (va_up Rf 0 (Rf 0 + 1))))] 0 0
        have hP : ¬ (pFast A a b c) := by simp only [rgI, isS, isR, pNote, pMark, pFast, pLever, pHands, pSlip, pEven]; omega
        exact hE.1 _ _ _ _ _ _ _ rfl rfl dX9_fast_36 (Nat.le_refl _) (Nat.le_refl _) (⟨Hd, congrArg (fun z => some (Value.int (zI z))) (by simp only [z_fast, if_neg hP, bmp]), by simp only [z_fast, if_neg hP, bmp]⟩)

set_option maxHeartbeats 4000000 in
set_option maxRecDepth 100000 in
theorem c_X9_seat (Z : jZ) (h : Nat) (q : Nat → Nat) (ab : Int) (be : Int) (bl : Nat) (ta : Nat) (tl : Nat) (tk : Nat) (va : Nat) (A : Nat → Nat) (Hd : Nat → Nat) (Rf : Nat → Nat) (a : Int32) (b : Int32) (c : Int32) (hg : wg A) : CT Z yX9_seat cX9_seat 9 ((some FieldType.int)) 6 0 0 [.ref h, .int a, .int b, .int c] [mO h q ab be bl ta tl tk va, (q 0, ia Z 266 (ni A)), (q 4, ia Z 58 (ni Hd)), (q 3, ia Z 3 (ni Rf))] (fun rr ww => ∃ Hx : Nat → Nat, rr = some (.int (zI (z_seat A a b c))) ∧ ww = [mO h q ab be bl ta tl tk va, (q 0, ia Z 266 (ni A)), (q 4, ia Z 58 (ni Hx)), (q 3, ia Z 3 (ni (if pFast A a b c then Rf else bmp Rf 0)))]) := by
  refine CT.of RX9 false rfl (fun h => by cases h) (by decide +kernel) (Nat.le_of_ble_eq_true rfl) ?_
  intro J hJ hE
  show J 0 [(0, .ref h), (1, .int a), (2, .int b), (3, .int c)] [] [mO h q ab be bl ta tl tk va, (q 0, ia Z 266 (ni A)), (q 4, ia Z 58 (ni Hd)), (q 3, ia Z 3 (ni Rf))] 0 0
  obtain ⟨hw, ⟨g1, g2, g3, g4, g8⟩, hrs, hrn, hrm, hpst⟩ := id hg
  obtain ⟨⟨w1, w2, w3, w4, w5, w6⟩, wb, wr, wh, wd⟩ := id hw
  have hb := wb
  have hr_a := zI_rng a
  have hr_b := zI_rng b
  have hr_c := zI_rng c
  refine j_aload_n hJ (q := 1) dX9_seat_0 rfl 0 rfl rfl ?_
  refine j_iload_n hJ (q := 2) dX9_seat_1 rfl 1 rfl rfl ?_
  refine j_vR hJ (q := 5) (rest := []) (As := [.int a]) jl_X9_129 (c_X9_isRider Z h q ab be bl ta tl tk va A a (by omega)) 0 rfl rfl dX9_seat_2 rfl (by decide) (Nat.le_of_ble_eq_true rfl) [0, 1] rfl rfl (fun rv hp => ?_)
  obtain rfl := hp
  show J 5 [(0, .ref h), (1, .int a), (2, .int b), (3, .int c)] [.int (bI (decide (0 ≤ a.toInt ∧ a.toInt ≤ (A 0 : Int) - 1)))] [mO h q ab be bl ta tl tk va, (q 0, ia Z 266 (ni A)), (q 4, ia Z 58 (ni Hd)), (q 3, ia Z 3 (ni Rf))] 0 0
  refine jp_if_eq hJ (q := 8) (tgt := 30) dX9_seat_5 (by decide) rfl (fun c1 => ?_) (fun c1 => ?_)
  · skip
    refine j_aload_n hJ (q := 31) dX9_seat_30 rfl 0 rfl rfl ?_
    refine j_bipush hJ (q := 33) dX9_seat_31 rfl kb_m2 ?_
    refine j_vW hJ (q := 36) (rest := []) (As := [.int (zI (-2))]) (wr := [(q 0, ia Z 266 (ni A)), (q 4, ia Z 58 (ni Hd))]) jl_X9_73 (c_X9_bad Z h q ab be bl ta tl tk va Rf (-2) ) 0 rfl rfl dX9_seat_33 rfl (by decide) (Nat.le_of_ble_eq_true rfl) [0, 3] [1, 2] rfl rfl rfl rfl (by decide) rfl (fun rv wv hp => ?_)
    obtain ⟨rfl, rfl⟩ := hp
    refine j_world hJ (ws' := [mO h q ab be bl ta tl tk va, (q 0, ia Z 266 (ni A)), (q 4, ia Z 58 (ni Hd)), (q 3, ia Z 3 (ni (va_up Rf 0 (Rf 0 + 1))))]) [2, 0, 1, 3] rfl rfl ?_
    show J 36 [(0, .ref h), (1, .int a), (2, .int b), (3, .int c)] [.int (zI (-2))] [mO h q ab be bl ta tl tk va, (q 0, ia Z 266 (ni A)), (q 4, ia Z 58 (ni Hd)), (q 3, ia Z 3 (ni (va_up Rf 0 (Rf 0 + 1))))] 0 0
    have hP : ¬ (pFast A a b c) := by simp only [rgI, isS, isR, pNote, pMark, pFast, pLever, pHands, pSlip, pEven]; omega
    exact hE.1 _ _ _ _ _ _ _ rfl rfl dX9_seat_36 (Nat.le_refl _) (Nat.le_refl _) (⟨Hd, congrArg (fun z => some (Value.int (zI z))) (by simp only [z_seat, if_neg hP, bmp]), by simp only [z_seat, if_neg hP, bmp]⟩)
  · skip
    refine j_iload_n hJ (q := 9) dX9_seat_8 rfl 2 rfl rfl ?_
    refine j_i2l hJ (q := 10) dX9_seat_9 rfl (zL_i _ (zI_of b) (zI_rng b)) ?_
    refine j_lconst hJ (q := 11) (v := zL 1) dX9_seat_10 rfl rfl ?_
    refine j_ldc2 hJ (q := 14) (v' := zL 60) dX9_seat_11 tm_898 rfl rfl ?_
    refine j_sR hJ (q := 17) (rest := []) (As := [.long (zL b.toInt), .long (zL 1), .long (zL 60)]) jl_X9_53 (c_X9_in Z b.toInt 1 60 (by omega) (by omega) (by omega)) dX9_seat_14 rfl (by decide) (Nat.le_of_ble_eq_true rfl) [] rfl rfl (fun rv hp => ?_)
    obtain rfl := hp
    show J 17 [(0, .ref h), (1, .int a), (2, .int b), (3, .int c)] [.int (bI (decide (1 ≤ b.toInt ∧ b.toInt ≤ 60)))] [mO h q ab be bl ta tl tk va, (q 0, ia Z 266 (ni A)), (q 4, ia Z 58 (ni Hd)), (q 3, ia Z 3 (ni Rf))] 0 0
    refine jp_if_eq hJ (q := 20) (tgt := 30) dX9_seat_17 (by decide) rfl (fun c2 => ?_) (fun c2 => ?_)
    · skip
      refine j_aload_n hJ (q := 31) dX9_seat_30 rfl 0 rfl rfl ?_
      refine j_bipush hJ (q := 33) dX9_seat_31 rfl kb_m2 ?_
      refine j_vW hJ (q := 36) (rest := []) (As := [.int (zI (-2))]) (wr := [(q 0, ia Z 266 (ni A)), (q 4, ia Z 58 (ni Hd))]) jl_X9_73 (c_X9_bad Z h q ab be bl ta tl tk va Rf (-2) ) 0 rfl rfl dX9_seat_33 rfl (by decide) (Nat.le_of_ble_eq_true rfl) [0, 3] [1, 2] rfl rfl rfl rfl (by decide) rfl (fun rv wv hp => ?_)
      obtain ⟨rfl, rfl⟩ := hp
      refine j_world hJ (ws' := [mO h q ab be bl ta tl tk va, (q 0, ia Z 266 (ni A)), (q 4, ia Z 58 (ni Hd)), (q 3, ia Z 3 (ni (va_up Rf 0 (Rf 0 + 1))))]) [2, 0, 1, 3] rfl rfl ?_
      show J 36 [(0, .ref h), (1, .int a), (2, .int b), (3, .int c)] [.int (zI (-2))] [mO h q ab be bl ta tl tk va, (q 0, ia Z 266 (ni A)), (q 4, ia Z 58 (ni Hd)), (q 3, ia Z 3 (ni (va_up Rf 0 (Rf 0 + 1))))] 0 0
      have hP : ¬ (pFast A a b c) := by simp only [rgI, isS, isR, pNote, pMark, pFast, pLever, pHands, pSlip, pEven]; omega
      exact hE.1 _ _ _ _ _ _ _ rfl rfl dX9_seat_36 (Nat.le_refl _) (Nat.le_refl _) (⟨Hd, congrArg (fun z => some (Value.int (zI z))) (by simp only [z_seat, if_neg hP, bmp]), by simp only [z_seat, if_neg hP, bmp]⟩)
    · skip
      refine j_iload_n hJ (q := 21) dX9_seat_20 rfl 3 rfl rfl ?_
      refine j_i2l hJ (q := 22) dX9_seat_21 rfl (zL_i _ (zI_of c) (zI_rng c)) ?_
      refine j_lconst hJ (q := 23) (v := zL 0) dX9_seat_22 rfl rfl ?_
      refine j_lconst hJ (q := 24) (v := zL 1) dX9_seat_23 rfl rfl ?_
      refine j_sR hJ (q := 27) (rest := []) (As := [.long (zL c.toInt), .long (zL 0), .long (zL 1)]) jl_X9_53 (c_X9_in Z c.toInt 0 1 (by omega) (by omega) (by omega)) dX9_seat_24 rfl (by decide) (Nat.le_of_ble_eq_true rfl) [] rfl rfl (fun rv hp => ?_)
      obtain rfl := hp
      show J 27 [(0, .ref h), (1, .int a), (2, .int b), (3, .int c)] [.int (bI (decide (0 ≤ c.toInt ∧ c.toInt ≤ 1)))] [mO h q ab be bl ta tl tk va, (q 0, ia Z 266 (ni A)), (q 4, ia Z 58 (ni Hd)), (q 3, ia Z 3 (ni Rf))] 0 0
      refine jp_if_ne hJ (q := 30) (tgt := 37) dX9_seat_27 (by decide) rfl (fun c3 => ?_) (fun c3 => ?_)
      · skip
        have hn_a := nt_cast (x := a) (by omega)
        refine j_eql (lvs' := [(0, .ref h), (1, .int (nI (nt a))), (2, .int b), (3, .int c)]) (by rw [← nt_eq (x := a) (by omega)]) ?_
        have hn_b := nt_cast (x := b) (by omega)
        refine j_eql (lvs' := [(0, .ref h), (1, .int (nI (nt a))), (2, .int (nI (nt b))), (3, .int c)]) (by rw [← nt_eq (x := b) (by omega)]) ?_
        have hn_c := nt_cast (x := c) (by omega)
        refine j_eql (lvs' := [(0, .ref h), (1, .int (nI (nt a))), (2, .int (nI (nt b))), (3, .int (nI (nt c)))]) (by rw [← nt_eq (x := c) (by omega)]) ?_
        refine j_iconst hJ (q := 38) dX9_seat_37 rfl ki_m1 ?_
        refine j_istore hJ (q := 40) (lvs' := [(4, .int (zI (-1))), (0, .ref h), (1, .int (nI (nt a))), (2, .int (nI (nt b))), (3, .int (nI (nt c)))]) dX9_seat_38 (by decide) rfl rfl ?_
        refine j_iconst hJ (q := 41) dX9_seat_40 rfl ki_m1 ?_
        refine j_istore hJ (q := 43) (lvs' := [(5, .int (zI (-1))), (4, .int (zI (-1))), (0, .ref h), (1, .int (nI (nt a))), (2, .int (nI (nt b))), (3, .int (nI (nt c)))]) dX9_seat_41 (by decide) rfl rfl ?_
        refine j_iconst hJ (q := 44) dX9_seat_43 rfl ki_0 ?_
        refine j_istore hJ (q := 46) (lvs' := [(6, .int (nI 0)), (5, .int (zI (-1))), (4, .int (zI (-1))), (0, .ref h), (1, .int (nI (nt a))), (2, .int (nI (nt b))), (3, .int (nI (nt c)))]) dX9_seat_44 (by decide) rfl rfl ?_
        have L_46 : ∀ (fu_46 : Nat) (B : Nat → Nat) (bs : Int) (mo : Int) (vv : Nat), A 21 - vv < fu_46 → (vv ≤ A 21) → (bst (fSeat A (nt a) (nt b)) vv = (bs, mo)) → J 46 [(0, .ref h), (1, .int (nI (nt a))), (2, .int (nI (nt b))), (3, .int (nI (nt c))), (4, .int (zI bs)), (5, .int (zI mo)), (6, .int (nI vv))] [] [mO h q ab be bl ta tl tk va, (q 0, ia Z 266 (ni A)), (q 4, ia Z 58 (ni B)), (q 3, ia Z 3 (ni Rf))] 0 0 := by
          intro fu_46
          induction fu_46 with
          | zero => intro B bs mo vv hm; exact absurd hm (Nat.not_lt_zero _)
          | succ fu_46 ih_46 =>
            intro B bs mo vv hm_46 hv hbm
            have hbl2 := bst_le (f := fSeat A (nt a) (nt b)) (M := 60) (by decide) vv (fun u _ => by have := tkn_le (nt a) (nt b) (va_up A (15 + nt a) u); unfold fSeat; split <;> omega)
            rw [hbm] at hbl2
            have hbl3 := hbl2.1
            have hbl4 := hbl2.2.1
            have hbl5 := hbl2.2.2.1
            have hbl6 := hbl2.2.2.2
            dsimp only at hbl3 hbl4 hbl5 hbl6
            refine j_iload hJ (q := 48) dX9_seat_46 6 rfl rfl ?_
            refine j_aload_n hJ (q := 49) dX9_seat_48 rfl 0 rfl rfl ?_
            refine j_get hJ (q := 52) jf_X9_7 dX9_seat_49 0 rfl rfl rfl ?_
            refine j_bipush hJ (q := 54) dX9_seat_52 rfl kb_21 ?_
            refine j_ialdN hJ (q := 55) (z := nI (A 21)) dX9_seat_54 1 rfl (by decide) (by decide) rfl rfl ?_
            have b4 := hb 21
            refine jn_icmp_ge hJ (q := 58) (tgt := 142) dX9_seat_55 (by decide) rfl (by omega) (by omega) (fun c5 => ?_) (fun c5 => ?_)
            · skip
              refine j_iload_n hJ (q := 143) dX9_seat_142 rfl 3 rfl rfl ?_
              refine jn_if_ne hJ (q := 146) (tgt := 151) dX9_seat_143 (by decide) rfl (by omega) (fun c6 => ?_) (fun c6 => ?_)
              · skip
                refine j_iload hJ (q := 153) dX9_seat_151 5 rfl rfl ?_
                have hP : pFast A a b c := by simp only [rgI, isS, isR, pNote, pMark, pFast, pLever, pHands, pSlip, pEven]; omega
                have hQ0 : ¬ (nt c = 0) := by omega
                exact hE.1 _ _ _ _ _ _ _ rfl rfl dX9_seat_153 (Nat.le_refl _) (Nat.le_refl _) (⟨B, congrArg (fun z => some (Value.int (zI z))) (by simp only [z_seat, if_pos hP, if_neg hQ0]; rw [show A 21 = vv by omega, hbm]), by simp only [z_seat, if_pos hP, if_neg hQ0, bmp]⟩)
              · skip
                refine j_iload hJ (q := 148) dX9_seat_146 4 rfl rfl ?_
                refine j_goto hJ (q := 153) dX9_seat_148 (by decide) ?_
                have hP : pFast A a b c := by simp only [rgI, isS, isR, pNote, pMark, pFast, pLever, pHands, pSlip, pEven]; omega
                have hQ0 : nt c = 0 := by omega
                exact hE.1 _ _ _ _ _ _ _ rfl rfl dX9_seat_153 (Nat.le_refl _) (Nat.le_refl _) (⟨B, congrArg (fun z => some (Value.int (zI z))) (by simp only [z_seat, if_pos hP, if_pos hQ0]; rw [show A 21 = vv by omega, hbm]), by simp only [z_seat, if_pos hP, if_pos hQ0, bmp]⟩)
            · skip
              refine j_aload_n hJ (q := 59) dX9_seat_58 rfl 0 rfl rfl ?_
              refine j_get hJ (q := 62) jf_X9_7 dX9_seat_59 0 rfl rfl rfl ?_
              refine j_iload hJ (q := 64) dX9_seat_62 6 rfl rfl ?_
              refine j_sR hJ (q := 67) (rest := []) (As := [.ref (q 0), .int (nI vv)]) jl_X9_89 (c_X9_whoIs Z (q 0) 266 A vv (by omega) (by omega) (by omega) hb) dX9_seat_64 rfl (by decide) (Nat.le_of_ble_eq_true rfl) [1] rfl rfl (fun rv hp => ?_)
              obtain rfl := hp
              show J 67 [(0, .ref h), (1, .int (nI (nt a))), (2, .int (nI (nt b))), (3, .int (nI (nt c))), (4, .int (zI bs)), (5, .int (zI mo)), (6, .int (nI vv))] [.int (oI (who A vv))] [mO h q ab be bl ta tl tk va, (q 0, ia Z 266 (ni A)), (q 4, ia Z 58 (ni B)), (q 3, ia Z 3 (ni Rf))] 0 0
              refine j_caseo (fun o7 => ?_) (fun i8 o7 => ?_)
              · skip
                refine j_istore hJ (q := 69) (lvs' := [(7, .int (zI (-1))), (0, .ref h), (1, .int (nI (nt a))), (2, .int (nI (nt b))), (3, .int (nI (nt c))), (4, .int (zI bs)), (5, .int (zI mo)), (6, .int (nI vv))]) dX9_seat_67 (by decide) rfl rfl ?_
                refine j_iload hJ (q := 71) dX9_seat_69 0 rfl rfl ?_
                refine j_iconst hJ (q := 72) dX9_seat_71 rfl ki_m1 ?_
                refine jz_icmp_eq hJ (q := 75) (tgt := 81) dX9_seat_72 (by decide) rfl rfl rfl (by omega) (by omega) (fun c9 => ?_) (fun c9 => ?_)
                · skip
                  have hwn : who A vv = none ∨ who A vv = some (nt a) := by first | exact Or.inl (by assumption) | exact Or.inr (by simp_all)
                  refine j_aload_n hJ (q := 82) dX9_seat_81 rfl 1 rfl rfl ?_
                  refine j_vW hJ (q := 85) (rest := []) (As := []) (wr := [(q 3, ia Z 3 (ni Rf))]) jl_X9_139 (c_X9_layHand Z h q ab be bl ta tl tk va A B ) 0 rfl rfl dX9_seat_82 rfl (by decide) (Nat.le_of_ble_eq_true rfl) [0, 1, 2] [3] rfl rfl rfl rfl (by decide) rfl (fun rv wv hp => ?_)
                  obtain ⟨rfl, rfl⟩ := hp
                  refine j_world hJ (ws' := [mO h q ab be bl ta tl tk va, (q 0, ia Z 266 (ni A)), (q 4, ia Z 58 (ni A)), (q 3, ia Z 3 (ni Rf))]) [1, 2, 3, 0] rfl rfl ?_
                  show J 85 [(7, .int (zI (-1))), (0, .ref h), (1, .int (nI (nt a))), (2, .int (nI (nt b))), (3, .int (nI (nt c))), (4, .int (zI bs)), (5, .int (zI mo)), (6, .int (nI vv))] [] [mO h q ab be bl ta tl tk va, (q 0, ia Z 266 (ni A)), (q 4, ia Z 58 (ni A)), (q 3, ia Z 3 (ni Rf))] 0 0
                  refine j_aload_n hJ (q := 86) dX9_seat_85 rfl 1 rfl rfl ?_
                  refine j_get hJ (q := 89) jf_X9_27 dX9_seat_86 0 rfl rfl rfl ?_
                  refine j_bipush hJ (q := 91) dX9_seat_89 rfl kb_15 ?_
                  refine j_iload_n hJ (q := 92) dX9_seat_91 rfl 2 rfl rfl ?_
                  refine j_iadd hJ (q := 93) dX9_seat_92 rfl (nI_add _ _) ?_
                  refine j_iload hJ (q := 95) dX9_seat_93 7 rfl rfl ?_
                  refine j_iastN hJ (q := 96) (ws' := [mO h q ab be bl ta tl tk va, (q 0, ia Z 266 (ni A)), (q 4, ia Z 58 (ni (va_up A (15 + (nt a)) vv))), (q 3, ia Z 3 (ni Rf))]) dX9_seat_95 2 rfl (by omega) (by decide) (ni_up _ _ _) rfl rfl ?_
                  refine j_aload_n hJ (q := 97) dX9_seat_96 rfl 1 rfl rfl ?_
                  refine j_iload_n hJ (q := 98) dX9_seat_97 rfl 2 rfl rfl ?_
                  refine j_iload_n hJ (q := 99) dX9_seat_98 rfl 3 rfl rfl ?_
                  refine j_vW hJ (q := 102) (rest := []) (As := [.int (nI (nt a)), .int (nI (nt b))]) (wr := [(q 0, ia Z 266 (ni A)), (q 3, ia Z 3 (ni Rf))]) jl_X9_142 (c_X9_taken Z h q ab be bl ta tl tk va (va_up A (15 + (nt a)) vv) (nt a) (nt b) (wf_seat hw (by omega) (by omega) hwn) (by omega) (by omega) (by simp only [va_up]; rw [if_neg (by omega)]; omega)) 0 rfl rfl dX9_seat_99 rfl (by decide) (Nat.le_of_ble_eq_true rfl) [0, 2] [1, 3] rfl rfl rfl rfl (by decide) rfl (fun rv wv hp => ?_)
                  obtain ⟨Hx10, rfl, rfl⟩ := hp
                  refine j_world hJ (ws' := [mO h q ab be bl ta tl tk va, (q 0, ia Z 266 (ni A)), (q 4, ia Z 58 (ni Hx10)), (q 3, ia Z 3 (ni Rf))]) [2, 0, 3, 1] rfl rfl ?_
                  show J 102 [(7, .int (zI (-1))), (0, .ref h), (1, .int (nI (nt a))), (2, .int (nI (nt b))), (3, .int (nI (nt c))), (4, .int (zI bs)), (5, .int (zI mo)), (6, .int (nI vv))] [.int (nI (tkn (nt a) (nt b) (va_up A (15 + (nt a)) vv)))] [mO h q ab be bl ta tl tk va, (q 0, ia Z 266 (ni A)), (q 4, ia Z 58 (ni Hx10)), (q 3, ia Z 3 (ni Rf))] 0 0
                  refine j_istore hJ (q := 104) (lvs' := [(8, .int (nI (tkn (nt a) (nt b) (va_up A (15 + (nt a)) vv)))), (7, .int (zI (-1))), (0, .ref h), (1, .int (nI (nt a))), (2, .int (nI (nt b))), (3, .int (nI (nt c))), (4, .int (zI bs)), (5, .int (zI mo)), (6, .int (nI vv))]) dX9_seat_102 (by decide) rfl rfl ?_
                  have hfv : fSeat A (nt a) (nt b) vv = (tkn (nt a) (nt b) (va_up A (15 + nt a) vv) : Int) := if_pos hwn
                  have htl := tkn_le (nt a) (nt b) (va_up A (15 + nt a) vv)
                  refine j_iload hJ (q := 106) dX9_seat_104 0 rfl rfl ?_
                  refine j_iload hJ (q := 108) dX9_seat_106 7 rfl rfl ?_
                  refine jz_icmp_le hJ (q := 111) (tgt := 116) dX9_seat_108 (by decide) rfl (zI_nat (tkn (nt a) (nt b) (va_up A (15 + (nt a)) vv))).symm rfl (by omega) (by omega) (fun c11 => ?_) (fun c11 => ?_)
                  · skip
                    refine j_iload hJ (q := 118) dX9_seat_116 6 rfl rfl ?_
                    refine j_istore hJ (q := 120) (lvs' := [(4, .int (zI bs)), (8, .int (nI (tkn (nt a) (nt b) (va_up A (15 + (nt a)) vv)))), (7, .int (zI (-1))), (0, .ref h), (1, .int (nI (nt a))), (2, .int (nI (nt b))), (3, .int (nI (nt c))), (5, .int (zI mo)), (6, .int (nI vv))]) dX9_seat_118 (by decide) rfl rfl ?_
                    refine j_iload hJ (q := 122) dX9_seat_120 1 rfl rfl ?_
                    refine j_iload hJ (q := 124) dX9_seat_122 7 rfl rfl ?_
                    refine jz_icmp_le hJ (q := 127) (tgt := 132) dX9_seat_124 (by decide) rfl (zI_nat (tkn (nt a) (nt b) (va_up A (15 + (nt a)) vv))).symm rfl (by omega) (by omega) (fun c12 => ?_) (fun c12 => ?_)
                    · skip
                      refine j_iload hJ (q := 134) dX9_seat_132 7 rfl rfl ?_
                      refine j_istore hJ (q := 136) (lvs' := [(5, .int (zI mo)), (4, .int (zI bs)), (8, .int (nI (tkn (nt a) (nt b) (va_up A (15 + (nt a)) vv)))), (7, .int (zI (-1))), (0, .ref h), (1, .int (nI (nt a))), (2, .int (nI (nt b))), (3, .int (nI (nt c))), (6, .int (nI vv))]) dX9_seat_134 (by decide) rfl rfl ?_
                      refine j_iinc hJ (q := 139) (lvs' := [(6, .int (nI (vv + 1))), (5, .int (zI mo)), (4, .int (zI bs)), (8, .int (nI (tkn (nt a) (nt b) (va_up A (15 + (nt a)) vv)))), (7, .int (zI (-1))), (0, .ref h), (1, .int (nI (nt a))), (2, .int (nI (nt b))), (3, .int (nI (nt c)))]) dX9_seat_136 8 rfl (by rw [show Int32.ofInt 1 = nI 1 from by decide +kernel]; exact nI_add _ _) (by decide) rfl rfl ?_
                      refine j_goto hJ (q := 46) dX9_seat_139 (by decide) ?_
                      refine j_locals hJ [5, 6, 7, 8, 2, 1, 0] rfl ?_
                      exact ih_46 Hx10 bs mo (vv + 1) (by omega) (by omega) (bst_no hbm (by omega))
                    · skip
                      refine j_iload hJ (q := 129) dX9_seat_127 1 rfl rfl ?_
                      refine j_goto hJ (q := 134) dX9_seat_129 (by decide) ?_
                      refine j_istore hJ (q := 136) (lvs' := [(5, .int (nI (tkn (nt a) (nt b) (va_up A (15 + (nt a)) vv)))), (4, .int (zI bs)), (8, .int (nI (tkn (nt a) (nt b) (va_up A (15 + (nt a)) vv)))), (7, .int (zI (-1))), (0, .ref h), (1, .int (nI (nt a))), (2, .int (nI (nt b))), (3, .int (nI (nt c))), (6, .int (nI vv))]) dX9_seat_134 (by decide) rfl rfl ?_
                      refine j_iinc hJ (q := 139) (lvs' := [(6, .int (nI (vv + 1))), (5, .int (nI (tkn (nt a) (nt b) (va_up A (15 + (nt a)) vv)))), (4, .int (zI bs)), (8, .int (nI (tkn (nt a) (nt b) (va_up A (15 + (nt a)) vv)))), (7, .int (zI (-1))), (0, .ref h), (1, .int (nI (nt a))), (2, .int (nI (nt b))), (3, .int (nI (nt c)))]) dX9_seat_136 8 rfl (by rw [show Int32.ofInt 1 = nI 1 from by decide +kernel]; exact nI_add _ _) (by decide) rfl rfl ?_
                      refine j_goto hJ (q := 46) dX9_seat_139 (by decide) ?_
                      refine j_locals hJ [5, 6, 7, 8, 2, 1, 0] rfl ?_
                      refine j_eql (lvs' := [(0, .ref h), (1, .int (nI (nt a))), (2, .int (nI (nt b))), (3, .int (nI (nt c))), (4, .int (zI bs)), (5, .int (zI ((tkn (nt a) (nt b) (va_up A (15 + (nt a)) vv) : Nat) : Int))), (6, .int (nI (vv + 1)))]) (by simp only [zI_nat] <;> rfl) ?_
                      exact ih_46 Hx10 bs ((tkn (nt a) (nt b) (va_up A (15 + (nt a)) vv) : Nat) : Int) (vv + 1) (by omega) (by omega) (by exfalso; omega)
                  · skip
                    refine j_iload hJ (q := 113) dX9_seat_111 8 rfl rfl ?_
                    refine j_goto hJ (q := 118) dX9_seat_113 (by decide) ?_
                    refine j_istore hJ (q := 120) (lvs' := [(4, .int (nI vv)), (8, .int (nI (tkn (nt a) (nt b) (va_up A (15 + (nt a)) vv)))), (7, .int (zI (-1))), (0, .ref h), (1, .int (nI (nt a))), (2, .int (nI (nt b))), (3, .int (nI (nt c))), (5, .int (zI mo)), (6, .int (nI vv))]) dX9_seat_118 (by decide) rfl rfl ?_
                    refine j_iload hJ (q := 122) dX9_seat_120 1 rfl rfl ?_
                    refine j_iload hJ (q := 124) dX9_seat_122 7 rfl rfl ?_
                    refine jz_icmp_le hJ (q := 127) (tgt := 132) dX9_seat_124 (by decide) rfl (zI_nat (tkn (nt a) (nt b) (va_up A (15 + (nt a)) vv))).symm rfl (by omega) (by omega) (fun c13 => ?_) (fun c13 => ?_)
                    · skip
                      refine j_iload hJ (q := 134) dX9_seat_132 7 rfl rfl ?_
                      refine j_istore hJ (q := 136) (lvs' := [(5, .int (zI mo)), (4, .int (nI vv)), (8, .int (nI (tkn (nt a) (nt b) (va_up A (15 + (nt a)) vv)))), (7, .int (zI (-1))), (0, .ref h), (1, .int (nI (nt a))), (2, .int (nI (nt b))), (3, .int (nI (nt c))), (6, .int (nI vv))]) dX9_seat_134 (by decide) rfl rfl ?_
                      refine j_iinc hJ (q := 139) (lvs' := [(6, .int (nI (vv + 1))), (5, .int (zI mo)), (4, .int (nI vv)), (8, .int (nI (tkn (nt a) (nt b) (va_up A (15 + (nt a)) vv)))), (7, .int (zI (-1))), (0, .ref h), (1, .int (nI (nt a))), (2, .int (nI (nt b))), (3, .int (nI (nt c)))]) dX9_seat_136 8 rfl (by rw [show Int32.ofInt 1 = nI 1 from by decide +kernel]; exact nI_add _ _) (by decide) rfl rfl ?_
                      refine j_goto hJ (q := 46) dX9_seat_139 (by decide) ?_
                      refine j_locals hJ [5, 6, 7, 8, 2, 1, 0] rfl ?_
                      refine j_eql (lvs' := [(0, .ref h), (1, .int (nI (nt a))), (2, .int (nI (nt b))), (3, .int (nI (nt c))), (4, .int (zI ((vv : Nat) : Int))), (5, .int (zI mo)), (6, .int (nI (vv + 1)))]) (by simp only [zI_nat] <;> rfl) ?_
                      exact ih_46 Hx10 ((vv : Nat) : Int) mo (vv + 1) (by omega) (by omega) (by exfalso; omega)
                    · skip
                      refine j_iload hJ (q := 129) dX9_seat_127 1 rfl rfl ?_
                      refine j_goto hJ (q := 134) dX9_seat_129 (by decide) ?_
                      refine j_istore hJ (q := 136) (lvs' := [(5, .int (nI (tkn (nt a) (nt b) (va_up A (15 + (nt a)) vv)))), (4, .int (nI vv)), (8, .int (nI (tkn (nt a) (nt b) (va_up A (15 + (nt a)) vv)))), (7, .int (zI (-1))), (0, .ref h), (1, .int (nI (nt a))), (2, .int (nI (nt b))), (3, .int (nI (nt c))), (6, .int (nI vv))]) dX9_seat_134 (by decide) rfl rfl ?_
                      refine j_iinc hJ (q := 139) (lvs' := [(6, .int (nI (vv + 1))), (5, .int (nI (tkn (nt a) (nt b) (va_up A (15 + (nt a)) vv)))), (4, .int (nI vv)), (8, .int (nI (tkn (nt a) (nt b) (va_up A (15 + (nt a)) vv)))), (7, .int (zI (-1))), (0, .ref h), (1, .int (nI (nt a))), (2, .int (nI (nt b))), (3, .int (nI (nt c)))]) dX9_seat_136 8 rfl (by rw [show Int32.ofInt 1 = nI 1 from by decide +kernel]; exact nI_add _ _) (by decide) rfl rfl ?_
                      refine j_goto hJ (q := 46) dX9_seat_139 (by decide) ?_
                      refine j_locals hJ [5, 6, 7, 8, 2, 1, 0] rfl ?_
                      refine j_eql (lvs' := [(0, .ref h), (1, .int (nI (nt a))), (2, .int (nI (nt b))), (3, .int (nI (nt c))), (4, .int (zI ((vv : Nat) : Int))), (5, .int (zI ((tkn (nt a) (nt b) (va_up A (15 + (nt a)) vv) : Nat) : Int))), (6, .int (nI (vv + 1)))]) (by simp only [zI_nat] <;> rfl) ?_
                      exact ih_46 Hx10 ((vv : Nat) : Int) ((tkn (nt a) (nt b) (va_up A (15 + (nt a)) vv) : Nat) : Int) (vv + 1) (by omega) (by omega) (by rw [← hfv]; exact bst_go hbm (by omega))
                · skip
                  exfalso; omega
              · skip
                have hwi := who_some o7
                refine j_istore hJ (q := 69) (lvs' := [(7, .int (nI i8)), (0, .ref h), (1, .int (nI (nt a))), (2, .int (nI (nt b))), (3, .int (nI (nt c))), (4, .int (zI bs)), (5, .int (zI mo)), (6, .int (nI vv))]) dX9_seat_67 (by decide) rfl rfl ?_
                refine j_iload hJ (q := 71) dX9_seat_69 0 rfl rfl ?_
                refine j_iconst hJ (q := 72) dX9_seat_71 rfl ki_m1 ?_
                refine jz_icmp_eq hJ (q := 75) (tgt := 81) dX9_seat_72 (by decide) rfl (zI_nat i8).symm rfl (by omega) (by omega) (fun c14 => ?_) (fun c14 => ?_)
                · skip
                  exfalso; omega
                · skip
                  refine j_iload hJ (q := 77) dX9_seat_75 0 rfl rfl ?_
                  refine j_iload_n hJ (q := 78) dX9_seat_77 rfl 2 rfl rfl ?_
                  refine jn_icmp_ne hJ (q := 81) (tgt := 136) dX9_seat_78 (by decide) rfl (by omega) (by omega) (fun c15 => ?_) (fun c15 => ?_)
                  · skip
                    refine j_iinc hJ (q := 139) (lvs' := [(6, .int (nI (vv + 1))), (7, .int (nI i8)), (0, .ref h), (1, .int (nI (nt a))), (2, .int (nI (nt b))), (3, .int (nI (nt c))), (4, .int (zI bs)), (5, .int (zI mo))]) dX9_seat_136 7 rfl (by rw [show Int32.ofInt 1 = nI 1 from by decide +kernel]; exact nI_add _ _) (by decide) rfl rfl ?_
                    refine j_goto hJ (q := 46) dX9_seat_139 (by decide) ?_
                    refine j_locals hJ [2, 3, 4, 5, 6, 7, 0] rfl ?_
                    exact ih_46 B bs mo (vv + 1) (by omega) (by omega) (bst_no hbm (by have hf : fSeat A (nt a) (nt b) vv = -1 := if_neg (by simp_all); omega))
                  · skip
                    have hwn : who A vv = none ∨ who A vv = some (nt a) := by first | exact Or.inl (by assumption) | exact Or.inr (by simp_all)
                    refine j_aload_n hJ (q := 82) dX9_seat_81 rfl 1 rfl rfl ?_
                    refine j_vW hJ (q := 85) (rest := []) (As := []) (wr := [(q 3, ia Z 3 (ni Rf))]) jl_X9_139 (c_X9_layHand Z h q ab be bl ta tl tk va A B ) 0 rfl rfl dX9_seat_82 rfl (by decide) (Nat.le_of_ble_eq_true rfl) [0, 1, 2] [3] rfl rfl rfl rfl (by decide) rfl (fun rv wv hp => ?_)
                    obtain ⟨rfl, rfl⟩ := hp
                    refine j_world hJ (ws' := [mO h q ab be bl ta tl tk va, (q 0, ia Z 266 (ni A)), (q 4, ia Z 58 (ni A)), (q 3, ia Z 3 (ni Rf))]) [1, 2, 3, 0] rfl rfl ?_
                    show J 85 [(7, .int (nI i8)), (0, .ref h), (1, .int (nI (nt a))), (2, .int (nI (nt b))), (3, .int (nI (nt c))), (4, .int (zI bs)), (5, .int (zI mo)), (6, .int (nI vv))] [] [mO h q ab be bl ta tl tk va, (q 0, ia Z 266 (ni A)), (q 4, ia Z 58 (ni A)), (q 3, ia Z 3 (ni Rf))] 0 0
                    refine j_aload_n hJ (q := 86) dX9_seat_85 rfl 1 rfl rfl ?_
                    refine j_get hJ (q := 89) jf_X9_27 dX9_seat_86 0 rfl rfl rfl ?_
                    refine j_bipush hJ (q := 91) dX9_seat_89 rfl kb_15 ?_
                    refine j_iload_n hJ (q := 92) dX9_seat_91 rfl 2 rfl rfl ?_
                    refine j_iadd hJ (q := 93) dX9_seat_92 rfl (nI_add _ _) ?_
                    refine j_iload hJ (q := 95) dX9_seat_93 7 rfl rfl ?_
                    refine j_iastN hJ (q := 96) (ws' := [mO h q ab be bl ta tl tk va, (q 0, ia Z 266 (ni A)), (q 4, ia Z 58 (ni (va_up A (15 + (nt a)) vv))), (q 3, ia Z 3 (ni Rf))]) dX9_seat_95 2 rfl (by omega) (by decide) (ni_up _ _ _) rfl rfl ?_
                    refine j_aload_n hJ (q := 97) dX9_seat_96 rfl 1 rfl rfl ?_
                    refine j_iload_n hJ (q := 98) dX9_seat_97 rfl 2 rfl rfl ?_
                    refine j_iload_n hJ (q := 99) dX9_seat_98 rfl 3 rfl rfl ?_
                    refine j_vW hJ (q := 102) (rest := []) (As := [.int (nI (nt a)), .int (nI (nt b))]) (wr := [(q 0, ia Z 266 (ni A)), (q 3, ia Z 3 (ni Rf))]) jl_X9_142 (c_X9_taken Z h q ab be bl ta tl tk va (va_up A (15 + (nt a)) vv) (nt a) (nt b) (wf_seat hw (by omega) (by omega) hwn) (by omega) (by omega) (by simp only [va_up]; rw [if_neg (by omega)]; omega)) 0 rfl rfl dX9_seat_99 rfl (by decide) (Nat.le_of_ble_eq_true rfl) [0, 2] [1, 3] rfl rfl rfl rfl (by decide) rfl (fun rv wv hp => ?_)
                    obtain ⟨Hx16, rfl, rfl⟩ := hp
                    refine j_world hJ (ws' := [mO h q ab be bl ta tl tk va, (q 0, ia Z 266 (ni A)), (q 4, ia Z 58 (ni Hx16)), (q 3, ia Z 3 (ni Rf))]) [2, 0, 3, 1] rfl rfl ?_
                    show J 102 [(7, .int (nI i8)), (0, .ref h), (1, .int (nI (nt a))), (2, .int (nI (nt b))), (3, .int (nI (nt c))), (4, .int (zI bs)), (5, .int (zI mo)), (6, .int (nI vv))] [.int (nI (tkn (nt a) (nt b) (va_up A (15 + (nt a)) vv)))] [mO h q ab be bl ta tl tk va, (q 0, ia Z 266 (ni A)), (q 4, ia Z 58 (ni Hx16)), (q 3, ia Z 3 (ni Rf))] 0 0
                    refine j_istore hJ (q := 104) (lvs' := [(8, .int (nI (tkn (nt a) (nt b) (va_up A (15 + (nt a)) vv)))), (7, .int (nI i8)), (0, .ref h), (1, .int (nI (nt a))), (2, .int (nI (nt b))), (3, .int (nI (nt c))), (4, .int (zI bs)), (5, .int (zI mo)), (6, .int (nI vv))]) dX9_seat_102 (by decide) rfl rfl ?_
                    have hfv : fSeat A (nt a) (nt b) vv = (tkn (nt a) (nt b) (va_up A (15 + nt a) vv) : Int) := if_pos hwn
                    have htl := tkn_le (nt a) (nt b) (va_up A (15 + nt a) vv)
                    refine j_iload hJ (q := 106) dX9_seat_104 0 rfl rfl ?_
                    refine j_iload hJ (q := 108) dX9_seat_106 7 rfl rfl ?_
                    refine jz_icmp_le hJ (q := 111) (tgt := 116) dX9_seat_108 (by decide) rfl (zI_nat (tkn (nt a) (nt b) (va_up A (15 + (nt a)) vv))).symm rfl (by omega) (by omega) (fun c17 => ?_) (fun c17 => ?_)
                    · skip
                      refine j_iload hJ (q := 118) dX9_seat_116 6 rfl rfl ?_
                      refine j_istore hJ (q := 120) (lvs' := [(4, .int (zI bs)), (8, .int (nI (tkn (nt a) (nt b) (va_up A (15 + (nt a)) vv)))), (7, .int (nI i8)), (0, .ref h), (1, .int (nI (nt a))), (2, .int (nI (nt b))), (3, .int (nI (nt c))), (5, .int (zI mo)), (6, .int (nI vv))]) dX9_seat_118 (by decide) rfl rfl ?_
                      refine j_iload hJ (q := 122) dX9_seat_120 1 rfl rfl ?_
                      refine j_iload hJ (q := 124) dX9_seat_122 7 rfl rfl ?_
                      refine jz_icmp_le hJ (q := 127) (tgt := 132) dX9_seat_124 (by decide) rfl (zI_nat (tkn (nt a) (nt b) (va_up A (15 + (nt a)) vv))).symm rfl (by omega) (by omega) (fun c18 => ?_) (fun c18 => ?_)
                      · skip
                        refine j_iload hJ (q := 134) dX9_seat_132 7 rfl rfl ?_
                        refine j_istore hJ (q := 136) (lvs' := [(5, .int (zI mo)), (4, .int (zI bs)), (8, .int (nI (tkn (nt a) (nt b) (va_up A (15 + (nt a)) vv)))), (7, .int (nI i8)), (0, .ref h), (1, .int (nI (nt a))), (2, .int (nI (nt b))), (3, .int (nI (nt c))), (6, .int (nI vv))]) dX9_seat_134 (by decide) rfl rfl ?_
                        refine j_iinc hJ (q := 139) (lvs' := [(6, .int (nI (vv + 1))), (5, .int (zI mo)), (4, .int (zI bs)), (8, .int (nI (tkn (nt a) (nt b) (va_up A (15 + (nt a)) vv)))), (7, .int (nI i8)), (0, .ref h), (1, .int (nI (nt a))), (2, .int (nI (nt b))), (3, .int (nI (nt c)))]) dX9_seat_136 8 rfl (by rw [show Int32.ofInt 1 = nI 1 from by decide +kernel]; exact nI_add _ _) (by decide) rfl rfl ?_
                        refine j_goto hJ (q := 46) dX9_seat_139 (by decide) ?_
                        refine j_locals hJ [5, 6, 7, 8, 2, 1, 0] rfl ?_
                        exact ih_46 Hx16 bs mo (vv + 1) (by omega) (by omega) (bst_no hbm (by omega))
                      · skip
                        refine j_iload hJ (q := 129) dX9_seat_127 1 rfl rfl ?_
                        refine j_goto hJ (q := 134) dX9_seat_129 (by decide) ?_
                        refine j_istore hJ (q := 136) (lvs' := [(5, .int (nI (tkn (nt a) (nt b) (va_up A (15 + (nt a)) vv)))), (4, .int (zI bs)), (8, .int (nI (tkn (nt a) (nt b) (va_up A (15 + (nt a)) vv)))), (7, .int (nI i8)), (0, .ref h), (1, .int (nI (nt a))), (2, .int (nI (nt b))), (3, .int (nI (nt c))), (6, .int (nI vv))]) dX9_seat_134 (by decide) rfl rfl ?_
                        refine j_iinc hJ (q := 139) (lvs' := [(6, .int (nI (vv + 1))), (5, .int (nI (tkn (nt a) (nt b) (va_up A (15 + (nt a)) vv)))), (4, .int (zI bs)), (8, .int (nI (tkn (nt a) (nt b) (va_up A (15 + (nt a)) vv)))), (7, .int (nI i8)), (0, .ref h), (1, .int (nI (nt a))), (2, .int (nI (nt b))), (3, .int (nI (nt c)))]) dX9_seat_136 8 rfl (by rw [show Int32.ofInt 1 = nI 1 from by decide +kernel]; exact nI_add _ _) (by decide) rfl rfl ?_
                        refine j_goto hJ (q := 46) dX9_seat_139 (by decide) ?_
                        refine j_locals hJ [5, 6, 7, 8, 2, 1, 0] rfl ?_
                        refine j_eql (lvs' := [(0, .ref h), (1, .int (nI (nt a))), (2, .int (nI (nt b))), (3, .int (nI (nt c))), (4, .int (zI bs)), (5, .int (zI ((tkn (nt a) (nt b) (va_up A (15 + (nt a)) vv) : Nat) : Int))), (6, .int (nI (vv + 1)))]) (by simp only [zI_nat] <;> rfl) ?_
                        exact ih_46 Hx16 bs ((tkn (nt a) (nt b) (va_up A (15 + (nt a)) vv) : Nat) : Int) (vv + 1) (by omega) (by omega) (by exfalso; omega)
                    · skip
                      refine j_iload hJ (q := 113) dX9_seat_111 8 rfl rfl ?_
                      refine j_goto hJ (q := 118) dX9_seat_113 (by decide) ?_
                      refine j_istore hJ (q := 120) (lvs' := [(4, .int (nI vv)), (8, .int (nI (tkn (nt a) (nt b) (va_up A (15 + (nt a)) vv)))), (7, .int (nI i8)), (0, .ref h), (1, .int (nI (nt a))), (2, .int (nI (nt b))), (3, .int (nI (nt c))), (5, .int (zI mo)), (6, .int (nI vv))]) dX9_seat_118 (by decide) rfl rfl ?_
                      refine j_iload hJ (q := 122) dX9_seat_120 1 rfl rfl ?_
                      refine j_iload hJ (q := 124) dX9_seat_122 7 rfl rfl ?_
                      refine jz_icmp_le hJ (q := 127) (tgt := 132) dX9_seat_124 (by decide) rfl (zI_nat (tkn (nt a) (nt b) (va_up A (15 + (nt a)) vv))).symm rfl (by omega) (by omega) (fun c19 => ?_) (fun c19 => ?_)
                      · skip
                        refine j_iload hJ (q := 134) dX9_seat_132 7 rfl rfl ?_
                        refine j_istore hJ (q := 136) (lvs' := [(5, .int (zI mo)), (4, .int (nI vv)), (8, .int (nI (tkn (nt a) (nt b) (va_up A (15 + (nt a)) vv)))), (7, .int (nI i8)), (0, .ref h), (1, .int (nI (nt a))), (2, .int (nI (nt b))), (3, .int (nI (nt c))), (6, .int (nI vv))]) dX9_seat_134 (by decide) rfl rfl ?_
                        refine j_iinc hJ (q := 139) (lvs' := [(6, .int (nI (vv + 1))), (5, .int (zI mo)), (4, .int (nI vv)), (8, .int (nI (tkn (nt a) (nt b) (va_up A (15 + (nt a)) vv)))), (7, .int (nI i8)), (0, .ref h), (1, .int (nI (nt a))), (2, .int (nI (nt b))), (3, .int (nI (nt c)))]) dX9_seat_136 8 rfl (by rw [show Int32.ofInt 1 = nI 1 from by decide +kernel]; exact nI_add _ _) (by decide) rfl rfl ?_
                        refine j_goto hJ (q := 46) dX9_seat_139 (by decide) ?_
                        refine j_locals hJ [5, 6, 7, 8, 2, 1, 0] rfl ?_
                        refine j_eql (lvs' := [(0, .ref h), (1, .int (nI (nt a))), (2, .int (nI (nt b))), (3, .int (nI (nt c))), (4, .int (zI ((vv : Nat) : Int))), (5, .int (zI mo)), (6, .int (nI (vv + 1)))]) (by simp only [zI_nat] <;> rfl) ?_
                        exact ih_46 Hx16 ((vv : Nat) : Int) mo (vv + 1) (by omega) (by omega) (by exfalso; omega)
                      · skip
                        refine j_iload hJ (q := 129) dX9_seat_127 1 rfl rfl ?_
                        refine j_goto hJ (q := 134) dX9_seat_129 (by decide) ?_
                        refine j_istore hJ (q := 136) (lvs' := [(5, .int (nI (tkn (nt a) (nt b) (va_up A (15 + (nt a)) vv)))), (4, .int (nI vv)), (8, .int (nI (tkn (nt a) (nt b) (va_up A (15 + (nt a)) vv)))), (7, .int (nI i8)), (0, .ref h), (1, .int (nI (nt a))), (2, .int (nI (nt b))), (3, .int (nI (nt c))), (6, .int (nI vv))]) dX9_seat_134 (by decide) rfl rfl ?_
                        refine j_iinc hJ (q := 139) (lvs' := [(6, .int (nI (vv + 1))), (5, .int (nI (tkn (nt a) (nt b) (va_up A (15 + (nt a)) vv)))), (4, .int (nI vv)), (8, .int (nI (tkn (nt a) (nt b) (va_up A (15 + (nt a)) vv)))), (7, .int (nI i8)), (0, .ref h), (1, .int (nI (nt a))), (2, .int (nI (nt b))), (3, .int (nI (nt c)))]) dX9_seat_136 8 rfl (by rw [show Int32.ofInt 1 = nI 1 from by decide +kernel]; exact nI_add _ _) (by decide) rfl rfl ?_
                        refine j_goto hJ (q := 46) dX9_seat_139 (by decide) ?_
                        refine j_locals hJ [5, 6, 7, 8, 2, 1, 0] rfl ?_
                        refine j_eql (lvs' := [(0, .ref h), (1, .int (nI (nt a))), (2, .int (nI (nt b))), (3, .int (nI (nt c))), (4, .int (zI ((vv : Nat) : Int))), (5, .int (zI ((tkn (nt a) (nt b) (va_up A (15 + (nt a)) vv) : Nat) : Int))), (6, .int (nI (vv + 1)))]) (by simp only [zI_nat] <;> rfl) ?_
                        exact ih_46 Hx16 ((vv : Nat) : Int) ((tkn (nt a) (nt b) (va_up A (15 + (nt a)) vv) : Nat) : Int) (vv + 1) (by omega) (by omega) (by rw [← hfv]; exact bst_go hbm (by omega))
        refine j_locals hJ [3, 4, 5, 6, 2, 1, 0] rfl ?_
        exact L_46 ((A 21 - 0) + 1) Hd (-1) (-1) 0 (Nat.lt_succ_self _) (by omega) rfl
      · skip
        refine j_aload_n hJ (q := 31) dX9_seat_30 rfl 0 rfl rfl ?_
        refine j_bipush hJ (q := 33) dX9_seat_31 rfl kb_m2 ?_
        refine j_vW hJ (q := 36) (rest := []) (As := [.int (zI (-2))]) (wr := [(q 0, ia Z 266 (ni A)), (q 4, ia Z 58 (ni Hd))]) jl_X9_73 (c_X9_bad Z h q ab be bl ta tl tk va Rf (-2) ) 0 rfl rfl dX9_seat_33 rfl (by decide) (Nat.le_of_ble_eq_true rfl) [0, 3] [1, 2] rfl rfl rfl rfl (by decide) rfl (fun rv wv hp => ?_)
        obtain ⟨rfl, rfl⟩ := hp
        refine j_world hJ (ws' := [mO h q ab be bl ta tl tk va, (q 0, ia Z 266 (ni A)), (q 4, ia Z 58 (ni Hd)), (q 3, ia Z 3 (ni (va_up Rf 0 (Rf 0 + 1))))]) [2, 0, 1, 3] rfl rfl ?_
        show J 36 [(0, .ref h), (1, .int a), (2, .int b), (3, .int c)] [.int (zI (-2))] [mO h q ab be bl ta tl tk va, (q 0, ia Z 266 (ni A)), (q 4, ia Z 58 (ni Hd)), (q 3, ia Z 3 (ni (va_up Rf 0 (Rf 0 + 1))))] 0 0
        have hP : ¬ (pFast A a b c) := by simp only [rgI, isS, isR, pNote, pMark, pFast, pLever, pHands, pSlip, pEven]; omega
        exact hE.1 _ _ _ _ _ _ _ rfl rfl dX9_seat_36 (Nat.le_refl _) (Nat.le_refl _) (⟨Hd, congrArg (fun z => some (Value.int (zI z))) (by simp only [z_seat, if_neg hP, bmp]), by simp only [z_seat, if_neg hP, bmp]⟩)

set_option maxHeartbeats 4000000 in
set_option maxRecDepth 100000 in
theorem c_X9_lever (Z : jZ) (h : Nat) (q : Nat → Nat) (ab : Int) (be : Int) (bl : Nat) (ta : Nat) (tl : Nat) (tk : Nat) (va : Nat) (A : Nat → Nat) (Hd : Nat → Nat) (Rf : Nat → Nat) (a : Int32) (b : Int32) (c : Int32) (hg : wg A) : CT Z yX9_lever cX9_lever 8 ((some FieldType.int)) 6 0 0 [.ref h, .int a, .int b, .int c] [mO h q ab be bl ta tl tk va, (q 0, ia Z 266 (ni A)), (q 4, ia Z 58 (ni Hd)), (q 3, ia Z 3 (ni Rf))] (fun rr ww => ∃ Hx : Nat → Nat, rr = some (.int (zI (z_lever A a b c))) ∧ ww = [mO h q ab be bl ta tl tk va, (q 0, ia Z 266 (ni A)), (q 4, ia Z 58 (ni Hx)), (q 3, ia Z 3 (ni (if pLever A a b c then Rf else bmp Rf 0)))]) := by
  refine CT.of RX9 false rfl (fun h => by cases h) (by decide +kernel) (Nat.le_of_ble_eq_true rfl) ?_
  intro J hJ hE
  show J 0 [(0, .ref h), (1, .int a), (2, .int b), (3, .int c)] [] [mO h q ab be bl ta tl tk va, (q 0, ia Z 266 (ni A)), (q 4, ia Z 58 (ni Hd)), (q 3, ia Z 3 (ni Rf))] 0 0
  obtain ⟨hw, ⟨g1, g2, g3, g4, g8⟩, hrs, hrn, hrm, hpst⟩ := id hg
  obtain ⟨⟨w1, w2, w3, w4, w5, w6⟩, wb, wr, wh, wd⟩ := id hw
  have hb := wb
  have hr_a := zI_rng a
  have hr_b := zI_rng b
  have hr_c := zI_rng c
  refine j_aload_n hJ (q := 1) dX9_lever_0 rfl 0 rfl rfl ?_
  refine j_iload_n hJ (q := 2) dX9_lever_1 rfl 1 rfl rfl ?_
  refine j_vR hJ (q := 5) (rest := []) (As := [.int a]) jl_X9_129 (c_X9_isRider Z h q ab be bl ta tl tk va A a (by omega)) 0 rfl rfl dX9_lever_2 rfl (by decide) (Nat.le_of_ble_eq_true rfl) [0, 1] rfl rfl (fun rv hp => ?_)
  obtain rfl := hp
  show J 5 [(0, .ref h), (1, .int a), (2, .int b), (3, .int c)] [.int (bI (decide (0 ≤ a.toInt ∧ a.toInt ≤ (A 0 : Int) - 1)))] [mO h q ab be bl ta tl tk va, (q 0, ia Z 266 (ni A)), (q 4, ia Z 58 (ni Hd)), (q 3, ia Z 3 (ni Rf))] 0 0
  refine jp_if_eq hJ (q := 8) (tgt := 25) dX9_lever_5 (by decide) rfl (fun c1 => ?_) (fun c1 => ?_)
  · skip
    refine j_aload_n hJ (q := 26) dX9_lever_25 rfl 0 rfl rfl ?_
    refine j_bipush hJ (q := 28) dX9_lever_26 rfl kb_m10 ?_
    refine j_vW hJ (q := 31) (rest := []) (As := [.int (zI (-10))]) (wr := [(q 0, ia Z 266 (ni A)), (q 4, ia Z 58 (ni Hd))]) jl_X9_73 (c_X9_bad Z h q ab be bl ta tl tk va Rf (-10) ) 0 rfl rfl dX9_lever_28 rfl (by decide) (Nat.le_of_ble_eq_true rfl) [0, 3] [1, 2] rfl rfl rfl rfl (by decide) rfl (fun rv wv hp => ?_)
    obtain ⟨rfl, rfl⟩ := hp
    refine j_world hJ (ws' := [mO h q ab be bl ta tl tk va, (q 0, ia Z 266 (ni A)), (q 4, ia Z 58 (ni Hd)), (q 3, ia Z 3 (ni (va_up Rf 0 (Rf 0 + 1))))]) [2, 0, 1, 3] rfl rfl ?_
    show J 31 [(0, .ref h), (1, .int a), (2, .int b), (3, .int c)] [.int (zI (-10))] [mO h q ab be bl ta tl tk va, (q 0, ia Z 266 (ni A)), (q 4, ia Z 58 (ni Hd)), (q 3, ia Z 3 (ni (va_up Rf 0 (Rf 0 + 1))))] 0 0
    have hP : ¬ (pLever A a b c) := by simp only [rgI, isS, isR, pNote, pMark, pFast, pLever, pHands, pSlip, pEven]; omega
    exact hE.1 _ _ _ _ _ _ _ rfl rfl dX9_lever_31 (Nat.le_refl _) (Nat.le_refl _) (⟨Hd, congrArg (fun z => some (Value.int (zI z))) (by simp only [z_lever, if_neg hP, bmp]), by simp only [z_lever, if_neg hP, bmp]⟩)
  · skip
    refine j_iload_n hJ (q := 9) dX9_lever_8 rfl 2 rfl rfl ?_
    refine j_i2l hJ (q := 10) dX9_lever_9 rfl (zL_i _ (zI_of b) (zI_rng b)) ?_
    refine j_lconst hJ (q := 11) (v := zL 1) dX9_lever_10 rfl rfl ?_
    refine j_ldc2 hJ (q := 14) (v' := zL 6) dX9_lever_11 tm_946 rfl rfl ?_
    refine j_sR hJ (q := 17) (rest := []) (As := [.long (zL b.toInt), .long (zL 1), .long (zL 6)]) jl_X9_53 (c_X9_in Z b.toInt 1 6 (by omega) (by omega) (by omega)) dX9_lever_14 rfl (by decide) (Nat.le_of_ble_eq_true rfl) [] rfl rfl (fun rv hp => ?_)
    obtain rfl := hp
    show J 17 [(0, .ref h), (1, .int a), (2, .int b), (3, .int c)] [.int (bI (decide (1 ≤ b.toInt ∧ b.toInt ≤ 6)))] [mO h q ab be bl ta tl tk va, (q 0, ia Z 266 (ni A)), (q 4, ia Z 58 (ni Hd)), (q 3, ia Z 3 (ni Rf))] 0 0
    refine jp_if_eq hJ (q := 20) (tgt := 25) dX9_lever_17 (by decide) rfl (fun c2 => ?_) (fun c2 => ?_)
    · skip
      refine j_aload_n hJ (q := 26) dX9_lever_25 rfl 0 rfl rfl ?_
      refine j_bipush hJ (q := 28) dX9_lever_26 rfl kb_m10 ?_
      refine j_vW hJ (q := 31) (rest := []) (As := [.int (zI (-10))]) (wr := [(q 0, ia Z 266 (ni A)), (q 4, ia Z 58 (ni Hd))]) jl_X9_73 (c_X9_bad Z h q ab be bl ta tl tk va Rf (-10) ) 0 rfl rfl dX9_lever_28 rfl (by decide) (Nat.le_of_ble_eq_true rfl) [0, 3] [1, 2] rfl rfl rfl rfl (by decide) rfl (fun rv wv hp => ?_)
      obtain ⟨rfl, rfl⟩ := hp
      refine j_world hJ (ws' := [mO h q ab be bl ta tl tk va, (q 0, ia Z 266 (ni A)), (q 4, ia Z 58 (ni Hd)), (q 3, ia Z 3 (ni (va_up Rf 0 (Rf 0 + 1))))]) [2, 0, 1, 3] rfl rfl ?_
      show J 31 [(0, .ref h), (1, .int a), (2, .int b), (3, .int c)] [.int (zI (-10))] [mO h q ab be bl ta tl tk va, (q 0, ia Z 266 (ni A)), (q 4, ia Z 58 (ni Hd)), (q 3, ia Z 3 (ni (va_up Rf 0 (Rf 0 + 1))))] 0 0
      have hP : ¬ (pLever A a b c) := by simp only [rgI, isS, isR, pNote, pMark, pFast, pLever, pHands, pSlip, pEven]; omega
      exact hE.1 _ _ _ _ _ _ _ rfl rfl dX9_lever_31 (Nat.le_refl _) (Nat.le_refl _) (⟨Hd, congrArg (fun z => some (Value.int (zI z))) (by simp only [z_lever, if_neg hP, bmp]), by simp only [z_lever, if_neg hP, bmp]⟩)
    · skip
      refine j_iload_n hJ (q := 21) dX9_lever_20 rfl 3 rfl rfl ?_
      refine j_iconst hJ (q := 22) dX9_lever_21 rfl ki_m1 ?_
      refine jz_icmp_ge hJ (q := 25) (tgt := 32) dX9_lever_22 (by decide) rfl (zI_of c) rfl (zI_rng c) (by omega) (fun c3 => ?_) (fun c3 => ?_)
      · skip
        have hn_a := nt_cast (x := a) (by omega)
        refine j_eql (lvs' := [(0, .ref h), (1, .int (nI (nt a))), (2, .int b), (3, .int c)]) (by rw [← nt_eq (x := a) (by omega)]) ?_
        have hn_b := nt_cast (x := b) (by omega)
        refine j_eql (lvs' := [(0, .ref h), (1, .int (nI (nt a))), (2, .int (nI (nt b))), (3, .int c)]) (by rw [← nt_eq (x := b) (by omega)]) ?_
        refine j_iconst hJ (q := 33) dX9_lever_32 rfl ki_m1 ?_
        refine j_istore hJ (q := 35) (lvs' := [(4, .int (zI (-1))), (0, .ref h), (1, .int (nI (nt a))), (2, .int (nI (nt b))), (3, .int c)]) dX9_lever_33 (by decide) rfl rfl ?_
        refine j_iconst hJ (q := 36) dX9_lever_35 rfl ki_m1 ?_
        refine j_istore hJ (q := 38) (lvs' := [(5, .int (zI (-1))), (4, .int (zI (-1))), (0, .ref h), (1, .int (nI (nt a))), (2, .int (nI (nt b))), (3, .int c)]) dX9_lever_36 (by decide) rfl rfl ?_
        have hpw : 2 ^ (2 * nt b) ≤ 4096 := show 2 ^ (2 * nt b) ≤ 2 ^ 12 from Nat.pow_le_pow_right (by decide) (by omega)
        have hpw1 : 1 ≤ 2 ^ (2 * nt b) := Nat.one_le_two_pow
        refine j_iconst hJ (q := 39) dX9_lever_38 rfl ki_0 ?_
        refine j_istore hJ (q := 41) (lvs' := [(6, .int (nI 0)), (5, .int (zI (-1))), (4, .int (zI (-1))), (0, .ref h), (1, .int (nI (nt a))), (2, .int (nI (nt b))), (3, .int c)]) dX9_lever_39 (by decide) rfl rfl ?_
        have L_41 : ∀ (fu_41 : Nat) (B : Nat → Nat) (bs : Int) (mo : Int) (vv : Nat), 2 ^ (2 * nt b) - vv < fu_41 → (vv ≤ 2 ^ (2 * nt b)) → (bst (fLever A (nt a) (nt b)) vv = (bs, mo)) → J 41 [(0, .ref h), (1, .int (nI (nt a))), (2, .int (nI (nt b))), (3, .int c), (4, .int (zI bs)), (5, .int (zI mo)), (6, .int (nI vv))] [] [mO h q ab be bl ta tl tk va, (q 0, ia Z 266 (ni A)), (q 4, ia Z 58 (ni B)), (q 3, ia Z 3 (ni Rf))] 0 0 := by
          intro fu_41
          induction fu_41 with
          | zero => intro B bs mo vv hm; exact absurd hm (Nat.not_lt_zero _)
          | succ fu_41 ih_41 =>
            intro B bs mo vv hm_41 hv hbm
            have hbl2 := bst_le (f := fLever A (nt a) (nt b)) (M := 6) (by decide) vv (fun u _ => by have := tkb_le (nt a) u (nt b) A; show (tkb (nt a) u (nt b) A : Int) ≤ 6; omega)
            rw [hbm] at hbl2
            have hbl3 := hbl2.1
            have hbl4 := hbl2.2.1
            have hbl5 := hbl2.2.2.1
            have hbl6 := hbl2.2.2.2
            dsimp only at hbl3 hbl4 hbl5 hbl6
            refine j_iload hJ (q := 43) dX9_lever_41 6 rfl rfl ?_
            refine j_iconst hJ (q := 44) dX9_lever_43 rfl ki_1 ?_
            refine j_iconst hJ (q := 45) dX9_lever_44 rfl ki_2 ?_
            refine j_iload_n hJ (q := 46) dX9_lever_45 rfl 2 rfl rfl ?_
            refine j_imul hJ (q := 47) dX9_lever_46 rfl (pk_mul _ _) ?_
            refine j_ishl hJ (q := 48) dX9_lever_47 rfl (nI_shl (by omega) (by omega)) ?_
            refine jn_icmp_ge hJ (q := 51) (tgt := 99) dX9_lever_48 (by decide) rfl (by omega) (by omega) (fun c4 => ?_) (fun c4 => ?_)
            · skip
              refine j_iload_n hJ (q := 100) dX9_lever_99 rfl 3 rfl rfl ?_
              refine j_iconst hJ (q := 101) dX9_lever_100 rfl ki_m1 ?_
              refine jz_icmp_ne hJ (q := 104) (tgt := 109) dX9_lever_101 (by decide) rfl (zI_of c) rfl (zI_rng c) (by omega) (fun c5 => ?_) (fun c5 => ?_)
              · skip
                have hn_c := nt_cast (x := c) (by omega)
                refine j_eql (lvs' := [(0, .ref h), (1, .int (nI (nt a))), (2, .int (nI (nt b))), (3, .int (nI (nt c))), (4, .int (zI bs)), (5, .int (zI mo)), (6, .int (nI vv))]) (by rw [← nt_eq (x := c) (by omega)]) ?_
                refine j_iload_n hJ (q := 110) dX9_lever_109 rfl 3 rfl rfl ?_
                refine j_iload_n hJ (q := 111) dX9_lever_110 rfl 2 rfl rfl ?_
                refine jn_icmp_lt hJ (q := 114) (tgt := 119) dX9_lever_111 (by decide) rfl (by omega) (by omega) (fun c6 => ?_) (fun c6 => ?_)
                · skip
                  have hps := bst_pos (f := fLever A (nt a) (nt b)) (fun u => by show (0 : Int) ≤ (tkb (nt a) u (nt b) A : Int); omega) vv (by omega)
                  rw [hbm] at hps
                  have hps1 := hps.1
                  have hps2 := hps.2.1
                  dsimp only at hps1 hps2
                  obtain ⟨bb, rfl⟩ : ∃ z : Nat, bs = (z : Int) := ⟨bs.toNat, by omega⟩
                  refine j_eql (lvs' := [(0, .ref h), (1, .int (nI (nt a))), (2, .int (nI (nt b))), (3, .int (nI (nt c))), (4, .int (nI bb)), (5, .int (zI mo)), (6, .int (nI vv))]) (by rw [zI_nat]) ?_
                  refine j_iload hJ (q := 121) dX9_lever_119 4 rfl rfl ?_
                  refine j_iconst hJ (q := 122) dX9_lever_121 rfl ki_2 ?_
                  refine j_iload_n hJ (q := 123) dX9_lever_122 rfl 2 rfl rfl ?_
                  refine j_iconst hJ (q := 124) dX9_lever_123 rfl ki_1 ?_
                  refine j_isub hJ (q := 125) dX9_lever_124 rfl (pk_sub (by omega)) ?_
                  refine j_iload_n hJ (q := 126) dX9_lever_125 rfl 3 rfl rfl ?_
                  refine j_isub hJ (q := 127) dX9_lever_126 rfl (pk_sub (by omega)) ?_
                  refine j_imul hJ (q := 128) dX9_lever_127 rfl (pk_mul _ _) ?_
                  refine j_ishr hJ (q := 129) dX9_lever_128 rfl (nI_shr (by omega) (by omega)) ?_
                  have hdv := Nat.div_le_self bb (2 ^ (2 * (nt b - 1 - nt c)))
                  refine j_iconst hJ (q := 130) dX9_lever_129 rfl ki_3 ?_
                  refine j_iand hJ (q := 131) dX9_lever_130 rfl (nI_and3 (by omega)) ?_
                  have hP : pLever A a b c := by simp only [rgI, isS, isR, pNote, pMark, pFast, pLever, pHands, pSlip, pEven]; omega
                  have hQ0 : ¬ c.toInt = -1 := by omega
                  have hQ1 : ¬ (nt b : Int) ≤ c.toInt := by omega
                  exact hE.1 _ _ _ _ _ _ _ rfl rfl dX9_lever_131 (Nat.le_refl _) (Nat.le_refl _) (⟨B, congrArg (fun z => some (Value.int z)) ((zI_nat _).symm.trans (congrArg zI (by simp only [z_lever, if_pos hP, if_neg hQ0, if_neg hQ1]; rw [show 1 * 2 ^ (2 * nt b) = vv by omega, hbm]; rfl))), by simp only [if_pos hP]⟩)
                · skip
                  refine j_bipush hJ (q := 116) dX9_lever_114 rfl kb_m5 ?_
                  refine j_goto hJ (q := 131) dX9_lever_116 (by decide) ?_
                  have hP : pLever A a b c := by simp only [rgI, isS, isR, pNote, pMark, pFast, pLever, pHands, pSlip, pEven]; omega
                  have hQ0 : ¬ c.toInt = -1 := by omega
                  have hQ1 : (nt b : Int) ≤ c.toInt := by omega
                  exact hE.1 _ _ _ _ _ _ _ rfl rfl dX9_lever_131 (Nat.le_refl _) (Nat.le_refl _) (⟨B, congrArg (fun z => some (Value.int (zI z))) (by simp only [z_lever, if_pos hP, if_neg hQ0, if_pos hQ1]), by simp only [if_pos hP]⟩)
              · skip
                refine j_iload hJ (q := 106) dX9_lever_104 5 rfl rfl ?_
                refine j_goto hJ (q := 131) dX9_lever_106 (by decide) ?_
                have hP : pLever A a b c := by simp only [rgI, isS, isR, pNote, pMark, pFast, pLever, pHands, pSlip, pEven]; omega
                have hQ0 : c.toInt = -1 := by omega
                exact hE.1 _ _ _ _ _ _ _ rfl rfl dX9_lever_131 (Nat.le_refl _) (Nat.le_refl _) (⟨B, congrArg (fun z => some (Value.int (zI z))) (by simp only [z_lever, if_pos hP, if_pos hQ0]; rw [show 1 * 2 ^ (2 * nt b) = vv by omega, hbm]), by simp only [if_pos hP]⟩)
            · skip
              refine j_aload_n hJ (q := 52) dX9_lever_51 rfl 0 rfl rfl ?_
              refine j_iload_n hJ (q := 53) dX9_lever_52 rfl 1 rfl rfl ?_
              refine j_iload_n hJ (q := 54) dX9_lever_53 rfl 2 rfl rfl ?_
              refine j_iload hJ (q := 56) dX9_lever_54 6 rfl rfl ?_
              refine j_vW hJ (q := 59) (rest := []) (As := [.int (nI (nt a)), .int (nI (nt b)), .int (nI vv)]) (wr := [(q 3, ia Z 3 (ni Rf))]) jl_X9_146 (c_X9_takenBy Z h q ab be bl ta tl tk va A B (nt a) (nt b) vv hw (by omega) (by omega) (by omega) (by omega)) 0 rfl rfl dX9_lever_56 rfl (by decide) (Nat.le_of_ble_eq_true rfl) [0, 1, 2] [3] rfl rfl rfl rfl (by decide) rfl (fun rv wv hp => ?_)
              obtain ⟨Hx7, rfl, rfl⟩ := hp
              refine j_world hJ (ws' := [mO h q ab be bl ta tl tk va, (q 0, ia Z 266 (ni A)), (q 4, ia Z 58 (ni Hx7)), (q 3, ia Z 3 (ni Rf))]) [1, 2, 3, 0] rfl rfl ?_
              show J 59 [(0, .ref h), (1, .int (nI (nt a))), (2, .int (nI (nt b))), (3, .int c), (4, .int (zI bs)), (5, .int (zI mo)), (6, .int (nI vv))] [.int (nI (tkb (nt a) vv (nt b) A))] [mO h q ab be bl ta tl tk va, (q 0, ia Z 266 (ni A)), (q 4, ia Z 58 (ni Hx7)), (q 3, ia Z 3 (ni Rf))] 0 0
              refine j_istore hJ (q := 61) (lvs' := [(7, .int (nI (tkb (nt a) vv (nt b) A))), (0, .ref h), (1, .int (nI (nt a))), (2, .int (nI (nt b))), (3, .int c), (4, .int (zI bs)), (5, .int (zI mo)), (6, .int (nI vv))]) dX9_lever_59 (by decide) rfl rfl ?_
              have hfv : fLever A (nt a) (nt b) vv = (tkb (nt a) vv (nt b) A : Int) := rfl
              have htl := tkb_le (nt a) vv (nt b) A
              refine j_iload hJ (q := 63) dX9_lever_61 0 rfl rfl ?_
              refine j_iload hJ (q := 65) dX9_lever_63 6 rfl rfl ?_
              refine jz_icmp_le hJ (q := 68) (tgt := 73) dX9_lever_65 (by decide) rfl (zI_nat (tkb (nt a) vv (nt b) A)).symm rfl (by omega) (by omega) (fun c8 => ?_) (fun c8 => ?_)
              · skip
                refine j_iload hJ (q := 75) dX9_lever_73 5 rfl rfl ?_
                refine j_istore hJ (q := 77) (lvs' := [(4, .int (zI bs)), (7, .int (nI (tkb (nt a) vv (nt b) A))), (0, .ref h), (1, .int (nI (nt a))), (2, .int (nI (nt b))), (3, .int c), (5, .int (zI mo)), (6, .int (nI vv))]) dX9_lever_75 (by decide) rfl rfl ?_
                refine j_iload hJ (q := 79) dX9_lever_77 1 rfl rfl ?_
                refine j_iload hJ (q := 81) dX9_lever_79 6 rfl rfl ?_
                refine jz_icmp_le hJ (q := 84) (tgt := 89) dX9_lever_81 (by decide) rfl (zI_nat (tkb (nt a) vv (nt b) A)).symm rfl (by omega) (by omega) (fun c9 => ?_) (fun c9 => ?_)
                · skip
                  refine j_iload hJ (q := 91) dX9_lever_89 6 rfl rfl ?_
                  refine j_istore hJ (q := 93) (lvs' := [(5, .int (zI mo)), (4, .int (zI bs)), (7, .int (nI (tkb (nt a) vv (nt b) A))), (0, .ref h), (1, .int (nI (nt a))), (2, .int (nI (nt b))), (3, .int c), (6, .int (nI vv))]) dX9_lever_91 (by decide) rfl rfl ?_
                  refine j_iinc hJ (q := 96) (lvs' := [(6, .int (nI (vv + 1))), (5, .int (zI mo)), (4, .int (zI bs)), (7, .int (nI (tkb (nt a) vv (nt b) A))), (0, .ref h), (1, .int (nI (nt a))), (2, .int (nI (nt b))), (3, .int c)]) dX9_lever_93 7 rfl (by rw [show Int32.ofInt 1 = nI 1 from by decide +kernel]; exact nI_add _ _) (by decide) rfl rfl ?_
                  refine j_goto hJ (q := 41) dX9_lever_96 (by decide) ?_
                  refine j_locals hJ [4, 5, 6, 7, 2, 1, 0] rfl ?_
                  exact ih_41 Hx7 bs mo (vv + 1) (by omega) (by omega) (bst_no hbm (by omega))
                · skip
                  refine j_iload hJ (q := 86) dX9_lever_84 1 rfl rfl ?_
                  refine j_goto hJ (q := 91) dX9_lever_86 (by decide) ?_
                  refine j_istore hJ (q := 93) (lvs' := [(5, .int (nI (tkb (nt a) vv (nt b) A))), (4, .int (zI bs)), (7, .int (nI (tkb (nt a) vv (nt b) A))), (0, .ref h), (1, .int (nI (nt a))), (2, .int (nI (nt b))), (3, .int c), (6, .int (nI vv))]) dX9_lever_91 (by decide) rfl rfl ?_
                  refine j_iinc hJ (q := 96) (lvs' := [(6, .int (nI (vv + 1))), (5, .int (nI (tkb (nt a) vv (nt b) A))), (4, .int (zI bs)), (7, .int (nI (tkb (nt a) vv (nt b) A))), (0, .ref h), (1, .int (nI (nt a))), (2, .int (nI (nt b))), (3, .int c)]) dX9_lever_93 7 rfl (by rw [show Int32.ofInt 1 = nI 1 from by decide +kernel]; exact nI_add _ _) (by decide) rfl rfl ?_
                  refine j_goto hJ (q := 41) dX9_lever_96 (by decide) ?_
                  refine j_locals hJ [4, 5, 6, 7, 2, 1, 0] rfl ?_
                  refine j_eql (lvs' := [(0, .ref h), (1, .int (nI (nt a))), (2, .int (nI (nt b))), (3, .int c), (4, .int (zI bs)), (5, .int (zI ((tkb (nt a) vv (nt b) A : Nat) : Int))), (6, .int (nI (vv + 1)))]) (by simp only [zI_nat] <;> rfl) ?_
                  exact ih_41 Hx7 bs ((tkb (nt a) vv (nt b) A : Nat) : Int) (vv + 1) (by omega) (by omega) (by exfalso; omega)
              · skip
                refine j_iload hJ (q := 70) dX9_lever_68 7 rfl rfl ?_
                refine j_goto hJ (q := 75) dX9_lever_70 (by decide) ?_
                refine j_istore hJ (q := 77) (lvs' := [(4, .int (nI vv)), (7, .int (nI (tkb (nt a) vv (nt b) A))), (0, .ref h), (1, .int (nI (nt a))), (2, .int (nI (nt b))), (3, .int c), (5, .int (zI mo)), (6, .int (nI vv))]) dX9_lever_75 (by decide) rfl rfl ?_
                refine j_iload hJ (q := 79) dX9_lever_77 1 rfl rfl ?_
                refine j_iload hJ (q := 81) dX9_lever_79 6 rfl rfl ?_
                refine jz_icmp_le hJ (q := 84) (tgt := 89) dX9_lever_81 (by decide) rfl (zI_nat (tkb (nt a) vv (nt b) A)).symm rfl (by omega) (by omega) (fun c10 => ?_) (fun c10 => ?_)
                · skip
                  refine j_iload hJ (q := 91) dX9_lever_89 6 rfl rfl ?_
                  refine j_istore hJ (q := 93) (lvs' := [(5, .int (zI mo)), (4, .int (nI vv)), (7, .int (nI (tkb (nt a) vv (nt b) A))), (0, .ref h), (1, .int (nI (nt a))), (2, .int (nI (nt b))), (3, .int c), (6, .int (nI vv))]) dX9_lever_91 (by decide) rfl rfl ?_
                  refine j_iinc hJ (q := 96) (lvs' := [(6, .int (nI (vv + 1))), (5, .int (zI mo)), (4, .int (nI vv)), (7, .int (nI (tkb (nt a) vv (nt b) A))), (0, .ref h), (1, .int (nI (nt a))), (2, .int (nI (nt b))), (3, .int c)]) dX9_lever_93 7 rfl (by rw [show Int32.ofInt 1 = nI 1 from by decide +kernel]; exact nI_add _ _) (by decide) rfl rfl ?_
                  refine j_goto hJ (q := 41) dX9_lever_96 (by decide) ?_
                  refine j_locals hJ [4, 5, 6, 7, 2, 1, 0] rfl ?_
                  refine j_eql (lvs' := [(0, .ref h), (1, .int (nI (nt a))), (2, .int (nI (nt b))), (3, .int c), (4, .int (zI ((vv : Nat) : Int))), (5, .int (zI mo)), (6, .int (nI (vv + 1)))]) (by simp only [zI_nat] <;> rfl) ?_
                  exact ih_41 Hx7 ((vv : Nat) : Int) mo (vv + 1) (by omega) (by omega) (by exfalso; omega)
                · skip
                  refine j_iload hJ (q := 86) dX9_lever_84 1 rfl rfl ?_
                  refine j_goto hJ (q := 91) dX9_lever_86 (by decide) ?_
                  refine j_istore hJ (q := 93) (lvs' := [(5, .int (nI (tkb (nt a) vv (nt b) A))), (4, .int (nI vv)), (7, .int (nI (tkb (nt a) vv (nt b) A))), (0, .ref h), (1, .int (nI (nt a))), (2, .int (nI (nt b))), (3, .int c), (6, .int (nI vv))]) dX9_lever_91 (by decide) rfl rfl ?_
                  refine j_iinc hJ (q := 96) (lvs' := [(6, .int (nI (vv + 1))), (5, .int (nI (tkb (nt a) vv (nt b) A))), (4, .int (nI vv)), (7, .int (nI (tkb (nt a) vv (nt b) A))), (0, .ref h), (1, .int (nI (nt a))), (2, .int (nI (nt b))), (3, .int c)]) dX9_lever_93 7 rfl (by rw [show Int32.ofInt 1 = nI 1 from by decide +kernel]; exact nI_add _ _) (by decide) rfl rfl ?_
                  refine j_goto hJ (q := 41) dX9_lever_96 (by decide) ?_
                  refine j_locals hJ [4, 5, 6, 7, 2, 1, 0] rfl ?_
                  refine j_eql (lvs' := [(0, .ref h), (1, .int (nI (nt a))), (2, .int (nI (nt b))), (3, .int c), (4, .int (zI ((vv : Nat) : Int))), (5, .int (zI ((tkb (nt a) vv (nt b) A : Nat) : Int))), (6, .int (nI (vv + 1)))]) (by simp only [zI_nat] <;> rfl) ?_
                  exact ih_41 Hx7 ((vv : Nat) : Int) ((tkb (nt a) vv (nt b) A : Nat) : Int) (vv + 1) (by omega) (by omega) (by rw [← hfv]; exact bst_go hbm (by omega))
        refine j_locals hJ [3, 4, 5, 6, 2, 1, 0] rfl ?_
        exact L_41 ((2 ^ (2 * nt b) - 0) + 1) Hd (-1) (-1) 0 (Nat.lt_succ_self _) (by omega) rfl
      · skip
        refine j_aload_n hJ (q := 26) dX9_lever_25 rfl 0 rfl rfl ?_
        refine j_bipush hJ (q := 28) dX9_lever_26 rfl kb_m10 ?_
        refine j_vW hJ (q := 31) (rest := []) (As := [.int (zI (-10))]) (wr := [(q 0, ia Z 266 (ni A)), (q 4, ia Z 58 (ni Hd))]) jl_X9_73 (c_X9_bad Z h q ab be bl ta tl tk va Rf (-10) ) 0 rfl rfl dX9_lever_28 rfl (by decide) (Nat.le_of_ble_eq_true rfl) [0, 3] [1, 2] rfl rfl rfl rfl (by decide) rfl (fun rv wv hp => ?_)
        obtain ⟨rfl, rfl⟩ := hp
        refine j_world hJ (ws' := [mO h q ab be bl ta tl tk va, (q 0, ia Z 266 (ni A)), (q 4, ia Z 58 (ni Hd)), (q 3, ia Z 3 (ni (va_up Rf 0 (Rf 0 + 1))))]) [2, 0, 1, 3] rfl rfl ?_
        show J 31 [(0, .ref h), (1, .int a), (2, .int b), (3, .int c)] [.int (zI (-10))] [mO h q ab be bl ta tl tk va, (q 0, ia Z 266 (ni A)), (q 4, ia Z 58 (ni Hd)), (q 3, ia Z 3 (ni (va_up Rf 0 (Rf 0 + 1))))] 0 0
        have hP : ¬ (pLever A a b c) := by simp only [rgI, isS, isR, pNote, pMark, pFast, pLever, pHands, pSlip, pEven]; omega
        exact hE.1 _ _ _ _ _ _ _ rfl rfl dX9_lever_31 (Nat.le_refl _) (Nat.le_refl _) (⟨Hd, congrArg (fun z => some (Value.int (zI z))) (by simp only [z_lever, if_neg hP, bmp]), by simp only [z_lever, if_neg hP, bmp]⟩)
