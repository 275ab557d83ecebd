set_option maxHeartbeats 4000000 in
set_option maxRecDepth 100000 in
theorem c_X8_pairRests (Z : jZ) (h : Nat) (u : Nat → Nat) (ab : Int) (be : Int) (Rf : Nat → Nat) (T1 : Nat → Nat) (T2 : Nat → Nat) (i : Nat) (j : Nat) (hi : i < 4) (hj : j < 4) (hb1 : ∀ k, k < 4 → T1 k < 1000) (hb2 : ∀ k, k < 4 → T2 k < 1000) : CR Z yX8_pairRests cX8_pairRests 6 ((some FieldType.boolean)) 1 [.ref h, .int (nI i), .int (nI j)] [xO h u ab be (Rf 0) (Rf 1) (Rf 2), (u 6, ia Z 4 (ni T1)), (u 7, ia Z 4 (ni T2))] (fun rr => rr = some (.int (bI (rstN (tw T1 T2) i j 4)))) := by
  refine CR.of RX8 rfl (by decide +kernel) (Nat.le_of_ble_eq_true rfl) ?_
  intro J hJ hE
  show J 0 [(0, .ref h), (1, .int (nI i)), (2, .int (nI j))] [] [xO h u ab be (Rf 0) (Rf 1) (Rf 2), (u 6, ia Z 4 (ni T1)), (u 7, ia Z 4 (ni T2))] 0 0
  have q1 := hb1 ((i + j) / 2) (by omega)
  have q2 := hb2 ((i + j) / 2) (by omega)
  have e1 : gts (tw T1 T2) 0 i (i + j) = ((2 * T1 ((i + j) / 2) : Nat) : Int) - (i : Int) := by unfold gts; rw [tw_lo (by omega)]
  have e2 : gts (tw T1 T2) 1 j (i + j) = ((2 * T2 ((i + j) / 2) : Nat) : Int) - (j : Int) := by unfold gts; rw [tw_hi (by omega)]
  refine j_iconst hJ (q := 1) dX8_pairRests_0 rfl ki_2 ?_
  refine j_aload_n hJ (q := 2) dX8_pairRests_1 rfl 0 rfl rfl ?_
  refine j_get hJ (q := 5) jf_X8_52 dX8_pairRests_2 0 rfl rfl rfl ?_
  refine j_iload_n hJ (q := 6) dX8_pairRests_5 rfl 1 rfl rfl ?_
  refine j_iload_n hJ (q := 7) dX8_pairRests_6 rfl 2 rfl rfl ?_
  refine j_iadd hJ (q := 8) dX8_pairRests_7 rfl (nI_add _ _) ?_
  refine j_iconst hJ (q := 9) dX8_pairRests_8 rfl ki_2 ?_
  refine j_idiv hJ (q := 10) dX8_pairRests_9 rfl (nI_ne0 (by omega) (by omega)) (pk_div (by omega) (by omega) (by omega)) ?_
  refine j_ialdN hJ (q := 11) (z := nI (T1 ((i + j) / 2))) dX8_pairRests_10 1 rfl (by omega) (by decide) rfl rfl ?_
  refine j_imul hJ (q := 12) dX8_pairRests_11 rfl (pk_mul _ _) ?_
  refine j_iload_n hJ (q := 13) dX8_pairRests_12 rfl 1 rfl rfl ?_
  refine j_isub hJ (q := 14) dX8_pairRests_13 rfl (zI_sub (zI_nat (2 * (T1 ((i + j) / 2)))).symm (zI_nat i).symm) ?_
  refine j_istore_n hJ (q := 15) (lvs' := [(3, .int (zI (((2 * (T1 ((i + j) / 2))) : Int) - (i : Int)))), (0, .ref h), (1, .int (nI i)), (2, .int (nI j))]) dX8_pairRests_14 rfl (by decide) rfl rfl ?_
  refine j_iconst hJ (q := 16) dX8_pairRests_15 rfl ki_2 ?_
  refine j_aload_n hJ (q := 17) dX8_pairRests_16 rfl 1 rfl rfl ?_
  refine j_get hJ (q := 20) jf_X8_55 dX8_pairRests_17 0 rfl rfl rfl ?_
  refine j_iload_n hJ (q := 21) dX8_pairRests_20 rfl 2 rfl rfl ?_
  refine j_iload_n hJ (q := 22) dX8_pairRests_21 rfl 3 rfl rfl ?_
  refine j_iadd hJ (q := 23) dX8_pairRests_22 rfl (nI_add _ _) ?_
  refine j_iconst hJ (q := 24) dX8_pairRests_23 rfl ki_2 ?_
  refine j_idiv hJ (q := 25) dX8_pairRests_24 rfl (nI_ne0 (by omega) (by omega)) (pk_div (by omega) (by omega) (by omega)) ?_
  refine j_ialdN hJ (q := 26) (z := nI (T2 ((i + j) / 2))) dX8_pairRests_25 2 rfl (by omega) (by decide) rfl rfl ?_
  refine j_imul hJ (q := 27) dX8_pairRests_26 rfl (pk_mul _ _) ?_
  refine j_iload_n hJ (q := 28) dX8_pairRests_27 rfl 3 rfl rfl ?_
  refine j_isub hJ (q := 29) dX8_pairRests_28 rfl (zI_sub (zI_nat (2 * (T2 ((i + j) / 2)))).symm (zI_nat j).symm) ?_
  refine j_istore hJ (q := 31) (lvs' := [(4, .int (zI (((2 * (T2 ((i + j) / 2))) : Int) - (j : Int)))), (3, .int (zI (((2 * (T1 ((i + j) / 2))) : Int) - (i : Int)))), (0, .ref h), (1, .int (nI i)), (2, .int (nI j))]) dX8_pairRests_29 (by decide) rfl rfl ?_
  refine j_iconst hJ (q := 32) dX8_pairRests_31 rfl ki_0 ?_
  refine j_istore hJ (q := 34) (lvs' := [(5, .int (nI 0)), (4, .int (zI (((2 * (T2 ((i + j) / 2))) : Int) - (j : Int)))), (3, .int (zI (((2 * (T1 ((i + j) / 2))) : Int) - (i : Int)))), (0, .ref h), (1, .int (nI i)), (2, .int (nI j))]) dX8_pairRests_32 (by decide) rfl rfl ?_
  have L_34 : ∀ (fu_34 : Nat) (v : Nat), 4 - v < fu_34 → (v ≤ 4) → (rstN (tw T1 T2) i j v = true) → J 34 [(0, .ref h), (1, .int (nI i)), (2, .int (nI j)), (3, .int (zI (((2 * (T1 ((i + j) / 2))) : Int) - (i : Int)))), (4, .int (zI (((2 * (T2 ((i + j) / 2))) : Int) - (j : Int)))), (5, .int (nI v))] [] [xO h u ab be (Rf 0) (Rf 1) (Rf 2), (u 6, ia Z 4 (ni T1)), (u 7, ia Z 4 (ni T2))] 0 0 := by
    intro fu_34
    induction fu_34 with
    | zero => intro v hm; exact absurd hm (Nat.not_lt_zero _)
    | succ fu_34 ih_34 =>
      intro v hm_34 hv hr
      refine j_iload hJ (q := 36) dX8_pairRests_34 5 rfl rfl ?_
      refine j_iconst hJ (q := 37) dX8_pairRests_36 rfl ki_3 ?_
      refine jn_icmp_gt hJ (q := 40) (tgt := 89) dX8_pairRests_37 (by decide) rfl (by omega) (by omega) (fun c1 => ?_) (fun c1 => ?_)
      · skip
        refine j_iconst hJ (q := 90) dX8_pairRests_89 rfl ki_1 ?_
        exact hE.1 _ _ _ _ _ _ _ rfl rfl dX8_pairRests_90 (Nat.le_refl _) (Nat.le_refl _) (congrArg (fun z => some (Value.int (bI z))) (show true = (rstN (tw T1 T2) i j 4) by rw [show v = 4 by omega] at hr; exact hr.symm))
      · skip
        have q3 := hb1 ((v + j) / 2) (by omega)
        have q4 := hb2 ((i + v) / 2) (by omega)
        have e3 : gts (tw T1 T2) 0 v (v + j) = ((2 * T1 ((v + j) / 2) : Nat) : Int) - (v : Int) := by unfold gts; rw [tw_lo (by omega)]
        have e4 : gts (tw T1 T2) 1 v (i + v) = ((2 * T2 ((i + v) / 2) : Nat) : Int) - (v : Int) := by unfold gts; rw [tw_hi (by omega)]
        refine j_iconst hJ (q := 41) dX8_pairRests_40 rfl ki_2 ?_
        refine j_aload_n hJ (q := 42) dX8_pairRests_41 rfl 0 rfl rfl ?_
        refine j_get hJ (q := 45) jf_X8_52 dX8_pairRests_42 0 rfl rfl rfl ?_
        refine j_iload hJ (q := 47) dX8_pairRests_45 5 rfl rfl ?_
        refine j_iload_n hJ (q := 48) dX8_pairRests_47 rfl 2 rfl rfl ?_
        refine j_iadd hJ (q := 49) dX8_pairRests_48 rfl (nI_add _ _) ?_
        refine j_iconst hJ (q := 50) dX8_pairRests_49 rfl ki_2 ?_
        refine j_idiv hJ (q := 51) dX8_pairRests_50 rfl (nI_ne0 (by omega) (by omega)) (pk_div (by omega) (by omega) (by omega)) ?_
        refine j_ialdN hJ (q := 52) (z := nI (T1 ((v + j) / 2))) dX8_pairRests_51 1 rfl (by omega) (by decide) rfl rfl ?_
        refine j_imul hJ (q := 53) dX8_pairRests_52 rfl (pk_mul _ _) ?_
        refine j_iload hJ (q := 55) dX8_pairRests_53 5 rfl rfl ?_
        refine j_isub hJ (q := 56) dX8_pairRests_55 rfl (zI_sub (zI_nat (2 * (T1 ((v + j) / 2)))).symm (zI_nat v).symm) ?_
        refine j_iload_n hJ (q := 57) dX8_pairRests_56 rfl 3 rfl rfl ?_
        refine jz_icmp_gt hJ (q := 60) (tgt := 81) dX8_pairRests_57 (by decide) rfl rfl rfl (by omega) (by omega) (fun c2 => ?_) (fun c2 => ?_)
        · skip
          refine j_iconst hJ (q := 82) dX8_pairRests_81 rfl ki_0 ?_
          exact hE.1 _ _ _ _ _ _ _ rfl rfl dX8_pairRests_82 (Nat.le_refl _) (Nat.le_refl _) (congrArg (fun z => some (Value.int (bI z))) (show false = (rstN (tw T1 T2) i j 4) by exact (rstN_f (k := v + 1) (by simp only [rstN]; first | (rw [decide_eq_false (show ¬ gts (tw T1 T2) 0 v (v + j) ≤ gts (tw T1 T2) 0 i (i + j) by omega), Bool.false_and, Bool.and_false]; done) | (rw [decide_eq_false (show ¬ gts (tw T1 T2) 1 v (i + v) ≤ gts (tw T1 T2) 1 j (i + j) by omega), Bool.and_false, Bool.and_false]; done)) 4 (by omega)).symm))
        · skip
          refine j_iconst hJ (q := 61) dX8_pairRests_60 rfl ki_2 ?_
          refine j_aload_n hJ (q := 62) dX8_pairRests_61 rfl 0 rfl rfl ?_
          refine j_get hJ (q := 65) jf_X8_55 dX8_pairRests_62 0 rfl rfl rfl ?_
          refine j_iload_n hJ (q := 66) dX8_pairRests_65 rfl 1 rfl rfl ?_
          refine j_iload hJ (q := 68) dX8_pairRests_66 5 rfl rfl ?_
          refine j_iadd hJ (q := 69) dX8_pairRests_68 rfl (nI_add _ _) ?_
          refine j_iconst hJ (q := 70) dX8_pairRests_69 rfl ki_2 ?_
          refine j_idiv hJ (q := 71) dX8_pairRests_70 rfl (nI_ne0 (by omega) (by omega)) (pk_div (by omega) (by omega) (by omega)) ?_
          refine j_ialdN hJ (q := 72) (z := nI (T2 ((i + v) / 2))) dX8_pairRests_71 2 rfl (by omega) (by decide) rfl rfl ?_
          refine j_imul hJ (q := 73) dX8_pairRests_72 rfl (pk_mul _ _) ?_
          refine j_iload hJ (q := 75) dX8_pairRests_73 5 rfl rfl ?_
          refine j_isub hJ (q := 76) dX8_pairRests_75 rfl (zI_sub (zI_nat (2 * (T2 ((i + v) / 2)))).symm (zI_nat v).symm) ?_
          refine j_iload hJ (q := 78) dX8_pairRests_76 4 rfl rfl ?_
          refine jz_icmp_le hJ (q := 81) (tgt := 83) dX8_pairRests_78 (by decide) rfl rfl rfl (by omega) (by omega) (fun c3 => ?_) (fun c3 => ?_)
          · skip
            refine j_iinc hJ (q := 86) (lvs' := [(5, .int (nI (v + 1))), (0, .ref h), (1, .int (nI i)), (2, .int (nI j)), (3, .int (zI (((2 * (T1 ((i + j) / 2))) : Int) - (i : Int)))), (4, .int (zI (((2 * (T2 ((i + j) / 2))) : Int) - (j : Int))))]) dX8_pairRests_83 5 rfl (by rw [show Int32.ofInt 1 = nI 1 from by decide +kernel]; exact nI_add _ _) (by decide) rfl rfl ?_
            refine j_goto hJ (q := 34) dX8_pairRests_86 (by decide) ?_
            refine j_locals hJ [1, 2, 3, 4, 5, 0] rfl ?_
            exact ih_34 (v + 1) (by omega) (by omega) (by simp only [rstN]; rw [hr, decide_eq_true (show gts (tw T1 T2) 0 v (v + j) ≤ gts (tw T1 T2) 0 i (i + j) by omega), decide_eq_true (show gts (tw T1 T2) 1 v (i + v) ≤ gts (tw T1 T2) 1 j (i + j) by omega)]; rfl)
          · skip
            refine j_iconst hJ (q := 82) dX8_pairRests_81 rfl ki_0 ?_
            exact hE.1 _ _ _ _ _ _ _ rfl rfl dX8_pairRests_82 (Nat.le_refl _) (Nat.le_refl _) (congrArg (fun z => some (Value.int (bI z))) (show false = (rstN (tw T1 T2) i j 4) by exact (rstN_f (k := v + 1) (by simp only [rstN]; first | (rw [decide_eq_false (show ¬ gts (tw T1 T2) 0 v (v + j) ≤ gts (tw T1 T2) 0 i (i + j) by omega), Bool.false_and, Bool.and_false]; done) | (rw [decide_eq_false (show ¬ gts (tw T1 T2) 1 v (i + v) ≤ gts (tw T1 T2) 1 j (i + j) by omega), Bool.and_false, Bool.and_false]; done)) 4 (by omega)).symm))
  refine j_locals hJ [3, 4, 5, 2, 1, 0] rfl ?_
  exact L_34 ((4 - 0) + 1) 0 (Nat.lt_succ_self _) (by omega) rfl

set_option maxHeartbeats 4000000 in
set_option maxRecDepth 100000 in
theorem c_X8_runHands (Z : jZ) (h : Nat) (u : Nat → Nat) (ab : Int) (be : Int) (Rf : Nat → Nat) (s : Nat → Nat) (q : Nat → Nat) (A : Nat → Nat) (K : Nat → Nat) (P : Nat → Nat) (kd : Nat → Nat) (am : Nat → Nat) (st : Nat → Nat) (rg : Nat → Nat) (qt : Nat → Nat) (t1 : Nat) (t2 : Nat) (t3 : Nat) (t4 : Nat) (t5 : Nat) (t6 : Nat) (Kt : Nat → Nat) (Pt : Nat → Nat) (kt : Nat → Nat) (mt : Nat → Nat) (stt : Nat → Nat) (gt : Nat → Nat) (T1 : Nat → Nat) (T2 : Nat → Nat) (a : Nat) (b : Nat) (hg : wg A) (hR : rR A K P kd am st rg) (h1 : a < A 0) (h2 : b < A 0) (h3 : a ≠ b) : CT Z yX8_runHands cX8_runHands 6 (none) 6 0 0 [.ref h, .int (nI a), .int (nI b)] [xO h u ab be (Rf 0) (Rf 1) (Rf 2), (u 0, .inr (4, [.ref (s 0), .ref (s 1), .ref (s 3), .ref (s 5), .ref (s 7)])), cO (s 0) q (A 21) (A 5) (A 6) (A 7) (A 8) (A 0), (q 0, ia Z 12 (ni K)), (q 1, ia Z 12 (ni P)), (q 2, ia Z 6 (ni kd)), (q 3, ia Z 6 (ni am)), (q 4, ia Z 6 (ni st)), (q 5, ia Z 6 (ni rg)), cO (u 3) qt t1 t2 t3 t4 t5 t6, (qt 0, ia Z 12 (ni Kt)), (qt 1, ia Z 12 (ni Pt)), (qt 2, ia Z 6 (ni kt)), (qt 3, ia Z 6 (ni mt)), (qt 4, ia Z 6 (ni stt)), (qt 5, ia Z 6 (ni gt)), (u 6, ia Z 4 (ni T1)), (u 7, ia Z 4 (ni T2))] (fun rr ww => ∃ y1 : Nat, ∃ y2 : Nat, ∃ y3 : Nat, ∃ y4 : Nat, ∃ y5 : Nat, ∃ y6 : Nat, ∃ Kx : Nat → Nat, ∃ Px : Nat → Nat, ∃ kx : Nat → Nat, ∃ mx : Nat → Nat, ∃ sx : Nat → Nat, ∃ gx : Nat → Nat, ∃ U1 : Nat → Nat, ∃ U2 : Nat → Nat, rr = none ∧ ww = [xO h u ab be (Rf 0) (Rf 1) (Rf 2), (u 0, .inr (4, [.ref (s 0), .ref (s 1), .ref (s 3), .ref (s 5), .ref (s 7)])), cO (s 0) q (A 21) (A 5) (A 6) (A 7) (A 8) (A 0), (q 0, ia Z 12 (ni K)), (q 1, ia Z 12 (ni P)), (q 2, ia Z 6 (ni kd)), (q 3, ia Z 6 (ni am)), (q 4, ia Z 6 (ni st)), (q 5, ia Z 6 (ni rg)), cO (u 3) qt y1 y2 y3 y4 y5 y6, (qt 0, ia Z 12 (ni Kx)), (qt 1, ia Z 12 (ni Px)), (qt 2, ia Z 6 (ni kx)), (qt 3, ia Z 6 (ni mx)), (qt 4, ia Z 6 (ni sx)), (qt 5, ia Z 6 (ni gx)), (u 6, ia Z 4 (ni U1)), (u 7, ia Z 4 (ni U2))] ∧ (∀ j, j < 4 → U1 j = tkn a 8 (va_up A 6 j) ∧ U2 j = tkn b 8 (va_up A 6 j))) := by
  refine CT.of RX8 false rfl (fun h => by cases h) (by decide +kernel) (Nat.le_of_ble_eq_true rfl) ?_
  intro J hJ hE
  show J 0 [(0, .ref h), (1, .int (nI a)), (2, .int (nI b))] [] [xO h u ab be (Rf 0) (Rf 1) (Rf 2), (u 0, .inr (4, [.ref (s 0), .ref (s 1), .ref (s 3), .ref (s 5), .ref (s 7)])), cO (s 0) q (A 21) (A 5) (A 6) (A 7) (A 8) (A 0), (q 0, ia Z 12 (ni K)), (q 1, ia Z 12 (ni P)), (q 2, ia Z 6 (ni kd)), (q 3, ia Z 6 (ni am)), (q 4, ia Z 6 (ni st)), (q 5, ia Z 6 (ni rg)), cO (u 3) qt t1 t2 t3 t4 t5 t6, (qt 0, ia Z 12 (ni Kt)), (qt 1, ia Z 12 (ni Pt)), (qt 2, ia Z 6 (ni kt)), (qt 3, ia Z 6 (ni mt)), (qt 4, ia Z 6 (ni stt)), (qt 5, ia Z 6 (ni gt)), (u 6, ia Z 4 (ni T1)), (u 7, ia Z 4 (ni T2))] 0 0
  obtain ⟨hw, ⟨g1, g2, g3, g4, g8⟩, hrs, hrn, hrm, hpst⟩ := id hg
  obtain ⟨⟨w1, w2, w3, w4, w5, w6⟩, hb, wr, wh, wd⟩ := id hw
  refine j_iconst hJ (q := 1) dX8_runHands_0 rfl ki_0 ?_
  refine j_istore_n hJ (q := 2) (lvs' := [(3, .int (nI 0)), (0, .ref h), (1, .int (nI a)), (2, .int (nI b))]) dX8_runHands_1 rfl (by decide) rfl rfl ?_
  have L_2 : ∀ (fu_2 : Nat) (e1 : Nat) (e2 : Nat) (e3 : Nat) (e4 : Nat) (e5 : Nat) (e6 : Nat) (Ka : Nat → Nat) (Pa : Nat → Nat) (ka : Nat → Nat) (ma : Nat → Nat) (sa : Nat → Nat) (ga : Nat → Nat) (D1 : Nat → Nat) (D2 : Nat → Nat) (v : Nat), 4 - v < fu_2 → (v ≤ 4) → (∀ j, j < v → D1 j = tkn a 8 (va_up A 6 j) ∧ D2 j = tkn b 8 (va_up A 6 j)) → J 2 [(0, .ref h), (1, .int (nI a)), (2, .int (nI b)), (3, .int (nI v))] [] [xO h u ab be (Rf 0) (Rf 1) (Rf 2), (u 0, .inr (4, [.ref (s 0), .ref (s 1), .ref (s 3), .ref (s 5), .ref (s 7)])), cO (s 0) q (A 21) (A 5) (A 6) (A 7) (A 8) (A 0), (q 0, ia Z 12 (ni K)), (q 1, ia Z 12 (ni P)), (q 2, ia Z 6 (ni kd)), (q 3, ia Z 6 (ni am)), (q 4, ia Z 6 (ni st)), (q 5, ia Z 6 (ni rg)), cO (u 3) qt e1 e2 e3 e4 e5 e6, (qt 0, ia Z 12 (ni Ka)), (qt 1, ia Z 12 (ni Pa)), (qt 2, ia Z 6 (ni ka)), (qt 3, ia Z 6 (ni ma)), (qt 4, ia Z 6 (ni sa)), (qt 5, ia Z 6 (ni ga)), (u 6, ia Z 4 (ni D1)), (u 7, ia Z 4 (ni D2))] 0 0 := by
    intro fu_2
    induction fu_2 with
    | zero => intro e1 e2 e3 e4 e5 e6 Ka Pa ka ma sa ga D1 D2 v hm; exact absurd hm (Nat.not_lt_zero _)
    | succ fu_2 ih_2 =>
      intro e1 e2 e3 e4 e5 e6 Ka Pa ka ma sa ga D1 D2 v hm_2 hv hD
      refine j_iload_n hJ (q := 3) dX8_runHands_2 rfl 3 rfl rfl ?_
      refine j_iconst hJ (q := 4) dX8_runHands_3 rfl ki_4 ?_
      refine jn_icmp_ge hJ (q := 7) (tgt := 109) dX8_runHands_4 (by decide) rfl (by omega) (by omega) (fun c1 => ?_) (fun c1 => ?_)
      · skip
        exact hE.2.2 _ _ _ _ _ rfl dX8_runHands_109 (Nat.le_refl _) (Nat.le_refl _) (⟨e1, e2, e3, e4, e5, e6, Ka, Pa, ka, ma, sa, ga, D1, D2, rfl, rfl, fun j hj => hD j (by omega)⟩)
      · skip
        refine j_aload_n hJ (q := 8) dX8_runHands_7 rfl 0 rfl rfl ?_
        refine j_get hJ (q := 11) jf_X8_37 dX8_runHands_8 0 rfl rfl rfl ?_
        refine j_aload_n hJ (q := 12) dX8_runHands_11 rfl 0 rfl rfl ?_
        refine j_get hJ (q := 15) jf_X8_10 dX8_runHands_12 0 rfl rfl rfl ?_
        refine j_get hJ (q := 18) jf_X8_66 dX8_runHands_15 1 rfl rfl rfl ?_
        refine j_vW hJ (q := 21) (rest := []) (As := [.ref (s 0)]) (wr := [xO h u ab be (Rf 0) (Rf 1) (Rf 2), (u 0, .inr (4, [.ref (s 0), .ref (s 1), .ref (s 3), .ref (s 5), .ref (s 7)])), (u 6, ia Z 4 (ni D1)), (u 7, ia Z 4 (ni D2))]) jl_X8_122 (c_X4_copyOf Z (u 3) qt e1 e2 e3 e4 e5 e6 Ka Pa ka ma sa ga (s 0) q A K P kd am st rg ) 9 rfl rfl dX8_runHands_18 rfl (by decide) (Nat.le_of_ble_eq_true rfl) [9, 10, 11, 12, 13, 14, 15, 2, 3, 4, 5, 6, 7, 8] [0, 1, 16, 17] rfl rfl rfl rfl (by decide) rfl (fun rv wv hp => ?_)
        obtain ⟨rfl, rfl⟩ := hp
        refine j_world hJ (ws' := [xO h u ab be (Rf 0) (Rf 1) (Rf 2), (u 0, .inr (4, [.ref (s 0), .ref (s 1), .ref (s 3), .ref (s 5), .ref (s 7)])), cO (s 0) q (A 21) (A 5) (A 6) (A 7) (A 8) (A 0), (q 0, ia Z 12 (ni K)), (q 1, ia Z 12 (ni P)), (q 2, ia Z 6 (ni kd)), (q 3, ia Z 6 (ni am)), (q 4, ia Z 6 (ni st)), (q 5, ia Z 6 (ni rg)), cO (u 3) qt (A 21) (A 5) (A 6) (A 7) (A 8) (A 0), (qt 0, ia Z 12 (ni K)), (qt 1, ia Z 12 (ni P)), (qt 2, ia Z 6 (ni kd)), (qt 3, ia Z 6 (ni am)), (qt 4, ia Z 6 (ni st)), (qt 5, ia Z 6 (ni rg)), (u 6, ia Z 4 (ni D1)), (u 7, ia Z 4 (ni D2))]) [0, 1, 11, 12, 13, 14, 15, 16, 17, 4, 5, 6, 7, 8, 9, 10, 2, 3] rfl rfl ?_
        show J 21 [(0, .ref h), (1, .int (nI a)), (2, .int (nI b)), (3, .int (nI v))] [] [xO h u ab be (Rf 0) (Rf 1) (Rf 2), (u 0, .inr (4, [.ref (s 0), .ref (s 1), .ref (s 3), .ref (s 5), .ref (s 7)])), cO (s 0) q (A 21) (A 5) (A 6) (A 7) (A 8) (A 0), (q 0, ia Z 12 (ni K)), (q 1, ia Z 12 (ni P)), (q 2, ia Z 6 (ni kd)), (q 3, ia Z 6 (ni am)), (q 4, ia Z 6 (ni st)), (q 5, ia Z 6 (ni rg)), cO (u 3) qt (A 21) (A 5) (A 6) (A 7) (A 8) (A 0), (qt 0, ia Z 12 (ni K)), (qt 1, ia Z 12 (ni P)), (qt 2, ia Z 6 (ni kd)), (qt 3, ia Z 6 (ni am)), (qt 4, ia Z 6 (ni st)), (qt 5, ia Z 6 (ni rg)), (u 6, ia Z 4 (ni D1)), (u 7, ia Z 4 (ni D2))] 0 0
        refine j_aload_n hJ (q := 22) dX8_runHands_21 rfl 0 rfl rfl ?_
        refine j_get hJ (q := 25) jf_X8_37 dX8_runHands_22 0 rfl rfl rfl ?_
        refine j_iload_n hJ (q := 26) dX8_runHands_25 rfl 3 rfl rfl ?_
        refine j_put hJ (q := 29) (ws' := [xO h u ab be (Rf 0) (Rf 1) (Rf 2), (u 0, .inr (4, [.ref (s 0), .ref (s 1), .ref (s 3), .ref (s 5), .ref (s 7)])), cO (s 0) q (A 21) (A 5) (A 6) (A 7) (A 8) (A 0), (q 0, ia Z 12 (ni K)), (q 1, ia Z 12 (ni P)), (q 2, ia Z 6 (ni kd)), (q 3, ia Z 6 (ni am)), (q 4, ia Z 6 (ni st)), (q 5, ia Z 6 (ni rg)), cO (u 3) qt (A 21) (A 5) v (A 7) (A 8) (A 0), (qt 0, ia Z 12 (ni K)), (qt 1, ia Z 12 (ni P)), (qt 2, ia Z 6 (ni kd)), (qt 3, ia Z 6 (ni am)), (qt 4, ia Z 6 (ni st)), (qt 5, ia Z 6 (ni rg)), (u 6, ia Z 4 (ni D1)), (u 7, ia Z 4 (ni D2))]) jp_X8_138 dX8_runHands_26 9 rfl rfl rfl (Nat.le_of_ble_eq_true rfl) rfl rfl ?_
        refine j_eqw (ws' := [xO h u ab be (Rf 0) (Rf 1) (Rf 2), (u 0, .inr (4, [.ref (s 0), .ref (s 1), .ref (s 3), .ref (s 5), .ref (s 7)])), cO (s 0) q (A 21) (A 5) (A 6) (A 7) (A 8) (A 0), (q 0, ia Z 12 (ni K)), (q 1, ia Z 12 (ni P)), (q 2, ia Z 6 (ni kd)), (q 3, ia Z 6 (ni am)), (q 4, ia Z 6 (ni st)), (q 5, ia Z 6 (ni rg)), cO (u 3) qt ((va_up A 6 v) 21) ((va_up A 6 v) 5) ((va_up A 6 v) 6) ((va_up A 6 v) 7) ((va_up A 6 v) 8) ((va_up A 6 v) 0), (qt 0, ia Z 12 (ni K)), (qt 1, ia Z 12 (ni P)), (qt 2, ia Z 6 (ni kd)), (qt 3, ia Z 6 (ni am)), (qt 4, ia Z 6 (ni st)), (qt 5, ia Z 6 (ni rg)), (u 6, ia Z 4 (ni D1)), (u 7, ia Z 4 (ni D2))]) rfl ?_
        refine j_aload_n hJ (q := 30) dX8_runHands_29 rfl 0 rfl rfl ?_
        refine j_get hJ (q := 33) jf_X8_52 dX8_runHands_30 0 rfl rfl rfl ?_
        refine j_iload_n hJ (q := 34) dX8_runHands_33 rfl 3 rfl rfl ?_
        refine j_iconst hJ (q := 35) dX8_runHands_34 rfl ki_0 ?_
        refine j_iastN hJ (q := 36) (ws' := [xO h u ab be (Rf 0) (Rf 1) (Rf 2), (u 0, .inr (4, [.ref (s 0), .ref (s 1), .ref (s 3), .ref (s 5), .ref (s 7)])), cO (s 0) q (A 21) (A 5) (A 6) (A 7) (A 8) (A 0), (q 0, ia Z 12 (ni K)), (q 1, ia Z 12 (ni P)), (q 2, ia Z 6 (ni kd)), (q 3, ia Z 6 (ni am)), (q 4, ia Z 6 (ni st)), (q 5, ia Z 6 (ni rg)), cO (u 3) qt ((va_up A 6 v) 21) ((va_up A 6 v) 5) ((va_up A 6 v) 6) ((va_up A 6 v) 7) ((va_up A 6 v) 8) ((va_up A 6 v) 0), (qt 0, ia Z 12 (ni K)), (qt 1, ia Z 12 (ni P)), (qt 2, ia Z 6 (ni kd)), (qt 3, ia Z 6 (ni am)), (qt 4, ia Z 6 (ni st)), (qt 5, ia Z 6 (ni rg)), (u 6, ia Z 4 (ni (va_up D1 v 0))), (u 7, ia Z 4 (ni D2))]) dX8_runHands_35 16 rfl (by omega) (by decide) (ni_up _ _ _) rfl rfl ?_
        refine j_aload_n hJ (q := 37) dX8_runHands_36 rfl 0 rfl rfl ?_
        refine j_get hJ (q := 40) jf_X8_55 dX8_runHands_37 0 rfl rfl rfl ?_
        refine j_iload_n hJ (q := 41) dX8_runHands_40 rfl 3 rfl rfl ?_
        refine j_iconst hJ (q := 42) dX8_runHands_41 rfl ki_0 ?_
        refine j_iastN hJ (q := 43) (ws' := [xO h u ab be (Rf 0) (Rf 1) (Rf 2), (u 0, .inr (4, [.ref (s 0), .ref (s 1), .ref (s 3), .ref (s 5), .ref (s 7)])), cO (s 0) q (A 21) (A 5) (A 6) (A 7) (A 8) (A 0), (q 0, ia Z 12 (ni K)), (q 1, ia Z 12 (ni P)), (q 2, ia Z 6 (ni kd)), (q 3, ia Z 6 (ni am)), (q 4, ia Z 6 (ni st)), (q 5, ia Z 6 (ni rg)), cO (u 3) qt ((va_up A 6 v) 21) ((va_up A 6 v) 5) ((va_up A 6 v) 6) ((va_up A 6 v) 7) ((va_up A 6 v) 8) ((va_up A 6 v) 0), (qt 0, ia Z 12 (ni K)), (qt 1, ia Z 12 (ni P)), (qt 2, ia Z 6 (ni kd)), (qt 3, ia Z 6 (ni am)), (qt 4, ia Z 6 (ni st)), (qt 5, ia Z 6 (ni rg)), (u 6, ia Z 4 (ni (va_up D1 v 0))), (u 7, ia Z 4 (ni (va_up D2 v 0)))]) dX8_runHands_42 17 rfl (by omega) (by decide) (ni_up _ _ _) rfl rfl ?_
        refine j_iconst hJ (q := 44) dX8_runHands_43 rfl ki_0 ?_
        refine j_istore hJ (q := 46) (lvs' := [(4, .int (nI 0)), (0, .ref h), (1, .int (nI a)), (2, .int (nI b)), (3, .int (nI v))]) dX8_runHands_44 (by decide) rfl rfl ?_
        have L_46 : ∀ (fu_46 : Nat) (B : Nat → Nat) (rb : Nat → Nat) (C1 : Nat → Nat) (C2 : Nat → Nat) (k : Nat), 8 - k < fu_46 → (k ≤ 8) → (wf B) → (rR B K P kd am st rb) → (B 8 + (8 - k) < 90000) → (∀ j, j < v → C1 j = tkn a 8 (va_up A 6 j)) → (∀ j, j < v → C2 j = tkn b 8 (va_up A 6 j)) → (C1 v + tkn a (8 - k) B = tkn a 8 (va_up A 6 v)) → (C2 v + tkn b (8 - k) B = tkn b 8 (va_up A 6 v)) → J 46 [(0, .ref h), (1, .int (nI a)), (2, .int (nI b)), (3, .int (nI v)), (4, .int (nI k))] [] [xO h u ab be (Rf 0) (Rf 1) (Rf 2), (u 0, .inr (4, [.ref (s 0), .ref (s 1), .ref (s 3), .ref (s 5), .ref (s 7)])), cO (s 0) q (A 21) (A 5) (A 6) (A 7) (A 8) (A 0), (q 0, ia Z 12 (ni K)), (q 1, ia Z 12 (ni P)), (q 2, ia Z 6 (ni kd)), (q 3, ia Z 6 (ni am)), (q 4, ia Z 6 (ni st)), (q 5, ia Z 6 (ni rg)), cO (u 3) qt (B 21) (B 5) (B 6) (B 7) (B 8) (B 0), (qt 0, ia Z 12 (ni K)), (qt 1, ia Z 12 (ni P)), (qt 2, ia Z 6 (ni kd)), (qt 3, ia Z 6 (ni am)), (qt 4, ia Z 6 (ni st)), (qt 5, ia Z 6 (ni rb)), (u 6, ia Z 4 (ni C1)), (u 7, ia Z 4 (ni C2))] 0 0 := by
          intro fu_46
          induction fu_46 with
          | zero => intro B rb C1 C2 k hm; exact absurd hm (Nat.not_lt_zero _)
          | succ fu_46 ih_46 =>
            intro B rb C1 C2 k hm_46 hk hwB hRB hBt hC1 hC2 hS1 hS2
            refine j_iload hJ (q := 48) dX8_runHands_46 4 rfl rfl ?_
            refine j_bipush hJ (q := 50) dX8_runHands_48 rfl kb_8 ?_
            refine jn_icmp_ge hJ (q := 53) (tgt := 103) dX8_runHands_50 (by decide) rfl (by omega) (by omega) (fun c2 => ?_) (fun c2 => ?_)
            · skip
              refine j_iinc hJ (q := 106) (lvs' := [(3, .int (nI (v + 1))), (0, .ref h), (1, .int (nI a)), (2, .int (nI b)), (4, .int (nI k))]) dX8_runHands_103 3 rfl (by rw [show Int32.ofInt 1 = nI 1 from by decide +kernel]; exact nI_add _ _) (by decide) rfl rfl ?_
              refine j_goto hJ (q := 2) dX8_runHands_106 (by decide) ?_
              refine j_locals hJ [1, 2, 3, 0] rfl ?_
              exact ih_2 (B 21) (B 5) (B 6) (B 7) (B 8) (B 0) K P kd am st rb C1 C2 (v + 1) (by omega) (by omega) (fun j hj => (Nat.lt_or_ge j v).elim (fun hl => ⟨hC1 j hl, hC2 j hl⟩) (fun hl => by rw [show j = v by omega]; have e1 := hS1; have e2 := hS2; rw [show 8 - k = 0 by omega] at e1 e2; exact ⟨e1, e2⟩))
            · skip
              refine j_aload_n hJ (q := 54) dX8_runHands_53 rfl 0 rfl rfl ?_
              refine j_get hJ (q := 57) jf_X8_37 dX8_runHands_54 0 rfl rfl rfl ?_
              refine j_vW hJ (q := 60) (rest := []) (As := []) (wr := [xO h u ab be (Rf 0) (Rf 1) (Rf 2), (u 0, .inr (4, [.ref (s 0), .ref (s 1), .ref (s 3), .ref (s 5), .ref (s 7)])), cO (s 0) q (A 21) (A 5) (A 6) (A 7) (A 8) (A 0), (q 0, ia Z 12 (ni K)), (q 1, ia Z 12 (ni P)), (q 2, ia Z 6 (ni kd)), (q 3, ia Z 6 (ni am)), (q 4, ia Z 6 (ni st)), (q 5, ia Z 6 (ni rg)), (u 6, ia Z 4 (ni C1)), (u 7, ia Z 4 (ni C2))]) jl_X8_132 (c_X4_step Z (u 3) qt B K P kd am st rb hwB hRB (by omega)) 9 rfl rfl dX8_runHands_57 rfl (by decide) (Nat.le_of_ble_eq_true rfl) [9, 10, 11, 12, 13, 14, 15] [0, 1, 2, 3, 4, 5, 6, 7, 8, 16, 17] rfl rfl rfl rfl (by decide) rfl (fun rv wv hp => ?_)
              obtain ⟨rz3, rfl, rfl, f4⟩ := hp
              refine j_world hJ (ws' := [xO h u ab be (Rf 0) (Rf 1) (Rf 2), (u 0, .inr (4, [.ref (s 0), .ref (s 1), .ref (s 3), .ref (s 5), .ref (s 7)])), cO (s 0) q (A 21) (A 5) (A 6) (A 7) (A 8) (A 0), (q 0, ia Z 12 (ni K)), (q 1, ia Z 12 (ni P)), (q 2, ia Z 6 (ni kd)), (q 3, ia Z 6 (ni am)), (q 4, ia Z 6 (ni st)), (q 5, ia Z 6 (ni rg)), cO (u 3) qt ((goT B false).2 21) ((goT B false).2 5) ((goT B false).2 6) ((goT B false).2 7) ((goT B false).2 8) ((goT B false).2 0), (qt 0, ia Z 12 (ni K)), (qt 1, ia Z 12 (ni P)), (qt 2, ia Z 6 (ni kd)), (qt 3, ia Z 6 (ni am)), (qt 4, ia Z 6 (ni st)), (qt 5, ia Z 6 (ni rz3)), (u 6, ia Z 4 (ni C1)), (u 7, ia Z 4 (ni C2))]) [0, 1, 2, 3, 4, 5, 6, 7, 8, 11, 12, 13, 14, 15, 16, 17, 9, 10] rfl rfl ?_
              show J 60 [(0, .ref h), (1, .int (nI a)), (2, .int (nI b)), (3, .int (nI v)), (4, .int (nI k))] [.int (oI ((goT B false).1))] [xO h u ab be (Rf 0) (Rf 1) (Rf 2), (u 0, .inr (4, [.ref (s 0), .ref (s 1), .ref (s 3), .ref (s 5), .ref (s 7)])), cO (s 0) q (A 21) (A 5) (A 6) (A 7) (A 8) (A 0), (q 0, ia Z 12 (ni K)), (q 1, ia Z 12 (ni P)), (q 2, ia Z 6 (ni kd)), (q 3, ia Z 6 (ni am)), (q 4, ia Z 6 (ni st)), (q 5, ia Z 6 (ni rg)), cO (u 3) qt ((goT B false).2 21) ((goT B false).2 5) ((goT B false).2 6) ((goT B false).2 7) ((goT B false).2 8) ((goT B false).2 0), (qt 0, ia Z 12 (ni K)), (qt 1, ia Z 12 (ni P)), (qt 2, ia Z 6 (ni kd)), (qt 3, ia Z 6 (ni am)), (qt 4, ia Z 6 (ni st)), (qt 5, ia Z 6 (ni rz3)), (u 6, ia Z 4 (ni C1)), (u 7, ia Z 4 (ni C2))] 0 0
              refine j_caseo (fun o5 => ?_) (fun i6 o5 => ?_)
              · skip
                refine j_istore hJ (q := 62) (lvs' := [(5, .int (zI (-1))), (0, .ref h), (1, .int (nI a)), (2, .int (nI b)), (3, .int (nI v)), (4, .int (nI k))]) dX8_runHands_60 (by decide) rfl rfl ?_
                refine j_iload hJ (q := 64) dX8_runHands_62 0 rfl rfl ?_
                refine j_iload_n hJ (q := 65) dX8_runHands_64 rfl 2 rfl rfl ?_
                refine jz_icmp_ne hJ (q := 68) (tgt := 81) dX8_runHands_65 (by decide) rfl rfl (zI_nat a).symm (by omega) (by omega) (fun c7 => ?_) (fun c7 => ?_)
                · skip
                  refine j_iload hJ (q := 83) dX8_runHands_81 0 rfl rfl ?_
                  refine j_iload_n hJ (q := 84) dX8_runHands_83 rfl 3 rfl rfl ?_
                  refine jz_icmp_ne hJ (q := 87) (tgt := 97) dX8_runHands_84 (by decide) rfl rfl (zI_nat b).symm (by omega) (by omega) (fun c8 => ?_) (fun c8 => ?_)
                  · skip
                    refine j_iinc hJ (q := 100) (lvs' := [(4, .int (nI (k + 1))), (5, .int (zI (-1))), (0, .ref h), (1, .int (nI a)), (2, .int (nI b)), (3, .int (nI v))]) dX8_runHands_97 5 rfl (by rw [show Int32.ofInt 1 = nI 1 from by decide +kernel]; exact nI_add _ _) (by decide) rfl rfl ?_
                    refine j_goto hJ (q := 46) dX8_runHands_100 (by decide) ?_
                    refine j_locals hJ [2, 3, 4, 5, 0] rfl ?_
                    exact ih_46 ((goT B false).2) rz3 C1 C2 (k + 1) (by omega) (by omega) (wf_goT false hwB (by omega)) (by assumption) (by rw [goT_8]; omega) hC1 hC2 (by rw [← hS1, show 8 - k = (8 - (k + 1)) + 1 by omega]; simp only [tkn]; rw [if_neg (by simp_all)]; omega) (by rw [← hS2, show 8 - k = (8 - (k + 1)) + 1 by omega]; simp only [tkn]; rw [if_neg (by simp_all)]; omega)
                  · skip
                    exfalso; omega
                · skip
                  exfalso; omega
              · skip
                have hlt := goT_lt o5
                have hl6 := hwB.1.2.2.2.2.2
                refine j_istore hJ (q := 62) (lvs' := [(5, .int (nI i6)), (0, .ref h), (1, .int (nI a)), (2, .int (nI b)), (3, .int (nI v)), (4, .int (nI k))]) dX8_runHands_60 (by decide) rfl rfl ?_
                refine j_iload hJ (q := 64) dX8_runHands_62 0 rfl rfl ?_
                refine j_iload_n hJ (q := 65) dX8_runHands_64 rfl 2 rfl rfl ?_
                refine jn_icmp_ne hJ (q := 68) (tgt := 81) dX8_runHands_65 (by decide) rfl (by omega) (by omega) (fun c9 => ?_) (fun c9 => ?_)
                · skip
                  refine j_iload hJ (q := 83) dX8_runHands_81 0 rfl rfl ?_
                  refine j_iload_n hJ (q := 84) dX8_runHands_83 rfl 3 rfl rfl ?_
                  refine jn_icmp_ne hJ (q := 87) (tgt := 97) dX8_runHands_84 (by decide) rfl (by omega) (by omega) (fun c10 => ?_) (fun c10 => ?_)
                  · skip
                    refine j_iinc hJ (q := 100) (lvs' := [(4, .int (nI (k + 1))), (5, .int (nI i6)), (0, .ref h), (1, .int (nI a)), (2, .int (nI b)), (3, .int (nI v))]) dX8_runHands_97 5 rfl (by rw [show Int32.ofInt 1 = nI 1 from by decide +kernel]; exact nI_add _ _) (by decide) rfl rfl ?_
                    refine j_goto hJ (q := 46) dX8_runHands_100 (by decide) ?_
                    refine j_locals hJ [2, 3, 4, 5, 0] rfl ?_
                    exact ih_46 ((goT B false).2) rz3 C1 C2 (k + 1) (by omega) (by omega) (wf_goT false hwB (by omega)) (by assumption) (by rw [goT_8]; omega) hC1 hC2 (by rw [← hS1, show 8 - k = (8 - (k + 1)) + 1 by omega]; simp only [tkn]; rw [if_neg (by simp_all)]; omega) (by rw [← hS2, show 8 - k = (8 - (k + 1)) + 1 by omega]; simp only [tkn]; rw [if_neg (by simp_all)]; omega)
                  · skip
                    refine j_aload_n hJ (q := 88) dX8_runHands_87 rfl 1 rfl rfl ?_
                    refine j_get hJ (q := 91) jf_X8_55 dX8_runHands_88 0 rfl rfl rfl ?_
                    refine j_iload_n hJ (q := 92) dX8_runHands_91 rfl 4 rfl rfl ?_
                    refine j_dup2 hJ (q := 93) dX8_runHands_92 rfl rfl rfl ?_
                    refine j_ialdN hJ (q := 94) (z := nI (C2 v)) dX8_runHands_93 17 rfl (by omega) (by decide) rfl rfl ?_
                    refine j_iconst hJ (q := 95) dX8_runHands_94 rfl ki_1 ?_
                    refine j_iadd hJ (q := 96) dX8_runHands_95 rfl (nI_add _ _) ?_
                    refine j_iastN hJ (q := 97) (ws' := [xO h u ab be (Rf 0) (Rf 1) (Rf 2), (u 0, .inr (4, [.ref (s 0), .ref (s 1), .ref (s 3), .ref (s 5), .ref (s 7)])), cO (s 0) q (A 21) (A 5) (A 6) (A 7) (A 8) (A 0), (q 0, ia Z 12 (ni K)), (q 1, ia Z 12 (ni P)), (q 2, ia Z 6 (ni kd)), (q 3, ia Z 6 (ni am)), (q 4, ia Z 6 (ni st)), (q 5, ia Z 6 (ni rg)), cO (u 3) qt ((goT B false).2 21) ((goT B false).2 5) ((goT B false).2 6) ((goT B false).2 7) ((goT B false).2 8) ((goT B false).2 0), (qt 0, ia Z 12 (ni K)), (qt 1, ia Z 12 (ni P)), (qt 2, ia Z 6 (ni kd)), (qt 3, ia Z 6 (ni am)), (qt 4, ia Z 6 (ni st)), (qt 5, ia Z 6 (ni rz3)), (u 6, ia Z 4 (ni C1)), (u 7, ia Z 4 (ni (va_up C2 v (C2 v + 1))))]) dX8_runHands_96 17 rfl (by omega) (by decide) (ni_up _ _ _) rfl rfl ?_
                    refine j_iinc hJ (q := 100) (lvs' := [(4, .int (nI (k + 1))), (5, .int (nI i6)), (0, .ref h), (1, .int (nI a)), (2, .int (nI b)), (3, .int (nI v))]) dX8_runHands_97 5 rfl (by rw [show Int32.ofInt 1 = nI 1 from by decide +kernel]; exact nI_add _ _) (by decide) rfl rfl ?_
                    refine j_goto hJ (q := 46) dX8_runHands_100 (by decide) ?_
                    refine j_locals hJ [2, 3, 4, 5, 0] rfl ?_
                    exact ih_46 ((goT B false).2) rz3 C1 (va_up C2 v (C2 v + 1)) (k + 1) (by omega) (by omega) (wf_goT false hwB (by omega)) (by assumption) (by rw [goT_8]; omega) hC1 (fun j hj => by simp only [va_up]; rw [if_neg (by omega)]; exact hC2 j hj) (by rw [← hS1, show 8 - k = (8 - (k + 1)) + 1 by omega]; simp only [tkn]; rw [if_neg (by simp_all)]; omega) (by rw [← hS2, show 8 - k = (8 - (k + 1)) + 1 by omega]; simp only [tkn, va_up, if_true]; rw [if_pos (by simp_all)]; omega)
                · skip
                  refine j_aload_n hJ (q := 69) dX8_runHands_68 rfl 1 rfl rfl ?_
                  refine j_get hJ (q := 72) jf_X8_52 dX8_runHands_69 0 rfl rfl rfl ?_
                  refine j_iload_n hJ (q := 73) dX8_runHands_72 rfl 4 rfl rfl ?_
                  refine j_dup2 hJ (q := 74) dX8_runHands_73 rfl rfl rfl ?_
                  refine j_ialdN hJ (q := 75) (z := nI (C1 v)) dX8_runHands_74 16 rfl (by omega) (by decide) rfl rfl ?_
                  refine j_iconst hJ (q := 76) dX8_runHands_75 rfl ki_1 ?_
                  refine j_iadd hJ (q := 77) dX8_runHands_76 rfl (nI_add _ _) ?_
                  refine j_iastN hJ (q := 78) (ws' := [xO h u ab be (Rf 0) (Rf 1) (Rf 2), (u 0, .inr (4, [.ref (s 0), .ref (s 1), .ref (s 3), .ref (s 5), .ref (s 7)])), cO (s 0) q (A 21) (A 5) (A 6) (A 7) (A 8) (A 0), (q 0, ia Z 12 (ni K)), (q 1, ia Z 12 (ni P)), (q 2, ia Z 6 (ni kd)), (q 3, ia Z 6 (ni am)), (q 4, ia Z 6 (ni st)), (q 5, ia Z 6 (ni rg)), cO (u 3) qt ((goT B false).2 21) ((goT B false).2 5) ((goT B false).2 6) ((goT B false).2 7) ((goT B false).2 8) ((goT B false).2 0), (qt 0, ia Z 12 (ni K)), (qt 1, ia Z 12 (ni P)), (qt 2, ia Z 6 (ni kd)), (qt 3, ia Z 6 (ni am)), (qt 4, ia Z 6 (ni st)), (qt 5, ia Z 6 (ni rz3)), (u 6, ia Z 4 (ni (va_up C1 v (C1 v + 1)))), (u 7, ia Z 4 (ni C2))]) dX8_runHands_77 16 rfl (by omega) (by decide) (ni_up _ _ _) rfl rfl ?_
                  refine j_goto hJ (q := 97) dX8_runHands_78 (by decide) ?_
                  refine j_iinc hJ (q := 100) (lvs' := [(4, .int (nI (k + 1))), (5, .int (nI i6)), (0, .ref h), (1, .int (nI a)), (2, .int (nI b)), (3, .int (nI v))]) dX8_runHands_97 5 rfl (by rw [show Int32.ofInt 1 = nI 1 from by decide +kernel]; exact nI_add _ _) (by decide) rfl rfl ?_
                  refine j_goto hJ (q := 46) dX8_runHands_100 (by decide) ?_
                  refine j_locals hJ [2, 3, 4, 5, 0] rfl ?_
                  exact ih_46 ((goT B false).2) rz3 (va_up C1 v (C1 v + 1)) C2 (k + 1) (by omega) (by omega) (wf_goT false hwB (by omega)) (by assumption) (by rw [goT_8]; omega) (fun j hj => by simp only [va_up]; rw [if_neg (by omega)]; exact hC1 j hj) hC2 (by rw [← hS1, show 8 - k = (8 - (k + 1)) + 1 by omega]; simp only [tkn, va_up, if_true]; rw [if_pos (by simp_all)]; omega) (by rw [← hS2, show 8 - k = (8 - (k + 1)) + 1 by omega]; simp only [tkn]; rw [if_neg (by simp_all)]; omega)
        refine j_locals hJ [1, 2, 3, 4, 0] rfl ?_
        exact L_46 ((8 - 0) + 1) (va_up A 6 v) rg (va_up D1 v 0) (va_up D2 v 0) 0 (Nat.lt_succ_self _) (by omega) (wf_speed hw (by omega)) (rR_speed hR w6 w2) (by show A 8 + _ < 90000; omega) (fun j hj => by simp only [va_up]; rw [if_neg (by omega)]; exact (hD j hj).1) (fun j hj => by simp only [va_up]; rw [if_neg (by omega)]; exact (hD j hj).2) (by simp only [va_up, if_true, Nat.zero_add]) (by simp only [va_up, if_true, Nat.zero_add])
  refine j_locals hJ [1, 2, 3, 0] rfl ?_
  exact L_2 ((4 - 0) + 1) t1 t2 t3 t4 t5 t6 Kt Pt kt mt stt gt T1 T2 0 (Nat.lt_succ_self _) (by omega) (fun j hj => absurd hj (Nat.not_lt_zero _))

set_option maxHeartbeats 4000000 in
set_option maxRecDepth 100000 in
theorem c_X8_hands (Z : jZ) (h : Nat) (u : Nat → Nat) (ab : Int) (be : Int) (Rf : Nat → Nat) (s : Nat → Nat) (q : Nat → Nat) (A : Nat → Nat) (K : Nat → Nat) (P : Nat → Nat) (kd : Nat → Nat) (am : Nat → Nat) (st : Nat → Nat) (rg : Nat → Nat) (qt : Nat → Nat) (t1 : Nat) (t2 : Nat) (t3 : Nat) (t4 : Nat) (t5 : Nat) (t6 : Nat) (Kt : Nat → Nat) (Pt : Nat → Nat) (kt : Nat → Nat) (mt : Nat → Nat) (stt : Nat → Nat) (gt : Nat → Nat) (T1 : Nat → Nat) (T2 : Nat → Nat) (a : Int32) (b : Int32) (c : Int32) (hg : wg A) (hR : rR A K P kd am st rg) : CT Z yX8_hands cX8_hands 7 ((some FieldType.int)) 7 0 0 [.ref h, .int a, .int b, .int c] [xO h u ab be (Rf 0) (Rf 1) (Rf 2), (u 0, .inr (4, [.ref (s 0), .ref (s 1), .ref (s 3), .ref (s 5), .ref (s 7)])), cO (s 0) q (A 21) (A 5) (A 6) (A 7) (A 8) (A 0), (q 0, ia Z 12 (ni K)), (q 1, ia Z 12 (ni P)), (q 2, ia Z 6 (ni kd)), (q 3, ia Z 6 (ni am)), (q 4, ia Z 6 (ni st)), (q 5, ia Z 6 (ni rg)), cO (u 3) qt t1 t2 t3 t4 t5 t6, (qt 0, ia Z 12 (ni Kt)), (qt 1, ia Z 12 (ni Pt)), (qt 2, ia Z 6 (ni kt)), (qt 3, ia Z 6 (ni mt)), (qt 4, ia Z 6 (ni stt)), (qt 5, ia Z 6 (ni gt)), (u 6, ia Z 4 (ni T1)), (u 7, ia Z 4 (ni T2))] (fun rr ww => ∃ y1 : Nat, ∃ y2 : Nat, ∃ y3 : Nat, ∃ y4 : Nat, ∃ y5 : Nat, ∃ y6 : Nat, ∃ Kx : Nat → Nat, ∃ Px : Nat → Nat, ∃ kx : Nat → Nat, ∃ mx : Nat → Nat, ∃ sx : Nat → Nat, ∃ gx : Nat → Nat, ∃ U1 : Nat → Nat, ∃ U2 : Nat → Nat, rr = some (.int (zI (z_hands A a b c))) ∧ ww = [xO h u ab be ((if pHands A a b c then Rf else bmp Rf 0) 0) ((if pHands A a b c then Rf else bmp Rf 0) 1) ((if pHands A a b c then Rf else bmp Rf 0) 2), (u 0, .inr (4, [.ref (s 0), .ref (s 1), .ref (s 3), .ref (s 5), .ref (s 7)])), cO (s 0) q (A 21) (A 5) (A 6) (A 7) (A 8) (A 0), (q 0, ia Z 12 (ni K)), (q 1, ia Z 12 (ni P)), (q 2, ia Z 6 (ni kd)), (q 3, ia Z 6 (ni am)), (q 4, ia Z 6 (ni st)), (q 5, ia Z 6 (ni rg)), cO (u 3) qt y1 y2 y3 y4 y5 y6, (qt 0, ia Z 12 (ni Kx)), (qt 1, ia Z 12 (ni Px)), (qt 2, ia Z 6 (ni kx)), (qt 3, ia Z 6 (ni mx)), (qt 4, ia Z 6 (ni sx)), (qt 5, ia Z 6 (ni gx)), (u 6, ia Z 4 (ni U1)), (u 7, ia Z 4 (ni U2))]) := by
  refine CT.of RX8 false rfl (fun h => by cases h) (by decide +kernel) (Nat.le_of_ble_eq_true rfl) ?_
  intro J hJ hE
  show J 0 [(0, .ref h), (1, .int a), (2, .int b), (3, .int c)] [] [xO h u ab be (Rf 0) (Rf 1) (Rf 2), (u 0, .inr (4, [.ref (s 0), .ref (s 1), .ref (s 3), .ref (s 5), .ref (s 7)])), cO (s 0) q (A 21) (A 5) (A 6) (A 7) (A 8) (A 0), (q 0, ia Z 12 (ni K)), (q 1, ia Z 12 (ni P)), (q 2, ia Z 6 (ni kd)), (q 3, ia Z 6 (ni am)), (q 4, ia Z 6 (ni st)), (q 5, ia Z 6 (ni rg)), cO (u 3) qt t1 t2 t3 t4 t5 t6, (qt 0, ia Z 12 (ni Kt)), (qt 1, ia Z 12 (ni Pt)), (qt 2, ia Z 6 (ni kt)), (qt 3, ia Z 6 (ni mt)), (qt 4, ia Z 6 (ni stt)), (qt 5, ia Z 6 (ni gt)), (u 6, ia Z 4 (ni T1)), (u 7, ia Z 4 (ni T2))] 0 0
  obtain ⟨hw, ⟨g1, g2, g3, g4, g8⟩, hrs, hrn, hrm, hpst⟩ := id hg
  obtain ⟨⟨w1, w2, w3, w4, w5, w6⟩, hb, wr, wh, wd⟩ := id hw
  have hr_a := zI_rng a
  have hr_b := zI_rng b
  have hr_c := zI_rng c
  refine j_aload_n hJ (q := 1) dX8_hands_0 rfl 0 rfl rfl ?_
  refine j_iload_n hJ (q := 2) dX8_hands_1 rfl 1 rfl rfl ?_
  refine j_vR hJ (q := 5) (rest := []) (As := [.int a]) jl_X8_141 (c_X8_isRider Z h u ab be Rf s q A K P kd am st rg a (by omega)) 0 rfl rfl dX8_hands_2 rfl (by decide) (Nat.le_of_ble_eq_true rfl) [0, 1, 2, 3, 4, 5, 6, 7, 8] rfl rfl (fun rv hp => ?_)
  obtain rfl := hp
  show J 5 [(0, .ref h), (1, .int a), (2, .int b), (3, .int c)] [.int (bI (decide (0 ≤ a.toInt ∧ a.toInt ≤ (A 0 : Int) - 1)))] [xO h u ab be (Rf 0) (Rf 1) (Rf 2), (u 0, .inr (4, [.ref (s 0), .ref (s 1), .ref (s 3), .ref (s 5), .ref (s 7)])), cO (s 0) q (A 21) (A 5) (A 6) (A 7) (A 8) (A 0), (q 0, ia Z 12 (ni K)), (q 1, ia Z 12 (ni P)), (q 2, ia Z 6 (ni kd)), (q 3, ia Z 6 (ni am)), (q 4, ia Z 6 (ni st)), (q 5, ia Z 6 (ni rg)), cO (u 3) qt t1 t2 t3 t4 t5 t6, (qt 0, ia Z 12 (ni Kt)), (qt 1, ia Z 12 (ni Pt)), (qt 2, ia Z 6 (ni kt)), (qt 3, ia Z 6 (ni mt)), (qt 4, ia Z 6 (ni stt)), (qt 5, ia Z 6 (ni gt)), (u 6, ia Z 4 (ni T1)), (u 7, ia Z 4 (ni T2))] 0 0
  refine jp_if_eq hJ (q := 8) (tgt := 26) dX8_hands_5 (by decide) rfl (fun c1 => ?_) (fun c1 => ?_)
  · skip
    refine j_aload_n hJ (q := 27) dX8_hands_26 rfl 0 rfl rfl ?_
    refine j_vW hJ (q := 30) (rest := []) (As := []) (wr := [(u 0, .inr (4, [.ref (s 0), .ref (s 1), .ref (s 3), .ref (s 5), .ref (s 7)])), cO (s 0) q (A 21) (A 5) (A 6) (A 7) (A 8) (A 0), (q 0, ia Z 12 (ni K)), (q 1, ia Z 12 (ni P)), (q 2, ia Z 6 (ni kd)), (q 3, ia Z 6 (ni am)), (q 4, ia Z 6 (ni st)), (q 5, ia Z 6 (ni rg)), cO (u 3) qt t1 t2 t3 t4 t5 t6, (qt 0, ia Z 12 (ni Kt)), (qt 1, ia Z 12 (ni Pt)), (qt 2, ia Z 6 (ni kt)), (qt 3, ia Z 6 (ni mt)), (qt 4, ia Z 6 (ni stt)), (qt 5, ia Z 6 (ni gt)), (u 6, ia Z 4 (ni T1)), (u 7, ia Z 4 (ni T2))]) jl_X8_175 (c_X8_badOfList Z h u ab be Rf ) 0 rfl rfl dX8_hands_27 rfl (by decide) (Nat.le_of_ble_eq_true rfl) [0] [1, 2, 3, 4, 5, 6, 7, 8, 9, 10, 11, 12, 13, 14, 15, 16, 17] rfl rfl rfl rfl (by decide) rfl (fun rv wv hp => ?_)
    obtain ⟨rfl, rfl⟩ := hp
    refine j_world hJ (ws' := [xO h u ab be ((bmp Rf 0) 0) ((bmp Rf 0) 1) ((bmp Rf 0) 2), (u 0, .inr (4, [.ref (s 0), .ref (s 1), .ref (s 3), .ref (s 5), .ref (s 7)])), cO (s 0) q (A 21) (A 5) (A 6) (A 7) (A 8) (A 0), (q 0, ia Z 12 (ni K)), (q 1, ia Z 12 (ni P)), (q 2, ia Z 6 (ni kd)), (q 3, ia Z 6 (ni am)), (q 4, ia Z 6 (ni st)), (q 5, ia Z 6 (ni rg)), cO (u 3) qt t1 t2 t3 t4 t5 t6, (qt 0, ia Z 12 (ni Kt)), (qt 1, ia Z 12 (ni Pt)), (qt 2, ia Z 6 (ni kt)), (qt 3, ia Z 6 (ni mt)), (qt 4, ia Z 6 (ni stt)), (qt 5, ia Z 6 (ni gt)), (u 6, ia Z 4 (ni T1)), (u 7, ia Z 4 (ni T2))]) [17, 0, 1, 2, 3, 4, 5, 6, 7, 8, 9, 10, 11, 12, 13, 14, 15, 16] rfl rfl ?_
    show J 30 [(0, .ref h), (1, .int a), (2, .int b), (3, .int c)] [.int (zI (-10))] [xO h u ab be ((bmp Rf 0) 0) ((bmp Rf 0) 1) ((bmp Rf 0) 2), (u 0, .inr (4, [.ref (s 0), .ref (s 1), .ref (s 3), .ref (s 5), .ref (s 7)])), cO (s 0) q (A 21) (A 5) (A 6) (A 7) (A 8) (A 0), (q 0, ia Z 12 (ni K)), (q 1, ia Z 12 (ni P)), (q 2, ia Z 6 (ni kd)), (q 3, ia Z 6 (ni am)), (q 4, ia Z 6 (ni st)), (q 5, ia Z 6 (ni rg)), cO (u 3) qt t1 t2 t3 t4 t5 t6, (qt 0, ia Z 12 (ni Kt)), (qt 1, ia Z 12 (ni Pt)), (qt 2, ia Z 6 (ni kt)), (qt 3, ia Z 6 (ni mt)), (qt 4, ia Z 6 (ni stt)), (qt 5, ia Z 6 (ni gt)), (u 6, ia Z 4 (ni T1)), (u 7, ia Z 4 (ni T2))] 0 0
    have hP0 : ¬ pHands A a b c := by simp only [rgI, isS, isR, pNote, pMark, pFast, pLever, pHands, pSlip, pEven]; omega
    exact hE.1 _ _ _ _ _ _ _ rfl rfl dX8_hands_30 (Nat.le_refl _) (Nat.le_refl _) (⟨t1, t2, t3, t4, t5, t6, Kt, Pt, kt, mt, stt, gt, T1, T2, congrArg (fun z => some (Value.int (zI z))) (by simp only [z_hands, if_neg hP0]), by rw [if_neg hP0] <;> rfl⟩)
  · skip
    refine j_aload_n hJ (q := 9) dX8_hands_8 rfl 0 rfl rfl ?_
    refine j_iload_n hJ (q := 10) dX8_hands_9 rfl 2 rfl rfl ?_
    refine j_vR hJ (q := 13) (rest := []) (As := [.int b]) jl_X8_141 (c_X8_isRider Z h u ab be Rf s q A K P kd am st rg b (by omega)) 0 rfl rfl dX8_hands_10 rfl (by decide) (Nat.le_of_ble_eq_true rfl) [0, 1, 2, 3, 4, 5, 6, 7, 8] rfl rfl (fun rv hp => ?_)
    obtain rfl := hp
    show J 13 [(0, .ref h), (1, .int a), (2, .int b), (3, .int c)] [.int (bI (decide (0 ≤ b.toInt ∧ b.toInt ≤ (A 0 : Int) - 1)))] [xO h u ab be (Rf 0) (Rf 1) (Rf 2), (u 0, .inr (4, [.ref (s 0), .ref (s 1), .ref (s 3), .ref (s 5), .ref (s 7)])), cO (s 0) q (A 21) (A 5) (A 6) (A 7) (A 8) (A 0), (q 0, ia Z 12 (ni K)), (q 1, ia Z 12 (ni P)), (q 2, ia Z 6 (ni kd)), (q 3, ia Z 6 (ni am)), (q 4, ia Z 6 (ni st)), (q 5, ia Z 6 (ni rg)), cO (u 3) qt t1 t2 t3 t4 t5 t6, (qt 0, ia Z 12 (ni Kt)), (qt 1, ia Z 12 (ni Pt)), (qt 2, ia Z 6 (ni kt)), (qt 3, ia Z 6 (ni mt)), (qt 4, ia Z 6 (ni stt)), (qt 5, ia Z 6 (ni gt)), (u 6, ia Z 4 (ni T1)), (u 7, ia Z 4 (ni T2))] 0 0
    refine jp_if_eq hJ (q := 16) (tgt := 26) dX8_hands_13 (by decide) rfl (fun c2 => ?_) (fun c2 => ?_)
    · skip
      refine j_aload_n hJ (q := 27) dX8_hands_26 rfl 0 rfl rfl ?_
      refine j_vW hJ (q := 30) (rest := []) (As := []) (wr := [(u 0, .inr (4, [.ref (s 0), .ref (s 1), .ref (s 3), .ref (s 5), .ref (s 7)])), cO (s 0) q (A 21) (A 5) (A 6) (A 7) (A 8) (A 0), (q 0, ia Z 12 (ni K)), (q 1, ia Z 12 (ni P)), (q 2, ia Z 6 (ni kd)), (q 3, ia Z 6 (ni am)), (q 4, ia Z 6 (ni st)), (q 5, ia Z 6 (ni rg)), cO (u 3) qt t1 t2 t3 t4 t5 t6, (qt 0, ia Z 12 (ni Kt)), (qt 1, ia Z 12 (ni Pt)), (qt 2, ia Z 6 (ni kt)), (qt 3, ia Z 6 (ni mt)), (qt 4, ia Z 6 (ni stt)), (qt 5, ia Z 6 (ni gt)), (u 6, ia Z 4 (ni T1)), (u 7, ia Z 4 (ni T2))]) jl_X8_175 (c_X8_badOfList Z h u ab be Rf ) 0 rfl rfl dX8_hands_27 rfl (by decide) (Nat.le_of_ble_eq_true rfl) [0] [1, 2, 3, 4, 5, 6, 7, 8, 9, 10, 11, 12, 13, 14, 15, 16, 17] rfl rfl rfl rfl (by decide) rfl (fun rv wv hp => ?_)
      obtain ⟨rfl, rfl⟩ := hp
      refine j_world hJ (ws' := [xO h u ab be ((bmp Rf 0) 0) ((bmp Rf 0) 1) ((bmp Rf 0) 2), (u 0, .inr (4, [.ref (s 0), .ref (s 1), .ref (s 3), .ref (s 5), .ref (s 7)])), cO (s 0) q (A 21) (A 5) (A 6) (A 7) (A 8) (A 0), (q 0, ia Z 12 (ni K)), (q 1, ia Z 12 (ni P)), (q 2, ia Z 6 (ni kd)), (q 3, ia Z 6 (ni am)), (q 4, ia Z 6 (ni st)), (q 5, ia Z 6 (ni rg)), cO (u 3) qt t1 t2 t3 t4 t5 t6, (qt 0, ia Z 12 (ni Kt)), (qt 1, ia Z 12 (ni Pt)), (qt 2, ia Z 6 (ni kt)), (qt 3, ia Z 6 (ni mt)), (qt 4, ia Z 6 (ni stt)), (qt 5, ia Z 6 (ni gt)), (u 6, ia Z 4 (ni T1)), (u 7, ia Z 4 (ni T2))]) [17, 0, 1, 2, 3, 4, 5, 6, 7, 8, 9, 10, 11, 12, 13, 14, 15, 16] rfl rfl ?_
      show J 30 [(0, .ref h), (1, .int a), (2, .int b), (3, .int c)] [.int (zI (-10))] [xO h u ab be ((bmp Rf 0) 0) ((bmp Rf 0) 1) ((bmp Rf 0) 2), (u 0, .inr (4, [.ref (s 0), .ref (s 1), .ref (s 3), .ref (s 5), .ref (s 7)])), cO (s 0) q (A 21) (A 5) (A 6) (A 7) (A 8) (A 0), (q 0, ia Z 12 (ni K)), (q 1, ia Z 12 (ni P)), (q 2, ia Z 6 (ni kd)), (q 3, ia Z 6 (ni am)), (q 4, ia Z 6 (ni st)), (q 5, ia Z 6 (ni rg)), cO (u 3) qt t1 t2 t3 t4 t5 t6, (qt 0, ia Z 12 (ni Kt)), (qt 1, ia Z 12 (ni Pt)), (qt 2, ia Z 6 (ni kt)), (qt 3, ia Z 6 (ni mt)), (qt 4, ia Z 6 (ni stt)), (qt 5, ia Z 6 (ni gt)), (u 6, ia Z 4 (ni T1)), (u 7, ia Z 4 (ni T2))] 0 0
      have hP0 : ¬ pHands A a b c := by simp only [rgI, isS, isR, pNote, pMark, pFast, pLever, pHands, pSlip, pEven]; omega
      exact hE.1 _ _ _ _ _ _ _ rfl rfl dX8_hands_30 (Nat.le_refl _) (Nat.le_refl _) (⟨t1, t2, t3, t4, t5, t6, Kt, Pt, kt, mt, stt, gt, T1, T2, congrArg (fun z => some (Value.int (zI z))) (by simp only [z_hands, if_neg hP0]), by rw [if_neg hP0] <;> rfl⟩)
    · skip
      refine j_iload_n hJ (q := 17) dX8_hands_16 rfl 1 rfl rfl ?_
      refine j_iload_n hJ (q := 18) dX8_hands_17 rfl 2 rfl rfl ?_
      refine jz_icmp_eq hJ (q := 21) (tgt := 26) dX8_hands_18 (by decide) rfl (zI_of a) (zI_of b) (zI_rng a) (zI_rng b) (fun c3 => ?_) (fun c3 => ?_)
      · skip
        refine j_aload_n hJ (q := 27) dX8_hands_26 rfl 0 rfl rfl ?_
        refine j_vW hJ (q := 30) (rest := []) (As := []) (wr := [(u 0, .inr (4, [.ref (s 0), .ref (s 1), .ref (s 3), .ref (s 5), .ref (s 7)])), cO (s 0) q (A 21) (A 5) (A 6) (A 7) (A 8) (A 0), (q 0, ia Z 12 (ni K)), (q 1, ia Z 12 (ni P)), (q 2, ia Z 6 (ni kd)), (q 3, ia Z 6 (ni am)), (q 4, ia Z 6 (ni st)), (q 5, ia Z 6 (ni rg)), cO (u 3) qt t1 t2 t3 t4 t5 t6, (qt 0, ia Z 12 (ni Kt)), (qt 1, ia Z 12 (ni Pt)), (qt 2, ia Z 6 (ni kt)), (qt 3, ia Z 6 (ni mt)), (qt 4, ia Z 6 (ni stt)), (qt 5, ia Z 6 (ni gt)), (u 6, ia Z 4 (ni T1)), (u 7, ia Z 4 (ni T2))]) jl_X8_175 (c_X8_badOfList Z h u ab be Rf ) 0 rfl rfl dX8_hands_27 rfl (by decide) (Nat.le_of_ble_eq_true rfl) [0] [1, 2, 3, 4, 5, 6, 7, 8, 9, 10, 11, 12, 13, 14, 15, 16, 17] rfl rfl rfl rfl (by decide) rfl (fun rv wv hp => ?_)
        obtain ⟨rfl, rfl⟩ := hp
        refine j_world hJ (ws' := [xO h u ab be ((bmp Rf 0) 0) ((bmp Rf 0) 1) ((bmp Rf 0) 2), (u 0, .inr (4, [.ref (s 0), .ref (s 1), .ref (s 3), .ref (s 5), .ref (s 7)])), cO (s 0) q (A 21) (A 5) (A 6) (A 7) (A 8) (A 0), (q 0, ia Z 12 (ni K)), (q 1, ia Z 12 (ni P)), (q 2, ia Z 6 (ni kd)), (q 3, ia Z 6 (ni am)), (q 4, ia Z 6 (ni st)), (q 5, ia Z 6 (ni rg)), cO (u 3) qt t1 t2 t3 t4 t5 t6, (qt 0, ia Z 12 (ni Kt)), (qt 1, ia Z 12 (ni Pt)), (qt 2, ia Z 6 (ni kt)), (qt 3, ia Z 6 (ni mt)), (qt 4, ia Z 6 (ni stt)), (qt 5, ia Z 6 (ni gt)), (u 6, ia Z 4 (ni T1)), (u 7, ia Z 4 (ni T2))]) [17, 0, 1, 2, 3, 4, 5, 6, 7, 8, 9, 10, 11, 12, 13, 14, 15, 16] rfl rfl ?_
        show J 30 [(0, .ref h), (1, .int a), (2, .int b), (3, .int c)] [.int (zI (-10))] [xO h u ab be ((bmp Rf 0) 0) ((bmp Rf 0) 1) ((bmp Rf 0) 2), (u 0, .inr (4, [.ref (s 0), .ref (s 1), .ref (s 3), .ref (s 5), .ref (s 7)])), cO (s 0) q (A 21) (A 5) (A 6) (A 7) (A 8) (A 0), (q 0, ia Z 12 (ni K)), (q 1, ia Z 12 (ni P)), (q 2, ia Z 6 (ni kd)), (q 3, ia Z 6 (ni am)), (q 4, ia Z 6 (ni st)), (q 5, ia Z 6 (ni rg)), cO (u 3) qt t1 t2 t3 t4 t5 t6, (qt 0, ia Z 12 (ni Kt)), (qt 1, ia Z 12 (ni Pt)), (qt 2, ia Z 6 (ni kt)), (qt 3, ia Z 6 (ni mt)), (qt 4, ia Z 6 (ni stt)), (qt 5, ia Z 6 (ni gt)), (u 6, ia Z 4 (ni T1)), (u 7, ia Z 4 (ni T2))] 0 0
        have hP0 : ¬ pHands A a b c := by simp only [rgI, isS, isR, pNote, pMark, pFast, pLever, pHands, pSlip, pEven]; omega
        exact hE.1 _ _ _ _ _ _ _ rfl rfl dX8_hands_30 (Nat.le_refl _) (Nat.le_refl _) (⟨t1, t2, t3, t4, t5, t6, Kt, Pt, kt, mt, stt, gt, T1, T2, congrArg (fun z => some (Value.int (zI z))) (by simp only [z_hands, if_neg hP0]), by rw [if_neg hP0] <;> rfl⟩)
      · skip
        refine j_iload_n hJ (q := 22) dX8_hands_21 rfl 3 rfl rfl ?_
        refine j_iconst hJ (q := 23) dX8_hands_22 rfl ki_m1 ?_
        refine jz_icmp_ge hJ (q := 26) (tgt := 31) dX8_hands_23 (by decide) rfl (zI_of c) rfl (zI_rng c) (by omega) (fun c4 => ?_) (fun c4 => ?_)
        · skip
          have hn_a := nt_cast (x := a) (by omega)
          refine j_eql (lvs' := [(0, .ref h), (1, .int (nI (nt a))), (2, .int b), (3, .int c)]) (by rw [← nt_eq (x := a) (by omega)]) ?_
          have hn_b := nt_cast (x := b) (by omega)
          refine j_eql (lvs' := [(0, .ref h), (1, .int (nI (nt a))), (2, .int (nI (nt b))), (3, .int c)]) (by rw [← nt_eq (x := b) (by omega)]) ?_
          refine j_aload_n hJ (q := 32) dX8_hands_31 rfl 0 rfl rfl ?_
          refine j_iload_n hJ (q := 33) dX8_hands_32 rfl 1 rfl rfl ?_
          refine j_iload_n hJ (q := 34) dX8_hands_33 rfl 2 rfl rfl ?_
          refine j_vW hJ (q := 37) (rest := []) (As := [.int (nI (nt a)), .int (nI (nt b))]) (wr := []) jl_X8_226 (c_X8_runHands Z h u ab be Rf s q A K P kd am st rg qt t1 t2 t3 t4 t5 t6 Kt Pt kt mt stt gt T1 T2 (nt a) (nt b) hg hR (by omega) (by omega) (by omega)) 0 rfl rfl dX8_hands_34 rfl (by decide) (Nat.le_of_ble_eq_true rfl) [0, 1, 2, 3, 4, 5, 6, 7, 8, 9, 10, 11, 12, 13, 14, 15, 16, 17] [] rfl rfl rfl rfl (by decide) rfl (fun rv wv hp => ?_)
          obtain ⟨y15, y26, y37, y48, y59, y610, Kx11, Px12, kx13, mx14, sx15, gx16, U117, U218, rfl, rfl, f19⟩ := hp
          show J 37 [(0, .ref h), (1, .int (nI (nt a))), (2, .int (nI (nt b))), (3, .int c)] [] [xO h u ab be (Rf 0) (Rf 1) (Rf 2), (u 0, .inr (4, [.ref (s 0), .ref (s 1), .ref (s 3), .ref (s 5), .ref (s 7)])), cO (s 0) q (A 21) (A 5) (A 6) (A 7) (A 8) (A 0), (q 0, ia Z 12 (ni K)), (q 1, ia Z 12 (ni P)), (q 2, ia Z 6 (ni kd)), (q 3, ia Z 6 (ni am)), (q 4, ia Z 6 (ni st)), (q 5, ia Z 6 (ni rg)), cO (u 3) qt y15 y26 y37 y48 y59 y610, (qt 0, ia Z 12 (ni Kx11)), (qt 1, ia Z 12 (ni Px12)), (qt 2, ia Z 6 (ni kx13)), (qt 3, ia Z 6 (ni mx14)), (qt 4, ia Z 6 (ni sx15)), (qt 5, ia Z 6 (ni gx16)), (u 6, ia Z 4 (ni U117)), (u 7, ia Z 4 (ni U218))] 0 0
          have hUU := f19
          have hTW : ∀ k, k < 8 → tw U117 U218 k = hT A (nt a) (nt b) k := fun k hk => by unfold tw hT; split <;> first | exact (hUU k (by omega)).1 | exact (hUU (k - 4) (by omega)).2
          have hb1 : ∀ k, k < 4 → U117 k < 1000 := fun k hk => by rw [(hUU k hk).1]; have := tkn_le (nt a) 8 (va_up A 6 k); omega
          have hb2 : ∀ k, k < 4 → U218 k < 1000 := fun k hk => by rw [(hUU k hk).2]; have := tkn_le (nt b) 8 (va_up A 6 k); omega
          refine j_iconst hJ (q := 38) dX8_hands_37 rfl ki_0 ?_
          refine j_istore hJ (q := 40) (lvs' := [(4, .int (nI 0)), (0, .ref h), (1, .int (nI (nt a))), (2, .int (nI (nt b))), (3, .int c)]) dX8_hands_38 (by decide) rfl rfl ?_
          refine j_iconst hJ (q := 41) dX8_hands_40 rfl ki_0 ?_
          refine j_istore hJ (q := 43) (lvs' := [(5, .int (nI 0)), (4, .int (nI 0)), (0, .ref h), (1, .int (nI (nt a))), (2, .int (nI (nt b))), (3, .int c)]) dX8_hands_41 (by decide) rfl rfl ?_
          have L_43 : ∀ (fu_43 : Nat) (ct : Nat) (i : Nat), 4 - i < fu_43 → (i ≤ 4) → (ct ≤ 4 * i) → (hdF (hT A (nt a) (nt b)) c.toInt (16 - 4 * i) (4 * i) ct = hdF (hT A (nt a) (nt b)) c.toInt 16 0 0) → J 43 [(0, .ref h), (1, .int (nI (nt a))), (2, .int (nI (nt b))), (3, .int c), (4, .int (nI ct)), (5, .int (nI i))] [] [xO h u ab be (Rf 0) (Rf 1) (Rf 2), (u 0, .inr (4, [.ref (s 0), .ref (s 1), .ref (s 3), .ref (s 5), .ref (s 7)])), cO (s 0) q (A 21) (A 5) (A 6) (A 7) (A 8) (A 0), (q 0, ia Z 12 (ni K)), (q 1, ia Z 12 (ni P)), (q 2, ia Z 6 (ni kd)), (q 3, ia Z 6 (ni am)), (q 4, ia Z 6 (ni st)), (q 5, ia Z 6 (ni rg)), cO (u 3) qt y15 y26 y37 y48 y59 y610, (qt 0, ia Z 12 (ni Kx11)), (qt 1, ia Z 12 (ni Px12)), (qt 2, ia Z 6 (ni kx13)), (qt 3, ia Z 6 (ni mx14)), (qt 4, ia Z 6 (ni sx15)), (qt 5, ia Z 6 (ni gx16)), (u 6, ia Z 4 (ni U117)), (u 7, ia Z 4 (ni U218))] 0 0 := by
            intro fu_43
            induction fu_43 with
            | zero => intro ct i hm; exact absurd hm (Nat.not_lt_zero _)
            | succ fu_43 ih_43 =>
              intro ct i hm_43 hi hct hF
              refine j_iload hJ (q := 45) dX8_hands_43 5 rfl rfl ?_
              refine j_iconst hJ (q := 46) dX8_hands_45 rfl ki_3 ?_
              refine jn_icmp_gt hJ (q := 49) (tgt := 99) dX8_hands_46 (by decide) rfl (by omega) (by omega) (fun c20 => ?_) (fun c20 => ?_)
              · skip
                refine j_iload_n hJ (q := 100) dX8_hands_99 rfl 3 rfl rfl ?_
                refine j_iconst hJ (q := 101) dX8_hands_100 rfl ki_m1 ?_
                refine jz_icmp_ne hJ (q := 104) (tgt := 109) dX8_hands_101 (by decide) rfl (zI_of c) rfl (zI_rng c) (by omega) (fun c21 => ?_) (fun c21 => ?_)
                · skip
                  refine j_bipush hJ (q := 111) dX8_hands_109 rfl kb_m5 ?_
                  have hP0 : pHands A a b c := by simp only [rgI, isS, isR, pNote, pMark, pFast, pLever, pHands, pSlip, pEven]; omega
                  have hRh : hdF (hT A (nt a) (nt b)) c.toInt 16 0 0 = .inr ct := by rw [← hF, show 16 - 4 * i = 0 by omega]; rfl
                  exact hE.1 _ _ _ _ _ _ _ rfl rfl dX8_hands_111 (Nat.le_refl _) (Nat.le_refl _) (⟨y15, y26, y37, y48, y59, y610, Kx11, Px12, kx13, mx14, sx15, gx16, U117, U218, congrArg (fun z => some (Value.int (zI z))) (by simp only [z_hands, if_pos hP0]; rw [hRh]; simp only [lvz]; rw [if_neg (by omega)]), by rw [if_pos hP0] <;> rfl⟩)
                · skip
                  refine j_iload hJ (q := 106) dX8_hands_104 4 rfl rfl ?_
                  refine j_goto hJ (q := 111) dX8_hands_106 (by decide) ?_
                  have hP0 : pHands A a b c := by simp only [rgI, isS, isR, pNote, pMark, pFast, pLever, pHands, pSlip, pEven]; omega
                  have hRh : hdF (hT A (nt a) (nt b)) c.toInt 16 0 0 = .inr ct := by rw [← hF, show 16 - 4 * i = 0 by omega]; rfl
                  exact hE.1 _ _ _ _ _ _ _ rfl rfl dX8_hands_111 (Nat.le_refl _) (Nat.le_refl _) (⟨y15, y26, y37, y48, y59, y610, Kx11, Px12, kx13, mx14, sx15, gx16, U117, U218, congrArg (fun z => some (Value.int z)) ((zI_nat _).symm.trans (congrArg zI (by simp only [z_hands, if_pos hP0]; rw [hRh]; simp only [lvz]; rw [if_pos (by omega)]))), by rw [if_pos hP0] <;> rfl⟩)
              · skip
                refine j_iconst hJ (q := 50) dX8_hands_49 rfl ki_0 ?_
                refine j_istore hJ (q := 52) (lvs' := [(6, .int (nI 0)), (0, .ref h), (1, .int (nI (nt a))), (2, .int (nI (nt b))), (3, .int c), (4, .int (nI ct)), (5, .int (nI i))]) dX8_hands_50 (by decide) rfl rfl ?_
                have L_52 : ∀ (fu_52 : Nat) (cu : Nat) (j : Nat), 4 - j < fu_52 → (j ≤ 4) → (cu ≤ 4 * i + j) → (hdF (hT A (nt a) (nt b)) c.toInt (16 - (4 * i + j)) (4 * i + j) cu = hdF (hT A (nt a) (nt b)) c.toInt 16 0 0) → J 52 [(0, .ref h), (1, .int (nI (nt a))), (2, .int (nI (nt b))), (3, .int c), (4, .int (nI cu)), (5, .int (nI i)), (6, .int (nI j))] [] [xO h u ab be (Rf 0) (Rf 1) (Rf 2), (u 0, .inr (4, [.ref (s 0), .ref (s 1), .ref (s 3), .ref (s 5), .ref (s 7)])), cO (s 0) q (A 21) (A 5) (A 6) (A 7) (A 8) (A 0), (q 0, ia Z 12 (ni K)), (q 1, ia Z 12 (ni P)), (q 2, ia Z 6 (ni kd)), (q 3, ia Z 6 (ni am)), (q 4, ia Z 6 (ni st)), (q 5, ia Z 6 (ni rg)), cO (u 3) qt y15 y26 y37 y48 y59 y610, (qt 0, ia Z 12 (ni Kx11)), (qt 1, ia Z 12 (ni Px12)), (qt 2, ia Z 6 (ni kx13)), (qt 3, ia Z 6 (ni mx14)), (qt 4, ia Z 6 (ni sx15)), (qt 5, ia Z 6 (ni gx16)), (u 6, ia Z 4 (ni U117)), (u 7, ia Z 4 (ni U218))] 0 0 := by
                  intro fu_52
                  induction fu_52 with
                  | zero => intro cu j hm; exact absurd hm (Nat.not_lt_zero _)
                  | succ fu_52 ih_52 =>
                    intro cu j hm_52 hj hcu hF2
                    refine j_iload hJ (q := 54) dX8_hands_52 6 rfl rfl ?_
                    refine j_iconst hJ (q := 55) dX8_hands_54 rfl ki_3 ?_
                    refine jn_icmp_gt hJ (q := 58) (tgt := 93) dX8_hands_55 (by decide) rfl (by omega) (by omega) (fun c22 => ?_) (fun c22 => ?_)
                    · skip
                      refine j_iinc hJ (q := 96) (lvs' := [(5, .int (nI (i + 1))), (0, .ref h), (1, .int (nI (nt a))), (2, .int (nI (nt b))), (3, .int c), (4, .int (nI cu)), (6, .int (nI j))]) dX8_hands_93 5 rfl (by rw [show Int32.ofInt 1 = nI 1 from by decide +kernel]; exact nI_add _ _) (by decide) rfl rfl ?_
                      refine j_goto hJ (q := 43) dX8_hands_96 (by decide) ?_
                      refine j_locals hJ [1, 2, 3, 4, 5, 0] rfl ?_
                      exact ih_43 cu (i + 1) (by omega) (by omega) (by omega) (by rw [← hF2, show j = 4 by omega]; rfl)
                    · skip
                      have hrs2 : rstN (hT A (nt a) (nt b)) ((4 * i + j) / 4) ((4 * i + j) % 4) 4 = rstN (tw U117 U218) i j 4 := by rw [show (4 * i + j) / 4 = i by omega, show (4 * i + j) % 4 = j by omega]; exact rstN_ext (by omega) (by omega) (fun k hk => (hTW k hk).symm) 4 (Nat.le_refl _)
                      refine j_aload_n hJ (q := 59) dX8_hands_58 rfl 0 rfl rfl ?_
                      refine j_iload hJ (q := 61) dX8_hands_59 5 rfl rfl ?_
                      refine j_iload hJ (q := 63) dX8_hands_61 6 rfl rfl ?_
                      refine j_vR hJ (q := 66) (rest := []) (As := [.int (nI i), .int (nI j)]) jl_X8_229 (c_X8_pairRests Z h u ab be Rf U117 U218 i j (by omega) (by omega) hb1 hb2) 0 rfl rfl dX8_hands_63 rfl (by decide) (Nat.le_of_ble_eq_true rfl) [0, 16, 17] rfl rfl (fun rv hp => ?_)
                      obtain rfl := hp
                      show J 66 [(0, .ref h), (1, .int (nI (nt a))), (2, .int (nI (nt b))), (3, .int c), (4, .int (nI cu)), (5, .int (nI i)), (6, .int (nI j))] [.int (bI (rstN (tw U117 U218) i j 4))] [xO h u ab be (Rf 0) (Rf 1) (Rf 2), (u 0, .inr (4, [.ref (s 0), .ref (s 1), .ref (s 3), .ref (s 5), .ref (s 7)])), cO (s 0) q (A 21) (A 5) (A 6) (A 7) (A 8) (A 0), (q 0, ia Z 12 (ni K)), (q 1, ia Z 12 (ni P)), (q 2, ia Z 6 (ni kd)), (q 3, ia Z 6 (ni am)), (q 4, ia Z 6 (ni st)), (q 5, ia Z 6 (ni rg)), cO (u 3) qt y15 y26 y37 y48 y59 y610, (qt 0, ia Z 12 (ni Kx11)), (qt 1, ia Z 12 (ni Px12)), (qt 2, ia Z 6 (ni kx13)), (qt 3, ia Z 6 (ni mx14)), (qt 4, ia Z 6 (ni sx15)), (qt 5, ia Z 6 (ni gx16)), (u 6, ia Z 4 (ni U117)), (u 7, ia Z 4 (ni U218))] 0 0
                      refine jb_if_eq hJ (q := 69) (tgt := 87) dX8_hands_66 (by decide) rfl (fun c23 => ?_) (fun c23 => ?_)
                      · skip
                        refine j_iinc hJ (q := 90) (lvs' := [(6, .int (nI (j + 1))), (0, .ref h), (1, .int (nI (nt a))), (2, .int (nI (nt b))), (3, .int c), (4, .int (nI cu)), (5, .int (nI i))]) dX8_hands_87 6 rfl (by rw [show Int32.ofInt 1 = nI 1 from by decide +kernel]; exact nI_add _ _) (by decide) rfl rfl ?_
                        refine j_goto hJ (q := 52) dX8_hands_90 (by decide) ?_
                        refine j_locals hJ [1, 2, 3, 4, 5, 6, 0] rfl ?_
                        exact ih_52 cu (j + 1) (by omega) (by omega) (by omega) ((hd_n2 (cd := 4 * i + j) (by omega) (by rw [hrs2]; simp_all)).symm.trans hF2)
                      · skip
                        refine j_iload hJ (q := 71) dX8_hands_69 4 rfl rfl ?_
                        refine j_iload_n hJ (q := 72) dX8_hands_71 rfl 3 rfl rfl ?_
                        refine jz_icmp_ne hJ (q := 75) (tgt := 84) dX8_hands_72 (by decide) rfl (zI_nat cu).symm (zI_of c) (by omega) (zI_rng c) (fun c24 => ?_) (fun c24 => ?_)
                        · skip
                          refine j_iinc hJ (q := 87) (lvs' := [(4, .int (nI (cu + 1))), (0, .ref h), (1, .int (nI (nt a))), (2, .int (nI (nt b))), (3, .int c), (5, .int (nI i)), (6, .int (nI j))]) dX8_hands_84 4 rfl (by rw [show Int32.ofInt 1 = nI 1 from by decide +kernel]; exact nI_add _ _) (by decide) rfl rfl ?_
                          refine j_iinc hJ (q := 90) (lvs' := [(6, .int (nI (j + 1))), (4, .int (nI (cu + 1))), (0, .ref h), (1, .int (nI (nt a))), (2, .int (nI (nt b))), (3, .int c), (5, .int (nI i))]) dX8_hands_87 6 rfl (by rw [show Int32.ofInt 1 = nI 1 from by decide +kernel]; exact nI_add _ _) (by decide) rfl rfl ?_
                          refine j_goto hJ (q := 52) dX8_hands_90 (by decide) ?_
                          refine j_locals hJ [2, 3, 4, 5, 1, 6, 0] rfl ?_
                          exact ih_52 (cu + 1) (j + 1) (by omega) (by omega) (by omega) ((hd_n1 (cd := 4 * i + j) (by omega) (hrs2.trans (by assumption)) (by omega)).symm.trans hF2)
                        · skip
                          refine j_bipush hJ (q := 77) dX8_hands_75 rfl kb_10 ?_
                          refine j_iload hJ (q := 79) dX8_hands_77 5 rfl rfl ?_
                          refine j_imul hJ (q := 80) dX8_hands_79 rfl (pk_mul _ _) ?_
                          refine j_iload hJ (q := 82) dX8_hands_80 6 rfl rfl ?_
                          refine j_iadd hJ (q := 83) dX8_hands_82 rfl (nI_add _ _) ?_
                          have hP0 : pHands A a b c := by simp only [rgI, isS, isR, pNote, pMark, pFast, pLever, pHands, pSlip, pEven]; omega
                          have hRh : hdF (hT A (nt a) (nt b)) c.toInt 16 0 0 = .inl (10 * i + j) := by rw [← hF2, hd_y (by omega) (hrs2.trans (by assumption)) (by omega)]; congr 1; omega
                          exact hE.1 _ _ _ _ _ _ _ rfl rfl dX8_hands_83 (Nat.le_refl _) (Nat.le_refl _) (⟨y15, y26, y37, y48, y59, y610, Kx11, Px12, kx13, mx14, sx15, gx16, U117, U218, congrArg (fun z => some (Value.int z)) ((zI_nat _).symm.trans (congrArg zI (by simp only [z_hands, if_pos hP0]; rw [hRh]; rfl))), by rw [if_pos hP0] <;> rfl⟩)
                refine j_locals hJ [1, 2, 3, 4, 5, 6, 0] rfl ?_
                exact L_52 ((4 - 0) + 1) ct 0 (Nat.lt_succ_self _) (by omega) (by omega) hF
          refine j_locals hJ [2, 3, 4, 5, 1, 0] rfl ?_
          exact L_43 ((4 - 0) + 1) 0 0 (Nat.lt_succ_self _) (by omega) (by omega) rfl
        · skip
          refine j_aload_n hJ (q := 27) dX8_hands_26 rfl 0 rfl rfl ?_
          refine j_vW hJ (q := 30) (rest := []) (As := []) (wr := [(u 0, .inr (4, [.ref (s 0), .ref (s 1), .ref (s 3), .ref (s 5), .ref (s 7)])), cO (s 0) q (A 21) (A 5) (A 6) (A 7) (A 8) (A 0), (q 0, ia Z 12 (ni K)), (q 1, ia Z 12 (ni P)), (q 2, ia Z 6 (ni kd)), (q 3, ia Z 6 (ni am)), (q 4, ia Z 6 (ni st)), (q 5, ia Z 6 (ni rg)), cO (u 3) qt t1 t2 t3 t4 t5 t6, (qt 0, ia Z 12 (ni Kt)), (qt 1, ia Z 12 (ni Pt)), (qt 2, ia Z 6 (ni kt)), (qt 3, ia Z 6 (ni mt)), (qt 4, ia Z 6 (ni stt)), (qt 5, ia Z 6 (ni gt)), (u 6, ia Z 4 (ni T1)), (u 7, ia Z 4 (ni T2))]) jl_X8_175 (c_X8_badOfList Z h u ab be Rf ) 0 rfl rfl dX8_hands_27 rfl (by decide) (Nat.le_of_ble_eq_true rfl) [0] [1, 2, 3, 4, 5, 6, 7, 8, 9, 10, 11, 12, 13, 14, 15, 16, 17] rfl rfl rfl rfl (by decide) rfl (fun rv wv hp => ?_)
          obtain ⟨rfl, rfl⟩ := hp
          refine j_world hJ (ws' := [xO h u ab be ((bmp Rf 0) 0) ((bmp Rf 0) 1) ((bmp Rf 0) 2), (u 0, .inr (4, [.ref (s 0), .ref (s 1), .ref (s 3), .ref (s 5), .ref (s 7)])), cO (s 0) q (A 21) (A 5) (A 6) (A 7) (A 8) (A 0), (q 0, ia Z 12 (ni K)), (q 1, ia Z 12 (ni P)), (q 2, ia Z 6 (ni kd)), (q 3, ia Z 6 (ni am)), (q 4, ia Z 6 (ni st)), (q 5, ia Z 6 (ni rg)), cO (u 3) qt t1 t2 t3 t4 t5 t6, (qt 0, ia Z 12 (ni Kt)), (qt 1, ia Z 12 (ni Pt)), (qt 2, ia Z 6 (ni kt)), (qt 3, ia Z 6 (ni mt)), (qt 4, ia Z 6 (ni stt)), (qt 5, ia Z 6 (ni gt)), (u 6, ia Z 4 (ni T1)), (u 7, ia Z 4 (ni T2))]) [17, 0, 1, 2, 3, 4, 5, 6, 7, 8, 9, 10, 11, 12, 13, 14, 15, 16] rfl rfl ?_
          show J 30 [(0, .ref h), (1, .int a), (2, .int b), (3, .int c)] [.int (zI (-10))] [xO h u ab be ((bmp Rf 0) 0) ((bmp Rf 0) 1) ((bmp Rf 0) 2), (u 0, .inr (4, [.ref (s 0), .ref (s 1), .ref (s 3), .ref (s 5), .ref (s 7)])), cO (s 0) q (A 21) (A 5) (A 6) (A 7) (A 8) (A 0), (q 0, ia Z 12 (ni K)), (q 1, ia Z 12 (ni P)), (q 2, ia Z 6 (ni kd)), (q 3, ia Z 6 (ni am)), (q 4, ia Z 6 (ni st)), (q 5, ia Z 6 (ni rg)), cO (u 3) qt t1 t2 t3 t4 t5 t6, (qt 0, ia Z 12 (ni Kt)), (qt 1, ia Z 12 (ni Pt)), (qt 2, ia Z 6 (ni kt)), (qt 3, ia Z 6 (ni mt)), (qt 4, ia Z 6 (ni stt)), (qt 5, ia Z 6 (ni gt)), (u 6, ia Z 4 (ni T1)), (u 7, ia Z 4 (ni T2))] 0 0
          have hP0 : ¬ pHands A a b c := by simp only [rgI, isS, isR, pNote, pMark, pFast, pLever, pHands, pSlip, pEven]; omega
          exact hE.1 _ _ _ _ _ _ _ rfl rfl dX8_hands_30 (Nat.le_refl _) (Nat.le_refl _) (⟨t1, t2, t3, t4, t5, t6, Kt, Pt, kt, mt, stt, gt, T1, T2, congrArg (fun z => some (Value.int (zI z))) (by simp only [z_hands, if_neg hP0]), by rw [if_neg hP0] <;> rfl⟩)
