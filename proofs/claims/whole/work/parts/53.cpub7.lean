set_option maxHeartbeats 4000000 in
set_option maxRecDepth 100000 in
theorem c_X8_pairRests (Z : jZ) (h : Nat) (u : Nat → Nat) (ab : Int) (be : Int) (Rf : Nat → Nat) (T1 : Nat → Nat) (T2 : Nat → Nat) (i : Nat) (j : Nat) (hi : i < 4) (hj : j < 4) (hb1 : ∀ k, k < 4 → T1 k < 1000) (hb2 : ∀ k, k < 4 → T2 k < 1000) : CR Z yX8_pairRests cX8_pairRests 6 ((some FieldType.boolean)) 1 [.ref h, .int (nI i), .int (nI j)] [xO h u ab be (Rf 0) (Rf 1) (Rf 2), (u 6, ia Z 4 (ni T1)), (u 7, ia Z 4 (ni T2))] (fun rr => rr = some (.int (bI (rstN (tw T1 T2) i j 4)))) := by
  refine CR.of RX8 rfl (by decide +kernel) (Nat.le_of_ble_eq_true rfl) ?_
  intro J hJ hE
  show J 0 [(0, .ref h), (1, .int (nI i)), (2, .int (nI j))] [] [xO h u ab be (Rf 0) (Rf 1) (Rf 2), (u 6, ia Z 4 (ni T1)), (u 7, ia Z 4 (ni T2))] 0 0
  have q1 := hb1 ((i + j) / 2) (by omega)
  have q2 := hb2 ((i + j) / 2) (by omega)
  have e1 : gts (tw T1 T2) 0 i (i + j) = ((2 * T1 ((i + j) / 2) : Nat) : Int) - (i : Int) := by unfold gts; rw [tw_lo (by omega)]
  have e2 : gts (tw T1 T2) 1 j (i + j) = ((2 * T2 ((i + j) / 2) : Nat) : Int) - (j : Int) := by unfold gts; rw [tw_hi (by omega)]
  refine j_iconst hJ (q := 1) dX8_pairRests_0 rfl ki_2 ?_
  refine j_aload_n hJ (q := 2) dX8_pairRests_1 rfl 0 rfl rfl ?_
  refine j_get hJ (q := 5) jf_X8_52 dX8_pairRests_2 0 rfl rfl rfl ?_
  refine j_iload_n hJ (q := 6) dX8_pairRests_5 rfl 1 rfl rfl ?_
  refine j_iload_n hJ (q := 7) dX8_pairRests_6 rfl 2 rfl rfl ?_
  refine j_iadd hJ (q := 8) dX8_pairRests_7 rfl (nI_add _ _) ?_
  refine j_iconst hJ (q := 9) dX8_pairRests_8 rfl ki_2 ?_
  refine j_idiv hJ (q := 10) dX8_pairRests_9 rfl (nI_ne0 (by omega) (by omega)) (pk_div (by omega) (by omega) (by omega)) ?_
  refine j_ialdN hJ (q := 11) (z := nI (T1 ((i + j) / 2))) dX8_pairRests_10 1 rfl (by omega) (by decide) rfl rfl ?_
  refine j_imul hJ (q := 12) dX8_pairRests_11 rfl (pk_mul _ _) ?_
  refine j_iload_n hJ (q := 13) dX8_pairRests_12 rfl 1 rfl rfl ?_
  refine j_isub hJ (q := 14) dX8_pairRests_13 rfl (zI_sub (zI_nat (2 * (T1 ((i + j) / 2)))).symm (zI_nat i).symm) ?_
  refine j_istore_n hJ (q := 15) (lvs' := [(3, .int (zI (((2 * (T1 ((i + j) / 2))) : Int) - (i : Int)))), (0, .ref h), (1, .int (nI i)), (2, .int (nI j))]) dX8_pairRests_14 rfl (by decide) rfl rfl ?_
  refine j_iconst hJ (q := 16) dX8_pairRests_15 rfl ki_2 ?_
  refine j_aload_n hJ (q := 17) dX8_pairRests_16 rfl 1 rfl rfl ?_
  refine j_get hJ (q := 20) jf_X8_55 dX8_pairRests_17 0 rfl rfl rfl ?_
  refine j_iload_n hJ (q := 21) dX8_pairRests_20 rfl 2 rfl rfl ?_
  refine j_iload_n hJ (q := 22) dX8_pairRests_21 rfl 3 rfl rfl ?_
  refine j_iadd hJ (q := 23) dX8_pairRests_22 rfl (nI_add _ _) ?_
  refine j_iconst hJ (q := 24) dX8_pairRests_23 rfl ki_2 ?_
  refine j_idiv hJ (q := 25) dX8_pairRests_24 rfl (nI_ne0 (by omega) (by omega)) (pk_div (by omega) (by omega) (by omega)) ?_
  refine j_ialdN hJ (q := 26) (z := nI (T2 ((i + j) / 2))) dX8_pairRests_25 2 rfl (by omega) (by decide) rfl rfl ?_
  refine j_imul hJ (q := 27) dX8_pairRests_26 rfl (pk_mul _ _) ?_
  refine j_iload_n hJ (q := 28) dX8_pairRests_27 rfl 3 rfl rfl ?_
  refine j_isub hJ (q := 29) dX8_pairRests_28 rfl (zI_sub (zI_nat (2 * (T2 ((i + j) / 2)))).symm (zI_nat j).symm) ?_
  refine j_istore hJ (q := 31) (lvs' := [(4, .int (zI (((2 * (T2 ((i + j) / 2))) : Int) - (j : Int)))), (3, .int (zI (((2 * (T1 ((i + j) / 2))) : Int) - (i : Int)))), (0, .ref h), (1, .int (nI i)), (2, .int (nI j))]) dX8_pairRests_29 (by decide) rfl rfl ?_
  refine j_iconst hJ (q := 32) dX8_pairRests_31 rfl ki_0 ?_
  refine j_istore hJ (q := 34) (lvs' := [(5, .int (nI 0)), (4, .int (zI (((2 * (T2 ((i + j) / 2))) : Int) - (j : Int)))), (3, .int (zI (((2 * (T1 ((i + j) / 2))) : Int) - (i : Int)))), (0, .ref h), (1, .int (nI i)), (2, .int (nI j))]) dX8_pairRests_32 (by decide) rfl rfl ?_
  have L_34 : ∀ (fu_34 : Nat) (v : Nat), 4 - v < fu_34 → (v ≤ 4) → (rstN (tw T1 T2) i j v = true) → J 34 [(0, .ref h), (1, .int (nI i)), (2, .int (nI j)), (3, .int (zI (((2 * (T1 ((i + j) / 2))) : Int) - (i : Int)))), (4, .int (zI (((2 * (T2 ((i + j) / 2))) : Int) - (j : Int)))), (5, .int (nI v))] [] [xO h u ab be (Rf 0) (Rf 1) (Rf 2), (u 6, ia Z 4 (ni T1)), (u 7, ia Z 4 (ni T2))] 0 0 := by
    intro fu_34
    induction fu_34 with
    | zero => intro v hm; exact absurd hm (Nat.not_lt_zero _)
    | succ fu_34 ih_34 =>
      intro v hm_34 hv hr
      refine j_iload hJ (q := 36) dX8_pairRests_34 5 rfl rfl ?_
      refine j_iconst hJ (q := 37) dX8_pairRests_36 rfl ki_3 ?_
      refine jn_icmp_gt hJ (q := 40) (tgt := 89) dX8_pairRests_37 (by decide) rfl (by omega) (by omega) (fun c1 => ?_) (fun c1 => ?_)
      · skip
        refine j_iconst hJ (q := 90) dX8_pairRests_89 rfl ki_1 ?_
        exact hE.1 _ _ _ _ _ _ _ rfl rfl dX8_pairRests_90 (Nat.le_refl _) (Nat.le_refl _) (congrArg (fun z => some (Value.int (bI z))) (show true = (rstN (tw T1 T2) i j 4) by rw [show v = 4 by omega] at hr; exact hr.symm))
      · skip
        have q3 := hb1 ((v + j) / 2) (by omega)
        have q4 := hb2 ((i + v) / 2) (by omega)
        have e3 : gts (tw T1 T2) 0 v (v + j) = ((2 * T1 ((v + j) / 2) : Nat) : Int) - (v : Int) := by unfold gts; rw [tw_lo (by omega)]
        have e4 : gts (tw T1 T2) 1 v (i + v) = ((2 * T2 ((i + v) / 2) : Nat) : Int) - (v : Int) := by unfold gts; rw [tw_hi (by omega)]
        refine j_iconst hJ (q := 41) dX8_pairRests_40 rfl ki_2 ?_
        refine j_aload_n hJ (q := 42) dX8_pairRests_41 rfl 0 rfl rfl ?_
        refine j_get hJ (q := 45) jf_X8_52 dX8_pairRests_42 0 rfl rfl rfl ?_
        refine j_iload hJ (q := 47) dX8_pairRests_45 5 rfl rfl ?_
        refine j_iload_n hJ (q := 48) dX8_pairRests_47 rfl 2 rfl rfl ?_
        refine j_iadd hJ (q := 49) dX8_pairRests_48 rfl (nI_add _ _) ?_
        refine j_iconst hJ (q := 50) dX8_pairRests_49 rfl ki_2 ?_
        refine j_idiv hJ (q := 51) dX8_pairRests_50 rfl (nI_ne0 (by omega) (by omega)) (pk_div (by omega) (by omega) (by omega)) ?_
        refine j_ialdN hJ (q := 52) (z := nI (T1 ((v + j) / 2))) dX8_pairRests_51 1 rfl (by omega) (by decide) rfl rfl ?_
        refine j_imul hJ (q := 53) dX8_pairRests_52 rfl (pk_mul _ _) ?_
        refine j_iload hJ (q := 55) dX8_pairRests_53 5 rfl rfl ?_
        refine j_isub hJ (q := 56) dX8_pairRests_55 rfl (zI_sub (zI_nat (2 * (T1 ((v + j) / 2)))).symm (zI_nat v).symm) ?_
        refine j_iload_n hJ (q := 57) dX8_pairRests_56 rfl 3 rfl rfl ?_
        refine jz_icmp_gt hJ (q := 60) (tgt := 81) dX8_pairRests_57 (by decide) rfl rfl rfl (by omega) (by omega) (fun c2 => ?_) (fun c2 => ?_)
        · skip
          refine j_iconst hJ (q := 82) dX8_pairRests_81 rfl ki_0 ?_
          exact hE.1 _ _ _ _ _ _ _ rfl rfl dX8_pairRests_82 (Nat.le_refl _) (Nat.le_refl _) (congrArg (fun z => some (Value.int (bI z))) (show false = (rstN (tw T1 T2) i j 4) by exact (rstN_f (k := v + 1) (by simp only [rstN]; first | (rw [decide_eq_false (show ¬ gts (tw T1 T2) 0 v (v + j) ≤ gts (tw T1 T2) 0 i (i + j) by omega), Bool.false_and, Bool.and_false]; done) | (rw [decide_eq_false (show ¬ gts (tw T1 T2) 1 v (i + v) ≤ gts (tw T1 T2) 1 j (i + j) by omega), Bool.and_false, Bool.and_false]; done)) 4 (by omega)).symm))
        · skip
          refine j_iconst hJ (q := 61) dX8_pairRests_60 rfl ki_2 ?_
          refine j_aload_n hJ (q := 62) dX8_pairRests_61 rfl 0 rfl rfl ?_
          refine j_get hJ (q := 65) jf_X8_55 dX8_pairRests_62 0 rfl rfl rfl ?_
          refine j_iload_n hJ (q := 66) dX8_pairRests_65 rfl 1 rfl rfl ?_
          refine j_iload hJ (q := 68) dX8_pairRests_66 5 rfl rfl ?_
          refine j_iadd hJ (q := 69) dX8_pairRests_68 rfl (nI_add _ _) ?_
          refine j_iconst hJ (q := 70) dX8_pairRests_69 rfl ki_2 ?_
          refine j_idiv hJ (q := 71) dX8_pairRests_70 rfl (nI_ne0 (by omega) (by omega)) (pk_div (by omega) (by omega) (by omega)) ?_
          refine j_ialdN hJ (q := 72) (z := nI (T2 ((i + v) / 2))) dX8_pairRests_71 2 rfl (by omega) (by decide) rfl rfl ?_
          refine j_imul hJ (q := 73) dX8_pairRests_72 rfl (pk_mul _ _) ?_
          refine j_iload hJ (q := 75) dX8_pairRests_73 5 rfl rfl ?_
          refine j_isub hJ (q := 76) dX8_pairRests_75 rfl (zI_sub (zI_nat (2 * (T2 ((i + v) / 2)))).symm (zI_nat v).symm) ?_
          refine j_iload hJ (q := 78) dX8_pairRests_76 4 rfl rfl ?_
          refine jz_icmp_le hJ (q := 81) (tgt := 83) dX8_pairRests_78 (by decide) rfl rfl rfl (by omega) (by omega) (fun c3 => ?_) (fun c3 => ?_)
          · skip
            refine j_iinc hJ (q := 86) (lvs' := [(5, .int (nI (v + 1))), (0, .ref h), (1, .int (nI i)), (2, .int (nI j)), (3, .int (zI (((2 * (T1 ((i + j) / 2))) : Int) - (i : Int)))), (4, .int (zI (((2 * (T2 ((i + j) / 2))) : Int) - (j : Int))))]) dX8_pairRests_83 5 rfl (by rw [show Int32.ofInt 1 = nI 1 from by decide +kernel]; exact nI_add _ _) (by decide) rfl rfl ?_
            refine j_goto hJ (q := 34) dX8_pairRests_86 (by decide) ?_
            refine j_locals hJ [1, 2, 3, 4, 5, 0] rfl ?_
            exact ih_34 (v + 1) (by omega) (by omega) (by simp only [rstN]; rw [hr, decide_eq_true (show gts (tw T1 T2) 0 v (v + j) ≤ gts (tw T1 T2) 0 i (i + j) by omega), decide_eq_true (show gts (tw T1 T2) 1 v (i + v) ≤ gts (tw T1 T2) 1 j (i + j) by omega)]; rfl)
          · skip
            refine j_iconst hJ (q := 82) dX8_pairRests_81 rfl ki_0 ?_
            exact hE.1 _ _ _ _ _ _ _ rfl rfl dX8_pairRests_82 (Nat.le_refl _) (Nat.le_refl _) (congrArg (fun z => some (Value.int (bI z))) (show false = (rstN (tw T1 T2) i j 4) by exact (rstN_f (k := v + 1) (by simp only [rstN]; first | (rw [decide_eq_false (show ¬ gts (tw T1 T2) 0 v (v + j) ≤ gts (tw T1 T2) 0 i (i + j) by omega), Bool.false_and, Bool.and_false]; done) | (rw [decide_eq_false (show ¬ gts (tw T1 T2) 1 v (i + v) ≤ gts (tw T1 T2) 1 j (i + j) by omega), Bool.and_false, Bool.and_false]; done)) 4 (by omega)).symm))
  refine j_locals hJ [3, 4, 5, 2, 1, 0] rfl ?_
  exact L_34 ((4 - 0) + 1) 0 (Nat.lt_succ_self _) (by omega) rfl

set_option maxHeartbeats 4000000 in
set_option maxRecDepth 100000 in
theorem c_X8_runHands (Z : jZ) (h : Nat) (u : Nat → Nat) (ab : Int) (be : Int) (Rf : Nat → Nat) (s : Nat → Nat) (q : Nat → Nat) (A : Nat → Nat) (K : Nat → Nat) (P : Nat → Nat) (kd : Nat → Nat) (am : Nat → Nat) (st : Nat → Nat) (rg : Nat → Nat) (qt : Nat → Nat) (t1 : Nat) (t2 : Nat) (t3 : Nat) (t4 : Nat) (t5 : Nat) (t6 : Nat) (Kt : Nat → Nat) (Pt : Nat → Nat) (kt : Nat → Nat) (mt : Nat → Nat) (stt : Nat → Nat) (gt : Nat → Nat) (T1 : Nat → Nat) (T2 : Nat → Nat) (a : Nat) (b : Nat) (hg : wg A) (hR : rR A K P kd am st rg) (h1 : a < A 0) (h2 : b < A 0) (h3 : a ≠ b) : CT Z yX8_runHands cX8_runHands 6 (none) 6 0 0 [.ref h, .int (nI a), .int (nI b)] [xO h u ab be (Rf 0) (Rf 1) (Rf 2), (u 0, .inr (4, [.ref (s 0), .ref (s 1), .ref (s 3), .ref (s 5), .ref (s 7)])), cO (s 0) q (A 21) (A 5) (A 6) (A 7) (A 8) (A 0), (q 0, ia Z 12 (ni K)), (q 1, ia Z 12 (ni P)), (q 2, ia Z 6 (ni kd)), (q 3, ia Z 6 (ni am)), (q 4, ia Z 6 (ni st)), (q 5, ia Z 6 (ni rg)), cO (u 3) qt t1 t2 t3 t4 t5 t6, (qt 0, ia Z 12 (ni Kt)), (qt 1, ia Z 12 (ni Pt)), (qt 2, ia Z 6 (ni kt)), (qt 3, ia Z 6 (ni mt)), (qt 4, ia Z 6 (ni stt)), (qt 5, ia Z 6 (ni gt)), (u 6, ia Z 4 (ni T1)), (u 7, ia Z 4 (ni T2))] (fun rr ww => ∃ y1 : Nat, ∃ y2 : Nat, ∃ y3 : Nat, ∃ y4 : Nat, ∃ y5 : Nat, ∃ y6 : Nat, ∃ Kx : Nat → Nat, ∃ Px : Nat → Nat, ∃ kx : Nat → Nat, ∃ mx : Nat → Nat, ∃ sx : Nat → Nat, ∃ gx : Nat → Nat, ∃ U1 : Nat → Nat, ∃ U2 : Nat → Nat, rr = none ∧ ww = [xO h u ab be (Rf 0) (Rf 1) (Rf 2), (u 0, .inr (4, [.ref (s 0), .ref (s 1), .ref (s 3), .ref (s 5), .ref (s 7)])), cO (s 0) q (A 21) (A 5) (A 6) (A 7) (A 8) (A 0), (q 0, ia Z 12 (ni K)), (q 1, ia Z 12 (ni P)), (q 2, ia Z 6 (ni kd)), (q 3, ia Z 6 (ni am)), (q 4, ia Z 6 (ni st)), (q 5, ia Z 6 (ni rg)), cO (u 3) qt y1 y2 y3 y4 y5 y6, (qt 0, ia Z 12 (ni Kx)), (qt 1, ia Z 12 (ni Px)), (qt 2, ia Z 6 (ni kx)), (qt 3, ia Z 6 (ni mx)), (qt 4, ia Z 6 (ni sx)), (qt 5, ia Z 6 (ni gx)), (u 6, ia Z 4 (ni U1)), (u 7, ia Z 4 (ni U2))] ∧ (∀ j, j < 4 → U1 j = tkn a 8 (va_up A 6 j) ∧ U2 j = tkn b 8 (va_up A 6 j))) := by
  refine CT.of RX8 false rfl (fun h => by cases h) (by decide +kernel) (Nat.le_of_ble_eq_true rfl) ?_
  intro J hJ hE
  show J 0 [(0, .ref h), (1, .int (nI a)), (2, .int (nI b))] [] [xO h u ab be (Rf 0) (Rf 1) (Rf 2), (u 0, .inr (4, [.ref (s 0), .ref (s 1), .ref (s 3), .ref (s 5), .ref (s 7)])), cO (s 0) q (A 21) (A 5) (A 6) (A 7) (A 8) (A 0), (q 0, ia Z 12 (ni K)), (q 1, ia Z 12 (ni P)), (q 2, ia Z 6 (ni kd)), (q 3, ia Z 6 (ni am)), (q 4, ia Z 6 (ni st)), (q 5, ia Z 6 (ni rg)), cO (u 3) qt t1 t2 t3 t4 t5 t6, (qt 0, ia Z 12 (ni Kt)), (qt 1, ia Z 12 (ni Pt)), (qt 2, ia Z 6 (ni kt)), (qt 3, ia Z 6 (ni mt)), (qt 4, ia Z 6 (ni stt)), (qt 5, ia Z 6 (ni gt)), (u 6, ia Z 4 (ni T1)), (u 7, ia Z 4 (ni T2))] 0 0
  obtain ⟨hw, ⟨g1, g2, g3, g4, g8⟩, hrs, hrn, hrm, hpst⟩ := id hg
  obtain ⟨⟨w1, w2, w3, w4, w5, w6⟩, hb, wr, wh, wd⟩ := id hw
  refine j_iconst hJ (q := 1) dX8_runHands_0 rfl ki_0 ?_
  refine j_istore_n hJ (q := 2) (lvs' := [(3, .int (nI 0)), (0, .ref h), (1, .int (nI a)), (2, .int (nI b))]) dX8_runHands_1 rfl (by decide) rfl rfl ?_
  have L_2 : ∀ (fu_2 : Nat) (e1 : Nat) (e2 : Nat) (e3 : Nat) (e4 : Nat) (e5 : Nat) (e6 : Nat) (Ka : Nat → Nat) (Pa : Nat → Nat) (ka : Nat → Nat) (ma : Nat → Nat) (sa : Nat → Nat) (ga : Nat → Nat) (D1 : Nat → Nat) (D2 : Nat → Nat) (v : Nat), 4 - v < fu_2 → (v ≤ 4) → (∀ j, j < v → D1 j = tkn a 8 (va_up A 6 j) ∧ D2 j = tkn b 8 (va_up A 6 j)) → J 2 [(0, .ref h), (1, .int (nI a)), (2, .int (nI b)), (3, .int (nI v))] [] [xO h u ab be (Rf 0) (Rf 1) (Rf 2), (u 0, .inr (4, [.ref (s 0), .ref (s 1), .ref (s 3), .ref (s 5), .ref (s 7)])), cO (s 0) q (A 21) (A 5) (A 6) (A 7) (A 8) (A 0), (q 0, ia Z 12 (ni K)), (q 1, ia Z 12 (ni P)), (q 2, ia Z 6 (ni kd)), (q 3, ia Z 6 (ni am)), (q 4, ia Z 6 (ni st)), (q 5, ia Z 6 (ni rg)), cO (u 3) qt e1 e2 e3 e4 e5 e6, (qt 0, ia Z 12 (ni Ka)), (qt 1, ia Z 12 (ni Pa)), (qt 2, ia Z 6 (ni ka)), (qt 3, ia Z 6 (ni ma)), (qt 4, ia Z 6 (ni sa)), (qt 5, ia Z 6 (ni ga)), (u 6, ia Z 4 (ni D1)), (u 7, ia Z 4 (ni D2))] 0 0 := by
    intro fu_2
    induction fu_2 with
    | zero => intro e1 e2 e3 e4 e5 e6 Ka Pa ka ma sa ga D1 D2 v hm; exact absurd hm (Nat.not_lt_zero _)
    | succ fu_2 ih_2 =>
      intro e1 e2 e3 e4 e5 e6 Ka Pa ka ma sa ga D1 D2 v hm_2 hv hD
      refine j_iload_n hJ (q := 3) dX8_runHands_2 rfl 3 rfl rfl ?_
      refine j_iconst hJ (q := 4) dX8_runHands_3 rfl ki_4 ?_
      refine jn_icmp_ge hJ (q := 7) (tgt := 109) dX8_runHands_4 (by decide) rfl (by omega) (by omega) (fun c1 => ?_) (fun c1 => ?_)
      · skip
        exact hE.2.2 _ _ _ _ _ rfl dX8_runHands_109 (Nat.le_refl _) (Nat.le_refl _) (⟨e1, e2, e3, e4, e5, e6, Ka, Pa, ka, ma, sa, ga, D1, D2, rfl, rfl, fun j hj => hD j (by omega)⟩)
      · skip
        refine j_aload_n hJ (q := 8) dX8_runHands_7 rfl 0 rfl rfl ?_
        refine j_get hJ (q := 11) jf_X8_37 dX8_runHands_8 0 rfl rfl rfl ?_
        refine j_aload_n hJ (q := 12) dX8_runHands_11 rfl 0 rfl rfl ?_
        refine j_get hJ (q := 15) jf_X8_10 dX8_runHands_12 0 rfl rfl rfl ?_
        refine j_get hJ (q := 18) jf_X8_66 dX8_runHands_15 1 rfl rfl rfl ?_
        refine j_vW hJ (q := 21) (rest := []) (As := [.ref (s 0)]) (wr := [xO h u ab be (Rf 0) (Rf 1) (Rf 2), (u 0, .inr (4, [.ref (s 0), .ref (s 1), .ref (s 3), .ref (s 5), .ref (s 7)])), (u 6, ia Z 4 (ni D1)), (u 7, ia Z 4 (ni D2))]) jl_X8_122 (c_X4_copyOf Z (u 3) qt e1 e2 e3 e4 e5 e6 Ka Pa ka ma sa ga (s 0) q A K P kd am st rg ) 9 rfl rfl dX8_runHands_18 rfl (by decide) (Nat.le_of_ble_eq_true rfl) [9, 10, 11, 12, 13, 14, 15, 2, 3, 4, 5, 6, 7, 8] [0, 1, 16, 17] rfl rfl rfl rfl (by decide) rfl (fun rv wv hp => ?_)
        obtain ⟨rfl, rfl⟩ := hp
        refine j_world hJ (ws' := [xO h u ab be (Rf 0) (Rf 1) (Rf 2), (u 0, .inr (4, [.ref (s 0), .ref (s 1), .ref (s 3), .ref (s 5), .ref (s 7)])), cO (s 0) q (A 21) (A 5) (A 6) (A 7) (A 8) (A 0), (q 0, ia Z 12 (ni K)), (q 1, ia Z 12 (ni P)), (q 2, ia Z 6 (ni kd)), (q 3, ia Z 6 (ni am)), (q 4, ia Z 6 (ni st)), (q 5, ia Z 6 (ni rg)), cO (u 3) qt (A 21) (A 5) (A 6) (A 7) (A 8) (A 0), (qt 0, ia Z 12 (ni K)), (qt 1, ia Z 12 (ni P)), (qt 2, ia Z 6 (ni kd)), (qt 3, ia Z 6 (ni am)), (qt 4, ia Z 6 (ni st)), (qt 5, ia Z 6 (ni rg)), (u 6, ia Z 4 (ni D1)), (u 7, ia Z 4 (ni D2))]) [0, 1, 11, 12, 13, 14, 15, 16, 17, 4, 5, 6, 7, 8, 9, 10, 2, 3] rfl rfl ?_
        show J 21 [(0, .ref h), (1, .int (nI a)), (2, .int (nI b)), (3, .int (nI v))] [] [xO h u ab be (Rf 0) (Rf 1) (Rf 2), (u 0, .inr (4, [.ref (s 0), .ref (s 1), .ref (s 3), .ref (s 5), .ref (s 7)])), cO (s 0) q (A 21) (A 5) (A 6) (A 7) (A 8) (A 0), (q 0, ia Z 12 (ni K)), (q 1, ia Z 12 (ni P)), (q 2, ia Z 6 (ni kd)), (q 3, ia Z 6 (ni am)), (q 4, ia Z 6 (ni st)), (q 5, ia Z 6 (ni rg)), cO (u 3) qt (A 21) (A 5) (A 6) (A 7) (A 8) (A 0), (qt 0, ia Z 12 (ni K)), (qt 1, ia Z 12 (ni P)), (qt 2, ia Z 6 (ni kd)), (qt 3, ia Z 6 (ni am)), (qt 4, ia Z 6 (ni st)), (qt 5, ia Z 6 (ni rg)), (u 6, ia Z 4 (ni D1)), (u 7, ia Z 4 (ni D2))] 0 0
        refine j_aload_n hJ (q := 22) dX8_runHands_21 rfl 0 rfl rfl ?_
        refine j_get hJ (q := 25) jf_X8_37 dX8_runHands_22 0 rfl rfl rfl ?_
        refine j_iload_n hJ (q := 26) dX8_runHands_25 rfl 3 rfl rfl ?_
        refine j_put hJ (q := 29) (ws' := [xO h u ab be (Rf 0) (Rf 1) (Rf 2), (u 0, .inr (4, [.ref (s 0), .ref (s 1), .ref (s 3), .ref (s 5), .ref (s 7)])), cO (s 0) q (A 21) (A 5) (A 6) (A 7) (A 8) (A 0), (q 0, ia Z 12 (ni K)), (q 1, ia Z 12 (ni P)), (q 2, ia Z 6 (ni kd)), (q 3, ia Z 6 (ni am)), (q 4, ia Z 6 (ni st)), (q 5, ia Z 6 (ni rg)), cO (u 3) qt (A 21) (A 5) v (A 7) (A 8) (A 0), (qt 0, ia Z 12 (ni K)), (qt 1, ia Z 12 (ni P)), (qt 2, ia Z 6 (ni kd)), (qt 3, ia Z 6 (ni am)), (qt 4, ia Z 6 (ni st)), (qt 5, ia Z 6 (ni rg)), (u 6, ia Z 4 (ni D1)), (u 7, ia Z 4 (ni D2))]) jp_X8_138 dX8_runHands_26 9 rfl rfl rfl (Nat.le_of_ble_eq_true rfl) rfl rfl ?_
        refine j_eqw (ws' := [xO h u ab be (Rf 0) (Rf 1) (Rf 2), (u 0, .inr (4, [.ref (s 0), .ref (s 1), .ref (s 3), .ref (s 5), .ref (s 7)])), cO (s 0) q (A 21) (A 5) (A 6) (A 7) (A 8) (A 0), (q 0, ia Z 12 (ni K)), (q 1, ia Z 12 (ni P)), (q 2, ia Z 6 (ni kd)), (q 3, ia Z 6 (ni am)), (q 4, ia Z 6 (ni st)), (q 5, ia Z 6 (ni rg)), cO (u 3) qt ((va_up A 6 v) 21) ((va_up A 6 v) 5) ((va_up A 6 v) 6) ((va_up A 6 v) 7) ((va_up A 6 v) 8) ((va_up A 6 v) 0), (qt 0, ia Z 12 (ni K)), (qt 1, ia Z 12 (ni P)), (qt 2, ia Z 6 (ni kd)), (qt 3, ia Z 6 (ni am)), (qt 4, ia Z 6 (ni st)), (qt 5, ia Z 6 (ni rg)), (u 6, ia Z 4 (ni D1)), (u 7, ia Z 4 (ni D2))]) rfl ?_
        refine j_aload_n hJ (q := 30) dX8_runHands_29 rfl 0 rfl rfl ?_
        refine j_get hJ (q := 33) jf_X8_52 dX8_runHands_30 0 rfl rfl rfl ?_
        refine j_iload_n hJ (q := 34) dX8_runHands_33 rfl 3 rfl rfl ?_
        refine j_iconst hJ (q := 35) dX8_runHands_34 rfl ki_0 ?_
        refine j_iastN hJ (q := 36) (ws' := [xO h u ab be (Rf 0) (Rf 1) (Rf 2), (u 0, .inr (4, [.ref (s 0), .ref (s 1), .ref (s 3), .ref (s 5), .ref (s 7)])), cO (s 0) q (A 21) (A 5) (A 6) (A 7) (A 8) (A 0), (q 0, ia Z 12 (ni K)), (q 1, ia Z 12 (ni P)), (q 2, ia Z 6 (ni kd)), (q 3, ia Z 6 (ni am)), (q 4, ia Z 6 (ni st)), (q 5, ia Z 6 (ni rg)), cO (u 3) qt ((va_up A 6 v) 21) ((va_up A 6 v) 5) ((va_up A 6 v) 6) ((va_up A 6 v) 7) ((va_up A 6 v) 8) ((va_up A 6 v) 0), (qt 0, ia Z 12 (ni K)), (qt 1, ia Z 12 (ni P)), (qt 2, ia Z 6 (ni kd)), (qt 3, ia Z 6 (ni am)), (qt 4, ia Z 6 (ni st)), (qt 5, ia Z 6 (ni rg)), (u 6, ia Z 4 (ni (va_up D1 v 0))), (u 7, ia Z 4 (ni D2))]) dX8_runHands_35 16 rfl (by omega) (by decide) (ni_up _ _ _) rfl rfl ?_
        refine j_aload_n hJ (q := 37) dX8_runHands_36 rfl 0 rfl rfl ?_
        refine j_get hJ (q := 40) jf_X8_55 dX8_runHands_37 0 rfl rfl rfl ?_
        refine j_iload_n hJ (q := 41) dX8_runHands_40 rfl 3 rfl rfl ?_
        refine j_iconst hJ (q := 42) dX8_runHands_41 rfl ki_0 ?_
        refine j_iastN hJ (q := 43) (ws' := [xO h u ab be (Rf 0) (Rf 1) (Rf 2), (u 0, .inr (4, [.ref (s 0), .ref (s 1), .ref (s 3), .ref (s 5), .ref (s 7)])), cO (s 0) q (A 21) (A 5) (A 6) (A 7) (A 8) (A 0), (q 0, ia Z 12 (ni K)), (q 1, ia Z 12 (ni P)), (q 2, ia Z 6 (ni kd)), (q 3, ia Z 6 (ni am)), (q 4, ia Z 6 (ni st)), (q 5, ia Z 6 (ni rg)), cO (u 3) qt ((va_up A 6 v) 21) ((va_up A 6 v) 5) ((va_up A 6 v) 6) ((va_up A 6 v) 7) ((va_up A 6 v) 8) ((va_up A 6 v) 0), (qt 0, ia Z 12 (ni K)), (qt 1, ia Z 12 (ni P)), (qt 2, ia Z 6 (ni kd)), (qt 3, ia Z 6 (ni am)), (qt 4, ia Z 6 (ni st)), (qt 5, ia Z 6 (ni rg)), (u 6, ia Z 4 (ni (va_up D1 v 0))), (u 7, ia Z 4 (ni (va_up D2 v 0)))]) dX8_runHands_42 17 rfl (by omega) (by decide) (ni_up _ _ _) rfl rfl ?_
        refine j_iconst hJ (q := 44) dX8_runHands_43 rfl ki_0 ?_
        refine j_istore hJ (q := 46) (lvs' := [(4, .int (nI 0)), (0, .ref h), (1, .int (nI a)), (2, .int (nI b)), (3, .int (nI v))]) dX8_runHands_44 (by decide) rfl rfl ?_
        have L_46 : ∀ (fu_46 : Nat) (B : Nat → Nat) (rb : Nat → Nat) (C1 : Nat → Nat) (C2 : Nat → Nat) (k : Nat), 8 - k < fu_46 → (k ≤ 8) → (wf B) → (rR B K P kd am st rb) → (B 8 + (8 - k) < 90000) → (∀ j, j < v → C1 j = tkn a 8 (va_up A 6 j)) → (∀ j, j < v → C2 j = tkn b 8 (va_up A 6 j)) → (C1 v + tkn a (8 - k) B = tkn a 8 (va_up A 6 v)) → (C2 v + tkn b (8 - k) B = tkn b 8 (va_up A 6 v)) → J 46 [(0, .ref h), (1, .int (nI a)), (2, .int (nI b)), (3, .int (nI v)), (4, .int (nI k))] [] [xO h u ab be (Rf 0) (Rf 1) (Rf 2), (u 0, .inr (4, [.ref (s 0), .ref (s 1), .ref (s 3), .ref (s 5), .ref (s 7)])), cO (s 0) q (A 21) (A 5) (A 6) (A 7) (A 8) (A 0), (q 0, ia Z 12 (ni K)), (q 1, ia Z 12 (ni P)), (q 2, ia Z 6 (ni kd)), (q 3, ia Z 6 (ni am)), (q 4, ia Z 6 (ni st)), (q 5, ia Z 6 (ni rg)), cO (u 3) qt (B 21) (B 5) (B 6) (B 7) (B 8) (B 0), (qt 0, ia Z 12 (ni K)), (qt 1, ia Z 12 (ni P)), (qt 2, ia Z 6 (ni kd)), (qt 3, ia Z 6 (ni am)), (qt 4, ia Z 6 (ni st)), (qt 5, ia Z 6 (ni rb)), (u 6, ia Z 4 (ni C1)), (u 7, ia Z 4 (ni C2))] 0 0 := by
          intro fu_46
          induction fu_46 with
          | zero => intro B rb C1 C2 k hm; exact absurd hm (Nat.not_lt_zero _)
          | succ fu_46 ih_46 =>
            intro B rb C1 C2 k hm_46 hk hwB hRB hBt hC1 hC2 hS1 hS2
            refine j_iload hJ (q := 48) dX8_runHands_46 4 rfl rfl ?_
            refine j_bipush hJ (q := 50) dX8_runHands_48 rfl kb_8 ?_
            refine jn_icmp_ge hJ (q := 53) (tgt := 103) dX8_runHands_50 (by decide) rfl (by omega) (by omega) (fun c2 => ?_) (fun c2 => ?_)
            · skip
              refine j_iinc hJ (q := 106) (lvs' := [(3, .int (nI (v + 1))), (0, .ref h), (1, .int (nI a)), (2, .int (nI b)), (4, .int (nI k))]) dX8_runHands_103 3 rfl (by rw [show Int32.ofInt 1 = nI 1 from by decide +kernel]; exact nI_add _ _) (by decide) rfl rfl ?_
              refine j_goto hJ (q := 2) dX8_runHands_106 (by decide) ?_
              refine j_locals hJ [1, 2, 3, 0] rfl ?_
              exact ih_2 (B 21) (B 5) (B 6) (B 7) (B 8) (B 0) K P kd am st rb C1 C2 (v + 1) (by omega) (by omega) (fun j hj => (Nat.lt_or_ge j v).elim (fun hl => ⟨hC1 j hl, hC2 j hl⟩) (fun hl => by rw [show j = v by omega]; have e1 := hS1; have e2 := hS2; rw [show 8 - k = 0 by omega] at e1 e2; exact ⟨e1, e2⟩))
            · skip
              refine j_aload_n hJ (q := 54) dX8_runHands_53 rfl 0 rfl rfl ?_
              refine j_get hJ (q := 57) jf_X8_37 dX8_runHands_54 0 rfl rfl rfl ?_
              refine j_vW hJ (q := 60) (rest := []) (As := []) (wr := [xO h u ab be (Rf 0) (Rf 1) (Rf 2), (u 0, .inr (4, [.ref (s 0), .ref (s 1), .ref (s 3), .ref (s 5), .ref (s 7)])), cO (s 0) q (A 21) (A 5) (A 6) (A 7) (A 8) (A 0), (q 0, ia Z 12 (ni K)), (q 1, ia Z 12 (ni P)), (q 2, ia Z 6 (ni kd)), (q 3, ia Z 6 (ni am)), (q 4, ia Z 6 (ni st)), (q 5, ia Z 6 (ni rg)), (u 6, ia Z 4 (ni C1)), (u 7, ia Z 4 (ni C2))]) jl_X8_132 (c_X4_step Z (u 3) qt B K P kd am st rb hwB hRB (by omega)) 9 rfl rfl dX8_runHands_57 rfl (by decide) (Nat.le_of_ble_eq_true rfl) [9, 10, 11, 12, 13, 14, 15] [0, 1, 2, 3, 4, 5, 6, 7, 8, 16, 17] rfl rfl rfl rfl (by decide) rfl (fun rv wv hp => ?_)
              obtain ⟨rz3, rfl, rfl, f4⟩ := hp
              refine j_world hJ (ws' := [xO h u ab be (Rf 0) (Rf 1) (Rf 2), (u 0, .inr (4, [.ref (s 0), .ref (s 1), .ref (s 3), .ref (s 5), .ref (s 7)])), cO (s 0) q (A 21) (A 5) (A 6) (A 7) (A 8) (A 0), (q 0, ia Z 12 (ni K)), (q 1, ia Z 12 (ni P)), (q 2, ia Z 6 (ni kd)), (q 3, ia Z 6 (ni am)), (q 4, ia Z 6 (ni st)), (q 5, ia Z 6 (ni rg)), cO (u 3) qt ((goT B false).2 21) ((goT B false).2 5) ((goT B false).2 6) ((goT B false).2 7) ((goT B false).2 8) ((goT B false).2 0), (qt 0, ia Z 12 (ni K)), (qt 1, ia Z 12 (ni P)), (qt 2, ia Z 6 (ni kd)), (qt 3, ia Z 6 (ni am)), (qt 4, ia Z 6 (ni st)), (qt 5, ia Z 6 (ni rz3)), (u 6, ia Z 4 (ni C1)), (u 7, ia Z 4 (ni C2))]) [0, 1, 2, 3, 4, 5, 6, 7, 8, 11, 12, 13, 14, 15, 16, 17, 9, 10] rfl rfl ?_
              show J 60 [(0, .ref h), (1, .int (nI a)), (2, .int (nI b)), (3, .int (nI v)), (4, .int (nI k))] [.int (oI ((goT B false).1))] [xO h u ab be (Rf 0) (Rf 1) (Rf 2), (u 0, .inr (4, [.ref (s 0), .ref (s 1), .ref (s 3), .ref (s 5), .ref (s 7)])), cO (s 0) q (A 21) (A 5) (A 6) (A 7) (A 8) (A 0), (q 0, ia Z 12 (ni K)), (q 1, ia Z 12 (ni P)), (q 2, ia Z 6 (ni kd)), (q 3, ia Z 6 (ni am)), (q 4, ia Z 6 (ni st)), (q 5, ia Z 6 (ni rg)), cO (u 3) qt ((goT B false).2 21) ((goT B false).2 5) ((goT B false).2 6) ((goT B false).2 7) ((goT B false).2 8) ((goT B false).2 0), (qt 0, ia Z 12 (ni K)), (qt 1, ia Z 12 (ni P)), (qt 2, ia Z 6 (ni kd)), (qt 3, ia Z 6 (ni am)), (qt 4, ia Z 6 (ni st)), (qt 5, ia Z 6 (ni rz3)), (u 6, ia Z 4 (ni C1)), (u 7, ia Z 4 (ni C2))] 0 0
              refine j_caseo (fun o5 => ?_) (fun i6 o5 => ?_)
              · skip
                refine j_istore hJ (q := 62) (lvs' := [(5, .int (zI (-1))), (0, .ref h), (1, .int (nI a)), (2, .int (nI b)), (3, .int (nI v)), (4, .int (nI k))]) dX8_runHands_60 (by decide) rfl rfl ?_
                refine j_iload hJ (q := 64) dX8_runHands_62 0 rfl rfl ?_
                refine j_iload_n hJ (q := 65) dX8_runHands_64 rfl 2 rfl rfl ?_
                refine jz_icmp_ne hJ (q := 68) (tgt := 81) dX8_runHands_65 (by decide) rfl rfl (zI_nat a).symm (by omega) (by omega) (fun c7 => ?_) (fun c7 => ?_)
                · skip
                  refine j_iload hJ (q := 83) dX8_runHands_81 0 rfl rfl ?_
                  refine j_iload_n hJ (q := 84) dX8_runHands_83 rfl 3 rfl rfl ?_
                  refine jz_icmp_ne hJ (q := 87) (tgt := 97) dX8_runHands_84 (by decide) rfl rfl (zI_nat b).symm (by omega) (by omega) (fun c8 => ?_) (fun c8 => ?_)
                  · skip
                    refine j_iinc hJ (q := 100) (lvs' := [(4, .int (nI (k + 1))), (5, .int (zI (-1))), (0, .ref h), (1, .int (nI a)), (2, .int (nI b)), (3, .int (nI v))]) dX8_runHands_97 5 rfl (by rw [show Int32.ofInt 1 = nI 1 from by decide +kernel]; exact nI_add _ _) (by decide) rfl rfl ?_
                    refine j_goto hJ (q := 46) dX8_runHands_100 (by decide) ?_
                    refine j_locals hJ [2, 3, 4, 5, 0] rfl ?_
                    exact ih_46 ((goT B false).2) rz3 C1 C2 (k + 1) (by omega) (by omega) (wf_goT false hwB (by omega)) (by assumption) (by rw [goT_8]; omega) hC1 hC2 (by rw [← hS1, show 8 - k = (8 - (k + 1)) + 1 by omega]; simp only [tkn]; rw [if_neg (by simp_all)]; omega) (by rw [← hS2, show 8 - k = (8 - (k + 1)) + 1 by omega]; simp only [tkn]; rw [if_neg (by simp_all)]; omega)
                  · skip
                    exfalso; omega
                · skip
                  exfalso; omega
              · skip
                have hlt := goT_lt o5
                have hl6 := hwB.1.2.2.2.2.2
                refine j_istore hJ (q := 62) (lvs' := [(5, .int (nI i6)), (0, .ref h), (1, .int (nI a)), (2, .int (nI b)), (3, .int (nI v)), (4, .int (nI k))]) dX8_runHands_60 (by decide) rfl rfl ?_
                refine j_iload hJ (q := 64) dX8_runHands_62 0 rfl rfl ?_
                refine j_iload_n hJ (q := 65) dX8_runHands_64 rfl 2 rfl rfl ?_
                refine jn_icmp_ne hJ (q := 68) (tgt := 81) dX8_runHands_65 (by decide) rfl (by omega) (by omega) (fun c9 => ?_) (fun c9 => ?_)
                · skip
                  refine j_iload hJ (q := 83) dX8_runHands_81 0 rfl rfl ?_
                  refine j_iload_n hJ (q := 84) dX8_runHands_83 rfl 3 rfl rfl ?_
                  refine jn_icmp_ne hJ (q := 87) (tgt := 97) dX8_runHands_84 (by decide) rfl (by omega) (by omega) (fun c10 => ?_) (fun c10 => ?_)
                  · skip
                    refine j_iinc hJ (q := 100) (lvs' := [(4, .int (nI (k + 1))), (5, .int (nI i6)), (0, .ref h), (1, .int (nI a)), (2, .int (nI b)), (3, .int (nI v))]) dX8_runHands_97 5 rfl (by rw [show Int32.ofInt 1 = nI 1 from by decide +kernel]; exact nI_add _ _) (by decide) rfl rfl ?_
                    refine j_goto hJ (q := 46) dX8_runHands_100 (by decide) ?_
                    refine j_locals hJ [2, 3, 4, 5, 0] rfl ?_
                    exact ih_46 ((goT B false).2) rz3 C1 C2 (k + 1) (by omega) (by omega) (wf_goT false hwB (by omega)) (by assumption) (by rw [goT_8]; omega) hC1 hC2 (by rw [← hS1, show 8 - k = (8 - (k + 1)) + 1 by omega]; simp only [tkn]; rw [if_neg (by simp_all)]; omega) (by rw [← hS2, show 8 - k = (8 - (k + 1)) + 1 by omega]; simp only [tkn]; rw [if_neg (by simp_all)]; omega)
                  · skip
                    refine j_aload_n hJ (q := 88) dX8_runHands_87 rfl 1 rfl rfl ?_
                    refine j_get hJ (q := 91) jf_X8_55 dX8_runHands_88 0 rfl rfl rfl ?_
                    refine j_iload_n hJ (q := 92) dX8_runHands_91 rfl 4 rfl rfl ?_
                    refine j_dup2 hJ (q := 93) dX8_runHands_92 rfl rfl rfl ?_
                    refine j_ialdN hJ (q := 94) (z := nI (C2 v)) dX8_runHands_93 17 rfl (by omega) (by decide) rfl rfl ?_
                    refine j_iconst hJ (q := 95) dX8_runHands_94 rfl ki_1 ?_
                    refine j_iadd hJ (q := 96) dX8_runHands_95 rfl (nI_add _ _) ?_
                    refine j_iastN hJ (q := 97) (ws' := [xO h u ab be (Rf 0) (Rf 1) (Rf 2), (u 0, .inr (4, [.ref (s 0), .ref (s 1), .ref (s 3), .ref (s 5), .ref (s 7)])), cO (s 0) q (A 21) (A 5) (A 6) (A 7) (A 8) (A 0), (q 0, ia Z 12 (ni K)), (q 1, ia Z 12 (ni P)), (q 2, ia Z 6 (ni kd)), (q 3, ia Z 6 (ni am)), (q 4, ia Z 6 (ni st)), (q 5, ia Z 6 (ni rg)), cO (u 3) qt ((goT B false).2 21) ((goT B false).2 5) ((goT B false).2 6) ((goT B false).2 7) ((goT B false).2 8) ((goT B false).2 0), (qt 0, ia Z 12 (ni K)), (qt 1, ia Z 12 (ni P)), (qt 2, ia Z 6 (ni kd)), (qt 3, ia Z 6 (ni am)), (qt 4, ia Z 6 (ni st)), (qt 5, ia Z 6 (ni rz3)), (u 6, ia Z 4 (ni C1)), (u 7, ia Z 4 (ni (va_up C2 v (C2 v + 1))))]) dX8_runHands_96 17 rfl (by omega) (by decide) (ni_up _ _ _) rfl rfl ?_
                    refine j_iinc hJ (q := 100) (lvs' := [(4, .int (nI (k + 1))), (5, .int (nI i6)), (0, .ref h), (1, .int (nI a)), (2, .int (nI b)), (3, .int (nI v))]) dX8_runHands_97 5 rfl (by rw [show Int32.ofInt 1 = nI 1 from by decide +kernel]; exact nI_add _ _) (by decide) rfl rfl ?_
                    refine j_goto hJ (q := 46) dX8_runHands_100 (by decide) ?_
                    refine j_locals hJ [2, 3, 4, 5, 0] rfl ?_
                    exact ih_46 ((goT B false).2) rz3 C1 (va_up C2 v (C2 v + 1)) (k + 1) (by omega) (by omega) (wf_goT false hwB (by omega)) (by assumption) (by rw [goT_8]; omega) hC1 (fun j hj => by simp only [va_up]; rw [if_neg (by omega)]; exact hC2 j hj) (by rw [← hS1, show 8 - k = (8 - (k + 1)) + 1 by omega]; simp only [tkn]; rw [if_neg (by simp_all)]; omega) (by rw [← hS2, show 8 - k = (8 - (k + 1)) + 1 by omega]; simp only [tkn, va_up, if_true]; rw [if_pos (by simp_all)]; omega)
                · skip
                  refine j_aload_n hJ (q := 69) dX8_runHands_68 rfl 1 rfl rfl ?_
                  refine j_get hJ (q := 72) jf_X8_52 dX8_runHands_69 0 rfl rfl rfl ?_
                  refine j_iload_n hJ (q := 73) dX8_runHands_72 rfl 4 rfl rfl ?_
                  refine j_dup2 hJ (q := 74) dX8_runHands_73 rfl rfl rfl ?_
                  refine j_ialdN hJ (q := 75) (z := nI (C1 v)) dX8_runHands_74 16 rfl (by omega) (by decide) rfl rfl ?_
                  refine j_iconst hJ (q := 76) dX8_runHands_75 rfl ki_1 ?_
                  refine j_iadd hJ (q := 77) dX8_runHands_76 rfl (nI_add _ _) ?_
                  refine j_iastN hJ (q := 78) (ws' := [xO h u ab be (Rf 0) (Rf 1) (Rf 2), (u 0, .inr (4, [.ref (s 0), .ref (s 1), .ref (s 3), .ref (s 5), .ref (s 7)])), cO (s 0) q (A 21) (A 5) (A 6) (A 7) (A 8) (A 0), (q 0, ia Z 12 (ni K)), (q 1, ia Z 12 (ni P)), (q 2, ia Z 6 (ni kd)), (q 3, ia Z 6 (ni am)), (q 4, ia Z 6 (ni st)), (q 5, ia Z 6 (ni rg)), cO (u 3) qt ((goT B false).2 21) ((goT B false).2 5) ((goT B false).2 6) ((goT B false).2 7) ((goT B false).2 8) ((goT B false).2 0), (qt 0, ia Z 12 (ni K)), (qt 1, ia Z 12 (ni P)), (qt 2, ia Z 6 (ni kd)), (qt 3, ia Z 6 (ni am)), (qt 4, ia Z 6 (ni st)), (qt 5, ia Z 6 (ni rz3)), (u 6, ia Z 4 (ni (va_up C1 v (C1 v + 1)))), (u 7, ia Z 4 (ni C2))]) dX8_runHands_77 16 rfl (by omega) (by decide) (ni_up _ _ _) rfl rfl ?_
                  refine j_goto hJ (q := 97) dX8_runHands_78 (by decide) ?_
                  refine j_iinc hJ (q := 100) (lvs' := [(4, .int (nI (k + 1))), (5, .int (nI i6)), (0, .ref h), (1, .int (nI a)), (2, .int (nI b)), (3, .int (nI v))]) dX8_runHands_97 5 rfl (by rw [show Int32.ofInt 1 = nI 1 from by decide +kernel]; exact nI_add _ _) (by decide) rfl rfl ?_
                  refine j_goto hJ (q := 46) dX8_runHands_100 (by decide) ?_
                  refine j_locals hJ [2, 3, 4, 5, 0] rfl ?_
                  exact ih_46 ((goT B false).2) rz3 (va_up C1 v (C1 v + 1)) C2 (k + 1) (by omega) (by omega) (wf_goT false hwB (by omega)) (by assumption) (by rw [goT_8]; omega) (fun j hj => by simp only [va_up]; rw [if_neg (by omega)]; exact hC1 j hj) hC2 (by rw [← hS1, show 8 - k = (8 - (k + 1)) + 1 by omega]; simp only [tkn, va_up, if_true]; rw [if_pos (by simp_all)]; omega) (by rw [← hS2, show 8 - k = (8 - (k + 1)) + 1 by omega]; simp only [tkn]; rw [if_neg (by simp_all)]; omega)
        refine j_locals hJ [1, 2, 3, 4, 0] rfl ?_
        exact L_46 ((8 - 0) + 1) (va_up A 6 v) rg (va_up D1 v 0) (va_up D2 v 0) 0 (Nat.lt_succ_self _) (by omega) (wf_speed hw (by omega)) (rR_speed hR w6 w2) (by show A 8 + _ < 90000; omega) (fun j hj => by simp only [va_up]; rw [if_neg (by omega)]; exact (hD j hj).1) (fun j hj => by simp only [va_up]; rw [if_neg (by omega)]; exact (hD j hj).2) (by simp only [va_up, if_true, Nat.zero_add]) (by simp only [va_up, if_true, Nat.zero_add])
  refine j_locals hJ [1, 2, 3, 0] rfl ?_
  exact L_2 ((4 - 0) + 1) t1 t2 t3 t4 t5 t6 Kt Pt kt mt stt gt T1 T2 0 (Nat.lt_succ_self _) (by omega) (fun j hj => absurd hj (Nat.not_lt_zero _))
