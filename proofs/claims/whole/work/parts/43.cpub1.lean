set_option maxHeartbeats 4000000 in
set_option maxRecDepth 100000 in
theorem c_X8_bad (Z : jZ) (h : Nat) (u : Nat → Nat) (ab : Int) (be : Int) (Rf : Nat → Nat)  : CT Z yX8_bad cX8_bad 1 ((some FieldType.int)) 1 0 0 [.ref h] [xO h u ab be (Rf 0) (Rf 1) (Rf 2)] (fun rr ww => rr = some (.int (zI (-2))) ∧ ww = [xO h u ab be ((bmp Rf 0) 0) ((bmp Rf 0) 1) ((bmp Rf 0) 2)]) := by
  refine CT.of RX8 false rfl (fun h => by cases h) (by decide +kernel) (Nat.le_of_ble_eq_true rfl) ?_
  intro J hJ hE
  show J 0 [(0, .ref h)] [] [xO h u ab be (Rf 0) (Rf 1) (Rf 2)] 0 0
  refine j_aload_n hJ (q := 1) dX8_bad_0 rfl 0 rfl rfl ?_
  refine j_dup hJ (q := 2) dX8_bad_1 rfl rfl ?_
  refine j_get hJ (q := 5) jf_X8_257 dX8_bad_2 0 rfl rfl rfl ?_
  refine j_iconst hJ (q := 6) dX8_bad_5 rfl ki_1 ?_
  refine j_iadd hJ (q := 7) dX8_bad_6 rfl (nI_add _ _) ?_
  refine j_put hJ (q := 10) (ws' := [xO h u ab be (Rf 0 + 1) (Rf 1) (Rf 2)]) jp_X8_257 dX8_bad_7 0 rfl rfl rfl (Nat.le_of_ble_eq_true rfl) rfl rfl ?_
  refine j_bipush hJ (q := 12) dX8_bad_10 rfl kb_m2 ?_
  exact hE.1 _ _ _ _ _ _ _ rfl rfl dX8_bad_12 (Nat.le_refl _) (Nat.le_refl _) (⟨congrArg (fun z => some (Value.int (zI z))) (by rfl), rfl⟩)

set_option maxHeartbeats 4000000 in
set_option maxRecDepth 100000 in
theorem c_X8_badOfList (Z : jZ) (h : Nat) (u : Nat → Nat) (ab : Int) (be : Int) (Rf : Nat → Nat)  : CT Z yX8_badOfList cX8_badOfList 1 ((some FieldType.int)) 1 0 0 [.ref h] [xO h u ab be (Rf 0) (Rf 1) (Rf 2)] (fun rr ww => rr = some (.int (zI (-10))) ∧ ww = [xO h u ab be ((bmp Rf 0) 0) ((bmp Rf 0) 1) ((bmp Rf 0) 2)]) := by
  refine CT.of RX8 false rfl (fun h => by cases h) (by decide +kernel) (Nat.le_of_ble_eq_true rfl) ?_
  intro J hJ hE
  show J 0 [(0, .ref h)] [] [xO h u ab be (Rf 0) (Rf 1) (Rf 2)] 0 0
  refine j_aload_n hJ (q := 1) dX8_badOfList_0 rfl 0 rfl rfl ?_
  refine j_dup hJ (q := 2) dX8_badOfList_1 rfl rfl ?_
  refine j_get hJ (q := 5) jf_X8_257 dX8_badOfList_2 0 rfl rfl rfl ?_
  refine j_iconst hJ (q := 6) dX8_badOfList_5 rfl ki_1 ?_
  refine j_iadd hJ (q := 7) dX8_badOfList_6 rfl (nI_add _ _) ?_
  refine j_put hJ (q := 10) (ws' := [xO h u ab be (Rf 0 + 1) (Rf 1) (Rf 2)]) jp_X8_257 dX8_badOfList_7 0 rfl rfl rfl (Nat.le_of_ble_eq_true rfl) rfl rfl ?_
  refine j_bipush hJ (q := 12) dX8_badOfList_10 rfl kb_m10 ?_
  exact hE.1 _ _ _ _ _ _ _ rfl rfl dX8_badOfList_12 (Nat.le_refl _) (Nat.le_refl _) (⟨congrArg (fun z => some (Value.int (zI z))) (by rfl), rfl⟩)

set_option maxHeartbeats 4000000 in
set_option maxRecDepth 100000 in
theorem c_X8_no (Z : jZ) (h : Nat) (u : Nat → Nat) (ab : Int) (be : Int) (Rf : Nat → Nat)  : CT Z yX8_no cX8_no 1 ((some FieldType.int)) 1 0 0 [.ref h] [xO h u ab be (Rf 0) (Rf 1) (Rf 2)] (fun rr ww => rr = some (.int (zI (-3))) ∧ ww = [xO h u ab be ((bmp Rf 1) 0) ((bmp Rf 1) 1) ((bmp Rf 1) 2)]) := by
  refine CT.of RX8 false rfl (fun h => by cases h) (by decide +kernel) (Nat.le_of_ble_eq_true rfl) ?_
  intro J hJ hE
  show J 0 [(0, .ref h)] [] [xO h u ab be (Rf 0) (Rf 1) (Rf 2)] 0 0
  refine j_aload_n hJ (q := 1) dX8_no_0 rfl 0 rfl rfl ?_
  refine j_dup hJ (q := 2) dX8_no_1 rfl rfl ?_
  refine j_get hJ (q := 5) jf_X8_260 dX8_no_2 0 rfl rfl rfl ?_
  refine j_iconst hJ (q := 6) dX8_no_5 rfl ki_1 ?_
  refine j_iadd hJ (q := 7) dX8_no_6 rfl (nI_add _ _) ?_
  refine j_put hJ (q := 10) (ws' := [xO h u ab be (Rf 0) (Rf 1 + 1) (Rf 2)]) jp_X8_260 dX8_no_7 0 rfl rfl rfl (Nat.le_of_ble_eq_true rfl) rfl rfl ?_
  refine j_bipush hJ (q := 12) dX8_no_10 rfl kb_m3 ?_
  exact hE.1 _ _ _ _ _ _ _ rfl rfl dX8_no_12 (Nat.le_refl _) (Nat.le_refl _) (⟨congrArg (fun z => some (Value.int (zI z))) (by rfl), rfl⟩)

set_option maxHeartbeats 4000000 in
set_option maxRecDepth 100000 in
theorem c_X8_full (Z : jZ) (h : Nat) (u : Nat → Nat) (ab : Int) (be : Int) (Rf : Nat → Nat)  : CT Z yX8_full cX8_full 1 ((some FieldType.int)) 1 0 0 [.ref h] [xO h u ab be (Rf 0) (Rf 1) (Rf 2)] (fun rr ww => rr = some (.int (zI (-4))) ∧ ww = [xO h u ab be ((bmp Rf 2) 0) ((bmp Rf 2) 1) ((bmp Rf 2) 2)]) := by
  refine CT.of RX8 false rfl (fun h => by cases h) (by decide +kernel) (Nat.le_of_ble_eq_true rfl) ?_
  intro J hJ hE
  show J 0 [(0, .ref h)] [] [xO h u ab be (Rf 0) (Rf 1) (Rf 2)] 0 0
  refine j_aload_n hJ (q := 1) dX8_full_0 rfl 0 rfl rfl ?_
  refine j_dup hJ (q := 2) dX8_full_1 rfl rfl ?_
  refine j_get hJ (q := 5) jf_X8_263 dX8_full_2 0 rfl rfl rfl ?_
  refine j_iconst hJ (q := 6) dX8_full_5 rfl ki_1 ?_
  refine j_iadd hJ (q := 7) dX8_full_6 rfl (nI_add _ _) ?_
  refine j_put hJ (q := 10) (ws' := [xO h u ab be (Rf 0) (Rf 1) (Rf 2 + 1)]) jp_X8_263 dX8_full_7 0 rfl rfl rfl (Nat.le_of_ble_eq_true rfl) rfl rfl ?_
  refine j_bipush hJ (q := 12) dX8_full_10 rfl kb_m4 ?_
  exact hE.1 _ _ _ _ _ _ _ rfl rfl dX8_full_12 (Nat.le_refl _) (Nat.le_refl _) (⟨congrArg (fun z => some (Value.int (zI z))) (by rfl), rfl⟩)

set_option maxHeartbeats 4000000 in
set_option maxRecDepth 100000 in
theorem c_X8_isSeat (Z : jZ) (h : Nat) (u : Nat → Nat) (ab : Int) (be : Int) (Rf : Nat → Nat) (s : Nat → Nat) (q : Nat → Nat) (A : Nat → Nat) (K : Nat → Nat) (P : Nat → Nat) (kd : Nat → Nat) (am : Nat → Nat) (st : Nat → Nat) (rg : Nat → Nat) (x : Int32) (hlt : A 21 < 100000) : CR Z yX8_isSeat cX8_isSeat 2 ((some FieldType.boolean)) 2 [.ref h, .int x] [xO h u ab be (Rf 0) (Rf 1) (Rf 2), (u 0, .inr (4, [.ref (s 0), .ref (s 1), .ref (s 3), .ref (s 5), .ref (s 7)])), cO (s 0) q (A 21) (A 5) (A 6) (A 7) (A 8) (A 0), (q 0, ia Z 12 (ni K)), (q 1, ia Z 12 (ni P)), (q 2, ia Z 6 (ni kd)), (q 3, ia Z 6 (ni am)), (q 4, ia Z 6 (ni st)), (q 5, ia Z 6 (ni rg))] (fun rr => rr = some (.int (bI (decide (0 ≤ x.toInt ∧ x.toInt ≤ (A 21 : Int) - 1))))) := by
  refine CR.of RX8 rfl (by decide +kernel) (Nat.le_of_ble_eq_true rfl) ?_
  intro J hJ hE
  show J 0 [(0, .ref h), (1, .int x)] [] [xO h u ab be (Rf 0) (Rf 1) (Rf 2), (u 0, .inr (4, [.ref (s 0), .ref (s 1), .ref (s 3), .ref (s 5), .ref (s 7)])), cO (s 0) q (A 21) (A 5) (A 6) (A 7) (A 8) (A 0), (q 0, ia Z 12 (ni K)), (q 1, ia Z 12 (ni P)), (q 2, ia Z 6 (ni kd)), (q 3, ia Z 6 (ni am)), (q 4, ia Z 6 (ni st)), (q 5, ia Z 6 (ni rg))] 0 0
  have hx := zI_rng x
  refine j_iload_n hJ (q := 1) dX8_isSeat_0 rfl 1 rfl rfl ?_
  refine j_iconst hJ (q := 2) dX8_isSeat_1 rfl ki_0 ?_
  refine j_aload_n hJ (q := 3) dX8_isSeat_2 rfl 0 rfl rfl ?_
  refine j_get hJ (q := 6) jf_X8_10 dX8_isSeat_3 0 rfl rfl rfl ?_
  refine j_get hJ (q := 9) jf_X8_66 dX8_isSeat_6 1 rfl rfl rfl ?_
  refine j_get hJ (q := 12) jf_X8_278 dX8_isSeat_9 2 rfl rfl rfl ?_
  refine j_iconst hJ (q := 13) dX8_isSeat_12 rfl ki_1 ?_
  refine j_isub hJ (q := 14) dX8_isSeat_13 rfl (zI_sub (zI_nat (A 21)).symm (zI_nat 1).symm) ?_
  refine j_sR hJ (q := 17) (rest := []) (As := [.int x, .int (zI 0), .int (zI (((A 21) : Int) - (1 : Int)))]) jl_X8_58 (c_X8_within Z x 0 (((A 21) : Int) - (1 : Int)) (by omega) (by omega)) dX8_isSeat_14 rfl (by decide) (Nat.le_of_ble_eq_true rfl) [] rfl rfl (fun rv hp => ?_)
  obtain rfl := hp
  show J 17 [(0, .ref h), (1, .int x)] [.int (bI (decide (0 ≤ x.toInt ∧ x.toInt ≤ (((A 21) : Int) - (1 : Int)))))] [xO h u ab be (Rf 0) (Rf 1) (Rf 2), (u 0, .inr (4, [.ref (s 0), .ref (s 1), .ref (s 3), .ref (s 5), .ref (s 7)])), cO (s 0) q (A 21) (A 5) (A 6) (A 7) (A 8) (A 0), (q 0, ia Z 12 (ni K)), (q 1, ia Z 12 (ni P)), (q 2, ia Z 6 (ni kd)), (q 3, ia Z 6 (ni am)), (q 4, ia Z 6 (ni st)), (q 5, ia Z 6 (ni rg))] 0 0
  exact hE.1 _ _ _ _ _ _ _ rfl (bI_nar _) dX8_isSeat_17 (Nat.le_refl _) (Nat.le_refl _) (rfl)

set_option maxHeartbeats 4000000 in
set_option maxRecDepth 100000 in
theorem c_X8_isRider (Z : jZ) (h : Nat) (u : Nat → Nat) (ab : Int) (be : Int) (Rf : Nat → Nat) (s : Nat → Nat) (q : Nat → Nat) (A : Nat → Nat) (K : Nat → Nat) (P : Nat → Nat) (kd : Nat → Nat) (am : Nat → Nat) (st : Nat → Nat) (rg : Nat → Nat) (x : Int32) (hlt : A 0 < 100000) : CR Z yX8_isRider cX8_isRider 2 ((some FieldType.boolean)) 2 [.ref h, .int x] [xO h u ab be (Rf 0) (Rf 1) (Rf 2), (u 0, .inr (4, [.ref (s 0), .ref (s 1), .ref (s 3), .ref (s 5), .ref (s 7)])), cO (s 0) q (A 21) (A 5) (A 6) (A 7) (A 8) (A 0), (q 0, ia Z 12 (ni K)), (q 1, ia Z 12 (ni P)), (q 2, ia Z 6 (ni kd)), (q 3, ia Z 6 (ni am)), (q 4, ia Z 6 (ni st)), (q 5, ia Z 6 (ni rg))] (fun rr => rr = some (.int (bI (decide (0 ≤ x.toInt ∧ x.toInt ≤ (A 0 : Int) - 1))))) := by
  refine CR.of RX8 rfl (by decide +kernel) (Nat.le_of_ble_eq_true rfl) ?_
  intro J hJ hE
  show J 0 [(0, .ref h), (1, .int x)] [] [xO h u ab be (Rf 0) (Rf 1) (Rf 2), (u 0, .inr (4, [.ref (s 0), .ref (s 1), .ref (s 3), .ref (s 5), .ref (s 7)])), cO (s 0) q (A 21) (A 5) (A 6) (A 7) (A 8) (A 0), (q 0, ia Z 12 (ni K)), (q 1, ia Z 12 (ni P)), (q 2, ia Z 6 (ni kd)), (q 3, ia Z 6 (ni am)), (q 4, ia Z 6 (ni st)), (q 5, ia Z 6 (ni rg))] 0 0
  have hx := zI_rng x
  refine j_iload_n hJ (q := 1) dX8_isRider_0 rfl 1 rfl rfl ?_
  refine j_iconst hJ (q := 2) dX8_isRider_1 rfl ki_0 ?_
  refine j_aload_n hJ (q := 3) dX8_isRider_2 rfl 0 rfl rfl ?_
  refine j_get hJ (q := 6) jf_X8_10 dX8_isRider_3 0 rfl rfl rfl ?_
  refine j_get hJ (q := 9) jf_X8_66 dX8_isRider_6 1 rfl rfl rfl ?_
  refine j_get hJ (q := 12) jf_X8_69 dX8_isRider_9 2 rfl rfl rfl ?_
  refine j_iconst hJ (q := 13) dX8_isRider_12 rfl ki_1 ?_
  refine j_isub hJ (q := 14) dX8_isRider_13 rfl (zI_sub (zI_nat (A 0)).symm (zI_nat 1).symm) ?_
  refine j_sR hJ (q := 17) (rest := []) (As := [.int x, .int (zI 0), .int (zI (((A 0) : Int) - (1 : Int)))]) jl_X8_58 (c_X8_within Z x 0 (((A 0) : Int) - (1 : Int)) (by omega) (by omega)) dX8_isRider_14 rfl (by decide) (Nat.le_of_ble_eq_true rfl) [] rfl rfl (fun rv hp => ?_)
  obtain rfl := hp
  show J 17 [(0, .ref h), (1, .int x)] [.int (bI (decide (0 ≤ x.toInt ∧ x.toInt ≤ (((A 0) : Int) - (1 : Int)))))] [xO h u ab be (Rf 0) (Rf 1) (Rf 2), (u 0, .inr (4, [.ref (s 0), .ref (s 1), .ref (s 3), .ref (s 5), .ref (s 7)])), cO (s 0) q (A 21) (A 5) (A 6) (A 7) (A 8) (A 0), (q 0, ia Z 12 (ni K)), (q 1, ia Z 12 (ni P)), (q 2, ia Z 6 (ni kd)), (q 3, ia Z 6 (ni am)), (q 4, ia Z 6 (ni st)), (q 5, ia Z 6 (ni rg))] 0 0
  exact hE.1 _ _ _ _ _ _ _ rfl (bI_nar _) dX8_isRider_17 (Nat.le_refl _) (Nat.le_refl _) (rfl)

set_option maxHeartbeats 4000000 in
set_option maxRecDepth 100000 in
theorem c_X8_round (Z : jZ) (h : Nat) (u : Nat → Nat) (ab : Int) (be : Int) (Rf : Nat → Nat) (s : Nat → Nat) (q : Nat → Nat) (A : Nat → Nat) (K : Nat → Nat) (P : Nat → Nat) (kd : Nat → Nat) (am : Nat → Nat) (st : Nat → Nat) (rg : Nat → Nat) (Ro : Nat → Nat) (Sn : Nat → Nat) (Nt : Nat → Nat) (Mk : Nat → Nat) (a : Int32) (b : Int32) (hg : wg A) (hA : rA A K P kd am st rg Ro Sn Nt Mk) : CT Z yX8_round cX8_round 4 ((some FieldType.int)) 3 0 0 [.ref h, .int a, .int b] [xO h u ab be (Rf 0) (Rf 1) (Rf 2), (u 0, .inr (4, [.ref (s 0), .ref (s 1), .ref (s 3), .ref (s 5), .ref (s 7)])), cO (s 0) q (A 21) (A 5) (A 6) (A 7) (A 8) (A 0), (q 0, ia Z 12 (ni K)), (q 1, ia Z 12 (ni P)), (q 2, ia Z 6 (ni kd)), (q 3, ia Z 6 (ni am)), (q 4, ia Z 6 (ni st)), (q 5, ia Z 6 (ni rg)), (s 1, .inr (1, [.int (nI (A 4)), .ref (s 2)])), (s 2, ia Z 128 (ni Ro)), (s 3, .inr (3, [.int (nI (A 1)), .int (nI 4), .int (nI 5), .ref (s 4)])), (s 4, ia Z 30 (ni Sn)), (s 5, .inr (3, [.int (nI (A 2)), .int (nI 5), .int (nI 6), .ref (s 6)])), (s 6, ia Z 30 (ni Nt)), (s 7, .inr (3, [.int (nI (A 3)), .int (nI 5), .int (nI 6), .ref (s 8)])), (s 8, ia Z 30 (ni Mk))] (fun rr ww => ∃ Kz : Nat → Nat, ∃ Pz : Nat → Nat, ∃ kdz : Nat → Nat, ∃ amz : Nat → Nat, ∃ stz : Nat → Nat, ∃ rgz : Nat → Nat, ∃ Roz : Nat → Nat, ∃ Snz : Nat → Nat, ∃ Ntz : Nat → Nat, ∃ Mkz : Nat → Nat, rr = some (.int (zI (z_round A a b))) ∧ ww = [xO h u ab be ((if rgI 4 12 a ∧ rgI 0 3 b then Rf else bmp Rf 0) 0) ((if rgI 4 12 a ∧ rgI 0 3 b then Rf else bmp Rf 0) 1) ((if rgI 4 12 a ∧ rgI 0 3 b then Rf else bmp Rf 0) 2), (u 0, .inr (4, [.ref (s 0), .ref (s 1), .ref (s 3), .ref (s 5), .ref (s 7)])), cO (s 0) q ((a_round A a b) 21) ((a_round A a b) 5) ((a_round A a b) 6) ((a_round A a b) 7) ((a_round A a b) 8) ((a_round A a b) 0), (q 0, ia Z 12 (ni Kz)), (q 1, ia Z 12 (ni Pz)), (q 2, ia Z 6 (ni kdz)), (q 3, ia Z 6 (ni amz)), (q 4, ia Z 6 (ni stz)), (q 5, ia Z 6 (ni rgz)), (s 1, .inr (1, [.int (nI ((a_round A a b) 4)), .ref (s 2)])), (s 2, ia Z 128 (ni Roz)), (s 3, .inr (3, [.int (nI ((a_round A a b) 1)), .int (nI 4), .int (nI 5), .ref (s 4)])), (s 4, ia Z 30 (ni Snz)), (s 5, .inr (3, [.int (nI ((a_round A a b) 2)), .int (nI 5), .int (nI 6), .ref (s 6)])), (s 6, ia Z 30 (ni Ntz)), (s 7, .inr (3, [.int (nI ((a_round A a b) 3)), .int (nI 5), .int (nI 6), .ref (s 8)])), (s 8, ia Z 30 (ni Mkz))] ∧ (rA (a_round A a b) Kz Pz kdz amz stz rgz Roz Snz Ntz Mkz)) := by
  refine CT.of RX8 false rfl (fun h => by cases h) (by decide +kernel) (Nat.le_of_ble_eq_true rfl) ?_
  intro J hJ hE
  show J 0 [(0, .ref h), (1, .int a), (2, .int b)] [] [xO h u ab be (Rf 0) (Rf 1) (Rf 2), (u 0, .inr (4, [.ref (s 0), .ref (s 1), .ref (s 3), .ref (s 5), .ref (s 7)])), cO (s 0) q (A 21) (A 5) (A 6) (A 7) (A 8) (A 0), (q 0, ia Z 12 (ni K)), (q 1, ia Z 12 (ni P)), (q 2, ia Z 6 (ni kd)), (q 3, ia Z 6 (ni am)), (q 4, ia Z 6 (ni st)), (q 5, ia Z 6 (ni rg)), (s 1, .inr (1, [.int (nI (A 4)), .ref (s 2)])), (s 2, ia Z 128 (ni Ro)), (s 3, .inr (3, [.int (nI (A 1)), .int (nI 4), .int (nI 5), .ref (s 4)])), (s 4, ia Z 30 (ni Sn)), (s 5, .inr (3, [.int (nI (A 2)), .int (nI 5), .int (nI 6), .ref (s 6)])), (s 6, ia Z 30 (ni Nt)), (s 7, .inr (3, [.int (nI (A 3)), .int (nI 5), .int (nI 6), .ref (s 8)])), (s 8, ia Z 30 (ni Mk))] 0 0
  obtain ⟨hw, ⟨g1, g2, g3, g4, g8⟩, hrs, hrn, hrm, hpst⟩ := id hg
  obtain ⟨⟨w1, w2, w3, w4, w5, w6⟩, hb, wr, wh, wd⟩ := id hw
  obtain ⟨hR, hX⟩ := id hA
  obtain ⟨hP, hSn, hNt, hMk⟩ := id hX
  have hr_a := zI_rng a
  have hr_b := zI_rng b
  refine j_iload_n hJ (q := 1) dX8_round_0 rfl 1 rfl rfl ?_
  refine j_iconst hJ (q := 2) dX8_round_1 rfl ki_4 ?_
  refine j_bipush hJ (q := 4) dX8_round_2 rfl kb_12 ?_
  refine j_sR hJ (q := 7) (rest := []) (As := [.int a, .int (zI 4), .int (zI 12)]) jl_X8_58 (c_X8_within Z a 4 12 (by omega) (by omega)) dX8_round_4 rfl (by decide) (Nat.le_of_ble_eq_true rfl) [] rfl rfl (fun rv hp => ?_)
  obtain rfl := hp
  show J 7 [(0, .ref h), (1, .int a), (2, .int b)] [.int (bI (decide (4 ≤ a.toInt ∧ a.toInt ≤ 12)))] [xO h u ab be (Rf 0) (Rf 1) (Rf 2), (u 0, .inr (4, [.ref (s 0), .ref (s 1), .ref (s 3), .ref (s 5), .ref (s 7)])), cO (s 0) q (A 21) (A 5) (A 6) (A 7) (A 8) (A 0), (q 0, ia Z 12 (ni K)), (q 1, ia Z 12 (ni P)), (q 2, ia Z 6 (ni kd)), (q 3, ia Z 6 (ni am)), (q 4, ia Z 6 (ni st)), (q 5, ia Z 6 (ni rg)), (s 1, .inr (1, [.int (nI (A 4)), .ref (s 2)])), (s 2, ia Z 128 (ni Ro)), (s 3, .inr (3, [.int (nI (A 1)), .int (nI 4), .int (nI 5), .ref (s 4)])), (s 4, ia Z 30 (ni Sn)), (s 5, .inr (3, [.int (nI (A 2)), .int (nI 5), .int (nI 6), .ref (s 6)])), (s 6, ia Z 30 (ni Nt)), (s 7, .inr (3, [.int (nI (A 3)), .int (nI 5), .int (nI 6), .ref (s 8)])), (s 8, ia Z 30 (ni Mk))] 0 0
  refine jp_if_eq hJ (q := 10) (tgt := 19) dX8_round_7 (by decide) rfl (fun c1 => ?_) (fun c1 => ?_)
  · skip
    refine j_aload_n hJ (q := 20) dX8_round_19 rfl 0 rfl rfl ?_
    refine j_vW hJ (q := 23) (rest := []) (As := []) (wr := [(u 0, .inr (4, [.ref (s 0), .ref (s 1), .ref (s 3), .ref (s 5), .ref (s 7)])), cO (s 0) q (A 21) (A 5) (A 6) (A 7) (A 8) (A 0), (q 0, ia Z 12 (ni K)), (q 1, ia Z 12 (ni P)), (q 2, ia Z 6 (ni kd)), (q 3, ia Z 6 (ni am)), (q 4, ia Z 6 (ni st)), (q 5, ia Z 6 (ni rg)), (s 1, .inr (1, [.int (nI (A 4)), .ref (s 2)])), (s 2, ia Z 128 (ni Ro)), (s 3, .inr (3, [.int (nI (A 1)), .int (nI 4), .int (nI 5), .ref (s 4)])), (s 4, ia Z 30 (ni Sn)), (s 5, .inr (3, [.int (nI (A 2)), .int (nI 5), .int (nI 6), .ref (s 6)])), (s 6, ia Z 30 (ni Nt)), (s 7, .inr (3, [.int (nI (A 3)), .int (nI 5), .int (nI 6), .ref (s 8)])), (s 8, ia Z 30 (ni Mk))]) jl_X8_62 (c_X8_bad Z h u ab be Rf ) 0 rfl rfl dX8_round_20 rfl (by decide) (Nat.le_of_ble_eq_true rfl) [0] [1, 2, 3, 4, 5, 6, 7, 8, 9, 10, 11, 12, 13, 14, 15, 16] rfl rfl rfl rfl (by decide) rfl (fun rv wv hp => ?_)
    obtain ⟨rfl, rfl⟩ := hp
    refine j_world hJ (ws' := [xO h u ab be ((bmp Rf 0) 0) ((bmp Rf 0) 1) ((bmp Rf 0) 2), (u 0, .inr (4, [.ref (s 0), .ref (s 1), .ref (s 3), .ref (s 5), .ref (s 7)])), cO (s 0) q (A 21) (A 5) (A 6) (A 7) (A 8) (A 0), (q 0, ia Z 12 (ni K)), (q 1, ia Z 12 (ni P)), (q 2, ia Z 6 (ni kd)), (q 3, ia Z 6 (ni am)), (q 4, ia Z 6 (ni st)), (q 5, ia Z 6 (ni rg)), (s 1, .inr (1, [.int (nI (A 4)), .ref (s 2)])), (s 2, ia Z 128 (ni Ro)), (s 3, .inr (3, [.int (nI (A 1)), .int (nI 4), .int (nI 5), .ref (s 4)])), (s 4, ia Z 30 (ni Sn)), (s 5, .inr (3, [.int (nI (A 2)), .int (nI 5), .int (nI 6), .ref (s 6)])), (s 6, ia Z 30 (ni Nt)), (s 7, .inr (3, [.int (nI (A 3)), .int (nI 5), .int (nI 6), .ref (s 8)])), (s 8, ia Z 30 (ni Mk))]) [16, 0, 1, 2, 3, 4, 5, 6, 7, 8, 9, 10, 11, 12, 13, 14, 15] rfl rfl ?_
    show J 23 [(0, .ref h), (1, .int a), (2, .int b)] [.int (zI (-2))] [xO h u ab be ((bmp Rf 0) 0) ((bmp Rf 0) 1) ((bmp Rf 0) 2), (u 0, .inr (4, [.ref (s 0), .ref (s 1), .ref (s 3), .ref (s 5), .ref (s 7)])), cO (s 0) q (A 21) (A 5) (A 6) (A 7) (A 8) (A 0), (q 0, ia Z 12 (ni K)), (q 1, ia Z 12 (ni P)), (q 2, ia Z 6 (ni kd)), (q 3, ia Z 6 (ni am)), (q 4, ia Z 6 (ni st)), (q 5, ia Z 6 (ni rg)), (s 1, .inr (1, [.int (nI (A 4)), .ref (s 2)])), (s 2, ia Z 128 (ni Ro)), (s 3, .inr (3, [.int (nI (A 1)), .int (nI 4), .int (nI 5), .ref (s 4)])), (s 4, ia Z 30 (ni Sn)), (s 5, .inr (3, [.int (nI (A 2)), .int (nI 5), .int (nI 6), .ref (s 6)])), (s 6, ia Z 30 (ni Nt)), (s 7, .inr (3, [.int (nI (A 3)), .int (nI 5), .int (nI 6), .ref (s 8)])), (s 8, ia Z 30 (ni Mk))] 0 0
    have hP0 : ¬ (rgI 4 12 a ∧ rgI 0 3 b) := by simp only [rgI, isS, isR, pNote, pMark]; omega
    have hAo : (a_round A a b) = A := by simp only [a_round, if_neg hP0]
    have hRo : (if rgI 4 12 a ∧ rgI 0 3 b then Rf else bmp Rf 0) = bmp Rf 0 := by simp only [if_neg hP0]
    exact hE.1 _ _ _ _ _ _ _ rfl rfl dX8_round_23 (Nat.le_refl _) (Nat.le_refl _) (⟨K, P, kd, am, st, rg, Ro, Sn, Nt, Mk, congrArg (fun z => some (Value.int (zI z))) (by simp only [z_round, if_neg hP0]), by rw [hAo, hRo] <;> first | rfl | (skip), by rw [hAo]; exact hA⟩)
  · skip
    refine j_iload_n hJ (q := 11) dX8_round_10 rfl 2 rfl rfl ?_
    refine j_iconst hJ (q := 12) dX8_round_11 rfl ki_0 ?_
    refine j_iconst hJ (q := 13) dX8_round_12 rfl ki_3 ?_
    refine j_sR hJ (q := 16) (rest := []) (As := [.int b, .int (zI 0), .int (zI 3)]) jl_X8_58 (c_X8_within Z b 0 3 (by omega) (by omega)) dX8_round_13 rfl (by decide) (Nat.le_of_ble_eq_true rfl) [] rfl rfl (fun rv hp => ?_)
    obtain rfl := hp
    show J 16 [(0, .ref h), (1, .int a), (2, .int b)] [.int (bI (decide (0 ≤ b.toInt ∧ b.toInt ≤ 3)))] [xO h u ab be (Rf 0) (Rf 1) (Rf 2), (u 0, .inr (4, [.ref (s 0), .ref (s 1), .ref (s 3), .ref (s 5), .ref (s 7)])), cO (s 0) q (A 21) (A 5) (A 6) (A 7) (A 8) (A 0), (q 0, ia Z 12 (ni K)), (q 1, ia Z 12 (ni P)), (q 2, ia Z 6 (ni kd)), (q 3, ia Z 6 (ni am)), (q 4, ia Z 6 (ni st)), (q 5, ia Z 6 (ni rg)), (s 1, .inr (1, [.int (nI (A 4)), .ref (s 2)])), (s 2, ia Z 128 (ni Ro)), (s 3, .inr (3, [.int (nI (A 1)), .int (nI 4), .int (nI 5), .ref (s 4)])), (s 4, ia Z 30 (ni Sn)), (s 5, .inr (3, [.int (nI (A 2)), .int (nI 5), .int (nI 6), .ref (s 6)])), (s 6, ia Z 30 (ni Nt)), (s 7, .inr (3, [.int (nI (A 3)), .int (nI 5), .int (nI 6), .ref (s 8)])), (s 8, ia Z 30 (ni Mk))] 0 0
    refine jp_if_ne hJ (q := 19) (tgt := 24) dX8_round_16 (by decide) rfl (fun c2 => ?_) (fun c2 => ?_)
    · skip
      have hn_a := nt_cast (x := a) (by omega)
      refine j_eql (lvs' := [(0, .ref h), (1, .int (nI (nt a))), (2, .int b)]) (by rw [← nt_eq (x := a) (by omega)]) ?_
      have hn_b := nt_cast (x := b) (by omega)
      refine j_eql (lvs' := [(0, .ref h), (1, .int (nI (nt a))), (2, .int (nI (nt b)))]) (by rw [← nt_eq (x := b) (by omega)]) ?_
      refine j_aload_n hJ (q := 25) dX8_round_24 rfl 0 rfl rfl ?_
      refine j_get hJ (q := 28) jf_X8_10 dX8_round_25 0 rfl rfl rfl ?_
      refine j_get hJ (q := 31) jf_X8_66 dX8_round_28 1 rfl rfl rfl ?_
      refine j_get hJ (q := 34) jf_X8_69 dX8_round_31 2 rfl rfl rfl ?_
      refine j_istore_n hJ (q := 35) (lvs' := [(3, .int (nI (A 0))), (0, .ref h), (1, .int (nI (nt a))), (2, .int (nI (nt b)))]) dX8_round_34 rfl (by decide) rfl rfl ?_
      refine j_aload_n hJ (q := 36) dX8_round_35 rfl 1 rfl rfl ?_
      refine j_get hJ (q := 39) jf_X8_10 dX8_round_36 0 rfl rfl rfl ?_
      refine j_get hJ (q := 42) jf_X8_66 dX8_round_39 1 rfl rfl rfl ?_
      refine j_iload_n hJ (q := 43) dX8_round_42 rfl 2 rfl rfl ?_
      refine j_iload_n hJ (q := 44) dX8_round_43 rfl 3 rfl rfl ?_
      refine j_vW hJ (q := 47) (rest := []) (As := [.int (nI (nt a)), .int (nI (nt b))]) (wr := [xO h u ab be (Rf 0) (Rf 1) (Rf 2), (u 0, .inr (4, [.ref (s 0), .ref (s 1), .ref (s 3), .ref (s 5), .ref (s 7)])), (s 1, .inr (1, [.int (nI (A 4)), .ref (s 2)])), (s 2, ia Z 128 (ni Ro)), (s 3, .inr (3, [.int (nI (A 1)), .int (nI 4), .int (nI 5), .ref (s 4)])), (s 4, ia Z 30 (ni Sn)), (s 5, .inr (3, [.int (nI (A 2)), .int (nI 5), .int (nI 6), .ref (s 6)])), (s 6, ia Z 30 (ni Nt)), (s 7, .inr (3, [.int (nI (A 3)), .int (nI 5), .int (nI 6), .ref (s 8)])), (s 8, ia Z 30 (ni Mk))]) jl_X8_73 (c_X4_start Z (s 0) q (A 21) (A 5) (A 6) (A 7) (A 8) (A 0) K P kd am st rg (nt a) (nt b) ) 2 rfl rfl dX8_round_44 rfl (by decide) (Nat.le_of_ble_eq_true rfl) [2, 3, 4, 5, 6, 7, 8] [0, 1, 9, 10, 11, 12, 13, 14, 15, 16] rfl rfl rfl rfl (by decide) rfl (fun rv wv hp => ?_)
      obtain ⟨Kz3, Pz4, rfl, rfl, f5⟩ := hp
      refine j_world hJ (ws' := [xO h u ab be (Rf 0) (Rf 1) (Rf 2), (u 0, .inr (4, [.ref (s 0), .ref (s 1), .ref (s 3), .ref (s 5), .ref (s 7)])), cO (s 0) q (nt a) 0 (nt b) 8 0 0, (q 0, ia Z 12 (ni Kz3)), (q 1, ia Z 12 (ni Pz4)), (q 2, ia Z 6 (ni kd)), (q 3, ia Z 6 (ni am)), (q 4, ia Z 6 (ni st)), (q 5, ia Z 6 (ni rg)), (s 1, .inr (1, [.int (nI (A 4)), .ref (s 2)])), (s 2, ia Z 128 (ni Ro)), (s 3, .inr (3, [.int (nI (A 1)), .int (nI 4), .int (nI 5), .ref (s 4)])), (s 4, ia Z 30 (ni Sn)), (s 5, .inr (3, [.int (nI (A 2)), .int (nI 5), .int (nI 6), .ref (s 6)])), (s 6, ia Z 30 (ni Nt)), (s 7, .inr (3, [.int (nI (A 3)), .int (nI 5), .int (nI 6), .ref (s 8)])), (s 8, ia Z 30 (ni Mk))]) [0, 1, 10, 11, 12, 13, 14, 15, 16, 2, 3, 4, 5, 6, 7, 8, 9] rfl rfl ?_
      show J 47 [(3, .int (nI (A 0))), (0, .ref h), (1, .int (nI (nt a))), (2, .int (nI (nt b)))] [] [xO h u ab be (Rf 0) (Rf 1) (Rf 2), (u 0, .inr (4, [.ref (s 0), .ref (s 1), .ref (s 3), .ref (s 5), .ref (s 7)])), cO (s 0) q (nt a) 0 (nt b) 8 0 0, (q 0, ia Z 12 (ni Kz3)), (q 1, ia Z 12 (ni Pz4)), (q 2, ia Z 6 (ni kd)), (q 3, ia Z 6 (ni am)), (q 4, ia Z 6 (ni st)), (q 5, ia Z 6 (ni rg)), (s 1, .inr (1, [.int (nI (A 4)), .ref (s 2)])), (s 2, ia Z 128 (ni Ro)), (s 3, .inr (3, [.int (nI (A 1)), .int (nI 4), .int (nI 5), .ref (s 4)])), (s 4, ia Z 30 (ni Sn)), (s 5, .inr (3, [.int (nI (A 2)), .int (nI 5), .int (nI 6), .ref (s 6)])), (s 6, ia Z 30 (ni Nt)), (s 7, .inr (3, [.int (nI (A 3)), .int (nI 5), .int (nI 6), .ref (s 8)])), (s 8, ia Z 30 (ni Mk))] 0 0
      have hzz := f5
      refine j_aload_n hJ (q := 48) dX8_round_47 rfl 1 rfl rfl ?_
      refine j_get hJ (q := 51) jf_X8_10 dX8_round_48 0 rfl rfl rfl ?_
      refine j_vW hJ (q := 54) (rest := []) (As := []) (wr := [xO h u ab be (Rf 0) (Rf 1) (Rf 2), cO (s 0) q (nt a) 0 (nt b) 8 0 0, (q 0, ia Z 12 (ni Kz3)), (q 1, ia Z 12 (ni Pz4)), (q 2, ia Z 6 (ni kd)), (q 3, ia Z 6 (ni am)), (q 4, ia Z 6 (ni st)), (q 5, ia Z 6 (ni rg))]) jl_X8_77 (c_X6_dropRest Z (u 0) s (A 4) (A 1) (A 2) (A 3) Ro Sn Nt Mk ) 1 rfl rfl dX8_round_51 rfl (by decide) (Nat.le_of_ble_eq_true rfl) [1, 9, 10, 11, 12, 13, 14, 15, 16] [0, 2, 3, 4, 5, 6, 7, 8] rfl rfl rfl rfl (by decide) rfl (fun rv wv hp => ?_)
      obtain ⟨rfl, rfl⟩ := hp
      refine j_world hJ (ws' := [xO h u ab be (Rf 0) (Rf 1) (Rf 2), ((u 0), .inr (4, [.ref (s 0), .ref (s 1), .ref (s 3), .ref (s 5), .ref (s 7)])), cO (s 0) q (nt a) 0 (nt b) 8 0 0, (q 0, ia Z 12 (ni Kz3)), (q 1, ia Z 12 (ni Pz4)), (q 2, ia Z 6 (ni kd)), (q 3, ia Z 6 (ni am)), (q 4, ia Z 6 (ni st)), (q 5, ia Z 6 (ni rg)), (s 1, .inr (1, [.int (nI 0), .ref (s 2)])), (s 2, ia Z 128 (ni Ro)), (s 3, .inr (3, [.int (nI 0), .int (nI 4), .int (nI 5), .ref (s 4)])), (s 4, ia Z 30 (ni Sn)), (s 5, .inr (3, [.int (nI 0), .int (nI 5), .int (nI 6), .ref (s 6)])), (s 6, ia Z 30 (ni Nt)), (s 7, .inr (3, [.int (nI 0), .int (nI 5), .int (nI 6), .ref (s 8)])), (s 8, ia Z 30 (ni Mk))]) [0, 8, 1, 2, 3, 4, 5, 6, 7, 9, 10, 11, 12, 13, 14, 15, 16] rfl rfl ?_
      show J 54 [(3, .int (nI (A 0))), (0, .ref h), (1, .int (nI (nt a))), (2, .int (nI (nt b)))] [] [xO h u ab be (Rf 0) (Rf 1) (Rf 2), ((u 0), .inr (4, [.ref (s 0), .ref (s 1), .ref (s 3), .ref (s 5), .ref (s 7)])), cO (s 0) q (nt a) 0 (nt b) 8 0 0, (q 0, ia Z 12 (ni Kz3)), (q 1, ia Z 12 (ni Pz4)), (q 2, ia Z 6 (ni kd)), (q 3, ia Z 6 (ni am)), (q 4, ia Z 6 (ni st)), (q 5, ia Z 6 (ni rg)), (s 1, .inr (1, [.int (nI 0), .ref (s 2)])), (s 2, ia Z 128 (ni Ro)), (s 3, .inr (3, [.int (nI 0), .int (nI 4), .int (nI 5), .ref (s 4)])), (s 4, ia Z 30 (ni Sn)), (s 5, .inr (3, [.int (nI 0), .int (nI 5), .int (nI 6), .ref (s 6)])), (s 6, ia Z 30 (ni Nt)), (s 7, .inr (3, [.int (nI 0), .int (nI 5), .int (nI 6), .ref (s 8)])), (s 8, ia Z 30 (ni Mk))] 0 0
      refine j_iload_n hJ (q := 55) dX8_round_54 rfl 0 rfl rfl ?_
      have hP0 : rgI 4 12 a ∧ rgI 0 3 b := by simp only [rgI, isS, isR, pNote, pMark]; omega
      have hAo : (a_round A a b) = beg A (nt a) (nt b) := by simp only [a_round, if_pos hP0]
      have hRo : (if rgI 4 12 a ∧ rgI 0 3 b then Rf else bmp Rf 0) = Rf := by simp only [if_pos hP0]
      exact hE.1 _ _ _ _ _ _ _ rfl rfl dX8_round_55 (Nat.le_refl _) (Nat.le_refl _) (⟨Kz3, Pz4, kd, am, st, rg, Ro, Sn, Nt, Mk, congrArg (fun z => some (Value.int z)) ((zI_nat _).symm.trans (congrArg zI (by simp only [z_round, if_pos hP0]))), by rw [hAo, hRo] <;> first | rfl | (skip), by rw [hAo]; exact ⟨rR_beg (by omega) hzz, rX_0 ⟨rfl, rfl, rfl, rfl⟩⟩⟩)
    · skip
      refine j_aload_n hJ (q := 20) dX8_round_19 rfl 0 rfl rfl ?_
      refine j_vW hJ (q := 23) (rest := []) (As := []) (wr := [(u 0, .inr (4, [.ref (s 0), .ref (s 1), .ref (s 3), .ref (s 5), .ref (s 7)])), cO (s 0) q (A 21) (A 5) (A 6) (A 7) (A 8) (A 0), (q 0, ia Z 12 (ni K)), (q 1, ia Z 12 (ni P)), (q 2, ia Z 6 (ni kd)), (q 3, ia Z 6 (ni am)), (q 4, ia Z 6 (ni st)), (q 5, ia Z 6 (ni rg)), (s 1, .inr (1, [.int (nI (A 4)), .ref (s 2)])), (s 2, ia Z 128 (ni Ro)), (s 3, .inr (3, [.int (nI (A 1)), .int (nI 4), .int (nI 5), .ref (s 4)])), (s 4, ia Z 30 (ni Sn)), (s 5, .inr (3, [.int (nI (A 2)), .int (nI 5), .int (nI 6), .ref (s 6)])), (s 6, ia Z 30 (ni Nt)), (s 7, .inr (3, [.int (nI (A 3)), .int (nI 5), .int (nI 6), .ref (s 8)])), (s 8, ia Z 30 (ni Mk))]) jl_X8_62 (c_X8_bad Z h u ab be Rf ) 0 rfl rfl dX8_round_20 rfl (by decide) (Nat.le_of_ble_eq_true rfl) [0] [1, 2, 3, 4, 5, 6, 7, 8, 9, 10, 11, 12, 13, 14, 15, 16] rfl rfl rfl rfl (by decide) rfl (fun rv wv hp => ?_)
      obtain ⟨rfl, rfl⟩ := hp
      refine j_world hJ (ws' := [xO h u ab be ((bmp Rf 0) 0) ((bmp Rf 0) 1) ((bmp Rf 0) 2), (u 0, .inr (4, [.ref (s 0), .ref (s 1), .ref (s 3), .ref (s 5), .ref (s 7)])), cO (s 0) q (A 21) (A 5) (A 6) (A 7) (A 8) (A 0), (q 0, ia Z 12 (ni K)), (q 1, ia Z 12 (ni P)), (q 2, ia Z 6 (ni kd)), (q 3, ia Z 6 (ni am)), (q 4, ia Z 6 (ni st)), (q 5, ia Z 6 (ni rg)), (s 1, .inr (1, [.int (nI (A 4)), .ref (s 2)])), (s 2, ia Z 128 (ni Ro)), (s 3, .inr (3, [.int (nI (A 1)), .int (nI 4), .int (nI 5), .ref (s 4)])), (s 4, ia Z 30 (ni Sn)), (s 5, .inr (3, [.int (nI (A 2)), .int (nI 5), .int (nI 6), .ref (s 6)])), (s 6, ia Z 30 (ni Nt)), (s 7, .inr (3, [.int (nI (A 3)), .int (nI 5), .int (nI 6), .ref (s 8)])), (s 8, ia Z 30 (ni Mk))]) [16, 0, 1, 2, 3, 4, 5, 6, 7, 8, 9, 10, 11, 12, 13, 14, 15] rfl rfl ?_
      show J 23 [(0, .ref h), (1, .int a), (2, .int b)] [.int (zI (-2))] [xO h u ab be ((bmp Rf 0) 0) ((bmp Rf 0) 1) ((bmp Rf 0) 2), (u 0, .inr (4, [.ref (s 0), .ref (s 1), .ref (s 3), .ref (s 5), .ref (s 7)])), cO (s 0) q (A 21) (A 5) (A 6) (A 7) (A 8) (A 0), (q 0, ia Z 12 (ni K)), (q 1, ia Z 12 (ni P)), (q 2, ia Z 6 (ni kd)), (q 3, ia Z 6 (ni am)), (q 4, ia Z 6 (ni st)), (q 5, ia Z 6 (ni rg)), (s 1, .inr (1, [.int (nI (A 4)), .ref (s 2)])), (s 2, ia Z 128 (ni Ro)), (s 3, .inr (3, [.int (nI (A 1)), .int (nI 4), .int (nI 5), .ref (s 4)])), (s 4, ia Z 30 (ni Sn)), (s 5, .inr (3, [.int (nI (A 2)), .int (nI 5), .int (nI 6), .ref (s 6)])), (s 6, ia Z 30 (ni Nt)), (s 7, .inr (3, [.int (nI (A 3)), .int (nI 5), .int (nI 6), .ref (s 8)])), (s 8, ia Z 30 (ni Mk))] 0 0
      have hP0 : ¬ (rgI 4 12 a ∧ rgI 0 3 b) := by simp only [rgI, isS, isR, pNote, pMark]; omega
      have hAo : (a_round A a b) = A := by simp only [a_round, if_neg hP0]
      have hRo : (if rgI 4 12 a ∧ rgI 0 3 b then Rf else bmp Rf 0) = bmp Rf 0 := by simp only [if_neg hP0]
      exact hE.1 _ _ _ _ _ _ _ rfl rfl dX8_round_23 (Nat.le_refl _) (Nat.le_refl _) (⟨K, P, kd, am, st, rg, Ro, Sn, Nt, Mk, congrArg (fun z => some (Value.int (zI z))) (by simp only [z_round, if_neg hP0]), by rw [hAo, hRo] <;> first | rfl | (skip), by rw [hAo]; exact hA⟩)

set_option maxHeartbeats 4000000 in
set_option maxRecDepth 100000 in
theorem c_X8_horse (Z : jZ) (h : Nat) (u : Nat → Nat) (ab : Int) (be : Int) (Rf : Nat → Nat) (s : Nat → Nat) (q : Nat → Nat) (A : Nat → Nat) (K : Nat → Nat) (P : Nat → Nat) (kd : Nat → Nat) (am : Nat → Nat) (st : Nat → Nat) (rg : Nat → Nat) (Ro : Nat → Nat) (Sn : Nat → Nat) (Nt : Nat → Nat) (Mk : Nat → Nat) (a : Int32) (b : Int32) (c : Int32) (hg : wg A) (hA : rA A K P kd am st rg Ro Sn Nt Mk) : CT Z yX8_horse cX8_horse 5 ((some FieldType.int)) 3 0 0 [.ref h, .int a, .int b, .int c] [xO h u ab be (Rf 0) (Rf 1) (Rf 2), (u 0, .inr (4, [.ref (s 0), .ref (s 1), .ref (s 3), .ref (s 5), .ref (s 7)])), cO (s 0) q (A 21) (A 5) (A 6) (A 7) (A 8) (A 0), (q 0, ia Z 12 (ni K)), (q 1, ia Z 12 (ni P)), (q 2, ia Z 6 (ni kd)), (q 3, ia Z 6 (ni am)), (q 4, ia Z 6 (ni st)), (q 5, ia Z 6 (ni rg)), (s 1, .inr (1, [.int (nI (A 4)), .ref (s 2)])), (s 2, ia Z 128 (ni Ro)), (s 3, .inr (3, [.int (nI (A 1)), .int (nI 4), .int (nI 5), .ref (s 4)])), (s 4, ia Z 30 (ni Sn)), (s 5, .inr (3, [.int (nI (A 2)), .int (nI 5), .int (nI 6), .ref (s 6)])), (s 6, ia Z 30 (ni Nt)), (s 7, .inr (3, [.int (nI (A 3)), .int (nI 5), .int (nI 6), .ref (s 8)])), (s 8, ia Z 30 (ni Mk))] (fun rr ww => ∃ Kz : Nat → Nat, ∃ Pz : Nat → Nat, ∃ kdz : Nat → Nat, ∃ amz : Nat → Nat, ∃ stz : Nat → Nat, ∃ rgz : Nat → Nat, ∃ Roz : Nat → Nat, ∃ Snz : Nat → Nat, ∃ Ntz : Nat → Nat, ∃ Mkz : Nat → Nat, rr = some (.int (zI (z_horse A a b c))) ∧ ww = [xO h u ab be ((if isS A a ∧ rgI 0 5 b ∧ rgI 0 7 c then Rf else bmp Rf 0) 0) ((if isS A a ∧ rgI 0 5 b ∧ rgI 0 7 c then Rf else bmp Rf 0) 1) ((if isS A a ∧ rgI 0 5 b ∧ rgI 0 7 c then Rf else bmp Rf 0) 2), (u 0, .inr (4, [.ref (s 0), .ref (s 1), .ref (s 3), .ref (s 5), .ref (s 7)])), cO (s 0) q ((a_horse A a b c) 21) ((a_horse A a b c) 5) ((a_horse A a b c) 6) ((a_horse A a b c) 7) ((a_horse A a b c) 8) ((a_horse A a b c) 0), (q 0, ia Z 12 (ni Kz)), (q 1, ia Z 12 (ni Pz)), (q 2, ia Z 6 (ni kdz)), (q 3, ia Z 6 (ni amz)), (q 4, ia Z 6 (ni stz)), (q 5, ia Z 6 (ni rgz)), (s 1, .inr (1, [.int (nI ((a_horse A a b c) 4)), .ref (s 2)])), (s 2, ia Z 128 (ni Roz)), (s 3, .inr (3, [.int (nI ((a_horse A a b c) 1)), .int (nI 4), .int (nI 5), .ref (s 4)])), (s 4, ia Z 30 (ni Snz)), (s 5, .inr (3, [.int (nI ((a_horse A a b c) 2)), .int (nI 5), .int (nI 6), .ref (s 6)])), (s 6, ia Z 30 (ni Ntz)), (s 7, .inr (3, [.int (nI ((a_horse A a b c) 3)), .int (nI 5), .int (nI 6), .ref (s 8)])), (s 8, ia Z 30 (ni Mkz))] ∧ (rA (a_horse A a b c) Kz Pz kdz amz stz rgz Roz Snz Ntz Mkz)) := by
  refine CT.of RX8 false rfl (fun h => by cases h) (by decide +kernel) (Nat.le_of_ble_eq_true rfl) ?_
  intro J hJ hE
  show J 0 [(0, .ref h), (1, .int a), (2, .int b), (3, .int c)] [] [xO h u ab be (Rf 0) (Rf 1) (Rf 2), (u 0, .inr (4, [.ref (s 0), .ref (s 1), .ref (s 3), .ref (s 5), .ref (s 7)])), cO (s 0) q (A 21) (A 5) (A 6) (A 7) (A 8) (A 0), (q 0, ia Z 12 (ni K)), (q 1, ia Z 12 (ni P)), (q 2, ia Z 6 (ni kd)), (q 3, ia Z 6 (ni am)), (q 4, ia Z 6 (ni st)), (q 5, ia Z 6 (ni rg)), (s 1, .inr (1, [.int (nI (A 4)), .ref (s 2)])), (s 2, ia Z 128 (ni Ro)), (s 3, .inr (3, [.int (nI (A 1)), .int (nI 4), .int (nI 5), .ref (s 4)])), (s 4, ia Z 30 (ni Sn)), (s 5, .inr (3, [.int (nI (A 2)), .int (nI 5), .int (nI 6), .ref (s 6)])), (s 6, ia Z 30 (ni Nt)), (s 7, .inr (3, [.int (nI (A 3)), .int (nI 5), .int (nI 6), .ref (s 8)])), (s 8, ia Z 30 (ni Mk))] 0 0
  obtain ⟨hw, ⟨g1, g2, g3, g4, g8⟩, hrs, hrn, hrm, hpst⟩ := id hg
  obtain ⟨⟨w1, w2, w3, w4, w5, w6⟩, hb, wr, wh, wd⟩ := id hw
  obtain ⟨hR, hX⟩ := id hA
  obtain ⟨hP, hSn, hNt, hMk⟩ := id hX
  have hr_a := zI_rng a
  have hr_b := zI_rng b
  have hr_c := zI_rng c
  refine j_aload_n hJ (q := 1) dX8_horse_0 rfl 0 rfl rfl ?_
  refine j_iload_n hJ (q := 2) dX8_horse_1 rfl 1 rfl rfl ?_
  refine j_vR hJ (q := 5) (rest := []) (As := [.int a]) jl_X8_80 (c_X8_isSeat Z h u ab be Rf s q A K P kd am st rg a (by omega)) 0 rfl rfl dX8_horse_2 rfl (by decide) (Nat.le_of_ble_eq_true rfl) [0, 1, 2, 3, 4, 5, 6, 7, 8] rfl rfl (fun rv hp => ?_)
  obtain rfl := hp
  show J 5 [(0, .ref h), (1, .int a), (2, .int b), (3, .int c)] [.int (bI (decide (0 ≤ a.toInt ∧ a.toInt ≤ (A 21 : Int) - 1)))] [xO h u ab be (Rf 0) (Rf 1) (Rf 2), (u 0, .inr (4, [.ref (s 0), .ref (s 1), .ref (s 3), .ref (s 5), .ref (s 7)])), cO (s 0) q (A 21) (A 5) (A 6) (A 7) (A 8) (A 0), (q 0, ia Z 12 (ni K)), (q 1, ia Z 12 (ni P)), (q 2, ia Z 6 (ni kd)), (q 3, ia Z 6 (ni am)), (q 4, ia Z 6 (ni st)), (q 5, ia Z 6 (ni rg)), (s 1, .inr (1, [.int (nI (A 4)), .ref (s 2)])), (s 2, ia Z 128 (ni Ro)), (s 3, .inr (3, [.int (nI (A 1)), .int (nI 4), .int (nI 5), .ref (s 4)])), (s 4, ia Z 30 (ni Sn)), (s 5, .inr (3, [.int (nI (A 2)), .int (nI 5), .int (nI 6), .ref (s 6)])), (s 6, ia Z 30 (ni Nt)), (s 7, .inr (3, [.int (nI (A 3)), .int (nI 5), .int (nI 6), .ref (s 8)])), (s 8, ia Z 30 (ni Mk))] 0 0
  refine jp_if_eq hJ (q := 8) (tgt := 27) dX8_horse_5 (by decide) rfl (fun c1 => ?_) (fun c1 => ?_)
  · skip
    refine j_aload_n hJ (q := 28) dX8_horse_27 rfl 0 rfl rfl ?_
    refine j_vW hJ (q := 31) (rest := []) (As := []) (wr := [(u 0, .inr (4, [.ref (s 0), .ref (s 1), .ref (s 3), .ref (s 5), .ref (s 7)])), cO (s 0) q (A 21) (A 5) (A 6) (A 7) (A 8) (A 0), (q 0, ia Z 12 (ni K)), (q 1, ia Z 12 (ni P)), (q 2, ia Z 6 (ni kd)), (q 3, ia Z 6 (ni am)), (q 4, ia Z 6 (ni st)), (q 5, ia Z 6 (ni rg)), (s 1, .inr (1, [.int (nI (A 4)), .ref (s 2)])), (s 2, ia Z 128 (ni Ro)), (s 3, .inr (3, [.int (nI (A 1)), .int (nI 4), .int (nI 5), .ref (s 4)])), (s 4, ia Z 30 (ni Sn)), (s 5, .inr (3, [.int (nI (A 2)), .int (nI 5), .int (nI 6), .ref (s 6)])), (s 6, ia Z 30 (ni Nt)), (s 7, .inr (3, [.int (nI (A 3)), .int (nI 5), .int (nI 6), .ref (s 8)])), (s 8, ia Z 30 (ni Mk))]) jl_X8_62 (c_X8_bad Z h u ab be Rf ) 0 rfl rfl dX8_horse_28 rfl (by decide) (Nat.le_of_ble_eq_true rfl) [0] [1, 2, 3, 4, 5, 6, 7, 8, 9, 10, 11, 12, 13, 14, 15, 16] rfl rfl rfl rfl (by decide) rfl (fun rv wv hp => ?_)
    obtain ⟨rfl, rfl⟩ := hp
    refine j_world hJ (ws' := [xO h u ab be ((bmp Rf 0) 0) ((bmp Rf 0) 1) ((bmp Rf 0) 2), (u 0, .inr (4, [.ref (s 0), .ref (s 1), .ref (s 3), .ref (s 5), .ref (s 7)])), cO (s 0) q (A 21) (A 5) (A 6) (A 7) (A 8) (A 0), (q 0, ia Z 12 (ni K)), (q 1, ia Z 12 (ni P)), (q 2, ia Z 6 (ni kd)), (q 3, ia Z 6 (ni am)), (q 4, ia Z 6 (ni st)), (q 5, ia Z 6 (ni rg)), (s 1, .inr (1, [.int (nI (A 4)), .ref (s 2)])), (s 2, ia Z 128 (ni Ro)), (s 3, .inr (3, [.int (nI (A 1)), .int (nI 4), .int (nI 5), .ref (s 4)])), (s 4, ia Z 30 (ni Sn)), (s 5, .inr (3, [.int (nI (A 2)), .int (nI 5), .int (nI 6), .ref (s 6)])), (s 6, ia Z 30 (ni Nt)), (s 7, .inr (3, [.int (nI (A 3)), .int (nI 5), .int (nI 6), .ref (s 8)])), (s 8, ia Z 30 (ni Mk))]) [16, 0, 1, 2, 3, 4, 5, 6, 7, 8, 9, 10, 11, 12, 13, 14, 15] rfl rfl ?_
    show J 31 [(0, .ref h), (1, .int a), (2, .int b), (3, .int c)] [.int (zI (-2))] [xO h u ab be ((bmp Rf 0) 0) ((bmp Rf 0) 1) ((bmp Rf 0) 2), (u 0, .inr (4, [.ref (s 0), .ref (s 1), .ref (s 3), .ref (s 5), .ref (s 7)])), cO (s 0) q (A 21) (A 5) (A 6) (A 7) (A 8) (A 0), (q 0, ia Z 12 (ni K)), (q 1, ia Z 12 (ni P)), (q 2, ia Z 6 (ni kd)), (q 3, ia Z 6 (ni am)), (q 4, ia Z 6 (ni st)), (q 5, ia Z 6 (ni rg)), (s 1, .inr (1, [.int (nI (A 4)), .ref (s 2)])), (s 2, ia Z 128 (ni Ro)), (s 3, .inr (3, [.int (nI (A 1)), .int (nI 4), .int (nI 5), .ref (s 4)])), (s 4, ia Z 30 (ni Sn)), (s 5, .inr (3, [.int (nI (A 2)), .int (nI 5), .int (nI 6), .ref (s 6)])), (s 6, ia Z 30 (ni Nt)), (s 7, .inr (3, [.int (nI (A 3)), .int (nI 5), .int (nI 6), .ref (s 8)])), (s 8, ia Z 30 (ni Mk))] 0 0
    have hP0 : ¬ (isS A a ∧ rgI 0 5 b ∧ rgI 0 7 c) := by simp only [rgI, isS, isR, pNote, pMark]; omega
    have hAo : (a_horse A a b c) = A := by simp only [a_horse, if_neg hP0]
    have hRo : (if isS A a ∧ rgI 0 5 b ∧ rgI 0 7 c then Rf else bmp Rf 0) = bmp Rf 0 := by simp only [if_neg hP0]
    exact hE.1 _ _ _ _ _ _ _ rfl rfl dX8_horse_31 (Nat.le_refl _) (Nat.le_refl _) (⟨K, P, kd, am, st, rg, Ro, Sn, Nt, Mk, congrArg (fun z => some (Value.int (zI z))) (by simp only [z_horse, if_neg hP0]), by rw [hAo, hRo] <;> first | rfl | (skip), by rw [hAo]; exact hA⟩)
  · skip
    refine j_iload_n hJ (q := 9) dX8_horse_8 rfl 2 rfl rfl ?_
    refine j_iconst hJ (q := 10) dX8_horse_9 rfl ki_0 ?_
    refine j_iconst hJ (q := 11) dX8_horse_10 rfl ki_5 ?_
    refine j_sR hJ (q := 14) (rest := []) (As := [.int b, .int (zI 0), .int (zI 5)]) jl_X8_58 (c_X8_within Z b 0 5 (by omega) (by omega)) dX8_horse_11 rfl (by decide) (Nat.le_of_ble_eq_true rfl) [] rfl rfl (fun rv hp => ?_)
    obtain rfl := hp
    show J 14 [(0, .ref h), (1, .int a), (2, .int b), (3, .int c)] [.int (bI (decide (0 ≤ b.toInt ∧ b.toInt ≤ 5)))] [xO h u ab be (Rf 0) (Rf 1) (Rf 2), (u 0, .inr (4, [.ref (s 0), .ref (s 1), .ref (s 3), .ref (s 5), .ref (s 7)])), cO (s 0) q (A 21) (A 5) (A 6) (A 7) (A 8) (A 0), (q 0, ia Z 12 (ni K)), (q 1, ia Z 12 (ni P)), (q 2, ia Z 6 (ni kd)), (q 3, ia Z 6 (ni am)), (q 4, ia Z 6 (ni st)), (q 5, ia Z 6 (ni rg)), (s 1, .inr (1, [.int (nI (A 4)), .ref (s 2)])), (s 2, ia Z 128 (ni Ro)), (s 3, .inr (3, [.int (nI (A 1)), .int (nI 4), .int (nI 5), .ref (s 4)])), (s 4, ia Z 30 (ni Sn)), (s 5, .inr (3, [.int (nI (A 2)), .int (nI 5), .int (nI 6), .ref (s 6)])), (s 6, ia Z 30 (ni Nt)), (s 7, .inr (3, [.int (nI (A 3)), .int (nI 5), .int (nI 6), .ref (s 8)])), (s 8, ia Z 30 (ni Mk))] 0 0
    refine jp_if_eq hJ (q := 17) (tgt := 27) dX8_horse_14 (by decide) rfl (fun c2 => ?_) (fun c2 => ?_)
    · skip
      refine j_aload_n hJ (q := 28) dX8_horse_27 rfl 0 rfl rfl ?_
      refine j_vW hJ (q := 31) (rest := []) (As := []) (wr := [(u 0, .inr (4, [.ref (s 0), .ref (s 1), .ref (s 3), .ref (s 5), .ref (s 7)])), cO (s 0) q (A 21) (A 5) (A 6) (A 7) (A 8) (A 0), (q 0, ia Z 12 (ni K)), (q 1, ia Z 12 (ni P)), (q 2, ia Z 6 (ni kd)), (q 3, ia Z 6 (ni am)), (q 4, ia Z 6 (ni st)), (q 5, ia Z 6 (ni rg)), (s 1, .inr (1, [.int (nI (A 4)), .ref (s 2)])), (s 2, ia Z 128 (ni Ro)), (s 3, .inr (3, [.int (nI (A 1)), .int (nI 4), .int (nI 5), .ref (s 4)])), (s 4, ia Z 30 (ni Sn)), (s 5, .inr (3, [.int (nI (A 2)), .int (nI 5), .int (nI 6), .ref (s 6)])), (s 6, ia Z 30 (ni Nt)), (s 7, .inr (3, [.int (nI (A 3)), .int (nI 5), .int (nI 6), .ref (s 8)])), (s 8, ia Z 30 (ni Mk))]) jl_X8_62 (c_X8_bad Z h u ab be Rf ) 0 rfl rfl dX8_horse_28 rfl (by decide) (Nat.le_of_ble_eq_true rfl) [0] [1, 2, 3, 4, 5, 6, 7, 8, 9, 10, 11, 12, 13, 14, 15, 16] rfl rfl rfl rfl (by decide) rfl (fun rv wv hp => ?_)
      obtain ⟨rfl, rfl⟩ := hp
      refine j_world hJ (ws' := [xO h u ab be ((bmp Rf 0) 0) ((bmp Rf 0) 1) ((bmp Rf 0) 2), (u 0, .inr (4, [.ref (s 0), .ref (s 1), .ref (s 3), .ref (s 5), .ref (s 7)])), cO (s 0) q (A 21) (A 5) (A 6) (A 7) (A 8) (A 0), (q 0, ia Z 12 (ni K)), (q 1, ia Z 12 (ni P)), (q 2, ia Z 6 (ni kd)), (q 3, ia Z 6 (ni am)), (q 4, ia Z 6 (ni st)), (q 5, ia Z 6 (ni rg)), (s 1, .inr (1, [.int (nI (A 4)), .ref (s 2)])), (s 2, ia Z 128 (ni Ro)), (s 3, .inr (3, [.int (nI (A 1)), .int (nI 4), .int (nI 5), .ref (s 4)])), (s 4, ia Z 30 (ni Sn)), (s 5, .inr (3, [.int (nI (A 2)), .int (nI 5), .int (nI 6), .ref (s 6)])), (s 6, ia Z 30 (ni Nt)), (s 7, .inr (3, [.int (nI (A 3)), .int (nI 5), .int (nI 6), .ref (s 8)])), (s 8, ia Z 30 (ni Mk))]) [16, 0, 1, 2, 3, 4, 5, 6, 7, 8, 9, 10, 11, 12, 13, 14, 15] rfl rfl ?_
      show J 31 [(0, .ref h), (1, .int a), (2, .int b), (3, .int c)] [.int (zI (-2))] [xO h u ab be ((bmp Rf 0) 0) ((bmp Rf 0) 1) ((bmp Rf 0) 2), (u 0, .inr (4, [.ref (s 0), .ref (s 1), .ref (s 3), .ref (s 5), .ref (s 7)])), cO (s 0) q (A 21) (A 5) (A 6) (A 7) (A 8) (A 0), (q 0, ia Z 12 (ni K)), (q 1, ia Z 12 (ni P)), (q 2, ia Z 6 (ni kd)), (q 3, ia Z 6 (ni am)), (q 4, ia Z 6 (ni st)), (q 5, ia Z 6 (ni rg)), (s 1, .inr (1, [.int (nI (A 4)), .ref (s 2)])), (s 2, ia Z 128 (ni Ro)), (s 3, .inr (3, [.int (nI (A 1)), .int (nI 4), .int (nI 5), .ref (s 4)])), (s 4, ia Z 30 (ni Sn)), (s 5, .inr (3, [.int (nI (A 2)), .int (nI 5), .int (nI 6), .ref (s 6)])), (s 6, ia Z 30 (ni Nt)), (s 7, .inr (3, [.int (nI (A 3)), .int (nI 5), .int (nI 6), .ref (s 8)])), (s 8, ia Z 30 (ni Mk))] 0 0
      have hP0 : ¬ (isS A a ∧ rgI 0 5 b ∧ rgI 0 7 c) := by simp only [rgI, isS, isR, pNote, pMark]; omega
      have hAo : (a_horse A a b c) = A := by simp only [a_horse, if_neg hP0]
      have hRo : (if isS A a ∧ rgI 0 5 b ∧ rgI 0 7 c then Rf else bmp Rf 0) = bmp Rf 0 := by simp only [if_neg hP0]
      exact hE.1 _ _ _ _ _ _ _ rfl rfl dX8_horse_31 (Nat.le_refl _) (Nat.le_refl _) (⟨K, P, kd, am, st, rg, Ro, Sn, Nt, Mk, congrArg (fun z => some (Value.int (zI z))) (by simp only [z_horse, if_neg hP0]), by rw [hAo, hRo] <;> first | rfl | (skip), by rw [hAo]; exact hA⟩)
    · skip
      refine j_iload_n hJ (q := 18) dX8_horse_17 rfl 3 rfl rfl ?_
      refine j_iconst hJ (q := 19) dX8_horse_18 rfl ki_0 ?_
      refine j_bipush hJ (q := 21) dX8_horse_19 rfl kb_7 ?_
      refine j_sR hJ (q := 24) (rest := []) (As := [.int c, .int (zI 0), .int (zI 7)]) jl_X8_58 (c_X8_within Z c 0 7 (by omega) (by omega)) dX8_horse_21 rfl (by decide) (Nat.le_of_ble_eq_true rfl) [] rfl rfl (fun rv hp => ?_)
      obtain rfl := hp
      show J 24 [(0, .ref h), (1, .int a), (2, .int b), (3, .int c)] [.int (bI (decide (0 ≤ c.toInt ∧ c.toInt ≤ 7)))] [xO h u ab be (Rf 0) (Rf 1) (Rf 2), (u 0, .inr (4, [.ref (s 0), .ref (s 1), .ref (s 3), .ref (s 5), .ref (s 7)])), cO (s 0) q (A 21) (A 5) (A 6) (A 7) (A 8) (A 0), (q 0, ia Z 12 (ni K)), (q 1, ia Z 12 (ni P)), (q 2, ia Z 6 (ni kd)), (q 3, ia Z 6 (ni am)), (q 4, ia Z 6 (ni st)), (q 5, ia Z 6 (ni rg)), (s 1, .inr (1, [.int (nI (A 4)), .ref (s 2)])), (s 2, ia Z 128 (ni Ro)), (s 3, .inr (3, [.int (nI (A 1)), .int (nI 4), .int (nI 5), .ref (s 4)])), (s 4, ia Z 30 (ni Sn)), (s 5, .inr (3, [.int (nI (A 2)), .int (nI 5), .int (nI 6), .ref (s 6)])), (s 6, ia Z 30 (ni Nt)), (s 7, .inr (3, [.int (nI (A 3)), .int (nI 5), .int (nI 6), .ref (s 8)])), (s 8, ia Z 30 (ni Mk))] 0 0
      refine jp_if_ne hJ (q := 27) (tgt := 32) dX8_horse_24 (by decide) rfl (fun c3 => ?_) (fun c3 => ?_)
      · skip
        have hn_a := nt_cast (x := a) (by omega)
        refine j_eql (lvs' := [(0, .ref h), (1, .int (nI (nt a))), (2, .int b), (3, .int c)]) (by rw [← nt_eq (x := a) (by omega)]) ?_
        have hn_b := nt_cast (x := b) (by omega)
        refine j_eql (lvs' := [(0, .ref h), (1, .int (nI (nt a))), (2, .int (nI (nt b))), (3, .int c)]) (by rw [← nt_eq (x := b) (by omega)]) ?_
        have hn_c := nt_cast (x := c) (by omega)
        refine j_eql (lvs' := [(0, .ref h), (1, .int (nI (nt a))), (2, .int (nI (nt b))), (3, .int (nI (nt c)))]) (by rw [← nt_eq (x := c) (by omega)]) ?_
        refine j_aload_n hJ (q := 33) dX8_horse_32 rfl 0 rfl rfl ?_
        refine j_get hJ (q := 36) jf_X8_10 dX8_horse_33 0 rfl rfl rfl ?_
        refine j_get hJ (q := 39) jf_X8_66 dX8_horse_36 1 rfl rfl rfl ?_
        refine j_get hJ (q := 42) jf_X8_84 dX8_horse_39 2 rfl rfl rfl ?_
        refine j_iload_n hJ (q := 43) dX8_horse_42 rfl 1 rfl rfl ?_
        refine j_ialdN hJ (q := 44) (z := nI (K (nt a))) dX8_horse_43 3 rfl (by omega) (by decide) rfl rfl ?_
        refine j_top (congrArg nI (rR_K hR (i := nt a) (by omega))) ?_
        refine j_istore hJ (q := 46) (lvs' := [(4, .int (nI (A (34 + (nt a))))), (0, .ref h), (1, .int (nI (nt a))), (2, .int (nI (nt b))), (3, .int (nI (nt c)))]) dX8_horse_44 (by decide) rfl rfl ?_
        refine j_aload_n hJ (q := 47) dX8_horse_46 rfl 1 rfl rfl ?_
        refine j_get hJ (q := 50) jf_X8_10 dX8_horse_47 0 rfl rfl rfl ?_
        refine j_get hJ (q := 53) jf_X8_66 dX8_horse_50 1 rfl rfl rfl ?_
        refine j_iload_n hJ (q := 54) dX8_horse_53 rfl 2 rfl rfl ?_
        refine j_iload_n hJ (q := 55) dX8_horse_54 rfl 3 rfl rfl ?_
        refine j_iload_n hJ (q := 56) dX8_horse_55 rfl 4 rfl rfl ?_
        refine j_vW hJ (q := 59) (rest := []) (As := [.int (nI (nt a)), .int (nI (nt b)), .int (nI (nt c))]) (wr := [xO h u ab be (Rf 0) (Rf 1) (Rf 2), (u 0, .inr (4, [.ref (s 0), .ref (s 1), .ref (s 3), .ref (s 5), .ref (s 7)])), (s 1, .inr (1, [.int (nI (A 4)), .ref (s 2)])), (s 2, ia Z 128 (ni Ro)), (s 3, .inr (3, [.int (nI (A 1)), .int (nI 4), .int (nI 5), .ref (s 4)])), (s 4, ia Z 30 (ni Sn)), (s 5, .inr (3, [.int (nI (A 2)), .int (nI 5), .int (nI 6), .ref (s 6)])), (s 6, ia Z 30 (ni Nt)), (s 7, .inr (3, [.int (nI (A 3)), .int (nI 5), .int (nI 6), .ref (s 8)])), (s 8, ia Z 30 (ni Mk))]) jl_X8_87 (c_X4_putHorse Z (s 0) q A K P kd am st rg (nt a) (nt b) (nt c) (by omega)) 2 rfl rfl dX8_horse_56 rfl (by decide) (Nat.le_of_ble_eq_true rfl) [2, 3, 4, 5, 6, 7, 8] [0, 1, 9, 10, 11, 12, 13, 14, 15, 16] rfl rfl rfl rfl (by decide) rfl (fun rv wv hp => ?_)
        obtain ⟨rfl, rfl⟩ := hp
        refine j_world hJ (ws' := [xO h u ab be (Rf 0) (Rf 1) (Rf 2), (u 0, .inr (4, [.ref (s 0), .ref (s 1), .ref (s 3), .ref (s 5), .ref (s 7)])), cO (s 0) q (A 21) (A 5) (A 6) (A 7) (A 8) (A 0), (q 0, ia Z 12 (ni (va_up K (nt a) (nt b)))), (q 1, ia Z 12 (ni (va_up P (nt a) (nt c)))), (q 2, ia Z 6 (ni kd)), (q 3, ia Z 6 (ni am)), (q 4, ia Z 6 (ni st)), (q 5, ia Z 6 (ni rg)), (s 1, .inr (1, [.int (nI (A 4)), .ref (s 2)])), (s 2, ia Z 128 (ni Ro)), (s 3, .inr (3, [.int (nI (A 1)), .int (nI 4), .int (nI 5), .ref (s 4)])), (s 4, ia Z 30 (ni Sn)), (s 5, .inr (3, [.int (nI (A 2)), .int (nI 5), .int (nI 6), .ref (s 6)])), (s 6, ia Z 30 (ni Nt)), (s 7, .inr (3, [.int (nI (A 3)), .int (nI 5), .int (nI 6), .ref (s 8)])), (s 8, ia Z 30 (ni Mk))]) [0, 1, 10, 11, 12, 13, 14, 15, 16, 2, 3, 4, 5, 6, 7, 8, 9] rfl rfl ?_
        show J 59 [(4, .int (nI (A (34 + (nt a))))), (0, .ref h), (1, .int (nI (nt a))), (2, .int (nI (nt b))), (3, .int (nI (nt c)))] [] [xO h u ab be (Rf 0) (Rf 1) (Rf 2), (u 0, .inr (4, [.ref (s 0), .ref (s 1), .ref (s 3), .ref (s 5), .ref (s 7)])), cO (s 0) q (A 21) (A 5) (A 6) (A 7) (A 8) (A 0), (q 0, ia Z 12 (ni (va_up K (nt a) (nt b)))), (q 1, ia Z 12 (ni (va_up P (nt a) (nt c)))), (q 2, ia Z 6 (ni kd)), (q 3, ia Z 6 (ni am)), (q 4, ia Z 6 (ni st)), (q 5, ia Z 6 (ni rg)), (s 1, .inr (1, [.int (nI (A 4)), .ref (s 2)])), (s 2, ia Z 128 (ni Ro)), (s 3, .inr (3, [.int (nI (A 1)), .int (nI 4), .int (nI 5), .ref (s 4)])), (s 4, ia Z 30 (ni Sn)), (s 5, .inr (3, [.int (nI (A 2)), .int (nI 5), .int (nI 6), .ref (s 6)])), (s 6, ia Z 30 (ni Nt)), (s 7, .inr (3, [.int (nI (A 3)), .int (nI 5), .int (nI 6), .ref (s 8)])), (s 8, ia Z 30 (ni Mk))] 0 0
        refine j_aload_n hJ (q := 60) dX8_horse_59 rfl 1 rfl rfl ?_
        refine j_get hJ (q := 63) jf_X8_10 dX8_horse_60 0 rfl rfl rfl ?_
        refine j_get hJ (q := 66) jf_X8_91 dX8_horse_63 1 rfl rfl rfl ?_
        refine j_iconst hJ (q := 67) dX8_horse_66 rfl ki_0 ?_
        refine j_put hJ (q := 70) (ws' := [xO h u ab be (Rf 0) (Rf 1) (Rf 2), (u 0, .inr (4, [.ref (s 0), .ref (s 1), .ref (s 3), .ref (s 5), .ref (s 7)])), cO (s 0) q (A 21) (A 5) (A 6) (A 7) (A 8) (A 0), (q 0, ia Z 12 (ni (va_up K (nt a) (nt b)))), (q 1, ia Z 12 (ni (va_up P (nt a) (nt c)))), (q 2, ia Z 6 (ni kd)), (q 3, ia Z 6 (ni am)), (q 4, ia Z 6 (ni st)), (q 5, ia Z 6 (ni rg)), (s 1, .inr (1, [.int (nI 0), .ref (s 2)])), (s 2, ia Z 128 (ni Ro)), (s 3, .inr (3, [.int (nI (A 1)), .int (nI 4), .int (nI 5), .ref (s 4)])), (s 4, ia Z 30 (ni Sn)), (s 5, .inr (3, [.int (nI (A 2)), .int (nI 5), .int (nI 6), .ref (s 6)])), (s 6, ia Z 30 (ni Nt)), (s 7, .inr (3, [.int (nI (A 3)), .int (nI 5), .int (nI 6), .ref (s 8)])), (s 8, ia Z 30 (ni Mk))]) jp_X8_95 dX8_horse_67 9 rfl rfl rfl (Nat.le_of_ble_eq_true rfl) rfl rfl ?_
        refine j_iload hJ (q := 72) dX8_horse_70 0 rfl rfl ?_
        have hP0 : isS A a ∧ rgI 0 5 b ∧ rgI 0 7 c := by simp only [rgI, isS, isR, pNote, pMark]; omega
        have hAo : (a_horse A a b c) = va_up (va_up (va_up A (34 + nt a) (nt b)) (46 + nt a) (nt c)) 4 0 := by simp only [a_horse, if_pos hP0]
        have hRo : (if isS A a ∧ rgI 0 5 b ∧ rgI 0 7 c then Rf else bmp Rf 0) = Rf := by simp only [if_pos hP0]
        have es21 : (va_up (va_up (va_up A (34 + nt a) (nt b)) (46 + nt a) (nt c)) 4 0) 21 = A 21 := by simp only [va_up]; rw [if_neg (by decide), if_neg (by omega), if_neg (by omega)]
        have es5 : (va_up (va_up (va_up A (34 + nt a) (nt b)) (46 + nt a) (nt c)) 4 0) 5 = A 5 := by simp only [va_up]; rw [if_neg (by decide), if_neg (by omega), if_neg (by omega)]
        have es6 : (va_up (va_up (va_up A (34 + nt a) (nt b)) (46 + nt a) (nt c)) 4 0) 6 = A 6 := by simp only [va_up]; rw [if_neg (by decide), if_neg (by omega), if_neg (by omega)]
        have es7 : (va_up (va_up (va_up A (34 + nt a) (nt b)) (46 + nt a) (nt c)) 4 0) 7 = A 7 := by simp only [va_up]; rw [if_neg (by decide), if_neg (by omega), if_neg (by omega)]
        have es8 : (va_up (va_up (va_up A (34 + nt a) (nt b)) (46 + nt a) (nt c)) 4 0) 8 = A 8 := by simp only [va_up]; rw [if_neg (by decide), if_neg (by omega), if_neg (by omega)]
        have es0 : (va_up (va_up (va_up A (34 + nt a) (nt b)) (46 + nt a) (nt c)) 4 0) 0 = A 0 := by simp only [va_up]; rw [if_neg (by decide), if_neg (by omega), if_neg (by omega)]
        have es1 : (va_up (va_up (va_up A (34 + nt a) (nt b)) (46 + nt a) (nt c)) 4 0) 1 = A 1 := by simp only [va_up]; rw [if_neg (by decide), if_neg (by omega), if_neg (by omega)]
        have es2 : (va_up (va_up (va_up A (34 + nt a) (nt b)) (46 + nt a) (nt c)) 4 0) 2 = A 2 := by simp only [va_up]; rw [if_neg (by decide), if_neg (by omega), if_neg (by omega)]
        have es3 : (va_up (va_up (va_up A (34 + nt a) (nt b)) (46 + nt a) (nt c)) 4 0) 3 = A 3 := by simp only [va_up]; rw [if_neg (by decide), if_neg (by omega), if_neg (by omega)]
        have es4 : (va_up (va_up (va_up A (34 + nt a) (nt b)) (46 + nt a) (nt c)) 4 0) 4 = 0 := rfl
        have eo : ∀ j, j < 34 ∨ 58 ≤ j → j ≠ 4 → (va_up (va_up (va_up A (34 + nt a) (nt b)) (46 + nt a) (nt c)) 4 0) j = A j := fun j h1 h2 => by simp only [va_up]; rw [if_neg h2, if_neg (by omega), if_neg (by omega)]
        exact hE.1 _ _ _ _ _ _ _ rfl rfl dX8_horse_72 (Nat.le_refl _) (Nat.le_refl _) (⟨(va_up K (nt a) (nt b)), (va_up P (nt a) (nt c)), kd, am, st, rg, Ro, Sn, Nt, Mk, congrArg (fun z => some (Value.int z)) ((zI_nat _).symm.trans (congrArg zI (by simp only [z_horse, if_pos hP0]))), by rw [hAo, hRo] <;> first | rfl | (simp only [es21, es5, es6, es7, es8, es0, es1, es2, es3, es4]), by rw [hAo]; exact ⟨rR_of (rR_horse hR (by omega) w2 w6) (fun j hj => by simp only [va_up]; rw [if_neg (by omega)]) (by simp only [va_up]; rw [if_neg (by omega), if_neg (by omega)]; exact w6) (by simp only [va_up]; rw [if_neg (by omega), if_neg (by omega)]; exact w2), rX_p hX (rP_0 rfl) (fun j hj => eo j (by omega) (by omega)) ⟨g1, g2, g3⟩⟩⟩)
      · skip
        refine j_aload_n hJ (q := 28) dX8_horse_27 rfl 0 rfl rfl ?_
        refine j_vW hJ (q := 31) (rest := []) (As := []) (wr := [(u 0, .inr (4, [.ref (s 0), .ref (s 1), .ref (s 3), .ref (s 5), .ref (s 7)])), cO (s 0) q (A 21) (A 5) (A 6) (A 7) (A 8) (A 0), (q 0, ia Z 12 (ni K)), (q 1, ia Z 12 (ni P)), (q 2, ia Z 6 (ni kd)), (q 3, ia Z 6 (ni am)), (q 4, ia Z 6 (ni st)), (q 5, ia Z 6 (ni rg)), (s 1, .inr (1, [.int (nI (A 4)), .ref (s 2)])), (s 2, ia Z 128 (ni Ro)), (s 3, .inr (3, [.int (nI (A 1)), .int (nI 4), .int (nI 5), .ref (s 4)])), (s 4, ia Z 30 (ni Sn)), (s 5, .inr (3, [.int (nI (A 2)), .int (nI 5), .int (nI 6), .ref (s 6)])), (s 6, ia Z 30 (ni Nt)), (s 7, .inr (3, [.int (nI (A 3)), .int (nI 5), .int (nI 6), .ref (s 8)])), (s 8, ia Z 30 (ni Mk))]) jl_X8_62 (c_X8_bad Z h u ab be Rf ) 0 rfl rfl dX8_horse_28 rfl (by decide) (Nat.le_of_ble_eq_true rfl) [0] [1, 2, 3, 4, 5, 6, 7, 8, 9, 10, 11, 12, 13, 14, 15, 16] rfl rfl rfl rfl (by decide) rfl (fun rv wv hp => ?_)
        obtain ⟨rfl, rfl⟩ := hp
        refine j_world hJ (ws' := [xO h u ab be ((bmp Rf 0) 0) ((bmp Rf 0) 1) ((bmp Rf 0) 2), (u 0, .inr (4, [.ref (s 0), .ref (s 1), .ref (s 3), .ref (s 5), .ref (s 7)])), cO (s 0) q (A 21) (A 5) (A 6) (A 7) (A 8) (A 0), (q 0, ia Z 12 (ni K)), (q 1, ia Z 12 (ni P)), (q 2, ia Z 6 (ni kd)), (q 3, ia Z 6 (ni am)), (q 4, ia Z 6 (ni st)), (q 5, ia Z 6 (ni rg)), (s 1, .inr (1, [.int (nI (A 4)), .ref (s 2)])), (s 2, ia Z 128 (ni Ro)), (s 3, .inr (3, [.int (nI (A 1)), .int (nI 4), .int (nI 5), .ref (s 4)])), (s 4, ia Z 30 (ni Sn)), (s 5, .inr (3, [.int (nI (A 2)), .int (nI 5), .int (nI 6), .ref (s 6)])), (s 6, ia Z 30 (ni Nt)), (s 7, .inr (3, [.int (nI (A 3)), .int (nI 5), .int (nI 6), .ref (s 8)])), (s 8, ia Z 30 (ni Mk))]) [16, 0, 1, 2, 3, 4, 5, 6, 7, 8, 9, 10, 11, 12, 13, 14, 15] rfl rfl ?_
        show J 31 [(0, .ref h), (1, .int a), (2, .int b), (3, .int c)] [.int (zI (-2))] [xO h u ab be ((bmp Rf 0) 0) ((bmp Rf 0) 1) ((bmp Rf 0) 2), (u 0, .inr (4, [.ref (s 0), .ref (s 1), .ref (s 3), .ref (s 5), .ref (s 7)])), cO (s 0) q (A 21) (A 5) (A 6) (A 7) (A 8) (A 0), (q 0, ia Z 12 (ni K)), (q 1, ia Z 12 (ni P)), (q 2, ia Z 6 (ni kd)), (q 3, ia Z 6 (ni am)), (q 4, ia Z 6 (ni st)), (q 5, ia Z 6 (ni rg)), (s 1, .inr (1, [.int (nI (A 4)), .ref (s 2)])), (s 2, ia Z 128 (ni Ro)), (s 3, .inr (3, [.int (nI (A 1)), .int (nI 4), .int (nI 5), .ref (s 4)])), (s 4, ia Z 30 (ni Sn)), (s 5, .inr (3, [.int (nI (A 2)), .int (nI 5), .int (nI 6), .ref (s 6)])), (s 6, ia Z 30 (ni Nt)), (s 7, .inr (3, [.int (nI (A 3)), .int (nI 5), .int (nI 6), .ref (s 8)])), (s 8, ia Z 30 (ni Mk))] 0 0
        have hP0 : ¬ (isS A a ∧ rgI 0 5 b ∧ rgI 0 7 c) := by simp only [rgI, isS, isR, pNote, pMark]; omega
        have hAo : (a_horse A a b c) = A := by simp only [a_horse, if_neg hP0]
        have hRo : (if isS A a ∧ rgI 0 5 b ∧ rgI 0 7 c then Rf else bmp Rf 0) = bmp Rf 0 := by simp only [if_neg hP0]
        exact hE.1 _ _ _ _ _ _ _ rfl rfl dX8_horse_31 (Nat.le_refl _) (Nat.le_refl _) (⟨K, P, kd, am, st, rg, Ro, Sn, Nt, Mk, congrArg (fun z => some (Value.int (zI z))) (by simp only [z_horse, if_neg hP0]), by rw [hAo, hRo] <;> first | rfl | (skip), by rw [hAo]; exact hA⟩)

set_option maxHeartbeats 4000000 in
set_option maxRecDepth 100000 in
theorem c_X8_rider (Z : jZ) (h : Nat) (u : Nat → Nat) (ab : Int) (be : Int) (Rf : Nat → Nat) (s : Nat → Nat) (q : Nat → Nat) (A : Nat → Nat) (K : Nat → Nat) (P : Nat → Nat) (kd : Nat → Nat) (am : Nat → Nat) (st : Nat → Nat) (rg : Nat → Nat) (Ro : Nat → Nat) (Sn : Nat → Nat) (Nt : Nat → Nat) (Mk : Nat → Nat) (a : Int32) (b : Int32) (c : Int32) (hg : wg A) (hA : rA A K P kd am st rg Ro Sn Nt Mk) : CT Z yX8_rider cX8_rider 4 ((some FieldType.int)) 3 0 0 [.ref h, .int a, .int b, .int c] [xO h u ab be (Rf 0) (Rf 1) (Rf 2), (u 0, .inr (4, [.ref (s 0), .ref (s 1), .ref (s 3), .ref (s 5), .ref (s 7)])), cO (s 0) q (A 21) (A 5) (A 6) (A 7) (A 8) (A 0), (q 0, ia Z 12 (ni K)), (q 1, ia Z 12 (ni P)), (q 2, ia Z 6 (ni kd)), (q 3, ia Z 6 (ni am)), (q 4, ia Z 6 (ni st)), (q 5, ia Z 6 (ni rg)), (s 1, .inr (1, [.int (nI (A 4)), .ref (s 2)])), (s 2, ia Z 128 (ni Ro)), (s 3, .inr (3, [.int (nI (A 1)), .int (nI 4), .int (nI 5), .ref (s 4)])), (s 4, ia Z 30 (ni Sn)), (s 5, .inr (3, [.int (nI (A 2)), .int (nI 5), .int (nI 6), .ref (s 6)])), (s 6, ia Z 30 (ni Nt)), (s 7, .inr (3, [.int (nI (A 3)), .int (nI 5), .int (nI 6), .ref (s 8)])), (s 8, ia Z 30 (ni Mk))] (fun rr ww => ∃ Kz : Nat → Nat, ∃ Pz : Nat → Nat, ∃ kdz : Nat → Nat, ∃ amz : Nat → Nat, ∃ stz : Nat → Nat, ∃ rgz : Nat → Nat, ∃ Roz : Nat → Nat, ∃ Snz : Nat → Nat, ∃ Ntz : Nat → Nat, ∃ Mkz : Nat → Nat, rr = some (.int (zI (z_rider A a b c))) ∧ ww = [xO h u ab be ((r_rider A Rf a b c) 0) ((r_rider A Rf a b c) 1) ((r_rider A Rf a b c) 2), (u 0, .inr (4, [.ref (s 0), .ref (s 1), .ref (s 3), .ref (s 5), .ref (s 7)])), cO (s 0) q ((a_rider A a b c) 21) ((a_rider A a b c) 5) ((a_rider A a b c) 6) ((a_rider A a b c) 7) ((a_rider A a b c) 8) ((a_rider A a b c) 0), (q 0, ia Z 12 (ni Kz)), (q 1, ia Z 12 (ni Pz)), (q 2, ia Z 6 (ni kdz)), (q 3, ia Z 6 (ni amz)), (q 4, ia Z 6 (ni stz)), (q 5, ia Z 6 (ni rgz)), (s 1, .inr (1, [.int (nI ((a_rider A a b c) 4)), .ref (s 2)])), (s 2, ia Z 128 (ni Roz)), (s 3, .inr (3, [.int (nI ((a_rider A a b c) 1)), .int (nI 4), .int (nI 5), .ref (s 4)])), (s 4, ia Z 30 (ni Snz)), (s 5, .inr (3, [.int (nI ((a_rider A a b c) 2)), .int (nI 5), .int (nI 6), .ref (s 6)])), (s 6, ia Z 30 (ni Ntz)), (s 7, .inr (3, [.int (nI ((a_rider A a b c) 3)), .int (nI 5), .int (nI 6), .ref (s 8)])), (s 8, ia Z 30 (ni Mkz))] ∧ (rA (a_rider A a b c) Kz Pz kdz amz stz rgz Roz Snz Ntz Mkz)) := by
  refine CT.of RX8 false rfl (fun h => by cases h) (by decide +kernel) (Nat.le_of_ble_eq_true rfl) ?_
  intro J hJ hE
  show J 0 [(0, .ref h), (1, .int a), (2, .int b), (3, .int c)] [] [xO h u ab be (Rf 0) (Rf 1) (Rf 2), (u 0, .inr (4, [.ref (s 0), .ref (s 1), .ref (s 3), .ref (s 5), .ref (s 7)])), cO (s 0) q (A 21) (A 5) (A 6) (A 7) (A 8) (A 0), (q 0, ia Z 12 (ni K)), (q 1, ia Z 12 (ni P)), (q 2, ia Z 6 (ni kd)), (q 3, ia Z 6 (ni am)), (q 4, ia Z 6 (ni st)), (q 5, ia Z 6 (ni rg)), (s 1, .inr (1, [.int (nI (A 4)), .ref (s 2)])), (s 2, ia Z 128 (ni Ro)), (s 3, .inr (3, [.int (nI (A 1)), .int (nI 4), .int (nI 5), .ref (s 4)])), (s 4, ia Z 30 (ni Sn)), (s 5, .inr (3, [.int (nI (A 2)), .int (nI 5), .int (nI 6), .ref (s 6)])), (s 6, ia Z 30 (ni Nt)), (s 7, .inr (3, [.int (nI (A 3)), .int (nI 5), .int (nI 6), .ref (s 8)])), (s 8, ia Z 30 (ni Mk))] 0 0
  obtain ⟨hw, ⟨g1, g2, g3, g4, g8⟩, hrs, hrn, hrm, hpst⟩ := id hg
  obtain ⟨⟨w1, w2, w3, w4, w5, w6⟩, hb, wr, wh, wd⟩ := id hw
  obtain ⟨hR, hX⟩ := id hA
  obtain ⟨hP, hSn, hNt, hMk⟩ := id hX
  have hr_a := zI_rng a
  have hr_b := zI_rng b
  have hr_c := zI_rng c
  refine j_iload_n hJ (q := 1) dX8_rider_0 rfl 1 rfl rfl ?_
  refine j_iconst hJ (q := 2) dX8_rider_1 rfl ki_0 ?_
  refine j_iconst hJ (q := 3) dX8_rider_2 rfl ki_5 ?_
  refine j_sR hJ (q := 6) (rest := []) (As := [.int a, .int (zI 0), .int (zI 5)]) jl_X8_58 (c_X8_within Z a 0 5 (by omega) (by omega)) dX8_rider_3 rfl (by decide) (Nat.le_of_ble_eq_true rfl) [] rfl rfl (fun rv hp => ?_)
  obtain rfl := hp
  show J 6 [(0, .ref h), (1, .int a), (2, .int b), (3, .int c)] [.int (bI (decide (0 ≤ a.toInt ∧ a.toInt ≤ 5)))] [xO h u ab be (Rf 0) (Rf 1) (Rf 2), (u 0, .inr (4, [.ref (s 0), .ref (s 1), .ref (s 3), .ref (s 5), .ref (s 7)])), cO (s 0) q (A 21) (A 5) (A 6) (A 7) (A 8) (A 0), (q 0, ia Z 12 (ni K)), (q 1, ia Z 12 (ni P)), (q 2, ia Z 6 (ni kd)), (q 3, ia Z 6 (ni am)), (q 4, ia Z 6 (ni st)), (q 5, ia Z 6 (ni rg)), (s 1, .inr (1, [.int (nI (A 4)), .ref (s 2)])), (s 2, ia Z 128 (ni Ro)), (s 3, .inr (3, [.int (nI (A 1)), .int (nI 4), .int (nI 5), .ref (s 4)])), (s 4, ia Z 30 (ni Sn)), (s 5, .inr (3, [.int (nI (A 2)), .int (nI 5), .int (nI 6), .ref (s 6)])), (s 6, ia Z 30 (ni Nt)), (s 7, .inr (3, [.int (nI (A 3)), .int (nI 5), .int (nI 6), .ref (s 8)])), (s 8, ia Z 30 (ni Mk))] 0 0
  refine jp_if_eq hJ (q := 9) (tgt := 27) dX8_rider_6 (by decide) rfl (fun c1 => ?_) (fun c1 => ?_)
  · skip
    refine j_aload_n hJ (q := 28) dX8_rider_27 rfl 0 rfl rfl ?_
    refine j_vW hJ (q := 31) (rest := []) (As := []) (wr := [(u 0, .inr (4, [.ref (s 0), .ref (s 1), .ref (s 3), .ref (s 5), .ref (s 7)])), cO (s 0) q (A 21) (A 5) (A 6) (A 7) (A 8) (A 0), (q 0, ia Z 12 (ni K)), (q 1, ia Z 12 (ni P)), (q 2, ia Z 6 (ni kd)), (q 3, ia Z 6 (ni am)), (q 4, ia Z 6 (ni st)), (q 5, ia Z 6 (ni rg)), (s 1, .inr (1, [.int (nI (A 4)), .ref (s 2)])), (s 2, ia Z 128 (ni Ro)), (s 3, .inr (3, [.int (nI (A 1)), .int (nI 4), .int (nI 5), .ref (s 4)])), (s 4, ia Z 30 (ni Sn)), (s 5, .inr (3, [.int (nI (A 2)), .int (nI 5), .int (nI 6), .ref (s 6)])), (s 6, ia Z 30 (ni Nt)), (s 7, .inr (3, [.int (nI (A 3)), .int (nI 5), .int (nI 6), .ref (s 8)])), (s 8, ia Z 30 (ni Mk))]) jl_X8_62 (c_X8_bad Z h u ab be Rf ) 0 rfl rfl dX8_rider_28 rfl (by decide) (Nat.le_of_ble_eq_true rfl) [0] [1, 2, 3, 4, 5, 6, 7, 8, 9, 10, 11, 12, 13, 14, 15, 16] rfl rfl rfl rfl (by decide) rfl (fun rv wv hp => ?_)
    obtain ⟨rfl, rfl⟩ := hp
    refine j_world hJ (ws' := [xO h u ab be ((bmp Rf 0) 0) ((bmp Rf 0) 1) ((bmp Rf 0) 2), (u 0, .inr (4, [.ref (s 0), .ref (s 1), .ref (s 3), .ref (s 5), .ref (s 7)])), cO (s 0) q (A 21) (A 5) (A 6) (A 7) (A 8) (A 0), (q 0, ia Z 12 (ni K)), (q 1, ia Z 12 (ni P)), (q 2, ia Z 6 (ni kd)), (q 3, ia Z 6 (ni am)), (q 4, ia Z 6 (ni st)), (q 5, ia Z 6 (ni rg)), (s 1, .inr (1, [.int (nI (A 4)), .ref (s 2)])), (s 2, ia Z 128 (ni Ro)), (s 3, .inr (3, [.int (nI (A 1)), .int (nI 4), .int (nI 5), .ref (s 4)])), (s 4, ia Z 30 (ni Sn)), (s 5, .inr (3, [.int (nI (A 2)), .int (nI 5), .int (nI 6), .ref (s 6)])), (s 6, ia Z 30 (ni Nt)), (s 7, .inr (3, [.int (nI (A 3)), .int (nI 5), .int (nI 6), .ref (s 8)])), (s 8, ia Z 30 (ni Mk))]) [16, 0, 1, 2, 3, 4, 5, 6, 7, 8, 9, 10, 11, 12, 13, 14, 15] rfl rfl ?_
    show J 31 [(0, .ref h), (1, .int a), (2, .int b), (3, .int c)] [.int (zI (-2))] [xO h u ab be ((bmp Rf 0) 0) ((bmp Rf 0) 1) ((bmp Rf 0) 2), (u 0, .inr (4, [.ref (s 0), .ref (s 1), .ref (s 3), .ref (s 5), .ref (s 7)])), cO (s 0) q (A 21) (A 5) (A 6) (A 7) (A 8) (A 0), (q 0, ia Z 12 (ni K)), (q 1, ia Z 12 (ni P)), (q 2, ia Z 6 (ni kd)), (q 3, ia Z 6 (ni am)), (q 4, ia Z 6 (ni st)), (q 5, ia Z 6 (ni rg)), (s 1, .inr (1, [.int (nI (A 4)), .ref (s 2)])), (s 2, ia Z 128 (ni Ro)), (s 3, .inr (3, [.int (nI (A 1)), .int (nI 4), .int (nI 5), .ref (s 4)])), (s 4, ia Z 30 (ni Sn)), (s 5, .inr (3, [.int (nI (A 2)), .int (nI 5), .int (nI 6), .ref (s 6)])), (s 6, ia Z 30 (ni Nt)), (s 7, .inr (3, [.int (nI (A 3)), .int (nI 5), .int (nI 6), .ref (s 8)])), (s 8, ia Z 30 (ni Mk))] 0 0
    have hP0 : ¬ (rgI 0 5 a ∧ rgI 1 9 b ∧ isS A c) := by simp only [rgI, isS, isR, pNote, pMark]; omega
    have hAo : (a_rider A a b c) = A := by simp only [a_rider, if_neg hP0]
    have hRo : (r_rider A Rf a b c) = bmp Rf 0 := by simp only [r_rider, if_neg hP0]
    exact hE.1 _ _ _ _ _ _ _ rfl rfl dX8_rider_31 (Nat.le_refl _) (Nat.le_refl _) (⟨K, P, kd, am, st, rg, Ro, Sn, Nt, Mk, congrArg (fun z => some (Value.int (zI z))) (by simp only [z_rider, if_neg hP0]), by rw [hAo, hRo] <;> first | rfl | (skip), by rw [hAo]; exact hA⟩)
  · skip
    refine j_iload_n hJ (q := 10) dX8_rider_9 rfl 2 rfl rfl ?_
    refine j_iconst hJ (q := 11) dX8_rider_10 rfl ki_1 ?_
    refine j_bipush hJ (q := 13) dX8_rider_11 rfl kb_9 ?_
    refine j_sR hJ (q := 16) (rest := []) (As := [.int b, .int (zI 1), .int (zI 9)]) jl_X8_58 (c_X8_within Z b 1 9 (by omega) (by omega)) dX8_rider_13 rfl (by decide) (Nat.le_of_ble_eq_true rfl) [] rfl rfl (fun rv hp => ?_)
    obtain rfl := hp
    show J 16 [(0, .ref h), (1, .int a), (2, .int b), (3, .int c)] [.int (bI (decide (1 ≤ b.toInt ∧ b.toInt ≤ 9)))] [xO h u ab be (Rf 0) (Rf 1) (Rf 2), (u 0, .inr (4, [.ref (s 0), .ref (s 1), .ref (s 3), .ref (s 5), .ref (s 7)])), cO (s 0) q (A 21) (A 5) (A 6) (A 7) (A 8) (A 0), (q 0, ia Z 12 (ni K)), (q 1, ia Z 12 (ni P)), (q 2, ia Z 6 (ni kd)), (q 3, ia Z 6 (ni am)), (q 4, ia Z 6 (ni st)), (q 5, ia Z 6 (ni rg)), (s 1, .inr (1, [.int (nI (A 4)), .ref (s 2)])), (s 2, ia Z 128 (ni Ro)), (s 3, .inr (3, [.int (nI (A 1)), .int (nI 4), .int (nI 5), .ref (s 4)])), (s 4, ia Z 30 (ni Sn)), (s 5, .inr (3, [.int (nI (A 2)), .int (nI 5), .int (nI 6), .ref (s 6)])), (s 6, ia Z 30 (ni Nt)), (s 7, .inr (3, [.int (nI (A 3)), .int (nI 5), .int (nI 6), .ref (s 8)])), (s 8, ia Z 30 (ni Mk))] 0 0
    refine jp_if_eq hJ (q := 19) (tgt := 27) dX8_rider_16 (by decide) rfl (fun c2 => ?_) (fun c2 => ?_)
    · skip
      refine j_aload_n hJ (q := 28) dX8_rider_27 rfl 0 rfl rfl ?_
      refine j_vW hJ (q := 31) (rest := []) (As := []) (wr := [(u 0, .inr (4, [.ref (s 0), .ref (s 1), .ref (s 3), .ref (s 5), .ref (s 7)])), cO (s 0) q (A 21) (A 5) (A 6) (A 7) (A 8) (A 0), (q 0, ia Z 12 (ni K)), (q 1, ia Z 12 (ni P)), (q 2, ia Z 6 (ni kd)), (q 3, ia Z 6 (ni am)), (q 4, ia Z 6 (ni st)), (q 5, ia Z 6 (ni rg)), (s 1, .inr (1, [.int (nI (A 4)), .ref (s 2)])), (s 2, ia Z 128 (ni Ro)), (s 3, .inr (3, [.int (nI (A 1)), .int (nI 4), .int (nI 5), .ref (s 4)])), (s 4, ia Z 30 (ni Sn)), (s 5, .inr (3, [.int (nI (A 2)), .int (nI 5), .int (nI 6), .ref (s 6)])), (s 6, ia Z 30 (ni Nt)), (s 7, .inr (3, [.int (nI (A 3)), .int (nI 5), .int (nI 6), .ref (s 8)])), (s 8, ia Z 30 (ni Mk))]) jl_X8_62 (c_X8_bad Z h u ab be Rf ) 0 rfl rfl dX8_rider_28 rfl (by decide) (Nat.le_of_ble_eq_true rfl) [0] [1, 2, 3, 4, 5, 6, 7, 8, 9, 10, 11, 12, 13, 14, 15, 16] rfl rfl rfl rfl (by decide) rfl (fun rv wv hp => ?_)
      obtain ⟨rfl, rfl⟩ := hp
      refine j_world hJ (ws' := [xO h u ab be ((bmp Rf 0) 0) ((bmp Rf 0) 1) ((bmp Rf 0) 2), (u 0, .inr (4, [.ref (s 0), .ref (s 1), .ref (s 3), .ref (s 5), .ref (s 7)])), cO (s 0) q (A 21) (A 5) (A 6) (A 7) (A 8) (A 0), (q 0, ia Z 12 (ni K)), (q 1, ia Z 12 (ni P)), (q 2, ia Z 6 (ni kd)), (q 3, ia Z 6 (ni am)), (q 4, ia Z 6 (ni st)), (q 5, ia Z 6 (ni rg)), (s 1, .inr (1, [.int (nI (A 4)), .ref (s 2)])), (s 2, ia Z 128 (ni Ro)), (s 3, .inr (3, [.int (nI (A 1)), .int (nI 4), .int (nI 5), .ref (s 4)])), (s 4, ia Z 30 (ni Sn)), (s 5, .inr (3, [.int (nI (A 2)), .int (nI 5), .int (nI 6), .ref (s 6)])), (s 6, ia Z 30 (ni Nt)), (s 7, .inr (3, [.int (nI (A 3)), .int (nI 5), .int (nI 6), .ref (s 8)])), (s 8, ia Z 30 (ni Mk))]) [16, 0, 1, 2, 3, 4, 5, 6, 7, 8, 9, 10, 11, 12, 13, 14, 15] rfl rfl ?_
      show J 31 [(0, .ref h), (1, .int a), (2, .int b), (3, .int c)] [.int (zI (-2))] [xO h u ab be ((bmp Rf 0) 0) ((bmp Rf 0) 1) ((bmp Rf 0) 2), (u 0, .inr (4, [.ref (s 0), .ref (s 1), .ref (s 3), .ref (s 5), .ref (s 7)])), cO (s 0) q (A 21) (A 5) (A 6) (A 7) (A 8) (A 0), (q 0, ia Z 12 (ni K)), (q 1, ia Z 12 (ni P)), (q 2, ia Z 6 (ni kd)), (q 3, ia Z 6 (ni am)), (q 4, ia Z 6 (ni st)), (q 5, ia Z 6 (ni rg)), (s 1, .inr (1, [.int (nI (A 4)), .ref (s 2)])), (s 2, ia Z 128 (ni Ro)), (s 3, .inr (3, [.int (nI (A 1)), .int (nI 4), .int (nI 5), .ref (s 4)])), (s 4, ia Z 30 (ni Sn)), (s 5, .inr (3, [.int (nI (A 2)), .int (nI 5), .int (nI 6), .ref (s 6)])), (s 6, ia Z 30 (ni Nt)), (s 7, .inr (3, [.int (nI (A 3)), .int (nI 5), .int (nI 6), .ref (s 8)])), (s 8, ia Z 30 (ni Mk))] 0 0
      have hP0 : ¬ (rgI 0 5 a ∧ rgI 1 9 b ∧ isS A c) := by simp only [rgI, isS, isR, pNote, pMark]; omega
      have hAo : (a_rider A a b c) = A := by simp only [a_rider, if_neg hP0]
      have hRo : (r_rider A Rf a b c) = bmp Rf 0 := by simp only [r_rider, if_neg hP0]
      exact hE.1 _ _ _ _ _ _ _ rfl rfl dX8_rider_31 (Nat.le_refl _) (Nat.le_refl _) (⟨K, P, kd, am, st, rg, Ro, Sn, Nt, Mk, congrArg (fun z => some (Value.int (zI z))) (by simp only [z_rider, if_neg hP0]), by rw [hAo, hRo] <;> first | rfl | (skip), by rw [hAo]; exact hA⟩)
    · skip
      refine j_aload_n hJ (q := 20) dX8_rider_19 rfl 0 rfl rfl ?_
      refine j_iload_n hJ (q := 21) dX8_rider_20 rfl 3 rfl rfl ?_
      refine j_vR hJ (q := 24) (rest := []) (As := [.int c]) jl_X8_80 (c_X8_isSeat Z h u ab be Rf s q A K P kd am st rg c (by omega)) 0 rfl rfl dX8_rider_21 rfl (by decide) (Nat.le_of_ble_eq_true rfl) [0, 1, 2, 3, 4, 5, 6, 7, 8] rfl rfl (fun rv hp => ?_)
      obtain rfl := hp
      show J 24 [(0, .ref h), (1, .int a), (2, .int b), (3, .int c)] [.int (bI (decide (0 ≤ c.toInt ∧ c.toInt ≤ (A 21 : Int) - 1)))] [xO h u ab be (Rf 0) (Rf 1) (Rf 2), (u 0, .inr (4, [.ref (s 0), .ref (s 1), .ref (s 3), .ref (s 5), .ref (s 7)])), cO (s 0) q (A 21) (A 5) (A 6) (A 7) (A 8) (A 0), (q 0, ia Z 12 (ni K)), (q 1, ia Z 12 (ni P)), (q 2, ia Z 6 (ni kd)), (q 3, ia Z 6 (ni am)), (q 4, ia Z 6 (ni st)), (q 5, ia Z 6 (ni rg)), (s 1, .inr (1, [.int (nI (A 4)), .ref (s 2)])), (s 2, ia Z 128 (ni Ro)), (s 3, .inr (3, [.int (nI (A 1)), .int (nI 4), .int (nI 5), .ref (s 4)])), (s 4, ia Z 30 (ni Sn)), (s 5, .inr (3, [.int (nI (A 2)), .int (nI 5), .int (nI 6), .ref (s 6)])), (s 6, ia Z 30 (ni Nt)), (s 7, .inr (3, [.int (nI (A 3)), .int (nI 5), .int (nI 6), .ref (s 8)])), (s 8, ia Z 30 (ni Mk))] 0 0
      refine jp_if_ne hJ (q := 27) (tgt := 32) dX8_rider_24 (by decide) rfl (fun c3 => ?_) (fun c3 => ?_)
      · skip
        have hn_a := nt_cast (x := a) (by omega)
        refine j_eql (lvs' := [(0, .ref h), (1, .int (nI (nt a))), (2, .int b), (3, .int c)]) (by rw [← nt_eq (x := a) (by omega)]) ?_
        have hn_b := nt_cast (x := b) (by omega)
        refine j_eql (lvs' := [(0, .ref h), (1, .int (nI (nt a))), (2, .int (nI (nt b))), (3, .int c)]) (by rw [← nt_eq (x := b) (by omega)]) ?_
        have hn_c := nt_cast (x := c) (by omega)
        refine j_eql (lvs' := [(0, .ref h), (1, .int (nI (nt a))), (2, .int (nI (nt b))), (3, .int (nI (nt c)))]) (by rw [← nt_eq (x := c) (by omega)]) ?_
        refine j_aload_n hJ (q := 33) dX8_rider_32 rfl 0 rfl rfl ?_
        refine j_get hJ (q := 36) jf_X8_10 dX8_rider_33 0 rfl rfl rfl ?_
        refine j_get hJ (q := 39) jf_X8_66 dX8_rider_36 1 rfl rfl rfl ?_
        refine j_iload_n hJ (q := 40) dX8_rider_39 rfl 3 rfl rfl ?_
        refine j_vR hJ (q := 43) (rest := []) (As := [.int (nI (nt c))]) jl_X8_100 (c_X4_whoIsOn Z (s 0) q A K P kd am st rg (nt c) hw hR (by omega)) 2 rfl rfl dX8_rider_40 rfl (by decide) (Nat.le_of_ble_eq_true rfl) [2, 3, 4, 5, 6, 7, 8] rfl rfl (fun rv hp => ?_)
        obtain rfl := hp
        show J 43 [(0, .ref h), (1, .int (nI (nt a))), (2, .int (nI (nt b))), (3, .int (nI (nt c)))] [.int (oI (who A (nt c)))] [xO h u ab be (Rf 0) (Rf 1) (Rf 2), (u 0, .inr (4, [.ref (s 0), .ref (s 1), .ref (s 3), .ref (s 5), .ref (s 7)])), cO (s 0) q (A 21) (A 5) (A 6) (A 7) (A 8) (A 0), (q 0, ia Z 12 (ni K)), (q 1, ia Z 12 (ni P)), (q 2, ia Z 6 (ni kd)), (q 3, ia Z 6 (ni am)), (q 4, ia Z 6 (ni st)), (q 5, ia Z 6 (ni rg)), (s 1, .inr (1, [.int (nI (A 4)), .ref (s 2)])), (s 2, ia Z 128 (ni Ro)), (s 3, .inr (3, [.int (nI (A 1)), .int (nI 4), .int (nI 5), .ref (s 4)])), (s 4, ia Z 30 (ni Sn)), (s 5, .inr (3, [.int (nI (A 2)), .int (nI 5), .int (nI 6), .ref (s 6)])), (s 6, ia Z 30 (ni Nt)), (s 7, .inr (3, [.int (nI (A 3)), .int (nI 5), .int (nI 6), .ref (s 8)])), (s 8, ia Z 30 (ni Mk))] 0 0
        refine j_caseo (fun o4 => ?_) (fun i5 o4 => ?_)
        · skip
          refine j_iconst hJ (q := 44) dX8_rider_43 rfl ki_m1 ?_
          refine jz_icmp_eq hJ (q := 47) (tgt := 52) dX8_rider_44 (by decide) rfl rfl rfl (by omega) (by omega) (fun c6 => ?_) (fun c6 => ?_)
          · skip
            refine j_aload_n hJ (q := 53) dX8_rider_52 rfl 0 rfl rfl ?_
            refine j_get hJ (q := 56) jf_X8_10 dX8_rider_53 0 rfl rfl rfl ?_
            refine j_get hJ (q := 59) jf_X8_66 dX8_rider_56 1 rfl rfl rfl ?_
            refine j_get hJ (q := 62) jf_X8_69 dX8_rider_59 2 rfl rfl rfl ?_
            refine j_bipush hJ (q := 64) dX8_rider_62 rfl kb_6 ?_
            refine jn_icmp_lt hJ (q := 67) (tgt := 72) dX8_rider_64 (by decide) rfl (by omega) (by omega) (fun c7 => ?_) (fun c7 => ?_)
            · skip
              refine j_aload_n hJ (q := 73) dX8_rider_72 rfl 0 rfl rfl ?_
              refine j_get hJ (q := 76) jf_X8_10 dX8_rider_73 0 rfl rfl rfl ?_
              refine j_get hJ (q := 79) jf_X8_66 dX8_rider_76 1 rfl rfl rfl ?_
              refine j_iload_n hJ (q := 80) dX8_rider_79 rfl 1 rfl rfl ?_
              refine j_iload_n hJ (q := 81) dX8_rider_80 rfl 2 rfl rfl ?_
              refine j_iload_n hJ (q := 82) dX8_rider_81 rfl 3 rfl rfl ?_
              refine j_vW hJ (q := 85) (rest := []) (As := [.int (nI (nt a)), .int (nI (nt b)), .int (nI (nt c))]) (wr := [xO h u ab be (Rf 0) (Rf 1) (Rf 2), (u 0, .inr (4, [.ref (s 0), .ref (s 1), .ref (s 3), .ref (s 5), .ref (s 7)])), (s 1, .inr (1, [.int (nI (A 4)), .ref (s 2)])), (s 2, ia Z 128 (ni Ro)), (s 3, .inr (3, [.int (nI (A 1)), .int (nI 4), .int (nI 5), .ref (s 4)])), (s 4, ia Z 30 (ni Sn)), (s 5, .inr (3, [.int (nI (A 2)), .int (nI 5), .int (nI 6), .ref (s 6)])), (s 6, ia Z 30 (ni Nt)), (s 7, .inr (3, [.int (nI (A 3)), .int (nI 5), .int (nI 6), .ref (s 8)])), (s 8, ia Z 30 (ni Mk))]) jl_X8_110 (c_X4_putRider Z (s 0) q A K P kd am st rg (nt a) (nt b) (nt c) (by omega)) 2 rfl rfl dX8_rider_82 rfl (by decide) (Nat.le_of_ble_eq_true rfl) [2, 3, 4, 5, 6, 7, 8] [0, 1, 9, 10, 11, 12, 13, 14, 15, 16] rfl rfl rfl rfl (by decide) rfl (fun rv wv hp => ?_)
              obtain ⟨rfl, rfl⟩ := hp
              refine j_world hJ (ws' := [xO h u ab be (Rf 0) (Rf 1) (Rf 2), (u 0, .inr (4, [.ref (s 0), .ref (s 1), .ref (s 3), .ref (s 5), .ref (s 7)])), cO (s 0) q (A 21) (A 5) (A 6) (A 7) (A 8) (A 0 + 1), (q 0, ia Z 12 (ni K)), (q 1, ia Z 12 (ni P)), (q 2, ia Z 6 (ni (va_up kd (A 0) (nt a)))), (q 3, ia Z 6 (ni (va_up am (A 0) (nt b)))), (q 4, ia Z 6 (ni (va_up st (A 0) (nt c)))), (q 5, ia Z 6 (ni (va_up rg (A 0) 0))), (s 1, .inr (1, [.int (nI (A 4)), .ref (s 2)])), (s 2, ia Z 128 (ni Ro)), (s 3, .inr (3, [.int (nI (A 1)), .int (nI 4), .int (nI 5), .ref (s 4)])), (s 4, ia Z 30 (ni Sn)), (s 5, .inr (3, [.int (nI (A 2)), .int (nI 5), .int (nI 6), .ref (s 6)])), (s 6, ia Z 30 (ni Nt)), (s 7, .inr (3, [.int (nI (A 3)), .int (nI 5), .int (nI 6), .ref (s 8)])), (s 8, ia Z 30 (ni Mk))]) [0, 1, 10, 11, 12, 13, 14, 15, 16, 2, 3, 4, 5, 6, 7, 8, 9] rfl rfl ?_
              show J 85 [(0, .ref h), (1, .int (nI (nt a))), (2, .int (nI (nt b))), (3, .int (nI (nt c)))] [] [xO h u ab be (Rf 0) (Rf 1) (Rf 2), (u 0, .inr (4, [.ref (s 0), .ref (s 1), .ref (s 3), .ref (s 5), .ref (s 7)])), cO (s 0) q (A 21) (A 5) (A 6) (A 7) (A 8) (A 0 + 1), (q 0, ia Z 12 (ni K)), (q 1, ia Z 12 (ni P)), (q 2, ia Z 6 (ni (va_up kd (A 0) (nt a)))), (q 3, ia Z 6 (ni (va_up am (A 0) (nt b)))), (q 4, ia Z 6 (ni (va_up st (A 0) (nt c)))), (q 5, ia Z 6 (ni (va_up rg (A 0) 0))), (s 1, .inr (1, [.int (nI (A 4)), .ref (s 2)])), (s 2, ia Z 128 (ni Ro)), (s 3, .inr (3, [.int (nI (A 1)), .int (nI 4), .int (nI 5), .ref (s 4)])), (s 4, ia Z 30 (ni Sn)), (s 5, .inr (3, [.int (nI (A 2)), .int (nI 5), .int (nI 6), .ref (s 6)])), (s 6, ia Z 30 (ni Nt)), (s 7, .inr (3, [.int (nI (A 3)), .int (nI 5), .int (nI 6), .ref (s 8)])), (s 8, ia Z 30 (ni Mk))] 0 0
              refine j_aload_n hJ (q := 86) dX8_rider_85 rfl 0 rfl rfl ?_
              refine j_get hJ (q := 89) jf_X8_10 dX8_rider_86 0 rfl rfl rfl ?_
              refine j_get hJ (q := 92) jf_X8_91 dX8_rider_89 1 rfl rfl rfl ?_
              refine j_iconst hJ (q := 93) dX8_rider_92 rfl ki_0 ?_
              refine j_put hJ (q := 96) (ws' := [xO h u ab be (Rf 0) (Rf 1) (Rf 2), (u 0, .inr (4, [.ref (s 0), .ref (s 1), .ref (s 3), .ref (s 5), .ref (s 7)])), cO (s 0) q (A 21) (A 5) (A 6) (A 7) (A 8) (A 0 + 1), (q 0, ia Z 12 (ni K)), (q 1, ia Z 12 (ni P)), (q 2, ia Z 6 (ni (va_up kd (A 0) (nt a)))), (q 3, ia Z 6 (ni (va_up am (A 0) (nt b)))), (q 4, ia Z 6 (ni (va_up st (A 0) (nt c)))), (q 5, ia Z 6 (ni (va_up rg (A 0) 0))), (s 1, .inr (1, [.int (nI 0), .ref (s 2)])), (s 2, ia Z 128 (ni Ro)), (s 3, .inr (3, [.int (nI (A 1)), .int (nI 4), .int (nI 5), .ref (s 4)])), (s 4, ia Z 30 (ni Sn)), (s 5, .inr (3, [.int (nI (A 2)), .int (nI 5), .int (nI 6), .ref (s 6)])), (s 6, ia Z 30 (ni Nt)), (s 7, .inr (3, [.int (nI (A 3)), .int (nI 5), .int (nI 6), .ref (s 8)])), (s 8, ia Z 30 (ni Mk))]) jp_X8_95 dX8_rider_93 9 rfl rfl rfl (Nat.le_of_ble_eq_true rfl) rfl rfl ?_
              refine j_aload_n hJ (q := 97) dX8_rider_96 rfl 0 rfl rfl ?_
              refine j_get hJ (q := 100) jf_X8_10 dX8_rider_97 0 rfl rfl rfl ?_
              refine j_get hJ (q := 103) jf_X8_66 dX8_rider_100 1 rfl rfl rfl ?_
              refine j_get hJ (q := 106) jf_X8_69 dX8_rider_103 2 rfl rfl rfl ?_
              refine j_iconst hJ (q := 107) dX8_rider_106 rfl ki_1 ?_
              refine j_isub hJ (q := 108) dX8_rider_107 rfl (pk_sub (by omega)) ?_
              have hP0 : rgI 0 5 a ∧ rgI 1 9 b ∧ isS A c := by simp only [rgI, isS, isR, pNote, pMark]; omega
              have hQ0 : who A (nt c) = none := o4
              have hQ1 : ¬ (A 0 = 6) := by omega
              have hAo : (a_rider A a b c) = va_up (layR A (nt a) (nt b) (nt c)) 4 0 := by simp only [a_rider, if_pos hP0, if_pos hQ0, if_neg hQ1]
              have hRo : (r_rider A Rf a b c) = Rf := by simp only [r_rider, if_pos hP0, if_pos hQ0, if_neg hQ1]
              obtain ⟨e0, -, -, -, -, el⟩ := layR_at (A := A) (k := nt a) (a := nt b) (s := nt c) (by omega)
              have es0 : (va_up (layR A (nt a) (nt b) (nt c)) 4 0) 0 = A 0 + 1 := by simp only [va_up]; rw [if_neg (by decide)]; exact e0
              have es21 : (va_up (layR A (nt a) (nt b) (nt c)) 4 0) 21 = A 21 := by simp only [va_up]; rw [if_neg (by decide)]; exact el 21 (by decide) (by omega) (by omega) (by omega) (by omega)
              have es5 : (va_up (layR A (nt a) (nt b) (nt c)) 4 0) 5 = A 5 := by simp only [va_up]; rw [if_neg (by decide)]; exact el 5 (by decide) (by omega) (by omega) (by omega) (by omega)
              have es6 : (va_up (layR A (nt a) (nt b) (nt c)) 4 0) 6 = A 6 := by simp only [va_up]; rw [if_neg (by decide)]; exact el 6 (by decide) (by omega) (by omega) (by omega) (by omega)
              have es7 : (va_up (layR A (nt a) (nt b) (nt c)) 4 0) 7 = A 7 := by simp only [va_up]; rw [if_neg (by decide)]; exact el 7 (by decide) (by omega) (by omega) (by omega) (by omega)
              have es8 : (va_up (layR A (nt a) (nt b) (nt c)) 4 0) 8 = A 8 := by simp only [va_up]; rw [if_neg (by decide)]; exact el 8 (by decide) (by omega) (by omega) (by omega) (by omega)
              have es1 : (va_up (layR A (nt a) (nt b) (nt c)) 4 0) 1 = A 1 := by simp only [va_up]; rw [if_neg (by decide)]; exact el 1 (by decide) (by omega) (by omega) (by omega) (by omega)
              have es2 : (va_up (layR A (nt a) (nt b) (nt c)) 4 0) 2 = A 2 := by simp only [va_up]; rw [if_neg (by decide)]; exact el 2 (by decide) (by omega) (by omega) (by omega) (by omega)
              have es3 : (va_up (layR A (nt a) (nt b) (nt c)) 4 0) 3 = A 3 := by simp only [va_up]; rw [if_neg (by decide)]; exact el 3 (by decide) (by omega) (by omega) (by omega) (by omega)
              have es4 : (va_up (layR A (nt a) (nt b) (nt c)) 4 0) 4 = 0 := rfl
              have eo : ∀ j, j ≠ 0 → j ≠ 4 → (j < 9 ∨ 34 ≤ j) → (va_up (layR A (nt a) (nt b) (nt c)) 4 0) j = A j := fun j h1 h2 h3 => by simp only [va_up]; rw [if_neg h2]; exact el j h1 (by omega) (by omega) (by omega) (by omega)
              have er : rR (va_up (layR A (nt a) (nt b) (nt c)) 4 0) K P (va_up kd (A 0) (nt a)) (va_up am (A 0) (nt b)) (va_up st (A 0) (nt c)) (va_up rg (A 0) 0) := rR_of (rR_rider hR (by omega) w2) (fun j hj => by simp only [va_up]; rw [if_neg (by omega)]) (by rw [e0]; omega) (by rw [el 21 (by decide) (by omega) (by omega) (by omega) (by omega)]; exact w2)
              exact hE.1 _ _ _ _ _ _ _ rfl rfl dX8_rider_108 (Nat.le_refl _) (Nat.le_refl _) (⟨K, P, (va_up kd (A 0) (nt a)), (va_up am (A 0) (nt b)), (va_up st (A 0) (nt c)), (va_up rg (A 0) 0), Ro, Sn, Nt, Mk, congrArg (fun z => some (Value.int z)) ((zI_nat _).symm.trans (congrArg zI (by simp only [z_rider, if_pos hP0, if_pos hQ0, if_neg hQ1]; omega))), by rw [hAo, hRo] <;> first | rfl | (simp only [es0, es21, es5, es6, es7, es8, es1, es2, es3, es4]), by rw [hAo]; exact ⟨er, rX_p hX (rP_0 rfl) (fun j hj => eo j (by omega) (by omega) (by omega)) ⟨g1, g2, g3⟩⟩⟩)
            · skip
              refine j_aload_n hJ (q := 68) dX8_rider_67 rfl 0 rfl rfl ?_
              refine j_vW hJ (q := 71) (rest := []) (As := []) (wr := [(u 0, .inr (4, [.ref (s 0), .ref (s 1), .ref (s 3), .ref (s 5), .ref (s 7)])), cO (s 0) q (A 21) (A 5) (A 6) (A 7) (A 8) (A 0), (q 0, ia Z 12 (ni K)), (q 1, ia Z 12 (ni P)), (q 2, ia Z 6 (ni kd)), (q 3, ia Z 6 (ni am)), (q 4, ia Z 6 (ni st)), (q 5, ia Z 6 (ni rg)), (s 1, .inr (1, [.int (nI (A 4)), .ref (s 2)])), (s 2, ia Z 128 (ni Ro)), (s 3, .inr (3, [.int (nI (A 1)), .int (nI 4), .int (nI 5), .ref (s 4)])), (s 4, ia Z 30 (ni Sn)), (s 5, .inr (3, [.int (nI (A 2)), .int (nI 5), .int (nI 6), .ref (s 6)])), (s 6, ia Z 30 (ni Nt)), (s 7, .inr (3, [.int (nI (A 3)), .int (nI 5), .int (nI 6), .ref (s 8)])), (s 8, ia Z 30 (ni Mk))]) jl_X8_107 (c_X8_full Z h u ab be Rf ) 0 rfl rfl dX8_rider_68 rfl (by decide) (Nat.le_of_ble_eq_true rfl) [0] [1, 2, 3, 4, 5, 6, 7, 8, 9, 10, 11, 12, 13, 14, 15, 16] rfl rfl rfl rfl (by decide) rfl (fun rv wv hp => ?_)
              obtain ⟨rfl, rfl⟩ := hp
              refine j_world hJ (ws' := [xO h u ab be ((bmp Rf 2) 0) ((bmp Rf 2) 1) ((bmp Rf 2) 2), (u 0, .inr (4, [.ref (s 0), .ref (s 1), .ref (s 3), .ref (s 5), .ref (s 7)])), cO (s 0) q (A 21) (A 5) (A 6) (A 7) (A 8) (A 0), (q 0, ia Z 12 (ni K)), (q 1, ia Z 12 (ni P)), (q 2, ia Z 6 (ni kd)), (q 3, ia Z 6 (ni am)), (q 4, ia Z 6 (ni st)), (q 5, ia Z 6 (ni rg)), (s 1, .inr (1, [.int (nI (A 4)), .ref (s 2)])), (s 2, ia Z 128 (ni Ro)), (s 3, .inr (3, [.int (nI (A 1)), .int (nI 4), .int (nI 5), .ref (s 4)])), (s 4, ia Z 30 (ni Sn)), (s 5, .inr (3, [.int (nI (A 2)), .int (nI 5), .int (nI 6), .ref (s 6)])), (s 6, ia Z 30 (ni Nt)), (s 7, .inr (3, [.int (nI (A 3)), .int (nI 5), .int (nI 6), .ref (s 8)])), (s 8, ia Z 30 (ni Mk))]) [16, 0, 1, 2, 3, 4, 5, 6, 7, 8, 9, 10, 11, 12, 13, 14, 15] rfl rfl ?_
              show J 71 [(0, .ref h), (1, .int (nI (nt a))), (2, .int (nI (nt b))), (3, .int (nI (nt c)))] [.int (zI (-4))] [xO h u ab be ((bmp Rf 2) 0) ((bmp Rf 2) 1) ((bmp Rf 2) 2), (u 0, .inr (4, [.ref (s 0), .ref (s 1), .ref (s 3), .ref (s 5), .ref (s 7)])), cO (s 0) q (A 21) (A 5) (A 6) (A 7) (A 8) (A 0), (q 0, ia Z 12 (ni K)), (q 1, ia Z 12 (ni P)), (q 2, ia Z 6 (ni kd)), (q 3, ia Z 6 (ni am)), (q 4, ia Z 6 (ni st)), (q 5, ia Z 6 (ni rg)), (s 1, .inr (1, [.int (nI (A 4)), .ref (s 2)])), (s 2, ia Z 128 (ni Ro)), (s 3, .inr (3, [.int (nI (A 1)), .int (nI 4), .int (nI 5), .ref (s 4)])), (s 4, ia Z 30 (ni Sn)), (s 5, .inr (3, [.int (nI (A 2)), .int (nI 5), .int (nI 6), .ref (s 6)])), (s 6, ia Z 30 (ni Nt)), (s 7, .inr (3, [.int (nI (A 3)), .int (nI 5), .int (nI 6), .ref (s 8)])), (s 8, ia Z 30 (ni Mk))] 0 0
              have hP0 : rgI 0 5 a ∧ rgI 1 9 b ∧ isS A c := by simp only [rgI, isS, isR, pNote, pMark]; omega
              have hQ0 : who A (nt c) = none := o4
              have hQ1 : A 0 = 6 := by omega
              have hAo : (a_rider A a b c) = A := by simp only [a_rider, if_pos hP0, if_pos hQ0, if_pos hQ1]
              have hRo : (r_rider A Rf a b c) = bmp Rf 2 := by simp only [r_rider, if_pos hP0, if_pos hQ0, if_pos hQ1]
              exact hE.1 _ _ _ _ _ _ _ rfl rfl dX8_rider_71 (Nat.le_refl _) (Nat.le_refl _) (⟨K, P, kd, am, st, rg, Ro, Sn, Nt, Mk, congrArg (fun z => some (Value.int (zI z))) (by simp only [z_rider, if_pos hP0, if_pos hQ0, if_pos hQ1]), by rw [hAo, hRo] <;> first | rfl | (skip), by rw [hAo]; exact hA⟩)
          · skip
            exfalso; omega
        · skip
          have hwi := who_some o4
          refine j_iconst hJ (q := 44) dX8_rider_43 rfl ki_m1 ?_
          refine jz_icmp_eq hJ (q := 47) (tgt := 52) dX8_rider_44 (by decide) rfl (zI_nat i5).symm rfl (by omega) (by omega) (fun c8 => ?_) (fun c8 => ?_)
          · skip
            exfalso; omega
          · skip
            refine j_aload_n hJ (q := 48) dX8_rider_47 rfl 0 rfl rfl ?_
            refine j_vW hJ (q := 51) (rest := []) (As := []) (wr := [(u 0, .inr (4, [.ref (s 0), .ref (s 1), .ref (s 3), .ref (s 5), .ref (s 7)])), cO (s 0) q (A 21) (A 5) (A 6) (A 7) (A 8) (A 0), (q 0, ia Z 12 (ni K)), (q 1, ia Z 12 (ni P)), (q 2, ia Z 6 (ni kd)), (q 3, ia Z 6 (ni am)), (q 4, ia Z 6 (ni st)), (q 5, ia Z 6 (ni rg)), (s 1, .inr (1, [.int (nI (A 4)), .ref (s 2)])), (s 2, ia Z 128 (ni Ro)), (s 3, .inr (3, [.int (nI (A 1)), .int (nI 4), .int (nI 5), .ref (s 4)])), (s 4, ia Z 30 (ni Sn)), (s 5, .inr (3, [.int (nI (A 2)), .int (nI 5), .int (nI 6), .ref (s 6)])), (s 6, ia Z 30 (ni Nt)), (s 7, .inr (3, [.int (nI (A 3)), .int (nI 5), .int (nI 6), .ref (s 8)])), (s 8, ia Z 30 (ni Mk))]) jl_X8_104 (c_X8_no Z h u ab be Rf ) 0 rfl rfl dX8_rider_48 rfl (by decide) (Nat.le_of_ble_eq_true rfl) [0] [1, 2, 3, 4, 5, 6, 7, 8, 9, 10, 11, 12, 13, 14, 15, 16] rfl rfl rfl rfl (by decide) rfl (fun rv wv hp => ?_)
            obtain ⟨rfl, rfl⟩ := hp
            refine j_world hJ (ws' := [xO h u ab be ((bmp Rf 1) 0) ((bmp Rf 1) 1) ((bmp Rf 1) 2), (u 0, .inr (4, [.ref (s 0), .ref (s 1), .ref (s 3), .ref (s 5), .ref (s 7)])), cO (s 0) q (A 21) (A 5) (A 6) (A 7) (A 8) (A 0), (q 0, ia Z 12 (ni K)), (q 1, ia Z 12 (ni P)), (q 2, ia Z 6 (ni kd)), (q 3, ia Z 6 (ni am)), (q 4, ia Z 6 (ni st)), (q 5, ia Z 6 (ni rg)), (s 1, .inr (1, [.int (nI (A 4)), .ref (s 2)])), (s 2, ia Z 128 (ni Ro)), (s 3, .inr (3, [.int (nI (A 1)), .int (nI 4), .int (nI 5), .ref (s 4)])), (s 4, ia Z 30 (ni Sn)), (s 5, .inr (3, [.int (nI (A 2)), .int (nI 5), .int (nI 6), .ref (s 6)])), (s 6, ia Z 30 (ni Nt)), (s 7, .inr (3, [.int (nI (A 3)), .int (nI 5), .int (nI 6), .ref (s 8)])), (s 8, ia Z 30 (ni Mk))]) [16, 0, 1, 2, 3, 4, 5, 6, 7, 8, 9, 10, 11, 12, 13, 14, 15] rfl rfl ?_
            show J 51 [(0, .ref h), (1, .int (nI (nt a))), (2, .int (nI (nt b))), (3, .int (nI (nt c)))] [.int (zI (-3))] [xO h u ab be ((bmp Rf 1) 0) ((bmp Rf 1) 1) ((bmp Rf 1) 2), (u 0, .inr (4, [.ref (s 0), .ref (s 1), .ref (s 3), .ref (s 5), .ref (s 7)])), cO (s 0) q (A 21) (A 5) (A 6) (A 7) (A 8) (A 0), (q 0, ia Z 12 (ni K)), (q 1, ia Z 12 (ni P)), (q 2, ia Z 6 (ni kd)), (q 3, ia Z 6 (ni am)), (q 4, ia Z 6 (ni st)), (q 5, ia Z 6 (ni rg)), (s 1, .inr (1, [.int (nI (A 4)), .ref (s 2)])), (s 2, ia Z 128 (ni Ro)), (s 3, .inr (3, [.int (nI (A 1)), .int (nI 4), .int (nI 5), .ref (s 4)])), (s 4, ia Z 30 (ni Sn)), (s 5, .inr (3, [.int (nI (A 2)), .int (nI 5), .int (nI 6), .ref (s 6)])), (s 6, ia Z 30 (ni Nt)), (s 7, .inr (3, [.int (nI (A 3)), .int (nI 5), .int (nI 6), .ref (s 8)])), (s 8, ia Z 30 (ni Mk))] 0 0
            have hP0 : rgI 0 5 a ∧ rgI 1 9 b ∧ isS A c := by simp only [rgI, isS, isR, pNote, pMark]; omega
            have hQ0 : ¬ (who A (nt c) = none) := by rw [o4]; exact fun z => by cases z
            have hAo : (a_rider A a b c) = A := by simp only [a_rider, if_pos hP0, if_neg hQ0]
            have hRo : (r_rider A Rf a b c) = bmp Rf 1 := by simp only [r_rider, if_pos hP0, if_neg hQ0]
            exact hE.1 _ _ _ _ _ _ _ rfl rfl dX8_rider_51 (Nat.le_refl _) (Nat.le_refl _) (⟨K, P, kd, am, st, rg, Ro, Sn, Nt, Mk, congrArg (fun z => some (Value.int (zI z))) (by simp only [z_rider, if_pos hP0, if_neg hQ0]), by rw [hAo, hRo] <;> first | rfl | (skip), by rw [hAo]; exact hA⟩)
      · skip
        refine j_aload_n hJ (q := 28) dX8_rider_27 rfl 0 rfl rfl ?_
        refine j_vW hJ (q := 31) (rest := []) (As := []) (wr := [(u 0, .inr (4, [.ref (s 0), .ref (s 1), .ref (s 3), .ref (s 5), .ref (s 7)])), cO (s 0) q (A 21) (A 5) (A 6) (A 7) (A 8) (A 0), (q 0, ia Z 12 (ni K)), (q 1, ia Z 12 (ni P)), (q 2, ia Z 6 (ni kd)), (q 3, ia Z 6 (ni am)), (q 4, ia Z 6 (ni st)), (q 5, ia Z 6 (ni rg)), (s 1, .inr (1, [.int (nI (A 4)), .ref (s 2)])), (s 2, ia Z 128 (ni Ro)), (s 3, .inr (3, [.int (nI (A 1)), .int (nI 4), .int (nI 5), .ref (s 4)])), (s 4, ia Z 30 (ni Sn)), (s 5, .inr (3, [.int (nI (A 2)), .int (nI 5), .int (nI 6), .ref (s 6)])), (s 6, ia Z 30 (ni Nt)), (s 7, .inr (3, [.int (nI (A 3)), .int (nI 5), .int (nI 6), .ref (s 8)])), (s 8, ia Z 30 (ni Mk))]) jl_X8_62 (c_X8_bad Z h u ab be Rf ) 0 rfl rfl dX8_rider_28 rfl (by decide) (Nat.le_of_ble_eq_true rfl) [0] [1, 2, 3, 4, 5, 6, 7, 8, 9, 10, 11, 12, 13, 14, 15, 16] rfl rfl rfl rfl (by decide) rfl (fun rv wv hp => ?_)
        obtain ⟨rfl, rfl⟩ := hp
        refine j_world hJ (ws' := [xO h u ab be ((bmp Rf 0) 0) ((bmp Rf 0) 1) ((bmp Rf 0) 2), (u 0, .inr (4, [.ref (s 0), .ref (s 1), .ref (s 3), .ref (s 5), .ref (s 7)])), cO (s 0) q (A 21) (A 5) (A 6) (A 7) (A 8) (A 0), (q 0, ia Z 12 (ni K)), (q 1, ia Z 12 (ni P)), (q 2, ia Z 6 (ni kd)), (q 3, ia Z 6 (ni am)), (q 4, ia Z 6 (ni st)), (q 5, ia Z 6 (ni rg)), (s 1, .inr (1, [.int (nI (A 4)), .ref (s 2)])), (s 2, ia Z 128 (ni Ro)), (s 3, .inr (3, [.int (nI (A 1)), .int (nI 4), .int (nI 5), .ref (s 4)])), (s 4, ia Z 30 (ni Sn)), (s 5, .inr (3, [.int (nI (A 2)), .int (nI 5), .int (nI 6), .ref (s 6)])), (s 6, ia Z 30 (ni Nt)), (s 7, .inr (3, [.int (nI (A 3)), .int (nI 5), .int (nI 6), .ref (s 8)])), (s 8, ia Z 30 (ni Mk))]) [16, 0, 1, 2, 3, 4, 5, 6, 7, 8, 9, 10, 11, 12, 13, 14, 15] rfl rfl ?_
        show J 31 [(0, .ref h), (1, .int a), (2, .int b), (3, .int c)] [.int (zI (-2))] [xO h u ab be ((bmp Rf 0) 0) ((bmp Rf 0) 1) ((bmp Rf 0) 2), (u 0, .inr (4, [.ref (s 0), .ref (s 1), .ref (s 3), .ref (s 5), .ref (s 7)])), cO (s 0) q (A 21) (A 5) (A 6) (A 7) (A 8) (A 0), (q 0, ia Z 12 (ni K)), (q 1, ia Z 12 (ni P)), (q 2, ia Z 6 (ni kd)), (q 3, ia Z 6 (ni am)), (q 4, ia Z 6 (ni st)), (q 5, ia Z 6 (ni rg)), (s 1, .inr (1, [.int (nI (A 4)), .ref (s 2)])), (s 2, ia Z 128 (ni Ro)), (s 3, .inr (3, [.int (nI (A 1)), .int (nI 4), .int (nI 5), .ref (s 4)])), (s 4, ia Z 30 (ni Sn)), (s 5, .inr (3, [.int (nI (A 2)), .int (nI 5), .int (nI 6), .ref (s 6)])), (s 6, ia Z 30 (ni Nt)), (s 7, .inr (3, [.int (nI (A 3)), .int (nI 5), .int (nI 6), .ref (s 8)])), (s 8, ia Z 30 (ni Mk))] 0 0
        have hP0 : ¬ (rgI 0 5 a ∧ rgI 1 9 b ∧ isS A c) := by simp only [rgI, isS, isR, pNote, pMark]; omega
        have hAo : (a_rider A a b c) = A := by simp only [a_rider, if_neg hP0]
        have hRo : (r_rider A Rf a b c) = bmp Rf 0 := by simp only [r_rider, if_neg hP0]
        exact hE.1 _ _ _ _ _ _ _ rfl rfl dX8_rider_31 (Nat.le_refl _) (Nat.le_refl _) (⟨K, P, kd, am, st, rg, Ro, Sn, Nt, Mk, congrArg (fun z => some (Value.int (zI z))) (by simp only [z_rider, if_neg hP0]), by rw [hAo, hRo] <;> first | rfl | (skip), by rw [hAo]; exact hA⟩)

set_option maxHeartbeats 4000000 in
set_option maxRecDepth 100000 in
theorem c_X8_ticks (Z : jZ) (h : Nat) (u : Nat → Nat) (ab : Int) (be : Int) (Rf : Nat → Nat) (s : Nat → Nat) (q : Nat → Nat) (A : Nat → Nat) (K : Nat → Nat) (P : Nat → Nat) (kd : Nat → Nat) (am : Nat → Nat) (st : Nat → Nat) (rg : Nat → Nat) (Ro : Nat → Nat) (Sn : Nat → Nat) (Nt : Nat → Nat) (Mk : Nat → Nat) (a : Int32) (hg : wg A) (hA : rA A K P kd am st rg Ro Sn Nt Mk) : CT Z yX8_ticks cX8_ticks 3 ((some FieldType.int)) 6 0 0 [.ref h, .int a] [xO h u ab be (Rf 0) (Rf 1) (Rf 2), (u 0, .inr (4, [.ref (s 0), .ref (s 1), .ref (s 3), .ref (s 5), .ref (s 7)])), cO (s 0) q (A 21) (A 5) (A 6) (A 7) (A 8) (A 0), (q 0, ia Z 12 (ni K)), (q 1, ia Z 12 (ni P)), (q 2, ia Z 6 (ni kd)), (q 3, ia Z 6 (ni am)), (q 4, ia Z 6 (ni st)), (q 5, ia Z 6 (ni rg)), (s 1, .inr (1, [.int (nI (A 4)), .ref (s 2)])), (s 2, ia Z 128 (ni Ro)), (s 3, .inr (3, [.int (nI (A 1)), .int (nI 4), .int (nI 5), .ref (s 4)])), (s 4, ia Z 30 (ni Sn)), (s 5, .inr (3, [.int (nI (A 2)), .int (nI 5), .int (nI 6), .ref (s 6)])), (s 6, ia Z 30 (ni Nt)), (s 7, .inr (3, [.int (nI (A 3)), .int (nI 5), .int (nI 6), .ref (s 8)])), (s 8, ia Z 30 (ni Mk))] (fun rr ww => ∃ Kz : Nat → Nat, ∃ Pz : Nat → Nat, ∃ kdz : Nat → Nat, ∃ amz : Nat → Nat, ∃ stz : Nat → Nat, ∃ rgz : Nat → Nat, ∃ Roz : Nat → Nat, ∃ Snz : Nat → Nat, ∃ Ntz : Nat → Nat, ∃ Mkz : Nat → Nat, rr = some (.int (zI (z_ticks A a))) ∧ ww = [xO h u ab be ((if rgI 1 60 a then Rf else bmp Rf 0) 0) ((if rgI 1 60 a then Rf else bmp Rf 0) 1) ((if rgI 1 60 a then Rf else bmp Rf 0) 2), (u 0, .inr (4, [.ref (s 0), .ref (s 1), .ref (s 3), .ref (s 5), .ref (s 7)])), cO (s 0) q ((a_ticks A a) 21) ((a_ticks A a) 5) ((a_ticks A a) 6) ((a_ticks A a) 7) ((a_ticks A a) 8) ((a_ticks A a) 0), (q 0, ia Z 12 (ni Kz)), (q 1, ia Z 12 (ni Pz)), (q 2, ia Z 6 (ni kdz)), (q 3, ia Z 6 (ni amz)), (q 4, ia Z 6 (ni stz)), (q 5, ia Z 6 (ni rgz)), (s 1, .inr (1, [.int (nI ((a_ticks A a) 4)), .ref (s 2)])), (s 2, ia Z 128 (ni Roz)), (s 3, .inr (3, [.int (nI ((a_ticks A a) 1)), .int (nI 4), .int (nI 5), .ref (s 4)])), (s 4, ia Z 30 (ni Snz)), (s 5, .inr (3, [.int (nI ((a_ticks A a) 2)), .int (nI 5), .int (nI 6), .ref (s 6)])), (s 6, ia Z 30 (ni Ntz)), (s 7, .inr (3, [.int (nI ((a_ticks A a) 3)), .int (nI 5), .int (nI 6), .ref (s 8)])), (s 8, ia Z 30 (ni Mkz))] ∧ (rA (a_ticks A a) Kz Pz kdz amz stz rgz Roz Snz Ntz Mkz)) := by
  refine CT.of RX8 false rfl (fun h => by cases h) (by decide +kernel) (Nat.le_of_ble_eq_true rfl) ?_
  intro J hJ hE
  show J 0 [(0, .ref h), (1, .int a)] [] [xO h u ab be (Rf 0) (Rf 1) (Rf 2), (u 0, .inr (4, [.ref (s 0), .ref (s 1), .ref (s 3), .ref (s 5), .ref (s 7)])), cO (s 0) q (A 21) (A 5) (A 6) (A 7) (A 8) (A 0), (q 0, ia Z 12 (ni K)), (q 1, ia Z 12 (ni P)), (q 2, ia Z 6 (ni kd)), (q 3, ia Z 6 (ni am)), (q 4, ia Z 6 (ni st)), (q 5, ia Z 6 (ni rg)), (s 1, .inr (1, [.int (nI (A 4)), .ref (s 2)])), (s 2, ia Z 128 (ni Ro)), (s 3, .inr (3, [.int (nI (A 1)), .int (nI 4), .int (nI 5), .ref (s 4)])), (s 4, ia Z 30 (ni Sn)), (s 5, .inr (3, [.int (nI (A 2)), .int (nI 5), .int (nI 6), .ref (s 6)])), (s 6, ia Z 30 (ni Nt)), (s 7, .inr (3, [.int (nI (A 3)), .int (nI 5), .int (nI 6), .ref (s 8)])), (s 8, ia Z 30 (ni Mk))] 0 0
  obtain ⟨hw, ⟨g1, g2, g3, g4, g8⟩, hrs, hrn, hrm, hpst⟩ := id hg
  obtain ⟨⟨w1, w2, w3, w4, w5, w6⟩, hb, wr, wh, wd⟩ := id hw
  obtain ⟨hR, hX⟩ := id hA
  obtain ⟨hP, hSn, hNt, hMk⟩ := id hX
  have hr_a := zI_rng a
  refine j_iload_n hJ (q := 1) dX8_ticks_0 rfl 1 rfl rfl ?_
  refine j_iconst hJ (q := 2) dX8_ticks_1 rfl ki_1 ?_
  refine j_bipush hJ (q := 4) dX8_ticks_2 rfl kb_60 ?_
  refine j_sR hJ (q := 7) (rest := []) (As := [.int a, .int (zI 1), .int (zI 60)]) jl_X8_58 (c_X8_within Z a 1 60 (by omega) (by omega)) dX8_ticks_4 rfl (by decide) (Nat.le_of_ble_eq_true rfl) [] rfl rfl (fun rv hp => ?_)
  obtain rfl := hp
  show J 7 [(0, .ref h), (1, .int a)] [.int (bI (decide (1 ≤ a.toInt ∧ a.toInt ≤ 60)))] [xO h u ab be (Rf 0) (Rf 1) (Rf 2), (u 0, .inr (4, [.ref (s 0), .ref (s 1), .ref (s 3), .ref (s 5), .ref (s 7)])), cO (s 0) q (A 21) (A 5) (A 6) (A 7) (A 8) (A 0), (q 0, ia Z 12 (ni K)), (q 1, ia Z 12 (ni P)), (q 2, ia Z 6 (ni kd)), (q 3, ia Z 6 (ni am)), (q 4, ia Z 6 (ni st)), (q 5, ia Z 6 (ni rg)), (s 1, .inr (1, [.int (nI (A 4)), .ref (s 2)])), (s 2, ia Z 128 (ni Ro)), (s 3, .inr (3, [.int (nI (A 1)), .int (nI 4), .int (nI 5), .ref (s 4)])), (s 4, ia Z 30 (ni Sn)), (s 5, .inr (3, [.int (nI (A 2)), .int (nI 5), .int (nI 6), .ref (s 6)])), (s 6, ia Z 30 (ni Nt)), (s 7, .inr (3, [.int (nI (A 3)), .int (nI 5), .int (nI 6), .ref (s 8)])), (s 8, ia Z 30 (ni Mk))] 0 0
  refine jp_if_ne hJ (q := 10) (tgt := 15) dX8_ticks_7 (by decide) rfl (fun c1 => ?_) (fun c1 => ?_)
  · skip
    have hn_a := nt_cast (x := a) (by omega)
    refine j_eql (lvs' := [(0, .ref h), (1, .int (nI (nt a)))]) (by rw [← nt_eq (x := a) (by omega)]) ?_
    refine j_aload_n hJ (q := 16) dX8_ticks_15 rfl 0 rfl rfl ?_
    refine j_get hJ (q := 19) jf_X8_10 dX8_ticks_16 0 rfl rfl rfl ?_
    refine j_get hJ (q := 22) jf_X8_91 dX8_ticks_19 1 rfl rfl rfl ?_
    refine j_aload_n hJ (q := 23) dX8_ticks_22 rfl 0 rfl rfl ?_
    refine j_get hJ (q := 26) jf_X8_10 dX8_ticks_23 0 rfl rfl rfl ?_
    refine j_get hJ (q := 29) jf_X8_66 dX8_ticks_26 1 rfl rfl rfl ?_
    refine j_vW hJ (q := 32) (rest := []) (As := [.ref (s 0)]) (wr := [xO h u ab be (Rf 0) (Rf 1) (Rf 2), (u 0, .inr (4, [.ref (s 0), .ref (s 1), .ref (s 3), .ref (s 5), .ref (s 7)])), (s 3, .inr (3, [.int (nI (A 1)), .int (nI 4), .int (nI 5), .ref (s 4)])), (s 4, ia Z 30 (ni Sn)), (s 5, .inr (3, [.int (nI (A 2)), .int (nI 5), .int (nI 6), .ref (s 6)])), (s 6, ia Z 30 (ni Nt)), (s 7, .inr (3, [.int (nI (A 3)), .int (nI 5), .int (nI 6), .ref (s 8)])), (s 8, ia Z 30 (ni Mk))]) jl_X8_126 (c_X3_keep Z (s 0) q A K P kd am st rg (s 1) (s 2) Ro hR hP g4 w6) 9 rfl rfl dX8_ticks_29 rfl (by decide) (Nat.le_of_ble_eq_true rfl) [9, 10, 2, 3, 4, 5, 6, 7, 8] [0, 1, 11, 12, 13, 14, 15, 16] rfl rfl rfl rfl (by decide) rfl (fun rv wv hp => ?_)
    obtain ⟨Rz2, rfl, rfl, f3⟩ := hp
    refine j_world hJ (ws' := [xO h u ab be (Rf 0) (Rf 1) (Rf 2), (u 0, .inr (4, [.ref (s 0), .ref (s 1), .ref (s 3), .ref (s 5), .ref (s 7)])), cO (s 0) q (A 21) (A 5) (A 6) (A 7) (A 8) (A 0), (q 0, ia Z 12 (ni K)), (q 1, ia Z 12 (ni P)), (q 2, ia Z 6 (ni kd)), (q 3, ia Z 6 (ni am)), (q 4, ia Z 6 (ni st)), (q 5, ia Z 6 (ni rg)), ((s 1), .inr (1, [.int (nI ((saved A) 4)), .ref (s 2)])), ((s 2), ia Z 128 (ni Rz2)), (s 3, .inr (3, [.int (nI (A 1)), .int (nI 4), .int (nI 5), .ref (s 4)])), (s 4, ia Z 30 (ni Sn)), (s 5, .inr (3, [.int (nI (A 2)), .int (nI 5), .int (nI 6), .ref (s 6)])), (s 6, ia Z 30 (ni Nt)), (s 7, .inr (3, [.int (nI (A 3)), .int (nI 5), .int (nI 6), .ref (s 8)])), (s 8, ia Z 30 (ni Mk))]) [0, 1, 10, 11, 12, 13, 14, 15, 16, 8, 9, 2, 3, 4, 5, 6, 7] rfl rfl ?_
    show J 32 [(0, .ref h), (1, .int (nI (nt a)))] [] [xO h u ab be (Rf 0) (Rf 1) (Rf 2), (u 0, .inr (4, [.ref (s 0), .ref (s 1), .ref (s 3), .ref (s 5), .ref (s 7)])), cO (s 0) q (A 21) (A 5) (A 6) (A 7) (A 8) (A 0), (q 0, ia Z 12 (ni K)), (q 1, ia Z 12 (ni P)), (q 2, ia Z 6 (ni kd)), (q 3, ia Z 6 (ni am)), (q 4, ia Z 6 (ni st)), (q 5, ia Z 6 (ni rg)), ((s 1), .inr (1, [.int (nI ((saved A) 4)), .ref (s 2)])), ((s 2), ia Z 128 (ni Rz2)), (s 3, .inr (3, [.int (nI (A 1)), .int (nI 4), .int (nI 5), .ref (s 4)])), (s 4, ia Z 30 (ni Sn)), (s 5, .inr (3, [.int (nI (A 2)), .int (nI 5), .int (nI 6), .ref (s 6)])), (s 6, ia Z 30 (ni Nt)), (s 7, .inr (3, [.int (nI (A 3)), .int (nI 5), .int (nI 6), .ref (s 8)])), (s 8, ia Z 30 (ni Mk))] 0 0
    have hP2 := f3
    refine j_eqw (ws' := [xO h u ab be (Rf 0) (Rf 1) (Rf 2), (u 0, .inr (4, [.ref (s 0), .ref (s 1), .ref (s 3), .ref (s 5), .ref (s 7)])), cO (s 0) q (saved A 21) (saved A 5) (saved A 6) (saved A 7) (saved A 8) (saved A 0), (q 0, ia Z 12 (ni K)), (q 1, ia Z 12 (ni P)), (q 2, ia Z 6 (ni kd)), (q 3, ia Z 6 (ni am)), (q 4, ia Z 6 (ni st)), (q 5, ia Z 6 (ni rg)), ((s 1), .inr (1, [.int (nI ((saved A) 4)), .ref (s 2)])), ((s 2), ia Z 128 (ni Rz2)), (s 3, .inr (3, [.int (nI (A 1)), .int (nI 4), .int (nI 5), .ref (s 4)])), (s 4, ia Z 30 (ni Sn)), (s 5, .inr (3, [.int (nI (A 2)), .int (nI 5), .int (nI 6), .ref (s 6)])), (s 6, ia Z 30 (ni Nt)), (s 7, .inr (3, [.int (nI (A 3)), .int (nI 5), .int (nI 6), .ref (s 8)])), (s 8, ia Z 30 (ni Mk))]) (by rw [svd_lo (A := A) (j := 21) (by decide) (by decide), svd_lo (A := A) (j := 5) (by decide) (by decide), svd_lo (A := A) (j := 6) (by decide) (by decide), svd_lo (A := A) (j := 7) (by decide) (by decide), svd_lo (A := A) (j := 8) (by decide) (by decide), svd_lo (A := A) (j := 0) (by decide) (by decide)]) ?_
    refine j_iconst hJ (q := 33) dX8_ticks_32 rfl ki_0 ?_
    refine j_istore_n hJ (q := 34) (lvs' := [(2, .int (nI 0)), (0, .ref h), (1, .int (nI (nt a)))]) dX8_ticks_33 rfl (by decide) rfl rfl ?_
    have L_34 : ∀ (fu_34 : Nat) (B : Nat → Nat) (rb : Nat → Nat) (k : Nat), nt a - k < fu_34 → (k ≤ nt a) → (wf B) → (rR B K P kd am st rb) → (goN (nt a - k) B = goN (nt a) (saved A)) → J 34 [(0, .ref h), (1, .int (nI (nt a))), (2, .int (nI k))] [] [xO h u ab be (Rf 0) (Rf 1) (Rf 2), (u 0, .inr (4, [.ref (s 0), .ref (s 1), .ref (s 3), .ref (s 5), .ref (s 7)])), cO (s 0) q (B 21) (B 5) (B 6) (B 7) (B 8) (B 0), (q 0, ia Z 12 (ni K)), (q 1, ia Z 12 (ni P)), (q 2, ia Z 6 (ni kd)), (q 3, ia Z 6 (ni am)), (q 4, ia Z 6 (ni st)), (q 5, ia Z 6 (ni rb)), ((s 1), .inr (1, [.int (nI ((saved A) 4)), .ref (s 2)])), ((s 2), ia Z 128 (ni Rz2)), (s 3, .inr (3, [.int (nI (A 1)), .int (nI 4), .int (nI 5), .ref (s 4)])), (s 4, ia Z 30 (ni Sn)), (s 5, .inr (3, [.int (nI (A 2)), .int (nI 5), .int (nI 6), .ref (s 6)])), (s 6, ia Z 30 (ni Nt)), (s 7, .inr (3, [.int (nI (A 3)), .int (nI 5), .int (nI 6), .ref (s 8)])), (s 8, ia Z 30 (ni Mk))] 0 0 := by
      intro fu_34
      induction fu_34 with
      | zero => intro B rb k hm; exact absurd hm (Nat.not_lt_zero _)
      | succ fu_34 ih_34 =>
        intro B rb k hm_34 hk hwB hRB hgo
        obtain ⟨⟨b1, b2, b3, b4, b5, b6⟩, hbb, -⟩ := id hwB
        have hb8 := hbb 8
        refine j_iload_n hJ (q := 35) dX8_ticks_34 rfl 2 rfl rfl ?_
        refine j_iload_n hJ (q := 36) dX8_ticks_35 rfl 1 rfl rfl ?_
        refine jn_icmp_ge hJ (q := 39) (tgt := 72) dX8_ticks_36 (by decide) rfl (by omega) (by omega) (fun c4 => ?_) (fun c4 => ?_)
        · skip
          refine j_aload_n hJ (q := 73) dX8_ticks_72 rfl 0 rfl rfl ?_
          refine j_get hJ (q := 76) jf_X8_10 dX8_ticks_73 0 rfl rfl rfl ?_
          refine j_get hJ (q := 79) jf_X8_66 dX8_ticks_76 1 rfl rfl rfl ?_
          refine j_get hJ (q := 82) jf_X8_135 dX8_ticks_79 2 rfl rfl rfl ?_
          have hP0 : rgI 1 60 a := by simp only [rgI, isS, isR, pNote, pMark]; omega
          have hAo : (a_ticks A a) = goN (nt a) (saved A) := by simp only [a_ticks, if_pos hP0]
          have hRo : (if rgI 1 60 a then Rf else bmp Rf 0) = Rf := by simp only [if_pos hP0]
          have hz : B = goN (nt a) (saved A) := hgo ▸ (by first | (rw [show nt a - k = 0 by omega]; rfl) | (rw [goN_out (by omega)]))
          subst hz
          have s6 : saved A 0 ≤ 6 := by rw [svd_lo (A := A) (j := 0) (by decide) (by decide)]; exact w6
          have es1 : goN (nt a) (saved A) 1 = A 1 := (goN_hi _ s6 (by omega)).trans (svd_lo (by decide) (by decide))
          have es2 : goN (nt a) (saved A) 2 = A 2 := (goN_hi _ s6 (by omega)).trans (svd_lo (by decide) (by decide))
          have es3 : goN (nt a) (saved A) 3 = A 3 := (goN_hi _ s6 (by omega)).trans (svd_lo (by decide) (by decide))
          have es4 : goN (nt a) (saved A) 4 = saved A 4 := goN_hi _ s6 (by omega)
          exact hE.1 _ _ _ _ _ _ _ rfl rfl dX8_ticks_82 (Nat.le_refl _) (Nat.le_refl _) (⟨K, P, kd, am, st, rb, Rz2, Sn, Nt, Mk, congrArg (fun z => some (Value.int z)) ((zI_nat _).symm.trans (congrArg zI (by simp only [z_ticks, if_pos hP0]))), by rw [hAo, hRo] <;> first | rfl | (simp only [es1, es2, es3, es4]), by rw [hAo]; exact ⟨hRB, rX_p hX (rP_of hP2 (fun j hj => goN_hi _ s6 (by omega))) (fun j hj => (goN_hi _ s6 (by omega)).trans (svd_lo (by omega) (by omega))) ⟨g1, g2, g3⟩⟩⟩)
        · skip
          refine j_aload_n hJ (q := 40) dX8_ticks_39 rfl 0 rfl rfl ?_
          refine j_get hJ (q := 43) jf_X8_10 dX8_ticks_40 0 rfl rfl rfl ?_
          refine j_get hJ (q := 46) jf_X8_66 dX8_ticks_43 1 rfl rfl rfl ?_
          refine j_get hJ (q := 49) jf_X8_129 dX8_ticks_46 2 rfl rfl rfl ?_
          refine j_sipush hJ (q := 52) dX8_ticks_49 rfl ks_9999 ?_
          refine jn_icmp_ge hJ (q := 55) (tgt := 72) dX8_ticks_52 (by decide) rfl (by omega) (by omega) (fun c5 => ?_) (fun c5 => ?_)
          · skip
            refine j_aload_n hJ (q := 73) dX8_ticks_72 rfl 0 rfl rfl ?_
            refine j_get hJ (q := 76) jf_X8_10 dX8_ticks_73 0 rfl rfl rfl ?_
            refine j_get hJ (q := 79) jf_X8_66 dX8_ticks_76 1 rfl rfl rfl ?_
            refine j_get hJ (q := 82) jf_X8_135 dX8_ticks_79 2 rfl rfl rfl ?_
            have hP0 : rgI 1 60 a := by simp only [rgI, isS, isR, pNote, pMark]; omega
            have hAo : (a_ticks A a) = goN (nt a) (saved A) := by simp only [a_ticks, if_pos hP0]
            have hRo : (if rgI 1 60 a then Rf else bmp Rf 0) = Rf := by simp only [if_pos hP0]
            have hz : B = goN (nt a) (saved A) := hgo ▸ (by first | (rw [show nt a - k = 0 by omega]; rfl) | (rw [goN_out (by omega)]))
            subst hz
            have s6 : saved A 0 ≤ 6 := by rw [svd_lo (A := A) (j := 0) (by decide) (by decide)]; exact w6
            have es1 : goN (nt a) (saved A) 1 = A 1 := (goN_hi _ s6 (by omega)).trans (svd_lo (by decide) (by decide))
            have es2 : goN (nt a) (saved A) 2 = A 2 := (goN_hi _ s6 (by omega)).trans (svd_lo (by decide) (by decide))
            have es3 : goN (nt a) (saved A) 3 = A 3 := (goN_hi _ s6 (by omega)).trans (svd_lo (by decide) (by decide))
            have es4 : goN (nt a) (saved A) 4 = saved A 4 := goN_hi _ s6 (by omega)
            exact hE.1 _ _ _ _ _ _ _ rfl rfl dX8_ticks_82 (Nat.le_refl _) (Nat.le_refl _) (⟨K, P, kd, am, st, rb, Rz2, Sn, Nt, Mk, congrArg (fun z => some (Value.int z)) ((zI_nat _).symm.trans (congrArg zI (by simp only [z_ticks, if_pos hP0]))), by rw [hAo, hRo] <;> first | rfl | (simp only [es1, es2, es3, es4]), by rw [hAo]; exact ⟨hRB, rX_p hX (rP_of hP2 (fun j hj => goN_hi _ s6 (by omega))) (fun j hj => (goN_hi _ s6 (by omega)).trans (svd_lo (by omega) (by omega))) ⟨g1, g2, g3⟩⟩⟩)
          · skip
            refine j_aload_n hJ (q := 56) dX8_ticks_55 rfl 0 rfl rfl ?_
            refine j_get hJ (q := 59) jf_X8_10 dX8_ticks_56 0 rfl rfl rfl ?_
            refine j_get hJ (q := 62) jf_X8_66 dX8_ticks_59 1 rfl rfl rfl ?_
            refine j_vW hJ (q := 65) (rest := []) (As := []) (wr := [xO h u ab be (Rf 0) (Rf 1) (Rf 2), (u 0, .inr (4, [.ref (s 0), .ref (s 1), .ref (s 3), .ref (s 5), .ref (s 7)])), ((s 1), .inr (1, [.int (nI ((saved A) 4)), .ref (s 2)])), ((s 2), ia Z 128 (ni Rz2)), (s 3, .inr (3, [.int (nI (A 1)), .int (nI 4), .int (nI 5), .ref (s 4)])), (s 4, ia Z 30 (ni Sn)), (s 5, .inr (3, [.int (nI (A 2)), .int (nI 5), .int (nI 6), .ref (s 6)])), (s 6, ia Z 30 (ni Nt)), (s 7, .inr (3, [.int (nI (A 3)), .int (nI 5), .int (nI 6), .ref (s 8)])), (s 8, ia Z 30 (ni Mk))]) jl_X8_132 (c_X4_step Z (s 0) q B K P kd am st rb hwB hRB (by omega)) 2 rfl rfl dX8_ticks_62 rfl (by decide) (Nat.le_of_ble_eq_true rfl) [2, 3, 4, 5, 6, 7, 8] [0, 1, 9, 10, 11, 12, 13, 14, 15, 16] rfl rfl rfl rfl (by decide) rfl (fun rv wv hp => ?_)
            obtain ⟨rz6, rfl, rfl, f7⟩ := hp
            refine j_world hJ (ws' := [xO h u ab be (Rf 0) (Rf 1) (Rf 2), (u 0, .inr (4, [.ref (s 0), .ref (s 1), .ref (s 3), .ref (s 5), .ref (s 7)])), cO (s 0) q ((goT B false).2 21) ((goT B false).2 5) ((goT B false).2 6) ((goT B false).2 7) ((goT B false).2 8) ((goT B false).2 0), (q 0, ia Z 12 (ni K)), (q 1, ia Z 12 (ni P)), (q 2, ia Z 6 (ni kd)), (q 3, ia Z 6 (ni am)), (q 4, ia Z 6 (ni st)), (q 5, ia Z 6 (ni rz6)), ((s 1), .inr (1, [.int (nI ((saved A) 4)), .ref (s 2)])), ((s 2), ia Z 128 (ni Rz2)), (s 3, .inr (3, [.int (nI (A 1)), .int (nI 4), .int (nI 5), .ref (s 4)])), (s 4, ia Z 30 (ni Sn)), (s 5, .inr (3, [.int (nI (A 2)), .int (nI 5), .int (nI 6), .ref (s 6)])), (s 6, ia Z 30 (ni Nt)), (s 7, .inr (3, [.int (nI (A 3)), .int (nI 5), .int (nI 6), .ref (s 8)])), (s 8, ia Z 30 (ni Mk))]) [0, 1, 10, 11, 12, 13, 14, 15, 16, 2, 3, 4, 5, 6, 7, 8, 9] rfl rfl ?_
            show J 65 [(0, .ref h), (1, .int (nI (nt a))), (2, .int (nI k))] [.int (oI ((goT B false).1))] [xO h u ab be (Rf 0) (Rf 1) (Rf 2), (u 0, .inr (4, [.ref (s 0), .ref (s 1), .ref (s 3), .ref (s 5), .ref (s 7)])), cO (s 0) q ((goT B false).2 21) ((goT B false).2 5) ((goT B false).2 6) ((goT B false).2 7) ((goT B false).2 8) ((goT B false).2 0), (q 0, ia Z 12 (ni K)), (q 1, ia Z 12 (ni P)), (q 2, ia Z 6 (ni kd)), (q 3, ia Z 6 (ni am)), (q 4, ia Z 6 (ni st)), (q 5, ia Z 6 (ni rz6)), ((s 1), .inr (1, [.int (nI ((saved A) 4)), .ref (s 2)])), ((s 2), ia Z 128 (ni Rz2)), (s 3, .inr (3, [.int (nI (A 1)), .int (nI 4), .int (nI 5), .ref (s 4)])), (s 4, ia Z 30 (ni Sn)), (s 5, .inr (3, [.int (nI (A 2)), .int (nI 5), .int (nI 6), .ref (s 6)])), (s 6, ia Z 30 (ni Nt)), (s 7, .inr (3, [.int (nI (A 3)), .int (nI 5), .int (nI 6), .ref (s 8)])), (s 8, ia Z 30 (ni Mk))] 0 0
            refine j_pop hJ (q := 66) dX8_ticks_65 rfl rfl ?_
            refine j_iinc hJ (q := 69) (lvs' := [(2, .int (nI (k + 1))), (0, .ref h), (1, .int (nI (nt a)))]) dX8_ticks_66 2 rfl (by rw [show Int32.ofInt 1 = nI 1 from by decide +kernel]; exact nI_add _ _) (by decide) rfl rfl ?_
            refine j_goto hJ (q := 34) dX8_ticks_69 (by decide) ?_
            refine j_locals hJ [1, 2, 0] rfl ?_
            exact ih_34 ((goT B false).2) rz6 (k + 1) (by omega) (by omega) (wf_goT false hwB (by omega)) (by assumption) (goN_st hgo (by omega) (by omega))
    refine j_locals hJ [1, 2, 0] rfl ?_
    exact L_34 ((nt a - 0) + 1) (saved A) rg 0 (Nat.lt_succ_self _) (by omega) (wf_saved hw g4) (rR_of hR (fun j hj => svd_lo (by omega) (by omega)) w6 w2) rfl
  · skip
    refine j_aload_n hJ (q := 11) dX8_ticks_10 rfl 0 rfl rfl ?_
    refine j_vW hJ (q := 14) (rest := []) (As := []) (wr := [(u 0, .inr (4, [.ref (s 0), .ref (s 1), .ref (s 3), .ref (s 5), .ref (s 7)])), cO (s 0) q (A 21) (A 5) (A 6) (A 7) (A 8) (A 0), (q 0, ia Z 12 (ni K)), (q 1, ia Z 12 (ni P)), (q 2, ia Z 6 (ni kd)), (q 3, ia Z 6 (ni am)), (q 4, ia Z 6 (ni st)), (q 5, ia Z 6 (ni rg)), (s 1, .inr (1, [.int (nI (A 4)), .ref (s 2)])), (s 2, ia Z 128 (ni Ro)), (s 3, .inr (3, [.int (nI (A 1)), .int (nI 4), .int (nI 5), .ref (s 4)])), (s 4, ia Z 30 (ni Sn)), (s 5, .inr (3, [.int (nI (A 2)), .int (nI 5), .int (nI 6), .ref (s 6)])), (s 6, ia Z 30 (ni Nt)), (s 7, .inr (3, [.int (nI (A 3)), .int (nI 5), .int (nI 6), .ref (s 8)])), (s 8, ia Z 30 (ni Mk))]) jl_X8_62 (c_X8_bad Z h u ab be Rf ) 0 rfl rfl dX8_ticks_11 rfl (by decide) (Nat.le_of_ble_eq_true rfl) [0] [1, 2, 3, 4, 5, 6, 7, 8, 9, 10, 11, 12, 13, 14, 15, 16] rfl rfl rfl rfl (by decide) rfl (fun rv wv hp => ?_)
    obtain ⟨rfl, rfl⟩ := hp
    refine j_world hJ (ws' := [xO h u ab be ((bmp Rf 0) 0) ((bmp Rf 0) 1) ((bmp Rf 0) 2), (u 0, .inr (4, [.ref (s 0), .ref (s 1), .ref (s 3), .ref (s 5), .ref (s 7)])), cO (s 0) q (A 21) (A 5) (A 6) (A 7) (A 8) (A 0), (q 0, ia Z 12 (ni K)), (q 1, ia Z 12 (ni P)), (q 2, ia Z 6 (ni kd)), (q 3, ia Z 6 (ni am)), (q 4, ia Z 6 (ni st)), (q 5, ia Z 6 (ni rg)), (s 1, .inr (1, [.int (nI (A 4)), .ref (s 2)])), (s 2, ia Z 128 (ni Ro)), (s 3, .inr (3, [.int (nI (A 1)), .int (nI 4), .int (nI 5), .ref (s 4)])), (s 4, ia Z 30 (ni Sn)), (s 5, .inr (3, [.int (nI (A 2)), .int (nI 5), .int (nI 6), .ref (s 6)])), (s 6, ia Z 30 (ni Nt)), (s 7, .inr (3, [.int (nI (A 3)), .int (nI 5), .int (nI 6), .ref (s 8)])), (s 8, ia Z 30 (ni Mk))]) [16, 0, 1, 2, 3, 4, 5, 6, 7, 8, 9, 10, 11, 12, 13, 14, 15] rfl rfl ?_
    show J 14 [(0, .ref h), (1, .int a)] [.int (zI (-2))] [xO h u ab be ((bmp Rf 0) 0) ((bmp Rf 0) 1) ((bmp Rf 0) 2), (u 0, .inr (4, [.ref (s 0), .ref (s 1), .ref (s 3), .ref (s 5), .ref (s 7)])), cO (s 0) q (A 21) (A 5) (A 6) (A 7) (A 8) (A 0), (q 0, ia Z 12 (ni K)), (q 1, ia Z 12 (ni P)), (q 2, ia Z 6 (ni kd)), (q 3, ia Z 6 (ni am)), (q 4, ia Z 6 (ni st)), (q 5, ia Z 6 (ni rg)), (s 1, .inr (1, [.int (nI (A 4)), .ref (s 2)])), (s 2, ia Z 128 (ni Ro)), (s 3, .inr (3, [.int (nI (A 1)), .int (nI 4), .int (nI 5), .ref (s 4)])), (s 4, ia Z 30 (ni Sn)), (s 5, .inr (3, [.int (nI (A 2)), .int (nI 5), .int (nI 6), .ref (s 6)])), (s 6, ia Z 30 (ni Nt)), (s 7, .inr (3, [.int (nI (A 3)), .int (nI 5), .int (nI 6), .ref (s 8)])), (s 8, ia Z 30 (ni Mk))] 0 0
    have hP0 : ¬ (rgI 1 60 a) := by simp only [rgI, isS, isR, pNote, pMark]; omega
    have hAo : (a_ticks A a) = A := by simp only [a_ticks, if_neg hP0]
    have hRo : (if rgI 1 60 a then Rf else bmp Rf 0) = bmp Rf 0 := by simp only [if_neg hP0]
    exact hE.1 _ _ _ _ _ _ _ rfl rfl dX8_ticks_14 (Nat.le_refl _) (Nat.le_refl _) (⟨K, P, kd, am, st, rg, Ro, Sn, Nt, Mk, congrArg (fun z => some (Value.int (zI z))) (by simp only [z_ticks, if_neg hP0]), by rw [hAo, hRo] <;> first | rfl | (skip), by rw [hAo]; exact hA⟩)

set_option maxHeartbeats 4000000 in
set_option maxRecDepth 100000 in
theorem c_X8_speed (Z : jZ) (h : Nat) (u : Nat → Nat) (ab : Int) (be : Int) (Rf : Nat → Nat) (s : Nat → Nat) (q : Nat → Nat) (A : Nat → Nat) (K : Nat → Nat) (P : Nat → Nat) (kd : Nat → Nat) (am : Nat → Nat) (st : Nat → Nat) (rg : Nat → Nat) (Ro : Nat → Nat) (Sn : Nat → Nat) (Nt : Nat → Nat) (Mk : Nat → Nat) (a : Int32) (hg : wg A) (hA : rA A K P kd am st rg Ro Sn Nt Mk) : CT Z yX8_speed cX8_speed 3 ((some FieldType.int)) 3 0 0 [.ref h, .int a] [xO h u ab be (Rf 0) (Rf 1) (Rf 2), (u 0, .inr (4, [.ref (s 0), .ref (s 1), .ref (s 3), .ref (s 5), .ref (s 7)])), cO (s 0) q (A 21) (A 5) (A 6) (A 7) (A 8) (A 0), (q 0, ia Z 12 (ni K)), (q 1, ia Z 12 (ni P)), (q 2, ia Z 6 (ni kd)), (q 3, ia Z 6 (ni am)), (q 4, ia Z 6 (ni st)), (q 5, ia Z 6 (ni rg)), (s 1, .inr (1, [.int (nI (A 4)), .ref (s 2)])), (s 2, ia Z 128 (ni Ro)), (s 3, .inr (3, [.int (nI (A 1)), .int (nI 4), .int (nI 5), .ref (s 4)])), (s 4, ia Z 30 (ni Sn)), (s 5, .inr (3, [.int (nI (A 2)), .int (nI 5), .int (nI 6), .ref (s 6)])), (s 6, ia Z 30 (ni Nt)), (s 7, .inr (3, [.int (nI (A 3)), .int (nI 5), .int (nI 6), .ref (s 8)])), (s 8, ia Z 30 (ni Mk))] (fun rr ww => ∃ Kz : Nat → Nat, ∃ Pz : Nat → Nat, ∃ kdz : Nat → Nat, ∃ amz : Nat → Nat, ∃ stz : Nat → Nat, ∃ rgz : Nat → Nat, ∃ Roz : Nat → Nat, ∃ Snz : Nat → Nat, ∃ Ntz : Nat → Nat, ∃ Mkz : Nat → Nat, rr = some (.int (zI (z_speed A a))) ∧ ww = [xO h u ab be ((r_speed A Rf a) 0) ((r_speed A Rf a) 1) ((r_speed A Rf a) 2), (u 0, .inr (4, [.ref (s 0), .ref (s 1), .ref (s 3), .ref (s 5), .ref (s 7)])), cO (s 0) q ((a_speed A a) 21) ((a_speed A a) 5) ((a_speed A a) 6) ((a_speed A a) 7) ((a_speed A a) 8) ((a_speed A a) 0), (q 0, ia Z 12 (ni Kz)), (q 1, ia Z 12 (ni Pz)), (q 2, ia Z 6 (ni kdz)), (q 3, ia Z 6 (ni amz)), (q 4, ia Z 6 (ni stz)), (q 5, ia Z 6 (ni rgz)), (s 1, .inr (1, [.int (nI ((a_speed A a) 4)), .ref (s 2)])), (s 2, ia Z 128 (ni Roz)), (s 3, .inr (3, [.int (nI ((a_speed A a) 1)), .int (nI 4), .int (nI 5), .ref (s 4)])), (s 4, ia Z 30 (ni Snz)), (s 5, .inr (3, [.int (nI ((a_speed A a) 2)), .int (nI 5), .int (nI 6), .ref (s 6)])), (s 6, ia Z 30 (ni Ntz)), (s 7, .inr (3, [.int (nI ((a_speed A a) 3)), .int (nI 5), .int (nI 6), .ref (s 8)])), (s 8, ia Z 30 (ni Mkz))] ∧ (rA (a_speed A a) Kz Pz kdz amz stz rgz Roz Snz Ntz Mkz)) := by
  refine CT.of RX8 false rfl (fun h => by cases h) (by decide +kernel) (Nat.le_of_ble_eq_true rfl) ?_
  intro J hJ hE
  show J 0 [(0, .ref h), (1, .int a)] [] [xO h u ab be (Rf 0) (Rf 1) (Rf 2), (u 0, .inr (4, [.ref (s 0), .ref (s 1), .ref (s 3), .ref (s 5), .ref (s 7)])), cO (s 0) q (A 21) (A 5) (A 6) (A 7) (A 8) (A 0), (q 0, ia Z 12 (ni K)), (q 1, ia Z 12 (ni P)), (q 2, ia Z 6 (ni kd)), (q 3, ia Z 6 (ni am)), (q 4, ia Z 6 (ni st)), (q 5, ia Z 6 (ni rg)), (s 1, .inr (1, [.int (nI (A 4)), .ref (s 2)])), (s 2, ia Z 128 (ni Ro)), (s 3, .inr (3, [.int (nI (A 1)), .int (nI 4), .int (nI 5), .ref (s 4)])), (s 4, ia Z 30 (ni Sn)), (s 5, .inr (3, [.int (nI (A 2)), .int (nI 5), .int (nI 6), .ref (s 6)])), (s 6, ia Z 30 (ni Nt)), (s 7, .inr (3, [.int (nI (A 3)), .int (nI 5), .int (nI 6), .ref (s 8)])), (s 8, ia Z 30 (ni Mk))] 0 0
  obtain ⟨hw, ⟨g1, g2, g3, g4, g8⟩, hrs, hrn, hrm, hpst⟩ := id hg
  obtain ⟨⟨w1, w2, w3, w4, w5, w6⟩, hb, wr, wh, wd⟩ := id hw
  obtain ⟨hR, hX⟩ := id hA
  obtain ⟨hP, hSn, hNt, hMk⟩ := id hX
  have hr_a := zI_rng a
  refine j_iload_n hJ (q := 1) dX8_speed_0 rfl 1 rfl rfl ?_
  refine j_iconst hJ (q := 2) dX8_speed_1 rfl ki_0 ?_
  refine j_iconst hJ (q := 3) dX8_speed_2 rfl ki_3 ?_
  refine j_sR hJ (q := 6) (rest := []) (As := [.int a, .int (zI 0), .int (zI 3)]) jl_X8_58 (c_X8_within Z a 0 3 (by omega) (by omega)) dX8_speed_3 rfl (by decide) (Nat.le_of_ble_eq_true rfl) [] rfl rfl (fun rv hp => ?_)
  obtain rfl := hp
  show J 6 [(0, .ref h), (1, .int a)] [.int (bI (decide (0 ≤ a.toInt ∧ a.toInt ≤ 3)))] [xO h u ab be (Rf 0) (Rf 1) (Rf 2), (u 0, .inr (4, [.ref (s 0), .ref (s 1), .ref (s 3), .ref (s 5), .ref (s 7)])), cO (s 0) q (A 21) (A 5) (A 6) (A 7) (A 8) (A 0), (q 0, ia Z 12 (ni K)), (q 1, ia Z 12 (ni P)), (q 2, ia Z 6 (ni kd)), (q 3, ia Z 6 (ni am)), (q 4, ia Z 6 (ni st)), (q 5, ia Z 6 (ni rg)), (s 1, .inr (1, [.int (nI (A 4)), .ref (s 2)])), (s 2, ia Z 128 (ni Ro)), (s 3, .inr (3, [.int (nI (A 1)), .int (nI 4), .int (nI 5), .ref (s 4)])), (s 4, ia Z 30 (ni Sn)), (s 5, .inr (3, [.int (nI (A 2)), .int (nI 5), .int (nI 6), .ref (s 6)])), (s 6, ia Z 30 (ni Nt)), (s 7, .inr (3, [.int (nI (A 3)), .int (nI 5), .int (nI 6), .ref (s 8)])), (s 8, ia Z 30 (ni Mk))] 0 0
  refine jp_if_ne hJ (q := 9) (tgt := 14) dX8_speed_6 (by decide) rfl (fun c1 => ?_) (fun c1 => ?_)
  · skip
    have hn_a := nt_cast (x := a) (by omega)
    refine j_eql (lvs' := [(0, .ref h), (1, .int (nI (nt a)))]) (by rw [← nt_eq (x := a) (by omega)]) ?_
    refine j_aload_n hJ (q := 15) dX8_speed_14 rfl 0 rfl rfl ?_
    refine j_get hJ (q := 18) jf_X8_10 dX8_speed_15 0 rfl rfl rfl ?_
    refine j_get hJ (q := 21) jf_X8_66 dX8_speed_18 1 rfl rfl rfl ?_
    refine j_get hJ (q := 24) jf_X8_138 dX8_speed_21 2 rfl rfl rfl ?_
    refine j_istore_n hJ (q := 25) (lvs' := [(2, .int (nI (A 6))), (0, .ref h), (1, .int (nI (nt a)))]) dX8_speed_24 rfl (by decide) rfl rfl ?_
    refine j_iload_n hJ (q := 26) dX8_speed_25 rfl 0 rfl rfl ?_
    refine j_iload_n hJ (q := 27) dX8_speed_26 rfl 2 rfl rfl ?_
    refine jn_icmp_ne hJ (q := 30) (tgt := 35) dX8_speed_27 (by decide) rfl (by omega) (by omega) (fun c2 => ?_) (fun c2 => ?_)
    · skip
      refine j_aload_n hJ (q := 36) dX8_speed_35 rfl 1 rfl rfl ?_
      refine j_get hJ (q := 39) jf_X8_10 dX8_speed_36 0 rfl rfl rfl ?_
      refine j_get hJ (q := 42) jf_X8_91 dX8_speed_39 1 rfl rfl rfl ?_
      refine j_aload_n hJ (q := 43) dX8_speed_42 rfl 1 rfl rfl ?_
      refine j_get hJ (q := 46) jf_X8_10 dX8_speed_43 0 rfl rfl rfl ?_
      refine j_get hJ (q := 49) jf_X8_66 dX8_speed_46 1 rfl rfl rfl ?_
      refine j_vW hJ (q := 52) (rest := []) (As := [.ref (s 0)]) (wr := [xO h u ab be (Rf 0) (Rf 1) (Rf 2), (u 0, .inr (4, [.ref (s 0), .ref (s 1), .ref (s 3), .ref (s 5), .ref (s 7)])), (s 3, .inr (3, [.int (nI (A 1)), .int (nI 4), .int (nI 5), .ref (s 4)])), (s 4, ia Z 30 (ni Sn)), (s 5, .inr (3, [.int (nI (A 2)), .int (nI 5), .int (nI 6), .ref (s 6)])), (s 6, ia Z 30 (ni Nt)), (s 7, .inr (3, [.int (nI (A 3)), .int (nI 5), .int (nI 6), .ref (s 8)])), (s 8, ia Z 30 (ni Mk))]) jl_X8_126 (c_X3_keep Z (s 0) q A K P kd am st rg (s 1) (s 2) Ro hR hP g4 w6) 9 rfl rfl dX8_speed_49 rfl (by decide) (Nat.le_of_ble_eq_true rfl) [9, 10, 2, 3, 4, 5, 6, 7, 8] [0, 1, 11, 12, 13, 14, 15, 16] rfl rfl rfl rfl (by decide) rfl (fun rv wv hp => ?_)
      obtain ⟨Rz3, rfl, rfl, f4⟩ := hp
      refine j_world hJ (ws' := [xO h u ab be (Rf 0) (Rf 1) (Rf 2), (u 0, .inr (4, [.ref (s 0), .ref (s 1), .ref (s 3), .ref (s 5), .ref (s 7)])), cO (s 0) q (A 21) (A 5) (A 6) (A 7) (A 8) (A 0), (q 0, ia Z 12 (ni K)), (q 1, ia Z 12 (ni P)), (q 2, ia Z 6 (ni kd)), (q 3, ia Z 6 (ni am)), (q 4, ia Z 6 (ni st)), (q 5, ia Z 6 (ni rg)), ((s 1), .inr (1, [.int (nI ((saved A) 4)), .ref (s 2)])), ((s 2), ia Z 128 (ni Rz3)), (s 3, .inr (3, [.int (nI (A 1)), .int (nI 4), .int (nI 5), .ref (s 4)])), (s 4, ia Z 30 (ni Sn)), (s 5, .inr (3, [.int (nI (A 2)), .int (nI 5), .int (nI 6), .ref (s 6)])), (s 6, ia Z 30 (ni Nt)), (s 7, .inr (3, [.int (nI (A 3)), .int (nI 5), .int (nI 6), .ref (s 8)])), (s 8, ia Z 30 (ni Mk))]) [0, 1, 10, 11, 12, 13, 14, 15, 16, 8, 9, 2, 3, 4, 5, 6, 7] rfl rfl ?_
      show J 52 [(2, .int (nI (A 6))), (0, .ref h), (1, .int (nI (nt a)))] [] [xO h u ab be (Rf 0) (Rf 1) (Rf 2), (u 0, .inr (4, [.ref (s 0), .ref (s 1), .ref (s 3), .ref (s 5), .ref (s 7)])), cO (s 0) q (A 21) (A 5) (A 6) (A 7) (A 8) (A 0), (q 0, ia Z 12 (ni K)), (q 1, ia Z 12 (ni P)), (q 2, ia Z 6 (ni kd)), (q 3, ia Z 6 (ni am)), (q 4, ia Z 6 (ni st)), (q 5, ia Z 6 (ni rg)), ((s 1), .inr (1, [.int (nI ((saved A) 4)), .ref (s 2)])), ((s 2), ia Z 128 (ni Rz3)), (s 3, .inr (3, [.int (nI (A 1)), .int (nI 4), .int (nI 5), .ref (s 4)])), (s 4, ia Z 30 (ni Sn)), (s 5, .inr (3, [.int (nI (A 2)), .int (nI 5), .int (nI 6), .ref (s 6)])), (s 6, ia Z 30 (ni Nt)), (s 7, .inr (3, [.int (nI (A 3)), .int (nI 5), .int (nI 6), .ref (s 8)])), (s 8, ia Z 30 (ni Mk))] 0 0
      have hP2 := f4
      refine j_aload_n hJ (q := 53) dX8_speed_52 rfl 1 rfl rfl ?_
      refine j_get hJ (q := 56) jf_X8_10 dX8_speed_53 0 rfl rfl rfl ?_
      refine j_get hJ (q := 59) jf_X8_66 dX8_speed_56 1 rfl rfl rfl ?_
      refine j_iload_n hJ (q := 60) dX8_speed_59 rfl 2 rfl rfl ?_
      refine j_put hJ (q := 63) (ws' := [xO h u ab be (Rf 0) (Rf 1) (Rf 2), (u 0, .inr (4, [.ref (s 0), .ref (s 1), .ref (s 3), .ref (s 5), .ref (s 7)])), cO (s 0) q (A 21) (A 5) (nt a) (A 7) (A 8) (A 0), (q 0, ia Z 12 (ni K)), (q 1, ia Z 12 (ni P)), (q 2, ia Z 6 (ni kd)), (q 3, ia Z 6 (ni am)), (q 4, ia Z 6 (ni st)), (q 5, ia Z 6 (ni rg)), ((s 1), .inr (1, [.int (nI ((saved A) 4)), .ref (s 2)])), ((s 2), ia Z 128 (ni Rz3)), (s 3, .inr (3, [.int (nI (A 1)), .int (nI 4), .int (nI 5), .ref (s 4)])), (s 4, ia Z 30 (ni Sn)), (s 5, .inr (3, [.int (nI (A 2)), .int (nI 5), .int (nI 6), .ref (s 6)])), (s 6, ia Z 30 (ni Nt)), (s 7, .inr (3, [.int (nI (A 3)), .int (nI 5), .int (nI 6), .ref (s 8)])), (s 8, ia Z 30 (ni Mk))]) jp_X8_138 dX8_speed_60 2 rfl rfl rfl (Nat.le_of_ble_eq_true rfl) rfl rfl ?_
      refine j_iload_n hJ (q := 64) dX8_speed_63 rfl 0 rfl rfl ?_
      have hP0 : rgI 0 3 a := by simp only [rgI, isS, isR, pNote, pMark]; omega
      have hQ0 : ¬ (A 6 = nt a) := by omega
      have hAo : (a_speed A a) = va_up (saved A) 6 (nt a) := by simp only [a_speed, if_pos hP0, if_neg hQ0]
      have hRo : (r_speed A Rf a) = Rf := by simp only [r_speed, if_pos hP0, if_neg hQ0]
      have es21 : (va_up (saved A) 6 (nt a)) 21 = A 21 := (show saved A 21 = A 21 from svd_lo (by decide) (by decide))
      have es5 : (va_up (saved A) 6 (nt a)) 5 = A 5 := (show saved A 5 = A 5 from svd_lo (by decide) (by decide))
      have es7 : (va_up (saved A) 6 (nt a)) 7 = A 7 := (show saved A 7 = A 7 from svd_lo (by decide) (by decide))
      have es8 : (va_up (saved A) 6 (nt a)) 8 = A 8 := (show saved A 8 = A 8 from svd_lo (by decide) (by decide))
      have es0 : (va_up (saved A) 6 (nt a)) 0 = A 0 := (show saved A 0 = A 0 from svd_lo (by decide) (by decide))
      have es1 : (va_up (saved A) 6 (nt a)) 1 = A 1 := (show saved A 1 = A 1 from svd_lo (by decide) (by decide))
      have es2 : (va_up (saved A) 6 (nt a)) 2 = A 2 := (show saved A 2 = A 2 from svd_lo (by decide) (by decide))
      have es3 : (va_up (saved A) 6 (nt a)) 3 = A 3 := (show saved A 3 = A 3 from svd_lo (by decide) (by decide))
      have es6 : (va_up (saved A) 6 (nt a)) 6 = nt a := rfl
      have es4 : (va_up (saved A) 6 (nt a)) 4 = saved A 4 := rfl
      have e1 : ∀ j, j ≠ 4 → j ≠ 6 → j < 138 → (va_up (saved A) 6 (nt a)) j = A j := fun j h1 h2 h3 => by simp only [va_up]; rw [if_neg h2]; exact svd_lo h3 h1
      exact hE.1 _ _ _ _ _ _ _ rfl rfl dX8_speed_64 (Nat.le_refl _) (Nat.le_refl _) (⟨K, P, kd, am, st, rg, Rz3, Sn, Nt, Mk, congrArg (fun z => some (Value.int z)) ((zI_nat _).symm.trans (congrArg zI (by simp only [z_speed, if_pos hP0, if_neg hQ0]))), by rw [hAo, hRo] <;> first | rfl | (simp only [es21, es5, es7, es8, es0, es1, es2, es3, es6, es4]), by rw [hAo]; exact ⟨rR_of hR (fun j hj => e1 j (by omega) (by omega) (by omega)) w6 w2, rX_p hX (rP_of hP2 (fun j hj => by simp only [va_up]; rw [if_neg (by omega)])) (fun j hj => e1 j (by omega) (by omega) (by omega)) ⟨g1, g2, g3⟩⟩⟩)
    · skip
      refine j_aload_n hJ (q := 31) dX8_speed_30 rfl 1 rfl rfl ?_
      refine j_vW hJ (q := 34) (rest := []) (As := []) (wr := [(u 0, .inr (4, [.ref (s 0), .ref (s 1), .ref (s 3), .ref (s 5), .ref (s 7)])), cO (s 0) q (A 21) (A 5) (A 6) (A 7) (A 8) (A 0), (q 0, ia Z 12 (ni K)), (q 1, ia Z 12 (ni P)), (q 2, ia Z 6 (ni kd)), (q 3, ia Z 6 (ni am)), (q 4, ia Z 6 (ni st)), (q 5, ia Z 6 (ni rg)), (s 1, .inr (1, [.int (nI (A 4)), .ref (s 2)])), (s 2, ia Z 128 (ni Ro)), (s 3, .inr (3, [.int (nI (A 1)), .int (nI 4), .int (nI 5), .ref (s 4)])), (s 4, ia Z 30 (ni Sn)), (s 5, .inr (3, [.int (nI (A 2)), .int (nI 5), .int (nI 6), .ref (s 6)])), (s 6, ia Z 30 (ni Nt)), (s 7, .inr (3, [.int (nI (A 3)), .int (nI 5), .int (nI 6), .ref (s 8)])), (s 8, ia Z 30 (ni Mk))]) jl_X8_104 (c_X8_no Z h u ab be Rf ) 0 rfl rfl dX8_speed_31 rfl (by decide) (Nat.le_of_ble_eq_true rfl) [0] [1, 2, 3, 4, 5, 6, 7, 8, 9, 10, 11, 12, 13, 14, 15, 16] rfl rfl rfl rfl (by decide) rfl (fun rv wv hp => ?_)
      obtain ⟨rfl, rfl⟩ := hp
      refine j_world hJ (ws' := [xO h u ab be ((bmp Rf 1) 0) ((bmp Rf 1) 1) ((bmp Rf 1) 2), (u 0, .inr (4, [.ref (s 0), .ref (s 1), .ref (s 3), .ref (s 5), .ref (s 7)])), cO (s 0) q (A 21) (A 5) (A 6) (A 7) (A 8) (A 0), (q 0, ia Z 12 (ni K)), (q 1, ia Z 12 (ni P)), (q 2, ia Z 6 (ni kd)), (q 3, ia Z 6 (ni am)), (q 4, ia Z 6 (ni st)), (q 5, ia Z 6 (ni rg)), (s 1, .inr (1, [.int (nI (A 4)), .ref (s 2)])), (s 2, ia Z 128 (ni Ro)), (s 3, .inr (3, [.int (nI (A 1)), .int (nI 4), .int (nI 5), .ref (s 4)])), (s 4, ia Z 30 (ni Sn)), (s 5, .inr (3, [.int (nI (A 2)), .int (nI 5), .int (nI 6), .ref (s 6)])), (s 6, ia Z 30 (ni Nt)), (s 7, .inr (3, [.int (nI (A 3)), .int (nI 5), .int (nI 6), .ref (s 8)])), (s 8, ia Z 30 (ni Mk))]) [16, 0, 1, 2, 3, 4, 5, 6, 7, 8, 9, 10, 11, 12, 13, 14, 15] rfl rfl ?_
      show J 34 [(2, .int (nI (A 6))), (0, .ref h), (1, .int (nI (nt a)))] [.int (zI (-3))] [xO h u ab be ((bmp Rf 1) 0) ((bmp Rf 1) 1) ((bmp Rf 1) 2), (u 0, .inr (4, [.ref (s 0), .ref (s 1), .ref (s 3), .ref (s 5), .ref (s 7)])), cO (s 0) q (A 21) (A 5) (A 6) (A 7) (A 8) (A 0), (q 0, ia Z 12 (ni K)), (q 1, ia Z 12 (ni P)), (q 2, ia Z 6 (ni kd)), (q 3, ia Z 6 (ni am)), (q 4, ia Z 6 (ni st)), (q 5, ia Z 6 (ni rg)), (s 1, .inr (1, [.int (nI (A 4)), .ref (s 2)])), (s 2, ia Z 128 (ni Ro)), (s 3, .inr (3, [.int (nI (A 1)), .int (nI 4), .int (nI 5), .ref (s 4)])), (s 4, ia Z 30 (ni Sn)), (s 5, .inr (3, [.int (nI (A 2)), .int (nI 5), .int (nI 6), .ref (s 6)])), (s 6, ia Z 30 (ni Nt)), (s 7, .inr (3, [.int (nI (A 3)), .int (nI 5), .int (nI 6), .ref (s 8)])), (s 8, ia Z 30 (ni Mk))] 0 0
      have hP0 : rgI 0 3 a := by simp only [rgI, isS, isR, pNote, pMark]; omega
      have hQ0 : A 6 = nt a := by omega
      have hAo : (a_speed A a) = A := by simp only [a_speed, if_pos hP0, if_pos hQ0]
      have hRo : (r_speed A Rf a) = bmp Rf 1 := by simp only [r_speed, if_pos hP0, if_pos hQ0]
      exact hE.1 _ _ _ _ _ _ _ rfl rfl dX8_speed_34 (Nat.le_refl _) (Nat.le_refl _) (⟨K, P, kd, am, st, rg, Ro, Sn, Nt, Mk, congrArg (fun z => some (Value.int (zI z))) (by simp only [z_speed, if_pos hP0, if_pos hQ0]), by rw [hAo, hRo] <;> first | rfl | (skip), by rw [hAo]; exact hA⟩)
  · skip
    refine j_aload_n hJ (q := 10) dX8_speed_9 rfl 0 rfl rfl ?_
    refine j_vW hJ (q := 13) (rest := []) (As := []) (wr := [(u 0, .inr (4, [.ref (s 0), .ref (s 1), .ref (s 3), .ref (s 5), .ref (s 7)])), cO (s 0) q (A 21) (A 5) (A 6) (A 7) (A 8) (A 0), (q 0, ia Z 12 (ni K)), (q 1, ia Z 12 (ni P)), (q 2, ia Z 6 (ni kd)), (q 3, ia Z 6 (ni am)), (q 4, ia Z 6 (ni st)), (q 5, ia Z 6 (ni rg)), (s 1, .inr (1, [.int (nI (A 4)), .ref (s 2)])), (s 2, ia Z 128 (ni Ro)), (s 3, .inr (3, [.int (nI (A 1)), .int (nI 4), .int (nI 5), .ref (s 4)])), (s 4, ia Z 30 (ni Sn)), (s 5, .inr (3, [.int (nI (A 2)), .int (nI 5), .int (nI 6), .ref (s 6)])), (s 6, ia Z 30 (ni Nt)), (s 7, .inr (3, [.int (nI (A 3)), .int (nI 5), .int (nI 6), .ref (s 8)])), (s 8, ia Z 30 (ni Mk))]) jl_X8_62 (c_X8_bad Z h u ab be Rf ) 0 rfl rfl dX8_speed_10 rfl (by decide) (Nat.le_of_ble_eq_true rfl) [0] [1, 2, 3, 4, 5, 6, 7, 8, 9, 10, 11, 12, 13, 14, 15, 16] rfl rfl rfl rfl (by decide) rfl (fun rv wv hp => ?_)
    obtain ⟨rfl, rfl⟩ := hp
    refine j_world hJ (ws' := [xO h u ab be ((bmp Rf 0) 0) ((bmp Rf 0) 1) ((bmp Rf 0) 2), (u 0, .inr (4, [.ref (s 0), .ref (s 1), .ref (s 3), .ref (s 5), .ref (s 7)])), cO (s 0) q (A 21) (A 5) (A 6) (A 7) (A 8) (A 0), (q 0, ia Z 12 (ni K)), (q 1, ia Z 12 (ni P)), (q 2, ia Z 6 (ni kd)), (q 3, ia Z 6 (ni am)), (q 4, ia Z 6 (ni st)), (q 5, ia Z 6 (ni rg)), (s 1, .inr (1, [.int (nI (A 4)), .ref (s 2)])), (s 2, ia Z 128 (ni Ro)), (s 3, .inr (3, [.int (nI (A 1)), .int (nI 4), .int (nI 5), .ref (s 4)])), (s 4, ia Z 30 (ni Sn)), (s 5, .inr (3, [.int (nI (A 2)), .int (nI 5), .int (nI 6), .ref (s 6)])), (s 6, ia Z 30 (ni Nt)), (s 7, .inr (3, [.int (nI (A 3)), .int (nI 5), .int (nI 6), .ref (s 8)])), (s 8, ia Z 30 (ni Mk))]) [16, 0, 1, 2, 3, 4, 5, 6, 7, 8, 9, 10, 11, 12, 13, 14, 15] rfl rfl ?_
    show J 13 [(0, .ref h), (1, .int a)] [.int (zI (-2))] [xO h u ab be ((bmp Rf 0) 0) ((bmp Rf 0) 1) ((bmp Rf 0) 2), (u 0, .inr (4, [.ref (s 0), .ref (s 1), .ref (s 3), .ref (s 5), .ref (s 7)])), cO (s 0) q (A 21) (A 5) (A 6) (A 7) (A 8) (A 0), (q 0, ia Z 12 (ni K)), (q 1, ia Z 12 (ni P)), (q 2, ia Z 6 (ni kd)), (q 3, ia Z 6 (ni am)), (q 4, ia Z 6 (ni st)), (q 5, ia Z 6 (ni rg)), (s 1, .inr (1, [.int (nI (A 4)), .ref (s 2)])), (s 2, ia Z 128 (ni Ro)), (s 3, .inr (3, [.int (nI (A 1)), .int (nI 4), .int (nI 5), .ref (s 4)])), (s 4, ia Z 30 (ni Sn)), (s 5, .inr (3, [.int (nI (A 2)), .int (nI 5), .int (nI 6), .ref (s 6)])), (s 6, ia Z 30 (ni Nt)), (s 7, .inr (3, [.int (nI (A 3)), .int (nI 5), .int (nI 6), .ref (s 8)])), (s 8, ia Z 30 (ni Mk))] 0 0
    have hP0 : ¬ (rgI 0 3 a) := by simp only [rgI, isS, isR, pNote, pMark]; omega
    have hAo : (a_speed A a) = A := by simp only [a_speed, if_neg hP0]
    have hRo : (r_speed A Rf a) = bmp Rf 0 := by simp only [r_speed, if_neg hP0]
    exact hE.1 _ _ _ _ _ _ _ rfl rfl dX8_speed_13 (Nat.le_refl _) (Nat.le_refl _) (⟨K, P, kd, am, st, rg, Ro, Sn, Nt, Mk, congrArg (fun z => some (Value.int (zI z))) (by simp only [z_speed, if_neg hP0]), by rw [hAo, hRo] <;> first | rfl | (skip), by rw [hAo]; exact hA⟩)

set_option maxHeartbeats 4000000 in
set_option maxRecDepth 100000 in
theorem c_X8_hangs (Z : jZ) (h : Nat) (u : Nat → Nat) (ab : Int) (be : Int) (Rf : Nat → Nat) (s : Nat → Nat) (q : Nat → Nat) (A : Nat → Nat) (K : Nat → Nat) (P : Nat → Nat) (kd : Nat → Nat) (am : Nat → Nat) (st : Nat → Nat) (rg : Nat → Nat) (Ro : Nat → Nat) (Sn : Nat → Nat) (Nt : Nat → Nat) (Mk : Nat → Nat) (a : Int32) (hg : wg A) (hA : rA A K P kd am st rg Ro Sn Nt Mk) : CT Z yX8_hangs cX8_hangs 3 ((some FieldType.int)) 3 0 0 [.ref h, .int a] [xO h u ab be (Rf 0) (Rf 1) (Rf 2), (u 0, .inr (4, [.ref (s 0), .ref (s 1), .ref (s 3), .ref (s 5), .ref (s 7)])), cO (s 0) q (A 21) (A 5) (A 6) (A 7) (A 8) (A 0), (q 0, ia Z 12 (ni K)), (q 1, ia Z 12 (ni P)), (q 2, ia Z 6 (ni kd)), (q 3, ia Z 6 (ni am)), (q 4, ia Z 6 (ni st)), (q 5, ia Z 6 (ni rg)), (s 1, .inr (1, [.int (nI (A 4)), .ref (s 2)])), (s 2, ia Z 128 (ni Ro)), (s 3, .inr (3, [.int (nI (A 1)), .int (nI 4), .int (nI 5), .ref (s 4)])), (s 4, ia Z 30 (ni Sn)), (s 5, .inr (3, [.int (nI (A 2)), .int (nI 5), .int (nI 6), .ref (s 6)])), (s 6, ia Z 30 (ni Nt)), (s 7, .inr (3, [.int (nI (A 3)), .int (nI 5), .int (nI 6), .ref (s 8)])), (s 8, ia Z 30 (ni Mk))] (fun rr ww => ∃ Kz : Nat → Nat, ∃ Pz : Nat → Nat, ∃ kdz : Nat → Nat, ∃ amz : Nat → Nat, ∃ stz : Nat → Nat, ∃ rgz : Nat → Nat, ∃ Roz : Nat → Nat, ∃ Snz : Nat → Nat, ∃ Ntz : Nat → Nat, ∃ Mkz : Nat → Nat, rr = some (.int (zI (z_hangs A a))) ∧ ww = [xO h u ab be ((r_hangs A Rf a) 0) ((r_hangs A Rf a) 1) ((r_hangs A Rf a) 2), (u 0, .inr (4, [.ref (s 0), .ref (s 1), .ref (s 3), .ref (s 5), .ref (s 7)])), cO (s 0) q ((a_hangs A a) 21) ((a_hangs A a) 5) ((a_hangs A a) 6) ((a_hangs A a) 7) ((a_hangs A a) 8) ((a_hangs A a) 0), (q 0, ia Z 12 (ni Kz)), (q 1, ia Z 12 (ni Pz)), (q 2, ia Z 6 (ni kdz)), (q 3, ia Z 6 (ni amz)), (q 4, ia Z 6 (ni stz)), (q 5, ia Z 6 (ni rgz)), (s 1, .inr (1, [.int (nI ((a_hangs A a) 4)), .ref (s 2)])), (s 2, ia Z 128 (ni Roz)), (s 3, .inr (3, [.int (nI ((a_hangs A a) 1)), .int (nI 4), .int (nI 5), .ref (s 4)])), (s 4, ia Z 30 (ni Snz)), (s 5, .inr (3, [.int (nI ((a_hangs A a) 2)), .int (nI 5), .int (nI 6), .ref (s 6)])), (s 6, ia Z 30 (ni Ntz)), (s 7, .inr (3, [.int (nI ((a_hangs A a) 3)), .int (nI 5), .int (nI 6), .ref (s 8)])), (s 8, ia Z 30 (ni Mkz))] ∧ (rA (a_hangs A a) Kz Pz kdz amz stz rgz Roz Snz Ntz Mkz)) := by
  refine CT.of RX8 false rfl (fun h => by cases h) (by decide +kernel) (Nat.le_of_ble_eq_true rfl) ?_
  intro J hJ hE
  show J 0 [(0, .ref h), (1, .int a)] [] [xO h u ab be (Rf 0) (Rf 1) (Rf 2), (u 0, .inr (4, [.ref (s 0), .ref (s 1), .ref (s 3), .ref (s 5), .ref (s 7)])), cO (s 0) q (A 21) (A 5) (A 6) (A 7) (A 8) (A 0), (q 0, ia Z 12 (ni K)), (q 1, ia Z 12 (ni P)), (q 2, ia Z 6 (ni kd)), (q 3, ia Z 6 (ni am)), (q 4, ia Z 6 (ni st)), (q 5, ia Z 6 (ni rg)), (s 1, .inr (1, [.int (nI (A 4)), .ref (s 2)])), (s 2, ia Z 128 (ni Ro)), (s 3, .inr (3, [.int (nI (A 1)), .int (nI 4), .int (nI 5), .ref (s 4)])), (s 4, ia Z 30 (ni Sn)), (s 5, .inr (3, [.int (nI (A 2)), .int (nI 5), .int (nI 6), .ref (s 6)])), (s 6, ia Z 30 (ni Nt)), (s 7, .inr (3, [.int (nI (A 3)), .int (nI 5), .int (nI 6), .ref (s 8)])), (s 8, ia Z 30 (ni Mk))] 0 0
  obtain ⟨hw, ⟨g1, g2, g3, g4, g8⟩, hrs, hrn, hrm, hpst⟩ := id hg
  obtain ⟨⟨w1, w2, w3, w4, w5, w6⟩, hb, wr, wh, wd⟩ := id hw
  obtain ⟨hR, hX⟩ := id hA
  obtain ⟨hP, hSn, hNt, hMk⟩ := id hX
  have hr_a := zI_rng a
  refine j_iload_n hJ (q := 1) dX8_hangs_0 rfl 1 rfl rfl ?_
  refine j_iconst hJ (q := 2) dX8_hangs_1 rfl ki_0 ?_
  refine j_bipush hJ (q := 4) dX8_hangs_2 rfl kb_20 ?_
  refine j_sR hJ (q := 7) (rest := []) (As := [.int a, .int (zI 0), .int (zI 20)]) jl_X8_58 (c_X8_within Z a 0 20 (by omega) (by omega)) dX8_hangs_4 rfl (by decide) (Nat.le_of_ble_eq_true rfl) [] rfl rfl (fun rv hp => ?_)
  obtain rfl := hp
  show J 7 [(0, .ref h), (1, .int a)] [.int (bI (decide (0 ≤ a.toInt ∧ a.toInt ≤ 20)))] [xO h u ab be (Rf 0) (Rf 1) (Rf 2), (u 0, .inr (4, [.ref (s 0), .ref (s 1), .ref (s 3), .ref (s 5), .ref (s 7)])), cO (s 0) q (A 21) (A 5) (A 6) (A 7) (A 8) (A 0), (q 0, ia Z 12 (ni K)), (q 1, ia Z 12 (ni P)), (q 2, ia Z 6 (ni kd)), (q 3, ia Z 6 (ni am)), (q 4, ia Z 6 (ni st)), (q 5, ia Z 6 (ni rg)), (s 1, .inr (1, [.int (nI (A 4)), .ref (s 2)])), (s 2, ia Z 128 (ni Ro)), (s 3, .inr (3, [.int (nI (A 1)), .int (nI 4), .int (nI 5), .ref (s 4)])), (s 4, ia Z 30 (ni Sn)), (s 5, .inr (3, [.int (nI (A 2)), .int (nI 5), .int (nI 6), .ref (s 6)])), (s 6, ia Z 30 (ni Nt)), (s 7, .inr (3, [.int (nI (A 3)), .int (nI 5), .int (nI 6), .ref (s 8)])), (s 8, ia Z 30 (ni Mk))] 0 0
  refine jp_if_ne hJ (q := 10) (tgt := 15) dX8_hangs_7 (by decide) rfl (fun c1 => ?_) (fun c1 => ?_)
  · skip
    have hn_a := nt_cast (x := a) (by omega)
    refine j_eql (lvs' := [(0, .ref h), (1, .int (nI (nt a)))]) (by rw [← nt_eq (x := a) (by omega)]) ?_
    refine j_aload_n hJ (q := 16) dX8_hangs_15 rfl 0 rfl rfl ?_
    refine j_get hJ (q := 19) jf_X8_10 dX8_hangs_16 0 rfl rfl rfl ?_
    refine j_get hJ (q := 22) jf_X8_66 dX8_hangs_19 1 rfl rfl rfl ?_
    refine j_get hJ (q := 25) jf_X8_147 dX8_hangs_22 2 rfl rfl rfl ?_
    refine j_istore_n hJ (q := 26) (lvs' := [(2, .int (nI (A 7))), (0, .ref h), (1, .int (nI (nt a)))]) dX8_hangs_25 rfl (by decide) rfl rfl ?_
    refine j_iload_n hJ (q := 27) dX8_hangs_26 rfl 0 rfl rfl ?_
    refine j_iload_n hJ (q := 28) dX8_hangs_27 rfl 2 rfl rfl ?_
    refine jn_icmp_ne hJ (q := 31) (tgt := 36) dX8_hangs_28 (by decide) rfl (by omega) (by omega) (fun c2 => ?_) (fun c2 => ?_)
    · skip
      refine j_aload_n hJ (q := 37) dX8_hangs_36 rfl 1 rfl rfl ?_
      refine j_get hJ (q := 40) jf_X8_10 dX8_hangs_37 0 rfl rfl rfl ?_
      refine j_get hJ (q := 43) jf_X8_91 dX8_hangs_40 1 rfl rfl rfl ?_
      refine j_aload_n hJ (q := 44) dX8_hangs_43 rfl 1 rfl rfl ?_
      refine j_get hJ (q := 47) jf_X8_10 dX8_hangs_44 0 rfl rfl rfl ?_
      refine j_get hJ (q := 50) jf_X8_66 dX8_hangs_47 1 rfl rfl rfl ?_
      refine j_vW hJ (q := 53) (rest := []) (As := [.ref (s 0)]) (wr := [xO h u ab be (Rf 0) (Rf 1) (Rf 2), (u 0, .inr (4, [.ref (s 0), .ref (s 1), .ref (s 3), .ref (s 5), .ref (s 7)])), (s 3, .inr (3, [.int (nI (A 1)), .int (nI 4), .int (nI 5), .ref (s 4)])), (s 4, ia Z 30 (ni Sn)), (s 5, .inr (3, [.int (nI (A 2)), .int (nI 5), .int (nI 6), .ref (s 6)])), (s 6, ia Z 30 (ni Nt)), (s 7, .inr (3, [.int (nI (A 3)), .int (nI 5), .int (nI 6), .ref (s 8)])), (s 8, ia Z 30 (ni Mk))]) jl_X8_126 (c_X3_keep Z (s 0) q A K P kd am st rg (s 1) (s 2) Ro hR hP g4 w6) 9 rfl rfl dX8_hangs_50 rfl (by decide) (Nat.le_of_ble_eq_true rfl) [9, 10, 2, 3, 4, 5, 6, 7, 8] [0, 1, 11, 12, 13, 14, 15, 16] rfl rfl rfl rfl (by decide) rfl (fun rv wv hp => ?_)
      obtain ⟨Rz3, rfl, rfl, f4⟩ := hp
      refine j_world hJ (ws' := [xO h u ab be (Rf 0) (Rf 1) (Rf 2), (u 0, .inr (4, [.ref (s 0), .ref (s 1), .ref (s 3), .ref (s 5), .ref (s 7)])), cO (s 0) q (A 21) (A 5) (A 6) (A 7) (A 8) (A 0), (q 0, ia Z 12 (ni K)), (q 1, ia Z 12 (ni P)), (q 2, ia Z 6 (ni kd)), (q 3, ia Z 6 (ni am)), (q 4, ia Z 6 (ni st)), (q 5, ia Z 6 (ni rg)), ((s 1), .inr (1, [.int (nI ((saved A) 4)), .ref (s 2)])), ((s 2), ia Z 128 (ni Rz3)), (s 3, .inr (3, [.int (nI (A 1)), .int (nI 4), .int (nI 5), .ref (s 4)])), (s 4, ia Z 30 (ni Sn)), (s 5, .inr (3, [.int (nI (A 2)), .int (nI 5), .int (nI 6), .ref (s 6)])), (s 6, ia Z 30 (ni Nt)), (s 7, .inr (3, [.int (nI (A 3)), .int (nI 5), .int (nI 6), .ref (s 8)])), (s 8, ia Z 30 (ni Mk))]) [0, 1, 10, 11, 12, 13, 14, 15, 16, 8, 9, 2, 3, 4, 5, 6, 7] rfl rfl ?_
      show J 53 [(2, .int (nI (A 7))), (0, .ref h), (1, .int (nI (nt a)))] [] [xO h u ab be (Rf 0) (Rf 1) (Rf 2), (u 0, .inr (4, [.ref (s 0), .ref (s 1), .ref (s 3), .ref (s 5), .ref (s 7)])), cO (s 0) q (A 21) (A 5) (A 6) (A 7) (A 8) (A 0), (q 0, ia Z 12 (ni K)), (q 1, ia Z 12 (ni P)), (q 2, ia Z 6 (ni kd)), (q 3, ia Z 6 (ni am)), (q 4, ia Z 6 (ni st)), (q 5, ia Z 6 (ni rg)), ((s 1), .inr (1, [.int (nI ((saved A) 4)), .ref (s 2)])), ((s 2), ia Z 128 (ni Rz3)), (s 3, .inr (3, [.int (nI (A 1)), .int (nI 4), .int (nI 5), .ref (s 4)])), (s 4, ia Z 30 (ni Sn)), (s 5, .inr (3, [.int (nI (A 2)), .int (nI 5), .int (nI 6), .ref (s 6)])), (s 6, ia Z 30 (ni Nt)), (s 7, .inr (3, [.int (nI (A 3)), .int (nI 5), .int (nI 6), .ref (s 8)])), (s 8, ia Z 30 (ni Mk))] 0 0
      have hP2 := f4
      refine j_aload_n hJ (q := 54) dX8_hangs_53 rfl 1 rfl rfl ?_
      refine j_get hJ (q := 57) jf_X8_10 dX8_hangs_54 0 rfl rfl rfl ?_
      refine j_get hJ (q := 60) jf_X8_66 dX8_hangs_57 1 rfl rfl rfl ?_
      refine j_iload_n hJ (q := 61) dX8_hangs_60 rfl 2 rfl rfl ?_
      refine j_put hJ (q := 64) (ws' := [xO h u ab be (Rf 0) (Rf 1) (Rf 2), (u 0, .inr (4, [.ref (s 0), .ref (s 1), .ref (s 3), .ref (s 5), .ref (s 7)])), cO (s 0) q (A 21) (A 5) (A 6) (nt a) (A 8) (A 0), (q 0, ia Z 12 (ni K)), (q 1, ia Z 12 (ni P)), (q 2, ia Z 6 (ni kd)), (q 3, ia Z 6 (ni am)), (q 4, ia Z 6 (ni st)), (q 5, ia Z 6 (ni rg)), ((s 1), .inr (1, [.int (nI ((saved A) 4)), .ref (s 2)])), ((s 2), ia Z 128 (ni Rz3)), (s 3, .inr (3, [.int (nI (A 1)), .int (nI 4), .int (nI 5), .ref (s 4)])), (s 4, ia Z 30 (ni Sn)), (s 5, .inr (3, [.int (nI (A 2)), .int (nI 5), .int (nI 6), .ref (s 6)])), (s 6, ia Z 30 (ni Nt)), (s 7, .inr (3, [.int (nI (A 3)), .int (nI 5), .int (nI 6), .ref (s 8)])), (s 8, ia Z 30 (ni Mk))]) jp_X8_147 dX8_hangs_61 2 rfl rfl rfl (Nat.le_of_ble_eq_true rfl) rfl rfl ?_
      refine j_iload_n hJ (q := 65) dX8_hangs_64 rfl 0 rfl rfl ?_
      have hP0 : rgI 0 20 a := by simp only [rgI, isS, isR, pNote, pMark]; omega
      have hQ0 : ¬ (A 7 = nt a) := by omega
      have hAo : (a_hangs A a) = va_up (saved A) 7 (nt a) := by simp only [a_hangs, if_pos hP0, if_neg hQ0]
      have hRo : (r_hangs A Rf a) = Rf := by simp only [r_hangs, if_pos hP0, if_neg hQ0]
      have es21 : (va_up (saved A) 7 (nt a)) 21 = A 21 := (show saved A 21 = A 21 from svd_lo (by decide) (by decide))
      have es5 : (va_up (saved A) 7 (nt a)) 5 = A 5 := (show saved A 5 = A 5 from svd_lo (by decide) (by decide))
      have es6 : (va_up (saved A) 7 (nt a)) 6 = A 6 := (show saved A 6 = A 6 from svd_lo (by decide) (by decide))
      have es8 : (va_up (saved A) 7 (nt a)) 8 = A 8 := (show saved A 8 = A 8 from svd_lo (by decide) (by decide))
      have es0 : (va_up (saved A) 7 (nt a)) 0 = A 0 := (show saved A 0 = A 0 from svd_lo (by decide) (by decide))
      have es1 : (va_up (saved A) 7 (nt a)) 1 = A 1 := (show saved A 1 = A 1 from svd_lo (by decide) (by decide))
      have es2 : (va_up (saved A) 7 (nt a)) 2 = A 2 := (show saved A 2 = A 2 from svd_lo (by decide) (by decide))
      have es3 : (va_up (saved A) 7 (nt a)) 3 = A 3 := (show saved A 3 = A 3 from svd_lo (by decide) (by decide))
      have es7 : (va_up (saved A) 7 (nt a)) 7 = nt a := rfl
      have es4 : (va_up (saved A) 7 (nt a)) 4 = saved A 4 := rfl
      have e1 : ∀ j, j ≠ 4 → j ≠ 7 → j < 138 → (va_up (saved A) 7 (nt a)) j = A j := fun j h1 h2 h3 => by simp only [va_up]; rw [if_neg h2]; exact svd_lo h3 h1
      exact hE.1 _ _ _ _ _ _ _ rfl rfl dX8_hangs_65 (Nat.le_refl _) (Nat.le_refl _) (⟨K, P, kd, am, st, rg, Rz3, Sn, Nt, Mk, congrArg (fun z => some (Value.int z)) ((zI_nat _).symm.trans (congrArg zI (by simp only [z_hangs, if_pos hP0, if_neg hQ0]))), by rw [hAo, hRo] <;> first | rfl | (simp only [es21, es5, es6, es8, es0, es1, es2, es3, es7, es4]), by rw [hAo]; exact ⟨rR_of hR (fun j hj => e1 j (by omega) (by omega) (by omega)) w6 w2, rX_p hX (rP_of hP2 (fun j hj => by simp only [va_up]; rw [if_neg (by omega)])) (fun j hj => e1 j (by omega) (by omega) (by omega)) ⟨g1, g2, g3⟩⟩⟩)
    · skip
      refine j_aload_n hJ (q := 32) dX8_hangs_31 rfl 1 rfl rfl ?_
      refine j_vW hJ (q := 35) (rest := []) (As := []) (wr := [(u 0, .inr (4, [.ref (s 0), .ref (s 1), .ref (s 3), .ref (s 5), .ref (s 7)])), cO (s 0) q (A 21) (A 5) (A 6) (A 7) (A 8) (A 0), (q 0, ia Z 12 (ni K)), (q 1, ia Z 12 (ni P)), (q 2, ia Z 6 (ni kd)), (q 3, ia Z 6 (ni am)), (q 4, ia Z 6 (ni st)), (q 5, ia Z 6 (ni rg)), (s 1, .inr (1, [.int (nI (A 4)), .ref (s 2)])), (s 2, ia Z 128 (ni Ro)), (s 3, .inr (3, [.int (nI (A 1)), .int (nI 4), .int (nI 5), .ref (s 4)])), (s 4, ia Z 30 (ni Sn)), (s 5, .inr (3, [.int (nI (A 2)), .int (nI 5), .int (nI 6), .ref (s 6)])), (s 6, ia Z 30 (ni Nt)), (s 7, .inr (3, [.int (nI (A 3)), .int (nI 5), .int (nI 6), .ref (s 8)])), (s 8, ia Z 30 (ni Mk))]) jl_X8_104 (c_X8_no Z h u ab be Rf ) 0 rfl rfl dX8_hangs_32 rfl (by decide) (Nat.le_of_ble_eq_true rfl) [0] [1, 2, 3, 4, 5, 6, 7, 8, 9, 10, 11, 12, 13, 14, 15, 16] rfl rfl rfl rfl (by decide) rfl (fun rv wv hp => ?_)
      obtain ⟨rfl, rfl⟩ := hp
      refine j_world hJ (ws' := [xO h u ab be ((bmp Rf 1) 0) ((bmp Rf 1) 1) ((bmp Rf 1) 2), (u 0, .inr (4, [.ref (s 0), .ref (s 1), .ref (s 3), .ref (s 5), .ref (s 7)])), cO (s 0) q (A 21) (A 5) (A 6) (A 7) (A 8) (A 0), (q 0, ia Z 12 (ni K)), (q 1, ia Z 12 (ni P)), (q 2, ia Z 6 (ni kd)), (q 3, ia Z 6 (ni am)), (q 4, ia Z 6 (ni st)), (q 5, ia Z 6 (ni rg)), (s 1, .inr (1, [.int (nI (A 4)), .ref (s 2)])), (s 2, ia Z 128 (ni Ro)), (s 3, .inr (3, [.int (nI (A 1)), .int (nI 4), .int (nI 5), .ref (s 4)])), (s 4, ia Z 30 (ni Sn)), (s 5, .inr (3, [.int (nI (A 2)), .int (nI 5), .int (nI 6), .ref (s 6)])), (s 6, ia Z 30 (ni Nt)), (s 7, .inr (3, [.int (nI (A 3)), .int (nI 5), .int (nI 6), .ref (s 8)])), (s 8, ia Z 30 (ni Mk))]) [16, 0, 1, 2, 3, 4, 5, 6, 7, 8, 9, 10, 11, 12, 13, 14, 15] rfl rfl ?_
      show J 35 [(2, .int (nI (A 7))), (0, .ref h), (1, .int (nI (nt a)))] [.int (zI (-3))] [xO h u ab be ((bmp Rf 1) 0) ((bmp Rf 1) 1) ((bmp Rf 1) 2), (u 0, .inr (4, [.ref (s 0), .ref (s 1), .ref (s 3), .ref (s 5), .ref (s 7)])), cO (s 0) q (A 21) (A 5) (A 6) (A 7) (A 8) (A 0), (q 0, ia Z 12 (ni K)), (q 1, ia Z 12 (ni P)), (q 2, ia Z 6 (ni kd)), (q 3, ia Z 6 (ni am)), (q 4, ia Z 6 (ni st)), (q 5, ia Z 6 (ni rg)), (s 1, .inr (1, [.int (nI (A 4)), .ref (s 2)])), (s 2, ia Z 128 (ni Ro)), (s 3, .inr (3, [.int (nI (A 1)), .int (nI 4), .int (nI 5), .ref (s 4)])), (s 4, ia Z 30 (ni Sn)), (s 5, .inr (3, [.int (nI (A 2)), .int (nI 5), .int (nI 6), .ref (s 6)])), (s 6, ia Z 30 (ni Nt)), (s 7, .inr (3, [.int (nI (A 3)), .int (nI 5), .int (nI 6), .ref (s 8)])), (s 8, ia Z 30 (ni Mk))] 0 0
      have hP0 : rgI 0 20 a := by simp only [rgI, isS, isR, pNote, pMark]; omega
      have hQ0 : A 7 = nt a := by omega
      have hAo : (a_hangs A a) = A := by simp only [a_hangs, if_pos hP0, if_pos hQ0]
      have hRo : (r_hangs A Rf a) = bmp Rf 1 := by simp only [r_hangs, if_pos hP0, if_pos hQ0]
      exact hE.1 _ _ _ _ _ _ _ rfl rfl dX8_hangs_35 (Nat.le_refl _) (Nat.le_refl _) (⟨K, P, kd, am, st, rg, Ro, Sn, Nt, Mk, congrArg (fun z => some (Value.int (zI z))) (by simp only [z_hangs, if_pos hP0, if_pos hQ0]), by rw [hAo, hRo] <;> first | rfl | (skip), by rw [hAo]; exact hA⟩)
  · skip
    refine j_aload_n hJ (q := 11) dX8_hangs_10 rfl 0 rfl rfl ?_
    refine j_vW hJ (q := 14) (rest := []) (As := []) (wr := [(u 0, .inr (4, [.ref (s 0), .ref (s 1), .ref (s 3), .ref (s 5), .ref (s 7)])), cO (s 0) q (A 21) (A 5) (A 6) (A 7) (A 8) (A 0), (q 0, ia Z 12 (ni K)), (q 1, ia Z 12 (ni P)), (q 2, ia Z 6 (ni kd)), (q 3, ia Z 6 (ni am)), (q 4, ia Z 6 (ni st)), (q 5, ia Z 6 (ni rg)), (s 1, .inr (1, [.int (nI (A 4)), .ref (s 2)])), (s 2, ia Z 128 (ni Ro)), (s 3, .inr (3, [.int (nI (A 1)), .int (nI 4), .int (nI 5), .ref (s 4)])), (s 4, ia Z 30 (ni Sn)), (s 5, .inr (3, [.int (nI (A 2)), .int (nI 5), .int (nI 6), .ref (s 6)])), (s 6, ia Z 30 (ni Nt)), (s 7, .inr (3, [.int (nI (A 3)), .int (nI 5), .int (nI 6), .ref (s 8)])), (s 8, ia Z 30 (ni Mk))]) jl_X8_62 (c_X8_bad Z h u ab be Rf ) 0 rfl rfl dX8_hangs_11 rfl (by decide) (Nat.le_of_ble_eq_true rfl) [0] [1, 2, 3, 4, 5, 6, 7, 8, 9, 10, 11, 12, 13, 14, 15, 16] rfl rfl rfl rfl (by decide) rfl (fun rv wv hp => ?_)
    obtain ⟨rfl, rfl⟩ := hp
    refine j_world hJ (ws' := [xO h u ab be ((bmp Rf 0) 0) ((bmp Rf 0) 1) ((bmp Rf 0) 2), (u 0, .inr (4, [.ref (s 0), .ref (s 1), .ref (s 3), .ref (s 5), .ref (s 7)])), cO (s 0) q (A 21) (A 5) (A 6) (A 7) (A 8) (A 0), (q 0, ia Z 12 (ni K)), (q 1, ia Z 12 (ni P)), (q 2, ia Z 6 (ni kd)), (q 3, ia Z 6 (ni am)), (q 4, ia Z 6 (ni st)), (q 5, ia Z 6 (ni rg)), (s 1, .inr (1, [.int (nI (A 4)), .ref (s 2)])), (s 2, ia Z 128 (ni Ro)), (s 3, .inr (3, [.int (nI (A 1)), .int (nI 4), .int (nI 5), .ref (s 4)])), (s 4, ia Z 30 (ni Sn)), (s 5, .inr (3, [.int (nI (A 2)), .int (nI 5), .int (nI 6), .ref (s 6)])), (s 6, ia Z 30 (ni Nt)), (s 7, .inr (3, [.int (nI (A 3)), .int (nI 5), .int (nI 6), .ref (s 8)])), (s 8, ia Z 30 (ni Mk))]) [16, 0, 1, 2, 3, 4, 5, 6, 7, 8, 9, 10, 11, 12, 13, 14, 15] rfl rfl ?_
    show J 14 [(0, .ref h), (1, .int a)] [.int (zI (-2))] [xO h u ab be ((bmp Rf 0) 0) ((bmp Rf 0) 1) ((bmp Rf 0) 2), (u 0, .inr (4, [.ref (s 0), .ref (s 1), .ref (s 3), .ref (s 5), .ref (s 7)])), cO (s 0) q (A 21) (A 5) (A 6) (A 7) (A 8) (A 0), (q 0, ia Z 12 (ni K)), (q 1, ia Z 12 (ni P)), (q 2, ia Z 6 (ni kd)), (q 3, ia Z 6 (ni am)), (q 4, ia Z 6 (ni st)), (q 5, ia Z 6 (ni rg)), (s 1, .inr (1, [.int (nI (A 4)), .ref (s 2)])), (s 2, ia Z 128 (ni Ro)), (s 3, .inr (3, [.int (nI (A 1)), .int (nI 4), .int (nI 5), .ref (s 4)])), (s 4, ia Z 30 (ni Sn)), (s 5, .inr (3, [.int (nI (A 2)), .int (nI 5), .int (nI 6), .ref (s 6)])), (s 6, ia Z 30 (ni Nt)), (s 7, .inr (3, [.int (nI (A 3)), .int (nI 5), .int (nI 6), .ref (s 8)])), (s 8, ia Z 30 (ni Mk))] 0 0
    have hP0 : ¬ (rgI 0 20 a) := by simp only [rgI, isS, isR, pNote, pMark]; omega
    have hAo : (a_hangs A a) = A := by simp only [a_hangs, if_neg hP0]
    have hRo : (r_hangs A Rf a) = bmp Rf 0 := by simp only [r_hangs, if_neg hP0]
    exact hE.1 _ _ _ _ _ _ _ rfl rfl dX8_hangs_14 (Nat.le_refl _) (Nat.le_refl _) (⟨K, P, kd, am, st, rg, Ro, Sn, Nt, Mk, congrArg (fun z => some (Value.int (zI z))) (by simp only [z_hangs, if_neg hP0]), by rw [hAo, hRo] <;> first | rfl | (skip), by rw [hAo]; exact hA⟩)

set_option maxHeartbeats 4000000 in
set_option maxRecDepth 100000 in
theorem c_X8_changes (Z : jZ) (h : Nat) (u : Nat → Nat) (ab : Int) (be : Int) (Rf : Nat → Nat) (s : Nat → Nat) (q : Nat → Nat) (A : Nat → Nat) (K : Nat → Nat) (P : Nat → Nat) (kd : Nat → Nat) (am : Nat → Nat) (st : Nat → Nat) (rg : Nat → Nat) (Ro : Nat → Nat) (Sn : Nat → Nat) (Nt : Nat → Nat) (Mk : Nat → Nat) (a : Int32) (b : Int32) (hg : wg A) (hA : rA A K P kd am st rg Ro Sn Nt Mk) : CT Z yX8_changes cX8_changes 4 ((some FieldType.int)) 3 0 0 [.ref h, .int a, .int b] [xO h u ab be (Rf 0) (Rf 1) (Rf 2), (u 0, .inr (4, [.ref (s 0), .ref (s 1), .ref (s 3), .ref (s 5), .ref (s 7)])), cO (s 0) q (A 21) (A 5) (A 6) (A 7) (A 8) (A 0), (q 0, ia Z 12 (ni K)), (q 1, ia Z 12 (ni P)), (q 2, ia Z 6 (ni kd)), (q 3, ia Z 6 (ni am)), (q 4, ia Z 6 (ni st)), (q 5, ia Z 6 (ni rg)), (s 1, .inr (1, [.int (nI (A 4)), .ref (s 2)])), (s 2, ia Z 128 (ni Ro)), (s 3, .inr (3, [.int (nI (A 1)), .int (nI 4), .int (nI 5), .ref (s 4)])), (s 4, ia Z 30 (ni Sn)), (s 5, .inr (3, [.int (nI (A 2)), .int (nI 5), .int (nI 6), .ref (s 6)])), (s 6, ia Z 30 (ni Nt)), (s 7, .inr (3, [.int (nI (A 3)), .int (nI 5), .int (nI 6), .ref (s 8)])), (s 8, ia Z 30 (ni Mk))] (fun rr ww => ∃ Kz : Nat → Nat, ∃ Pz : Nat → Nat, ∃ kdz : Nat → Nat, ∃ amz : Nat → Nat, ∃ stz : Nat → Nat, ∃ rgz : Nat → Nat, ∃ Roz : Nat → Nat, ∃ Snz : Nat → Nat, ∃ Ntz : Nat → Nat, ∃ Mkz : Nat → Nat, rr = some (.int (zI (z_changes A a b))) ∧ ww = [xO h u ab be ((r_changes A Rf a b) 0) ((r_changes A Rf a b) 1) ((r_changes A Rf a b) 2), (u 0, .inr (4, [.ref (s 0), .ref (s 1), .ref (s 3), .ref (s 5), .ref (s 7)])), cO (s 0) q ((a_changes A a b) 21) ((a_changes A a b) 5) ((a_changes A a b) 6) ((a_changes A a b) 7) ((a_changes A a b) 8) ((a_changes A a b) 0), (q 0, ia Z 12 (ni Kz)), (q 1, ia Z 12 (ni Pz)), (q 2, ia Z 6 (ni kdz)), (q 3, ia Z 6 (ni amz)), (q 4, ia Z 6 (ni stz)), (q 5, ia Z 6 (ni rgz)), (s 1, .inr (1, [.int (nI ((a_changes A a b) 4)), .ref (s 2)])), (s 2, ia Z 128 (ni Roz)), (s 3, .inr (3, [.int (nI ((a_changes A a b) 1)), .int (nI 4), .int (nI 5), .ref (s 4)])), (s 4, ia Z 30 (ni Snz)), (s 5, .inr (3, [.int (nI ((a_changes A a b) 2)), .int (nI 5), .int (nI 6), .ref (s 6)])), (s 6, ia Z 30 (ni Ntz)), (s 7, .inr (3, [.int (nI ((a_changes A a b) 3)), .int (nI 5), .int (nI 6), .ref (s 8)])), (s 8, ia Z 30 (ni Mkz))] ∧ (rA (a_changes A a b) Kz Pz kdz amz stz rgz Roz Snz Ntz Mkz)) := by
  refine CT.of RX8 false rfl (fun h => by cases h) (by decide +kernel) (Nat.le_of_ble_eq_true rfl) ?_
  intro J hJ hE
  show J 0 [(0, .ref h), (1, .int a), (2, .int b)] [] [xO h u ab be (Rf 0) (Rf 1) (Rf 2), (u 0, .inr (4, [.ref (s 0), .ref (s 1), .ref (s 3), .ref (s 5), .ref (s 7)])), cO (s 0) q (A 21) (A 5) (A 6) (A 7) (A 8) (A 0), (q 0, ia Z 12 (ni K)), (q 1, ia Z 12 (ni P)), (q 2, ia Z 6 (ni kd)), (q 3, ia Z 6 (ni am)), (q 4, ia Z 6 (ni st)), (q 5, ia Z 6 (ni rg)), (s 1, .inr (1, [.int (nI (A 4)), .ref (s 2)])), (s 2, ia Z 128 (ni Ro)), (s 3, .inr (3, [.int (nI (A 1)), .int (nI 4), .int (nI 5), .ref (s 4)])), (s 4, ia Z 30 (ni Sn)), (s 5, .inr (3, [.int (nI (A 2)), .int (nI 5), .int (nI 6), .ref (s 6)])), (s 6, ia Z 30 (ni Nt)), (s 7, .inr (3, [.int (nI (A 3)), .int (nI 5), .int (nI 6), .ref (s 8)])), (s 8, ia Z 30 (ni Mk))] 0 0
  obtain ⟨hw, ⟨g1, g2, g3, g4, g8⟩, hrs, hrn, hrm, hpst⟩ := id hg
  obtain ⟨⟨w1, w2, w3, w4, w5, w6⟩, hb, wr, wh, wd⟩ := id hw
  obtain ⟨hR, hX⟩ := id hA
  obtain ⟨hP, hSn, hNt, hMk⟩ := id hX
  have hr_a := zI_rng a
  have hr_b := zI_rng b
  refine j_aload_n hJ (q := 1) dX8_changes_0 rfl 0 rfl rfl ?_
  refine j_iload_n hJ (q := 2) dX8_changes_1 rfl 1 rfl rfl ?_
  refine j_vR hJ (q := 5) (rest := []) (As := [.int a]) jl_X8_141 (c_X8_isRider Z h u ab be Rf s q A K P kd am st rg a (by omega)) 0 rfl rfl dX8_changes_2 rfl (by decide) (Nat.le_of_ble_eq_true rfl) [0, 1, 2, 3, 4, 5, 6, 7, 8] rfl rfl (fun rv hp => ?_)
  obtain rfl := hp
  show J 5 [(0, .ref h), (1, .int a), (2, .int b)] [.int (bI (decide (0 ≤ a.toInt ∧ a.toInt ≤ (A 0 : Int) - 1)))] [xO h u ab be (Rf 0) (Rf 1) (Rf 2), (u 0, .inr (4, [.ref (s 0), .ref (s 1), .ref (s 3), .ref (s 5), .ref (s 7)])), cO (s 0) q (A 21) (A 5) (A 6) (A 7) (A 8) (A 0), (q 0, ia Z 12 (ni K)), (q 1, ia Z 12 (ni P)), (q 2, ia Z 6 (ni kd)), (q 3, ia Z 6 (ni am)), (q 4, ia Z 6 (ni st)), (q 5, ia Z 6 (ni rg)), (s 1, .inr (1, [.int (nI (A 4)), .ref (s 2)])), (s 2, ia Z 128 (ni Ro)), (s 3, .inr (3, [.int (nI (A 1)), .int (nI 4), .int (nI 5), .ref (s 4)])), (s 4, ia Z 30 (ni Sn)), (s 5, .inr (3, [.int (nI (A 2)), .int (nI 5), .int (nI 6), .ref (s 6)])), (s 6, ia Z 30 (ni Nt)), (s 7, .inr (3, [.int (nI (A 3)), .int (nI 5), .int (nI 6), .ref (s 8)])), (s 8, ia Z 30 (ni Mk))] 0 0
  refine jp_if_eq hJ (q := 8) (tgt := 16) dX8_changes_5 (by decide) rfl (fun c1 => ?_) (fun c1 => ?_)
  · skip
    refine j_aload_n hJ (q := 17) dX8_changes_16 rfl 0 rfl rfl ?_
    refine j_vW hJ (q := 20) (rest := []) (As := []) (wr := [(u 0, .inr (4, [.ref (s 0), .ref (s 1), .ref (s 3), .ref (s 5), .ref (s 7)])), cO (s 0) q (A 21) (A 5) (A 6) (A 7) (A 8) (A 0), (q 0, ia Z 12 (ni K)), (q 1, ia Z 12 (ni P)), (q 2, ia Z 6 (ni kd)), (q 3, ia Z 6 (ni am)), (q 4, ia Z 6 (ni st)), (q 5, ia Z 6 (ni rg)), (s 1, .inr (1, [.int (nI (A 4)), .ref (s 2)])), (s 2, ia Z 128 (ni Ro)), (s 3, .inr (3, [.int (nI (A 1)), .int (nI 4), .int (nI 5), .ref (s 4)])), (s 4, ia Z 30 (ni Sn)), (s 5, .inr (3, [.int (nI (A 2)), .int (nI 5), .int (nI 6), .ref (s 6)])), (s 6, ia Z 30 (ni Nt)), (s 7, .inr (3, [.int (nI (A 3)), .int (nI 5), .int (nI 6), .ref (s 8)])), (s 8, ia Z 30 (ni Mk))]) jl_X8_62 (c_X8_bad Z h u ab be Rf ) 0 rfl rfl dX8_changes_17 rfl (by decide) (Nat.le_of_ble_eq_true rfl) [0] [1, 2, 3, 4, 5, 6, 7, 8, 9, 10, 11, 12, 13, 14, 15, 16] rfl rfl rfl rfl (by decide) rfl (fun rv wv hp => ?_)
    obtain ⟨rfl, rfl⟩ := hp
    refine j_world hJ (ws' := [xO h u ab be ((bmp Rf 0) 0) ((bmp Rf 0) 1) ((bmp Rf 0) 2), (u 0, .inr (4, [.ref (s 0), .ref (s 1), .ref (s 3), .ref (s 5), .ref (s 7)])), cO (s 0) q (A 21) (A 5) (A 6) (A 7) (A 8) (A 0), (q 0, ia Z 12 (ni K)), (q 1, ia Z 12 (ni P)), (q 2, ia Z 6 (ni kd)), (q 3, ia Z 6 (ni am)), (q 4, ia Z 6 (ni st)), (q 5, ia Z 6 (ni rg)), (s 1, .inr (1, [.int (nI (A 4)), .ref (s 2)])), (s 2, ia Z 128 (ni Ro)), (s 3, .inr (3, [.int (nI (A 1)), .int (nI 4), .int (nI 5), .ref (s 4)])), (s 4, ia Z 30 (ni Sn)), (s 5, .inr (3, [.int (nI (A 2)), .int (nI 5), .int (nI 6), .ref (s 6)])), (s 6, ia Z 30 (ni Nt)), (s 7, .inr (3, [.int (nI (A 3)), .int (nI 5), .int (nI 6), .ref (s 8)])), (s 8, ia Z 30 (ni Mk))]) [16, 0, 1, 2, 3, 4, 5, 6, 7, 8, 9, 10, 11, 12, 13, 14, 15] rfl rfl ?_
    show J 20 [(0, .ref h), (1, .int a), (2, .int b)] [.int (zI (-2))] [xO h u ab be ((bmp Rf 0) 0) ((bmp Rf 0) 1) ((bmp Rf 0) 2), (u 0, .inr (4, [.ref (s 0), .ref (s 1), .ref (s 3), .ref (s 5), .ref (s 7)])), cO (s 0) q (A 21) (A 5) (A 6) (A 7) (A 8) (A 0), (q 0, ia Z 12 (ni K)), (q 1, ia Z 12 (ni P)), (q 2, ia Z 6 (ni kd)), (q 3, ia Z 6 (ni am)), (q 4, ia Z 6 (ni st)), (q 5, ia Z 6 (ni rg)), (s 1, .inr (1, [.int (nI (A 4)), .ref (s 2)])), (s 2, ia Z 128 (ni Ro)), (s 3, .inr (3, [.int (nI (A 1)), .int (nI 4), .int (nI 5), .ref (s 4)])), (s 4, ia Z 30 (ni Sn)), (s 5, .inr (3, [.int (nI (A 2)), .int (nI 5), .int (nI 6), .ref (s 6)])), (s 6, ia Z 30 (ni Nt)), (s 7, .inr (3, [.int (nI (A 3)), .int (nI 5), .int (nI 6), .ref (s 8)])), (s 8, ia Z 30 (ni Mk))] 0 0
    have hP0 : ¬ (isR A a ∧ isS A b) := by simp only [rgI, isS, isR, pNote, pMark]; omega
    have hAo : (a_changes A a b) = A := by simp only [a_changes, if_neg hP0]
    have hRo : (r_changes A Rf a b) = bmp Rf 0 := by simp only [r_changes, if_neg hP0]
    exact hE.1 _ _ _ _ _ _ _ rfl rfl dX8_changes_20 (Nat.le_refl _) (Nat.le_refl _) (⟨K, P, kd, am, st, rg, Ro, Sn, Nt, Mk, congrArg (fun z => some (Value.int (zI z))) (by simp only [z_changes, if_neg hP0]), by rw [hAo, hRo] <;> first | rfl | (skip), by rw [hAo]; exact hA⟩)
  · skip
    refine j_aload_n hJ (q := 9) dX8_changes_8 rfl 0 rfl rfl ?_
    refine j_iload_n hJ (q := 10) dX8_changes_9 rfl 2 rfl rfl ?_
    refine j_vR hJ (q := 13) (rest := []) (As := [.int b]) jl_X8_80 (c_X8_isSeat Z h u ab be Rf s q A K P kd am st rg b (by omega)) 0 rfl rfl dX8_changes_10 rfl (by decide) (Nat.le_of_ble_eq_true rfl) [0, 1, 2, 3, 4, 5, 6, 7, 8] rfl rfl (fun rv hp => ?_)
    obtain rfl := hp
    show J 13 [(0, .ref h), (1, .int a), (2, .int b)] [.int (bI (decide (0 ≤ b.toInt ∧ b.toInt ≤ (A 21 : Int) - 1)))] [xO h u ab be (Rf 0) (Rf 1) (Rf 2), (u 0, .inr (4, [.ref (s 0), .ref (s 1), .ref (s 3), .ref (s 5), .ref (s 7)])), cO (s 0) q (A 21) (A 5) (A 6) (A 7) (A 8) (A 0), (q 0, ia Z 12 (ni K)), (q 1, ia Z 12 (ni P)), (q 2, ia Z 6 (ni kd)), (q 3, ia Z 6 (ni am)), (q 4, ia Z 6 (ni st)), (q 5, ia Z 6 (ni rg)), (s 1, .inr (1, [.int (nI (A 4)), .ref (s 2)])), (s 2, ia Z 128 (ni Ro)), (s 3, .inr (3, [.int (nI (A 1)), .int (nI 4), .int (nI 5), .ref (s 4)])), (s 4, ia Z 30 (ni Sn)), (s 5, .inr (3, [.int (nI (A 2)), .int (nI 5), .int (nI 6), .ref (s 6)])), (s 6, ia Z 30 (ni Nt)), (s 7, .inr (3, [.int (nI (A 3)), .int (nI 5), .int (nI 6), .ref (s 8)])), (s 8, ia Z 30 (ni Mk))] 0 0
    refine jp_if_ne hJ (q := 16) (tgt := 21) dX8_changes_13 (by decide) rfl (fun c2 => ?_) (fun c2 => ?_)
    · skip
      have hn_a := nt_cast (x := a) (by omega)
      refine j_eql (lvs' := [(0, .ref h), (1, .int (nI (nt a))), (2, .int b)]) (by rw [← nt_eq (x := a) (by omega)]) ?_
      have hn_b := nt_cast (x := b) (by omega)
      refine j_eql (lvs' := [(0, .ref h), (1, .int (nI (nt a))), (2, .int (nI (nt b)))]) (by rw [← nt_eq (x := b) (by omega)]) ?_
      refine j_aload_n hJ (q := 22) dX8_changes_21 rfl 0 rfl rfl ?_
      refine j_get hJ (q := 25) jf_X8_10 dX8_changes_22 0 rfl rfl rfl ?_
      refine j_get hJ (q := 28) jf_X8_66 dX8_changes_25 1 rfl rfl rfl ?_
      refine j_iload_n hJ (q := 29) dX8_changes_28 rfl 2 rfl rfl ?_
      refine j_vR hJ (q := 32) (rest := []) (As := [.int (nI (nt b))]) jl_X8_100 (c_X4_whoIsOn Z (s 0) q A K P kd am st rg (nt b) hw hR (by omega)) 2 rfl rfl dX8_changes_29 rfl (by decide) (Nat.le_of_ble_eq_true rfl) [2, 3, 4, 5, 6, 7, 8] rfl rfl (fun rv hp => ?_)
      obtain rfl := hp
      show J 32 [(0, .ref h), (1, .int (nI (nt a))), (2, .int (nI (nt b)))] [.int (oI (who A (nt b)))] [xO h u ab be (Rf 0) (Rf 1) (Rf 2), (u 0, .inr (4, [.ref (s 0), .ref (s 1), .ref (s 3), .ref (s 5), .ref (s 7)])), cO (s 0) q (A 21) (A 5) (A 6) (A 7) (A 8) (A 0), (q 0, ia Z 12 (ni K)), (q 1, ia Z 12 (ni P)), (q 2, ia Z 6 (ni kd)), (q 3, ia Z 6 (ni am)), (q 4, ia Z 6 (ni st)), (q 5, ia Z 6 (ni rg)), (s 1, .inr (1, [.int (nI (A 4)), .ref (s 2)])), (s 2, ia Z 128 (ni Ro)), (s 3, .inr (3, [.int (nI (A 1)), .int (nI 4), .int (nI 5), .ref (s 4)])), (s 4, ia Z 30 (ni Sn)), (s 5, .inr (3, [.int (nI (A 2)), .int (nI 5), .int (nI 6), .ref (s 6)])), (s 6, ia Z 30 (ni Nt)), (s 7, .inr (3, [.int (nI (A 3)), .int (nI 5), .int (nI 6), .ref (s 8)])), (s 8, ia Z 30 (ni Mk))] 0 0
      refine j_caseo (fun o3 => ?_) (fun i4 o3 => ?_)
      · skip
        refine j_iconst hJ (q := 33) dX8_changes_32 rfl ki_m1 ?_
        refine jz_icmp_eq hJ (q := 36) (tgt := 41) dX8_changes_33 (by decide) rfl rfl rfl (by omega) (by omega) (fun c5 => ?_) (fun c5 => ?_)
        · skip
          refine j_aload_n hJ (q := 42) dX8_changes_41 rfl 0 rfl rfl ?_
          refine j_get hJ (q := 45) jf_X8_10 dX8_changes_42 0 rfl rfl rfl ?_
          refine j_get hJ (q := 48) jf_X8_66 dX8_changes_45 1 rfl rfl rfl ?_
          refine j_get hJ (q := 51) jf_X8_144 dX8_changes_48 2 rfl rfl rfl ?_
          refine j_iload_n hJ (q := 52) dX8_changes_51 rfl 1 rfl rfl ?_
          refine j_ialdN hJ (q := 53) (z := nI (st (nt a))) dX8_changes_52 7 rfl (by omega) (by decide) rfl rfl ?_
          refine j_top (congrArg nI (rR_s hR (i := nt a) (by omega))) ?_
          refine j_istore_n hJ (q := 54) (lvs' := [(3, .int (nI (A (15 + (nt a))))), (0, .ref h), (1, .int (nI (nt a))), (2, .int (nI (nt b)))]) dX8_changes_53 rfl (by decide) rfl rfl ?_
          refine j_aload_n hJ (q := 55) dX8_changes_54 rfl 1 rfl rfl ?_
          refine j_get hJ (q := 58) jf_X8_10 dX8_changes_55 0 rfl rfl rfl ?_
          refine j_get hJ (q := 61) jf_X8_91 dX8_changes_58 1 rfl rfl rfl ?_
          refine j_aload_n hJ (q := 62) dX8_changes_61 rfl 1 rfl rfl ?_
          refine j_get hJ (q := 65) jf_X8_10 dX8_changes_62 0 rfl rfl rfl ?_
          refine j_get hJ (q := 68) jf_X8_66 dX8_changes_65 1 rfl rfl rfl ?_
          refine j_vW hJ (q := 71) (rest := []) (As := [.ref (s 0)]) (wr := [xO h u ab be (Rf 0) (Rf 1) (Rf 2), (u 0, .inr (4, [.ref (s 0), .ref (s 1), .ref (s 3), .ref (s 5), .ref (s 7)])), (s 3, .inr (3, [.int (nI (A 1)), .int (nI 4), .int (nI 5), .ref (s 4)])), (s 4, ia Z 30 (ni Sn)), (s 5, .inr (3, [.int (nI (A 2)), .int (nI 5), .int (nI 6), .ref (s 6)])), (s 6, ia Z 30 (ni Nt)), (s 7, .inr (3, [.int (nI (A 3)), .int (nI 5), .int (nI 6), .ref (s 8)])), (s 8, ia Z 30 (ni Mk))]) jl_X8_126 (c_X3_keep Z (s 0) q A K P kd am st rg (s 1) (s 2) Ro hR hP g4 w6) 9 rfl rfl dX8_changes_68 rfl (by decide) (Nat.le_of_ble_eq_true rfl) [9, 10, 2, 3, 4, 5, 6, 7, 8] [0, 1, 11, 12, 13, 14, 15, 16] rfl rfl rfl rfl (by decide) rfl (fun rv wv hp => ?_)
          obtain ⟨Rz6, rfl, rfl, f7⟩ := hp
          refine j_world hJ (ws' := [xO h u ab be (Rf 0) (Rf 1) (Rf 2), (u 0, .inr (4, [.ref (s 0), .ref (s 1), .ref (s 3), .ref (s 5), .ref (s 7)])), cO (s 0) q (A 21) (A 5) (A 6) (A 7) (A 8) (A 0), (q 0, ia Z 12 (ni K)), (q 1, ia Z 12 (ni P)), (q 2, ia Z 6 (ni kd)), (q 3, ia Z 6 (ni am)), (q 4, ia Z 6 (ni st)), (q 5, ia Z 6 (ni rg)), ((s 1), .inr (1, [.int (nI ((saved A) 4)), .ref (s 2)])), ((s 2), ia Z 128 (ni Rz6)), (s 3, .inr (3, [.int (nI (A 1)), .int (nI 4), .int (nI 5), .ref (s 4)])), (s 4, ia Z 30 (ni Sn)), (s 5, .inr (3, [.int (nI (A 2)), .int (nI 5), .int (nI 6), .ref (s 6)])), (s 6, ia Z 30 (ni Nt)), (s 7, .inr (3, [.int (nI (A 3)), .int (nI 5), .int (nI 6), .ref (s 8)])), (s 8, ia Z 30 (ni Mk))]) [0, 1, 10, 11, 12, 13, 14, 15, 16, 8, 9, 2, 3, 4, 5, 6, 7] rfl rfl ?_
          show J 71 [(3, .int (nI (A (15 + (nt a))))), (0, .ref h), (1, .int (nI (nt a))), (2, .int (nI (nt b)))] [] [xO h u ab be (Rf 0) (Rf 1) (Rf 2), (u 0, .inr (4, [.ref (s 0), .ref (s 1), .ref (s 3), .ref (s 5), .ref (s 7)])), cO (s 0) q (A 21) (A 5) (A 6) (A 7) (A 8) (A 0), (q 0, ia Z 12 (ni K)), (q 1, ia Z 12 (ni P)), (q 2, ia Z 6 (ni kd)), (q 3, ia Z 6 (ni am)), (q 4, ia Z 6 (ni st)), (q 5, ia Z 6 (ni rg)), ((s 1), .inr (1, [.int (nI ((saved A) 4)), .ref (s 2)])), ((s 2), ia Z 128 (ni Rz6)), (s 3, .inr (3, [.int (nI (A 1)), .int (nI 4), .int (nI 5), .ref (s 4)])), (s 4, ia Z 30 (ni Sn)), (s 5, .inr (3, [.int (nI (A 2)), .int (nI 5), .int (nI 6), .ref (s 6)])), (s 6, ia Z 30 (ni Nt)), (s 7, .inr (3, [.int (nI (A 3)), .int (nI 5), .int (nI 6), .ref (s 8)])), (s 8, ia Z 30 (ni Mk))] 0 0
          have hP2 := f7
          refine j_aload_n hJ (q := 72) dX8_changes_71 rfl 1 rfl rfl ?_
          refine j_get hJ (q := 75) jf_X8_10 dX8_changes_72 0 rfl rfl rfl ?_
          refine j_get hJ (q := 78) jf_X8_66 dX8_changes_75 1 rfl rfl rfl ?_
          refine j_get hJ (q := 81) jf_X8_144 dX8_changes_78 2 rfl rfl rfl ?_
          refine j_iload_n hJ (q := 82) dX8_changes_81 rfl 2 rfl rfl ?_
          refine j_iload_n hJ (q := 83) dX8_changes_82 rfl 3 rfl rfl ?_
          refine j_iastN hJ (q := 84) (ws' := [xO h u ab be (Rf 0) (Rf 1) (Rf 2), (u 0, .inr (4, [.ref (s 0), .ref (s 1), .ref (s 3), .ref (s 5), .ref (s 7)])), cO (s 0) q (A 21) (A 5) (A 6) (A 7) (A 8) (A 0), (q 0, ia Z 12 (ni K)), (q 1, ia Z 12 (ni P)), (q 2, ia Z 6 (ni kd)), (q 3, ia Z 6 (ni am)), (q 4, ia Z 6 (ni (va_up st (nt a) (nt b)))), (q 5, ia Z 6 (ni rg)), ((s 1), .inr (1, [.int (nI ((saved A) 4)), .ref (s 2)])), ((s 2), ia Z 128 (ni Rz6)), (s 3, .inr (3, [.int (nI (A 1)), .int (nI 4), .int (nI 5), .ref (s 4)])), (s 4, ia Z 30 (ni Sn)), (s 5, .inr (3, [.int (nI (A 2)), .int (nI 5), .int (nI 6), .ref (s 6)])), (s 6, ia Z 30 (ni Nt)), (s 7, .inr (3, [.int (nI (A 3)), .int (nI 5), .int (nI 6), .ref (s 8)])), (s 8, ia Z 30 (ni Mk))]) dX8_changes_83 7 rfl (by omega) (by decide) (ni_up _ _ _) rfl rfl ?_
          refine j_iload_n hJ (q := 85) dX8_changes_84 rfl 0 rfl rfl ?_
          have hP0 : isR A a ∧ isS A b := by simp only [rgI, isS, isR, pNote, pMark]; omega
          have hQ0 : who A (nt b) = none := o3
          have hAo : (a_changes A a b) = va_up (saved A) (15 + nt a) (nt b) := by simp only [a_changes, if_pos hP0, if_pos hQ0]
          have hRo : (r_changes A Rf a b) = Rf := by simp only [r_changes, if_pos hP0, if_pos hQ0]
          have es21 : (va_up (saved A) (15 + nt a) (nt b)) 21 = A 21 := by simp only [va_up]; rw [if_neg (by omega)]; exact svd_lo (by decide) (by decide)
          have es5 : (va_up (saved A) (15 + nt a) (nt b)) 5 = A 5 := by simp only [va_up]; rw [if_neg (by omega)]; exact svd_lo (by decide) (by decide)
          have es6 : (va_up (saved A) (15 + nt a) (nt b)) 6 = A 6 := by simp only [va_up]; rw [if_neg (by omega)]; exact svd_lo (by decide) (by decide)
          have es7 : (va_up (saved A) (15 + nt a) (nt b)) 7 = A 7 := by simp only [va_up]; rw [if_neg (by omega)]; exact svd_lo (by decide) (by decide)
          have es8 : (va_up (saved A) (15 + nt a) (nt b)) 8 = A 8 := by simp only [va_up]; rw [if_neg (by omega)]; exact svd_lo (by decide) (by decide)
          have es0 : (va_up (saved A) (15 + nt a) (nt b)) 0 = A 0 := by simp only [va_up]; rw [if_neg (by omega)]; exact svd_lo (by decide) (by decide)
          have es1 : (va_up (saved A) (15 + nt a) (nt b)) 1 = A 1 := by simp only [va_up]; rw [if_neg (by omega)]; exact svd_lo (by decide) (by decide)
          have es2 : (va_up (saved A) (15 + nt a) (nt b)) 2 = A 2 := by simp only [va_up]; rw [if_neg (by omega)]; exact svd_lo (by decide) (by decide)
          have es3 : (va_up (saved A) (15 + nt a) (nt b)) 3 = A 3 := by simp only [va_up]; rw [if_neg (by omega)]; exact svd_lo (by decide) (by decide)
          have es4 : (va_up (saved A) (15 + nt a) (nt b)) 4 = saved A 4 := by simp only [va_up]; rw [if_neg (by omega)]
          have e1 : ∀ j, j ≠ 4 → ¬ (15 ≤ j ∧ j < 21) → j < 138 → (va_up (saved A) (15 + nt a) (nt b)) j = A j := fun j h1 h2 h3 => by simp only [va_up]; rw [if_neg (by omega)]; exact svd_lo h3 h1
          have hRs : rR (saved A) K P kd am st rg := rR_of hR (fun j hj => svd_lo (by omega) (by omega)) w6 w2
          have s0 : saved A 0 = A 0 := svd_lo (by decide) (by decide)
          have s21 : saved A 21 = A 21 := svd_lo (by decide) (by decide)
          exact hE.1 _ _ _ _ _ _ _ rfl rfl dX8_changes_85 (Nat.le_refl _) (Nat.le_refl _) (⟨K, P, kd, am, (va_up st (nt a) (nt b)), rg, Rz6, Sn, Nt, Mk, congrArg (fun z => some (Value.int z)) ((zI_nat _).symm.trans (congrArg zI (by simp only [z_changes, if_pos hP0, if_pos hQ0]))), by rw [hAo, hRo] <;> first | rfl | (simp only [es21, es5, es6, es7, es8, es0, es1, es2, es3, es4]), by rw [hAo]; exact ⟨rR_seat hRs (by omega) (by omega) (by omega), rX_p hX (rP_of hP2 (fun j hj => by simp only [va_up]; rw [if_neg (by omega)])) (fun j hj => e1 j (by omega) (by omega) (by omega)) ⟨g1, g2, g3⟩⟩⟩)
        · skip
          exfalso; omega
      · skip
        have hwi := who_some o3
        refine j_iconst hJ (q := 33) dX8_changes_32 rfl ki_m1 ?_
        refine jz_icmp_eq hJ (q := 36) (tgt := 41) dX8_changes_33 (by decide) rfl (zI_nat i4).symm rfl (by omega) (by omega) (fun c8 => ?_) (fun c8 => ?_)
        · skip
          exfalso; omega
        · skip
          refine j_aload_n hJ (q := 37) dX8_changes_36 rfl 0 rfl rfl ?_
          refine j_vW hJ (q := 40) (rest := []) (As := []) (wr := [(u 0, .inr (4, [.ref (s 0), .ref (s 1), .ref (s 3), .ref (s 5), .ref (s 7)])), cO (s 0) q (A 21) (A 5) (A 6) (A 7) (A 8) (A 0), (q 0, ia Z 12 (ni K)), (q 1, ia Z 12 (ni P)), (q 2, ia Z 6 (ni kd)), (q 3, ia Z 6 (ni am)), (q 4, ia Z 6 (ni st)), (q 5, ia Z 6 (ni rg)), (s 1, .inr (1, [.int (nI (A 4)), .ref (s 2)])), (s 2, ia Z 128 (ni Ro)), (s 3, .inr (3, [.int (nI (A 1)), .int (nI 4), .int (nI 5), .ref (s 4)])), (s 4, ia Z 30 (ni Sn)), (s 5, .inr (3, [.int (nI (A 2)), .int (nI 5), .int (nI 6), .ref (s 6)])), (s 6, ia Z 30 (ni Nt)), (s 7, .inr (3, [.int (nI (A 3)), .int (nI 5), .int (nI 6), .ref (s 8)])), (s 8, ia Z 30 (ni Mk))]) jl_X8_104 (c_X8_no Z h u ab be Rf ) 0 rfl rfl dX8_changes_37 rfl (by decide) (Nat.le_of_ble_eq_true rfl) [0] [1, 2, 3, 4, 5, 6, 7, 8, 9, 10, 11, 12, 13, 14, 15, 16] rfl rfl rfl rfl (by decide) rfl (fun rv wv hp => ?_)
          obtain ⟨rfl, rfl⟩ := hp
          refine j_world hJ (ws' := [xO h u ab be ((bmp Rf 1) 0) ((bmp Rf 1) 1) ((bmp Rf 1) 2), (u 0, .inr (4, [.ref (s 0), .ref (s 1), .ref (s 3), .ref (s 5), .ref (s 7)])), cO (s 0) q (A 21) (A 5) (A 6) (A 7) (A 8) (A 0), (q 0, ia Z 12 (ni K)), (q 1, ia Z 12 (ni P)), (q 2, ia Z 6 (ni kd)), (q 3, ia Z 6 (ni am)), (q 4, ia Z 6 (ni st)), (q 5, ia Z 6 (ni rg)), (s 1, .inr (1, [.int (nI (A 4)), .ref (s 2)])), (s 2, ia Z 128 (ni Ro)), (s 3, .inr (3, [.int (nI (A 1)), .int (nI 4), .int (nI 5), .ref (s 4)])), (s 4, ia Z 30 (ni Sn)), (s 5, .inr (3, [.int (nI (A 2)), .int (nI 5), .int (nI 6), .ref (s 6)])), (s 6, ia Z 30 (ni Nt)), (s 7, .inr (3, [.int (nI (A 3)), .int (nI 5), .int (nI 6), .ref (s 8)])), (s 8, ia Z 30 (ni Mk))]) [16, 0, 1, 2, 3, 4, 5, 6, 7, 8, 9, 10, 11, 12, 13, 14, 15] rfl rfl ?_
          show J 40 [(0, .ref h), (1, .int (nI (nt a))), (2, .int (nI (nt b)))] [.int (zI (-3))] [xO h u ab be ((bmp Rf 1) 0) ((bmp Rf 1) 1) ((bmp Rf 1) 2), (u 0, .inr (4, [.ref (s 0), .ref (s 1), .ref (s 3), .ref (s 5), .ref (s 7)])), cO (s 0) q (A 21) (A 5) (A 6) (A 7) (A 8) (A 0), (q 0, ia Z 12 (ni K)), (q 1, ia Z 12 (ni P)), (q 2, ia Z 6 (ni kd)), (q 3, ia Z 6 (ni am)), (q 4, ia Z 6 (ni st)), (q 5, ia Z 6 (ni rg)), (s 1, .inr (1, [.int (nI (A 4)), .ref (s 2)])), (s 2, ia Z 128 (ni Ro)), (s 3, .inr (3, [.int (nI (A 1)), .int (nI 4), .int (nI 5), .ref (s 4)])), (s 4, ia Z 30 (ni Sn)), (s 5, .inr (3, [.int (nI (A 2)), .int (nI 5), .int (nI 6), .ref (s 6)])), (s 6, ia Z 30 (ni Nt)), (s 7, .inr (3, [.int (nI (A 3)), .int (nI 5), .int (nI 6), .ref (s 8)])), (s 8, ia Z 30 (ni Mk))] 0 0
          have hP0 : isR A a ∧ isS A b := by simp only [rgI, isS, isR, pNote, pMark]; omega
          have hQ0 : ¬ (who A (nt b) = none) := by rw [o3]; exact fun z => by cases z
          have hAo : (a_changes A a b) = A := by simp only [a_changes, if_pos hP0, if_neg hQ0]
          have hRo : (r_changes A Rf a b) = bmp Rf 1 := by simp only [r_changes, if_pos hP0, if_neg hQ0]
          exact hE.1 _ _ _ _ _ _ _ rfl rfl dX8_changes_40 (Nat.le_refl _) (Nat.le_refl _) (⟨K, P, kd, am, st, rg, Ro, Sn, Nt, Mk, congrArg (fun z => some (Value.int (zI z))) (by simp only [z_changes, if_pos hP0, if_neg hQ0]), by rw [hAo, hRo] <;> first | rfl | (skip), by rw [hAo]; exact hA⟩)
    · skip
      refine j_aload_n hJ (q := 17) dX8_changes_16 rfl 0 rfl rfl ?_
      refine j_vW hJ (q := 20) (rest := []) (As := []) (wr := [(u 0, .inr (4, [.ref (s 0), .ref (s 1), .ref (s 3), .ref (s 5), .ref (s 7)])), cO (s 0) q (A 21) (A 5) (A 6) (A 7) (A 8) (A 0), (q 0, ia Z 12 (ni K)), (q 1, ia Z 12 (ni P)), (q 2, ia Z 6 (ni kd)), (q 3, ia Z 6 (ni am)), (q 4, ia Z 6 (ni st)), (q 5, ia Z 6 (ni rg)), (s 1, .inr (1, [.int (nI (A 4)), .ref (s 2)])), (s 2, ia Z 128 (ni Ro)), (s 3, .inr (3, [.int (nI (A 1)), .int (nI 4), .int (nI 5), .ref (s 4)])), (s 4, ia Z 30 (ni Sn)), (s 5, .inr (3, [.int (nI (A 2)), .int (nI 5), .int (nI 6), .ref (s 6)])), (s 6, ia Z 30 (ni Nt)), (s 7, .inr (3, [.int (nI (A 3)), .int (nI 5), .int (nI 6), .ref (s 8)])), (s 8, ia Z 30 (ni Mk))]) jl_X8_62 (c_X8_bad Z h u ab be Rf ) 0 rfl rfl dX8_changes_17 rfl (by decide) (Nat.le_of_ble_eq_true rfl) [0] [1, 2, 3, 4, 5, 6, 7, 8, 9, 10, 11, 12, 13, 14, 15, 16] rfl rfl rfl rfl (by decide) rfl (fun rv wv hp => ?_)
      obtain ⟨rfl, rfl⟩ := hp
      refine j_world hJ (ws' := [xO h u ab be ((bmp Rf 0) 0) ((bmp Rf 0) 1) ((bmp Rf 0) 2), (u 0, .inr (4, [.ref (s 0), .ref (s 1), .ref (s 3), .ref (s 5), .ref (s 7)])), cO (s 0) q (A 21) (A 5) (A 6) (A 7) (A 8) (A 0), (q 0, ia Z 12 (ni K)), (q 1, ia Z 12 (ni P)), (q 2, ia Z 6 (ni kd)), (q 3, ia Z 6 (ni am)), (q 4, ia Z 6 (ni st)), (q 5, ia Z 6 (ni rg)), (s 1, .inr (1, [.int (nI (A 4)), .ref (s 2)])), (s 2, ia Z 128 (ni Ro)), (s 3, .inr (3, [.int (nI (A 1)), .int (nI 4), .int (nI 5), .ref (s 4)])), (s 4, ia Z 30 (ni Sn)), (s 5, .inr (3, [.int (nI (A 2)), .int (nI 5), .int (nI 6), .ref (s 6)])), (s 6, ia Z 30 (ni Nt)), (s 7, .inr (3, [.int (nI (A 3)), .int (nI 5), .int (nI 6), .ref (s 8)])), (s 8, ia Z 30 (ni Mk))]) [16, 0, 1, 2, 3, 4, 5, 6, 7, 8, 9, 10, 11, 12, 13, 14, 15] rfl rfl ?_
      show J 20 [(0, .ref h), (1, .int a), (2, .int b)] [.int (zI (-2))] [xO h u ab be ((bmp Rf 0) 0) ((bmp Rf 0) 1) ((bmp Rf 0) 2), (u 0, .inr (4, [.ref (s 0), .ref (s 1), .ref (s 3), .ref (s 5), .ref (s 7)])), cO (s 0) q (A 21) (A 5) (A 6) (A 7) (A 8) (A 0), (q 0, ia Z 12 (ni K)), (q 1, ia Z 12 (ni P)), (q 2, ia Z 6 (ni kd)), (q 3, ia Z 6 (ni am)), (q 4, ia Z 6 (ni st)), (q 5, ia Z 6 (ni rg)), (s 1, .inr (1, [.int (nI (A 4)), .ref (s 2)])), (s 2, ia Z 128 (ni Ro)), (s 3, .inr (3, [.int (nI (A 1)), .int (nI 4), .int (nI 5), .ref (s 4)])), (s 4, ia Z 30 (ni Sn)), (s 5, .inr (3, [.int (nI (A 2)), .int (nI 5), .int (nI 6), .ref (s 6)])), (s 6, ia Z 30 (ni Nt)), (s 7, .inr (3, [.int (nI (A 3)), .int (nI 5), .int (nI 6), .ref (s 8)])), (s 8, ia Z 30 (ni Mk))] 0 0
      have hP0 : ¬ (isR A a ∧ isS A b) := by simp only [rgI, isS, isR, pNote, pMark]; omega
      have hAo : (a_changes A a b) = A := by simp only [a_changes, if_neg hP0]
      have hRo : (r_changes A Rf a b) = bmp Rf 0 := by simp only [r_changes, if_neg hP0]
      exact hE.1 _ _ _ _ _ _ _ rfl rfl dX8_changes_20 (Nat.le_refl _) (Nat.le_refl _) (⟨K, P, kd, am, st, rg, Ro, Sn, Nt, Mk, congrArg (fun z => some (Value.int (zI z))) (by simp only [z_changes, if_neg hP0]), by rw [hAo, hRo] <;> first | rfl | (skip), by rw [hAo]; exact hA⟩)

set_option maxHeartbeats 4000000 in
set_option maxRecDepth 100000 in
theorem c_X8_undo (Z : jZ) (h : Nat) (u : Nat → Nat) (ab : Int) (be : Int) (Rf : Nat → Nat) (s : Nat → Nat) (q : Nat → Nat) (A : Nat → Nat) (K : Nat → Nat) (P : Nat → Nat) (kd : Nat → Nat) (am : Nat → Nat) (st : Nat → Nat) (rg : Nat → Nat) (Ro : Nat → Nat) (Sn : Nat → Nat) (Nt : Nat → Nat) (Mk : Nat → Nat) (hg : wg A) (hA : rA A K P kd am st rg Ro Sn Nt Mk) : CT Z yX8_undo cX8_undo 1 ((some FieldType.int)) 3 0 0 [.ref h] [xO h u ab be (Rf 0) (Rf 1) (Rf 2), (u 0, .inr (4, [.ref (s 0), .ref (s 1), .ref (s 3), .ref (s 5), .ref (s 7)])), cO (s 0) q (A 21) (A 5) (A 6) (A 7) (A 8) (A 0), (q 0, ia Z 12 (ni K)), (q 1, ia Z 12 (ni P)), (q 2, ia Z 6 (ni kd)), (q 3, ia Z 6 (ni am)), (q 4, ia Z 6 (ni st)), (q 5, ia Z 6 (ni rg)), (s 1, .inr (1, [.int (nI (A 4)), .ref (s 2)])), (s 2, ia Z 128 (ni Ro)), (s 3, .inr (3, [.int (nI (A 1)), .int (nI 4), .int (nI 5), .ref (s 4)])), (s 4, ia Z 30 (ni Sn)), (s 5, .inr (3, [.int (nI (A 2)), .int (nI 5), .int (nI 6), .ref (s 6)])), (s 6, ia Z 30 (ni Nt)), (s 7, .inr (3, [.int (nI (A 3)), .int (nI 5), .int (nI 6), .ref (s 8)])), (s 8, ia Z 30 (ni Mk))] (fun rr ww => ∃ Kz : Nat → Nat, ∃ Pz : Nat → Nat, ∃ kdz : Nat → Nat, ∃ amz : Nat → Nat, ∃ stz : Nat → Nat, ∃ rgz : Nat → Nat, ∃ Roz : Nat → Nat, ∃ Snz : Nat → Nat, ∃ Ntz : Nat → Nat, ∃ Mkz : Nat → Nat, rr = some (.int (zI (z_undo A))) ∧ ww = [xO h u ab be ((r_undo A Rf) 0) ((r_undo A Rf) 1) ((r_undo A Rf) 2), (u 0, .inr (4, [.ref (s 0), .ref (s 1), .ref (s 3), .ref (s 5), .ref (s 7)])), cO (s 0) q ((a_undo A) 21) ((a_undo A) 5) ((a_undo A) 6) ((a_undo A) 7) ((a_undo A) 8) ((a_undo A) 0), (q 0, ia Z 12 (ni Kz)), (q 1, ia Z 12 (ni Pz)), (q 2, ia Z 6 (ni kdz)), (q 3, ia Z 6 (ni amz)), (q 4, ia Z 6 (ni stz)), (q 5, ia Z 6 (ni rgz)), (s 1, .inr (1, [.int (nI ((a_undo A) 4)), .ref (s 2)])), (s 2, ia Z 128 (ni Roz)), (s 3, .inr (3, [.int (nI ((a_undo A) 1)), .int (nI 4), .int (nI 5), .ref (s 4)])), (s 4, ia Z 30 (ni Snz)), (s 5, .inr (3, [.int (nI ((a_undo A) 2)), .int (nI 5), .int (nI 6), .ref (s 6)])), (s 6, ia Z 30 (ni Ntz)), (s 7, .inr (3, [.int (nI ((a_undo A) 3)), .int (nI 5), .int (nI 6), .ref (s 8)])), (s 8, ia Z 30 (ni Mkz))] ∧ (rA (a_undo A) Kz Pz kdz amz stz rgz Roz Snz Ntz Mkz)) := by
  refine CT.of RX8 false rfl (fun h => by cases h) (by decide +kernel) (Nat.le_of_ble_eq_true rfl) ?_
  intro J hJ hE
  show J 0 [(0, .ref h)] [] [xO h u ab be (Rf 0) (Rf 1) (Rf 2), (u 0, .inr (4, [.ref (s 0), .ref (s 1), .ref (s 3), .ref (s 5), .ref (s 7)])), cO (s 0) q (A 21) (A 5) (A 6) (A 7) (A 8) (A 0), (q 0, ia Z 12 (ni K)), (q 1, ia Z 12 (ni P)), (q 2, ia Z 6 (ni kd)), (q 3, ia Z 6 (ni am)), (q 4, ia Z 6 (ni st)), (q 5, ia Z 6 (ni rg)), (s 1, .inr (1, [.int (nI (A 4)), .ref (s 2)])), (s 2, ia Z 128 (ni Ro)), (s 3, .inr (3, [.int (nI (A 1)), .int (nI 4), .int (nI 5), .ref (s 4)])), (s 4, ia Z 30 (ni Sn)), (s 5, .inr (3, [.int (nI (A 2)), .int (nI 5), .int (nI 6), .ref (s 6)])), (s 6, ia Z 30 (ni Nt)), (s 7, .inr (3, [.int (nI (A 3)), .int (nI 5), .int (nI 6), .ref (s 8)])), (s 8, ia Z 30 (ni Mk))] 0 0
  obtain ⟨hw, ⟨g1, g2, g3, g4, g8⟩, hrs, hrn, hrm, hpst⟩ := id hg
  obtain ⟨⟨w1, w2, w3, w4, w5, w6⟩, hb, wr, wh, wd⟩ := id hw
  obtain ⟨hR, hX⟩ := id hA
  obtain ⟨hP, hSn, hNt, hMk⟩ := id hX
  refine j_aload_n hJ (q := 1) dX8_undo_0 rfl 0 rfl rfl ?_
  refine j_get hJ (q := 4) jf_X8_10 dX8_undo_1 0 rfl rfl rfl ?_
  refine j_get hJ (q := 7) jf_X8_91 dX8_undo_4 1 rfl rfl rfl ?_
  refine j_get hJ (q := 10) jf_X8_95 dX8_undo_7 9 rfl rfl rfl ?_
  refine jn_if_ne hJ (q := 13) (tgt := 18) dX8_undo_10 (by decide) rfl (by omega) (fun c1 => ?_) (fun c1 => ?_)
  · skip
    refine j_aload_n hJ (q := 19) dX8_undo_18 rfl 0 rfl rfl ?_
    refine j_get hJ (q := 22) jf_X8_10 dX8_undo_19 0 rfl rfl rfl ?_
    refine j_get hJ (q := 25) jf_X8_91 dX8_undo_22 1 rfl rfl rfl ?_
    refine j_aload_n hJ (q := 26) dX8_undo_25 rfl 0 rfl rfl ?_
    refine j_get hJ (q := 29) jf_X8_10 dX8_undo_26 0 rfl rfl rfl ?_
    refine j_get hJ (q := 32) jf_X8_66 dX8_undo_29 1 rfl rfl rfl ?_
    refine j_vW hJ (q := 35) (rest := []) (As := [.ref (s 0)]) (wr := [xO h u ab be (Rf 0) (Rf 1) (Rf 2), (u 0, .inr (4, [.ref (s 0), .ref (s 1), .ref (s 3), .ref (s 5), .ref (s 7)])), (s 3, .inr (3, [.int (nI (A 1)), .int (nI 4), .int (nI 5), .ref (s 4)])), (s 4, ia Z 30 (ni Sn)), (s 5, .inr (3, [.int (nI (A 2)), .int (nI 5), .int (nI 6), .ref (s 6)])), (s 6, ia Z 30 (ni Nt)), (s 7, .inr (3, [.int (nI (A 3)), .int (nI 5), .int (nI 6), .ref (s 8)])), (s 8, ia Z 30 (ni Mk))]) jl_X8_150 (c_X3_giveBack Z (s 0) q A K P kd am st rg (s 1) (s 2) Ro hR hP (by omega) w6 w2) 9 rfl rfl dX8_undo_32 rfl (by decide) (Nat.le_of_ble_eq_true rfl) [9, 10, 2, 3, 4, 5, 6, 7, 8] [0, 1, 11, 12, 13, 14, 15, 16] rfl rfl rfl rfl (by decide) rfl (fun rv wv hp => ?_)
    obtain ⟨sz2, gz3, rfl, rfl, f4, f5⟩ := hp
    refine j_world hJ (ws' := [xO h u ab be (Rf 0) (Rf 1) (Rf 2), (u 0, .inr (4, [.ref (s 0), .ref (s 1), .ref (s 3), .ref (s 5), .ref (s 7)])), cO (s 0) q ((und A) 21) ((und A) 5) ((und A) 6) ((und A) 7) ((und A) 8) ((und A) 0), (q 0, ia Z 12 (ni K)), (q 1, ia Z 12 (ni P)), (q 2, ia Z 6 (ni kd)), (q 3, ia Z 6 (ni am)), (q 4, ia Z 6 (ni sz2)), (q 5, ia Z 6 (ni gz3)), ((s 1), .inr (1, [.int (nI ((und A) 4)), .ref (s 2)])), ((s 2), ia Z 128 (ni Ro)), (s 3, .inr (3, [.int (nI (A 1)), .int (nI 4), .int (nI 5), .ref (s 4)])), (s 4, ia Z 30 (ni Sn)), (s 5, .inr (3, [.int (nI (A 2)), .int (nI 5), .int (nI 6), .ref (s 6)])), (s 6, ia Z 30 (ni Nt)), (s 7, .inr (3, [.int (nI (A 3)), .int (nI 5), .int (nI 6), .ref (s 8)])), (s 8, ia Z 30 (ni Mk))]) [0, 1, 10, 11, 12, 13, 14, 15, 16, 8, 9, 2, 3, 4, 5, 6, 7] rfl rfl ?_
    show J 35 [(0, .ref h)] [] [xO h u ab be (Rf 0) (Rf 1) (Rf 2), (u 0, .inr (4, [.ref (s 0), .ref (s 1), .ref (s 3), .ref (s 5), .ref (s 7)])), cO (s 0) q ((und A) 21) ((und A) 5) ((und A) 6) ((und A) 7) ((und A) 8) ((und A) 0), (q 0, ia Z 12 (ni K)), (q 1, ia Z 12 (ni P)), (q 2, ia Z 6 (ni kd)), (q 3, ia Z 6 (ni am)), (q 4, ia Z 6 (ni sz2)), (q 5, ia Z 6 (ni gz3)), ((s 1), .inr (1, [.int (nI ((und A) 4)), .ref (s 2)])), ((s 2), ia Z 128 (ni Ro)), (s 3, .inr (3, [.int (nI (A 1)), .int (nI 4), .int (nI 5), .ref (s 4)])), (s 4, ia Z 30 (ni Sn)), (s 5, .inr (3, [.int (nI (A 2)), .int (nI 5), .int (nI 6), .ref (s 6)])), (s 6, ia Z 30 (ni Nt)), (s 7, .inr (3, [.int (nI (A 3)), .int (nI 5), .int (nI 6), .ref (s 8)])), (s 8, ia Z 30 (ni Mk))] 0 0
    have hRu := f4
    have hPu := f5
    refine j_aload_n hJ (q := 36) dX8_undo_35 rfl 0 rfl rfl ?_
    refine j_get hJ (q := 39) jf_X8_10 dX8_undo_36 0 rfl rfl rfl ?_
    refine j_get hJ (q := 42) jf_X8_66 dX8_undo_39 1 rfl rfl rfl ?_
    refine j_get hJ (q := 45) jf_X8_129 dX8_undo_42 2 rfl rfl rfl ?_
    have hQ0 : ¬ (A 4 = 0) := by omega
    have hAo : (a_undo A) = und A := by simp only [a_undo, if_neg hQ0]
    have hRo : (r_undo A Rf) = Rf := by simp only [r_undo, if_neg hQ0]
    have es1 : und A 1 = A 1 := und_lo (by omega) (by decide)
    have es2 : und A 2 = A 2 := und_lo (by omega) (by decide)
    have es3 : und A 3 = A 3 := und_lo (by omega) (by decide)
    exact hE.1 _ _ _ _ _ _ _ rfl rfl dX8_undo_45 (Nat.le_refl _) (Nat.le_refl _) (⟨K, P, kd, am, sz2, gz3, Ro, Sn, Nt, Mk, congrArg (fun z => some (Value.int z)) ((zI_nat _).symm.trans (congrArg zI (by simp only [z_undo, if_neg hQ0]))), by rw [hAo, hRo] <;> first | rfl | (simp only [es1, es2, es3]), by rw [hAo]; exact ⟨hRu, rX_p hX hPu (fun j hj => und_lo (by omega) (by omega)) ⟨g1, g2, g3⟩⟩⟩)
  · skip
    refine j_aload_n hJ (q := 14) dX8_undo_13 rfl 0 rfl rfl ?_
    refine j_vW hJ (q := 17) (rest := []) (As := []) (wr := [(u 0, .inr (4, [.ref (s 0), .ref (s 1), .ref (s 3), .ref (s 5), .ref (s 7)])), cO (s 0) q (A 21) (A 5) (A 6) (A 7) (A 8) (A 0), (q 0, ia Z 12 (ni K)), (q 1, ia Z 12 (ni P)), (q 2, ia Z 6 (ni kd)), (q 3, ia Z 6 (ni am)), (q 4, ia Z 6 (ni st)), (q 5, ia Z 6 (ni rg)), (s 1, .inr (1, [.int (nI (A 4)), .ref (s 2)])), (s 2, ia Z 128 (ni Ro)), (s 3, .inr (3, [.int (nI (A 1)), .int (nI 4), .int (nI 5), .ref (s 4)])), (s 4, ia Z 30 (ni Sn)), (s 5, .inr (3, [.int (nI (A 2)), .int (nI 5), .int (nI 6), .ref (s 6)])), (s 6, ia Z 30 (ni Nt)), (s 7, .inr (3, [.int (nI (A 3)), .int (nI 5), .int (nI 6), .ref (s 8)])), (s 8, ia Z 30 (ni Mk))]) jl_X8_104 (c_X8_no Z h u ab be Rf ) 0 rfl rfl dX8_undo_14 rfl (by decide) (Nat.le_of_ble_eq_true rfl) [0] [1, 2, 3, 4, 5, 6, 7, 8, 9, 10, 11, 12, 13, 14, 15, 16] rfl rfl rfl rfl (by decide) rfl (fun rv wv hp => ?_)
    obtain ⟨rfl, rfl⟩ := hp
    refine j_world hJ (ws' := [xO h u ab be ((bmp Rf 1) 0) ((bmp Rf 1) 1) ((bmp Rf 1) 2), (u 0, .inr (4, [.ref (s 0), .ref (s 1), .ref (s 3), .ref (s 5), .ref (s 7)])), cO (s 0) q (A 21) (A 5) (A 6) (A 7) (A 8) (A 0), (q 0, ia Z 12 (ni K)), (q 1, ia Z 12 (ni P)), (q 2, ia Z 6 (ni kd)), (q 3, ia Z 6 (ni am)), (q 4, ia Z 6 (ni st)), (q 5, ia Z 6 (ni rg)), (s 1, .inr (1, [.int (nI (A 4)), .ref (s 2)])), (s 2, ia Z 128 (ni Ro)), (s 3, .inr (3, [.int (nI (A 1)), .int (nI 4), .int (nI 5), .ref (s 4)])), (s 4, ia Z 30 (ni Sn)), (s 5, .inr (3, [.int (nI (A 2)), .int (nI 5), .int (nI 6), .ref (s 6)])), (s 6, ia Z 30 (ni Nt)), (s 7, .inr (3, [.int (nI (A 3)), .int (nI 5), .int (nI 6), .ref (s 8)])), (s 8, ia Z 30 (ni Mk))]) [16, 0, 1, 2, 3, 4, 5, 6, 7, 8, 9, 10, 11, 12, 13, 14, 15] rfl rfl ?_
    show J 17 [(0, .ref h)] [.int (zI (-3))] [xO h u ab be ((bmp Rf 1) 0) ((bmp Rf 1) 1) ((bmp Rf 1) 2), (u 0, .inr (4, [.ref (s 0), .ref (s 1), .ref (s 3), .ref (s 5), .ref (s 7)])), cO (s 0) q (A 21) (A 5) (A 6) (A 7) (A 8) (A 0), (q 0, ia Z 12 (ni K)), (q 1, ia Z 12 (ni P)), (q 2, ia Z 6 (ni kd)), (q 3, ia Z 6 (ni am)), (q 4, ia Z 6 (ni st)), (q 5, ia Z 6 (ni rg)), (s 1, .inr (1, [.int (nI (A 4)), .ref (s 2)])), (s 2, ia Z 128 (ni Ro)), (s 3, .inr (3, [.int (nI (A 1)), .int (nI 4), .int (nI 5), .ref (s 4)])), (s 4, ia Z 30 (ni Sn)), (s 5, .inr (3, [.int (nI (A 2)), .int (nI 5), .int (nI 6), .ref (s 6)])), (s 6, ia Z 30 (ni Nt)), (s 7, .inr (3, [.int (nI (A 3)), .int (nI 5), .int (nI 6), .ref (s 8)])), (s 8, ia Z 30 (ni Mk))] 0 0
    have hQ0 : A 4 = 0 := by omega
    have hAo : (a_undo A) = A := by simp only [a_undo, if_pos hQ0]
    have hRo : (r_undo A Rf) = bmp Rf 1 := by simp only [r_undo, if_pos hQ0]
    exact hE.1 _ _ _ _ _ _ _ rfl rfl dX8_undo_17 (Nat.le_refl _) (Nat.le_refl _) (⟨K, P, kd, am, st, rg, Ro, Sn, Nt, Mk, congrArg (fun z => some (Value.int (zI z))) (by simp only [z_undo, if_pos hQ0]), by rw [hAo, hRo] <;> first | rfl | (skip), by rw [hAo]; exact hA⟩)

set_option maxHeartbeats 4000000 in
set_option maxRecDepth 100000 in
theorem c_X8_forget (Z : jZ) (h : Nat) (u : Nat → Nat) (ab : Int) (be : Int) (Rf : Nat → Nat) (s : Nat → Nat) (q : Nat → Nat) (A : Nat → Nat) (K : Nat → Nat) (P : Nat → Nat) (kd : Nat → Nat) (am : Nat → Nat) (st : Nat → Nat) (rg : Nat → Nat) (Ro : Nat → Nat) (Sn : Nat → Nat) (Nt : Nat → Nat) (Mk : Nat → Nat) (a : Int32) (hg : wg A) (hA : rA A K P kd am st rg Ro Sn Nt Mk) : CT Z yX8_forget cX8_forget 2 ((some FieldType.int)) 3 0 0 [.ref h, .int a] [xO h u ab be (Rf 0) (Rf 1) (Rf 2), (u 0, .inr (4, [.ref (s 0), .ref (s 1), .ref (s 3), .ref (s 5), .ref (s 7)])), cO (s 0) q (A 21) (A 5) (A 6) (A 7) (A 8) (A 0), (q 0, ia Z 12 (ni K)), (q 1, ia Z 12 (ni P)), (q 2, ia Z 6 (ni kd)), (q 3, ia Z 6 (ni am)), (q 4, ia Z 6 (ni st)), (q 5, ia Z 6 (ni rg)), (s 1, .inr (1, [.int (nI (A 4)), .ref (s 2)])), (s 2, ia Z 128 (ni Ro)), (s 3, .inr (3, [.int (nI (A 1)), .int (nI 4), .int (nI 5), .ref (s 4)])), (s 4, ia Z 30 (ni Sn)), (s 5, .inr (3, [.int (nI (A 2)), .int (nI 5), .int (nI 6), .ref (s 6)])), (s 6, ia Z 30 (ni Nt)), (s 7, .inr (3, [.int (nI (A 3)), .int (nI 5), .int (nI 6), .ref (s 8)])), (s 8, ia Z 30 (ni Mk))] (fun rr ww => ∃ Kz : Nat → Nat, ∃ Pz : Nat → Nat, ∃ kdz : Nat → Nat, ∃ amz : Nat → Nat, ∃ stz : Nat → Nat, ∃ rgz : Nat → Nat, ∃ Roz : Nat → Nat, ∃ Snz : Nat → Nat, ∃ Ntz : Nat → Nat, ∃ Mkz : Nat → Nat, rr = some (.int (zI (z_forget A a))) ∧ ww = [xO h u ab be ((if rgI 0 2 a then Rf else bmp Rf 0) 0) ((if rgI 0 2 a then Rf else bmp Rf 0) 1) ((if rgI 0 2 a then Rf else bmp Rf 0) 2), (u 0, .inr (4, [.ref (s 0), .ref (s 1), .ref (s 3), .ref (s 5), .ref (s 7)])), cO (s 0) q ((a_forget A a) 21) ((a_forget A a) 5) ((a_forget A a) 6) ((a_forget A a) 7) ((a_forget A a) 8) ((a_forget A a) 0), (q 0, ia Z 12 (ni Kz)), (q 1, ia Z 12 (ni Pz)), (q 2, ia Z 6 (ni kdz)), (q 3, ia Z 6 (ni amz)), (q 4, ia Z 6 (ni stz)), (q 5, ia Z 6 (ni rgz)), (s 1, .inr (1, [.int (nI ((a_forget A a) 4)), .ref (s 2)])), (s 2, ia Z 128 (ni Roz)), (s 3, .inr (3, [.int (nI ((a_forget A a) 1)), .int (nI 4), .int (nI 5), .ref (s 4)])), (s 4, ia Z 30 (ni Snz)), (s 5, .inr (3, [.int (nI ((a_forget A a) 2)), .int (nI 5), .int (nI 6), .ref (s 6)])), (s 6, ia Z 30 (ni Ntz)), (s 7, .inr (3, [.int (nI ((a_forget A a) 3)), .int (nI 5), .int (nI 6), .ref (s 8)])), (s 8, ia Z 30 (ni Mkz))] ∧ (rA (a_forget A a) Kz Pz kdz amz stz rgz Roz Snz Ntz Mkz)) := by
  refine CT.of RX8 false rfl (fun h => by cases h) (by decide +kernel) (Nat.le_of_ble_eq_true rfl) ?_
  intro J hJ hE
  show J 0 [(0, .ref h), (1, .int a)] [] [xO h u ab be (Rf 0) (Rf 1) (Rf 2), (u 0, .inr (4, [.ref (s 0), .ref (s 1), .ref (s 3), .ref (s 5), .ref (s 7)])), cO (s 0) q (A 21) (A 5) (A 6) (A 7) (A 8) (A 0), (q 0, ia Z 12 (ni K)), (q 1, ia Z 12 (ni P)), (q 2, ia Z 6 (ni kd)), (q 3, ia Z 6 (ni am)), (q 4, ia Z 6 (ni st)), (q 5, ia Z 6 (ni rg)), (s 1, .inr (1, [.int (nI (A 4)), .ref (s 2)])), (s 2, ia Z 128 (ni Ro)), (s 3, .inr (3, [.int (nI (A 1)), .int (nI 4), .int (nI 5), .ref (s 4)])), (s 4, ia Z 30 (ni Sn)), (s 5, .inr (3, [.int (nI (A 2)), .int (nI 5), .int (nI 6), .ref (s 6)])), (s 6, ia Z 30 (ni Nt)), (s 7, .inr (3, [.int (nI (A 3)), .int (nI 5), .int (nI 6), .ref (s 8)])), (s 8, ia Z 30 (ni Mk))] 0 0
  obtain ⟨hw, ⟨g1, g2, g3, g4, g8⟩, hrs, hrn, hrm, hpst⟩ := id hg
  obtain ⟨⟨w1, w2, w3, w4, w5, w6⟩, hb, wr, wh, wd⟩ := id hw
  obtain ⟨hR, hX⟩ := id hA
  obtain ⟨hP, hSn, hNt, hMk⟩ := id hX
  have hr_a := zI_rng a
  refine j_iload_n hJ (q := 1) dX8_forget_0 rfl 1 rfl rfl ?_
  rcases Classical.em (0 ≤ a.toInt ∧ a.toInt ≤ 2) with c1 | c1
  · skip
    have c2 : a.toInt = 0 ∨ a.toInt = 1 ∨ a.toInt = 2 := by omega
    rcases c2 with c2 | c2 | c2
    · skip
      have hnt_a : nt a = 0 := by unfold nt; omega
      refine j_top (show a = nI 0 from (zI_of a).trans ((congrArg zI c2).trans (zI_nat 0))) ?_
      refine jn_tableIn hJ (q := 28) (off := 27) (k := 0) rfl dX8_forget_1 (by decide) (by decide) (by decide) (by decide) ?_
      refine j_aload_n hJ (q := 29) dX8_forget_28 rfl 0 rfl rfl ?_
      refine j_get hJ (q := 32) jf_X8_10 dX8_forget_29 0 rfl rfl rfl ?_
      refine j_get hJ (q := 35) jf_X8_196 dX8_forget_32 1 rfl rfl rfl ?_
      refine j_vW hJ (q := 38) (rest := []) (As := []) (wr := [xO h u ab be (Rf 0) (Rf 1) (Rf 2), (u 0, .inr (4, [.ref (s 0), .ref (s 1), .ref (s 3), .ref (s 5), .ref (s 7)])), cO (s 0) q (A 21) (A 5) (A 6) (A 7) (A 8) (A 0), (q 0, ia Z 12 (ni K)), (q 1, ia Z 12 (ni P)), (q 2, ia Z 6 (ni kd)), (q 3, ia Z 6 (ni am)), (q 4, ia Z 6 (ni st)), (q 5, ia Z 6 (ni rg)), (s 1, .inr (1, [.int (nI (A 4)), .ref (s 2)])), (s 2, ia Z 128 (ni Ro)), (s 5, .inr (3, [.int (nI (A 2)), .int (nI 5), .int (nI 6), .ref (s 6)])), (s 6, ia Z 30 (ni Nt)), (s 7, .inr (3, [.int (nI (A 3)), .int (nI 5), .int (nI 6), .ref (s 8)])), (s 8, ia Z 30 (ni Mk))]) jl_X8_223 (c_X5_drop Z (s 3) (s 4) (A 1) 4 5 Sn ) 11 rfl rfl dX8_forget_35 rfl (by decide) (Nat.le_of_ble_eq_true rfl) [11, 12] [0, 1, 2, 3, 4, 5, 6, 7, 8, 9, 10, 13, 14, 15, 16] rfl rfl rfl rfl (by decide) rfl (fun rv wv hp => ?_)
      obtain ⟨rfl, rfl⟩ := hp
      refine j_world hJ (ws' := [xO h u ab be (Rf 0) (Rf 1) (Rf 2), (u 0, .inr (4, [.ref (s 0), .ref (s 1), .ref (s 3), .ref (s 5), .ref (s 7)])), cO (s 0) q (A 21) (A 5) (A 6) (A 7) (A 8) (A 0), (q 0, ia Z 12 (ni K)), (q 1, ia Z 12 (ni P)), (q 2, ia Z 6 (ni kd)), (q 3, ia Z 6 (ni am)), (q 4, ia Z 6 (ni st)), (q 5, ia Z 6 (ni rg)), (s 1, .inr (1, [.int (nI (A 4)), .ref (s 2)])), (s 2, ia Z 128 (ni Ro)), ((s 3), .inr (3, [.int (nI 0), .int (nI 4), .int (nI 5), .ref (s 4)])), ((s 4), ia Z 30 (ni Sn)), (s 5, .inr (3, [.int (nI (A 2)), .int (nI 5), .int (nI 6), .ref (s 6)])), (s 6, ia Z 30 (ni Nt)), (s 7, .inr (3, [.int (nI (A 3)), .int (nI 5), .int (nI 6), .ref (s 8)])), (s 8, ia Z 30 (ni Mk))]) [0, 1, 2, 3, 4, 5, 6, 7, 8, 9, 10, 15, 16, 11, 12, 13, 14] rfl rfl ?_
      show J 38 [(0, .ref h), (1, .int a)] [.int (nI (A 1))] [xO h u ab be (Rf 0) (Rf 1) (Rf 2), (u 0, .inr (4, [.ref (s 0), .ref (s 1), .ref (s 3), .ref (s 5), .ref (s 7)])), cO (s 0) q (A 21) (A 5) (A 6) (A 7) (A 8) (A 0), (q 0, ia Z 12 (ni K)), (q 1, ia Z 12 (ni P)), (q 2, ia Z 6 (ni kd)), (q 3, ia Z 6 (ni am)), (q 4, ia Z 6 (ni st)), (q 5, ia Z 6 (ni rg)), (s 1, .inr (1, [.int (nI (A 4)), .ref (s 2)])), (s 2, ia Z 128 (ni Ro)), ((s 3), .inr (3, [.int (nI 0), .int (nI 4), .int (nI 5), .ref (s 4)])), ((s 4), ia Z 30 (ni Sn)), (s 5, .inr (3, [.int (nI (A 2)), .int (nI 5), .int (nI 6), .ref (s 6)])), (s 6, ia Z 30 (ni Nt)), (s 7, .inr (3, [.int (nI (A 3)), .int (nI 5), .int (nI 6), .ref (s 8)])), (s 8, ia Z 30 (ni Mk))] 0 0
      have hP0 : rgI 0 2 a := by simp only [rgI, isS, isR, pNote, pMark]; omega
      have hAo : (a_forget A a) = va_up A (1 + nt a) 0 := by simp only [a_forget, if_pos hP0]
      have hRo : (if rgI 0 2 a then Rf else bmp Rf 0) = Rf := by simp only [if_pos hP0]
      have es21 : (va_up A (1 + nt a) 0) 21 = A 21 := by simp only [va_up]; rw [if_neg (by omega)]
      have es5 : (va_up A (1 + nt a) 0) 5 = A 5 := by simp only [va_up]; rw [if_neg (by omega)]
      have es6 : (va_up A (1 + nt a) 0) 6 = A 6 := by simp only [va_up]; rw [if_neg (by omega)]
      have es7 : (va_up A (1 + nt a) 0) 7 = A 7 := by simp only [va_up]; rw [if_neg (by omega)]
      have es8 : (va_up A (1 + nt a) 0) 8 = A 8 := by simp only [va_up]; rw [if_neg (by omega)]
      have es0 : (va_up A (1 + nt a) 0) 0 = A 0 := by simp only [va_up]; rw [if_neg (by omega)]
      have es1 : (va_up A (1 + nt a) 0) 1 = 0 := by simp only [va_up]; rw [if_pos (by omega)]
      have es2 : (va_up A (1 + nt a) 0) 2 = A 2 := by simp only [va_up]; rw [if_neg (by omega)]
      have es3 : (va_up A (1 + nt a) 0) 3 = A 3 := by simp only [va_up]; rw [if_neg (by omega)]
      have es4 : (va_up A (1 + nt a) 0) 4 = A 4 := by simp only [va_up]; rw [if_neg (by omega)]
      have e1 : ∀ j, ¬ (1 ≤ j ∧ j < 4) → (va_up A (1 + nt a) 0) j = A j := fun j h => by simp only [va_up]; rw [if_neg (by omega)]
      exact hE.1 _ _ _ _ _ _ _ rfl rfl dX8_forget_38 (Nat.le_refl _) (Nat.le_refl _) (⟨K, P, kd, am, st, rg, Ro, Sn, Nt, Mk, congrArg (fun z => some (Value.int z)) ((zI_nat _).symm.trans (congrArg zI (by simp only [z_forget, if_pos hP0]; rw [show 1 + nt a = 1 by omega]))), by rw [hAo, hRo] <;> first | rfl | (simp only [es21, es5, es6, es7, es8, es0, es1, es2, es3, es4]), by rw [hAo]; exact ⟨rR_of hR (fun j hj => e1 j (by omega)) w6 w2, rP_of hP (fun j hj => e1 j (by omega)), fun r hr => by rw [es1] at hr; omega, by rw [es2]; exact rC_of hNt (fun j hj => e1 j (by omega)), by rw [es3]; exact rC_of hMk (fun j hj => e1 j (by omega))⟩⟩)
    · skip
      have hnt_a : nt a = 1 := by unfold nt; omega
      refine j_top (show a = nI 1 from (zI_of a).trans ((congrArg zI c2).trans (zI_nat 1))) ?_
      refine jn_tableIn hJ (q := 39) (off := 38) (k := 1) rfl dX8_forget_1 (by decide) (by decide) (by decide) (by decide) ?_
      refine j_aload_n hJ (q := 40) dX8_forget_39 rfl 0 rfl rfl ?_
      refine j_get hJ (q := 43) jf_X8_10 dX8_forget_40 0 rfl rfl rfl ?_
      refine j_get hJ (q := 46) jf_X8_217 dX8_forget_43 1 rfl rfl rfl ?_
      refine j_vW hJ (q := 49) (rest := []) (As := []) (wr := [xO h u ab be (Rf 0) (Rf 1) (Rf 2), (u 0, .inr (4, [.ref (s 0), .ref (s 1), .ref (s 3), .ref (s 5), .ref (s 7)])), cO (s 0) q (A 21) (A 5) (A 6) (A 7) (A 8) (A 0), (q 0, ia Z 12 (ni K)), (q 1, ia Z 12 (ni P)), (q 2, ia Z 6 (ni kd)), (q 3, ia Z 6 (ni am)), (q 4, ia Z 6 (ni st)), (q 5, ia Z 6 (ni rg)), (s 1, .inr (1, [.int (nI (A 4)), .ref (s 2)])), (s 2, ia Z 128 (ni Ro)), (s 3, .inr (3, [.int (nI (A 1)), .int (nI 4), .int (nI 5), .ref (s 4)])), (s 4, ia Z 30 (ni Sn)), (s 7, .inr (3, [.int (nI (A 3)), .int (nI 5), .int (nI 6), .ref (s 8)])), (s 8, ia Z 30 (ni Mk))]) jl_X8_223 (c_X5_drop Z (s 5) (s 6) (A 2) 5 6 Nt ) 13 rfl rfl dX8_forget_46 rfl (by decide) (Nat.le_of_ble_eq_true rfl) [13, 14] [0, 1, 2, 3, 4, 5, 6, 7, 8, 9, 10, 11, 12, 15, 16] rfl rfl rfl rfl (by decide) rfl (fun rv wv hp => ?_)
      obtain ⟨rfl, rfl⟩ := hp
      refine j_world hJ (ws' := [xO h u ab be (Rf 0) (Rf 1) (Rf 2), (u 0, .inr (4, [.ref (s 0), .ref (s 1), .ref (s 3), .ref (s 5), .ref (s 7)])), cO (s 0) q (A 21) (A 5) (A 6) (A 7) (A 8) (A 0), (q 0, ia Z 12 (ni K)), (q 1, ia Z 12 (ni P)), (q 2, ia Z 6 (ni kd)), (q 3, ia Z 6 (ni am)), (q 4, ia Z 6 (ni st)), (q 5, ia Z 6 (ni rg)), (s 1, .inr (1, [.int (nI (A 4)), .ref (s 2)])), (s 2, ia Z 128 (ni Ro)), (s 3, .inr (3, [.int (nI (A 1)), .int (nI 4), .int (nI 5), .ref (s 4)])), (s 4, ia Z 30 (ni Sn)), ((s 5), .inr (3, [.int (nI 0), .int (nI 5), .int (nI 6), .ref (s 6)])), ((s 6), ia Z 30 (ni Nt)), (s 7, .inr (3, [.int (nI (A 3)), .int (nI 5), .int (nI 6), .ref (s 8)])), (s 8, ia Z 30 (ni Mk))]) [0, 1, 2, 3, 4, 5, 6, 7, 8, 9, 10, 11, 12, 15, 16, 13, 14] rfl rfl ?_
      show J 49 [(0, .ref h), (1, .int a)] [.int (nI (A 2))] [xO h u ab be (Rf 0) (Rf 1) (Rf 2), (u 0, .inr (4, [.ref (s 0), .ref (s 1), .ref (s 3), .ref (s 5), .ref (s 7)])), cO (s 0) q (A 21) (A 5) (A 6) (A 7) (A 8) (A 0), (q 0, ia Z 12 (ni K)), (q 1, ia Z 12 (ni P)), (q 2, ia Z 6 (ni kd)), (q 3, ia Z 6 (ni am)), (q 4, ia Z 6 (ni st)), (q 5, ia Z 6 (ni rg)), (s 1, .inr (1, [.int (nI (A 4)), .ref (s 2)])), (s 2, ia Z 128 (ni Ro)), (s 3, .inr (3, [.int (nI (A 1)), .int (nI 4), .int (nI 5), .ref (s 4)])), (s 4, ia Z 30 (ni Sn)), ((s 5), .inr (3, [.int (nI 0), .int (nI 5), .int (nI 6), .ref (s 6)])), ((s 6), ia Z 30 (ni Nt)), (s 7, .inr (3, [.int (nI (A 3)), .int (nI 5), .int (nI 6), .ref (s 8)])), (s 8, ia Z 30 (ni Mk))] 0 0
      have hP0 : rgI 0 2 a := by simp only [rgI, isS, isR, pNote, pMark]; omega
      have hAo : (a_forget A a) = va_up A (1 + nt a) 0 := by simp only [a_forget, if_pos hP0]
      have hRo : (if rgI 0 2 a then Rf else bmp Rf 0) = Rf := by simp only [if_pos hP0]
      have es21 : (va_up A (1 + nt a) 0) 21 = A 21 := by simp only [va_up]; rw [if_neg (by omega)]
      have es5 : (va_up A (1 + nt a) 0) 5 = A 5 := by simp only [va_up]; rw [if_neg (by omega)]
      have es6 : (va_up A (1 + nt a) 0) 6 = A 6 := by simp only [va_up]; rw [if_neg (by omega)]
      have es7 : (va_up A (1 + nt a) 0) 7 = A 7 := by simp only [va_up]; rw [if_neg (by omega)]
      have es8 : (va_up A (1 + nt a) 0) 8 = A 8 := by simp only [va_up]; rw [if_neg (by omega)]
      have es0 : (va_up A (1 + nt a) 0) 0 = A 0 := by simp only [va_up]; rw [if_neg (by omega)]
      have es1 : (va_up A (1 + nt a) 0) 1 = A 1 := by simp only [va_up]; rw [if_neg (by omega)]
      have es2 : (va_up A (1 + nt a) 0) 2 = 0 := by simp only [va_up]; rw [if_pos (by omega)]
      have es3 : (va_up A (1 + nt a) 0) 3 = A 3 := by simp only [va_up]; rw [if_neg (by omega)]
      have es4 : (va_up A (1 + nt a) 0) 4 = A 4 := by simp only [va_up]; rw [if_neg (by omega)]
      have e1 : ∀ j, ¬ (1 ≤ j ∧ j < 4) → (va_up A (1 + nt a) 0) j = A j := fun j h => by simp only [va_up]; rw [if_neg (by omega)]
      exact hE.1 _ _ _ _ _ _ _ rfl rfl dX8_forget_49 (Nat.le_refl _) (Nat.le_refl _) (⟨K, P, kd, am, st, rg, Ro, Sn, Nt, Mk, congrArg (fun z => some (Value.int z)) ((zI_nat _).symm.trans (congrArg zI (by simp only [z_forget, if_pos hP0]; rw [show 1 + nt a = 2 by omega]))), by rw [hAo, hRo] <;> first | rfl | (simp only [es21, es5, es6, es7, es8, es0, es1, es2, es3, es4]), by rw [hAo]; exact ⟨rR_of hR (fun j hj => e1 j (by omega)) w6 w2, rP_of hP (fun j hj => e1 j (by omega)), by rw [es1]; exact rC_of hSn (fun j hj => e1 j (by omega)), fun r hr => by rw [es2] at hr; omega, by rw [es3]; exact rC_of hMk (fun j hj => e1 j (by omega))⟩⟩)
    · skip
      have hnt_a : nt a = 2 := by unfold nt; omega
      refine j_top (show a = nI 2 from (zI_of a).trans ((congrArg zI c2).trans (zI_nat 2))) ?_
      refine jn_tableIn hJ (q := 50) (off := 49) (k := 2) rfl dX8_forget_1 (by decide) (by decide) (by decide) (by decide) ?_
      refine j_aload_n hJ (q := 51) dX8_forget_50 rfl 0 rfl rfl ?_
      refine j_get hJ (q := 54) jf_X8_10 dX8_forget_51 0 rfl rfl rfl ?_
      refine j_get hJ (q := 57) jf_X8_220 dX8_forget_54 1 rfl rfl rfl ?_
      refine j_vW hJ (q := 60) (rest := []) (As := []) (wr := [xO h u ab be (Rf 0) (Rf 1) (Rf 2), (u 0, .inr (4, [.ref (s 0), .ref (s 1), .ref (s 3), .ref (s 5), .ref (s 7)])), cO (s 0) q (A 21) (A 5) (A 6) (A 7) (A 8) (A 0), (q 0, ia Z 12 (ni K)), (q 1, ia Z 12 (ni P)), (q 2, ia Z 6 (ni kd)), (q 3, ia Z 6 (ni am)), (q 4, ia Z 6 (ni st)), (q 5, ia Z 6 (ni rg)), (s 1, .inr (1, [.int (nI (A 4)), .ref (s 2)])), (s 2, ia Z 128 (ni Ro)), (s 3, .inr (3, [.int (nI (A 1)), .int (nI 4), .int (nI 5), .ref (s 4)])), (s 4, ia Z 30 (ni Sn)), (s 5, .inr (3, [.int (nI (A 2)), .int (nI 5), .int (nI 6), .ref (s 6)])), (s 6, ia Z 30 (ni Nt))]) jl_X8_223 (c_X5_drop Z (s 7) (s 8) (A 3) 5 6 Mk ) 15 rfl rfl dX8_forget_57 rfl (by decide) (Nat.le_of_ble_eq_true rfl) [15, 16] [0, 1, 2, 3, 4, 5, 6, 7, 8, 9, 10, 11, 12, 13, 14] rfl rfl rfl rfl (by decide) rfl (fun rv wv hp => ?_)
      obtain ⟨rfl, rfl⟩ := hp
      show J 60 [(0, .ref h), (1, .int a)] [.int (nI (A 3))] [xO h u ab be (Rf 0) (Rf 1) (Rf 2), (u 0, .inr (4, [.ref (s 0), .ref (s 1), .ref (s 3), .ref (s 5), .ref (s 7)])), cO (s 0) q (A 21) (A 5) (A 6) (A 7) (A 8) (A 0), (q 0, ia Z 12 (ni K)), (q 1, ia Z 12 (ni P)), (q 2, ia Z 6 (ni kd)), (q 3, ia Z 6 (ni am)), (q 4, ia Z 6 (ni st)), (q 5, ia Z 6 (ni rg)), (s 1, .inr (1, [.int (nI (A 4)), .ref (s 2)])), (s 2, ia Z 128 (ni Ro)), (s 3, .inr (3, [.int (nI (A 1)), .int (nI 4), .int (nI 5), .ref (s 4)])), (s 4, ia Z 30 (ni Sn)), (s 5, .inr (3, [.int (nI (A 2)), .int (nI 5), .int (nI 6), .ref (s 6)])), (s 6, ia Z 30 (ni Nt)), ((s 7), .inr (3, [.int (nI 0), .int (nI 5), .int (nI 6), .ref (s 8)])), ((s 8), ia Z 30 (ni Mk))] 0 0
      have hP0 : rgI 0 2 a := by simp only [rgI, isS, isR, pNote, pMark]; omega
      have hAo : (a_forget A a) = va_up A (1 + nt a) 0 := by simp only [a_forget, if_pos hP0]
      have hRo : (if rgI 0 2 a then Rf else bmp Rf 0) = Rf := by simp only [if_pos hP0]
      have es21 : (va_up A (1 + nt a) 0) 21 = A 21 := by simp only [va_up]; rw [if_neg (by omega)]
      have es5 : (va_up A (1 + nt a) 0) 5 = A 5 := by simp only [va_up]; rw [if_neg (by omega)]
      have es6 : (va_up A (1 + nt a) 0) 6 = A 6 := by simp only [va_up]; rw [if_neg (by omega)]
      have es7 : (va_up A (1 + nt a) 0) 7 = A 7 := by simp only [va_up]; rw [if_neg (by omega)]
      have es8 : (va_up A (1 + nt a) 0) 8 = A 8 := by simp only [va_up]; rw [if_neg (by omega)]
      have es0 : (va_up A (1 + nt a) 0) 0 = A 0 := by simp only [va_up]; rw [if_neg (by omega)]
      have es1 : (va_up A (1 + nt a) 0) 1 = A 1 := by simp only [va_up]; rw [if_neg (by omega)]
      have es2 : (va_up A (1 + nt a) 0) 2 = A 2 := by simp only [va_up]; rw [if_neg (by omega)]
      have es3 : (va_up A (1 + nt a) 0) 3 = 0 := by simp only [va_up]; rw [if_pos (by omega)]
      have es4 : (va_up A (1 + nt a) 0) 4 = A 4 := by simp only [va_up]; rw [if_neg (by omega)]
      have e1 : ∀ j, ¬ (1 ≤ j ∧ j < 4) → (va_up A (1 + nt a) 0) j = A j := fun j h => by simp only [va_up]; rw [if_neg (by omega)]
      exact hE.1 _ _ _ _ _ _ _ rfl rfl dX8_forget_60 (Nat.le_refl _) (Nat.le_refl _) (⟨K, P, kd, am, st, rg, Ro, Sn, Nt, Mk, congrArg (fun z => some (Value.int z)) ((zI_nat _).symm.trans (congrArg zI (by simp only [z_forget, if_pos hP0]; rw [show 1 + nt a = 3 by omega]))), by rw [hAo, hRo] <;> first | rfl | (simp only [es21, es5, es6, es7, es8, es0, es1, es2, es3, es4]), by rw [hAo]; exact ⟨rR_of hR (fun j hj => e1 j (by omega)) w6 w2, rP_of hP (fun j hj => e1 j (by omega)), by rw [es1]; exact rC_of hSn (fun j hj => e1 j (by omega)), by rw [es2]; exact rC_of hNt (fun j hj => e1 j (by omega)), fun r hr => by rw [es3] at hr; omega⟩⟩)
  · skip
    refine j_tableOut hJ (q := 61) dX8_forget_1 (by omega) (by decide) ?_
    refine j_aload_n hJ (q := 62) dX8_forget_61 rfl 0 rfl rfl ?_
    refine j_vW hJ (q := 65) (rest := []) (As := []) (wr := [(u 0, .inr (4, [.ref (s 0), .ref (s 1), .ref (s 3), .ref (s 5), .ref (s 7)])), cO (s 0) q (A 21) (A 5) (A 6) (A 7) (A 8) (A 0), (q 0, ia Z 12 (ni K)), (q 1, ia Z 12 (ni P)), (q 2, ia Z 6 (ni kd)), (q 3, ia Z 6 (ni am)), (q 4, ia Z 6 (ni st)), (q 5, ia Z 6 (ni rg)), (s 1, .inr (1, [.int (nI (A 4)), .ref (s 2)])), (s 2, ia Z 128 (ni Ro)), (s 3, .inr (3, [.int (nI (A 1)), .int (nI 4), .int (nI 5), .ref (s 4)])), (s 4, ia Z 30 (ni Sn)), (s 5, .inr (3, [.int (nI (A 2)), .int (nI 5), .int (nI 6), .ref (s 6)])), (s 6, ia Z 30 (ni Nt)), (s 7, .inr (3, [.int (nI (A 3)), .int (nI 5), .int (nI 6), .ref (s 8)])), (s 8, ia Z 30 (ni Mk))]) jl_X8_62 (c_X8_bad Z h u ab be Rf ) 0 rfl rfl dX8_forget_62 rfl (by decide) (Nat.le_of_ble_eq_true rfl) [0] [1, 2, 3, 4, 5, 6, 7, 8, 9, 10, 11, 12, 13, 14, 15, 16] rfl rfl rfl rfl (by decide) rfl (fun rv wv hp => ?_)
    obtain ⟨rfl, rfl⟩ := hp
    refine j_world hJ (ws' := [xO h u ab be ((bmp Rf 0) 0) ((bmp Rf 0) 1) ((bmp Rf 0) 2), (u 0, .inr (4, [.ref (s 0), .ref (s 1), .ref (s 3), .ref (s 5), .ref (s 7)])), cO (s 0) q (A 21) (A 5) (A 6) (A 7) (A 8) (A 0), (q 0, ia Z 12 (ni K)), (q 1, ia Z 12 (ni P)), (q 2, ia Z 6 (ni kd)), (q 3, ia Z 6 (ni am)), (q 4, ia Z 6 (ni st)), (q 5, ia Z 6 (ni rg)), (s 1, .inr (1, [.int (nI (A 4)), .ref (s 2)])), (s 2, ia Z 128 (ni Ro)), (s 3, .inr (3, [.int (nI (A 1)), .int (nI 4), .int (nI 5), .ref (s 4)])), (s 4, ia Z 30 (ni Sn)), (s 5, .inr (3, [.int (nI (A 2)), .int (nI 5), .int (nI 6), .ref (s 6)])), (s 6, ia Z 30 (ni Nt)), (s 7, .inr (3, [.int (nI (A 3)), .int (nI 5), .int (nI 6), .ref (s 8)])), (s 8, ia Z 30 (ni Mk))]) [16, 0, 1, 2, 3, 4, 5, 6, 7, 8, 9, 10, 11, 12, 13, 14, 15] rfl rfl ?_
    show J 65 [(0, .ref h), (1, .int a)] [.int (zI (-2))] [xO h u ab be ((bmp Rf 0) 0) ((bmp Rf 0) 1) ((bmp Rf 0) 2), (u 0, .inr (4, [.ref (s 0), .ref (s 1), .ref (s 3), .ref (s 5), .ref (s 7)])), cO (s 0) q (A 21) (A 5) (A 6) (A 7) (A 8) (A 0), (q 0, ia Z 12 (ni K)), (q 1, ia Z 12 (ni P)), (q 2, ia Z 6 (ni kd)), (q 3, ia Z 6 (ni am)), (q 4, ia Z 6 (ni st)), (q 5, ia Z 6 (ni rg)), (s 1, .inr (1, [.int (nI (A 4)), .ref (s 2)])), (s 2, ia Z 128 (ni Ro)), (s 3, .inr (3, [.int (nI (A 1)), .int (nI 4), .int (nI 5), .ref (s 4)])), (s 4, ia Z 30 (ni Sn)), (s 5, .inr (3, [.int (nI (A 2)), .int (nI 5), .int (nI 6), .ref (s 6)])), (s 6, ia Z 30 (ni Nt)), (s 7, .inr (3, [.int (nI (A 3)), .int (nI 5), .int (nI 6), .ref (s 8)])), (s 8, ia Z 30 (ni Mk))] 0 0
    have hP0 : ¬ (rgI 0 2 a) := by simp only [rgI, isS, isR, pNote, pMark]; omega
    have hAo : (a_forget A a) = A := by simp only [a_forget, if_neg hP0]
    have hRo : (if rgI 0 2 a then Rf else bmp Rf 0) = bmp Rf 0 := by simp only [if_neg hP0]
    exact hE.1 _ _ _ _ _ _ _ rfl rfl dX8_forget_65 (Nat.le_refl _) (Nat.le_refl _) (⟨K, P, kd, am, st, rg, Ro, Sn, Nt, Mk, congrArg (fun z => some (Value.int (zI z))) (by simp only [z_forget, if_neg hP0]), by rw [hAo, hRo] <;> first | rfl | (skip), by rw [hAo]; exact hA⟩)

set_option maxHeartbeats 4000000 in
set_option maxRecDepth 100000 in
theorem c_X8_seen (Z : jZ) (h : Nat) (u : Nat → Nat) (ab : Int) (be : Int) (Rf : Nat → Nat) (s : Nat → Nat) (q : Nat → Nat) (A : Nat → Nat) (K : Nat → Nat) (P : Nat → Nat) (kd : Nat → Nat) (am : Nat → Nat) (st : Nat → Nat) (rg : Nat → Nat) (Ro : Nat → Nat) (Sn : Nat → Nat) (Nt : Nat → Nat) (Mk : Nat → Nat) (a : Int32) (b : Int32) (c : Int32) (d : Int32) (hg : wg A) (hA : rA A K P kd am st rg Ro Sn Nt Mk) : CT Z yX8_seen cX8_seen 5 ((some FieldType.int)) 3 0 0 [.ref h, .int a, .int b, .int c, .int d] [xO h u ab be (Rf 0) (Rf 1) (Rf 2), (u 0, .inr (4, [.ref (s 0), .ref (s 1), .ref (s 3), .ref (s 5), .ref (s 7)])), cO (s 0) q (A 21) (A 5) (A 6) (A 7) (A 8) (A 0), (q 0, ia Z 12 (ni K)), (q 1, ia Z 12 (ni P)), (q 2, ia Z 6 (ni kd)), (q 3, ia Z 6 (ni am)), (q 4, ia Z 6 (ni st)), (q 5, ia Z 6 (ni rg)), (s 1, .inr (1, [.int (nI (A 4)), .ref (s 2)])), (s 2, ia Z 128 (ni Ro)), (s 3, .inr (3, [.int (nI (A 1)), .int (nI 4), .int (nI 5), .ref (s 4)])), (s 4, ia Z 30 (ni Sn)), (s 5, .inr (3, [.int (nI (A 2)), .int (nI 5), .int (nI 6), .ref (s 6)])), (s 6, ia Z 30 (ni Nt)), (s 7, .inr (3, [.int (nI (A 3)), .int (nI 5), .int (nI 6), .ref (s 8)])), (s 8, ia Z 30 (ni Mk))] (fun rr ww => ∃ Kz : Nat → Nat, ∃ Pz : Nat → Nat, ∃ kdz : Nat → Nat, ∃ amz : Nat → Nat, ∃ stz : Nat → Nat, ∃ rgz : Nat → Nat, ∃ Roz : Nat → Nat, ∃ Snz : Nat → Nat, ∃ Ntz : Nat → Nat, ∃ Mkz : Nat → Nat, rr = some (.int (zI (z_seen A a b c d))) ∧ ww = [xO h u ab be ((r_seen A Rf a b c d) 0) ((r_seen A Rf a b c d) 1) ((r_seen A Rf a b c d) 2), (u 0, .inr (4, [.ref (s 0), .ref (s 1), .ref (s 3), .ref (s 5), .ref (s 7)])), cO (s 0) q ((a_seen A a b c d) 21) ((a_seen A a b c d) 5) ((a_seen A a b c d) 6) ((a_seen A a b c d) 7) ((a_seen A a b c d) 8) ((a_seen A a b c d) 0), (q 0, ia Z 12 (ni Kz)), (q 1, ia Z 12 (ni Pz)), (q 2, ia Z 6 (ni kdz)), (q 3, ia Z 6 (ni amz)), (q 4, ia Z 6 (ni stz)), (q 5, ia Z 6 (ni rgz)), (s 1, .inr (1, [.int (nI ((a_seen A a b c d) 4)), .ref (s 2)])), (s 2, ia Z 128 (ni Roz)), (s 3, .inr (3, [.int (nI ((a_seen A a b c d) 1)), .int (nI 4), .int (nI 5), .ref (s 4)])), (s 4, ia Z 30 (ni Snz)), (s 5, .inr (3, [.int (nI ((a_seen A a b c d) 2)), .int (nI 5), .int (nI 6), .ref (s 6)])), (s 6, ia Z 30 (ni Ntz)), (s 7, .inr (3, [.int (nI ((a_seen A a b c d) 3)), .int (nI 5), .int (nI 6), .ref (s 8)])), (s 8, ia Z 30 (ni Mkz))] ∧ (rA (a_seen A a b c d) Kz Pz kdz amz stz rgz Roz Snz Ntz Mkz)) := by
  refine CT.of RX8 false rfl (fun h => by cases h) (by decide +kernel) (Nat.le_of_ble_eq_true rfl) ?_
  intro J hJ hE
  show J 0 [(0, .ref h), (1, .int a), (2, .int b), (3, .int c), (4, .int d)] [] [xO h u ab be (Rf 0) (Rf 1) (Rf 2), (u 0, .inr (4, [.ref (s 0), .ref (s 1), .ref (s 3), .ref (s 5), .ref (s 7)])), cO (s 0) q (A 21) (A 5) (A 6) (A 7) (A 8) (A 0), (q 0, ia Z 12 (ni K)), (q 1, ia Z 12 (ni P)), (q 2, ia Z 6 (ni kd)), (q 3, ia Z 6 (ni am)), (q 4, ia Z 6 (ni st)), (q 5, ia Z 6 (ni rg)), (s 1, .inr (1, [.int (nI (A 4)), .ref (s 2)])), (s 2, ia Z 128 (ni Ro)), (s 3, .inr (3, [.int (nI (A 1)), .int (nI 4), .int (nI 5), .ref (s 4)])), (s 4, ia Z 30 (ni Sn)), (s 5, .inr (3, [.int (nI (A 2)), .int (nI 5), .int (nI 6), .ref (s 6)])), (s 6, ia Z 30 (ni Nt)), (s 7, .inr (3, [.int (nI (A 3)), .int (nI 5), .int (nI 6), .ref (s 8)])), (s 8, ia Z 30 (ni Mk))] 0 0
  obtain ⟨hw, ⟨g1, g2, g3, g4, g8⟩, hrs, hrn, hrm, hpst⟩ := id hg
  obtain ⟨⟨w1, w2, w3, w4, w5, w6⟩, hb, wr, wh, wd⟩ := id hw
  obtain ⟨hR, hX⟩ := id hA
  obtain ⟨hP, hSn, hNt, hMk⟩ := id hX
  have hr_a := zI_rng a
  have hr_b := zI_rng b
  have hr_c := zI_rng c
  have hr_d := zI_rng d
  refine j_aload_n hJ (q := 1) dX8_seen_0 rfl 0 rfl rfl ?_
  refine j_iload_n hJ (q := 2) dX8_seen_1 rfl 1 rfl rfl ?_
  refine j_vR hJ (q := 5) (rest := []) (As := [.int a]) jl_X8_80 (c_X8_isSeat Z h u ab be Rf s q A K P kd am st rg a (by omega)) 0 rfl rfl dX8_seen_2 rfl (by decide) (Nat.le_of_ble_eq_true rfl) [0, 1, 2, 3, 4, 5, 6, 7, 8] rfl rfl (fun rv hp => ?_)
  obtain rfl := hp
  show J 5 [(0, .ref h), (1, .int a), (2, .int b), (3, .int c), (4, .int d)] [.int (bI (decide (0 ≤ a.toInt ∧ a.toInt ≤ (A 21 : Int) - 1)))] [xO h u ab be (Rf 0) (Rf 1) (Rf 2), (u 0, .inr (4, [.ref (s 0), .ref (s 1), .ref (s 3), .ref (s 5), .ref (s 7)])), cO (s 0) q (A 21) (A 5) (A 6) (A 7) (A 8) (A 0), (q 0, ia Z 12 (ni K)), (q 1, ia Z 12 (ni P)), (q 2, ia Z 6 (ni kd)), (q 3, ia Z 6 (ni am)), (q 4, ia Z 6 (ni st)), (q 5, ia Z 6 (ni rg)), (s 1, .inr (1, [.int (nI (A 4)), .ref (s 2)])), (s 2, ia Z 128 (ni Ro)), (s 3, .inr (3, [.int (nI (A 1)), .int (nI 4), .int (nI 5), .ref (s 4)])), (s 4, ia Z 30 (ni Sn)), (s 5, .inr (3, [.int (nI (A 2)), .int (nI 5), .int (nI 6), .ref (s 6)])), (s 6, ia Z 30 (ni Nt)), (s 7, .inr (3, [.int (nI (A 3)), .int (nI 5), .int (nI 6), .ref (s 8)])), (s 8, ia Z 30 (ni Mk))] 0 0
  refine jp_if_eq hJ (q := 8) (tgt := 38) dX8_seen_5 (by decide) rfl (fun c1 => ?_) (fun c1 => ?_)
  · skip
    refine j_aload_n hJ (q := 39) dX8_seen_38 rfl 0 rfl rfl ?_
    refine j_vW hJ (q := 42) (rest := []) (As := []) (wr := [(u 0, .inr (4, [.ref (s 0), .ref (s 1), .ref (s 3), .ref (s 5), .ref (s 7)])), cO (s 0) q (A 21) (A 5) (A 6) (A 7) (A 8) (A 0), (q 0, ia Z 12 (ni K)), (q 1, ia Z 12 (ni P)), (q 2, ia Z 6 (ni kd)), (q 3, ia Z 6 (ni am)), (q 4, ia Z 6 (ni st)), (q 5, ia Z 6 (ni rg)), (s 1, .inr (1, [.int (nI (A 4)), .ref (s 2)])), (s 2, ia Z 128 (ni Ro)), (s 3, .inr (3, [.int (nI (A 1)), .int (nI 4), .int (nI 5), .ref (s 4)])), (s 4, ia Z 30 (ni Sn)), (s 5, .inr (3, [.int (nI (A 2)), .int (nI 5), .int (nI 6), .ref (s 6)])), (s 6, ia Z 30 (ni Nt)), (s 7, .inr (3, [.int (nI (A 3)), .int (nI 5), .int (nI 6), .ref (s 8)])), (s 8, ia Z 30 (ni Mk))]) jl_X8_62 (c_X8_bad Z h u ab be Rf ) 0 rfl rfl dX8_seen_39 rfl (by decide) (Nat.le_of_ble_eq_true rfl) [0] [1, 2, 3, 4, 5, 6, 7, 8, 9, 10, 11, 12, 13, 14, 15, 16] rfl rfl rfl rfl (by decide) rfl (fun rv wv hp => ?_)
    obtain ⟨rfl, rfl⟩ := hp
    refine j_world hJ (ws' := [xO h u ab be ((bmp Rf 0) 0) ((bmp Rf 0) 1) ((bmp Rf 0) 2), (u 0, .inr (4, [.ref (s 0), .ref (s 1), .ref (s 3), .ref (s 5), .ref (s 7)])), cO (s 0) q (A 21) (A 5) (A 6) (A 7) (A 8) (A 0), (q 0, ia Z 12 (ni K)), (q 1, ia Z 12 (ni P)), (q 2, ia Z 6 (ni kd)), (q 3, ia Z 6 (ni am)), (q 4, ia Z 6 (ni st)), (q 5, ia Z 6 (ni rg)), (s 1, .inr (1, [.int (nI (A 4)), .ref (s 2)])), (s 2, ia Z 128 (ni Ro)), (s 3, .inr (3, [.int (nI (A 1)), .int (nI 4), .int (nI 5), .ref (s 4)])), (s 4, ia Z 30 (ni Sn)), (s 5, .inr (3, [.int (nI (A 2)), .int (nI 5), .int (nI 6), .ref (s 6)])), (s 6, ia Z 30 (ni Nt)), (s 7, .inr (3, [.int (nI (A 3)), .int (nI 5), .int (nI 6), .ref (s 8)])), (s 8, ia Z 30 (ni Mk))]) [16, 0, 1, 2, 3, 4, 5, 6, 7, 8, 9, 10, 11, 12, 13, 14, 15] rfl rfl ?_
    show J 42 [(0, .ref h), (1, .int a), (2, .int b), (3, .int c), (4, .int d)] [.int (zI (-2))] [xO h u ab be ((bmp Rf 0) 0) ((bmp Rf 0) 1) ((bmp Rf 0) 2), (u 0, .inr (4, [.ref (s 0), .ref (s 1), .ref (s 3), .ref (s 5), .ref (s 7)])), cO (s 0) q (A 21) (A 5) (A 6) (A 7) (A 8) (A 0), (q 0, ia Z 12 (ni K)), (q 1, ia Z 12 (ni P)), (q 2, ia Z 6 (ni kd)), (q 3, ia Z 6 (ni am)), (q 4, ia Z 6 (ni st)), (q 5, ia Z 6 (ni rg)), (s 1, .inr (1, [.int (nI (A 4)), .ref (s 2)])), (s 2, ia Z 128 (ni Ro)), (s 3, .inr (3, [.int (nI (A 1)), .int (nI 4), .int (nI 5), .ref (s 4)])), (s 4, ia Z 30 (ni Sn)), (s 5, .inr (3, [.int (nI (A 2)), .int (nI 5), .int (nI 6), .ref (s 6)])), (s 6, ia Z 30 (ni Nt)), (s 7, .inr (3, [.int (nI (A 3)), .int (nI 5), .int (nI 6), .ref (s 8)])), (s 8, ia Z 30 (ni Mk))] 0 0
    have hP0 : ¬ (isS A a ∧ rgI 0 99 b ∧ rgI 0 3 c ∧ rgI 0 15 d) := by simp only [rgI, isS, isR, pNote, pMark]; omega
    have hAo : (a_seen A a b c d) = A := by simp only [a_seen, if_neg hP0]
    have hRo : (r_seen A Rf a b c d) = bmp Rf 0 := by simp only [r_seen, if_neg hP0]
    exact hE.1 _ _ _ _ _ _ _ rfl rfl dX8_seen_42 (Nat.le_refl _) (Nat.le_refl _) (⟨K, P, kd, am, st, rg, Ro, Sn, Nt, Mk, congrArg (fun z => some (Value.int (zI z))) (by simp only [z_seen, if_neg hP0]), by rw [hAo, hRo] <;> first | rfl | (skip), by rw [hAo]; exact hA⟩)
  · skip
    refine j_iload_n hJ (q := 9) dX8_seen_8 rfl 2 rfl rfl ?_
    refine j_iconst hJ (q := 10) dX8_seen_9 rfl ki_0 ?_
    refine j_bipush hJ (q := 12) dX8_seen_10 rfl kb_99 ?_
    refine j_sR hJ (q := 15) (rest := []) (As := [.int b, .int (zI 0), .int (zI 99)]) jl_X8_58 (c_X8_within Z b 0 99 (by omega) (by omega)) dX8_seen_12 rfl (by decide) (Nat.le_of_ble_eq_true rfl) [] rfl rfl (fun rv hp => ?_)
    obtain rfl := hp
    show J 15 [(0, .ref h), (1, .int a), (2, .int b), (3, .int c), (4, .int d)] [.int (bI (decide (0 ≤ b.toInt ∧ b.toInt ≤ 99)))] [xO h u ab be (Rf 0) (Rf 1) (Rf 2), (u 0, .inr (4, [.ref (s 0), .ref (s 1), .ref (s 3), .ref (s 5), .ref (s 7)])), cO (s 0) q (A 21) (A 5) (A 6) (A 7) (A 8) (A 0), (q 0, ia Z 12 (ni K)), (q 1, ia Z 12 (ni P)), (q 2, ia Z 6 (ni kd)), (q 3, ia Z 6 (ni am)), (q 4, ia Z 6 (ni st)), (q 5, ia Z 6 (ni rg)), (s 1, .inr (1, [.int (nI (A 4)), .ref (s 2)])), (s 2, ia Z 128 (ni Ro)), (s 3, .inr (3, [.int (nI (A 1)), .int (nI 4), .int (nI 5), .ref (s 4)])), (s 4, ia Z 30 (ni Sn)), (s 5, .inr (3, [.int (nI (A 2)), .int (nI 5), .int (nI 6), .ref (s 6)])), (s 6, ia Z 30 (ni Nt)), (s 7, .inr (3, [.int (nI (A 3)), .int (nI 5), .int (nI 6), .ref (s 8)])), (s 8, ia Z 30 (ni Mk))] 0 0
    refine jp_if_eq hJ (q := 18) (tgt := 38) dX8_seen_15 (by decide) rfl (fun c2 => ?_) (fun c2 => ?_)
    · skip
      refine j_aload_n hJ (q := 39) dX8_seen_38 rfl 0 rfl rfl ?_
      refine j_vW hJ (q := 42) (rest := []) (As := []) (wr := [(u 0, .inr (4, [.ref (s 0), .ref (s 1), .ref (s 3), .ref (s 5), .ref (s 7)])), cO (s 0) q (A 21) (A 5) (A 6) (A 7) (A 8) (A 0), (q 0, ia Z 12 (ni K)), (q 1, ia Z 12 (ni P)), (q 2, ia Z 6 (ni kd)), (q 3, ia Z 6 (ni am)), (q 4, ia Z 6 (ni st)), (q 5, ia Z 6 (ni rg)), (s 1, .inr (1, [.int (nI (A 4)), .ref (s 2)])), (s 2, ia Z 128 (ni Ro)), (s 3, .inr (3, [.int (nI (A 1)), .int (nI 4), .int (nI 5), .ref (s 4)])), (s 4, ia Z 30 (ni Sn)), (s 5, .inr (3, [.int (nI (A 2)), .int (nI 5), .int (nI 6), .ref (s 6)])), (s 6, ia Z 30 (ni Nt)), (s 7, .inr (3, [.int (nI (A 3)), .int (nI 5), .int (nI 6), .ref (s 8)])), (s 8, ia Z 30 (ni Mk))]) jl_X8_62 (c_X8_bad Z h u ab be Rf ) 0 rfl rfl dX8_seen_39 rfl (by decide) (Nat.le_of_ble_eq_true rfl) [0] [1, 2, 3, 4, 5, 6, 7, 8, 9, 10, 11, 12, 13, 14, 15, 16] rfl rfl rfl rfl (by decide) rfl (fun rv wv hp => ?_)
      obtain ⟨rfl, rfl⟩ := hp
      refine j_world hJ (ws' := [xO h u ab be ((bmp Rf 0) 0) ((bmp Rf 0) 1) ((bmp Rf 0) 2), (u 0, .inr (4, [.ref (s 0), .ref (s 1), .ref (s 3), .ref (s 5), .ref (s 7)])), cO (s 0) q (A 21) (A 5) (A 6) (A 7) (A 8) (A 0), (q 0, ia Z 12 (ni K)), (q 1, ia Z 12 (ni P)), (q 2, ia Z 6 (ni kd)), (q 3, ia Z 6 (ni am)), (q 4, ia Z 6 (ni st)), (q 5, ia Z 6 (ni rg)), (s 1, .inr (1, [.int (nI (A 4)), .ref (s 2)])), (s 2, ia Z 128 (ni Ro)), (s 3, .inr (3, [.int (nI (A 1)), .int (nI 4), .int (nI 5), .ref (s 4)])), (s 4, ia Z 30 (ni Sn)), (s 5, .inr (3, [.int (nI (A 2)), .int (nI 5), .int (nI 6), .ref (s 6)])), (s 6, ia Z 30 (ni Nt)), (s 7, .inr (3, [.int (nI (A 3)), .int (nI 5), .int (nI 6), .ref (s 8)])), (s 8, ia Z 30 (ni Mk))]) [16, 0, 1, 2, 3, 4, 5, 6, 7, 8, 9, 10, 11, 12, 13, 14, 15] rfl rfl ?_
      show J 42 [(0, .ref h), (1, .int a), (2, .int b), (3, .int c), (4, .int d)] [.int (zI (-2))] [xO h u ab be ((bmp Rf 0) 0) ((bmp Rf 0) 1) ((bmp Rf 0) 2), (u 0, .inr (4, [.ref (s 0), .ref (s 1), .ref (s 3), .ref (s 5), .ref (s 7)])), cO (s 0) q (A 21) (A 5) (A 6) (A 7) (A 8) (A 0), (q 0, ia Z 12 (ni K)), (q 1, ia Z 12 (ni P)), (q 2, ia Z 6 (ni kd)), (q 3, ia Z 6 (ni am)), (q 4, ia Z 6 (ni st)), (q 5, ia Z 6 (ni rg)), (s 1, .inr (1, [.int (nI (A 4)), .ref (s 2)])), (s 2, ia Z 128 (ni Ro)), (s 3, .inr (3, [.int (nI (A 1)), .int (nI 4), .int (nI 5), .ref (s 4)])), (s 4, ia Z 30 (ni Sn)), (s 5, .inr (3, [.int (nI (A 2)), .int (nI 5), .int (nI 6), .ref (s 6)])), (s 6, ia Z 30 (ni Nt)), (s 7, .inr (3, [.int (nI (A 3)), .int (nI 5), .int (nI 6), .ref (s 8)])), (s 8, ia Z 30 (ni Mk))] 0 0
      have hP0 : ¬ (isS A a ∧ rgI 0 99 b ∧ rgI 0 3 c ∧ rgI 0 15 d) := by simp only [rgI, isS, isR, pNote, pMark]; omega
      have hAo : (a_seen A a b c d) = A := by simp only [a_seen, if_neg hP0]
      have hRo : (r_seen A Rf a b c d) = bmp Rf 0 := by simp only [r_seen, if_neg hP0]
      exact hE.1 _ _ _ _ _ _ _ rfl rfl dX8_seen_42 (Nat.le_refl _) (Nat.le_refl _) (⟨K, P, kd, am, st, rg, Ro, Sn, Nt, Mk, congrArg (fun z => some (Value.int (zI z))) (by simp only [z_seen, if_neg hP0]), by rw [hAo, hRo] <;> first | rfl | (skip), by rw [hAo]; exact hA⟩)
    · skip
      refine j_iload_n hJ (q := 19) dX8_seen_18 rfl 3 rfl rfl ?_
      refine j_iconst hJ (q := 20) dX8_seen_19 rfl ki_0 ?_
      refine j_iconst hJ (q := 21) dX8_seen_20 rfl ki_3 ?_
      refine j_sR hJ (q := 24) (rest := []) (As := [.int c, .int (zI 0), .int (zI 3)]) jl_X8_58 (c_X8_within Z c 0 3 (by omega) (by omega)) dX8_seen_21 rfl (by decide) (Nat.le_of_ble_eq_true rfl) [] rfl rfl (fun rv hp => ?_)
      obtain rfl := hp
      show J 24 [(0, .ref h), (1, .int a), (2, .int b), (3, .int c), (4, .int d)] [.int (bI (decide (0 ≤ c.toInt ∧ c.toInt ≤ 3)))] [xO h u ab be (Rf 0) (Rf 1) (Rf 2), (u 0, .inr (4, [.ref (s 0), .ref (s 1), .ref (s 3), .ref (s 5), .ref (s 7)])), cO (s 0) q (A 21) (A 5) (A 6) (A 7) (A 8) (A 0), (q 0, ia Z 12 (ni K)), (q 1, ia Z 12 (ni P)), (q 2, ia Z 6 (ni kd)), (q 3, ia Z 6 (ni am)), (q 4, ia Z 6 (ni st)), (q 5, ia Z 6 (ni rg)), (s 1, .inr (1, [.int (nI (A 4)), .ref (s 2)])), (s 2, ia Z 128 (ni Ro)), (s 3, .inr (3, [.int (nI (A 1)), .int (nI 4), .int (nI 5), .ref (s 4)])), (s 4, ia Z 30 (ni Sn)), (s 5, .inr (3, [.int (nI (A 2)), .int (nI 5), .int (nI 6), .ref (s 6)])), (s 6, ia Z 30 (ni Nt)), (s 7, .inr (3, [.int (nI (A 3)), .int (nI 5), .int (nI 6), .ref (s 8)])), (s 8, ia Z 30 (ni Mk))] 0 0
      refine jp_if_eq hJ (q := 27) (tgt := 38) dX8_seen_24 (by decide) rfl (fun c3 => ?_) (fun c3 => ?_)
      · skip
        refine j_aload_n hJ (q := 39) dX8_seen_38 rfl 0 rfl rfl ?_
        refine j_vW hJ (q := 42) (rest := []) (As := []) (wr := [(u 0, .inr (4, [.ref (s 0), .ref (s 1), .ref (s 3), .ref (s 5), .ref (s 7)])), cO (s 0) q (A 21) (A 5) (A 6) (A 7) (A 8) (A 0), (q 0, ia Z 12 (ni K)), (q 1, ia Z 12 (ni P)), (q 2, ia Z 6 (ni kd)), (q 3, ia Z 6 (ni am)), (q 4, ia Z 6 (ni st)), (q 5, ia Z 6 (ni rg)), (s 1, .inr (1, [.int (nI (A 4)), .ref (s 2)])), (s 2, ia Z 128 (ni Ro)), (s 3, .inr (3, [.int (nI (A 1)), .int (nI 4), .int (nI 5), .ref (s 4)])), (s 4, ia Z 30 (ni Sn)), (s 5, .inr (3, [.int (nI (A 2)), .int (nI 5), .int (nI 6), .ref (s 6)])), (s 6, ia Z 30 (ni Nt)), (s 7, .inr (3, [.int (nI (A 3)), .int (nI 5), .int (nI 6), .ref (s 8)])), (s 8, ia Z 30 (ni Mk))]) jl_X8_62 (c_X8_bad Z h u ab be Rf ) 0 rfl rfl dX8_seen_39 rfl (by decide) (Nat.le_of_ble_eq_true rfl) [0] [1, 2, 3, 4, 5, 6, 7, 8, 9, 10, 11, 12, 13, 14, 15, 16] rfl rfl rfl rfl (by decide) rfl (fun rv wv hp => ?_)
        obtain ⟨rfl, rfl⟩ := hp
        refine j_world hJ (ws' := [xO h u ab be ((bmp Rf 0) 0) ((bmp Rf 0) 1) ((bmp Rf 0) 2), (u 0, .inr (4, [.ref (s 0), .ref (s 1), .ref (s 3), .ref (s 5), .ref (s 7)])), cO (s 0) q (A 21) (A 5) (A 6) (A 7) (A 8) (A 0), (q 0, ia Z 12 (ni K)), (q 1, ia Z 12 (ni P)), (q 2, ia Z 6 (ni kd)), (q 3, ia Z 6 (ni am)), (q 4, ia Z 6 (ni st)), (q 5, ia Z 6 (ni rg)), (s 1, .inr (1, [.int (nI (A 4)), .ref (s 2)])), (s 2, ia Z 128 (ni Ro)), (s 3, .inr (3, [.int (nI (A 1)), .int (nI 4), .int (nI 5), .ref (s 4)])), (s 4, ia Z 30 (ni Sn)), (s 5, .inr (3, [.int (nI (A 2)), .int (nI 5), .int (nI 6), .ref (s 6)])), (s 6, ia Z 30 (ni Nt)), (s 7, .inr (3, [.int (nI (A 3)), .int (nI 5), .int (nI 6), .ref (s 8)])), (s 8, ia Z 30 (ni Mk))]) [16, 0, 1, 2, 3, 4, 5, 6, 7, 8, 9, 10, 11, 12, 13, 14, 15] rfl rfl ?_
        show J 42 [(0, .ref h), (1, .int a), (2, .int b), (3, .int c), (4, .int d)] [.int (zI (-2))] [xO h u ab be ((bmp Rf 0) 0) ((bmp Rf 0) 1) ((bmp Rf 0) 2), (u 0, .inr (4, [.ref (s 0), .ref (s 1), .ref (s 3), .ref (s 5), .ref (s 7)])), cO (s 0) q (A 21) (A 5) (A 6) (A 7) (A 8) (A 0), (q 0, ia Z 12 (ni K)), (q 1, ia Z 12 (ni P)), (q 2, ia Z 6 (ni kd)), (q 3, ia Z 6 (ni am)), (q 4, ia Z 6 (ni st)), (q 5, ia Z 6 (ni rg)), (s 1, .inr (1, [.int (nI (A 4)), .ref (s 2)])), (s 2, ia Z 128 (ni Ro)), (s 3, .inr (3, [.int (nI (A 1)), .int (nI 4), .int (nI 5), .ref (s 4)])), (s 4, ia Z 30 (ni Sn)), (s 5, .inr (3, [.int (nI (A 2)), .int (nI 5), .int (nI 6), .ref (s 6)])), (s 6, ia Z 30 (ni Nt)), (s 7, .inr (3, [.int (nI (A 3)), .int (nI 5), .int (nI 6), .ref (s 8)])), (s 8, ia Z 30 (ni Mk))] 0 0
        have hP0 : ¬ (isS A a ∧ rgI 0 99 b ∧ rgI 0 3 c ∧ rgI 0 15 d) := by simp only [rgI, isS, isR, pNote, pMark]; omega
        have hAo : (a_seen A a b c d) = A := by simp only [a_seen, if_neg hP0]
        have hRo : (r_seen A Rf a b c d) = bmp Rf 0 := by simp only [r_seen, if_neg hP0]
        exact hE.1 _ _ _ _ _ _ _ rfl rfl dX8_seen_42 (Nat.le_refl _) (Nat.le_refl _) (⟨K, P, kd, am, st, rg, Ro, Sn, Nt, Mk, congrArg (fun z => some (Value.int (zI z))) (by simp only [z_seen, if_neg hP0]), by rw [hAo, hRo] <;> first | rfl | (skip), by rw [hAo]; exact hA⟩)
      · skip
        refine j_iload hJ (q := 29) dX8_seen_27 4 rfl rfl ?_
        refine j_iconst hJ (q := 30) dX8_seen_29 rfl ki_0 ?_
        refine j_bipush hJ (q := 32) dX8_seen_30 rfl kb_15 ?_
        refine j_sR hJ (q := 35) (rest := []) (As := [.int d, .int (zI 0), .int (zI 15)]) jl_X8_58 (c_X8_within Z d 0 15 (by omega) (by omega)) dX8_seen_32 rfl (by decide) (Nat.le_of_ble_eq_true rfl) [] rfl rfl (fun rv hp => ?_)
        obtain rfl := hp
        show J 35 [(0, .ref h), (1, .int a), (2, .int b), (3, .int c), (4, .int d)] [.int (bI (decide (0 ≤ d.toInt ∧ d.toInt ≤ 15)))] [xO h u ab be (Rf 0) (Rf 1) (Rf 2), (u 0, .inr (4, [.ref (s 0), .ref (s 1), .ref (s 3), .ref (s 5), .ref (s 7)])), cO (s 0) q (A 21) (A 5) (A 6) (A 7) (A 8) (A 0), (q 0, ia Z 12 (ni K)), (q 1, ia Z 12 (ni P)), (q 2, ia Z 6 (ni kd)), (q 3, ia Z 6 (ni am)), (q 4, ia Z 6 (ni st)), (q 5, ia Z 6 (ni rg)), (s 1, .inr (1, [.int (nI (A 4)), .ref (s 2)])), (s 2, ia Z 128 (ni Ro)), (s 3, .inr (3, [.int (nI (A 1)), .int (nI 4), .int (nI 5), .ref (s 4)])), (s 4, ia Z 30 (ni Sn)), (s 5, .inr (3, [.int (nI (A 2)), .int (nI 5), .int (nI 6), .ref (s 6)])), (s 6, ia Z 30 (ni Nt)), (s 7, .inr (3, [.int (nI (A 3)), .int (nI 5), .int (nI 6), .ref (s 8)])), (s 8, ia Z 30 (ni Mk))] 0 0
        refine jp_if_ne hJ (q := 38) (tgt := 43) dX8_seen_35 (by decide) rfl (fun c4 => ?_) (fun c4 => ?_)
        · skip
          have hn_a := nt_cast (x := a) (by omega)
          refine j_eql (lvs' := [(0, .ref h), (1, .int (nI (nt a))), (2, .int b), (3, .int c), (4, .int d)]) (by rw [← nt_eq (x := a) (by omega)]) ?_
          have hn_b := nt_cast (x := b) (by omega)
          refine j_eql (lvs' := [(0, .ref h), (1, .int (nI (nt a))), (2, .int (nI (nt b))), (3, .int c), (4, .int d)]) (by rw [← nt_eq (x := b) (by omega)]) ?_
          have hn_c := nt_cast (x := c) (by omega)
          refine j_eql (lvs' := [(0, .ref h), (1, .int (nI (nt a))), (2, .int (nI (nt b))), (3, .int (nI (nt c))), (4, .int d)]) (by rw [← nt_eq (x := c) (by omega)]) ?_
          have hn_d := nt_cast (x := d) (by omega)
          refine j_eql (lvs' := [(0, .ref h), (1, .int (nI (nt a))), (2, .int (nI (nt b))), (3, .int (nI (nt c))), (4, .int (nI (nt d)))]) (by rw [← nt_eq (x := d) (by omega)]) ?_
          refine j_aload_n hJ (q := 44) dX8_seen_43 rfl 0 rfl rfl ?_
          refine j_get hJ (q := 47) jf_X8_10 dX8_seen_44 0 rfl rfl rfl ?_
          refine j_get hJ (q := 50) jf_X8_196 dX8_seen_47 1 rfl rfl rfl ?_
          refine j_vR hJ (q := 53) (rest := []) (As := []) jl_X8_200 (c_X5_isFull Z (s 3) (s 4) (A 1) 4 5 Sn (by omega) (by omega)) 11 rfl rfl dX8_seen_50 rfl (by decide) (Nat.le_of_ble_eq_true rfl) [11, 12] rfl rfl (fun rv hp => ?_)
          obtain rfl := hp
          show J 53 [(0, .ref h), (1, .int (nI (nt a))), (2, .int (nI (nt b))), (3, .int (nI (nt c))), (4, .int (nI (nt d)))] [.int (bI (decide (5 ≤ (A 1))))] [xO h u ab be (Rf 0) (Rf 1) (Rf 2), (u 0, .inr (4, [.ref (s 0), .ref (s 1), .ref (s 3), .ref (s 5), .ref (s 7)])), cO (s 0) q (A 21) (A 5) (A 6) (A 7) (A 8) (A 0), (q 0, ia Z 12 (ni K)), (q 1, ia Z 12 (ni P)), (q 2, ia Z 6 (ni kd)), (q 3, ia Z 6 (ni am)), (q 4, ia Z 6 (ni st)), (q 5, ia Z 6 (ni rg)), (s 1, .inr (1, [.int (nI (A 4)), .ref (s 2)])), (s 2, ia Z 128 (ni Ro)), (s 3, .inr (3, [.int (nI (A 1)), .int (nI 4), .int (nI 5), .ref (s 4)])), (s 4, ia Z 30 (ni Sn)), (s 5, .inr (3, [.int (nI (A 2)), .int (nI 5), .int (nI 6), .ref (s 6)])), (s 6, ia Z 30 (ni Nt)), (s 7, .inr (3, [.int (nI (A 3)), .int (nI 5), .int (nI 6), .ref (s 8)])), (s 8, ia Z 30 (ni Mk))] 0 0
          refine jp_if_eq hJ (q := 56) (tgt := 61) dX8_seen_53 (by decide) rfl (fun c5 => ?_) (fun c5 => ?_)
          · skip
            refine j_aload_n hJ (q := 62) dX8_seen_61 rfl 0 rfl rfl ?_
            refine j_get hJ (q := 65) jf_X8_10 dX8_seen_62 0 rfl rfl rfl ?_
            refine j_get hJ (q := 68) jf_X8_196 dX8_seen_65 1 rfl rfl rfl ?_
            refine j_iload_n hJ (q := 69) dX8_seen_68 rfl 1 rfl rfl ?_
            refine j_iload_n hJ (q := 70) dX8_seen_69 rfl 2 rfl rfl ?_
            refine j_iload_n hJ (q := 71) dX8_seen_70 rfl 3 rfl rfl ?_
            refine j_iload hJ (q := 73) dX8_seen_71 4 rfl rfl ?_
            refine j_iconst hJ (q := 74) dX8_seen_73 rfl ki_0 ?_
            refine j_vW hJ (q := 77) (rest := []) (As := [.int (nI (nt a)), .int (nI (nt b)), .int (nI (nt c)), .int (nI (nt d)), .int (nI 0)]) (wr := [xO h u ab be (Rf 0) (Rf 1) (Rf 2), (u 0, .inr (4, [.ref (s 0), .ref (s 1), .ref (s 3), .ref (s 5), .ref (s 7)])), cO (s 0) q (A 21) (A 5) (A 6) (A 7) (A 8) (A 0), (q 0, ia Z 12 (ni K)), (q 1, ia Z 12 (ni P)), (q 2, ia Z 6 (ni kd)), (q 3, ia Z 6 (ni am)), (q 4, ia Z 6 (ni st)), (q 5, ia Z 6 (ni rg)), (s 1, .inr (1, [.int (nI (A 4)), .ref (s 2)])), (s 2, ia Z 128 (ni Ro)), (s 5, .inr (3, [.int (nI (A 2)), .int (nI 5), .int (nI 6), .ref (s 6)])), (s 6, ia Z 30 (ni Nt)), (s 7, .inr (3, [.int (nI (A 3)), .int (nI 5), .int (nI 6), .ref (s 8)])), (s 8, ia Z 30 (ni Mk))]) jl_X8_206 (c_X5_add Z (s 3) (s 4) (A 1) 4 5 Sn (nt a) (nt b) (nt c) (nt d) 0 (by omega) (by omega)) 11 rfl rfl dX8_seen_74 rfl (by decide) (Nat.le_of_ble_eq_true rfl) [11, 12] [0, 1, 2, 3, 4, 5, 6, 7, 8, 9, 10, 13, 14, 15, 16] rfl rfl rfl rfl (by decide) rfl (fun rv wv hp => ?_)
            obtain ⟨rfl, rfl⟩ := hp
            refine j_world hJ (ws' := [xO h u ab be (Rf 0) (Rf 1) (Rf 2), (u 0, .inr (4, [.ref (s 0), .ref (s 1), .ref (s 3), .ref (s 5), .ref (s 7)])), cO (s 0) q (A 21) (A 5) (A 6) (A 7) (A 8) (A 0), (q 0, ia Z 12 (ni K)), (q 1, ia Z 12 (ni P)), (q 2, ia Z 6 (ni kd)), (q 3, ia Z 6 (ni am)), (q 4, ia Z 6 (ni st)), (q 5, ia Z 6 (ni rg)), (s 1, .inr (1, [.int (nI (A 4)), .ref (s 2)])), (s 2, ia Z 128 (ni Ro)), ((s 3), .inr (3, [.int (nI ((A 1) + 1)), .int (nI 4), .int (nI 5), .ref (s 4)])), ((s 4), ia Z 30 (ni (lay5 Sn ((A 1) * 5) (nt a) (nt b) (nt c) (nt d) 0))), (s 5, .inr (3, [.int (nI (A 2)), .int (nI 5), .int (nI 6), .ref (s 6)])), (s 6, ia Z 30 (ni Nt)), (s 7, .inr (3, [.int (nI (A 3)), .int (nI 5), .int (nI 6), .ref (s 8)])), (s 8, ia Z 30 (ni Mk))]) [0, 1, 2, 3, 4, 5, 6, 7, 8, 9, 10, 15, 16, 11, 12, 13, 14] rfl rfl ?_
            show J 77 [(0, .ref h), (1, .int (nI (nt a))), (2, .int (nI (nt b))), (3, .int (nI (nt c))), (4, .int (nI (nt d)))] [] [xO h u ab be (Rf 0) (Rf 1) (Rf 2), (u 0, .inr (4, [.ref (s 0), .ref (s 1), .ref (s 3), .ref (s 5), .ref (s 7)])), cO (s 0) q (A 21) (A 5) (A 6) (A 7) (A 8) (A 0), (q 0, ia Z 12 (ni K)), (q 1, ia Z 12 (ni P)), (q 2, ia Z 6 (ni kd)), (q 3, ia Z 6 (ni am)), (q 4, ia Z 6 (ni st)), (q 5, ia Z 6 (ni rg)), (s 1, .inr (1, [.int (nI (A 4)), .ref (s 2)])), (s 2, ia Z 128 (ni Ro)), ((s 3), .inr (3, [.int (nI ((A 1) + 1)), .int (nI 4), .int (nI 5), .ref (s 4)])), ((s 4), ia Z 30 (ni (lay5 Sn ((A 1) * 5) (nt a) (nt b) (nt c) (nt d) 0))), (s 5, .inr (3, [.int (nI (A 2)), .int (nI 5), .int (nI 6), .ref (s 6)])), (s 6, ia Z 30 (ni Nt)), (s 7, .inr (3, [.int (nI (A 3)), .int (nI 5), .int (nI 6), .ref (s 8)])), (s 8, ia Z 30 (ni Mk))] 0 0
            refine j_aload_n hJ (q := 78) dX8_seen_77 rfl 0 rfl rfl ?_
            refine j_get hJ (q := 81) jf_X8_10 dX8_seen_78 0 rfl rfl rfl ?_
            refine j_get hJ (q := 84) jf_X8_196 dX8_seen_81 1 rfl rfl rfl ?_
            refine j_get hJ (q := 87) jf_X8_210 dX8_seen_84 11 rfl rfl rfl ?_
            have hP0 : isS A a ∧ rgI 0 99 b ∧ rgI 0 3 c ∧ rgI 0 15 d := by simp only [rgI, isS, isR, pNote, pMark]; omega
            have hQ0 : ¬ (A 1 = 5) := by omega
            have hAo : (a_seen A a b c d) = va_up (lay4 A (58 + 4 * A 1) (nt a) (nt b) (nt c) (nt d)) 1 (A 1 + 1) := by simp only [a_seen, if_pos hP0, if_neg hQ0]
            have hRo : (r_seen A Rf a b c d) = Rf := by simp only [r_seen, if_pos hP0, if_neg hQ0]
            have es21 : (va_up (lay4 A (58 + 4 * A 1) (nt a) (nt b) (nt c) (nt d)) 1 (A 1 + 1)) 21 = A 21 := by simp only [va_up]; rw [if_neg (by decide)]; exact lay4_lt (by omega)
            have es5 : (va_up (lay4 A (58 + 4 * A 1) (nt a) (nt b) (nt c) (nt d)) 1 (A 1 + 1)) 5 = A 5 := by simp only [va_up]; rw [if_neg (by decide)]; exact lay4_lt (by omega)
            have es6 : (va_up (lay4 A (58 + 4 * A 1) (nt a) (nt b) (nt c) (nt d)) 1 (A 1 + 1)) 6 = A 6 := by simp only [va_up]; rw [if_neg (by decide)]; exact lay4_lt (by omega)
            have es7 : (va_up (lay4 A (58 + 4 * A 1) (nt a) (nt b) (nt c) (nt d)) 1 (A 1 + 1)) 7 = A 7 := by simp only [va_up]; rw [if_neg (by decide)]; exact lay4_lt (by omega)
            have es8 : (va_up (lay4 A (58 + 4 * A 1) (nt a) (nt b) (nt c) (nt d)) 1 (A 1 + 1)) 8 = A 8 := by simp only [va_up]; rw [if_neg (by decide)]; exact lay4_lt (by omega)
            have es0 : (va_up (lay4 A (58 + 4 * A 1) (nt a) (nt b) (nt c) (nt d)) 1 (A 1 + 1)) 0 = A 0 := by simp only [va_up]; rw [if_neg (by decide)]; exact lay4_lt (by omega)
            have es1 : (va_up (lay4 A (58 + 4 * A 1) (nt a) (nt b) (nt c) (nt d)) 1 (A 1 + 1)) 1 = A 1 + 1 := rfl
            have es2 : (va_up (lay4 A (58 + 4 * A 1) (nt a) (nt b) (nt c) (nt d)) 1 (A 1 + 1)) 2 = A 2 := by simp only [va_up]; rw [if_neg (by decide)]; exact lay4_lt (by omega)
            have es3 : (va_up (lay4 A (58 + 4 * A 1) (nt a) (nt b) (nt c) (nt d)) 1 (A 1 + 1)) 3 = A 3 := by simp only [va_up]; rw [if_neg (by decide)]; exact lay4_lt (by omega)
            have es4 : (va_up (lay4 A (58 + 4 * A 1) (nt a) (nt b) (nt c) (nt d)) 1 (A 1 + 1)) 4 = A 4 := by simp only [va_up]; rw [if_neg (by decide)]; exact lay4_lt (by omega)
            have e1 : ∀ j, j ≠ 1 → j < 58 → (va_up (lay4 A (58 + 4 * A 1) (nt a) (nt b) (nt c) (nt d)) 1 (A 1 + 1)) j = A j := fun j h h2 => by simp only [va_up]; rw [if_neg h]; exact lay4_lt (by omega)
            exact hE.1 _ _ _ _ _ _ _ rfl rfl dX8_seen_87 (Nat.le_refl _) (Nat.le_refl _) (⟨K, P, kd, am, st, rg, Ro, (lay5 Sn ((A 1) * 5) (nt a) (nt b) (nt c) (nt d) 0), Nt, Mk, congrArg (fun z => some (Value.int z)) ((zI_nat _).symm.trans (congrArg zI (by simp only [z_seen, if_pos hP0, if_neg hQ0]; omega))), by rw [hAo, hRo] <;> first | rfl | (simp only [es21, es5, es6, es7, es8, es0, es1, es2, es3, es4]), by rw [hAo]; exact ⟨rR_of hR (fun j hj => e1 j (by omega) (by omega)) w6 w2, rX_seen hX (by omega)⟩⟩)
          · skip
            refine j_aload_n hJ (q := 57) dX8_seen_56 rfl 0 rfl rfl ?_
            refine j_vW hJ (q := 60) (rest := []) (As := []) (wr := [(u 0, .inr (4, [.ref (s 0), .ref (s 1), .ref (s 3), .ref (s 5), .ref (s 7)])), cO (s 0) q (A 21) (A 5) (A 6) (A 7) (A 8) (A 0), (q 0, ia Z 12 (ni K)), (q 1, ia Z 12 (ni P)), (q 2, ia Z 6 (ni kd)), (q 3, ia Z 6 (ni am)), (q 4, ia Z 6 (ni st)), (q 5, ia Z 6 (ni rg)), (s 1, .inr (1, [.int (nI (A 4)), .ref (s 2)])), (s 2, ia Z 128 (ni Ro)), (s 3, .inr (3, [.int (nI (A 1)), .int (nI 4), .int (nI 5), .ref (s 4)])), (s 4, ia Z 30 (ni Sn)), (s 5, .inr (3, [.int (nI (A 2)), .int (nI 5), .int (nI 6), .ref (s 6)])), (s 6, ia Z 30 (ni Nt)), (s 7, .inr (3, [.int (nI (A 3)), .int (nI 5), .int (nI 6), .ref (s 8)])), (s 8, ia Z 30 (ni Mk))]) jl_X8_107 (c_X8_full Z h u ab be Rf ) 0 rfl rfl dX8_seen_57 rfl (by decide) (Nat.le_of_ble_eq_true rfl) [0] [1, 2, 3, 4, 5, 6, 7, 8, 9, 10, 11, 12, 13, 14, 15, 16] rfl rfl rfl rfl (by decide) rfl (fun rv wv hp => ?_)
            obtain ⟨rfl, rfl⟩ := hp
            refine j_world hJ (ws' := [xO h u ab be ((bmp Rf 2) 0) ((bmp Rf 2) 1) ((bmp Rf 2) 2), (u 0, .inr (4, [.ref (s 0), .ref (s 1), .ref (s 3), .ref (s 5), .ref (s 7)])), cO (s 0) q (A 21) (A 5) (A 6) (A 7) (A 8) (A 0), (q 0, ia Z 12 (ni K)), (q 1, ia Z 12 (ni P)), (q 2, ia Z 6 (ni kd)), (q 3, ia Z 6 (ni am)), (q 4, ia Z 6 (ni st)), (q 5, ia Z 6 (ni rg)), (s 1, .inr (1, [.int (nI (A 4)), .ref (s 2)])), (s 2, ia Z 128 (ni Ro)), (s 3, .inr (3, [.int (nI (A 1)), .int (nI 4), .int (nI 5), .ref (s 4)])), (s 4, ia Z 30 (ni Sn)), (s 5, .inr (3, [.int (nI (A 2)), .int (nI 5), .int (nI 6), .ref (s 6)])), (s 6, ia Z 30 (ni Nt)), (s 7, .inr (3, [.int (nI (A 3)), .int (nI 5), .int (nI 6), .ref (s 8)])), (s 8, ia Z 30 (ni Mk))]) [16, 0, 1, 2, 3, 4, 5, 6, 7, 8, 9, 10, 11, 12, 13, 14, 15] rfl rfl ?_
            show J 60 [(0, .ref h), (1, .int (nI (nt a))), (2, .int (nI (nt b))), (3, .int (nI (nt c))), (4, .int (nI (nt d)))] [.int (zI (-4))] [xO h u ab be ((bmp Rf 2) 0) ((bmp Rf 2) 1) ((bmp Rf 2) 2), (u 0, .inr (4, [.ref (s 0), .ref (s 1), .ref (s 3), .ref (s 5), .ref (s 7)])), cO (s 0) q (A 21) (A 5) (A 6) (A 7) (A 8) (A 0), (q 0, ia Z 12 (ni K)), (q 1, ia Z 12 (ni P)), (q 2, ia Z 6 (ni kd)), (q 3, ia Z 6 (ni am)), (q 4, ia Z 6 (ni st)), (q 5, ia Z 6 (ni rg)), (s 1, .inr (1, [.int (nI (A 4)), .ref (s 2)])), (s 2, ia Z 128 (ni Ro)), (s 3, .inr (3, [.int (nI (A 1)), .int (nI 4), .int (nI 5), .ref (s 4)])), (s 4, ia Z 30 (ni Sn)), (s 5, .inr (3, [.int (nI (A 2)), .int (nI 5), .int (nI 6), .ref (s 6)])), (s 6, ia Z 30 (ni Nt)), (s 7, .inr (3, [.int (nI (A 3)), .int (nI 5), .int (nI 6), .ref (s 8)])), (s 8, ia Z 30 (ni Mk))] 0 0
            have hP0 : isS A a ∧ rgI 0 99 b ∧ rgI 0 3 c ∧ rgI 0 15 d := by simp only [rgI, isS, isR, pNote, pMark]; omega
            have hQ0 : A 1 = 5 := by omega
            have hAo : (a_seen A a b c d) = A := by simp only [a_seen, if_pos hP0, if_pos hQ0]
            have hRo : (r_seen A Rf a b c d) = bmp Rf 2 := by simp only [r_seen, if_pos hP0, if_pos hQ0]
            exact hE.1 _ _ _ _ _ _ _ rfl rfl dX8_seen_60 (Nat.le_refl _) (Nat.le_refl _) (⟨K, P, kd, am, st, rg, Ro, Sn, Nt, Mk, congrArg (fun z => some (Value.int (zI z))) (by simp only [z_seen, if_pos hP0, if_pos hQ0]), by rw [hAo, hRo] <;> first | rfl | (skip), by rw [hAo]; exact hA⟩)
        · skip
          refine j_aload_n hJ (q := 39) dX8_seen_38 rfl 0 rfl rfl ?_
          refine j_vW hJ (q := 42) (rest := []) (As := []) (wr := [(u 0, .inr (4, [.ref (s 0), .ref (s 1), .ref (s 3), .ref (s 5), .ref (s 7)])), cO (s 0) q (A 21) (A 5) (A 6) (A 7) (A 8) (A 0), (q 0, ia Z 12 (ni K)), (q 1, ia Z 12 (ni P)), (q 2, ia Z 6 (ni kd)), (q 3, ia Z 6 (ni am)), (q 4, ia Z 6 (ni st)), (q 5, ia Z 6 (ni rg)), (s 1, .inr (1, [.int (nI (A 4)), .ref (s 2)])), (s 2, ia Z 128 (ni Ro)), (s 3, .inr (3, [.int (nI (A 1)), .int (nI 4), .int (nI 5), .ref (s 4)])), (s 4, ia Z 30 (ni Sn)), (s 5, .inr (3, [.int (nI (A 2)), .int (nI 5), .int (nI 6), .ref (s 6)])), (s 6, ia Z 30 (ni Nt)), (s 7, .inr (3, [.int (nI (A 3)), .int (nI 5), .int (nI 6), .ref (s 8)])), (s 8, ia Z 30 (ni Mk))]) jl_X8_62 (c_X8_bad Z h u ab be Rf ) 0 rfl rfl dX8_seen_39 rfl (by decide) (Nat.le_of_ble_eq_true rfl) [0] [1, 2, 3, 4, 5, 6, 7, 8, 9, 10, 11, 12, 13, 14, 15, 16] rfl rfl rfl rfl (by decide) rfl (fun rv wv hp => ?_)
          obtain ⟨rfl, rfl⟩ := hp
          refine j_world hJ (ws' := [xO h u ab be ((bmp Rf 0) 0) ((bmp Rf 0) 1) ((bmp Rf 0) 2), (u 0, .inr (4, [.ref (s 0), .ref (s 1), .ref (s 3), .ref (s 5), .ref (s 7)])), cO (s 0) q (A 21) (A 5) (A 6) (A 7) (A 8) (A 0), (q 0, ia Z 12 (ni K)), (q 1, ia Z 12 (ni P)), (q 2, ia Z 6 (ni kd)), (q 3, ia Z 6 (ni am)), (q 4, ia Z 6 (ni st)), (q 5, ia Z 6 (ni rg)), (s 1, .inr (1, [.int (nI (A 4)), .ref (s 2)])), (s 2, ia Z 128 (ni Ro)), (s 3, .inr (3, [.int (nI (A 1)), .int (nI 4), .int (nI 5), .ref (s 4)])), (s 4, ia Z 30 (ni Sn)), (s 5, .inr (3, [.int (nI (A 2)), .int (nI 5), .int (nI 6), .ref (s 6)])), (s 6, ia Z 30 (ni Nt)), (s 7, .inr (3, [.int (nI (A 3)), .int (nI 5), .int (nI 6), .ref (s 8)])), (s 8, ia Z 30 (ni Mk))]) [16, 0, 1, 2, 3, 4, 5, 6, 7, 8, 9, 10, 11, 12, 13, 14, 15] rfl rfl ?_
          show J 42 [(0, .ref h), (1, .int a), (2, .int b), (3, .int c), (4, .int d)] [.int (zI (-2))] [xO h u ab be ((bmp Rf 0) 0) ((bmp Rf 0) 1) ((bmp Rf 0) 2), (u 0, .inr (4, [.ref (s 0), .ref (s 1), .ref (s 3), .ref (s 5), .ref (s 7)])), cO (s 0) q (A 21) (A 5) (A 6) (A 7) (A 8) (A 0), (q 0, ia Z 12 (ni K)), (q 1, ia Z 12 (ni P)), (q 2, ia Z 6 (ni kd)), (q 3, ia Z 6 (ni am)), (q 4, ia Z 6 (ni st)), (q 5, ia Z 6 (ni rg)), (s 1, .inr (1, [.int (nI (A 4)), .ref (s 2)])), (s 2, ia Z 128 (ni Ro)), (s 3, .inr (3, [.int (nI (A 1)), .int (nI 4), .int (nI 5), .ref (s 4)])), (s 4, ia Z 30 (ni Sn)), (s 5, .inr (3, [.int (nI (A 2)), .int (nI 5), .int (nI 6), .ref (s 6)])), (s 6, ia Z 30 (ni Nt)), (s 7, .inr (3, [.int (nI (A 3)), .int (nI 5), .int (nI 6), .ref (s 8)])), (s 8, ia Z 30 (ni Mk))] 0 0
          have hP0 : ¬ (isS A a ∧ rgI 0 99 b ∧ rgI 0 3 c ∧ rgI 0 15 d) := by simp only [rgI, isS, isR, pNote, pMark]; omega
          have hAo : (a_seen A a b c d) = A := by simp only [a_seen, if_neg hP0]
          have hRo : (r_seen A Rf a b c d) = bmp Rf 0 := by simp only [r_seen, if_neg hP0]
          exact hE.1 _ _ _ _ _ _ _ rfl rfl dX8_seen_42 (Nat.le_refl _) (Nat.le_refl _) (⟨K, P, kd, am, st, rg, Ro, Sn, Nt, Mk, congrArg (fun z => some (Value.int (zI z))) (by simp only [z_seen, if_neg hP0]), by rw [hAo, hRo] <;> first | rfl | (skip), by rw [hAo]; exact hA⟩)

set_option maxHeartbeats 4000000 in
set_option maxRecDepth 100000 in
theorem c_X8_note (Z : jZ) (h : Nat) (u : Nat → Nat) (ab : Int) (be : Int) (Rf : Nat → Nat) (s : Nat → Nat) (q : Nat → Nat) (A : Nat → Nat) (K : Nat → Nat) (P : Nat → Nat) (kd : Nat → Nat) (am : Nat → Nat) (st : Nat → Nat) (rg : Nat → Nat) (Ro : Nat → Nat) (Sn : Nat → Nat) (Nt : Nat → Nat) (Mk : Nat → Nat) (a : Int32) (b : Int32) (c : Int32) (d : Int32) (e : Int32) (hg : wg A) (hA : rA A K P kd am st rg Ro Sn Nt Mk) : CT Z yX8_note cX8_note 6 ((some FieldType.int)) 3 0 0 [.ref h, .int a, .int b, .int c, .int d, .int e] [xO h u ab be (Rf 0) (Rf 1) (Rf 2), (u 0, .inr (4, [.ref (s 0), .ref (s 1), .ref (s 3), .ref (s 5), .ref (s 7)])), cO (s 0) q (A 21) (A 5) (A 6) (A 7) (A 8) (A 0), (q 0, ia Z 12 (ni K)), (q 1, ia Z 12 (ni P)), (q 2, ia Z 6 (ni kd)), (q 3, ia Z 6 (ni am)), (q 4, ia Z 6 (ni st)), (q 5, ia Z 6 (ni rg)), (s 1, .inr (1, [.int (nI (A 4)), .ref (s 2)])), (s 2, ia Z 128 (ni Ro)), (s 3, .inr (3, [.int (nI (A 1)), .int (nI 4), .int (nI 5), .ref (s 4)])), (s 4, ia Z 30 (ni Sn)), (s 5, .inr (3, [.int (nI (A 2)), .int (nI 5), .int (nI 6), .ref (s 6)])), (s 6, ia Z 30 (ni Nt)), (s 7, .inr (3, [.int (nI (A 3)), .int (nI 5), .int (nI 6), .ref (s 8)])), (s 8, ia Z 30 (ni Mk))] (fun rr ww => ∃ Kz : Nat → Nat, ∃ Pz : Nat → Nat, ∃ kdz : Nat → Nat, ∃ amz : Nat → Nat, ∃ stz : Nat → Nat, ∃ rgz : Nat → Nat, ∃ Roz : Nat → Nat, ∃ Snz : Nat → Nat, ∃ Ntz : Nat → Nat, ∃ Mkz : Nat → Nat, rr = some (.int (zI (z_note A a b c d e))) ∧ ww = [xO h u ab be ((r_note A Rf a b c d e) 0) ((r_note A Rf a b c d e) 1) ((r_note A Rf a b c d e) 2), (u 0, .inr (4, [.ref (s 0), .ref (s 1), .ref (s 3), .ref (s 5), .ref (s 7)])), cO (s 0) q ((a_note A a b c d e) 21) ((a_note A a b c d e) 5) ((a_note A a b c d e) 6) ((a_note A a b c d e) 7) ((a_note A a b c d e) 8) ((a_note A a b c d e) 0), (q 0, ia Z 12 (ni Kz)), (q 1, ia Z 12 (ni Pz)), (q 2, ia Z 6 (ni kdz)), (q 3, ia Z 6 (ni amz)), (q 4, ia Z 6 (ni stz)), (q 5, ia Z 6 (ni rgz)), (s 1, .inr (1, [.int (nI ((a_note A a b c d e) 4)), .ref (s 2)])), (s 2, ia Z 128 (ni Roz)), (s 3, .inr (3, [.int (nI ((a_note A a b c d e) 1)), .int (nI 4), .int (nI 5), .ref (s 4)])), (s 4, ia Z 30 (ni Snz)), (s 5, .inr (3, [.int (nI ((a_note A a b c d e) 2)), .int (nI 5), .int (nI 6), .ref (s 6)])), (s 6, ia Z 30 (ni Ntz)), (s 7, .inr (3, [.int (nI ((a_note A a b c d e) 3)), .int (nI 5), .int (nI 6), .ref (s 8)])), (s 8, ia Z 30 (ni Mkz))] ∧ (rA (a_note A a b c d e) Kz Pz kdz amz stz rgz Roz Snz Ntz Mkz)) := by
  refine CT.of RX8 false rfl (fun h => by cases h) (by decide +kernel) (Nat.le_of_ble_eq_true rfl) ?_
  intro J hJ hE
  show J 0 [(0, .ref h), (1, .int a), (2, .int b), (3, .int c), (4, .int d), (5, .int e)] [] [xO h u ab be (Rf 0) (Rf 1) (Rf 2), (u 0, .inr (4, [.ref (s 0), .ref (s 1), .ref (s 3), .ref (s 5), .ref (s 7)])), cO (s 0) q (A 21) (A 5) (A 6) (A 7) (A 8) (A 0), (q 0, ia Z 12 (ni K)), (q 1, ia Z 12 (ni P)), (q 2, ia Z 6 (ni kd)), (q 3, ia Z 6 (ni am)), (q 4, ia Z 6 (ni st)), (q 5, ia Z 6 (ni rg)), (s 1, .inr (1, [.int (nI (A 4)), .ref (s 2)])), (s 2, ia Z 128 (ni Ro)), (s 3, .inr (3, [.int (nI (A 1)), .int (nI 4), .int (nI 5), .ref (s 4)])), (s 4, ia Z 30 (ni Sn)), (s 5, .inr (3, [.int (nI (A 2)), .int (nI 5), .int (nI 6), .ref (s 6)])), (s 6, ia Z 30 (ni Nt)), (s 7, .inr (3, [.int (nI (A 3)), .int (nI 5), .int (nI 6), .ref (s 8)])), (s 8, ia Z 30 (ni Mk))] 0 0
  obtain ⟨hw, ⟨g1, g2, g3, g4, g8⟩, hrs, hrn, hrm, hpst⟩ := id hg
  obtain ⟨⟨w1, w2, w3, w4, w5, w6⟩, hb, wr, wh, wd⟩ := id hw
  obtain ⟨hR, hX⟩ := id hA
  obtain ⟨hP, hSn, hNt, hMk⟩ := id hX
  have hr_a := zI_rng a
  have hr_b := zI_rng b
  have hr_c := zI_rng c
  have hr_d := zI_rng d
  have hr_e := zI_rng e
  refine j_aload_n hJ (q := 1) dX8_note_0 rfl 0 rfl rfl ?_
  refine j_iload_n hJ (q := 2) dX8_note_1 rfl 1 rfl rfl ?_
  refine j_vR hJ (q := 5) (rest := []) (As := [.int a]) jl_X8_80 (c_X8_isSeat Z h u ab be Rf s q A K P kd am st rg a (by omega)) 0 rfl rfl dX8_note_2 rfl (by decide) (Nat.le_of_ble_eq_true rfl) [0, 1, 2, 3, 4, 5, 6, 7, 8] rfl rfl (fun rv hp => ?_)
  obtain rfl := hp
  show J 5 [(0, .ref h), (1, .int a), (2, .int b), (3, .int c), (4, .int d), (5, .int e)] [.int (bI (decide (0 ≤ a.toInt ∧ a.toInt ≤ (A 21 : Int) - 1)))] [xO h u ab be (Rf 0) (Rf 1) (Rf 2), (u 0, .inr (4, [.ref (s 0), .ref (s 1), .ref (s 3), .ref (s 5), .ref (s 7)])), cO (s 0) q (A 21) (A 5) (A 6) (A 7) (A 8) (A 0), (q 0, ia Z 12 (ni K)), (q 1, ia Z 12 (ni P)), (q 2, ia Z 6 (ni kd)), (q 3, ia Z 6 (ni am)), (q 4, ia Z 6 (ni st)), (q 5, ia Z 6 (ni rg)), (s 1, .inr (1, [.int (nI (A 4)), .ref (s 2)])), (s 2, ia Z 128 (ni Ro)), (s 3, .inr (3, [.int (nI (A 1)), .int (nI 4), .int (nI 5), .ref (s 4)])), (s 4, ia Z 30 (ni Sn)), (s 5, .inr (3, [.int (nI (A 2)), .int (nI 5), .int (nI 6), .ref (s 6)])), (s 6, ia Z 30 (ni Nt)), (s 7, .inr (3, [.int (nI (A 3)), .int (nI 5), .int (nI 6), .ref (s 8)])), (s 8, ia Z 30 (ni Mk))] 0 0
  refine jp_if_eq hJ (q := 8) (tgt := 49) dX8_note_5 (by decide) rfl (fun c1 => ?_) (fun c1 => ?_)
  · skip
    refine j_aload_n hJ (q := 50) dX8_note_49 rfl 0 rfl rfl ?_
    refine j_vW hJ (q := 53) (rest := []) (As := []) (wr := [(u 0, .inr (4, [.ref (s 0), .ref (s 1), .ref (s 3), .ref (s 5), .ref (s 7)])), cO (s 0) q (A 21) (A 5) (A 6) (A 7) (A 8) (A 0), (q 0, ia Z 12 (ni K)), (q 1, ia Z 12 (ni P)), (q 2, ia Z 6 (ni kd)), (q 3, ia Z 6 (ni am)), (q 4, ia Z 6 (ni st)), (q 5, ia Z 6 (ni rg)), (s 1, .inr (1, [.int (nI (A 4)), .ref (s 2)])), (s 2, ia Z 128 (ni Ro)), (s 3, .inr (3, [.int (nI (A 1)), .int (nI 4), .int (nI 5), .ref (s 4)])), (s 4, ia Z 30 (ni Sn)), (s 5, .inr (3, [.int (nI (A 2)), .int (nI 5), .int (nI 6), .ref (s 6)])), (s 6, ia Z 30 (ni Nt)), (s 7, .inr (3, [.int (nI (A 3)), .int (nI 5), .int (nI 6), .ref (s 8)])), (s 8, ia Z 30 (ni Mk))]) jl_X8_62 (c_X8_bad Z h u ab be Rf ) 0 rfl rfl dX8_note_50 rfl (by decide) (Nat.le_of_ble_eq_true rfl) [0] [1, 2, 3, 4, 5, 6, 7, 8, 9, 10, 11, 12, 13, 14, 15, 16] rfl rfl rfl rfl (by decide) rfl (fun rv wv hp => ?_)
    obtain ⟨rfl, rfl⟩ := hp
    refine j_world hJ (ws' := [xO h u ab be ((bmp Rf 0) 0) ((bmp Rf 0) 1) ((bmp Rf 0) 2), (u 0, .inr (4, [.ref (s 0), .ref (s 1), .ref (s 3), .ref (s 5), .ref (s 7)])), cO (s 0) q (A 21) (A 5) (A 6) (A 7) (A 8) (A 0), (q 0, ia Z 12 (ni K)), (q 1, ia Z 12 (ni P)), (q 2, ia Z 6 (ni kd)), (q 3, ia Z 6 (ni am)), (q 4, ia Z 6 (ni st)), (q 5, ia Z 6 (ni rg)), (s 1, .inr (1, [.int (nI (A 4)), .ref (s 2)])), (s 2, ia Z 128 (ni Ro)), (s 3, .inr (3, [.int (nI (A 1)), .int (nI 4), .int (nI 5), .ref (s 4)])), (s 4, ia Z 30 (ni Sn)), (s 5, .inr (3, [.int (nI (A 2)), .int (nI 5), .int (nI 6), .ref (s 6)])), (s 6, ia Z 30 (ni Nt)), (s 7, .inr (3, [.int (nI (A 3)), .int (nI 5), .int (nI 6), .ref (s 8)])), (s 8, ia Z 30 (ni Mk))]) [16, 0, 1, 2, 3, 4, 5, 6, 7, 8, 9, 10, 11, 12, 13, 14, 15] rfl rfl ?_
    show J 53 [(0, .ref h), (1, .int a), (2, .int b), (3, .int c), (4, .int d), (5, .int e)] [.int (zI (-2))] [xO h u ab be ((bmp Rf 0) 0) ((bmp Rf 0) 1) ((bmp Rf 0) 2), (u 0, .inr (4, [.ref (s 0), .ref (s 1), .ref (s 3), .ref (s 5), .ref (s 7)])), cO (s 0) q (A 21) (A 5) (A 6) (A 7) (A 8) (A 0), (q 0, ia Z 12 (ni K)), (q 1, ia Z 12 (ni P)), (q 2, ia Z 6 (ni kd)), (q 3, ia Z 6 (ni am)), (q 4, ia Z 6 (ni st)), (q 5, ia Z 6 (ni rg)), (s 1, .inr (1, [.int (nI (A 4)), .ref (s 2)])), (s 2, ia Z 128 (ni Ro)), (s 3, .inr (3, [.int (nI (A 1)), .int (nI 4), .int (nI 5), .ref (s 4)])), (s 4, ia Z 30 (ni Sn)), (s 5, .inr (3, [.int (nI (A 2)), .int (nI 5), .int (nI 6), .ref (s 6)])), (s 6, ia Z 30 (ni Nt)), (s 7, .inr (3, [.int (nI (A 3)), .int (nI 5), .int (nI 6), .ref (s 8)])), (s 8, ia Z 30 (ni Mk))] 0 0
    have hP0 : ¬ (pNote A a b c d e) := by simp only [rgI, isS, isR, pNote, pMark]; omega
    have hAo : (a_note A a b c d e) = A := by simp only [a_note, if_neg hP0]
    have hRo : (r_note A Rf a b c d e) = bmp Rf 0 := by simp only [r_note, if_neg hP0]
    exact hE.1 _ _ _ _ _ _ _ rfl rfl dX8_note_53 (Nat.le_refl _) (Nat.le_refl _) (⟨K, P, kd, am, st, rg, Ro, Sn, Nt, Mk, congrArg (fun z => some (Value.int (zI z))) (by simp only [z_note, if_neg hP0]), by rw [hAo, hRo] <;> first | rfl | (skip), by rw [hAo]; exact hA⟩)
  · skip
    refine j_iload_n hJ (q := 9) dX8_note_8 rfl 2 rfl rfl ?_
    refine j_iconst hJ (q := 10) dX8_note_9 rfl ki_0 ?_
    refine j_bipush hJ (q := 12) dX8_note_10 rfl kb_7 ?_
    refine j_sR hJ (q := 15) (rest := []) (As := [.int b, .int (zI 0), .int (zI 7)]) jl_X8_58 (c_X8_within Z b 0 7 (by omega) (by omega)) dX8_note_12 rfl (by decide) (Nat.le_of_ble_eq_true rfl) [] rfl rfl (fun rv hp => ?_)
    obtain rfl := hp
    show J 15 [(0, .ref h), (1, .int a), (2, .int b), (3, .int c), (4, .int d), (5, .int e)] [.int (bI (decide (0 ≤ b.toInt ∧ b.toInt ≤ 7)))] [xO h u ab be (Rf 0) (Rf 1) (Rf 2), (u 0, .inr (4, [.ref (s 0), .ref (s 1), .ref (s 3), .ref (s 5), .ref (s 7)])), cO (s 0) q (A 21) (A 5) (A 6) (A 7) (A 8) (A 0), (q 0, ia Z 12 (ni K)), (q 1, ia Z 12 (ni P)), (q 2, ia Z 6 (ni kd)), (q 3, ia Z 6 (ni am)), (q 4, ia Z 6 (ni st)), (q 5, ia Z 6 (ni rg)), (s 1, .inr (1, [.int (nI (A 4)), .ref (s 2)])), (s 2, ia Z 128 (ni Ro)), (s 3, .inr (3, [.int (nI (A 1)), .int (nI 4), .int (nI 5), .ref (s 4)])), (s 4, ia Z 30 (ni Sn)), (s 5, .inr (3, [.int (nI (A 2)), .int (nI 5), .int (nI 6), .ref (s 6)])), (s 6, ia Z 30 (ni Nt)), (s 7, .inr (3, [.int (nI (A 3)), .int (nI 5), .int (nI 6), .ref (s 8)])), (s 8, ia Z 30 (ni Mk))] 0 0
    refine jp_if_eq hJ (q := 18) (tgt := 49) dX8_note_15 (by decide) rfl (fun c2 => ?_) (fun c2 => ?_)
    · skip
      refine j_aload_n hJ (q := 50) dX8_note_49 rfl 0 rfl rfl ?_
      refine j_vW hJ (q := 53) (rest := []) (As := []) (wr := [(u 0, .inr (4, [.ref (s 0), .ref (s 1), .ref (s 3), .ref (s 5), .ref (s 7)])), cO (s 0) q (A 21) (A 5) (A 6) (A 7) (A 8) (A 0), (q 0, ia Z 12 (ni K)), (q 1, ia Z 12 (ni P)), (q 2, ia Z 6 (ni kd)), (q 3, ia Z 6 (ni am)), (q 4, ia Z 6 (ni st)), (q 5, ia Z 6 (ni rg)), (s 1, .inr (1, [.int (nI (A 4)), .ref (s 2)])), (s 2, ia Z 128 (ni Ro)), (s 3, .inr (3, [.int (nI (A 1)), .int (nI 4), .int (nI 5), .ref (s 4)])), (s 4, ia Z 30 (ni Sn)), (s 5, .inr (3, [.int (nI (A 2)), .int (nI 5), .int (nI 6), .ref (s 6)])), (s 6, ia Z 30 (ni Nt)), (s 7, .inr (3, [.int (nI (A 3)), .int (nI 5), .int (nI 6), .ref (s 8)])), (s 8, ia Z 30 (ni Mk))]) jl_X8_62 (c_X8_bad Z h u ab be Rf ) 0 rfl rfl dX8_note_50 rfl (by decide) (Nat.le_of_ble_eq_true rfl) [0] [1, 2, 3, 4, 5, 6, 7, 8, 9, 10, 11, 12, 13, 14, 15, 16] rfl rfl rfl rfl (by decide) rfl (fun rv wv hp => ?_)
      obtain ⟨rfl, rfl⟩ := hp
      refine j_world hJ (ws' := [xO h u ab be ((bmp Rf 0) 0) ((bmp Rf 0) 1) ((bmp Rf 0) 2), (u 0, .inr (4, [.ref (s 0), .ref (s 1), .ref (s 3), .ref (s 5), .ref (s 7)])), cO (s 0) q (A 21) (A 5) (A 6) (A 7) (A 8) (A 0), (q 0, ia Z 12 (ni K)), (q 1, ia Z 12 (ni P)), (q 2, ia Z 6 (ni kd)), (q 3, ia Z 6 (ni am)), (q 4, ia Z 6 (ni st)), (q 5, ia Z 6 (ni rg)), (s 1, .inr (1, [.int (nI (A 4)), .ref (s 2)])), (s 2, ia Z 128 (ni Ro)), (s 3, .inr (3, [.int (nI (A 1)), .int (nI 4), .int (nI 5), .ref (s 4)])), (s 4, ia Z 30 (ni Sn)), (s 5, .inr (3, [.int (nI (A 2)), .int (nI 5), .int (nI 6), .ref (s 6)])), (s 6, ia Z 30 (ni Nt)), (s 7, .inr (3, [.int (nI (A 3)), .int (nI 5), .int (nI 6), .ref (s 8)])), (s 8, ia Z 30 (ni Mk))]) [16, 0, 1, 2, 3, 4, 5, 6, 7, 8, 9, 10, 11, 12, 13, 14, 15] rfl rfl ?_
      show J 53 [(0, .ref h), (1, .int a), (2, .int b), (3, .int c), (4, .int d), (5, .int e)] [.int (zI (-2))] [xO h u ab be ((bmp Rf 0) 0) ((bmp Rf 0) 1) ((bmp Rf 0) 2), (u 0, .inr (4, [.ref (s 0), .ref (s 1), .ref (s 3), .ref (s 5), .ref (s 7)])), cO (s 0) q (A 21) (A 5) (A 6) (A 7) (A 8) (A 0), (q 0, ia Z 12 (ni K)), (q 1, ia Z 12 (ni P)), (q 2, ia Z 6 (ni kd)), (q 3, ia Z 6 (ni am)), (q 4, ia Z 6 (ni st)), (q 5, ia Z 6 (ni rg)), (s 1, .inr (1, [.int (nI (A 4)), .ref (s 2)])), (s 2, ia Z 128 (ni Ro)), (s 3, .inr (3, [.int (nI (A 1)), .int (nI 4), .int (nI 5), .ref (s 4)])), (s 4, ia Z 30 (ni Sn)), (s 5, .inr (3, [.int (nI (A 2)), .int (nI 5), .int (nI 6), .ref (s 6)])), (s 6, ia Z 30 (ni Nt)), (s 7, .inr (3, [.int (nI (A 3)), .int (nI 5), .int (nI 6), .ref (s 8)])), (s 8, ia Z 30 (ni Mk))] 0 0
      have hP0 : ¬ (pNote A a b c d e) := by simp only [rgI, isS, isR, pNote, pMark]; omega
      have hAo : (a_note A a b c d e) = A := by simp only [a_note, if_neg hP0]
      have hRo : (r_note A Rf a b c d e) = bmp Rf 0 := by simp only [r_note, if_neg hP0]
      exact hE.1 _ _ _ _ _ _ _ rfl rfl dX8_note_53 (Nat.le_refl _) (Nat.le_refl _) (⟨K, P, kd, am, st, rg, Ro, Sn, Nt, Mk, congrArg (fun z => some (Value.int (zI z))) (by simp only [z_note, if_neg hP0]), by rw [hAo, hRo] <;> first | rfl | (skip), by rw [hAo]; exact hA⟩)
    · skip
      refine j_iload_n hJ (q := 19) dX8_note_18 rfl 3 rfl rfl ?_
      refine j_iconst hJ (q := 20) dX8_note_19 rfl ki_0 ?_
      refine j_bipush hJ (q := 22) dX8_note_20 rfl kb_99 ?_
      refine j_sR hJ (q := 25) (rest := []) (As := [.int c, .int (zI 0), .int (zI 99)]) jl_X8_58 (c_X8_within Z c 0 99 (by omega) (by omega)) dX8_note_22 rfl (by decide) (Nat.le_of_ble_eq_true rfl) [] rfl rfl (fun rv hp => ?_)
      obtain rfl := hp
      show J 25 [(0, .ref h), (1, .int a), (2, .int b), (3, .int c), (4, .int d), (5, .int e)] [.int (bI (decide (0 ≤ c.toInt ∧ c.toInt ≤ 99)))] [xO h u ab be (Rf 0) (Rf 1) (Rf 2), (u 0, .inr (4, [.ref (s 0), .ref (s 1), .ref (s 3), .ref (s 5), .ref (s 7)])), cO (s 0) q (A 21) (A 5) (A 6) (A 7) (A 8) (A 0), (q 0, ia Z 12 (ni K)), (q 1, ia Z 12 (ni P)), (q 2, ia Z 6 (ni kd)), (q 3, ia Z 6 (ni am)), (q 4, ia Z 6 (ni st)), (q 5, ia Z 6 (ni rg)), (s 1, .inr (1, [.int (nI (A 4)), .ref (s 2)])), (s 2, ia Z 128 (ni Ro)), (s 3, .inr (3, [.int (nI (A 1)), .int (nI 4), .int (nI 5), .ref (s 4)])), (s 4, ia Z 30 (ni Sn)), (s 5, .inr (3, [.int (nI (A 2)), .int (nI 5), .int (nI 6), .ref (s 6)])), (s 6, ia Z 30 (ni Nt)), (s 7, .inr (3, [.int (nI (A 3)), .int (nI 5), .int (nI 6), .ref (s 8)])), (s 8, ia Z 30 (ni Mk))] 0 0
      refine jp_if_eq hJ (q := 28) (tgt := 49) dX8_note_25 (by decide) rfl (fun c3 => ?_) (fun c3 => ?_)
      · skip
        refine j_aload_n hJ (q := 50) dX8_note_49 rfl 0 rfl rfl ?_
        refine j_vW hJ (q := 53) (rest := []) (As := []) (wr := [(u 0, .inr (4, [.ref (s 0), .ref (s 1), .ref (s 3), .ref (s 5), .ref (s 7)])), cO (s 0) q (A 21) (A 5) (A 6) (A 7) (A 8) (A 0), (q 0, ia Z 12 (ni K)), (q 1, ia Z 12 (ni P)), (q 2, ia Z 6 (ni kd)), (q 3, ia Z 6 (ni am)), (q 4, ia Z 6 (ni st)), (q 5, ia Z 6 (ni rg)), (s 1, .inr (1, [.int (nI (A 4)), .ref (s 2)])), (s 2, ia Z 128 (ni Ro)), (s 3, .inr (3, [.int (nI (A 1)), .int (nI 4), .int (nI 5), .ref (s 4)])), (s 4, ia Z 30 (ni Sn)), (s 5, .inr (3, [.int (nI (A 2)), .int (nI 5), .int (nI 6), .ref (s 6)])), (s 6, ia Z 30 (ni Nt)), (s 7, .inr (3, [.int (nI (A 3)), .int (nI 5), .int (nI 6), .ref (s 8)])), (s 8, ia Z 30 (ni Mk))]) jl_X8_62 (c_X8_bad Z h u ab be Rf ) 0 rfl rfl dX8_note_50 rfl (by decide) (Nat.le_of_ble_eq_true rfl) [0] [1, 2, 3, 4, 5, 6, 7, 8, 9, 10, 11, 12, 13, 14, 15, 16] rfl rfl rfl rfl (by decide) rfl (fun rv wv hp => ?_)
        obtain ⟨rfl, rfl⟩ := hp
        refine j_world hJ (ws' := [xO h u ab be ((bmp Rf 0) 0) ((bmp Rf 0) 1) ((bmp Rf 0) 2), (u 0, .inr (4, [.ref (s 0), .ref (s 1), .ref (s 3), .ref (s 5), .ref (s 7)])), cO (s 0) q (A 21) (A 5) (A 6) (A 7) (A 8) (A 0), (q 0, ia Z 12 (ni K)), (q 1, ia Z 12 (ni P)), (q 2, ia Z 6 (ni kd)), (q 3, ia Z 6 (ni am)), (q 4, ia Z 6 (ni st)), (q 5, ia Z 6 (ni rg)), (s 1, .inr (1, [.int (nI (A 4)), .ref (s 2)])), (s 2, ia Z 128 (ni Ro)), (s 3, .inr (3, [.int (nI (A 1)), .int (nI 4), .int (nI 5), .ref (s 4)])), (s 4, ia Z 30 (ni Sn)), (s 5, .inr (3, [.int (nI (A 2)), .int (nI 5), .int (nI 6), .ref (s 6)])), (s 6, ia Z 30 (ni Nt)), (s 7, .inr (3, [.int (nI (A 3)), .int (nI 5), .int (nI 6), .ref (s 8)])), (s 8, ia Z 30 (ni Mk))]) [16, 0, 1, 2, 3, 4, 5, 6, 7, 8, 9, 10, 11, 12, 13, 14, 15] rfl rfl ?_
        show J 53 [(0, .ref h), (1, .int a), (2, .int b), (3, .int c), (4, .int d), (5, .int e)] [.int (zI (-2))] [xO h u ab be ((bmp Rf 0) 0) ((bmp Rf 0) 1) ((bmp Rf 0) 2), (u 0, .inr (4, [.ref (s 0), .ref (s 1), .ref (s 3), .ref (s 5), .ref (s 7)])), cO (s 0) q (A 21) (A 5) (A 6) (A 7) (A 8) (A 0), (q 0, ia Z 12 (ni K)), (q 1, ia Z 12 (ni P)), (q 2, ia Z 6 (ni kd)), (q 3, ia Z 6 (ni am)), (q 4, ia Z 6 (ni st)), (q 5, ia Z 6 (ni rg)), (s 1, .inr (1, [.int (nI (A 4)), .ref (s 2)])), (s 2, ia Z 128 (ni Ro)), (s 3, .inr (3, [.int (nI (A 1)), .int (nI 4), .int (nI 5), .ref (s 4)])), (s 4, ia Z 30 (ni Sn)), (s 5, .inr (3, [.int (nI (A 2)), .int (nI 5), .int (nI 6), .ref (s 6)])), (s 6, ia Z 30 (ni Nt)), (s 7, .inr (3, [.int (nI (A 3)), .int (nI 5), .int (nI 6), .ref (s 8)])), (s 8, ia Z 30 (ni Mk))] 0 0
        have hP0 : ¬ (pNote A a b c d e) := by simp only [rgI, isS, isR, pNote, pMark]; omega
        have hAo : (a_note A a b c d e) = A := by simp only [a_note, if_neg hP0]
        have hRo : (r_note A Rf a b c d e) = bmp Rf 0 := by simp only [r_note, if_neg hP0]
        exact hE.1 _ _ _ _ _ _ _ rfl rfl dX8_note_53 (Nat.le_refl _) (Nat.le_refl _) (⟨K, P, kd, am, st, rg, Ro, Sn, Nt, Mk, congrArg (fun z => some (Value.int (zI z))) (by simp only [z_note, if_neg hP0]), by rw [hAo, hRo] <;> first | rfl | (skip), by rw [hAo]; exact hA⟩)
      · skip
        refine j_iload hJ (q := 30) dX8_note_28 4 rfl rfl ?_
        refine j_iconst hJ (q := 31) dX8_note_30 rfl ki_0 ?_
        refine j_iconst hJ (q := 32) dX8_note_31 rfl ki_3 ?_
        refine j_sR hJ (q := 35) (rest := []) (As := [.int d, .int (zI 0), .int (zI 3)]) jl_X8_58 (c_X8_within Z d 0 3 (by omega) (by omega)) dX8_note_32 rfl (by decide) (Nat.le_of_ble_eq_true rfl) [] rfl rfl (fun rv hp => ?_)
        obtain rfl := hp
        show J 35 [(0, .ref h), (1, .int a), (2, .int b), (3, .int c), (4, .int d), (5, .int e)] [.int (bI (decide (0 ≤ d.toInt ∧ d.toInt ≤ 3)))] [xO h u ab be (Rf 0) (Rf 1) (Rf 2), (u 0, .inr (4, [.ref (s 0), .ref (s 1), .ref (s 3), .ref (s 5), .ref (s 7)])), cO (s 0) q (A 21) (A 5) (A 6) (A 7) (A 8) (A 0), (q 0, ia Z 12 (ni K)), (q 1, ia Z 12 (ni P)), (q 2, ia Z 6 (ni kd)), (q 3, ia Z 6 (ni am)), (q 4, ia Z 6 (ni st)), (q 5, ia Z 6 (ni rg)), (s 1, .inr (1, [.int (nI (A 4)), .ref (s 2)])), (s 2, ia Z 128 (ni Ro)), (s 3, .inr (3, [.int (nI (A 1)), .int (nI 4), .int (nI 5), .ref (s 4)])), (s 4, ia Z 30 (ni Sn)), (s 5, .inr (3, [.int (nI (A 2)), .int (nI 5), .int (nI 6), .ref (s 6)])), (s 6, ia Z 30 (ni Nt)), (s 7, .inr (3, [.int (nI (A 3)), .int (nI 5), .int (nI 6), .ref (s 8)])), (s 8, ia Z 30 (ni Mk))] 0 0
        refine jp_if_eq hJ (q := 38) (tgt := 49) dX8_note_35 (by decide) rfl (fun c4 => ?_) (fun c4 => ?_)
        · skip
          refine j_aload_n hJ (q := 50) dX8_note_49 rfl 0 rfl rfl ?_
          refine j_vW hJ (q := 53) (rest := []) (As := []) (wr := [(u 0, .inr (4, [.ref (s 0), .ref (s 1), .ref (s 3), .ref (s 5), .ref (s 7)])), cO (s 0) q (A 21) (A 5) (A 6) (A 7) (A 8) (A 0), (q 0, ia Z 12 (ni K)), (q 1, ia Z 12 (ni P)), (q 2, ia Z 6 (ni kd)), (q 3, ia Z 6 (ni am)), (q 4, ia Z 6 (ni st)), (q 5, ia Z 6 (ni rg)), (s 1, .inr (1, [.int (nI (A 4)), .ref (s 2)])), (s 2, ia Z 128 (ni Ro)), (s 3, .inr (3, [.int (nI (A 1)), .int (nI 4), .int (nI 5), .ref (s 4)])), (s 4, ia Z 30 (ni Sn)), (s 5, .inr (3, [.int (nI (A 2)), .int (nI 5), .int (nI 6), .ref (s 6)])), (s 6, ia Z 30 (ni Nt)), (s 7, .inr (3, [.int (nI (A 3)), .int (nI 5), .int (nI 6), .ref (s 8)])), (s 8, ia Z 30 (ni Mk))]) jl_X8_62 (c_X8_bad Z h u ab be Rf ) 0 rfl rfl dX8_note_50 rfl (by decide) (Nat.le_of_ble_eq_true rfl) [0] [1, 2, 3, 4, 5, 6, 7, 8, 9, 10, 11, 12, 13, 14, 15, 16] rfl rfl rfl rfl (by decide) rfl (fun rv wv hp => ?_)
          obtain ⟨rfl, rfl⟩ := hp
          refine j_world hJ (ws' := [xO h u ab be ((bmp Rf 0) 0) ((bmp Rf 0) 1) ((bmp Rf 0) 2), (u 0, .inr (4, [.ref (s 0), .ref (s 1), .ref (s 3), .ref (s 5), .ref (s 7)])), cO (s 0) q (A 21) (A 5) (A 6) (A 7) (A 8) (A 0), (q 0, ia Z 12 (ni K)), (q 1, ia Z 12 (ni P)), (q 2, ia Z 6 (ni kd)), (q 3, ia Z 6 (ni am)), (q 4, ia Z 6 (ni st)), (q 5, ia Z 6 (ni rg)), (s 1, .inr (1, [.int (nI (A 4)), .ref (s 2)])), (s 2, ia Z 128 (ni Ro)), (s 3, .inr (3, [.int (nI (A 1)), .int (nI 4), .int (nI 5), .ref (s 4)])), (s 4, ia Z 30 (ni Sn)), (s 5, .inr (3, [.int (nI (A 2)), .int (nI 5), .int (nI 6), .ref (s 6)])), (s 6, ia Z 30 (ni Nt)), (s 7, .inr (3, [.int (nI (A 3)), .int (nI 5), .int (nI 6), .ref (s 8)])), (s 8, ia Z 30 (ni Mk))]) [16, 0, 1, 2, 3, 4, 5, 6, 7, 8, 9, 10, 11, 12, 13, 14, 15] rfl rfl ?_
          show J 53 [(0, .ref h), (1, .int a), (2, .int b), (3, .int c), (4, .int d), (5, .int e)] [.int (zI (-2))] [xO h u ab be ((bmp Rf 0) 0) ((bmp Rf 0) 1) ((bmp Rf 0) 2), (u 0, .inr (4, [.ref (s 0), .ref (s 1), .ref (s 3), .ref (s 5), .ref (s 7)])), cO (s 0) q (A 21) (A 5) (A 6) (A 7) (A 8) (A 0), (q 0, ia Z 12 (ni K)), (q 1, ia Z 12 (ni P)), (q 2, ia Z 6 (ni kd)), (q 3, ia Z 6 (ni am)), (q 4, ia Z 6 (ni st)), (q 5, ia Z 6 (ni rg)), (s 1, .inr (1, [.int (nI (A 4)), .ref (s 2)])), (s 2, ia Z 128 (ni Ro)), (s 3, .inr (3, [.int (nI (A 1)), .int (nI 4), .int (nI 5), .ref (s 4)])), (s 4, ia Z 30 (ni Sn)), (s 5, .inr (3, [.int (nI (A 2)), .int (nI 5), .int (nI 6), .ref (s 6)])), (s 6, ia Z 30 (ni Nt)), (s 7, .inr (3, [.int (nI (A 3)), .int (nI 5), .int (nI 6), .ref (s 8)])), (s 8, ia Z 30 (ni Mk))] 0 0
          have hP0 : ¬ (pNote A a b c d e) := by simp only [rgI, isS, isR, pNote, pMark]; omega
          have hAo : (a_note A a b c d e) = A := by simp only [a_note, if_neg hP0]
          have hRo : (r_note A Rf a b c d e) = bmp Rf 0 := by simp only [r_note, if_neg hP0]
          exact hE.1 _ _ _ _ _ _ _ rfl rfl dX8_note_53 (Nat.le_refl _) (Nat.le_refl _) (⟨K, P, kd, am, st, rg, Ro, Sn, Nt, Mk, congrArg (fun z => some (Value.int (zI z))) (by simp only [z_note, if_neg hP0]), by rw [hAo, hRo] <;> first | rfl | (skip), by rw [hAo]; exact hA⟩)
        · skip
          refine j_iload hJ (q := 40) dX8_note_38 5 rfl rfl ?_
          refine j_iconst hJ (q := 41) dX8_note_40 rfl ki_0 ?_
          refine j_bipush hJ (q := 43) dX8_note_41 rfl kb_15 ?_
          refine j_sR hJ (q := 46) (rest := []) (As := [.int e, .int (zI 0), .int (zI 15)]) jl_X8_58 (c_X8_within Z e 0 15 (by omega) (by omega)) dX8_note_43 rfl (by decide) (Nat.le_of_ble_eq_true rfl) [] rfl rfl (fun rv hp => ?_)
          obtain rfl := hp
          show J 46 [(0, .ref h), (1, .int a), (2, .int b), (3, .int c), (4, .int d), (5, .int e)] [.int (bI (decide (0 ≤ e.toInt ∧ e.toInt ≤ 15)))] [xO h u ab be (Rf 0) (Rf 1) (Rf 2), (u 0, .inr (4, [.ref (s 0), .ref (s 1), .ref (s 3), .ref (s 5), .ref (s 7)])), cO (s 0) q (A 21) (A 5) (A 6) (A 7) (A 8) (A 0), (q 0, ia Z 12 (ni K)), (q 1, ia Z 12 (ni P)), (q 2, ia Z 6 (ni kd)), (q 3, ia Z 6 (ni am)), (q 4, ia Z 6 (ni st)), (q 5, ia Z 6 (ni rg)), (s 1, .inr (1, [.int (nI (A 4)), .ref (s 2)])), (s 2, ia Z 128 (ni Ro)), (s 3, .inr (3, [.int (nI (A 1)), .int (nI 4), .int (nI 5), .ref (s 4)])), (s 4, ia Z 30 (ni Sn)), (s 5, .inr (3, [.int (nI (A 2)), .int (nI 5), .int (nI 6), .ref (s 6)])), (s 6, ia Z 30 (ni Nt)), (s 7, .inr (3, [.int (nI (A 3)), .int (nI 5), .int (nI 6), .ref (s 8)])), (s 8, ia Z 30 (ni Mk))] 0 0
          refine jp_if_ne hJ (q := 49) (tgt := 54) dX8_note_46 (by decide) rfl (fun c5 => ?_) (fun c5 => ?_)
          · skip
            have hn_a := nt_cast (x := a) (by omega)
            refine j_eql (lvs' := [(0, .ref h), (1, .int (nI (nt a))), (2, .int b), (3, .int c), (4, .int d), (5, .int e)]) (by rw [← nt_eq (x := a) (by omega)]) ?_
            have hn_b := nt_cast (x := b) (by omega)
            refine j_eql (lvs' := [(0, .ref h), (1, .int (nI (nt a))), (2, .int (nI (nt b))), (3, .int c), (4, .int d), (5, .int e)]) (by rw [← nt_eq (x := b) (by omega)]) ?_
            have hn_c := nt_cast (x := c) (by omega)
            refine j_eql (lvs' := [(0, .ref h), (1, .int (nI (nt a))), (2, .int (nI (nt b))), (3, .int (nI (nt c))), (4, .int d), (5, .int e)]) (by rw [← nt_eq (x := c) (by omega)]) ?_
            have hn_d := nt_cast (x := d) (by omega)
            refine j_eql (lvs' := [(0, .ref h), (1, .int (nI (nt a))), (2, .int (nI (nt b))), (3, .int (nI (nt c))), (4, .int (nI (nt d))), (5, .int e)]) (by rw [← nt_eq (x := d) (by omega)]) ?_
            have hn_e := nt_cast (x := e) (by omega)
            refine j_eql (lvs' := [(0, .ref h), (1, .int (nI (nt a))), (2, .int (nI (nt b))), (3, .int (nI (nt c))), (4, .int (nI (nt d))), (5, .int (nI (nt e)))]) (by rw [← nt_eq (x := e) (by omega)]) ?_
            refine j_aload_n hJ (q := 55) dX8_note_54 rfl 0 rfl rfl ?_
            refine j_get hJ (q := 58) jf_X8_10 dX8_note_55 0 rfl rfl rfl ?_
            refine j_get hJ (q := 61) jf_X8_217 dX8_note_58 1 rfl rfl rfl ?_
            refine j_vR hJ (q := 64) (rest := []) (As := []) jl_X8_200 (c_X5_isFull Z (s 5) (s 6) (A 2) 5 6 Nt (by omega) (by omega)) 13 rfl rfl dX8_note_61 rfl (by decide) (Nat.le_of_ble_eq_true rfl) [13, 14] rfl rfl (fun rv hp => ?_)
            obtain rfl := hp
            show J 64 [(0, .ref h), (1, .int (nI (nt a))), (2, .int (nI (nt b))), (3, .int (nI (nt c))), (4, .int (nI (nt d))), (5, .int (nI (nt e)))] [.int (bI (decide (6 ≤ (A 2))))] [xO h u ab be (Rf 0) (Rf 1) (Rf 2), (u 0, .inr (4, [.ref (s 0), .ref (s 1), .ref (s 3), .ref (s 5), .ref (s 7)])), cO (s 0) q (A 21) (A 5) (A 6) (A 7) (A 8) (A 0), (q 0, ia Z 12 (ni K)), (q 1, ia Z 12 (ni P)), (q 2, ia Z 6 (ni kd)), (q 3, ia Z 6 (ni am)), (q 4, ia Z 6 (ni st)), (q 5, ia Z 6 (ni rg)), (s 1, .inr (1, [.int (nI (A 4)), .ref (s 2)])), (s 2, ia Z 128 (ni Ro)), (s 3, .inr (3, [.int (nI (A 1)), .int (nI 4), .int (nI 5), .ref (s 4)])), (s 4, ia Z 30 (ni Sn)), (s 5, .inr (3, [.int (nI (A 2)), .int (nI 5), .int (nI 6), .ref (s 6)])), (s 6, ia Z 30 (ni Nt)), (s 7, .inr (3, [.int (nI (A 3)), .int (nI 5), .int (nI 6), .ref (s 8)])), (s 8, ia Z 30 (ni Mk))] 0 0
            refine jp_if_eq hJ (q := 67) (tgt := 72) dX8_note_64 (by decide) rfl (fun c6 => ?_) (fun c6 => ?_)
            · skip
              refine j_aload_n hJ (q := 73) dX8_note_72 rfl 0 rfl rfl ?_
              refine j_get hJ (q := 76) jf_X8_10 dX8_note_73 0 rfl rfl rfl ?_
              refine j_get hJ (q := 79) jf_X8_217 dX8_note_76 1 rfl rfl rfl ?_
              refine j_iload_n hJ (q := 80) dX8_note_79 rfl 1 rfl rfl ?_
              refine j_iload_n hJ (q := 81) dX8_note_80 rfl 2 rfl rfl ?_
              refine j_iload_n hJ (q := 82) dX8_note_81 rfl 3 rfl rfl ?_
              refine j_iload hJ (q := 84) dX8_note_82 4 rfl rfl ?_
              refine j_iload hJ (q := 86) dX8_note_84 5 rfl rfl ?_
              refine j_vW hJ (q := 89) (rest := []) (As := [.int (nI (nt a)), .int (nI (nt b)), .int (nI (nt c)), .int (nI (nt d)), .int (nI (nt e))]) (wr := [xO h u ab be (Rf 0) (Rf 1) (Rf 2), (u 0, .inr (4, [.ref (s 0), .ref (s 1), .ref (s 3), .ref (s 5), .ref (s 7)])), cO (s 0) q (A 21) (A 5) (A 6) (A 7) (A 8) (A 0), (q 0, ia Z 12 (ni K)), (q 1, ia Z 12 (ni P)), (q 2, ia Z 6 (ni kd)), (q 3, ia Z 6 (ni am)), (q 4, ia Z 6 (ni st)), (q 5, ia Z 6 (ni rg)), (s 1, .inr (1, [.int (nI (A 4)), .ref (s 2)])), (s 2, ia Z 128 (ni Ro)), (s 3, .inr (3, [.int (nI (A 1)), .int (nI 4), .int (nI 5), .ref (s 4)])), (s 4, ia Z 30 (ni Sn)), (s 7, .inr (3, [.int (nI (A 3)), .int (nI 5), .int (nI 6), .ref (s 8)])), (s 8, ia Z 30 (ni Mk))]) jl_X8_206 (c_X5_add Z (s 5) (s 6) (A 2) 5 6 Nt (nt a) (nt b) (nt c) (nt d) (nt e) (by omega) (by omega)) 13 rfl rfl dX8_note_86 rfl (by decide) (Nat.le_of_ble_eq_true rfl) [13, 14] [0, 1, 2, 3, 4, 5, 6, 7, 8, 9, 10, 11, 12, 15, 16] rfl rfl rfl rfl (by decide) rfl (fun rv wv hp => ?_)
              obtain ⟨rfl, rfl⟩ := hp
              refine j_world hJ (ws' := [xO h u ab be (Rf 0) (Rf 1) (Rf 2), (u 0, .inr (4, [.ref (s 0), .ref (s 1), .ref (s 3), .ref (s 5), .ref (s 7)])), cO (s 0) q (A 21) (A 5) (A 6) (A 7) (A 8) (A 0), (q 0, ia Z 12 (ni K)), (q 1, ia Z 12 (ni P)), (q 2, ia Z 6 (ni kd)), (q 3, ia Z 6 (ni am)), (q 4, ia Z 6 (ni st)), (q 5, ia Z 6 (ni rg)), (s 1, .inr (1, [.int (nI (A 4)), .ref (s 2)])), (s 2, ia Z 128 (ni Ro)), (s 3, .inr (3, [.int (nI (A 1)), .int (nI 4), .int (nI 5), .ref (s 4)])), (s 4, ia Z 30 (ni Sn)), ((s 5), .inr (3, [.int (nI ((A 2) + 1)), .int (nI 5), .int (nI 6), .ref (s 6)])), ((s 6), ia Z 30 (ni (lay5 Nt ((A 2) * 5) (nt a) (nt b) (nt c) (nt d) (nt e)))), (s 7, .inr (3, [.int (nI (A 3)), .int (nI 5), .int (nI 6), .ref (s 8)])), (s 8, ia Z 30 (ni Mk))]) [0, 1, 2, 3, 4, 5, 6, 7, 8, 9, 10, 11, 12, 15, 16, 13, 14] rfl rfl ?_
              show J 89 [(0, .ref h), (1, .int (nI (nt a))), (2, .int (nI (nt b))), (3, .int (nI (nt c))), (4, .int (nI (nt d))), (5, .int (nI (nt e)))] [] [xO h u ab be (Rf 0) (Rf 1) (Rf 2), (u 0, .inr (4, [.ref (s 0), .ref (s 1), .ref (s 3), .ref (s 5), .ref (s 7)])), cO (s 0) q (A 21) (A 5) (A 6) (A 7) (A 8) (A 0), (q 0, ia Z 12 (ni K)), (q 1, ia Z 12 (ni P)), (q 2, ia Z 6 (ni kd)), (q 3, ia Z 6 (ni am)), (q 4, ia Z 6 (ni st)), (q 5, ia Z 6 (ni rg)), (s 1, .inr (1, [.int (nI (A 4)), .ref (s 2)])), (s 2, ia Z 128 (ni Ro)), (s 3, .inr (3, [.int (nI (A 1)), .int (nI 4), .int (nI 5), .ref (s 4)])), (s 4, ia Z 30 (ni Sn)), ((s 5), .inr (3, [.int (nI ((A 2) + 1)), .int (nI 5), .int (nI 6), .ref (s 6)])), ((s 6), ia Z 30 (ni (lay5 Nt ((A 2) * 5) (nt a) (nt b) (nt c) (nt d) (nt e)))), (s 7, .inr (3, [.int (nI (A 3)), .int (nI 5), .int (nI 6), .ref (s 8)])), (s 8, ia Z 30 (ni Mk))] 0 0
              refine j_aload_n hJ (q := 90) dX8_note_89 rfl 0 rfl rfl ?_
              refine j_get hJ (q := 93) jf_X8_10 dX8_note_90 0 rfl rfl rfl ?_
              refine j_get hJ (q := 96) jf_X8_217 dX8_note_93 1 rfl rfl rfl ?_
              refine j_get hJ (q := 99) jf_X8_210 dX8_note_96 13 rfl rfl rfl ?_
              have hP0 : pNote A a b c d e := by simp only [rgI, isS, isR, pNote, pMark]; omega
              have hQ0 : ¬ (A 2 = 6) := by omega
              have hAo : (a_note A a b c d e) = va_up (lay5 A (78 + 5 * A 2) (nt a) (nt b) (nt c) (nt d) (nt e)) 2 (A 2 + 1) := by simp only [a_note, if_pos hP0, if_neg hQ0]
              have hRo : (r_note A Rf a b c d e) = Rf := by simp only [r_note, if_pos hP0, if_neg hQ0]
              have es21 : (va_up (lay5 A (78 + 5 * A 2) (nt a) (nt b) (nt c) (nt d) (nt e)) 2 (A 2 + 1)) 21 = A 21 := by simp only [va_up]; rw [if_neg (by decide)]; exact lay5_lt (by omega)
              have es5 : (va_up (lay5 A (78 + 5 * A 2) (nt a) (nt b) (nt c) (nt d) (nt e)) 2 (A 2 + 1)) 5 = A 5 := by simp only [va_up]; rw [if_neg (by decide)]; exact lay5_lt (by omega)
              have es6 : (va_up (lay5 A (78 + 5 * A 2) (nt a) (nt b) (nt c) (nt d) (nt e)) 2 (A 2 + 1)) 6 = A 6 := by simp only [va_up]; rw [if_neg (by decide)]; exact lay5_lt (by omega)
              have es7 : (va_up (lay5 A (78 + 5 * A 2) (nt a) (nt b) (nt c) (nt d) (nt e)) 2 (A 2 + 1)) 7 = A 7 := by simp only [va_up]; rw [if_neg (by decide)]; exact lay5_lt (by omega)
              have es8 : (va_up (lay5 A (78 + 5 * A 2) (nt a) (nt b) (nt c) (nt d) (nt e)) 2 (A 2 + 1)) 8 = A 8 := by simp only [va_up]; rw [if_neg (by decide)]; exact lay5_lt (by omega)
              have es0 : (va_up (lay5 A (78 + 5 * A 2) (nt a) (nt b) (nt c) (nt d) (nt e)) 2 (A 2 + 1)) 0 = A 0 := by simp only [va_up]; rw [if_neg (by decide)]; exact lay5_lt (by omega)
              have es1 : (va_up (lay5 A (78 + 5 * A 2) (nt a) (nt b) (nt c) (nt d) (nt e)) 2 (A 2 + 1)) 1 = A 1 := by simp only [va_up]; rw [if_neg (by decide)]; exact lay5_lt (by omega)
              have es2 : (va_up (lay5 A (78 + 5 * A 2) (nt a) (nt b) (nt c) (nt d) (nt e)) 2 (A 2 + 1)) 2 = A 2 + 1 := rfl
              have es3 : (va_up (lay5 A (78 + 5 * A 2) (nt a) (nt b) (nt c) (nt d) (nt e)) 2 (A 2 + 1)) 3 = A 3 := by simp only [va_up]; rw [if_neg (by decide)]; exact lay5_lt (by omega)
              have es4 : (va_up (lay5 A (78 + 5 * A 2) (nt a) (nt b) (nt c) (nt d) (nt e)) 2 (A 2 + 1)) 4 = A 4 := by simp only [va_up]; rw [if_neg (by decide)]; exact lay5_lt (by omega)
              have e1 : ∀ j, j ≠ 2 → j < 58 → (va_up (lay5 A (78 + 5 * A 2) (nt a) (nt b) (nt c) (nt d) (nt e)) 2 (A 2 + 1)) j = A j := fun j h h2 => by simp only [va_up]; rw [if_neg h]; exact lay5_lt (by omega)
              exact hE.1 _ _ _ _ _ _ _ rfl rfl dX8_note_99 (Nat.le_refl _) (Nat.le_refl _) (⟨K, P, kd, am, st, rg, Ro, Sn, (lay5 Nt ((A 2) * 5) (nt a) (nt b) (nt c) (nt d) (nt e)), Mk, congrArg (fun z => some (Value.int z)) ((zI_nat _).symm.trans (congrArg zI (by simp only [z_note, if_pos hP0, if_neg hQ0]; omega))), by rw [hAo, hRo] <;> first | rfl | (simp only [es21, es5, es6, es7, es8, es0, es1, es2, es3, es4]), by rw [hAo]; exact ⟨rR_of hR (fun j hj => e1 j (by omega) (by omega)) w6 w2, rX_note hX (by omega) g1⟩⟩)
            · skip
              refine j_aload_n hJ (q := 68) dX8_note_67 rfl 0 rfl rfl ?_
              refine j_vW hJ (q := 71) (rest := []) (As := []) (wr := [(u 0, .inr (4, [.ref (s 0), .ref (s 1), .ref (s 3), .ref (s 5), .ref (s 7)])), cO (s 0) q (A 21) (A 5) (A 6) (A 7) (A 8) (A 0), (q 0, ia Z 12 (ni K)), (q 1, ia Z 12 (ni P)), (q 2, ia Z 6 (ni kd)), (q 3, ia Z 6 (ni am)), (q 4, ia Z 6 (ni st)), (q 5, ia Z 6 (ni rg)), (s 1, .inr (1, [.int (nI (A 4)), .ref (s 2)])), (s 2, ia Z 128 (ni Ro)), (s 3, .inr (3, [.int (nI (A 1)), .int (nI 4), .int (nI 5), .ref (s 4)])), (s 4, ia Z 30 (ni Sn)), (s 5, .inr (3, [.int (nI (A 2)), .int (nI 5), .int (nI 6), .ref (s 6)])), (s 6, ia Z 30 (ni Nt)), (s 7, .inr (3, [.int (nI (A 3)), .int (nI 5), .int (nI 6), .ref (s 8)])), (s 8, ia Z 30 (ni Mk))]) jl_X8_107 (c_X8_full Z h u ab be Rf ) 0 rfl rfl dX8_note_68 rfl (by decide) (Nat.le_of_ble_eq_true rfl) [0] [1, 2, 3, 4, 5, 6, 7, 8, 9, 10, 11, 12, 13, 14, 15, 16] rfl rfl rfl rfl (by decide) rfl (fun rv wv hp => ?_)
              obtain ⟨rfl, rfl⟩ := hp
              refine j_world hJ (ws' := [xO h u ab be ((bmp Rf 2) 0) ((bmp Rf 2) 1) ((bmp Rf 2) 2), (u 0, .inr (4, [.ref (s 0), .ref (s 1), .ref (s 3), .ref (s 5), .ref (s 7)])), cO (s 0) q (A 21) (A 5) (A 6) (A 7) (A 8) (A 0), (q 0, ia Z 12 (ni K)), (q 1, ia Z 12 (ni P)), (q 2, ia Z 6 (ni kd)), (q 3, ia Z 6 (ni am)), (q 4, ia Z 6 (ni st)), (q 5, ia Z 6 (ni rg)), (s 1, .inr (1, [.int (nI (A 4)), .ref (s 2)])), (s 2, ia Z 128 (ni Ro)), (s 3, .inr (3, [.int (nI (A 1)), .int (nI 4), .int (nI 5), .ref (s 4)])), (s 4, ia Z 30 (ni Sn)), (s 5, .inr (3, [.int (nI (A 2)), .int (nI 5), .int (nI 6), .ref (s 6)])), (s 6, ia Z 30 (ni Nt)), (s 7, .inr (3, [.int (nI (A 3)), .int (nI 5), .int (nI 6), .ref (s 8)])), (s 8, ia Z 30 (ni Mk))]) [16, 0, 1, 2, 3, 4, 5, 6, 7, 8, 9, 10, 11, 12, 13, 14, 15] rfl rfl ?_
              show J 71 [(0, .ref h), (1, .int (nI (nt a))), (2, .int (nI (nt b))), (3, .int (nI (nt c))), (4, .int (nI (nt d))), (5, .int (nI (nt e)))] [.int (zI (-4))] [xO h u ab be ((bmp Rf 2) 0) ((bmp Rf 2) 1) ((bmp Rf 2) 2), (u 0, .inr (4, [.ref (s 0), .ref (s 1), .ref (s 3), .ref (s 5), .ref (s 7)])), cO (s 0) q (A 21) (A 5) (A 6) (A 7) (A 8) (A 0), (q 0, ia Z 12 (ni K)), (q 1, ia Z 12 (ni P)), (q 2, ia Z 6 (ni kd)), (q 3, ia Z 6 (ni am)), (q 4, ia Z 6 (ni st)), (q 5, ia Z 6 (ni rg)), (s 1, .inr (1, [.int (nI (A 4)), .ref (s 2)])), (s 2, ia Z 128 (ni Ro)), (s 3, .inr (3, [.int (nI (A 1)), .int (nI 4), .int (nI 5), .ref (s 4)])), (s 4, ia Z 30 (ni Sn)), (s 5, .inr (3, [.int (nI (A 2)), .int (nI 5), .int (nI 6), .ref (s 6)])), (s 6, ia Z 30 (ni Nt)), (s 7, .inr (3, [.int (nI (A 3)), .int (nI 5), .int (nI 6), .ref (s 8)])), (s 8, ia Z 30 (ni Mk))] 0 0
              have hP0 : pNote A a b c d e := by simp only [rgI, isS, isR, pNote, pMark]; omega
              have hQ0 : A 2 = 6 := by omega
              have hAo : (a_note A a b c d e) = A := by simp only [a_note, if_pos hP0, if_pos hQ0]
              have hRo : (r_note A Rf a b c d e) = bmp Rf 2 := by simp only [r_note, if_pos hP0, if_pos hQ0]
              exact hE.1 _ _ _ _ _ _ _ rfl rfl dX8_note_71 (Nat.le_refl _) (Nat.le_refl _) (⟨K, P, kd, am, st, rg, Ro, Sn, Nt, Mk, congrArg (fun z => some (Value.int (zI z))) (by simp only [z_note, if_pos hP0, if_pos hQ0]), by rw [hAo, hRo] <;> first | rfl | (skip), by rw [hAo]; exact hA⟩)
          · skip
            refine j_aload_n hJ (q := 50) dX8_note_49 rfl 0 rfl rfl ?_
            refine j_vW hJ (q := 53) (rest := []) (As := []) (wr := [(u 0, .inr (4, [.ref (s 0), .ref (s 1), .ref (s 3), .ref (s 5), .ref (s 7)])), cO (s 0) q (A 21) (A 5) (A 6) (A 7) (A 8) (A 0), (q 0, ia Z 12 (ni K)), (q 1, ia Z 12 (ni P)), (q 2, ia Z 6 (ni kd)), (q 3, ia Z 6 (ni am)), (q 4, ia Z 6 (ni st)), (q 5, ia Z 6 (ni rg)), (s 1, .inr (1, [.int (nI (A 4)), .ref (s 2)])), (s 2, ia Z 128 (ni Ro)), (s 3, .inr (3, [.int (nI (A 1)), .int (nI 4), .int (nI 5), .ref (s 4)])), (s 4, ia Z 30 (ni Sn)), (s 5, .inr (3, [.int (nI (A 2)), .int (nI 5), .int (nI 6), .ref (s 6)])), (s 6, ia Z 30 (ni Nt)), (s 7, .inr (3, [.int (nI (A 3)), .int (nI 5), .int (nI 6), .ref (s 8)])), (s 8, ia Z 30 (ni Mk))]) jl_X8_62 (c_X8_bad Z h u ab be Rf ) 0 rfl rfl dX8_note_50 rfl (by decide) (Nat.le_of_ble_eq_true rfl) [0] [1, 2, 3, 4, 5, 6, 7, 8, 9, 10, 11, 12, 13, 14, 15, 16] rfl rfl rfl rfl (by decide) rfl (fun rv wv hp => ?_)
            obtain ⟨rfl, rfl⟩ := hp
            refine j_world hJ (ws' := [xO h u ab be ((bmp Rf 0) 0) ((bmp Rf 0) 1) ((bmp Rf 0) 2), (u 0, .inr (4, [.ref (s 0), .ref (s 1), .ref (s 3), .ref (s 5), .ref (s 7)])), cO (s 0) q (A 21) (A 5) (A 6) (A 7) (A 8) (A 0), (q 0, ia Z 12 (ni K)), (q 1, ia Z 12 (ni P)), (q 2, ia Z 6 (ni kd)), (q 3, ia Z 6 (ni am)), (q 4, ia Z 6 (ni st)), (q 5, ia Z 6 (ni rg)), (s 1, .inr (1, [.int (nI (A 4)), .ref (s 2)])), (s 2, ia Z 128 (ni Ro)), (s 3, .inr (3, [.int (nI (A 1)), .int (nI 4), .int (nI 5), .ref (s 4)])), (s 4, ia Z 30 (ni Sn)), (s 5, .inr (3, [.int (nI (A 2)), .int (nI 5), .int (nI 6), .ref (s 6)])), (s 6, ia Z 30 (ni Nt)), (s 7, .inr (3, [.int (nI (A 3)), .int (nI 5), .int (nI 6), .ref (s 8)])), (s 8, ia Z 30 (ni Mk))]) [16, 0, 1, 2, 3, 4, 5, 6, 7, 8, 9, 10, 11, 12, 13, 14, 15] rfl rfl ?_
            show J 53 [(0, .ref h), (1, .int a), (2, .int b), (3, .int c), (4, .int d), (5, .int e)] [.int (zI (-2))] [xO h u ab be ((bmp Rf 0) 0) ((bmp Rf 0) 1) ((bmp Rf 0) 2), (u 0, .inr (4, [.ref (s 0), .ref (s 1), .ref (s 3), .ref (s 5), .ref (s 7)])), cO (s 0) q (A 21) (A 5) (A 6) (A 7) (A 8) (A 0), (q 0, ia Z 12 (ni K)), (q 1, ia Z 12 (ni P)), (q 2, ia Z 6 (ni kd)), (q 3, ia Z 6 (ni am)), (q 4, ia Z 6 (ni st)), (q 5, ia Z 6 (ni rg)), (s 1, .inr (1, [.int (nI (A 4)), .ref (s 2)])), (s 2, ia Z 128 (ni Ro)), (s 3, .inr (3, [.int (nI (A 1)), .int (nI 4), .int (nI 5), .ref (s 4)])), (s 4, ia Z 30 (ni Sn)), (s 5, .inr (3, [.int (nI (A 2)), .int (nI 5), .int (nI 6), .ref (s 6)])), (s 6, ia Z 30 (ni Nt)), (s 7, .inr (3, [.int (nI (A 3)), .int (nI 5), .int (nI 6), .ref (s 8)])), (s 8, ia Z 30 (ni Mk))] 0 0
            have hP0 : ¬ (pNote A a b c d e) := by simp only [rgI, isS, isR, pNote, pMark]; omega
            have hAo : (a_note A a b c d e) = A := by simp only [a_note, if_neg hP0]
            have hRo : (r_note A Rf a b c d e) = bmp Rf 0 := by simp only [r_note, if_neg hP0]
            exact hE.1 _ _ _ _ _ _ _ rfl rfl dX8_note_53 (Nat.le_refl _) (Nat.le_refl _) (⟨K, P, kd, am, st, rg, Ro, Sn, Nt, Mk, congrArg (fun z => some (Value.int (zI z))) (by simp only [z_note, if_neg hP0]), by rw [hAo, hRo] <;> first | rfl | (skip), by rw [hAo]; exact hA⟩)

set_option maxHeartbeats 4000000 in
set_option maxRecDepth 100000 in
theorem c_X8_mark (Z : jZ) (h : Nat) (u : Nat → Nat) (ab : Int) (be : Int) (Rf : Nat → Nat) (s : Nat → Nat) (q : Nat → Nat) (A : Nat → Nat) (K : Nat → Nat) (P : Nat → Nat) (kd : Nat → Nat) (am : Nat → Nat) (st : Nat → Nat) (rg : Nat → Nat) (Ro : Nat → Nat) (Sn : Nat → Nat) (Nt : Nat → Nat) (Mk : Nat → Nat) (a : Int32) (b : Int32) (c : Int32) (d : Int32) (e : Int32) (hg : wg A) (hA : rA A K P kd am st rg Ro Sn Nt Mk) : CT Z yX8_mark cX8_mark 6 ((some FieldType.int)) 3 0 0 [.ref h, .int a, .int b, .int c, .int d, .int e] [xO h u ab be (Rf 0) (Rf 1) (Rf 2), (u 0, .inr (4, [.ref (s 0), .ref (s 1), .ref (s 3), .ref (s 5), .ref (s 7)])), cO (s 0) q (A 21) (A 5) (A 6) (A 7) (A 8) (A 0), (q 0, ia Z 12 (ni K)), (q 1, ia Z 12 (ni P)), (q 2, ia Z 6 (ni kd)), (q 3, ia Z 6 (ni am)), (q 4, ia Z 6 (ni st)), (q 5, ia Z 6 (ni rg)), (s 1, .inr (1, [.int (nI (A 4)), .ref (s 2)])), (s 2, ia Z 128 (ni Ro)), (s 3, .inr (3, [.int (nI (A 1)), .int (nI 4), .int (nI 5), .ref (s 4)])), (s 4, ia Z 30 (ni Sn)), (s 5, .inr (3, [.int (nI (A 2)), .int (nI 5), .int (nI 6), .ref (s 6)])), (s 6, ia Z 30 (ni Nt)), (s 7, .inr (3, [.int (nI (A 3)), .int (nI 5), .int (nI 6), .ref (s 8)])), (s 8, ia Z 30 (ni Mk))] (fun rr ww => ∃ Kz : Nat → Nat, ∃ Pz : Nat → Nat, ∃ kdz : Nat → Nat, ∃ amz : Nat → Nat, ∃ stz : Nat → Nat, ∃ rgz : Nat → Nat, ∃ Roz : Nat → Nat, ∃ Snz : Nat → Nat, ∃ Ntz : Nat → Nat, ∃ Mkz : Nat → Nat, rr = some (.int (zI (z_mark A a b c d e))) ∧ ww = [xO h u ab be ((r_mark A Rf a b c d e) 0) ((r_mark A Rf a b c d e) 1) ((r_mark A Rf a b c d e) 2), (u 0, .inr (4, [.ref (s 0), .ref (s 1), .ref (s 3), .ref (s 5), .ref (s 7)])), cO (s 0) q ((a_mark A a b c d e) 21) ((a_mark A a b c d e) 5) ((a_mark A a b c d e) 6) ((a_mark A a b c d e) 7) ((a_mark A a b c d e) 8) ((a_mark A a b c d e) 0), (q 0, ia Z 12 (ni Kz)), (q 1, ia Z 12 (ni Pz)), (q 2, ia Z 6 (ni kdz)), (q 3, ia Z 6 (ni amz)), (q 4, ia Z 6 (ni stz)), (q 5, ia Z 6 (ni rgz)), (s 1, .inr (1, [.int (nI ((a_mark A a b c d e) 4)), .ref (s 2)])), (s 2, ia Z 128 (ni Roz)), (s 3, .inr (3, [.int (nI ((a_mark A a b c d e) 1)), .int (nI 4), .int (nI 5), .ref (s 4)])), (s 4, ia Z 30 (ni Snz)), (s 5, .inr (3, [.int (nI ((a_mark A a b c d e) 2)), .int (nI 5), .int (nI 6), .ref (s 6)])), (s 6, ia Z 30 (ni Ntz)), (s 7, .inr (3, [.int (nI ((a_mark A a b c d e) 3)), .int (nI 5), .int (nI 6), .ref (s 8)])), (s 8, ia Z 30 (ni Mkz))] ∧ (rA (a_mark A a b c d e) Kz Pz kdz amz stz rgz Roz Snz Ntz Mkz)) := by
  refine CT.of RX8 false rfl (fun h => by cases h) (by decide +kernel) (Nat.le_of_ble_eq_true rfl) ?_
  intro J hJ hE
  show J 0 [(0, .ref h), (1, .int a), (2, .int b), (3, .int c), (4, .int d), (5, .int e)] [] [xO h u ab be (Rf 0) (Rf 1) (Rf 2), (u 0, .inr (4, [.ref (s 0), .ref (s 1), .ref (s 3), .ref (s 5), .ref (s 7)])), cO (s 0) q (A 21) (A 5) (A 6) (A 7) (A 8) (A 0), (q 0, ia Z 12 (ni K)), (q 1, ia Z 12 (ni P)), (q 2, ia Z 6 (ni kd)), (q 3, ia Z 6 (ni am)), (q 4, ia Z 6 (ni st)), (q 5, ia Z 6 (ni rg)), (s 1, .inr (1, [.int (nI (A 4)), .ref (s 2)])), (s 2, ia Z 128 (ni Ro)), (s 3, .inr (3, [.int (nI (A 1)), .int (nI 4), .int (nI 5), .ref (s 4)])), (s 4, ia Z 30 (ni Sn)), (s 5, .inr (3, [.int (nI (A 2)), .int (nI 5), .int (nI 6), .ref (s 6)])), (s 6, ia Z 30 (ni Nt)), (s 7, .inr (3, [.int (nI (A 3)), .int (nI 5), .int (nI 6), .ref (s 8)])), (s 8, ia Z 30 (ni Mk))] 0 0
  obtain ⟨hw, ⟨g1, g2, g3, g4, g8⟩, hrs, hrn, hrm, hpst⟩ := id hg
  obtain ⟨⟨w1, w2, w3, w4, w5, w6⟩, hb, wr, wh, wd⟩ := id hw
  obtain ⟨hR, hX⟩ := id hA
  obtain ⟨hP, hSn, hNt, hMk⟩ := id hX
  have hr_a := zI_rng a
  have hr_b := zI_rng b
  have hr_c := zI_rng c
  have hr_d := zI_rng d
  have hr_e := zI_rng e
  refine j_aload_n hJ (q := 1) dX8_mark_0 rfl 0 rfl rfl ?_
  refine j_iload_n hJ (q := 2) dX8_mark_1 rfl 1 rfl rfl ?_
  refine j_vR hJ (q := 5) (rest := []) (As := [.int a]) jl_X8_141 (c_X8_isRider Z h u ab be Rf s q A K P kd am st rg a (by omega)) 0 rfl rfl dX8_mark_2 rfl (by decide) (Nat.le_of_ble_eq_true rfl) [0, 1, 2, 3, 4, 5, 6, 7, 8] rfl rfl (fun rv hp => ?_)
  obtain rfl := hp
  show J 5 [(0, .ref h), (1, .int a), (2, .int b), (3, .int c), (4, .int d), (5, .int e)] [.int (bI (decide (0 ≤ a.toInt ∧ a.toInt ≤ (A 0 : Int) - 1)))] [xO h u ab be (Rf 0) (Rf 1) (Rf 2), (u 0, .inr (4, [.ref (s 0), .ref (s 1), .ref (s 3), .ref (s 5), .ref (s 7)])), cO (s 0) q (A 21) (A 5) (A 6) (A 7) (A 8) (A 0), (q 0, ia Z 12 (ni K)), (q 1, ia Z 12 (ni P)), (q 2, ia Z 6 (ni kd)), (q 3, ia Z 6 (ni am)), (q 4, ia Z 6 (ni st)), (q 5, ia Z 6 (ni rg)), (s 1, .inr (1, [.int (nI (A 4)), .ref (s 2)])), (s 2, ia Z 128 (ni Ro)), (s 3, .inr (3, [.int (nI (A 1)), .int (nI 4), .int (nI 5), .ref (s 4)])), (s 4, ia Z 30 (ni Sn)), (s 5, .inr (3, [.int (nI (A 2)), .int (nI 5), .int (nI 6), .ref (s 6)])), (s 6, ia Z 30 (ni Nt)), (s 7, .inr (3, [.int (nI (A 3)), .int (nI 5), .int (nI 6), .ref (s 8)])), (s 8, ia Z 30 (ni Mk))] 0 0
  refine jp_if_eq hJ (q := 8) (tgt := 50) dX8_mark_5 (by decide) rfl (fun c1 => ?_) (fun c1 => ?_)
  · skip
    refine j_aload_n hJ (q := 51) dX8_mark_50 rfl 0 rfl rfl ?_
    refine j_vW hJ (q := 54) (rest := []) (As := []) (wr := [(u 0, .inr (4, [.ref (s 0), .ref (s 1), .ref (s 3), .ref (s 5), .ref (s 7)])), cO (s 0) q (A 21) (A 5) (A 6) (A 7) (A 8) (A 0), (q 0, ia Z 12 (ni K)), (q 1, ia Z 12 (ni P)), (q 2, ia Z 6 (ni kd)), (q 3, ia Z 6 (ni am)), (q 4, ia Z 6 (ni st)), (q 5, ia Z 6 (ni rg)), (s 1, .inr (1, [.int (nI (A 4)), .ref (s 2)])), (s 2, ia Z 128 (ni Ro)), (s 3, .inr (3, [.int (nI (A 1)), .int (nI 4), .int (nI 5), .ref (s 4)])), (s 4, ia Z 30 (ni Sn)), (s 5, .inr (3, [.int (nI (A 2)), .int (nI 5), .int (nI 6), .ref (s 6)])), (s 6, ia Z 30 (ni Nt)), (s 7, .inr (3, [.int (nI (A 3)), .int (nI 5), .int (nI 6), .ref (s 8)])), (s 8, ia Z 30 (ni Mk))]) jl_X8_62 (c_X8_bad Z h u ab be Rf ) 0 rfl rfl dX8_mark_51 rfl (by decide) (Nat.le_of_ble_eq_true rfl) [0] [1, 2, 3, 4, 5, 6, 7, 8, 9, 10, 11, 12, 13, 14, 15, 16] rfl rfl rfl rfl (by decide) rfl (fun rv wv hp => ?_)
    obtain ⟨rfl, rfl⟩ := hp
    refine j_world hJ (ws' := [xO h u ab be ((bmp Rf 0) 0) ((bmp Rf 0) 1) ((bmp Rf 0) 2), (u 0, .inr (4, [.ref (s 0), .ref (s 1), .ref (s 3), .ref (s 5), .ref (s 7)])), cO (s 0) q (A 21) (A 5) (A 6) (A 7) (A 8) (A 0), (q 0, ia Z 12 (ni K)), (q 1, ia Z 12 (ni P)), (q 2, ia Z 6 (ni kd)), (q 3, ia Z 6 (ni am)), (q 4, ia Z 6 (ni st)), (q 5, ia Z 6 (ni rg)), (s 1, .inr (1, [.int (nI (A 4)), .ref (s 2)])), (s 2, ia Z 128 (ni Ro)), (s 3, .inr (3, [.int (nI (A 1)), .int (nI 4), .int (nI 5), .ref (s 4)])), (s 4, ia Z 30 (ni Sn)), (s 5, .inr (3, [.int (nI (A 2)), .int (nI 5), .int (nI 6), .ref (s 6)])), (s 6, ia Z 30 (ni Nt)), (s 7, .inr (3, [.int (nI (A 3)), .int (nI 5), .int (nI 6), .ref (s 8)])), (s 8, ia Z 30 (ni Mk))]) [16, 0, 1, 2, 3, 4, 5, 6, 7, 8, 9, 10, 11, 12, 13, 14, 15] rfl rfl ?_
    show J 54 [(0, .ref h), (1, .int a), (2, .int b), (3, .int c), (4, .int d), (5, .int e)] [.int (zI (-2))] [xO h u ab be ((bmp Rf 0) 0) ((bmp Rf 0) 1) ((bmp Rf 0) 2), (u 0, .inr (4, [.ref (s 0), .ref (s 1), .ref (s 3), .ref (s 5), .ref (s 7)])), cO (s 0) q (A 21) (A 5) (A 6) (A 7) (A 8) (A 0), (q 0, ia Z 12 (ni K)), (q 1, ia Z 12 (ni P)), (q 2, ia Z 6 (ni kd)), (q 3, ia Z 6 (ni am)), (q 4, ia Z 6 (ni st)), (q 5, ia Z 6 (ni rg)), (s 1, .inr (1, [.int (nI (A 4)), .ref (s 2)])), (s 2, ia Z 128 (ni Ro)), (s 3, .inr (3, [.int (nI (A 1)), .int (nI 4), .int (nI 5), .ref (s 4)])), (s 4, ia Z 30 (ni Sn)), (s 5, .inr (3, [.int (nI (A 2)), .int (nI 5), .int (nI 6), .ref (s 6)])), (s 6, ia Z 30 (ni Nt)), (s 7, .inr (3, [.int (nI (A 3)), .int (nI 5), .int (nI 6), .ref (s 8)])), (s 8, ia Z 30 (ni Mk))] 0 0
    have hP0 : ¬ (pMark A a b c d e) := by simp only [rgI, isS, isR, pNote, pMark]; omega
    have hAo : (a_mark A a b c d e) = A := by simp only [a_mark, if_neg hP0]
    have hRo : (r_mark A Rf a b c d e) = bmp Rf 0 := by simp only [r_mark, if_neg hP0]
    exact hE.1 _ _ _ _ _ _ _ rfl rfl dX8_mark_54 (Nat.le_refl _) (Nat.le_refl _) (⟨K, P, kd, am, st, rg, Ro, Sn, Nt, Mk, congrArg (fun z => some (Value.int (zI z))) (by simp only [z_mark, if_neg hP0]), by rw [hAo, hRo] <;> first | rfl | (skip), by rw [hAo]; exact hA⟩)
  · skip
    refine j_iload_n hJ (q := 9) dX8_mark_8 rfl 2 rfl rfl ?_
    refine j_iconst hJ (q := 10) dX8_mark_9 rfl ki_1 ?_
    refine j_bipush hJ (q := 12) dX8_mark_10 rfl kb_9 ?_
    refine j_sR hJ (q := 15) (rest := []) (As := [.int b, .int (zI 1), .int (zI 9)]) jl_X8_58 (c_X8_within Z b 1 9 (by omega) (by omega)) dX8_mark_12 rfl (by decide) (Nat.le_of_ble_eq_true rfl) [] rfl rfl (fun rv hp => ?_)
    obtain rfl := hp
    show J 15 [(0, .ref h), (1, .int a), (2, .int b), (3, .int c), (4, .int d), (5, .int e)] [.int (bI (decide (1 ≤ b.toInt ∧ b.toInt ≤ 9)))] [xO h u ab be (Rf 0) (Rf 1) (Rf 2), (u 0, .inr (4, [.ref (s 0), .ref (s 1), .ref (s 3), .ref (s 5), .ref (s 7)])), cO (s 0) q (A 21) (A 5) (A 6) (A 7) (A 8) (A 0), (q 0, ia Z 12 (ni K)), (q 1, ia Z 12 (ni P)), (q 2, ia Z 6 (ni kd)), (q 3, ia Z 6 (ni am)), (q 4, ia Z 6 (ni st)), (q 5, ia Z 6 (ni rg)), (s 1, .inr (1, [.int (nI (A 4)), .ref (s 2)])), (s 2, ia Z 128 (ni Ro)), (s 3, .inr (3, [.int (nI (A 1)), .int (nI 4), .int (nI 5), .ref (s 4)])), (s 4, ia Z 30 (ni Sn)), (s 5, .inr (3, [.int (nI (A 2)), .int (nI 5), .int (nI 6), .ref (s 6)])), (s 6, ia Z 30 (ni Nt)), (s 7, .inr (3, [.int (nI (A 3)), .int (nI 5), .int (nI 6), .ref (s 8)])), (s 8, ia Z 30 (ni Mk))] 0 0
    refine jp_if_eq hJ (q := 18) (tgt := 50) dX8_mark_15 (by decide) rfl (fun c2 => ?_) (fun c2 => ?_)
    · skip
      refine j_aload_n hJ (q := 51) dX8_mark_50 rfl 0 rfl rfl ?_
      refine j_vW hJ (q := 54) (rest := []) (As := []) (wr := [(u 0, .inr (4, [.ref (s 0), .ref (s 1), .ref (s 3), .ref (s 5), .ref (s 7)])), cO (s 0) q (A 21) (A 5) (A 6) (A 7) (A 8) (A 0), (q 0, ia Z 12 (ni K)), (q 1, ia Z 12 (ni P)), (q 2, ia Z 6 (ni kd)), (q 3, ia Z 6 (ni am)), (q 4, ia Z 6 (ni st)), (q 5, ia Z 6 (ni rg)), (s 1, .inr (1, [.int (nI (A 4)), .ref (s 2)])), (s 2, ia Z 128 (ni Ro)), (s 3, .inr (3, [.int (nI (A 1)), .int (nI 4), .int (nI 5), .ref (s 4)])), (s 4, ia Z 30 (ni Sn)), (s 5, .inr (3, [.int (nI (A 2)), .int (nI 5), .int (nI 6), .ref (s 6)])), (s 6, ia Z 30 (ni Nt)), (s 7, .inr (3, [.int (nI (A 3)), .int (nI 5), .int (nI 6), .ref (s 8)])), (s 8, ia Z 30 (ni Mk))]) jl_X8_62 (c_X8_bad Z h u ab be Rf ) 0 rfl rfl dX8_mark_51 rfl (by decide) (Nat.le_of_ble_eq_true rfl) [0] [1, 2, 3, 4, 5, 6, 7, 8, 9, 10, 11, 12, 13, 14, 15, 16] rfl rfl rfl rfl (by decide) rfl (fun rv wv hp => ?_)
      obtain ⟨rfl, rfl⟩ := hp
      refine j_world hJ (ws' := [xO h u ab be ((bmp Rf 0) 0) ((bmp Rf 0) 1) ((bmp Rf 0) 2), (u 0, .inr (4, [.ref (s 0), .ref (s 1), .ref (s 3), .ref (s 5), .ref (s 7)])), cO (s 0) q (A 21) (A 5) (A 6) (A 7) (A 8) (A 0), (q 0, ia Z 12 (ni K)), (q 1, ia Z 12 (ni P)), (q 2, ia Z 6 (ni kd)), (q 3, ia Z 6 (ni am)), (q 4, ia Z 6 (ni st)), (q 5, ia Z 6 (ni rg)), (s 1, .inr (1, [.int (nI (A 4)), .ref (s 2)])), (s 2, ia Z 128 (ni Ro)), (s 3, .inr (3, [.int (nI (A 1)), .int (nI 4), .int (nI 5), .ref (s 4)])), (s 4, ia Z 30 (ni Sn)), (s 5, .inr (3, [.int (nI (A 2)), .int (nI 5), .int (nI 6), .ref (s 6)])), (s 6, ia Z 30 (ni Nt)), (s 7, .inr (3, [.int (nI (A 3)), .int (nI 5), .int (nI 6), .ref (s 8)])), (s 8, ia Z 30 (ni Mk))]) [16, 0, 1, 2, 3, 4, 5, 6, 7, 8, 9, 10, 11, 12, 13, 14, 15] rfl rfl ?_
      show J 54 [(0, .ref h), (1, .int a), (2, .int b), (3, .int c), (4, .int d), (5, .int e)] [.int (zI (-2))] [xO h u ab be ((bmp Rf 0) 0) ((bmp Rf 0) 1) ((bmp Rf 0) 2), (u 0, .inr (4, [.ref (s 0), .ref (s 1), .ref (s 3), .ref (s 5), .ref (s 7)])), cO (s 0) q (A 21) (A 5) (A 6) (A 7) (A 8) (A 0), (q 0, ia Z 12 (ni K)), (q 1, ia Z 12 (ni P)), (q 2, ia Z 6 (ni kd)), (q 3, ia Z 6 (ni am)), (q 4, ia Z 6 (ni st)), (q 5, ia Z 6 (ni rg)), (s 1, .inr (1, [.int (nI (A 4)), .ref (s 2)])), (s 2, ia Z 128 (ni Ro)), (s 3, .inr (3, [.int (nI (A 1)), .int (nI 4), .int (nI 5), .ref (s 4)])), (s 4, ia Z 30 (ni Sn)), (s 5, .inr (3, [.int (nI (A 2)), .int (nI 5), .int (nI 6), .ref (s 6)])), (s 6, ia Z 30 (ni Nt)), (s 7, .inr (3, [.int (nI (A 3)), .int (nI 5), .int (nI 6), .ref (s 8)])), (s 8, ia Z 30 (ni Mk))] 0 0
      have hP0 : ¬ (pMark A a b c d e) := by simp only [rgI, isS, isR, pNote, pMark]; omega
      have hAo : (a_mark A a b c d e) = A := by simp only [a_mark, if_neg hP0]
      have hRo : (r_mark A Rf a b c d e) = bmp Rf 0 := by simp only [r_mark, if_neg hP0]
      exact hE.1 _ _ _ _ _ _ _ rfl rfl dX8_mark_54 (Nat.le_refl _) (Nat.le_refl _) (⟨K, P, kd, am, st, rg, Ro, Sn, Nt, Mk, congrArg (fun z => some (Value.int (zI z))) (by simp only [z_mark, if_neg hP0]), by rw [hAo, hRo] <;> first | rfl | (skip), by rw [hAo]; exact hA⟩)
    · skip
      refine j_iload_n hJ (q := 19) dX8_mark_18 rfl 3 rfl rfl ?_
      refine j_iconst hJ (q := 20) dX8_mark_19 rfl ki_0 ?_
      refine j_bipush hJ (q := 22) dX8_mark_20 rfl kb_15 ?_
      refine j_sR hJ (q := 25) (rest := []) (As := [.int c, .int (zI 0), .int (zI 15)]) jl_X8_58 (c_X8_within Z c 0 15 (by omega) (by omega)) dX8_mark_22 rfl (by decide) (Nat.le_of_ble_eq_true rfl) [] rfl rfl (fun rv hp => ?_)
      obtain rfl := hp
      show J 25 [(0, .ref h), (1, .int a), (2, .int b), (3, .int c), (4, .int d), (5, .int e)] [.int (bI (decide (0 ≤ c.toInt ∧ c.toInt ≤ 15)))] [xO h u ab be (Rf 0) (Rf 1) (Rf 2), (u 0, .inr (4, [.ref (s 0), .ref (s 1), .ref (s 3), .ref (s 5), .ref (s 7)])), cO (s 0) q (A 21) (A 5) (A 6) (A 7) (A 8) (A 0), (q 0, ia Z 12 (ni K)), (q 1, ia Z 12 (ni P)), (q 2, ia Z 6 (ni kd)), (q 3, ia Z 6 (ni am)), (q 4, ia Z 6 (ni st)), (q 5, ia Z 6 (ni rg)), (s 1, .inr (1, [.int (nI (A 4)), .ref (s 2)])), (s 2, ia Z 128 (ni Ro)), (s 3, .inr (3, [.int (nI (A 1)), .int (nI 4), .int (nI 5), .ref (s 4)])), (s 4, ia Z 30 (ni Sn)), (s 5, .inr (3, [.int (nI (A 2)), .int (nI 5), .int (nI 6), .ref (s 6)])), (s 6, ia Z 30 (ni Nt)), (s 7, .inr (3, [.int (nI (A 3)), .int (nI 5), .int (nI 6), .ref (s 8)])), (s 8, ia Z 30 (ni Mk))] 0 0
      refine jp_if_eq hJ (q := 28) (tgt := 50) dX8_mark_25 (by decide) rfl (fun c3 => ?_) (fun c3 => ?_)
      · skip
        refine j_aload_n hJ (q := 51) dX8_mark_50 rfl 0 rfl rfl ?_
        refine j_vW hJ (q := 54) (rest := []) (As := []) (wr := [(u 0, .inr (4, [.ref (s 0), .ref (s 1), .ref (s 3), .ref (s 5), .ref (s 7)])), cO (s 0) q (A 21) (A 5) (A 6) (A 7) (A 8) (A 0), (q 0, ia Z 12 (ni K)), (q 1, ia Z 12 (ni P)), (q 2, ia Z 6 (ni kd)), (q 3, ia Z 6 (ni am)), (q 4, ia Z 6 (ni st)), (q 5, ia Z 6 (ni rg)), (s 1, .inr (1, [.int (nI (A 4)), .ref (s 2)])), (s 2, ia Z 128 (ni Ro)), (s 3, .inr (3, [.int (nI (A 1)), .int (nI 4), .int (nI 5), .ref (s 4)])), (s 4, ia Z 30 (ni Sn)), (s 5, .inr (3, [.int (nI (A 2)), .int (nI 5), .int (nI 6), .ref (s 6)])), (s 6, ia Z 30 (ni Nt)), (s 7, .inr (3, [.int (nI (A 3)), .int (nI 5), .int (nI 6), .ref (s 8)])), (s 8, ia Z 30 (ni Mk))]) jl_X8_62 (c_X8_bad Z h u ab be Rf ) 0 rfl rfl dX8_mark_51 rfl (by decide) (Nat.le_of_ble_eq_true rfl) [0] [1, 2, 3, 4, 5, 6, 7, 8, 9, 10, 11, 12, 13, 14, 15, 16] rfl rfl rfl rfl (by decide) rfl (fun rv wv hp => ?_)
        obtain ⟨rfl, rfl⟩ := hp
        refine j_world hJ (ws' := [xO h u ab be ((bmp Rf 0) 0) ((bmp Rf 0) 1) ((bmp Rf 0) 2), (u 0, .inr (4, [.ref (s 0), .ref (s 1), .ref (s 3), .ref (s 5), .ref (s 7)])), cO (s 0) q (A 21) (A 5) (A 6) (A 7) (A 8) (A 0), (q 0, ia Z 12 (ni K)), (q 1, ia Z 12 (ni P)), (q 2, ia Z 6 (ni kd)), (q 3, ia Z 6 (ni am)), (q 4, ia Z 6 (ni st)), (q 5, ia Z 6 (ni rg)), (s 1, .inr (1, [.int (nI (A 4)), .ref (s 2)])), (s 2, ia Z 128 (ni Ro)), (s 3, .inr (3, [.int (nI (A 1)), .int (nI 4), .int (nI 5), .ref (s 4)])), (s 4, ia Z 30 (ni Sn)), (s 5, .inr (3, [.int (nI (A 2)), .int (nI 5), .int (nI 6), .ref (s 6)])), (s 6, ia Z 30 (ni Nt)), (s 7, .inr (3, [.int (nI (A 3)), .int (nI 5), .int (nI 6), .ref (s 8)])), (s 8, ia Z 30 (ni Mk))]) [16, 0, 1, 2, 3, 4, 5, 6, 7, 8, 9, 10, 11, 12, 13, 14, 15] rfl rfl ?_
        show J 54 [(0, .ref h), (1, .int a), (2, .int b), (3, .int c), (4, .int d), (5, .int e)] [.int (zI (-2))] [xO h u ab be ((bmp Rf 0) 0) ((bmp Rf 0) 1) ((bmp Rf 0) 2), (u 0, .inr (4, [.ref (s 0), .ref (s 1), .ref (s 3), .ref (s 5), .ref (s 7)])), cO (s 0) q (A 21) (A 5) (A 6) (A 7) (A 8) (A 0), (q 0, ia Z 12 (ni K)), (q 1, ia Z 12 (ni P)), (q 2, ia Z 6 (ni kd)), (q 3, ia Z 6 (ni am)), (q 4, ia Z 6 (ni st)), (q 5, ia Z 6 (ni rg)), (s 1, .inr (1, [.int (nI (A 4)), .ref (s 2)])), (s 2, ia Z 128 (ni Ro)), (s 3, .inr (3, [.int (nI (A 1)), .int (nI 4), .int (nI 5), .ref (s 4)])), (s 4, ia Z 30 (ni Sn)), (s 5, .inr (3, [.int (nI (A 2)), .int (nI 5), .int (nI 6), .ref (s 6)])), (s 6, ia Z 30 (ni Nt)), (s 7, .inr (3, [.int (nI (A 3)), .int (nI 5), .int (nI 6), .ref (s 8)])), (s 8, ia Z 30 (ni Mk))] 0 0
        have hP0 : ¬ (pMark A a b c d e) := by simp only [rgI, isS, isR, pNote, pMark]; omega
        have hAo : (a_mark A a b c d e) = A := by simp only [a_mark, if_neg hP0]
        have hRo : (r_mark A Rf a b c d e) = bmp Rf 0 := by simp only [r_mark, if_neg hP0]
        exact hE.1 _ _ _ _ _ _ _ rfl rfl dX8_mark_54 (Nat.le_refl _) (Nat.le_refl _) (⟨K, P, kd, am, st, rg, Ro, Sn, Nt, Mk, congrArg (fun z => some (Value.int (zI z))) (by simp only [z_mark, if_neg hP0]), by rw [hAo, hRo] <;> first | rfl | (skip), by rw [hAo]; exact hA⟩)
      · skip
        refine j_iload hJ (q := 30) dX8_mark_28 4 rfl rfl ?_
        refine j_iconst hJ (q := 31) dX8_mark_30 rfl ki_0 ?_
        refine j_bipush hJ (q := 33) dX8_mark_31 rfl kb_99 ?_
        refine j_sR hJ (q := 36) (rest := []) (As := [.int d, .int (zI 0), .int (zI 99)]) jl_X8_58 (c_X8_within Z d 0 99 (by omega) (by omega)) dX8_mark_33 rfl (by decide) (Nat.le_of_ble_eq_true rfl) [] rfl rfl (fun rv hp => ?_)
        obtain rfl := hp
        show J 36 [(0, .ref h), (1, .int a), (2, .int b), (3, .int c), (4, .int d), (5, .int e)] [.int (bI (decide (0 ≤ d.toInt ∧ d.toInt ≤ 99)))] [xO h u ab be (Rf 0) (Rf 1) (Rf 2), (u 0, .inr (4, [.ref (s 0), .ref (s 1), .ref (s 3), .ref (s 5), .ref (s 7)])), cO (s 0) q (A 21) (A 5) (A 6) (A 7) (A 8) (A 0), (q 0, ia Z 12 (ni K)), (q 1, ia Z 12 (ni P)), (q 2, ia Z 6 (ni kd)), (q 3, ia Z 6 (ni am)), (q 4, ia Z 6 (ni st)), (q 5, ia Z 6 (ni rg)), (s 1, .inr (1, [.int (nI (A 4)), .ref (s 2)])), (s 2, ia Z 128 (ni Ro)), (s 3, .inr (3, [.int (nI (A 1)), .int (nI 4), .int (nI 5), .ref (s 4)])), (s 4, ia Z 30 (ni Sn)), (s 5, .inr (3, [.int (nI (A 2)), .int (nI 5), .int (nI 6), .ref (s 6)])), (s 6, ia Z 30 (ni Nt)), (s 7, .inr (3, [.int (nI (A 3)), .int (nI 5), .int (nI 6), .ref (s 8)])), (s 8, ia Z 30 (ni Mk))] 0 0
        refine jp_if_eq hJ (q := 39) (tgt := 50) dX8_mark_36 (by decide) rfl (fun c4 => ?_) (fun c4 => ?_)
        · skip
          refine j_aload_n hJ (q := 51) dX8_mark_50 rfl 0 rfl rfl ?_
          refine j_vW hJ (q := 54) (rest := []) (As := []) (wr := [(u 0, .inr (4, [.ref (s 0), .ref (s 1), .ref (s 3), .ref (s 5), .ref (s 7)])), cO (s 0) q (A 21) (A 5) (A 6) (A 7) (A 8) (A 0), (q 0, ia Z 12 (ni K)), (q 1, ia Z 12 (ni P)), (q 2, ia Z 6 (ni kd)), (q 3, ia Z 6 (ni am)), (q 4, ia Z 6 (ni st)), (q 5, ia Z 6 (ni rg)), (s 1, .inr (1, [.int (nI (A 4)), .ref (s 2)])), (s 2, ia Z 128 (ni Ro)), (s 3, .inr (3, [.int (nI (A 1)), .int (nI 4), .int (nI 5), .ref (s 4)])), (s 4, ia Z 30 (ni Sn)), (s 5, .inr (3, [.int (nI (A 2)), .int (nI 5), .int (nI 6), .ref (s 6)])), (s 6, ia Z 30 (ni Nt)), (s 7, .inr (3, [.int (nI (A 3)), .int (nI 5), .int (nI 6), .ref (s 8)])), (s 8, ia Z 30 (ni Mk))]) jl_X8_62 (c_X8_bad Z h u ab be Rf ) 0 rfl rfl dX8_mark_51 rfl (by decide) (Nat.le_of_ble_eq_true rfl) [0] [1, 2, 3, 4, 5, 6, 7, 8, 9, 10, 11, 12, 13, 14, 15, 16] rfl rfl rfl rfl (by decide) rfl (fun rv wv hp => ?_)
          obtain ⟨rfl, rfl⟩ := hp
          refine j_world hJ (ws' := [xO h u ab be ((bmp Rf 0) 0) ((bmp Rf 0) 1) ((bmp Rf 0) 2), (u 0, .inr (4, [.ref (s 0), .ref (s 1), .ref (s 3), .ref (s 5), .ref (s 7)])), cO (s 0) q (A 21) (A 5) (A 6) (A 7) (A 8) (A 0), (q 0, ia Z 12 (ni K)), (q 1, ia Z 12 (ni P)), (q 2, ia Z 6 (ni kd)), (q 3, ia Z 6 (ni am)), (q 4, ia Z 6 (ni st)), (q 5, ia Z 6 (ni rg)), (s 1, .inr (1, [.int (nI (A 4)), .ref (s 2)])), (s 2, ia Z 128 (ni Ro)), (s 3, .inr (3, [.int (nI (A 1)), .int (nI 4), .int (nI 5), .ref (s 4)])), (s 4, ia Z 30 (ni Sn)), (s 5, .inr (3, [.int (nI (A 2)), .int (nI 5), .int (nI 6), .ref (s 6)])), (s 6, ia Z 30 (ni Nt)), (s 7, .inr (3, [.int (nI (A 3)), .int (nI 5), .int (nI 6), .ref (s 8)])), (s 8, ia Z 30 (ni Mk))]) [16, 0, 1, 2, 3, 4, 5, 6, 7, 8, 9, 10, 11, 12, 13, 14, 15] rfl rfl ?_
          show J 54 [(0, .ref h), (1, .int a), (2, .int b), (3, .int c), (4, .int d), (5, .int e)] [.int (zI (-2))] [xO h u ab be ((bmp Rf 0) 0) ((bmp Rf 0) 1) ((bmp Rf 0) 2), (u 0, .inr (4, [.ref (s 0), .ref (s 1), .ref (s 3), .ref (s 5), .ref (s 7)])), cO (s 0) q (A 21) (A 5) (A 6) (A 7) (A 8) (A 0), (q 0, ia Z 12 (ni K)), (q 1, ia Z 12 (ni P)), (q 2, ia Z 6 (ni kd)), (q 3, ia Z 6 (ni am)), (q 4, ia Z 6 (ni st)), (q 5, ia Z 6 (ni rg)), (s 1, .inr (1, [.int (nI (A 4)), .ref (s 2)])), (s 2, ia Z 128 (ni Ro)), (s 3, .inr (3, [.int (nI (A 1)), .int (nI 4), .int (nI 5), .ref (s 4)])), (s 4, ia Z 30 (ni Sn)), (s 5, .inr (3, [.int (nI (A 2)), .int (nI 5), .int (nI 6), .ref (s 6)])), (s 6, ia Z 30 (ni Nt)), (s 7, .inr (3, [.int (nI (A 3)), .int (nI 5), .int (nI 6), .ref (s 8)])), (s 8, ia Z 30 (ni Mk))] 0 0
          have hP0 : ¬ (pMark A a b c d e) := by simp only [rgI, isS, isR, pNote, pMark]; omega
          have hAo : (a_mark A a b c d e) = A := by simp only [a_mark, if_neg hP0]
          have hRo : (r_mark A Rf a b c d e) = bmp Rf 0 := by simp only [r_mark, if_neg hP0]
          exact hE.1 _ _ _ _ _ _ _ rfl rfl dX8_mark_54 (Nat.le_refl _) (Nat.le_refl _) (⟨K, P, kd, am, st, rg, Ro, Sn, Nt, Mk, congrArg (fun z => some (Value.int (zI z))) (by simp only [z_mark, if_neg hP0]), by rw [hAo, hRo] <;> first | rfl | (skip), by rw [hAo]; exact hA⟩)
        · skip
          refine j_iload hJ (q := 41) dX8_mark_39 5 rfl rfl ?_
          refine j_iconst hJ (q := 42) dX8_mark_41 rfl ki_0 ?_
          refine j_bipush hJ (q := 44) dX8_mark_42 rfl kb_60 ?_
          refine j_sR hJ (q := 47) (rest := []) (As := [.int e, .int (zI 0), .int (zI 60)]) jl_X8_58 (c_X8_within Z e 0 60 (by omega) (by omega)) dX8_mark_44 rfl (by decide) (Nat.le_of_ble_eq_true rfl) [] rfl rfl (fun rv hp => ?_)
          obtain rfl := hp
          show J 47 [(0, .ref h), (1, .int a), (2, .int b), (3, .int c), (4, .int d), (5, .int e)] [.int (bI (decide (0 ≤ e.toInt ∧ e.toInt ≤ 60)))] [xO h u ab be (Rf 0) (Rf 1) (Rf 2), (u 0, .inr (4, [.ref (s 0), .ref (s 1), .ref (s 3), .ref (s 5), .ref (s 7)])), cO (s 0) q (A 21) (A 5) (A 6) (A 7) (A 8) (A 0), (q 0, ia Z 12 (ni K)), (q 1, ia Z 12 (ni P)), (q 2, ia Z 6 (ni kd)), (q 3, ia Z 6 (ni am)), (q 4, ia Z 6 (ni st)), (q 5, ia Z 6 (ni rg)), (s 1, .inr (1, [.int (nI (A 4)), .ref (s 2)])), (s 2, ia Z 128 (ni Ro)), (s 3, .inr (3, [.int (nI (A 1)), .int (nI 4), .int (nI 5), .ref (s 4)])), (s 4, ia Z 30 (ni Sn)), (s 5, .inr (3, [.int (nI (A 2)), .int (nI 5), .int (nI 6), .ref (s 6)])), (s 6, ia Z 30 (ni Nt)), (s 7, .inr (3, [.int (nI (A 3)), .int (nI 5), .int (nI 6), .ref (s 8)])), (s 8, ia Z 30 (ni Mk))] 0 0
          refine jp_if_ne hJ (q := 50) (tgt := 55) dX8_mark_47 (by decide) rfl (fun c5 => ?_) (fun c5 => ?_)
          · skip
            have hn_a := nt_cast (x := a) (by omega)
            refine j_eql (lvs' := [(0, .ref h), (1, .int (nI (nt a))), (2, .int b), (3, .int c), (4, .int d), (5, .int e)]) (by rw [← nt_eq (x := a) (by omega)]) ?_
            have hn_b := nt_cast (x := b) (by omega)
            refine j_eql (lvs' := [(0, .ref h), (1, .int (nI (nt a))), (2, .int (nI (nt b))), (3, .int c), (4, .int d), (5, .int e)]) (by rw [← nt_eq (x := b) (by omega)]) ?_
            have hn_c := nt_cast (x := c) (by omega)
            refine j_eql (lvs' := [(0, .ref h), (1, .int (nI (nt a))), (2, .int (nI (nt b))), (3, .int (nI (nt c))), (4, .int d), (5, .int e)]) (by rw [← nt_eq (x := c) (by omega)]) ?_
            have hn_d := nt_cast (x := d) (by omega)
            refine j_eql (lvs' := [(0, .ref h), (1, .int (nI (nt a))), (2, .int (nI (nt b))), (3, .int (nI (nt c))), (4, .int (nI (nt d))), (5, .int e)]) (by rw [← nt_eq (x := d) (by omega)]) ?_
            have hn_e := nt_cast (x := e) (by omega)
            refine j_eql (lvs' := [(0, .ref h), (1, .int (nI (nt a))), (2, .int (nI (nt b))), (3, .int (nI (nt c))), (4, .int (nI (nt d))), (5, .int (nI (nt e)))]) (by rw [← nt_eq (x := e) (by omega)]) ?_
            refine j_aload_n hJ (q := 56) dX8_mark_55 rfl 0 rfl rfl ?_
            refine j_get hJ (q := 59) jf_X8_10 dX8_mark_56 0 rfl rfl rfl ?_
            refine j_get hJ (q := 62) jf_X8_220 dX8_mark_59 1 rfl rfl rfl ?_
            refine j_vR hJ (q := 65) (rest := []) (As := []) jl_X8_200 (c_X5_isFull Z (s 7) (s 8) (A 3) 5 6 Mk (by omega) (by omega)) 15 rfl rfl dX8_mark_62 rfl (by decide) (Nat.le_of_ble_eq_true rfl) [15, 16] rfl rfl (fun rv hp => ?_)
            obtain rfl := hp
            show J 65 [(0, .ref h), (1, .int (nI (nt a))), (2, .int (nI (nt b))), (3, .int (nI (nt c))), (4, .int (nI (nt d))), (5, .int (nI (nt e)))] [.int (bI (decide (6 ≤ (A 3))))] [xO h u ab be (Rf 0) (Rf 1) (Rf 2), (u 0, .inr (4, [.ref (s 0), .ref (s 1), .ref (s 3), .ref (s 5), .ref (s 7)])), cO (s 0) q (A 21) (A 5) (A 6) (A 7) (A 8) (A 0), (q 0, ia Z 12 (ni K)), (q 1, ia Z 12 (ni P)), (q 2, ia Z 6 (ni kd)), (q 3, ia Z 6 (ni am)), (q 4, ia Z 6 (ni st)), (q 5, ia Z 6 (ni rg)), (s 1, .inr (1, [.int (nI (A 4)), .ref (s 2)])), (s 2, ia Z 128 (ni Ro)), (s 3, .inr (3, [.int (nI (A 1)), .int (nI 4), .int (nI 5), .ref (s 4)])), (s 4, ia Z 30 (ni Sn)), (s 5, .inr (3, [.int (nI (A 2)), .int (nI 5), .int (nI 6), .ref (s 6)])), (s 6, ia Z 30 (ni Nt)), (s 7, .inr (3, [.int (nI (A 3)), .int (nI 5), .int (nI 6), .ref (s 8)])), (s 8, ia Z 30 (ni Mk))] 0 0
            refine jp_if_eq hJ (q := 68) (tgt := 73) dX8_mark_65 (by decide) rfl (fun c6 => ?_) (fun c6 => ?_)
            · skip
              refine j_aload_n hJ (q := 74) dX8_mark_73 rfl 0 rfl rfl ?_
              refine j_get hJ (q := 77) jf_X8_10 dX8_mark_74 0 rfl rfl rfl ?_
              refine j_get hJ (q := 80) jf_X8_220 dX8_mark_77 1 rfl rfl rfl ?_
              refine j_iload_n hJ (q := 81) dX8_mark_80 rfl 1 rfl rfl ?_
              refine j_iload_n hJ (q := 82) dX8_mark_81 rfl 2 rfl rfl ?_
              refine j_iload_n hJ (q := 83) dX8_mark_82 rfl 3 rfl rfl ?_
              refine j_iload hJ (q := 85) dX8_mark_83 4 rfl rfl ?_
              refine j_iload hJ (q := 87) dX8_mark_85 5 rfl rfl ?_
              refine j_vW hJ (q := 90) (rest := []) (As := [.int (nI (nt a)), .int (nI (nt b)), .int (nI (nt c)), .int (nI (nt d)), .int (nI (nt e))]) (wr := [xO h u ab be (Rf 0) (Rf 1) (Rf 2), (u 0, .inr (4, [.ref (s 0), .ref (s 1), .ref (s 3), .ref (s 5), .ref (s 7)])), cO (s 0) q (A 21) (A 5) (A 6) (A 7) (A 8) (A 0), (q 0, ia Z 12 (ni K)), (q 1, ia Z 12 (ni P)), (q 2, ia Z 6 (ni kd)), (q 3, ia Z 6 (ni am)), (q 4, ia Z 6 (ni st)), (q 5, ia Z 6 (ni rg)), (s 1, .inr (1, [.int (nI (A 4)), .ref (s 2)])), (s 2, ia Z 128 (ni Ro)), (s 3, .inr (3, [.int (nI (A 1)), .int (nI 4), .int (nI 5), .ref (s 4)])), (s 4, ia Z 30 (ni Sn)), (s 5, .inr (3, [.int (nI (A 2)), .int (nI 5), .int (nI 6), .ref (s 6)])), (s 6, ia Z 30 (ni Nt))]) jl_X8_206 (c_X5_add Z (s 7) (s 8) (A 3) 5 6 Mk (nt a) (nt b) (nt c) (nt d) (nt e) (by omega) (by omega)) 15 rfl rfl dX8_mark_87 rfl (by decide) (Nat.le_of_ble_eq_true rfl) [15, 16] [0, 1, 2, 3, 4, 5, 6, 7, 8, 9, 10, 11, 12, 13, 14] rfl rfl rfl rfl (by decide) rfl (fun rv wv hp => ?_)
              obtain ⟨rfl, rfl⟩ := hp
              show J 90 [(0, .ref h), (1, .int (nI (nt a))), (2, .int (nI (nt b))), (3, .int (nI (nt c))), (4, .int (nI (nt d))), (5, .int (nI (nt e)))] [] [xO h u ab be (Rf 0) (Rf 1) (Rf 2), (u 0, .inr (4, [.ref (s 0), .ref (s 1), .ref (s 3), .ref (s 5), .ref (s 7)])), cO (s 0) q (A 21) (A 5) (A 6) (A 7) (A 8) (A 0), (q 0, ia Z 12 (ni K)), (q 1, ia Z 12 (ni P)), (q 2, ia Z 6 (ni kd)), (q 3, ia Z 6 (ni am)), (q 4, ia Z 6 (ni st)), (q 5, ia Z 6 (ni rg)), (s 1, .inr (1, [.int (nI (A 4)), .ref (s 2)])), (s 2, ia Z 128 (ni Ro)), (s 3, .inr (3, [.int (nI (A 1)), .int (nI 4), .int (nI 5), .ref (s 4)])), (s 4, ia Z 30 (ni Sn)), (s 5, .inr (3, [.int (nI (A 2)), .int (nI 5), .int (nI 6), .ref (s 6)])), (s 6, ia Z 30 (ni Nt)), ((s 7), .inr (3, [.int (nI ((A 3) + 1)), .int (nI 5), .int (nI 6), .ref (s 8)])), ((s 8), ia Z 30 (ni (lay5 Mk ((A 3) * 5) (nt a) (nt b) (nt c) (nt d) (nt e))))] 0 0
              refine j_aload_n hJ (q := 91) dX8_mark_90 rfl 0 rfl rfl ?_
              refine j_get hJ (q := 94) jf_X8_10 dX8_mark_91 0 rfl rfl rfl ?_
              refine j_get hJ (q := 97) jf_X8_220 dX8_mark_94 1 rfl rfl rfl ?_
              refine j_get hJ (q := 100) jf_X8_210 dX8_mark_97 15 rfl rfl rfl ?_
              have hP0 : pMark A a b c d e := by simp only [rgI, isS, isR, pNote, pMark]; omega
              have hQ0 : ¬ (A 3 = 6) := by omega
              have hAo : (a_mark A a b c d e) = va_up (lay5 A (108 + 5 * A 3) (nt a) (nt b) (nt c) (nt d) (nt e)) 3 (A 3 + 1) := by simp only [a_mark, if_pos hP0, if_neg hQ0]
              have hRo : (r_mark A Rf a b c d e) = Rf := by simp only [r_mark, if_pos hP0, if_neg hQ0]
              have es21 : (va_up (lay5 A (108 + 5 * A 3) (nt a) (nt b) (nt c) (nt d) (nt e)) 3 (A 3 + 1)) 21 = A 21 := by simp only [va_up]; rw [if_neg (by decide)]; exact lay5_lt (by omega)
              have es5 : (va_up (lay5 A (108 + 5 * A 3) (nt a) (nt b) (nt c) (nt d) (nt e)) 3 (A 3 + 1)) 5 = A 5 := by simp only [va_up]; rw [if_neg (by decide)]; exact lay5_lt (by omega)
              have es6 : (va_up (lay5 A (108 + 5 * A 3) (nt a) (nt b) (nt c) (nt d) (nt e)) 3 (A 3 + 1)) 6 = A 6 := by simp only [va_up]; rw [if_neg (by decide)]; exact lay5_lt (by omega)
              have es7 : (va_up (lay5 A (108 + 5 * A 3) (nt a) (nt b) (nt c) (nt d) (nt e)) 3 (A 3 + 1)) 7 = A 7 := by simp only [va_up]; rw [if_neg (by decide)]; exact lay5_lt (by omega)
              have es8 : (va_up (lay5 A (108 + 5 * A 3) (nt a) (nt b) (nt c) (nt d) (nt e)) 3 (A 3 + 1)) 8 = A 8 := by simp only [va_up]; rw [if_neg (by decide)]; exact lay5_lt (by omega)
              have es0 : (va_up (lay5 A (108 + 5 * A 3) (nt a) (nt b) (nt c) (nt d) (nt e)) 3 (A 3 + 1)) 0 = A 0 := by simp only [va_up]; rw [if_neg (by decide)]; exact lay5_lt (by omega)
              have es1 : (va_up (lay5 A (108 + 5 * A 3) (nt a) (nt b) (nt c) (nt d) (nt e)) 3 (A 3 + 1)) 1 = A 1 := by simp only [va_up]; rw [if_neg (by decide)]; exact lay5_lt (by omega)
              have es2 : (va_up (lay5 A (108 + 5 * A 3) (nt a) (nt b) (nt c) (nt d) (nt e)) 3 (A 3 + 1)) 2 = A 2 := by simp only [va_up]; rw [if_neg (by decide)]; exact lay5_lt (by omega)
              have es3 : (va_up (lay5 A (108 + 5 * A 3) (nt a) (nt b) (nt c) (nt d) (nt e)) 3 (A 3 + 1)) 3 = A 3 + 1 := rfl
              have es4 : (va_up (lay5 A (108 + 5 * A 3) (nt a) (nt b) (nt c) (nt d) (nt e)) 3 (A 3 + 1)) 4 = A 4 := by simp only [va_up]; rw [if_neg (by decide)]; exact lay5_lt (by omega)
              have e1 : ∀ j, j ≠ 3 → j < 58 → (va_up (lay5 A (108 + 5 * A 3) (nt a) (nt b) (nt c) (nt d) (nt e)) 3 (A 3 + 1)) j = A j := fun j h h2 => by simp only [va_up]; rw [if_neg h]; exact lay5_lt (by omega)
              exact hE.1 _ _ _ _ _ _ _ rfl rfl dX8_mark_100 (Nat.le_refl _) (Nat.le_refl _) (⟨K, P, kd, am, st, rg, Ro, Sn, Nt, (lay5 Mk ((A 3) * 5) (nt a) (nt b) (nt c) (nt d) (nt e)), congrArg (fun z => some (Value.int z)) ((zI_nat _).symm.trans (congrArg zI (by simp only [z_mark, if_pos hP0, if_neg hQ0]; omega))), by rw [hAo, hRo] <;> first | rfl | (simp only [es21, es5, es6, es7, es8, es0, es1, es2, es3, es4]), by rw [hAo]; exact ⟨rR_of hR (fun j hj => e1 j (by omega) (by omega)) w6 w2, rX_mark hX (by omega) g1 g2⟩⟩)
            · skip
              refine j_aload_n hJ (q := 69) dX8_mark_68 rfl 0 rfl rfl ?_
              refine j_vW hJ (q := 72) (rest := []) (As := []) (wr := [(u 0, .inr (4, [.ref (s 0), .ref (s 1), .ref (s 3), .ref (s 5), .ref (s 7)])), cO (s 0) q (A 21) (A 5) (A 6) (A 7) (A 8) (A 0), (q 0, ia Z 12 (ni K)), (q 1, ia Z 12 (ni P)), (q 2, ia Z 6 (ni kd)), (q 3, ia Z 6 (ni am)), (q 4, ia Z 6 (ni st)), (q 5, ia Z 6 (ni rg)), (s 1, .inr (1, [.int (nI (A 4)), .ref (s 2)])), (s 2, ia Z 128 (ni Ro)), (s 3, .inr (3, [.int (nI (A 1)), .int (nI 4), .int (nI 5), .ref (s 4)])), (s 4, ia Z 30 (ni Sn)), (s 5, .inr (3, [.int (nI (A 2)), .int (nI 5), .int (nI 6), .ref (s 6)])), (s 6, ia Z 30 (ni Nt)), (s 7, .inr (3, [.int (nI (A 3)), .int (nI 5), .int (nI 6), .ref (s 8)])), (s 8, ia Z 30 (ni Mk))]) jl_X8_107 (c_X8_full Z h u ab be Rf ) 0 rfl rfl dX8_mark_69 rfl (by decide) (Nat.le_of_ble_eq_true rfl) [0] [1, 2, 3, 4, 5, 6, 7, 8, 9, 10, 11, 12, 13, 14, 15, 16] rfl rfl rfl rfl (by decide) rfl (fun rv wv hp => ?_)
              obtain ⟨rfl, rfl⟩ := hp
              refine j_world hJ (ws' := [xO h u ab be ((bmp Rf 2) 0) ((bmp Rf 2) 1) ((bmp Rf 2) 2), (u 0, .inr (4, [.ref (s 0), .ref (s 1), .ref (s 3), .ref (s 5), .ref (s 7)])), cO (s 0) q (A 21) (A 5) (A 6) (A 7) (A 8) (A 0), (q 0, ia Z 12 (ni K)), (q 1, ia Z 12 (ni P)), (q 2, ia Z 6 (ni kd)), (q 3, ia Z 6 (ni am)), (q 4, ia Z 6 (ni st)), (q 5, ia Z 6 (ni rg)), (s 1, .inr (1, [.int (nI (A 4)), .ref (s 2)])), (s 2, ia Z 128 (ni Ro)), (s 3, .inr (3, [.int (nI (A 1)), .int (nI 4), .int (nI 5), .ref (s 4)])), (s 4, ia Z 30 (ni Sn)), (s 5, .inr (3, [.int (nI (A 2)), .int (nI 5), .int (nI 6), .ref (s 6)])), (s 6, ia Z 30 (ni Nt)), (s 7, .inr (3, [.int (nI (A 3)), .int (nI 5), .int (nI 6), .ref (s 8)])), (s 8, ia Z 30 (ni Mk))]) [16, 0, 1, 2, 3, 4, 5, 6, 7, 8, 9, 10, 11, 12, 13, 14, 15] rfl rfl ?_
              show J 72 [(0, .ref h), (1, .int (nI (nt a))), (2, .int (nI (nt b))), (3, .int (nI (nt c))), (4, .int (nI (nt d))), (5, .int (nI (nt e)))] [.int (zI (-4))] [xO h u ab be ((bmp Rf 2) 0) ((bmp Rf 2) 1) ((bmp Rf 2) 2), (u 0, .inr (4, [.ref (s 0), .ref (s 1), .ref (s 3), .ref (s 5), .ref (s 7)])), cO (s 0) q (A 21) (A 5) (A 6) (A 7) (A 8) (A 0), (q 0, ia Z 12 (ni K)), (q 1, ia Z 12 (ni P)), (q 2, ia Z 6 (ni kd)), (q 3, ia Z 6 (ni am)), (q 4, ia Z 6 (ni st)), (q 5, ia Z 6 (ni rg)), (s 1, .inr (1, [.int (nI (A 4)), .ref (s 2)])), (s 2, ia Z 128 (ni Ro)), (s 3, .inr (3, [.int (nI (A 1)), .int (nI 4), .int (nI 5), .ref (s 4)])), (s 4, ia Z 30 (ni Sn)), (s 5, .inr (3, [.int (nI (A 2)), .int (nI 5), .int (nI 6), .ref (s 6)])), (s 6, ia Z 30 (ni Nt)), (s 7, .inr (3, [.int (nI (A 3)), .int (nI 5), .int (nI 6), .ref (s 8)])), (s 8, ia Z 30 (ni Mk))] 0 0
              have hP0 : pMark A a b c d e := by simp only [rgI, isS, isR, pNote, pMark]; omega
              have hQ0 : A 3 = 6 := by omega
              have hAo : (a_mark A a b c d e) = A := by simp only [a_mark, if_pos hP0, if_pos hQ0]
              have hRo : (r_mark A Rf a b c d e) = bmp Rf 2 := by simp only [r_mark, if_pos hP0, if_pos hQ0]
              exact hE.1 _ _ _ _ _ _ _ rfl rfl dX8_mark_72 (Nat.le_refl _) (Nat.le_refl _) (⟨K, P, kd, am, st, rg, Ro, Sn, Nt, Mk, congrArg (fun z => some (Value.int (zI z))) (by simp only [z_mark, if_pos hP0, if_pos hQ0]), by rw [hAo, hRo] <;> first | rfl | (skip), by rw [hAo]; exact hA⟩)
          · skip
            refine j_aload_n hJ (q := 51) dX8_mark_50 rfl 0 rfl rfl ?_
            refine j_vW hJ (q := 54) (rest := []) (As := []) (wr := [(u 0, .inr (4, [.ref (s 0), .ref (s 1), .ref (s 3), .ref (s 5), .ref (s 7)])), cO (s 0) q (A 21) (A 5) (A 6) (A 7) (A 8) (A 0), (q 0, ia Z 12 (ni K)), (q 1, ia Z 12 (ni P)), (q 2, ia Z 6 (ni kd)), (q 3, ia Z 6 (ni am)), (q 4, ia Z 6 (ni st)), (q 5, ia Z 6 (ni rg)), (s 1, .inr (1, [.int (nI (A 4)), .ref (s 2)])), (s 2, ia Z 128 (ni Ro)), (s 3, .inr (3, [.int (nI (A 1)), .int (nI 4), .int (nI 5), .ref (s 4)])), (s 4, ia Z 30 (ni Sn)), (s 5, .inr (3, [.int (nI (A 2)), .int (nI 5), .int (nI 6), .ref (s 6)])), (s 6, ia Z 30 (ni Nt)), (s 7, .inr (3, [.int (nI (A 3)), .int (nI 5), .int (nI 6), .ref (s 8)])), (s 8, ia Z 30 (ni Mk))]) jl_X8_62 (c_X8_bad Z h u ab be Rf ) 0 rfl rfl dX8_mark_51 rfl (by decide) (Nat.le_of_ble_eq_true rfl) [0] [1, 2, 3, 4, 5, 6, 7, 8, 9, 10, 11, 12, 13, 14, 15, 16] rfl rfl rfl rfl (by decide) rfl (fun rv wv hp => ?_)
            obtain ⟨rfl, rfl⟩ := hp
            refine j_world hJ (ws' := [xO h u ab be ((bmp Rf 0) 0) ((bmp Rf 0) 1) ((bmp Rf 0) 2), (u 0, .inr (4, [.ref (s 0), .ref (s 1), .ref (s 3), .ref (s 5), .ref (s 7)])), cO (s 0) q (A 21) (A 5) (A 6) (A 7) (A 8) (A 0), (q 0, ia Z 12 (ni K)), (q 1, ia Z 12 (ni P)), (q 2, ia Z 6 (ni kd)), (q 3, ia Z 6 (ni am)), (q 4, ia Z 6 (ni st)), (q 5, ia Z 6 (ni rg)), (s 1, .inr (1, [.int (nI (A 4)), .ref (s 2)])), (s 2, ia Z 128 (ni Ro)), (s 3, .inr (3, [.int (nI (A 1)), .int (nI 4), .int (nI 5), .ref (s 4)])), (s 4, ia Z 30 (ni Sn)), (s 5, .inr (3, [.int (nI (A 2)), .int (nI 5), .int (nI 6), .ref (s 6)])), (s 6, ia Z 30 (ni Nt)), (s 7, .inr (3, [.int (nI (A 3)), .int (nI 5), .int (nI 6), .ref (s 8)])), (s 8, ia Z 30 (ni Mk))]) [16, 0, 1, 2, 3, 4, 5, 6, 7, 8, 9, 10, 11, 12, 13, 14, 15] rfl rfl ?_
            show J 54 [(0, .ref h), (1, .int a), (2, .int b), (3, .int c), (4, .int d), (5, .int e)] [.int (zI (-2))] [xO h u ab be ((bmp Rf 0) 0) ((bmp Rf 0) 1) ((bmp Rf 0) 2), (u 0, .inr (4, [.ref (s 0), .ref (s 1), .ref (s 3), .ref (s 5), .ref (s 7)])), cO (s 0) q (A 21) (A 5) (A 6) (A 7) (A 8) (A 0), (q 0, ia Z 12 (ni K)), (q 1, ia Z 12 (ni P)), (q 2, ia Z 6 (ni kd)), (q 3, ia Z 6 (ni am)), (q 4, ia Z 6 (ni st)), (q 5, ia Z 6 (ni rg)), (s 1, .inr (1, [.int (nI (A 4)), .ref (s 2)])), (s 2, ia Z 128 (ni Ro)), (s 3, .inr (3, [.int (nI (A 1)), .int (nI 4), .int (nI 5), .ref (s 4)])), (s 4, ia Z 30 (ni Sn)), (s 5, .inr (3, [.int (nI (A 2)), .int (nI 5), .int (nI 6), .ref (s 6)])), (s 6, ia Z 30 (ni Nt)), (s 7, .inr (3, [.int (nI (A 3)), .int (nI 5), .int (nI 6), .ref (s 8)])), (s 8, ia Z 30 (ni Mk))] 0 0
            have hP0 : ¬ (pMark A a b c d e) := by simp only [rgI, isS, isR, pNote, pMark]; omega
            have hAo : (a_mark A a b c d e) = A := by simp only [a_mark, if_neg hP0]
            have hRo : (r_mark A Rf a b c d e) = bmp Rf 0 := by simp only [r_mark, if_neg hP0]
            exact hE.1 _ _ _ _ _ _ _ rfl rfl dX8_mark_54 (Nat.le_refl _) (Nat.le_refl _) (⟨K, P, kd, am, st, rg, Ro, Sn, Nt, Mk, congrArg (fun z => some (Value.int (zI z))) (by simp only [z_mark, if_neg hP0]), by rw [hAo, hRo] <;> first | rfl | (skip), by rw [hAo]; exact hA⟩)

set_option maxHeartbeats 4000000 in
set_option maxRecDepth 100000 in
theorem c_X8_of (Z : jZ) (h : Nat) (u : Nat → Nat) (ab : Int) (be : Int) (Rf : Nat → Nat) (s : Nat → Nat) (q : Nat → Nat) (A : Nat → Nat) (K : Nat → Nat) (P : Nat → Nat) (kd : Nat → Nat) (am : Nat → Nat) (st : Nat → Nat) (rg : Nat → Nat) (a : Int32) (b : Int32) (hg : wg A) (hR : rR A K P kd am st rg) : CT Z yX8_of cX8_of 4 ((some FieldType.int)) 5 0 0 [.ref h, .int a, .int b] [xO h u ab be (Rf 0) (Rf 1) (Rf 2), (u 0, .inr (4, [.ref (s 0), .ref (s 1), .ref (s 3), .ref (s 5), .ref (s 7)])), cO (s 0) q (A 21) (A 5) (A 6) (A 7) (A 8) (A 0), (q 0, ia Z 12 (ni K)), (q 1, ia Z 12 (ni P)), (q 2, ia Z 6 (ni kd)), (q 3, ia Z 6 (ni am)), (q 4, ia Z 6 (ni st)), (q 5, ia Z 6 (ni rg))] (fun rr ww => rr = some (.int (zI (z_of A a b))) ∧ ww = [xO h u ab be ((if isR A a ∧ rgI 0 6 b then Rf else bmp Rf 0) 0) ((if isR A a ∧ rgI 0 6 b then Rf else bmp Rf 0) 1) ((if isR A a ∧ rgI 0 6 b then Rf else bmp Rf 0) 2), (u 0, .inr (4, [.ref (s 0), .ref (s 1), .ref (s 3), .ref (s 5), .ref (s 7)])), cO (s 0) q (A 21) (A 5) (A 6) (A 7) (A 8) (A 0), (q 0, ia Z 12 (ni K)), (q 1, ia Z 12 (ni P)), (q 2, ia Z 6 (ni kd)), (q 3, ia Z 6 (ni am)), (q 4, ia Z 6 (ni st)), (q 5, ia Z 6 (ni rg))]) := by
  refine CT.of RX8 false rfl (fun h => by cases h) (by decide +kernel) (Nat.le_of_ble_eq_true rfl) ?_
  intro J hJ hE
  show J 0 [(0, .ref h), (1, .int a), (2, .int b)] [] [xO h u ab be (Rf 0) (Rf 1) (Rf 2), (u 0, .inr (4, [.ref (s 0), .ref (s 1), .ref (s 3), .ref (s 5), .ref (s 7)])), cO (s 0) q (A 21) (A 5) (A 6) (A 7) (A 8) (A 0), (q 0, ia Z 12 (ni K)), (q 1, ia Z 12 (ni P)), (q 2, ia Z 6 (ni kd)), (q 3, ia Z 6 (ni am)), (q 4, ia Z 6 (ni st)), (q 5, ia Z 6 (ni rg))] 0 0
  obtain ⟨hw, ⟨g1, g2, g3, g4, g8⟩, hrs, hrn, hrm, hpst⟩ := id hg
  obtain ⟨⟨w1, w2, w3, w4, w5, w6⟩, hb, wr, wh, wd⟩ := id hw
  have hr_a := zI_rng a
  have hr_b := zI_rng b
  refine j_aload_n hJ (q := 1) dX8_of_0 rfl 0 rfl rfl ?_
  refine j_iload_n hJ (q := 2) dX8_of_1 rfl 1 rfl rfl ?_
  refine j_vR hJ (q := 5) (rest := []) (As := [.int a]) jl_X8_141 (c_X8_isRider Z h u ab be Rf s q A K P kd am st rg a (by omega)) 0 rfl rfl dX8_of_2 rfl (by decide) (Nat.le_of_ble_eq_true rfl) [0, 1, 2, 3, 4, 5, 6, 7, 8] rfl rfl (fun rv hp => ?_)
  obtain rfl := hp
  show J 5 [(0, .ref h), (1, .int a), (2, .int b)] [.int (bI (decide (0 ≤ a.toInt ∧ a.toInt ≤ (A 0 : Int) - 1)))] [xO h u ab be (Rf 0) (Rf 1) (Rf 2), (u 0, .inr (4, [.ref (s 0), .ref (s 1), .ref (s 3), .ref (s 5), .ref (s 7)])), cO (s 0) q (A 21) (A 5) (A 6) (A 7) (A 8) (A 0), (q 0, ia Z 12 (ni K)), (q 1, ia Z 12 (ni P)), (q 2, ia Z 6 (ni kd)), (q 3, ia Z 6 (ni am)), (q 4, ia Z 6 (ni st)), (q 5, ia Z 6 (ni rg))] 0 0
  refine jp_if_ne hJ (q := 8) (tgt := 13) dX8_of_5 (by decide) rfl (fun c1 => ?_) (fun c1 => ?_)
  · skip
    have hn_a := nt_cast (x := a) (by omega)
    refine j_eql (lvs' := [(0, .ref h), (1, .int (nI (nt a))), (2, .int b)]) (by rw [← nt_eq (x := a) (by omega)]) ?_
    refine j_aload_n hJ (q := 14) dX8_of_13 rfl 0 rfl rfl ?_
    refine j_get hJ (q := 17) jf_X8_10 dX8_of_14 0 rfl rfl rfl ?_
    refine j_get hJ (q := 20) jf_X8_66 dX8_of_17 1 rfl rfl rfl ?_
    refine j_astore_n hJ (q := 21) (lvs' := [(3, .ref (s 0)), (0, .ref h), (1, .int (nI (nt a))), (2, .int b)]) dX8_of_20 rfl (by decide) rfl rfl ?_
    obtain ⟨r1, r2, r3, r4⟩ := wr (nt a) (by omega)
    have hh1 := wh (A (15 + nt a)) (by omega)
    refine j_iload_n hJ (q := 22) dX8_of_21 rfl 3 rfl rfl ?_
    rcases Classical.em (0 ≤ b.toInt ∧ b.toInt ≤ 6) with c2 | c2
    · skip
      have c3 : b.toInt = 0 ∨ b.toInt = 1 ∨ b.toInt = 2 ∨ b.toInt = 3 ∨ b.toInt = 4 ∨ b.toInt = 5 ∨ b.toInt = 6 := by omega
      rcases c3 with c3 | c3 | c3 | c3 | c3 | c3 | c3
      · skip
        have hnt_b : nt b = 0 := by unfold nt; omega
        refine j_top (show b = nI 0 from (zI_of b).trans ((congrArg zI c3).trans (zI_nat 0))) ?_
        refine jn_tableIn hJ (q := 64) (off := 42) (k := 0) rfl dX8_of_22 (by decide) (by decide) (by decide) (by decide) ?_
        refine j_aload_n hJ (q := 65) dX8_of_64 rfl 0 rfl rfl ?_
        refine j_get hJ (q := 68) jf_X8_153 dX8_of_65 2 rfl rfl rfl ?_
        refine j_iload_n hJ (q := 69) dX8_of_68 rfl 2 rfl rfl ?_
        refine j_ialdN hJ (q := 70) (z := nI (kd (nt a))) dX8_of_69 5 rfl (by omega) (by decide) rfl rfl ?_
        refine j_top (congrArg nI (rR_k hR (i := nt a) (by omega))) ?_
        have hP0 : isR A a ∧ rgI 0 6 b := by simp only [rgI, isS, isR, pNote, pMark]; omega
        have hQ0 : nt b = 0 := by omega
        have hRo : (if isR A a ∧ rgI 0 6 b then Rf else bmp Rf 0) = Rf := by simp only [if_pos hP0, if_pos hQ0]
        exact hE.1 _ _ _ _ _ _ _ rfl rfl dX8_of_70 (Nat.le_refl _) (Nat.le_refl _) (⟨congrArg (fun z => some (Value.int z)) ((zI_nat _).symm.trans (congrArg zI (by simp only [z_of, if_pos hP0, if_pos hQ0]))), by rw [hRo] <;> rfl⟩)
      · skip
        have hnt_b : nt b = 1 := by unfold nt; omega
        refine j_top (show b = nI 1 from (zI_of b).trans ((congrArg zI c3).trans (zI_nat 1))) ?_
        refine jn_tableIn hJ (q := 71) (off := 49) (k := 1) rfl dX8_of_22 (by decide) (by decide) (by decide) (by decide) ?_
        refine j_aload_n hJ (q := 72) dX8_of_71 rfl 0 rfl rfl ?_
        refine j_get hJ (q := 75) jf_X8_156 dX8_of_72 2 rfl rfl rfl ?_
        refine j_iload_n hJ (q := 76) dX8_of_75 rfl 2 rfl rfl ?_
        refine j_ialdN hJ (q := 77) (z := nI (am (nt a))) dX8_of_76 6 rfl (by omega) (by decide) rfl rfl ?_
        refine j_top (congrArg nI (rR_a hR (i := nt a) (by omega))) ?_
        have hP0 : isR A a ∧ rgI 0 6 b := by simp only [rgI, isS, isR, pNote, pMark]; omega
        have hQ0 : ¬ (nt b = 0) := by omega
        have hQ1 : nt b = 1 := by omega
        have hRo : (if isR A a ∧ rgI 0 6 b then Rf else bmp Rf 0) = Rf := by simp only [if_pos hP0, if_neg hQ0, if_pos hQ1]
        exact hE.1 _ _ _ _ _ _ _ rfl rfl dX8_of_77 (Nat.le_refl _) (Nat.le_refl _) (⟨congrArg (fun z => some (Value.int z)) ((zI_nat _).symm.trans (congrArg zI (by simp only [z_of, if_pos hP0, if_neg hQ0, if_pos hQ1]))), by rw [hRo] <;> rfl⟩)
      · skip
        have hnt_b : nt b = 2 := by unfold nt; omega
        refine j_top (show b = nI 2 from (zI_of b).trans ((congrArg zI c3).trans (zI_nat 2))) ?_
        refine jn_tableIn hJ (q := 78) (off := 56) (k := 2) rfl dX8_of_22 (by decide) (by decide) (by decide) (by decide) ?_
        refine j_aload_n hJ (q := 79) dX8_of_78 rfl 0 rfl rfl ?_
        refine j_get hJ (q := 82) jf_X8_144 dX8_of_79 2 rfl rfl rfl ?_
        refine j_iload_n hJ (q := 83) dX8_of_82 rfl 2 rfl rfl ?_
        refine j_ialdN hJ (q := 84) (z := nI (st (nt a))) dX8_of_83 7 rfl (by omega) (by decide) rfl rfl ?_
        refine j_top (congrArg nI (rR_s hR (i := nt a) (by omega))) ?_
        have hP0 : isR A a ∧ rgI 0 6 b := by simp only [rgI, isS, isR, pNote, pMark]; omega
        have hQ0 : ¬ (nt b = 0) := by omega
        have hQ1 : ¬ (nt b = 1) := by omega
        have hQ2 : nt b = 2 := by omega
        have hRo : (if isR A a ∧ rgI 0 6 b then Rf else bmp Rf 0) = Rf := by simp only [if_pos hP0, if_neg hQ0, if_neg hQ1, if_pos hQ2]
        exact hE.1 _ _ _ _ _ _ _ rfl rfl dX8_of_84 (Nat.le_refl _) (Nat.le_refl _) (⟨congrArg (fun z => some (Value.int z)) ((zI_nat _).symm.trans (congrArg zI (by simp only [z_of, if_pos hP0, if_neg hQ0, if_neg hQ1, if_pos hQ2]))), by rw [hRo] <;> rfl⟩)
      · skip
        have hnt_b : nt b = 3 := by unfold nt; omega
        refine j_top (show b = nI 3 from (zI_of b).trans ((congrArg zI c3).trans (zI_nat 3))) ?_
        refine jn_tableIn hJ (q := 85) (off := 63) (k := 3) rfl dX8_of_22 (by decide) (by decide) (by decide) (by decide) ?_
        refine j_aload_n hJ (q := 86) dX8_of_85 rfl 0 rfl rfl ?_
        refine j_get hJ (q := 89) jf_X8_159 dX8_of_86 2 rfl rfl rfl ?_
        refine j_iload_n hJ (q := 90) dX8_of_89 rfl 2 rfl rfl ?_
        refine j_ialdN hJ (q := 91) (z := nI (rg (nt a))) dX8_of_90 8 rfl (by omega) (by decide) rfl rfl ?_
        refine j_top (congrArg nI (rR_r hR (i := nt a) (by omega))) ?_
        have hP0 : isR A a ∧ rgI 0 6 b := by simp only [rgI, isS, isR, pNote, pMark]; omega
        have hQ0 : ¬ (nt b = 0) := by omega
        have hQ1 : ¬ (nt b = 1) := by omega
        have hQ2 : ¬ (nt b = 2) := by omega
        have hQ3 : nt b = 3 := by omega
        have hRo : (if isR A a ∧ rgI 0 6 b then Rf else bmp Rf 0) = Rf := by simp only [if_pos hP0, if_neg hQ0, if_neg hQ1, if_neg hQ2, if_pos hQ3]
        exact hE.1 _ _ _ _ _ _ _ rfl rfl dX8_of_91 (Nat.le_refl _) (Nat.le_refl _) (⟨congrArg (fun z => some (Value.int z)) ((zI_nat _).symm.trans (congrArg zI (by simp only [z_of, if_pos hP0, if_neg hQ0, if_neg hQ1, if_neg hQ2, if_pos hQ3]))), by rw [hRo] <;> rfl⟩)
      · skip
        have hnt_b : nt b = 4 := by unfold nt; omega
        refine j_top (show b = nI 4 from (zI_of b).trans ((congrArg zI c3).trans (zI_nat 4))) ?_
        refine jn_tableIn hJ (q := 92) (off := 70) (k := 4) rfl dX8_of_22 (by decide) (by decide) (by decide) (by decide) ?_
        refine j_aload_n hJ (q := 93) dX8_of_92 rfl 0 rfl rfl ?_
        refine j_iload_n hJ (q := 94) dX8_of_93 rfl 2 rfl rfl ?_
        refine j_iconst hJ (q := 95) dX8_of_94 rfl ki_0 ?_
        refine j_vR hJ (q := 98) (rest := []) (As := [.int (nI (nt a)), .int (nI 0)]) jl_X8_162 (c_X4_placeOf Z (s 0) q A K P kd am st rg (nt a) 0 hw hR (by omega) (by decide)) 2 rfl rfl dX8_of_95 rfl (by decide) (Nat.le_of_ble_eq_true rfl) [2, 3, 4, 5, 6, 7, 8] rfl rfl (fun rv hp => ?_)
        obtain rfl := hp
        show J 98 [(3, .ref (s 0)), (0, .ref h), (1, .int (nI (nt a))), (2, .int b)] [.int (nI ((A (15 + (nt a)) + A 5 + A 6 * 0) % A 21))] [xO h u ab be (Rf 0) (Rf 1) (Rf 2), (u 0, .inr (4, [.ref (s 0), .ref (s 1), .ref (s 3), .ref (s 5), .ref (s 7)])), cO (s 0) q (A 21) (A 5) (A 6) (A 7) (A 8) (A 0), (q 0, ia Z 12 (ni K)), (q 1, ia Z 12 (ni P)), (q 2, ia Z 6 (ni kd)), (q 3, ia Z 6 (ni am)), (q 4, ia Z 6 (ni st)), (q 5, ia Z 6 (ni rg))] 0 0
        have hP0 : isR A a ∧ rgI 0 6 b := by simp only [rgI, isS, isR, pNote, pMark]; omega
        have hQ0 : ¬ (nt b = 0) := by omega
        have hQ1 : ¬ (nt b = 1) := by omega
        have hQ2 : ¬ (nt b = 2) := by omega
        have hQ3 : ¬ (nt b = 3) := by omega
        have hQ4 : nt b = 4 := by omega
        have hRo : (if isR A a ∧ rgI 0 6 b then Rf else bmp Rf 0) = Rf := by simp only [if_pos hP0, if_neg hQ0, if_neg hQ1, if_neg hQ2, if_neg hQ3, if_pos hQ4]
        exact hE.1 _ _ _ _ _ _ _ rfl rfl dX8_of_98 (Nat.le_refl _) (Nat.le_refl _) (⟨congrArg (fun z => some (Value.int z)) ((zI_nat _).symm.trans (congrArg zI (by simp only [z_of, if_pos hP0, if_neg hQ0, if_neg hQ1, if_neg hQ2, if_neg hQ3, if_pos hQ4, plc, Nat.mul_zero, Nat.add_zero]))), by rw [hRo] <;> rfl⟩)
      · skip
        have hnt_b : nt b = 5 := by unfold nt; omega
        refine j_top (show b = nI 5 from (zI_of b).trans ((congrArg zI c3).trans (zI_nat 5))) ?_
        refine jn_tableIn hJ (q := 99) (off := 77) (k := 5) rfl dX8_of_22 (by decide) (by decide) (by decide) (by decide) ?_
        refine j_aload_n hJ (q := 100) dX8_of_99 rfl 0 rfl rfl ?_
        refine j_aload_n hJ (q := 101) dX8_of_100 rfl 0 rfl rfl ?_
        refine j_get hJ (q := 104) jf_X8_144 dX8_of_101 2 rfl rfl rfl ?_
        refine j_iload_n hJ (q := 105) dX8_of_104 rfl 2 rfl rfl ?_
        refine j_ialdN hJ (q := 106) (z := nI (st (nt a))) dX8_of_105 7 rfl (by omega) (by decide) rfl rfl ?_
        refine j_top (congrArg nI (rR_s hR (i := nt a) (by omega))) ?_
        refine j_iconst hJ (q := 107) dX8_of_106 rfl ki_0 ?_
        refine j_vR hJ (q := 110) (rest := []) (As := [.int (nI (A (15 + (nt a)))), .int (nI 0)]) jl_X8_166 (c_X4_highOn Z (s 0) q A K P kd am st rg (A (15 + (nt a))) 0 hw hR (by omega) (by decide)) 2 rfl rfl dX8_of_107 rfl (by decide) (Nat.le_of_ble_eq_true rfl) [2, 3, 4, 5, 6, 7, 8] rfl rfl (fun rv hp => ?_)
        obtain rfl := hp
        show J 110 [(3, .ref (s 0)), (0, .ref h), (1, .int (nI (nt a))), (2, .int b)] [.int (nI (hgh (A (34 + (A (15 + (nt a))))) (A (46 + (A (15 + (nt a))))) (A 8 + 0) (A 6)))] [xO h u ab be (Rf 0) (Rf 1) (Rf 2), (u 0, .inr (4, [.ref (s 0), .ref (s 1), .ref (s 3), .ref (s 5), .ref (s 7)])), cO (s 0) q (A 21) (A 5) (A 6) (A 7) (A 8) (A 0), (q 0, ia Z 12 (ni K)), (q 1, ia Z 12 (ni P)), (q 2, ia Z 6 (ni kd)), (q 3, ia Z 6 (ni am)), (q 4, ia Z 6 (ni st)), (q 5, ia Z 6 (ni rg))] 0 0
        have hP0 : isR A a ∧ rgI 0 6 b := by simp only [rgI, isS, isR, pNote, pMark]; omega
        have hQ0 : ¬ (nt b = 0) := by omega
        have hQ1 : ¬ (nt b = 1) := by omega
        have hQ2 : ¬ (nt b = 2) := by omega
        have hQ3 : ¬ (nt b = 3) := by omega
        have hQ4 : ¬ (nt b = 4) := by omega
        have hQ5 : nt b = 5 := by omega
        have hRo : (if isR A a ∧ rgI 0 6 b then Rf else bmp Rf 0) = Rf := by simp only [if_pos hP0, if_neg hQ0, if_neg hQ1, if_neg hQ2, if_neg hQ3, if_neg hQ4, if_pos hQ5]
        exact hE.1 _ _ _ _ _ _ _ rfl rfl dX8_of_110 (Nat.le_refl _) (Nat.le_refl _) (⟨congrArg (fun z => some (Value.int z)) ((zI_nat _).symm.trans (congrArg zI (by simp only [z_of, if_pos hP0, if_neg hQ0, if_neg hQ1, if_neg hQ2, if_neg hQ3, if_neg hQ4, if_pos hQ5]; rfl))), by rw [hRo] <;> rfl⟩)
      · skip
        have hnt_b : nt b = 6 := by unfold nt; omega
        refine j_top (show b = nI 6 from (zI_of b).trans ((congrArg zI c3).trans (zI_nat 6))) ?_
        refine jn_tableIn hJ (q := 111) (off := 89) (k := 6) rfl dX8_of_22 (by decide) (by decide) (by decide) (by decide) ?_
        refine j_aload_n hJ (q := 112) dX8_of_111 rfl 0 rfl rfl ?_
        refine j_iload_n hJ (q := 113) dX8_of_112 rfl 2 rfl rfl ?_
        refine j_vR hJ (q := 116) (rest := []) (As := [.int (nI (nt a))]) jl_X8_169 (c_X4_reachOf Z (s 0) q A K P kd am st rg (nt a) hw hR (by omega)) 2 rfl rfl dX8_of_113 rfl (by decide) (Nat.le_of_ble_eq_true rfl) [2, 3, 4, 5, 6, 7, 8] rfl rfl (fun rv hp => ?_)
        obtain rfl := hp
        show J 116 [(3, .ref (s 0)), (0, .ref h), (1, .int (nI (nt a))), (2, .int b)] [.int (nI (rchO A (nt a)))] [xO h u ab be (Rf 0) (Rf 1) (Rf 2), (u 0, .inr (4, [.ref (s 0), .ref (s 1), .ref (s 3), .ref (s 5), .ref (s 7)])), cO (s 0) q (A 21) (A 5) (A 6) (A 7) (A 8) (A 0), (q 0, ia Z 12 (ni K)), (q 1, ia Z 12 (ni P)), (q 2, ia Z 6 (ni kd)), (q 3, ia Z 6 (ni am)), (q 4, ia Z 6 (ni st)), (q 5, ia Z 6 (ni rg))] 0 0
        have hP0 : isR A a ∧ rgI 0 6 b := by simp only [rgI, isS, isR, pNote, pMark]; omega
        have hQ0 : ¬ (nt b = 0) := by omega
        have hQ1 : ¬ (nt b = 1) := by omega
        have hQ2 : ¬ (nt b = 2) := by omega
        have hQ3 : ¬ (nt b = 3) := by omega
        have hQ4 : ¬ (nt b = 4) := by omega
        have hQ5 : ¬ (nt b = 5) := by omega
        have hRo : (if isR A a ∧ rgI 0 6 b then Rf else bmp Rf 0) = Rf := by simp only [if_pos hP0, if_neg hQ0, if_neg hQ1, if_neg hQ2, if_neg hQ3, if_neg hQ4, if_neg hQ5]
        exact hE.1 _ _ _ _ _ _ _ rfl rfl dX8_of_116 (Nat.le_refl _) (Nat.le_refl _) (⟨congrArg (fun z => some (Value.int z)) ((zI_nat _).symm.trans (congrArg zI (by simp only [z_of, if_pos hP0, if_neg hQ0, if_neg hQ1, if_neg hQ2, if_neg hQ3, if_neg hQ4, if_neg hQ5]))), by rw [hRo] <;> rfl⟩)
    · skip
      refine j_tableOut hJ (q := 117) dX8_of_22 (by omega) (by decide) ?_
      refine j_aload_n hJ (q := 118) dX8_of_117 rfl 1 rfl rfl ?_
      refine j_vW hJ (q := 121) (rest := []) (As := []) (wr := [(u 0, .inr (4, [.ref (s 0), .ref (s 1), .ref (s 3), .ref (s 5), .ref (s 7)])), cO (s 0) q (A 21) (A 5) (A 6) (A 7) (A 8) (A 0), (q 0, ia Z 12 (ni K)), (q 1, ia Z 12 (ni P)), (q 2, ia Z 6 (ni kd)), (q 3, ia Z 6 (ni am)), (q 4, ia Z 6 (ni st)), (q 5, ia Z 6 (ni rg))]) jl_X8_62 (c_X8_bad Z h u ab be Rf ) 0 rfl rfl dX8_of_118 rfl (by decide) (Nat.le_of_ble_eq_true rfl) [0] [1, 2, 3, 4, 5, 6, 7, 8] rfl rfl rfl rfl (by decide) rfl (fun rv wv hp => ?_)
      obtain ⟨rfl, rfl⟩ := hp
      refine j_world hJ (ws' := [xO h u ab be ((bmp Rf 0) 0) ((bmp Rf 0) 1) ((bmp Rf 0) 2), (u 0, .inr (4, [.ref (s 0), .ref (s 1), .ref (s 3), .ref (s 5), .ref (s 7)])), cO (s 0) q (A 21) (A 5) (A 6) (A 7) (A 8) (A 0), (q 0, ia Z 12 (ni K)), (q 1, ia Z 12 (ni P)), (q 2, ia Z 6 (ni kd)), (q 3, ia Z 6 (ni am)), (q 4, ia Z 6 (ni st)), (q 5, ia Z 6 (ni rg))]) [8, 0, 1, 2, 3, 4, 5, 6, 7] rfl rfl ?_
      show J 121 [(3, .ref (s 0)), (0, .ref h), (1, .int (nI (nt a))), (2, .int b)] [.int (zI (-2))] [xO h u ab be ((bmp Rf 0) 0) ((bmp Rf 0) 1) ((bmp Rf 0) 2), (u 0, .inr (4, [.ref (s 0), .ref (s 1), .ref (s 3), .ref (s 5), .ref (s 7)])), cO (s 0) q (A 21) (A 5) (A 6) (A 7) (A 8) (A 0), (q 0, ia Z 12 (ni K)), (q 1, ia Z 12 (ni P)), (q 2, ia Z 6 (ni kd)), (q 3, ia Z 6 (ni am)), (q 4, ia Z 6 (ni st)), (q 5, ia Z 6 (ni rg))] 0 0
      have hP0 : ¬ (isR A a ∧ rgI 0 6 b) := by simp only [rgI, isS, isR, pNote, pMark]; omega
      have hRo : (if isR A a ∧ rgI 0 6 b then Rf else bmp Rf 0) = bmp Rf 0 := by simp only [if_neg hP0]
      exact hE.1 _ _ _ _ _ _ _ rfl rfl dX8_of_121 (Nat.le_refl _) (Nat.le_refl _) (⟨congrArg (fun z => some (Value.int (zI z))) (by simp only [z_of, if_neg hP0]), by rw [hRo] <;> rfl⟩)
  · skip
    refine j_aload_n hJ (q := 9) dX8_of_8 rfl 0 rfl rfl ?_
    refine j_vW hJ (q := 12) (rest := []) (As := []) (wr := [(u 0, .inr (4, [.ref (s 0), .ref (s 1), .ref (s 3), .ref (s 5), .ref (s 7)])), cO (s 0) q (A 21) (A 5) (A 6) (A 7) (A 8) (A 0), (q 0, ia Z 12 (ni K)), (q 1, ia Z 12 (ni P)), (q 2, ia Z 6 (ni kd)), (q 3, ia Z 6 (ni am)), (q 4, ia Z 6 (ni st)), (q 5, ia Z 6 (ni rg))]) jl_X8_62 (c_X8_bad Z h u ab be Rf ) 0 rfl rfl dX8_of_9 rfl (by decide) (Nat.le_of_ble_eq_true rfl) [0] [1, 2, 3, 4, 5, 6, 7, 8] rfl rfl rfl rfl (by decide) rfl (fun rv wv hp => ?_)
    obtain ⟨rfl, rfl⟩ := hp
    refine j_world hJ (ws' := [xO h u ab be ((bmp Rf 0) 0) ((bmp Rf 0) 1) ((bmp Rf 0) 2), (u 0, .inr (4, [.ref (s 0), .ref (s 1), .ref (s 3), .ref (s 5), .ref (s 7)])), cO (s 0) q (A 21) (A 5) (A 6) (A 7) (A 8) (A 0), (q 0, ia Z 12 (ni K)), (q 1, ia Z 12 (ni P)), (q 2, ia Z 6 (ni kd)), (q 3, ia Z 6 (ni am)), (q 4, ia Z 6 (ni st)), (q 5, ia Z 6 (ni rg))]) [8, 0, 1, 2, 3, 4, 5, 6, 7] rfl rfl ?_
    show J 12 [(0, .ref h), (1, .int a), (2, .int b)] [.int (zI (-2))] [xO h u ab be ((bmp Rf 0) 0) ((bmp Rf 0) 1) ((bmp Rf 0) 2), (u 0, .inr (4, [.ref (s 0), .ref (s 1), .ref (s 3), .ref (s 5), .ref (s 7)])), cO (s 0) q (A 21) (A 5) (A 6) (A 7) (A 8) (A 0), (q 0, ia Z 12 (ni K)), (q 1, ia Z 12 (ni P)), (q 2, ia Z 6 (ni kd)), (q 3, ia Z 6 (ni am)), (q 4, ia Z 6 (ni st)), (q 5, ia Z 6 (ni rg))] 0 0
    have hP0 : ¬ (isR A a ∧ rgI 0 6 b) := by simp only [rgI, isS, isR, pNote, pMark]; omega
    have hRo : (if isR A a ∧ rgI 0 6 b then Rf else bmp Rf 0) = bmp Rf 0 := by simp only [if_neg hP0]
    exact hE.1 _ _ _ _ _ _ _ rfl rfl dX8_of_12 (Nat.le_refl _) (Nat.le_refl _) (⟨congrArg (fun z => some (Value.int (zI z))) (by simp only [z_of, if_neg hP0]), by rw [hRo] <;> rfl⟩)

set_option maxHeartbeats 4000000 in
set_option maxRecDepth 100000 in
theorem c_X8_about (Z : jZ) (h : Nat) (u : Nat → Nat) (ab : Int) (be : Int) (Rf : Nat → Nat) (s : Nat → Nat) (q : Nat → Nat) (A : Nat → Nat) (K : Nat → Nat) (P : Nat → Nat) (kd : Nat → Nat) (am : Nat → Nat) (st : Nat → Nat) (rg : Nat → Nat) (a : Int32) (b : Int32) (hg : wg A) (hR : rR A K P kd am st rg) : CT Z yX8_about cX8_about 4 ((some FieldType.int)) 4 0 0 [.ref h, .int a, .int b] [xO h u ab be (Rf 0) (Rf 1) (Rf 2), (u 0, .inr (4, [.ref (s 0), .ref (s 1), .ref (s 3), .ref (s 5), .ref (s 7)])), cO (s 0) q (A 21) (A 5) (A 6) (A 7) (A 8) (A 0), (q 0, ia Z 12 (ni K)), (q 1, ia Z 12 (ni P)), (q 2, ia Z 6 (ni kd)), (q 3, ia Z 6 (ni am)), (q 4, ia Z 6 (ni st)), (q 5, ia Z 6 (ni rg))] (fun rr ww => rr = some (.int (zI (z_about A a b))) ∧ ww = [xO h u ab be ((if isS A a ∧ rgI 0 3 b then Rf else bmp Rf 0) 0) ((if isS A a ∧ rgI 0 3 b then Rf else bmp Rf 0) 1) ((if isS A a ∧ rgI 0 3 b then Rf else bmp Rf 0) 2), (u 0, .inr (4, [.ref (s 0), .ref (s 1), .ref (s 3), .ref (s 5), .ref (s 7)])), cO (s 0) q (A 21) (A 5) (A 6) (A 7) (A 8) (A 0), (q 0, ia Z 12 (ni K)), (q 1, ia Z 12 (ni P)), (q 2, ia Z 6 (ni kd)), (q 3, ia Z 6 (ni am)), (q 4, ia Z 6 (ni st)), (q 5, ia Z 6 (ni rg))]) := by
  refine CT.of RX8 false rfl (fun h => by cases h) (by decide +kernel) (Nat.le_of_ble_eq_true rfl) ?_
  intro J hJ hE
  show J 0 [(0, .ref h), (1, .int a), (2, .int b)] [] [xO h u ab be (Rf 0) (Rf 1) (Rf 2), (u 0, .inr (4, [.ref (s 0), .ref (s 1), .ref (s 3), .ref (s 5), .ref (s 7)])), cO (s 0) q (A 21) (A 5) (A 6) (A 7) (A 8) (A 0), (q 0, ia Z 12 (ni K)), (q 1, ia Z 12 (ni P)), (q 2, ia Z 6 (ni kd)), (q 3, ia Z 6 (ni am)), (q 4, ia Z 6 (ni st)), (q 5, ia Z 6 (ni rg))] 0 0
  obtain ⟨hw, ⟨g1, g2, g3, g4, g8⟩, hrs, hrn, hrm, hpst⟩ := id hg
  obtain ⟨⟨w1, w2, w3, w4, w5, w6⟩, hb, wr, wh, wd⟩ := id hw
  have hr_a := zI_rng a
  have hr_b := zI_rng b
  refine j_aload_n hJ (q := 1) dX8_about_0 rfl 0 rfl rfl ?_
  refine j_iload_n hJ (q := 2) dX8_about_1 rfl 1 rfl rfl ?_
  refine j_vR hJ (q := 5) (rest := []) (As := [.int a]) jl_X8_80 (c_X8_isSeat Z h u ab be Rf s q A K P kd am st rg a (by omega)) 0 rfl rfl dX8_about_2 rfl (by decide) (Nat.le_of_ble_eq_true rfl) [0, 1, 2, 3, 4, 5, 6, 7, 8] rfl rfl (fun rv hp => ?_)
  obtain rfl := hp
  show J 5 [(0, .ref h), (1, .int a), (2, .int b)] [.int (bI (decide (0 ≤ a.toInt ∧ a.toInt ≤ (A 21 : Int) - 1)))] [xO h u ab be (Rf 0) (Rf 1) (Rf 2), (u 0, .inr (4, [.ref (s 0), .ref (s 1), .ref (s 3), .ref (s 5), .ref (s 7)])), cO (s 0) q (A 21) (A 5) (A 6) (A 7) (A 8) (A 0), (q 0, ia Z 12 (ni K)), (q 1, ia Z 12 (ni P)), (q 2, ia Z 6 (ni kd)), (q 3, ia Z 6 (ni am)), (q 4, ia Z 6 (ni st)), (q 5, ia Z 6 (ni rg))] 0 0
  refine jp_if_ne hJ (q := 8) (tgt := 13) dX8_about_5 (by decide) rfl (fun c1 => ?_) (fun c1 => ?_)
  · skip
    have hn_a := nt_cast (x := a) (by omega)
    refine j_eql (lvs' := [(0, .ref h), (1, .int (nI (nt a))), (2, .int b)]) (by rw [← nt_eq (x := a) (by omega)]) ?_
    refine j_aload_n hJ (q := 14) dX8_about_13 rfl 0 rfl rfl ?_
    refine j_get hJ (q := 17) jf_X8_10 dX8_about_14 0 rfl rfl rfl ?_
    refine j_get hJ (q := 20) jf_X8_66 dX8_about_17 1 rfl rfl rfl ?_
    refine j_astore_n hJ (q := 21) (lvs' := [(3, .ref (s 0)), (0, .ref h), (1, .int (nI (nt a))), (2, .int b)]) dX8_about_20 rfl (by decide) rfl rfl ?_
    refine j_iload_n hJ (q := 22) dX8_about_21 rfl 3 rfl rfl ?_
    rcases Classical.em (0 ≤ b.toInt ∧ b.toInt ≤ 3) with c2 | c2
    · skip
      have c3 : b.toInt = 0 ∨ b.toInt = 1 ∨ b.toInt = 2 ∨ b.toInt = 3 := by omega
      rcases c3 with c3 | c3 | c3 | c3
      · skip
        have hnt_b : nt b = 0 := by unfold nt; omega
        refine j_top (show b = nI 0 from (zI_of b).trans ((congrArg zI c3).trans (zI_nat 0))) ?_
        refine jn_tableIn hJ (q := 52) (off := 30) (k := 0) rfl dX8_about_22 (by decide) (by decide) (by decide) (by decide) ?_
        refine j_aload_n hJ (q := 53) dX8_about_52 rfl 0 rfl rfl ?_
        refine j_get hJ (q := 56) jf_X8_84 dX8_about_53 2 rfl rfl rfl ?_
        refine j_iload_n hJ (q := 57) dX8_about_56 rfl 2 rfl rfl ?_
        refine j_ialdN hJ (q := 58) (z := nI (K (nt a))) dX8_about_57 3 rfl (by omega) (by decide) rfl rfl ?_
        refine j_top (congrArg nI (rR_K hR (i := nt a) (by omega))) ?_
        have hP0 : isS A a ∧ rgI 0 3 b := by simp only [rgI, isS, isR, pNote, pMark]; omega
        have hQ0 : nt b = 0 := by omega
        have hRo : (if isS A a ∧ rgI 0 3 b then Rf else bmp Rf 0) = Rf := by simp only [if_pos hP0, if_pos hQ0]
        exact hE.1 _ _ _ _ _ _ _ rfl rfl dX8_about_58 (Nat.le_refl _) (Nat.le_refl _) (⟨congrArg (fun z => some (Value.int z)) ((zI_nat _).symm.trans (congrArg zI (by simp only [z_about, if_pos hP0, if_pos hQ0]))), by rw [hRo] <;> rfl⟩)
      · skip
        have hnt_b : nt b = 1 := by unfold nt; omega
        refine j_top (show b = nI 1 from (zI_of b).trans ((congrArg zI c3).trans (zI_nat 1))) ?_
        refine jn_tableIn hJ (q := 59) (off := 37) (k := 1) rfl dX8_about_22 (by decide) (by decide) (by decide) (by decide) ?_
        refine j_aload_n hJ (q := 60) dX8_about_59 rfl 0 rfl rfl ?_
        refine j_get hJ (q := 63) jf_X8_172 dX8_about_60 2 rfl rfl rfl ?_
        refine j_iload_n hJ (q := 64) dX8_about_63 rfl 2 rfl rfl ?_
        refine j_ialdN hJ (q := 65) (z := nI (P (nt a))) dX8_about_64 4 rfl (by omega) (by decide) rfl rfl ?_
        refine j_top (congrArg nI (rR_P hR (i := nt a) (by omega))) ?_
        have hP0 : isS A a ∧ rgI 0 3 b := by simp only [rgI, isS, isR, pNote, pMark]; omega
        have hQ0 : ¬ (nt b = 0) := by omega
        have hQ1 : nt b = 1 := by omega
        have hRo : (if isS A a ∧ rgI 0 3 b then Rf else bmp Rf 0) = Rf := by simp only [if_pos hP0, if_neg hQ0, if_pos hQ1]
        exact hE.1 _ _ _ _ _ _ _ rfl rfl dX8_about_65 (Nat.le_refl _) (Nat.le_refl _) (⟨congrArg (fun z => some (Value.int z)) ((zI_nat _).symm.trans (congrArg zI (by simp only [z_about, if_pos hP0, if_neg hQ0, if_pos hQ1]))), by rw [hRo] <;> rfl⟩)
      · skip
        have hnt_b : nt b = 2 := by unfold nt; omega
        refine j_top (show b = nI 2 from (zI_of b).trans ((congrArg zI c3).trans (zI_nat 2))) ?_
        refine jn_tableIn hJ (q := 66) (off := 44) (k := 2) rfl dX8_about_22 (by decide) (by decide) (by decide) (by decide) ?_
        refine j_aload_n hJ (q := 67) dX8_about_66 rfl 0 rfl rfl ?_
        refine j_iload_n hJ (q := 68) dX8_about_67 rfl 2 rfl rfl ?_
        refine j_iconst hJ (q := 69) dX8_about_68 rfl ki_0 ?_
        refine j_vR hJ (q := 72) (rest := []) (As := [.int (nI (nt a)), .int (nI 0)]) jl_X8_166 (c_X4_highOn Z (s 0) q A K P kd am st rg (nt a) 0 hw hR (by omega) (by decide)) 2 rfl rfl dX8_about_69 rfl (by decide) (Nat.le_of_ble_eq_true rfl) [2, 3, 4, 5, 6, 7, 8] rfl rfl (fun rv hp => ?_)
        obtain rfl := hp
        show J 72 [(3, .ref (s 0)), (0, .ref h), (1, .int (nI (nt a))), (2, .int b)] [.int (nI (hgh (A (34 + (nt a))) (A (46 + (nt a))) (A 8 + 0) (A 6)))] [xO h u ab be (Rf 0) (Rf 1) (Rf 2), (u 0, .inr (4, [.ref (s 0), .ref (s 1), .ref (s 3), .ref (s 5), .ref (s 7)])), cO (s 0) q (A 21) (A 5) (A 6) (A 7) (A 8) (A 0), (q 0, ia Z 12 (ni K)), (q 1, ia Z 12 (ni P)), (q 2, ia Z 6 (ni kd)), (q 3, ia Z 6 (ni am)), (q 4, ia Z 6 (ni st)), (q 5, ia Z 6 (ni rg))] 0 0
        have hP0 : isS A a ∧ rgI 0 3 b := by simp only [rgI, isS, isR, pNote, pMark]; omega
        have hQ0 : ¬ (nt b = 0) := by omega
        have hQ1 : ¬ (nt b = 1) := by omega
        have hQ2 : nt b = 2 := by omega
        have hRo : (if isS A a ∧ rgI 0 3 b then Rf else bmp Rf 0) = Rf := by simp only [if_pos hP0, if_neg hQ0, if_neg hQ1, if_pos hQ2]
        exact hE.1 _ _ _ _ _ _ _ rfl rfl dX8_about_72 (Nat.le_refl _) (Nat.le_refl _) (⟨congrArg (fun z => some (Value.int z)) ((zI_nat _).symm.trans (congrArg zI (by simp only [z_about, if_pos hP0, if_neg hQ0, if_neg hQ1, if_pos hQ2]; rfl))), by rw [hRo] <;> rfl⟩)
      · skip
        have hnt_b : nt b = 3 := by unfold nt; omega
        refine j_top (show b = nI 3 from (zI_of b).trans ((congrArg zI c3).trans (zI_nat 3))) ?_
        refine jn_tableIn hJ (q := 73) (off := 51) (k := 3) rfl dX8_about_22 (by decide) (by decide) (by decide) (by decide) ?_
        refine j_aload_n hJ (q := 74) dX8_about_73 rfl 0 rfl rfl ?_
        refine j_iload_n hJ (q := 75) dX8_about_74 rfl 2 rfl rfl ?_
        refine j_vR hJ (q := 78) (rest := []) (As := [.int (nI (nt a))]) jl_X8_100 (c_X4_whoIsOn Z (s 0) q A K P kd am st rg (nt a) hw hR (by omega)) 2 rfl rfl dX8_about_75 rfl (by decide) (Nat.le_of_ble_eq_true rfl) [2, 3, 4, 5, 6, 7, 8] rfl rfl (fun rv hp => ?_)
        obtain rfl := hp
        show J 78 [(3, .ref (s 0)), (0, .ref h), (1, .int (nI (nt a))), (2, .int b)] [.int (oI (who A (nt a)))] [xO h u ab be (Rf 0) (Rf 1) (Rf 2), (u 0, .inr (4, [.ref (s 0), .ref (s 1), .ref (s 3), .ref (s 5), .ref (s 7)])), cO (s 0) q (A 21) (A 5) (A 6) (A 7) (A 8) (A 0), (q 0, ia Z 12 (ni K)), (q 1, ia Z 12 (ni P)), (q 2, ia Z 6 (ni kd)), (q 3, ia Z 6 (ni am)), (q 4, ia Z 6 (ni st)), (q 5, ia Z 6 (ni rg))] 0 0
        have hP0 : isS A a ∧ rgI 0 3 b := by simp only [rgI, isS, isR, pNote, pMark]; omega
        have hQ0 : ¬ (nt b = 0) := by omega
        have hQ1 : ¬ (nt b = 1) := by omega
        have hQ2 : ¬ (nt b = 2) := by omega
        have hRo : (if isS A a ∧ rgI 0 3 b then Rf else bmp Rf 0) = Rf := by simp only [if_pos hP0, if_neg hQ0, if_neg hQ1, if_neg hQ2]
        exact hE.1 _ _ _ _ _ _ _ rfl rfl dX8_about_78 (Nat.le_refl _) (Nat.le_refl _) (⟨congrArg (fun z => some (Value.int z)) ((oI_oz _).trans (congrArg zI (by simp only [z_about, if_pos hP0, if_neg hQ0, if_neg hQ1, if_neg hQ2]))), by rw [hRo] <;> rfl⟩)
    · skip
      refine j_tableOut hJ (q := 79) dX8_about_22 (by omega) (by decide) ?_
      refine j_aload_n hJ (q := 80) dX8_about_79 rfl 1 rfl rfl ?_
      refine j_vW hJ (q := 83) (rest := []) (As := []) (wr := [(u 0, .inr (4, [.ref (s 0), .ref (s 1), .ref (s 3), .ref (s 5), .ref (s 7)])), cO (s 0) q (A 21) (A 5) (A 6) (A 7) (A 8) (A 0), (q 0, ia Z 12 (ni K)), (q 1, ia Z 12 (ni P)), (q 2, ia Z 6 (ni kd)), (q 3, ia Z 6 (ni am)), (q 4, ia Z 6 (ni st)), (q 5, ia Z 6 (ni rg))]) jl_X8_62 (c_X8_bad Z h u ab be Rf ) 0 rfl rfl dX8_about_80 rfl (by decide) (Nat.le_of_ble_eq_true rfl) [0] [1, 2, 3, 4, 5, 6, 7, 8] rfl rfl rfl rfl (by decide) rfl (fun rv wv hp => ?_)
      obtain ⟨rfl, rfl⟩ := hp
      refine j_world hJ (ws' := [xO h u ab be ((bmp Rf 0) 0) ((bmp Rf 0) 1) ((bmp Rf 0) 2), (u 0, .inr (4, [.ref (s 0), .ref (s 1), .ref (s 3), .ref (s 5), .ref (s 7)])), cO (s 0) q (A 21) (A 5) (A 6) (A 7) (A 8) (A 0), (q 0, ia Z 12 (ni K)), (q 1, ia Z 12 (ni P)), (q 2, ia Z 6 (ni kd)), (q 3, ia Z 6 (ni am)), (q 4, ia Z 6 (ni st)), (q 5, ia Z 6 (ni rg))]) [8, 0, 1, 2, 3, 4, 5, 6, 7] rfl rfl ?_
      show J 83 [(3, .ref (s 0)), (0, .ref h), (1, .int (nI (nt a))), (2, .int b)] [.int (zI (-2))] [xO h u ab be ((bmp Rf 0) 0) ((bmp Rf 0) 1) ((bmp Rf 0) 2), (u 0, .inr (4, [.ref (s 0), .ref (s 1), .ref (s 3), .ref (s 5), .ref (s 7)])), cO (s 0) q (A 21) (A 5) (A 6) (A 7) (A 8) (A 0), (q 0, ia Z 12 (ni K)), (q 1, ia Z 12 (ni P)), (q 2, ia Z 6 (ni kd)), (q 3, ia Z 6 (ni am)), (q 4, ia Z 6 (ni st)), (q 5, ia Z 6 (ni rg))] 0 0
      have hP0 : ¬ (isS A a ∧ rgI 0 3 b) := by simp only [rgI, isS, isR, pNote, pMark]; omega
      have hRo : (if isS A a ∧ rgI 0 3 b then Rf else bmp Rf 0) = bmp Rf 0 := by simp only [if_neg hP0]
      exact hE.1 _ _ _ _ _ _ _ rfl rfl dX8_about_83 (Nat.le_refl _) (Nat.le_refl _) (⟨congrArg (fun z => some (Value.int (zI z))) (by simp only [z_about, if_neg hP0]), by rw [hRo] <;> rfl⟩)
  · skip
    refine j_aload_n hJ (q := 9) dX8_about_8 rfl 0 rfl rfl ?_
    refine j_vW hJ (q := 12) (rest := []) (As := []) (wr := [(u 0, .inr (4, [.ref (s 0), .ref (s 1), .ref (s 3), .ref (s 5), .ref (s 7)])), cO (s 0) q (A 21) (A 5) (A 6) (A 7) (A 8) (A 0), (q 0, ia Z 12 (ni K)), (q 1, ia Z 12 (ni P)), (q 2, ia Z 6 (ni kd)), (q 3, ia Z 6 (ni am)), (q 4, ia Z 6 (ni st)), (q 5, ia Z 6 (ni rg))]) jl_X8_62 (c_X8_bad Z h u ab be Rf ) 0 rfl rfl dX8_about_9 rfl (by decide) (Nat.le_of_ble_eq_true rfl) [0] [1, 2, 3, 4, 5, 6, 7, 8] rfl rfl rfl rfl (by decide) rfl (fun rv wv hp => ?_)
    obtain ⟨rfl, rfl⟩ := hp
    refine j_world hJ (ws' := [xO h u ab be ((bmp Rf 0) 0) ((bmp Rf 0) 1) ((bmp Rf 0) 2), (u 0, .inr (4, [.ref (s 0), .ref (s 1), .ref (s 3), .ref (s 5), .ref (s 7)])), cO (s 0) q (A 21) (A 5) (A 6) (A 7) (A 8) (A 0), (q 0, ia Z 12 (ni K)), (q 1, ia Z 12 (ni P)), (q 2, ia Z 6 (ni kd)), (q 3, ia Z 6 (ni am)), (q 4, ia Z 6 (ni st)), (q 5, ia Z 6 (ni rg))]) [8, 0, 1, 2, 3, 4, 5, 6, 7] rfl rfl ?_
    show J 12 [(0, .ref h), (1, .int a), (2, .int b)] [.int (zI (-2))] [xO h u ab be ((bmp Rf 0) 0) ((bmp Rf 0) 1) ((bmp Rf 0) 2), (u 0, .inr (4, [.ref (s 0), .ref (s 1), .ref (s 3), .ref (s 5), .ref (s 7)])), cO (s 0) q (A 21) (A 5) (A 6) (A 7) (A 8) (A 0), (q 0, ia Z 12 (ni K)), (q 1, ia Z 12 (ni P)), (q 2, ia Z 6 (ni kd)), (q 3, ia Z 6 (ni am)), (q 4, ia Z 6 (ni st)), (q 5, ia Z 6 (ni rg))] 0 0
    have hP0 : ¬ (isS A a ∧ rgI 0 3 b) := by simp only [rgI, isS, isR, pNote, pMark]; omega
    have hRo : (if isS A a ∧ rgI 0 3 b then Rf else bmp Rf 0) = bmp Rf 0 := by simp only [if_neg hP0]
    exact hE.1 _ _ _ _ _ _ _ rfl rfl dX8_about_12 (Nat.le_refl _) (Nat.le_refl _) (⟨congrArg (fun z => some (Value.int (zI z))) (by simp only [z_about, if_neg hP0]), by rw [hRo] <;> rfl⟩)

set_option maxHeartbeats 4000000 in
set_option maxRecDepth 100000 in
theorem c_X8_status (Z : jZ) (h : Nat) (u : Nat → Nat) (ab : Int) (be : Int) (Rf : Nat → Nat) (a : Int32)  : CT Z yX8_status cX8_status 2 ((some FieldType.int)) 3 0 0 [.ref h, .int a] [xO h u ab be (Rf 0) (Rf 1) (Rf 2)] (fun rr ww => rr = some (.int (zI (z_status Rf a))) ∧ ww = [xO h u ab be ((if rgI 0 2 a then Rf else bmp Rf 0) 0) ((if rgI 0 2 a then Rf else bmp Rf 0) 1) ((if rgI 0 2 a then Rf else bmp Rf 0) 2)]) := by
  refine CT.of RX8 false rfl (fun h => by cases h) (by decide +kernel) (Nat.le_of_ble_eq_true rfl) ?_
  intro J hJ hE
  show J 0 [(0, .ref h), (1, .int a)] [] [xO h u ab be (Rf 0) (Rf 1) (Rf 2)] 0 0
  have hr_a := zI_rng a
  refine j_iload_n hJ (q := 1) dX8_status_0 rfl 1 rfl rfl ?_
  rcases Classical.em (0 ≤ a.toInt ∧ a.toInt ≤ 2) with c1 | c1
  · skip
    have c2 : a.toInt = 0 ∨ a.toInt = 1 ∨ a.toInt = 2 := by omega
    rcases c2 with c2 | c2 | c2
    · skip
      have hnt_a : nt a = 0 := by unfold nt; omega
      refine j_top (show a = nI 0 from (zI_of a).trans ((congrArg zI c2).trans (zI_nat 0))) ?_
      refine jn_tableIn hJ (q := 28) (off := 27) (k := 0) rfl dX8_status_1 (by decide) (by decide) (by decide) (by decide) ?_
      refine j_aload_n hJ (q := 29) dX8_status_28 rfl 0 rfl rfl ?_
      refine j_get hJ (q := 32) jf_X8_257 dX8_status_29 0 rfl rfl rfl ?_
      have hP0 : rgI 0 2 a := by simp only [rgI, isS, isR, pNote, pMark]; omega
      have hRo : (if rgI 0 2 a then Rf else bmp Rf 0) = Rf := by simp only [if_pos hP0]
      exact hE.1 _ _ _ _ _ _ _ rfl rfl dX8_status_32 (Nat.le_refl _) (Nat.le_refl _) (⟨congrArg (fun z => some (Value.int z)) ((zI_nat _).symm.trans (congrArg zI (by simp only [z_status, if_pos hP0]; rw [show nt a = 0 by omega]))), by rw [hRo] <;> rfl⟩)
    · skip
      have hnt_a : nt a = 1 := by unfold nt; omega
      refine j_top (show a = nI 1 from (zI_of a).trans ((congrArg zI c2).trans (zI_nat 1))) ?_
      refine jn_tableIn hJ (q := 33) (off := 32) (k := 1) rfl dX8_status_1 (by decide) (by decide) (by decide) (by decide) ?_
      refine j_aload_n hJ (q := 34) dX8_status_33 rfl 0 rfl rfl ?_
      refine j_get hJ (q := 37) jf_X8_260 dX8_status_34 0 rfl rfl rfl ?_
      have hP0 : rgI 0 2 a := by simp only [rgI, isS, isR, pNote, pMark]; omega
      have hRo : (if rgI 0 2 a then Rf else bmp Rf 0) = Rf := by simp only [if_pos hP0]
      exact hE.1 _ _ _ _ _ _ _ rfl rfl dX8_status_37 (Nat.le_refl _) (Nat.le_refl _) (⟨congrArg (fun z => some (Value.int z)) ((zI_nat _).symm.trans (congrArg zI (by simp only [z_status, if_pos hP0]; rw [show nt a = 1 by omega]))), by rw [hRo] <;> rfl⟩)
    · skip
      have hnt_a : nt a = 2 := by unfold nt; omega
      refine j_top (show a = nI 2 from (zI_of a).trans ((congrArg zI c2).trans (zI_nat 2))) ?_
      refine jn_tableIn hJ (q := 38) (off := 37) (k := 2) rfl dX8_status_1 (by decide) (by decide) (by decide) (by decide) ?_
      refine j_aload_n hJ (q := 39) dX8_status_38 rfl 0 rfl rfl ?_
      refine j_get hJ (q := 42) jf_X8_263 dX8_status_39 0 rfl rfl rfl ?_
      have hP0 : rgI 0 2 a := by simp only [rgI, isS, isR, pNote, pMark]; omega
      have hRo : (if rgI 0 2 a then Rf else bmp Rf 0) = Rf := by simp only [if_pos hP0]
      exact hE.1 _ _ _ _ _ _ _ rfl rfl dX8_status_42 (Nat.le_refl _) (Nat.le_refl _) (⟨congrArg (fun z => some (Value.int z)) ((zI_nat _).symm.trans (congrArg zI (by simp only [z_status, if_pos hP0]; rw [show nt a = 2 by omega]))), by rw [hRo] <;> rfl⟩)
  · skip
    refine j_tableOut hJ (q := 43) dX8_status_1 (by omega) (by decide) ?_
    refine j_aload_n hJ (q := 44) dX8_status_43 rfl 0 rfl rfl ?_
    refine j_vW hJ (q := 47) (rest := []) (As := []) (wr := []) jl_X8_62 (c_X8_bad Z h u ab be Rf ) 0 rfl rfl dX8_status_44 rfl (by decide) (Nat.le_of_ble_eq_true rfl) [0] [] rfl rfl rfl rfl (by decide) rfl (fun rv wv hp => ?_)
    obtain ⟨rfl, rfl⟩ := hp
    show J 47 [(0, .ref h), (1, .int a)] [.int (zI (-2))] [xO h u ab be ((bmp Rf 0) 0) ((bmp Rf 0) 1) ((bmp Rf 0) 2)] 0 0
    refine j_pop hJ (q := 48) dX8_status_47 rfl rfl ?_
    refine j_iconst hJ (q := 49) dX8_status_48 rfl ki_m1 ?_
    have hP0 : ¬ (rgI 0 2 a) := by simp only [rgI, isS, isR, pNote, pMark]; omega
    have hRo : (if rgI 0 2 a then Rf else bmp Rf 0) = bmp Rf 0 := by simp only [if_neg hP0]
    exact hE.1 _ _ _ _ _ _ _ rfl rfl dX8_status_49 (Nat.le_refl _) (Nat.le_refl _) (⟨congrArg (fun z => some (Value.int (zI z))) (by simp only [z_status, if_neg hP0]), by rw [hRo] <;> rfl⟩)
