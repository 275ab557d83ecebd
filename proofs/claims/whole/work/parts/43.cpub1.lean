set_option maxHeartbeats 4000000 in
set_option maxRecDepth 100000 in
theorem c_X8_bad (Z : jZ) (h : Nat) (u : Nat → Nat) (ab : Int) (be : Int) (Rf : Nat → Nat)  : CT Z yX8_bad cX8_bad 1 ((some FieldType.int)) 1 0 0 [.ref h] [xO h u ab be (Rf 0) (Rf 1) (Rf 2)] (fun rr ww => rr = some (.int (zI (-2))) ∧ ww = [xO h u ab be ((bmp Rf 0) 0) ((bmp Rf 0) 1) ((bmp Rf 0) 2)]) := by
  refine CT.of RX8 false rfl (fun h => by cases h) (by decide +kernel) (Nat.le_of_ble_eq_true rfl) ?_
  intro J hJ hE
  show J 0 [(0, .ref h)] [] [xO h u ab be (Rf 0) (Rf 1) (Rf 2)] 0 0
  refine j_aload_n hJ (q := 1) dX8_bad_0 rfl 0 rfl rfl ?_
  refine j_dup hJ (q := 2) dX8_bad_1 rfl rfl ?_
  refine j_get hJ (q := 5) jf_X8_257 dX8_bad_2 0 rfl rfl rfl ?_
  refine j_iconst hJ (q := 6) dX8_bad_5 rfl ki_1 ?_
  refine j_iadd hJ (q := 7) dX8_bad_6 rfl (nI_add _ _) ?_
  refine j_put hJ (q := 10) (ws' := [xO h u ab be (Rf 0 + 1) (Rf 1) (Rf 2)]) jp_X8_257 dX8_bad_7 0 rfl rfl rfl (Nat.le_of_ble_eq_true rfl) rfl rfl ?_
  refine j_bipush hJ (q := 12) dX8_bad_10 rfl kb_m2 ?_
  exact hE.1 _ _ _ _ _ _ _ rfl rfl dX8_bad_12 (Nat.le_refl _) (Nat.le_refl _) (⟨congrArg (fun z => some (Value.int (zI z))) (by rfl), rfl⟩)

set_option maxHeartbeats 4000000 in
set_option maxRecDepth 100000 in
theorem c_X8_badOfList (Z : jZ) (h : Nat) (u : Nat → Nat) (ab : Int) (be : Int) (Rf : Nat → Nat)  : CT Z yX8_badOfList cX8_badOfList 1 ((some FieldType.int)) 1 0 0 [.ref h] [xO h u ab be (Rf 0) (Rf 1) (Rf 2)] (fun rr ww => rr = some (.int (zI (-10))) ∧ ww = [xO h u ab be ((bmp Rf 0) 0) ((bmp Rf 0) 1) ((bmp Rf 0) 2)]) := by
  refine CT.of RX8 false rfl (fun h => by cases h) (by decide +kernel) (Nat.le_of_ble_eq_true rfl) ?_
  intro J hJ hE
  show J 0 [(0, .ref h)] [] [xO h u ab be (Rf 0) (Rf 1) (Rf 2)] 0 0
  refine j_aload_n hJ (q := 1) dX8_badOfList_0 rfl 0 rfl rfl ?_
  refine j_dup hJ (q := 2) dX8_badOfList_1 rfl rfl ?_
  refine j_get hJ (q := 5) jf_X8_257 dX8_badOfList_2 0 rfl rfl rfl ?_
  refine j_iconst hJ (q := 6) dX8_badOfList_5 rfl ki_1 ?_
  refine j_iadd hJ (q := 7) dX8_badOfList_6 rfl (nI_add _ _) ?_
  refine j_put hJ (q := 10) (ws' := [xO h u ab be (Rf 0 + 1) (Rf 1) (Rf 2)]) jp_X8_257 dX8_badOfList_7 0 rfl rfl rfl (Nat.le_of_ble_eq_true rfl) rfl rfl ?_
  refine j_bipush hJ (q := 12) dX8_badOfList_10 rfl kb_m10 ?_
  exact hE.1 _ _ _ _ _ _ _ rfl rfl dX8_badOfList_12 (Nat.le_refl _) (Nat.le_refl _) (⟨congrArg (fun z => some (Value.int (zI z))) (by rfl), rfl⟩)

set_option maxHeartbeats 4000000 in
set_option maxRecDepth 100000 in
theorem c_X8_no (Z : jZ) (h : Nat) (u : Nat → Nat) (ab : Int) (be : Int) (Rf : Nat → Nat)  : CT Z yX8_no cX8_no 1 ((some FieldType.int)) 1 0 0 [.ref h] [xO h u ab be (Rf 0) (Rf 1) (Rf 2)] (fun rr ww => rr = some (.int (zI (-3))) ∧ ww = [xO h u ab be ((bmp Rf 1) 0) ((bmp Rf 1) 1) ((bmp Rf 1) 2)]) := by
  refine CT.of RX8 false rfl (fun h => by cases h) (by decide +kernel) (Nat.le_of_ble_eq_true rfl) ?_
  intro J hJ hE
  show J 0 [(0, .ref h)] [] [xO h u ab be (Rf 0) (Rf 1) (Rf 2)] 0 0
  refine j_aload_n hJ (q := 1) dX8_no_0 rfl 0 rfl rfl ?_
  refine j_dup hJ (q := 2) dX8_no_1 rfl rfl ?_
  refine j_get hJ (q := 5) jf_X8_260 dX8_no_2 0 rfl rfl rfl ?_
  refine j_iconst hJ (q := 6) dX8_no_5 rfl ki_1 ?_
  refine j_iadd hJ (q := 7) dX8_no_6 rfl (nI_add _ _) ?_
  refine j_put hJ (q := 10) (ws' := [xO h u ab be (Rf 0) (Rf 1 + 1) (Rf 2)]) jp_X8_260 dX8_no_7 0 rfl rfl rfl (Nat.le_of_ble_eq_true rfl) rfl rfl ?_
  refine j_bipush hJ (q := 12) dX8_no_10 rfl kb_m3 ?_
  exact hE.1 _ _ _ _ _ _ _ rfl rfl dX8_no_12 (Nat.le_refl _) (Nat.le_refl _) (⟨congrArg (fun z => some (Value.int (zI z))) (by rfl), rfl⟩)

set_option maxHeartbeats 4000000 in
set_option maxRecDepth 100000 in
theorem c_X8_full (Z : jZ) (h : Nat) (u : Nat → Nat) (ab : Int) (be : Int) (Rf : Nat → Nat)  : CT Z yX8_full cX8_full 1 ((some FieldType.int)) 1 0 0 [.ref h] [xO h u ab be (Rf 0) (Rf 1) (Rf 2)] (fun rr ww => rr = some (.int (zI (-4))) ∧ ww = [xO h u ab be ((bmp Rf 2) 0) ((bmp Rf 2) 1) ((bmp Rf 2) 2)]) := by
  refine CT.of RX8 false rfl (fun h => by cases h) (by decide +kernel) (Nat.le_of_ble_eq_true rfl) ?_
  intro J hJ hE
  show J 0 [(0, .ref h)] [] [xO h u ab be (Rf 0) (Rf 1) (Rf 2)] 0 0
  refine j_aload_n hJ (q := 1) dX8_full_0 rfl 0 rfl rfl ?_
  refine j_dup hJ (q := 2) dX8_full_1 rfl rfl ?_
  refine j_get hJ (q := 5) jf_X8_263 dX8_full_2 0 rfl rfl rfl ?_
  refine j_iconst hJ (q := 6) dX8_full_5 rfl ki_1 ?_
  refine j_iadd hJ (q := 7) dX8_full_6 rfl (nI_add _ _) ?_
  refine j_put hJ (q := 10) (ws' := [xO h u ab be (Rf 0) (Rf 1) (Rf 2 + 1)]) jp_X8_263 dX8_full_7 0 rfl rfl rfl (Nat.le_of_ble_eq_true rfl) rfl rfl ?_
  refine j_bipush hJ (q := 12) dX8_full_10 rfl kb_m4 ?_
  exact hE.1 _ _ _ _ _ _ _ rfl rfl dX8_full_12 (Nat.le_refl _) (Nat.le_refl _) (⟨congrArg (fun z => some (Value.int (zI z))) (by rfl), rfl⟩)

set_option maxHeartbeats 4000000 in
set_option maxRecDepth 100000 in
theorem c_X8_isSeat (Z : jZ) (h : Nat) (u : Nat → Nat) (ab : Int) (be : Int) (Rf : Nat → Nat) (s : Nat → Nat) (q : Nat → Nat) (A : Nat → Nat) (K : Nat → Nat) (P : Nat → Nat) (kd : Nat → Nat) (am : Nat → Nat) (st : Nat → Nat) (rg : Nat → Nat) (x : Int32) (hlt : A 21 < 100000) : CR Z yX8_isSeat cX8_isSeat 2 ((some FieldType.boolean)) 2 [.ref h, .int x] [xO h u ab be (Rf 0) (Rf 1) (Rf 2), (u 0, .inr (4, [.ref (s 0), .ref (s 1), .ref (s 3), .ref (s 5), .ref (s 7)])), cO (s 0) q (A 21) (A 5) (A 6) (A 7) (A 8) (A 0), (q 0, ia Z 12 (ni K)), (q 1, ia Z 12 (ni P)), (q 2, ia Z 6 (ni kd)), (q 3, ia Z 6 (ni am)), (q 4, ia Z 6 (ni st)), (q 5, ia Z 6 (ni rg))] (fun rr => rr = some (.int (bI (decide (0 ≤ x.toInt ∧ x.toInt ≤ (A 21 : Int) - 1))))) := by
  refine CR.of RX8 rfl (by decide +kernel) (Nat.le_of_ble_eq_true rfl) ?_
  intro J hJ hE
  show J 0 [(0, .ref h), (1, .int x)] [] [xO h u ab be (Rf 0) (Rf 1) (Rf 2), (u 0, .inr (4, [.ref (s 0), .ref (s 1), .ref (s 3), .ref (s 5), .ref (s 7)])), cO (s 0) q (A 21) (A 5) (A 6) (A 7) (A 8) (A 0), (q 0, ia Z 12 (ni K)), (q 1, ia Z 12 (ni P)), (q 2, ia Z 6 (ni kd)), (q 3, ia Z 6 (ni am)), (q 4, ia Z 6 (ni st)), (q 5, ia Z 6 (ni rg))] 0 0
  have hx := zI_rng x
  refine j_iload_n hJ (q := 1) dX8_isSeat_0 rfl 1 rfl rfl ?_
  refine j_iconst hJ (q := 2) dX8_isSeat_1 rfl ki_0 ?_
  refine j_aload_n hJ (q := 3) dX8_isSeat_2 rfl 0 rfl rfl ?_
  refine j_get hJ (q := 6) jf_X8_10 dX8_isSeat_3 0 rfl rfl rfl ?_
  refine j_get hJ (q := 9) jf_X8_66 dX8_isSeat_6 1 rfl rfl rfl ?_
  refine j_get hJ (q := 12) jf_X8_278 dX8_isSeat_9 2 rfl rfl rfl ?_
  refine j_iconst hJ (q := 13) dX8_isSeat_12 rfl ki_1 ?_
  refine j_isub hJ (q := 14) dX8_isSeat_13 rfl (zI_sub (zI_nat (A 21)).symm (zI_nat 1).symm) ?_
  refine j_sR hJ (q := 17) (rest := []) (As := [.int x, .int (zI 0), .int (zI (((A 21) : Int) - (1 : Int)))]) jl_X8_58 (c_X8_within Z x 0 (((A 21) : Int) - (1 : Int)) (by omega) (by omega)) dX8_isSeat_14 rfl (by decide) (Nat.le_of_ble_eq_true rfl) [] rfl rfl (fun rv hp => ?_)
  obtain rfl := hp
  show J 17 [(0, .ref h), (1, .int x)] [.int (bI (decide (0 ≤ x.toInt ∧ x.toInt ≤ (((A 21) : Int) - (1 : Int)))))] [xO h u ab be (Rf 0) (Rf 1) (Rf 2), (u 0, .inr (4, [.ref (s 0), .ref (s 1), .ref (s 3), .ref (s 5), .ref (s 7)])), cO (s 0) q (A 21) (A 5) (A 6) (A 7) (A 8) (A 0), (q 0, ia Z 12 (ni K)), (q 1, ia Z 12 (ni P)), (q 2, ia Z 6 (ni kd)), (q 3, ia Z 6 (ni am)), (q 4, ia Z 6 (ni st)), (q 5, ia Z 6 (ni rg))] 0 0
  exact hE.1 _ _ _ _ _ _ _ rfl (bI_nar _) dX8_isSeat_17 (Nat.le_refl _) (Nat.le_refl _) (rfl)

set_option maxHeartbeats 4000000 in
set_option maxRecDepth 100000 in
theorem c_X8_isRider (Z : jZ) (h : Nat) (u : Nat → Nat) (ab : Int) (be : Int) (Rf : Nat → Nat) (s : Nat → Nat) (q : Nat → Nat) (A : Nat → Nat) (K : Nat → Nat) (P : Nat → Nat) (kd : Nat → Nat) (am : Nat → Nat) (st : Nat → Nat) (rg : Nat → Nat) (x : Int32) (hlt : A 0 < 100000) : CR Z yX8_isRider cX8_isRider 2 ((some FieldType.boolean)) 2 [.ref h, .int x] [xO h u ab be (Rf 0) (Rf 1) (Rf 2), (u 0, .inr (4, [.ref (s 0), .ref (s 1), .ref (s 3), .ref (s 5), .ref (s 7)])), cO (s 0) q (A 21) (A 5) (A 6) (A 7) (A 8) (A 0), (q 0, ia Z 12 (ni K)), (q 1, ia Z 12 (ni P)), (q 2, ia Z 6 (ni kd)), (q 3, ia Z 6 (ni am)), (q 4, ia Z 6 (ni st)), (q 5, ia Z 6 (ni rg))] (fun rr => rr = some (.int (bI (decide (0 ≤ x.toInt ∧ x.toInt ≤ (A 0 : Int) - 1))))) := by
  refine CR.of RX8 rfl (by decide +kernel) (Nat.le_of_ble_eq_true rfl) ?_
  intro J hJ hE
  show J 0 [(0, .ref h), (1, .int x)] [] [xO h u ab be (Rf 0) (Rf 1) (Rf 2), (u 0, .inr (4, [.ref (s 0), .ref (s 1), .ref (s 3), .ref (s 5), .ref (s 7)])), cO (s 0) q (A 21) (A 5) (A 6) (A 7) (A 8) (A 0), (q 0, ia Z 12 (ni K)), (q 1, ia Z 12 (ni P)), (q 2, ia Z 6 (ni kd)), (q 3, ia Z 6 (ni am)), (q 4, ia Z 6 (ni st)), (q 5, ia Z 6 (ni rg))] 0 0
  have hx := zI_rng x
  refine j_iload_n hJ (q := 1) dX8_isRider_0 rfl 1 rfl rfl ?_
  refine j_iconst hJ (q := 2) dX8_isRider_1 rfl ki_0 ?_
  refine j_aload_n hJ (q := 3) dX8_isRider_2 rfl 0 rfl rfl ?_
  refine j_get hJ (q := 6) jf_X8_10 dX8_isRider_3 0 rfl rfl rfl ?_
  refine j_get hJ (q := 9) jf_X8_66 dX8_isRider_6 1 rfl rfl rfl ?_
  refine j_get hJ (q := 12) jf_X8_69 dX8_isRider_9 2 rfl rfl rfl ?_
  refine j_iconst hJ (q := 13) dX8_isRider_12 rfl ki_1 ?_
  refine j_isub hJ (q := 14) dX8_isRider_13 rfl (zI_sub (zI_nat (A 0)).symm (zI_nat 1).symm) ?_
  refine j_sR hJ (q := 17) (rest := []) (As := [.int x, .int (zI 0), .int (zI (((A 0) : Int) - (1 : Int)))]) jl_X8_58 (c_X8_within Z x 0 (((A 0) : Int) - (1 : Int)) (by omega) (by omega)) dX8_isRider_14 rfl (by decide) (Nat.le_of_ble_eq_true rfl) [] rfl rfl (fun rv hp => ?_)
  obtain rfl := hp
  show J 17 [(0, .ref h), (1, .int x)] [.int (bI (decide (0 ≤ x.toInt ∧ x.toInt ≤ (((A 0) : Int) - (1 : Int)))))] [xO h u ab be (Rf 0) (Rf 1) (Rf 2), (u 0, .inr (4, [.ref (s 0), .ref (s 1), .ref (s 3), .ref (s 5), .ref (s 7)])), cO (s 0) q (A 21) (A 5) (A 6) (A 7) (A 8) (A 0), (q 0, ia Z 12 (ni K)), (q 1, ia Z 12 (ni P)), (q 2, ia Z 6 (ni kd)), (q 3, ia Z 6 (ni am)), (q 4, ia Z 6 (ni st)), (q 5, ia Z 6 (ni rg))] 0 0
  exact hE.1 _ _ _ _ _ _ _ rfl (bI_nar _) dX8_isRider_17 (Nat.le_refl _) (Nat.le_refl _) (rfl)

set_option maxHeartbeats 4000000 in
set_option maxRecDepth 100000 in
theorem c_X8_round (Z : jZ) (h : Nat) (u : Nat → Nat) (ab : Int) (be : Int) (Rf : Nat → Nat) (s : Nat → Nat) (q : Nat → Nat) (A : Nat → Nat) (K : Nat → Nat) (P : Nat → Nat) (kd : Nat → Nat) (am : Nat → Nat) (st : Nat → Nat) (rg : Nat → Nat) (Ro : Nat → Nat) (Sn : Nat → Nat) (Nt : Nat → Nat) (Mk : Nat → Nat) (a : Int32) (b : Int32) (hg : wg A) (hA : rA A K P kd am st rg Ro Sn Nt Mk) : CT Z yX8_round cX8_round 4 ((some FieldType.int)) 3 0 0 [.ref h, .int a, .int b] [xO h u ab be (Rf 0) (Rf 1) (Rf 2), (u 0, .inr (4, [.ref (s 0), .ref (s 1), .ref (s 3), .ref (s 5), .ref (s 7)])), cO (s 0) q (A 21) (A 5) (A 6) (A 7) (A 8) (A 0), (q 0, ia Z 12 (ni K)), (q 1, ia Z 12 (ni P)), (q 2, ia Z 6 (ni kd)), (q 3, ia Z 6 (ni am)), (q 4, ia Z 6 (ni st)), (q 5, ia Z 6 (ni rg)), (s 1, .inr (1, [.int (nI (A 4)), .ref (s 2)])), (s 2, ia Z 128 (ni Ro)), (s 3, .inr (3, [.int (nI (A 1)), .int (nI 4), .int (nI 5), .ref (s 4)])), (s 4, ia Z 30 (ni Sn)), (s 5, .inr (3, [.int (nI (A 2)), .int (nI 5), .int (nI 6), .ref (s 6)])), (s 6, ia Z 30 (ni Nt)), (s 7, .inr (3, [.int (nI (A 3)), .int (nI 5), .int (nI 6), .ref (s 8)])), (s 8, ia Z 30 (ni Mk))] (fun rr ww => ∃ Kz : Nat → Nat, ∃ Pz : Nat → Nat, ∃ kdz : Nat → Nat, ∃ amz : Nat → Nat, ∃ stz : Nat → Nat, ∃ rgz : Nat → Nat, ∃ Roz : Nat → Nat, ∃ Snz : Nat → Nat, ∃ Ntz : Nat → Nat, ∃ Mkz : Nat → Nat, rr = some (.int (zI (z_round A a b))) ∧ ww = [xO h u ab be ((if rgI 4 12 a ∧ rgI 0 3 b then Rf else bmp Rf 0) 0) ((if rgI 4 12 a ∧ rgI 0 3 b then Rf else bmp Rf 0) 1) ((if rgI 4 12 a ∧ rgI 0 3 b then Rf else bmp Rf 0) 2), (u 0, .inr (4, [.ref (s 0), .ref (s 1), .ref (s 3), .ref (s 5), .ref (s 7)])), cO (s 0) q ((a_round A a b) 21) ((a_round A a b) 5) ((a_round A a b) 6) ((a_round A a b) 7) ((a_round A a b) 8) ((a_round A a b) 0), (q 0, ia Z 12 (ni Kz)), (q 1, ia Z 12 (ni Pz)), (q 2, ia Z 6 (ni kdz)), (q 3, ia Z 6 (ni amz)), (q 4, ia Z 6 (ni stz)), (q 5, ia Z 6 (ni rgz)), (s 1, .inr (1, [.int (nI ((a_round A a b) 4)), .ref (s 2)])), (s 2, ia Z 128 (ni Roz)), (s 3, .inr (3, [.int (nI ((a_round A a b) 1)), .int (nI 4), .int (nI 5), .ref (s 4)])), (s 4, ia Z 30 (ni Snz)), (s 5, .inr (3, [.int (nI ((a_round A a b) 2)), .int (nI 5), .int (nI 6), .ref (s 6)])), (s 6, ia Z 30 (ni Ntz)), (s 7, .inr (3, [.int (nI ((a_round A a b) 3)), .int (nI 5), .int (nI 6), .ref (s 8)])), (s 8, ia Z 30 (ni Mkz))] ∧ (rA (a_round A a b) Kz Pz kdz amz stz rgz Roz Snz Ntz Mkz)) := by
  refine CT.of RX8 false rfl (fun h => by cases h) (by decide +kernel) (Nat.le_of_ble_eq_true rfl) ?_
  intro J hJ hE
  show J 0 [(0, .ref h), (1, .int a), (2, .int b)] [] [xO h u ab be (Rf 0) (Rf 1) (Rf 2), (u 0, .inr (4, [.ref (s 0), .ref (s 1), .ref (s 3), .ref (s 5), .ref (s 7)])), cO (s 0) q (A 21) (A 5) (A 6) (A 7) (A 8) (A 0), (q 0, ia Z 12 (ni K)), (q 1, ia Z 12 (ni P)), (q 2, ia Z 6 (ni kd)), (q 3, ia Z 6 (ni am)), (q 4, ia Z 6 (ni st)), (q 5, ia Z 6 (ni rg)), (s 1, .inr (1, [.int (nI (A 4)), .ref (s 2)])), (s 2, ia Z 128 (ni Ro)), (s 3, .inr (3, [.int (nI (A 1)), .int (nI 4), .int (nI 5), .ref (s 4)])), (s 4, ia Z 30 (ni Sn)), (s 5, .inr (3, [.int (nI (A 2)), .int (nI 5), .int (nI 6), .ref (s 6)])), (s 6, ia Z 30 (ni Nt)), (s 7, .inr (3, [.int (nI (A 3)), .int (nI 5), .int (nI 6), .ref (s 8)])), (s 8, ia Z 30 (ni Mk))] 0 0
  obtain ⟨hw, ⟨g1, g2, g3, g4, g8⟩, hrs, hrn, hrm, hpst⟩ := id hg
  obtain ⟨⟨w1, w2, w3, w4, w5, w6⟩, hb, wr, wh, wd⟩ := id hw
  obtain ⟨hR, hX⟩ := id hA
  obtain ⟨hP, hSn, hNt, hMk⟩ := id hX
  have hr_a := zI_rng a
  have hr_b := zI_rng b
  refine j_iload_n hJ (q := 1) dX8_round_0 rfl 1 rfl rfl ?_
  refine j_iconst hJ (q := 2) dX8_round_1 rfl ki_4 ?_
  refine j_bipush hJ (q := 4) dX8_round_2 rfl kb_12 ?_
  refine j_sR hJ (q := 7) (rest := []) (As := [.int a, .int (zI 4), .int (zI 12)]) jl_X8_58 (c_X8_within Z a 4 12 (by omega) (by omega)) dX8_round_4 rfl (by decide) (Nat.le_of_ble_eq_true rfl) [] rfl rfl (fun rv hp => ?_)
  obtain rfl := hp
  show J 7 [(0, .ref h), (1, .int a), (2, .int b)] [.int (bI (decide (4 ≤ a.toInt ∧ a.toInt ≤ 12)))] [xO h u ab be (Rf 0) (Rf 1) (Rf 2), (u 0, .inr (4, [.ref (s 0), .ref (s 1), .ref (s 3), .ref (s 5), .ref (s 7)])), cO (s 0) q (A 21) (A 5) (A 6) (A 7) (A 8) (A 0), (q 0, ia Z 12 (ni K)), (q 1, ia Z 12 (ni P)), (q 2, ia Z 6 (ni kd)), (q 3, ia Z 6 (ni am)), (q 4, ia Z 6 (ni st)), (q 5, ia Z 6 (ni rg)), (s 1, .inr (1, [.int (nI (A 4)), .ref (s 2)])), (s 2, ia Z 128 (ni Ro)), (s 3, .inr (3, [.int (nI (A 1)), .int (nI 4), .int (nI 5), .ref (s 4)])), (s 4, ia Z 30 (ni Sn)), (s 5, .inr (3, [.int (nI (A 2)), .int (nI 5), .int (nI 6), .ref (s 6)])), (s 6, ia Z 30 (ni Nt)), (s 7, .inr (3, [.int (nI (A 3)), .int (nI 5), .int (nI 6), .ref (s 8)])), (s 8, ia Z 30 (ni Mk))] 0 0
  refine jp_if_eq hJ (q := 10) (tgt := 19) dX8_round_7 (by decide) rfl (fun c1 => ?_) (fun c1 => ?_)
  · skip
    refine j_aload_n hJ (q := 20) dX8_round_19 rfl 0 rfl rfl ?_
    refine j_vW hJ (q := 23) (rest := []) (As := []) (wr := [(u 0, .inr (4, [.ref (s 0), .ref (s 1), .ref (s 3), .ref (s 5), .ref (s 7)])), cO (s 0) q (A 21) (A 5) (A 6) (A 7) (A 8) (A 0), (q 0, ia Z 12 (ni K)), (q 1, ia Z 12 (ni P)), (q 2, ia Z 6 (ni kd)), (q 3, ia Z 6 (ni am)), (q 4, ia Z 6 (ni st)), (q 5, ia Z 6 (ni rg)), (s 1, .inr (1, [.int (nI (A 4)), .ref (s 2)])), (s 2, ia Z 128 (ni Ro)), (s 3, .inr (3, [.int (nI (A 1)), .int (nI 4), .int (nI 5), .ref (s 4)])), (s 4, ia Z 30 (ni Sn)), (s 5, .inr (3, [.int (nI (A 2)), .int (nI 5), .int (nI 6), .ref (s 6)])), (s 6, ia Z 30 (ni Nt)), (s 7, .inr (3, [.int (nI (A 3)), .int (nI 5), .int (nI 6), .ref (s 8)])), (s 8, ia Z 30 (ni Mk))]) jl_X8_62 (c_X8_bad Z h u ab be Rf ) 0 rfl rfl dX8_round_20 rfl (by decide) (Nat.le_of_ble_eq_true rfl) [0] [1, 2, 3, 4, 5, 6, 7, 8, 9, 10, 11, 12, 13, 14, 15, 16] rfl rfl rfl rfl (by decide) rfl (fun rv wv hp => ?_)
    obtain ⟨rfl, rfl⟩ := hp
    refine j_world hJ (ws' := [xO h u ab be ((bmp Rf 0) 0) ((bmp Rf 0) 1) ((bmp Rf 0) 2), (u 0, .inr (4, [.ref (s 0), .ref (s 1), .ref (s 3), .ref (s 5), .ref (s 7)])), cO (s 0) q (A 21) (A 5) (A 6) (A 7) (A 8) (A 0), (q 0, ia Z 12 (ni K)), (q 1, ia Z 12 (ni P)), (q 2, ia Z 6 (ni kd)), (q 3, ia Z 6 (ni am)), (q 4, ia Z 6 (ni st)), (q 5, ia Z 6 (ni rg)), (s 1, .inr (1, [.int (nI (A 4)), .ref (s 2)])), (s 2, ia Z 128 (ni Ro)), (s 3, .inr (3, [.int (nI (A 1)), .int (nI 4), .int (nI 5), .ref (s 4)])), (s 4, ia Z 30 (ni Sn)), (s 5, .inr (3, [.int (nI (A 2)), .int (nI 5), .int (nI 6), .ref (s 6)])), (s 6, ia Z 30 (ni Nt)), (s 7, .inr (3, [.int (nI (A 3)), .int (nI 5), .int (nI 6), .ref (s 8)])), (s 8, ia Z 30 (ni Mk))]) [16, 0, 1, 2, 3, 4, 5, 6, 7, 8, 9, 10, 11, 12, 13, 14, 15] rfl rfl ?_
    show J 23 [(0, .ref h), (1, .int a), (2, .int b)] [.int (zI (-2))] [xO h u ab be ((bmp Rf 0) 0) ((bmp Rf 0) 1) ((bmp Rf 0) 2), (u 0, .inr (4, [.ref (s 0), .ref (s 1), .ref (s 3), .ref (s 5), .ref (s 7)])), cO (s 0) q (A 21) (A 5) (A 6) (A 7) (A 8) (A 0), (q 0, ia Z 12 (ni K)), (q 1, ia Z 12 (ni P)), (q 2, ia Z 6 (ni kd)), (q 3, ia Z 6 (ni am)), (q 4, ia Z 6 (ni st)), (q 5, ia Z 6 (ni rg)), (s 1, .inr (1, [.int (nI (A 4)), .ref (s 2)])), (s 2, ia Z 128 (ni Ro)), (s 3, .inr (3, [.int (nI (A 1)), .int (nI 4), .int (nI 5), .ref (s 4)])), (s 4, ia Z 30 (ni Sn)), (s 5, .inr (3, [.int (nI (A 2)), .int (nI 5), .int (nI 6), .ref (s 6)])), (s 6, ia Z 30 (ni Nt)), (s 7, .inr (3, [.int (nI (A 3)), .int (nI 5), .int (nI 6), .ref (s 8)])), (s 8, ia Z 30 (ni Mk))] 0 0
    have hP0 : ¬ (rgI 4 12 a ∧ rgI 0 3 b) := by simp only [rgI, isS, isR, pNote, pMark]; omega
    have hAo : (a_round A a b) = A := by simp only [a_round, if_neg hP0]
    have hRo : (if rgI 4 12 a ∧ rgI 0 3 b then Rf else bmp Rf 0) = bmp Rf 0 := by simp only [if_neg hP0]
    exact hE.1 _ _ _ _ _ _ _ rfl rfl dX8_round_23 (Nat.le_refl _) (Nat.le_refl _) (⟨K, P, kd, am, st, rg, Ro, Sn, Nt, Mk, congrArg (fun z => some (Value.int (zI z))) (by simp only [z_round, if_neg hP0]), by rw [hAo, hRo] <;> first | rfl | (skip), by rw [hAo]; exact hA⟩)
  · skip
    refine j_iload_n hJ (q := 11) dX8_round_10 rfl 2 rfl rfl ?_
    refine j_iconst hJ (q := 12) dX8_round_11 rfl ki_0 ?_
    refine j_iconst hJ (q := 13) dX8_round_12 rfl ki_3 ?_
    refine j_sR hJ (q := 16) (rest := []) (As := [.int b, .int (zI 0), .int (zI 3)]) jl_X8_58 (c_X8_within Z b 0 3 (by omega) (by omega)) dX8_round_13 rfl (by decide) (Nat.le_of_ble_eq_true rfl) [] rfl rfl (fun rv hp => ?_)
    obtain rfl := hp
    show J 16 [(0, .ref h), (1, .int a), (2, .int b)] [.int (bI (decide (0 ≤ b.toInt ∧ b.toInt ≤ 3)))] [xO h u ab be (Rf 0) (Rf 1) (Rf 2), (u 0, .inr (4, [.ref (s 0), .ref (s 1), .ref (s 3), .ref (s 5), .ref (s 7)])), cO (s 0) q (A 21) (A 5) (A 6) (A 7) (A 8) (A 0), (q 0, ia Z 12 (ni K)), (q 1, ia Z 12 (ni P)), (q 2, ia Z 6 (ni kd)), (q 3, ia Z 6 (ni am)), (q 4, ia Z 6 (ni st)), (q 5, ia Z 6 (ni rg)), (s 1, .inr (1, [.int (nI (A 4)), .ref (s 2)])), (s 2, ia Z 128 (ni Ro)), (s 3, .inr (3, [.int (nI (A 1)), .int (nI 4), .int (nI 5), .ref (s 4)])), (s 4, ia Z 30 (ni Sn)), (s 5, .inr (3, [.int (nI (A 2)), .int (nI 5), .int (nI 6), .ref (s 6)])), (s 6, ia Z 30 (ni Nt)), (s 7, .inr (3, [.int (nI (A 3)), .int (nI 5), .int (nI 6), .ref (s 8)])), (s 8, ia Z 30 (ni Mk))] 0 0
    refine jp_if_ne hJ (q := 19) (tgt := 24) dX8_round_16 (by decide) rfl (fun c2 => ?_) (fun c2 => ?_)
    · skip
      have hn_a := nt_cast (x := a) (by omega)
      refine j_eql (lvs' := [(0, .ref h), (1, .int (nI (nt a))), (2, .int b)]) (by rw [← nt_eq (x := a) (by omega)]) ?_
      have hn_b := nt_cast (x := b) (by omega)
      refine j_eql (lvs' := [(0, .ref h), (1, .int (nI (nt a))), (2, .int (nI (nt b)))]) (by rw [← nt_eq (x := b) (by omega)]) ?_
      refine j_aload_n hJ (q := 25) dX8_round_24 rfl 0 rfl rfl ?_
      refine j_get hJ (q := 28) jf_X8_10 dX8_round_25 0 rfl rfl rfl ?_
      refine j_get hJ (q := 31) jf_X8_66 dX8_round_28 1 rfl rfl rfl ?_
      refine j_get hJ (q := 34) jf_X8_69 dX8_round_31 2 rfl rfl rfl ?_
      refine j_istore_n hJ (q := 35) (lvs' := [(3, .int (nI (A 0))), (0, .ref h), (1, .int (nI (nt a))), (2, .int (nI (nt b)))]) dX8_round_34 rfl (by decide) rfl rfl ?_
      refine j_aload_n hJ (q := 36) dX8_round_35 rfl 1 rfl rfl ?_
      refine j_get hJ (q := 39) jf_X8_10 dX8_round_36 0 rfl rfl rfl ?_
      refine j_get hJ (q := 42) jf_X8_66 dX8_round_39 1 rfl rfl rfl ?_
      refine j_iload_n hJ (q := 43) dX8_round_42 rfl 2 rfl rfl ?_
      refine j_iload_n hJ (q := 44) dX8_round_43 rfl 3 rfl rfl ?_
      refine j_vW hJ (q := 47) (rest := []) (As := [.int (nI (nt a)), .int (nI (nt b))]) (wr := [xO h u ab be (Rf 0) (Rf 1) (Rf 2), (u 0, .inr (4, [.ref (s 0), .ref (s 1), .ref (s 3), .ref (s 5), .ref (s 7)])), (s 1, .inr (1, [.int (nI (A 4)), .ref (s 2)])), (s 2, ia Z 128 (ni Ro)), (s 3, .inr (3, [.int (nI (A 1)), .int (nI 4), .int (nI 5), .ref (s 4)])), (s 4, ia Z 30 (ni Sn)), (s 5, .inr (3, [.int (nI (A 2)), .int (nI 5), .int (nI 6), .ref (s 6)])), (s 6, ia Z 30 (ni Nt)), (s 7, .inr (3, [.int (nI (A 3)), .int (nI 5), .int (nI 6), .ref (s 8)])), (s 8, ia Z 30 (ni Mk))]) jl_X8_73 (c_X4_start Z (s 0) q (A 21) (A 5) (A 6) (A 7) (A 8) (A 0) K P kd am st rg (nt a) (nt b) ) 2 rfl rfl dX8_round_44 rfl (by decide) (Nat.le_of_ble_eq_true rfl) [2, 3, 4, 5, 6, 7, 8] [0, 1, 9, 10, 11, 12, 13, 14, 15, 16] rfl rfl rfl rfl (by decide) rfl (fun rv wv hp => ?_)
      obtain ⟨Kz3, Pz4, rfl, rfl, f5⟩ := hp
      refine j_world hJ (ws' := [xO h u ab be (Rf 0) (Rf 1) (Rf 2), (u 0, .inr (4, [.ref (s 0), .ref (s 1), .ref (s 3), .ref (s 5), .ref (s 7)])), cO (s 0) q (nt a) 0 (nt b) 8 0 0, (q 0, ia Z 12 (ni Kz3)), (q 1, ia Z 12 (ni Pz4)), (q 2, ia Z 6 (ni kd)), (q 3, ia Z 6 (ni am)), (q 4, ia Z 6 (ni st)), (q 5, ia Z 6 (ni rg)), (s 1, .inr (1, [.int (nI (A 4)), .ref (s 2)])), (s 2, ia Z 128 (ni Ro)), (s 3, .inr (3, [.int (nI (A 1)), .int (nI 4), .int (nI 5), .ref (s 4)])), (s 4, ia Z 30 (ni Sn)), (s 5, .inr (3, [.int (nI (A 2)), .int (nI 5), .int (nI 6), .ref (s 6)])), (s 6, ia Z 30 (ni Nt)), (s 7, .inr (3, [.int (nI (A 3)), .int (nI 5), .int (nI 6), .ref (s 8)])), (s 8, ia Z 30 (ni Mk))]) [0, 1, 10, 11, 12, 13, 14, 15, 16, 2, 3, 4, 5, 6, 7, 8, 9] rfl rfl ?_
      show J 47 [(3, .int (nI (A 0))), (0, .ref h), (1, .int (nI (nt a))), (2, .int (nI (nt b)))] [] [xO h u ab be (Rf 0) (Rf 1) (Rf 2), (u 0, .inr (4, [.ref (s 0), .ref (s 1), .ref (s 3), .ref (s 5), .ref (s 7)])), cO (s 0) q (nt a) 0 (nt b) 8 0 0, (q 0, ia Z 12 (ni Kz3)), (q 1, ia Z 12 (ni Pz4)), (q 2, ia Z 6 (ni kd)), (q 3, ia Z 6 (ni am)), (q 4, ia Z 6 (ni st)), (q 5, ia Z 6 (ni rg)), (s 1, .inr (1, [.int (nI (A 4)), .ref (s 2)])), (s 2, ia Z 128 (ni Ro)), (s 3, .inr (3, [.int (nI (A 1)), .int (nI 4), .int (nI 5), .ref (s 4)])), (s 4, ia Z 30 (ni Sn)), (s 5, .inr (3, [.int (nI (A 2)), .int (nI 5), .int (nI 6), .ref (s 6)])), (s 6, ia Z 30 (ni Nt)), (s 7, .inr (3, [.int (nI (A 3)), .int (nI 5), .int (nI 6), .ref (s 8)])), (s 8, ia Z 30 (ni Mk))] 0 0
      have hzz := f5
      refine j_aload_n hJ (q := 48) dX8_round_47 rfl 1 rfl rfl ?_
      refine j_get hJ (q := 51) jf_X8_10 dX8_round_48 0 rfl rfl rfl ?_
      refine j_vW hJ (q := 54) (rest := []) (As := []) (wr := [xO h u ab be (Rf 0) (Rf 1) (Rf 2), cO (s 0) q (nt a) 0 (nt b) 8 0 0, (q 0, ia Z 12 (ni Kz3)), (q 1, ia Z 12 (ni Pz4)), (q 2, ia Z 6 (ni kd)), (q 3, ia Z 6 (ni am)), (q 4, ia Z 6 (ni st)), (q 5, ia Z 6 (ni rg))]) jl_X8_77 (c_X6_dropRest Z (u 0) s (A 4) (A 1) (A 2) (A 3) Ro Sn Nt Mk ) 1 rfl rfl dX8_round_51 rfl (by decide) (Nat.le_of_ble_eq_true rfl) [1, 9, 10, 11, 12, 13, 14, 15, 16] [0, 2, 3, 4, 5, 6, 7, 8] rfl rfl rfl rfl (by decide) rfl (fun rv wv hp => ?_)
      obtain ⟨rfl, rfl⟩ := hp
      refine j_world hJ (ws' := [xO h u ab be (Rf 0) (Rf 1) (Rf 2), ((u 0), .inr (4, [.ref (s 0), .ref (s 1), .ref (s 3), .ref (s 5), .ref (s 7)])), cO (s 0) q (nt a) 0 (nt b) 8 0 0, (q 0, ia Z 12 (ni Kz3)), (q 1, ia Z 12 (ni Pz4)), (q 2, ia Z 6 (ni kd)), (q 3, ia Z 6 (ni am)), (q 4, ia Z 6 (ni st)), (q 5, ia Z 6 (ni rg)), (s 1, .inr (1, [.int (nI 0), .ref (s 2)])), (s 2, ia Z 128 (ni Ro)), (s 3, .inr (3, [.int (nI 0), .int (nI 4), .int (nI 5), .ref (s 4)])), (s 4, ia Z 30 (ni Sn)), (s 5, .inr (3, [.int (nI 0), .int (nI 5), .int (nI 6), .ref (s 6)])), (s 6, ia Z 30 (ni Nt)), (s 7, .inr (3, [.int (nI 0), .int (nI 5), .int (nI 6), .ref (s 8)])), (s 8, ia Z 30 (ni Mk))]) [0, 8, 1, 2, 3, 4, 5, 6, 7, 9, 10, 11, 12, 13, 14, 15, 16] rfl rfl ?_
      show J 54 [(3, .int (nI (A 0))), (0, .ref h), (1, .int (nI (nt a))), (2, .int (nI (nt b)))] [] [xO h u ab be (Rf 0) (Rf 1) (Rf 2), ((u 0), .inr (4, [.ref (s 0), .ref (s 1), .ref (s 3), .ref (s 5), .ref (s 7)])), cO (s 0) q (nt a) 0 (nt b) 8 0 0, (q 0, ia Z 12 (ni Kz3)), (q 1, ia Z 12 (ni Pz4)), (q 2, ia Z 6 (ni kd)), (q 3, ia Z 6 (ni am)), (q 4, ia Z 6 (ni st)), (q 5, ia Z 6 (ni rg)), (s 1, .inr (1, [.int (nI 0), .ref (s 2)])), (s 2, ia Z 128 (ni Ro)), (s 3, .inr (3, [.int (nI 0), .int (nI 4), .int (nI 5), .ref (s 4)])), (s 4, ia Z 30 (ni Sn)), (s 5, .inr (3, [.int (nI 0), .int (nI 5), .int (nI 6), .ref (s 6)])), (s 6, ia Z 30 (ni Nt)), (s 7, .inr (3, [.int (nI 0), .int (nI 5), .int (nI 6), .ref (s 8)])), (s 8, ia Z 30 (ni Mk))] 0 0
      refine j_iload_n hJ (q := 55) dX8_round_54 rfl 0 rfl rfl ?_
      have hP0 : rgI 4 12 a ∧ rgI 0 3 b := by simp only [rgI, isS, isR, pNote, pMark]; omega
      have hAo : (a_round A a b) = beg A (nt a) (nt b) := by simp only [a_round, if_pos hP0]
      have hRo : (if rgI 4 12 a ∧ rgI 0 3 b then Rf else bmp Rf 0) = Rf := by simp only [if_pos hP0]
      exact hE.1 _ _ _ _ _ _ _ rfl rfl dX8_round_55 (Nat.le_refl _) (Nat.le_refl _) (⟨Kz3, Pz4, kd, am, st, rg, Ro, Sn, Nt, Mk, congrArg (fun z => some (Value.int z)) ((zI_nat _).symm.trans (congrArg zI (by simp only [z_round, if_pos hP0]))), by rw [hAo, hRo] <;> first | rfl | (skip), by rw [hAo]; exact ⟨rR_beg (by omega) hzz, rX_0 ⟨rfl, rfl, rfl, rfl⟩⟩⟩)
    · skip
      refine j_aload_n hJ (q := 20) dX8_round_19 rfl 0 rfl rfl ?_
      refine j_vW hJ (q := 23) (rest := []) (As := []) (wr := [(u 0, .inr (4, [.ref (s 0), .ref (s 1), .ref (s 3), .ref (s 5), .ref (s 7)])), cO (s 0) q (A 21) (A 5) (A 6) (A 7) (A 8) (A 0), (q 0, ia Z 12 (ni K)), (q 1, ia Z 12 (ni P)), (q 2, ia Z 6 (ni kd)), (q 3, ia Z 6 (ni am)), (q 4, ia Z 6 (ni st)), (q 5, ia Z 6 (ni rg)), (s 1, .inr (1, [.int (nI (A 4)), .ref (s 2)])), (s 2, ia Z 128 (ni Ro)), (s 3, .inr (3, [.int (nI (A 1)), .int (nI 4), .int (nI 5), .ref (s 4)])), (s 4, ia Z 30 (ni Sn)), (s 5, .inr (3, [.int (nI (A 2)), .int (nI 5), .int (nI 6), .ref (s 6)])), (s 6, ia Z 30 (ni Nt)), (s 7, .inr (3, [.int (nI (A 3)), .int (nI 5), .int (nI 6), .ref (s 8)])), (s 8, ia Z 30 (ni Mk))]) jl_X8_62 (c_X8_bad Z h u ab be Rf ) 0 rfl rfl dX8_round_20 rfl (by decide) (Nat.le_of_ble_eq_true rfl) [0] [1, 2, 3, 4, 5, 6, 7, 8, 9, 10, 11, 12, 13, 14, 15, 16] rfl rfl rfl rfl (by decide) rfl (fun rv wv hp => ?_)
      obtain ⟨rfl, rfl⟩ := hp
      refine j_world hJ (ws' := [xO h u ab be ((bmp Rf 0) 0) ((bmp Rf 0) 1) ((bmp Rf 0) 2), (u 0, .inr (4, [.ref (s 0), .ref (s 1), .ref (s 3), .ref (s 5), .ref (s 7)])), cO (s 0) q (A 21) (A 5) (A 6) (A 7) (A 8) (A 0), (q 0, ia Z 12 (ni K)), (q 1, ia Z 12 (ni P)), (q 2, ia Z 6 (ni kd)), (q 3, ia Z 6 (ni am)), (q 4, ia Z 6 (ni st)), (q 5, ia Z 6 (ni rg)), (s 1, .inr (1, [.int (nI (A 4)), .ref (s 2)])), (s 2, ia Z 128 (ni Ro)), (s 3, .inr (3, [.int (nI (A 1)), .int (nI 4), .int (nI 5), .ref (s 4)])), (s 4, ia Z 30 (ni Sn)), (s 5, .inr (3, [.int (nI (A 2)), .int (nI 5), .int (nI 6), .ref (s 6)])), (s 6, ia Z 30 (ni Nt)), (s 7, .inr (3, [.int (nI (A 3)), .int (nI 5), .int (nI 6), .ref (s 8)])), (s 8, ia Z 30 (ni Mk))]) [16, 0, 1, 2, 3, 4, 5, 6, 7, 8, 9, 10, 11, 12, 13, 14, 15] rfl rfl ?_
      show J 23 [(0, .ref h), (1, .int a), (2, .int b)] [.int (zI (-2))] [xO h u ab be ((bmp Rf 0) 0) ((bmp Rf 0) 1) ((bmp Rf 0) 2), (u 0, .inr (4, [.ref (s 0), .ref (s 1), .ref (s 3), .ref (s 5), .ref (s 7)])), cO (s 0) q (A 21) (A 5) (A 6) (A 7) (A 8) (A 0), (q 0, ia Z 12 (ni K)), (q 1, ia Z 12 (ni P)), (q 2, ia Z 6 (ni kd)), (q 3, ia Z 6 (ni am)), (q 4, ia Z 6 (ni st)), (q 5, ia Z 6 (ni rg)), (s 1, .inr (1, [.int (nI (A 4)), .ref (s 2)])), (s 2, ia Z 128 (ni Ro)), (s 3, .inr (3, [.int (nI (A 1)), .int (nI 4), .int (nI 5), .ref (s 4)])), (s 4, ia Z 30 (ni Sn)), (s 5, .inr (3, [.int (nI (A 2)), .int (nI 5), .int (nI 6), .ref (s 6)])), (s 6, ia Z 30 (ni Nt)), (s 7, .inr (3, [.int (nI (A 3)), .int (nI 5), .int (nI 6), .ref (s 8)])), (s 8, ia Z 30 (ni Mk))] 0 0
      have hP0 : ¬ (rgI 4 12 a ∧ rgI 0 3 b) := by simp only [rgI, isS, isR, pNote, pMark]; omega
      have hAo : (a_round A a b) = A := by simp only [a_round, if_neg hP0]
      have hRo : (if rgI 4 12 a ∧ rgI 0 3 b then Rf else bmp Rf 0) = bmp Rf 0 := by simp only [if_neg hP0]
      exact hE.1 _ _ _ _ _ _ _ rfl rfl dX8_round_23 (Nat.le_refl _) (Nat.le_refl _) (⟨K, P, kd, am, st, rg, Ro, Sn, Nt, Mk, congrArg (fun z => some (Value.int (zI z))) (by simp only [z_round, if_neg hP0]), by rw [hAo, hRo] <;> first | rfl | (skip), by rw [hAo]; exact hA⟩)

set_option maxHeartbeats 4000000 in
set_option maxRecDepth 100000 in
theorem c_X8_horse (Z : jZ) (h : Nat) (u : Nat → Nat) (ab : Int) (be : Int) (Rf : Nat → Nat) (s : Nat → Nat) (q : Nat → Nat) (A : Nat → Nat) (K : Nat → Nat) (P : Nat → Nat) (kd : Nat → Nat) (am : Nat → Nat) (st : Nat → Nat) (rg : Nat → Nat) (Ro : Nat → Nat) (Sn : Nat → Nat) (Nt : Nat → Nat) (Mk : Nat → Nat) (a : Int32) (b : Int32) (c : Int32) (hg : wg A) (hA : rA A K P kd am st rg Ro Sn Nt Mk) : CT Z yX8_horse cX8_horse 5 ((some FieldType.int)) 3 0 0 [.ref h, .int a, .int b, .int c] [xO h u ab be (Rf 0) (Rf 1) (Rf 2), (u 0, .inr (4, [.ref (s 0), .ref (s 1), .ref (s 3), .ref (s 5), .ref (s 7)])), cO (s 0) q (A 21) (A 5) (A 6) (A 7) (A 8) (A 0), (q 0, ia Z 12 (ni K)), (q 1, ia Z 12 (ni P)), (q 2, ia Z 6 (ni kd)), (q 3, ia Z 6 (ni am)), (q 4, ia Z 6 (ni st)), (q 5, ia Z 6 (ni rg)), (s 1, .inr (1, [.int (nI (A 4)), .ref (s 2)])), (s 2, ia Z 128 (ni Ro)), (s 3, .inr (3, [.int (nI (A 1)), .int (nI 4), .int (nI 5), .ref (s 4)])), (s 4, ia Z 30 (ni Sn)), (s 5, .inr (3, [.int (nI (A 2)), .int (nI 5), .int (nI 6), .ref (s 6)])), (s 6, ia Z 30 (ni Nt)), (s 7, .inr (3, [.int (nI (A 3)), .int (nI 5), .int (nI 6), .ref (s 8)])), (s 8, ia Z 30 (ni Mk))] (fun rr ww => ∃ Kz : Nat → Nat, ∃ Pz : Nat → Nat, ∃ kdz : Nat → Nat, ∃ amz : Nat → Nat, ∃ stz : Nat → Nat, ∃ rgz : Nat → Nat, ∃ Roz : Nat → Nat, ∃ Snz : Nat → Nat, ∃ Ntz : Nat → Nat, ∃ Mkz : Nat → Nat, rr = some (.int (zI (z_horse A a b c))) ∧ ww = [xO h u ab be ((if isS A a ∧ rgI 0 5 b ∧ rgI 0 7 c then Rf else bmp Rf 0) 0) ((if isS A a ∧ rgI 0 5 b ∧ rgI 0 7 c then Rf else bmp Rf 0) 1) ((if isS A a ∧ rgI 0 5 b ∧ rgI 0 7 c then Rf else bmp Rf 0) 2), (u 0, .inr (4, [.ref (s 0), .ref (s 1), .ref (s 3), .ref (s 5), .ref (s 7)])), cO (s 0) q ((a_horse A a b c) 21) ((a_horse A a b c) 5) ((a_horse A a b c) 6) ((a_horse A a b c) 7) ((a_horse A a b c) 8) ((a_horse A a b c) 0), (q 0, ia Z 12 (ni Kz)), (q 1, ia Z 12 (ni Pz)), (q 2, ia Z 6 (ni kdz)), (q 3, ia Z 6 (ni amz)), (q 4, ia Z 6 (ni stz)), (q 5, ia Z 6 (ni rgz)), (s 1, .inr (1, [.int (nI ((a_horse A a b c) 4)), .ref (s 2)])), (s 2, ia Z 128 (ni Roz)), (s 3, .inr (3, [.int (nI ((a_horse A a b c) 1)), .int (nI 4), .int (nI 5), .ref (s 4)])), (s 4, ia Z 30 (ni Snz)), (s 5, .inr (3, [.int (nI ((a_horse A a b c) 2)), .int (nI 5), .int (nI 6), .ref (s 6)])), (s 6, ia Z 30 (ni Ntz)), (s 7, .inr (3, [.int (nI ((a_horse A a b c) 3)), .int (nI 5), .int (nI 6), .ref (s 8)])), (s 8, ia Z 30 (ni Mkz))] ∧ (rA (a_horse A a b c) Kz Pz kdz amz stz rgz Roz Snz Ntz Mkz)) := by
  refine CT.of RX8 false rfl (fun h => by cases h) (by decide +kernel) (Nat.le_of_ble_eq_true rfl) ?_
  intro J hJ hE
  show J 0 [(0, .ref h), (1, .int a), (2, .int b), (3, .int c)] [] [xO h u ab be (Rf 0) (Rf 1) (Rf 2), (u 0, .inr (4, [.ref (s 0), .ref (s 1), .ref (s 3), .ref (s 5), .ref (s 7)])), cO (s 0) q (A 21) (A 5) (A 6) (A 7) (A 8) (A 0), (q 0, ia Z 12 (ni K)), (q 1, ia Z 12 (ni P)), (q 2, ia Z 6 (ni kd)), (q 3, ia Z 6 (ni am)), (q 4, ia Z 6 (ni st)), (q 5, ia Z 6 (ni rg)), (s 1, .inr (1, [.int (nI (A 4)), .ref (s 2)])), (s 2, ia Z 128 (ni Ro)), (s 3, .inr (3, [.int (nI (A 1)), .int (nI 4), .int (nI 5), .ref (s 4)])), (s 4, ia Z 30 (ni Sn)), (s 5, .inr (3, [.int (nI (A 2)), .int (nI 5), .int (nI 6), .ref (s 6)])), (s 6, ia Z 30 (ni Nt)), (s 7, .inr (3, [.int (nI (A 3)), .int (nI 5), .int (nI 6), .ref (s 8)])), (s 8, ia Z 30 (ni Mk))] 0 0
  obtain ⟨hw, ⟨g1, g2, g3, g4, g8⟩, hrs, hrn, hrm, hpst⟩ := id hg
  obtain ⟨⟨w1, w2, w3, w4, w5, w6⟩, hb, wr, wh, wd⟩ := id hw
  obtain ⟨hR, hX⟩ := id hA
  obtain ⟨hP, hSn, hNt, hMk⟩ := id hX
  have hr_a := zI_rng a
  have hr_b := zI_rng b
  have hr_c := zI_rng c
  refine j_aload_n hJ (q := 1) dX8_horse_0 rfl 0 rfl rfl ?_
  refine j_iload_n hJ (q := 2) dX8_horse_1 rfl 1 rfl rfl ?_
  refine j_vR hJ (q := 5) (rest := []) (As := [.int a]) jl_X8_80 (c_X8_isSeat Z h u ab be Rf s q A K P kd am st rg a (by omega)) 0 rfl rfl dX8_horse_2 rfl (by decide) (Nat.le_of_ble_eq_true rfl) [0, 1, 2, 3, 4, 5, 6, 7, 8] rfl rfl (fun rv hp => ?_)
  obtain rfl := hp
  show J 5 [(0, .ref h), (1, .int a), (2, .int b), (3, .int c)] [.int (bI (decide (0 ≤ a.toInt ∧ a.toInt ≤ (A 21 : Int) - 1)))] [xO h u ab be (Rf 0) (Rf 1) (Rf 2), (u 0, .inr (4, [.ref (s 0), .ref (s 1), .ref (s 3), .ref (s 5), .ref (s 7)])), cO (s 0) q (A 21) (A 5) (A 6) (A 7) (A 8) (A 0), (q 0, ia Z 12 (ni K)), (q 1, ia Z 12 (ni P)), (q 2, ia Z 6 (ni kd)), (q 3, ia Z 6 (ni am)), (q 4, ia Z 6 (ni st)), (q 5, ia Z 6 (ni rg)), (s 1, .inr (1, [.int (nI (A 4)), .ref (s 2)])), (s 2, ia Z 128 (ni Ro)), (s 3, .inr (3, [.int (nI (A 1)), .int (nI 4), .int (nI 5), .ref (s 4)])), (s 4, ia Z 30 (ni Sn)), (s 5, .inr (3, [.int (nI (A 2)), .int (nI 5), .int (nI 6), .ref (s 6)])), (s 6, ia Z 30 (ni Nt)), (s 7, .inr (3, [.int (nI (A 3)), .int (nI 5), .int (nI 6), .ref (s 8)])), (s 8, ia Z 30 (ni Mk))] 0 0
  refine jp_if_eq hJ (q := 8) (tgt := 27) dX8_horse_5 (by decide) rfl (fun c1 => ?_) (fun c1 => ?_)
  · skip
    refine j_aload_n hJ (q := 28) dX8_horse_27 rfl 0 rfl rfl ?_
    refine j_vW hJ (q := 31) (rest := []) (As := []) (wr := [(u 0, .inr (4, [.ref (s 0), .ref (s 1), .ref (s 3), .ref (s 5), .ref (s 7)])), cO (s 0) q (A 21) (A 5) (A 6) (A 7) (A 8) (A 0), (q 0, ia Z 12 (ni K)), (q 1, ia Z 12 (ni P)), (q 2, ia Z 6 (ni kd)), (q 3, ia Z 6 (ni am)), (q 4, ia Z 6 (ni st)), (q 5, ia Z 6 (ni rg)), (s 1, .inr (1, [.int (nI (A 4)), .ref (s 2)])), (s 2, ia Z 128 (ni Ro)), (s 3, .inr (3, [.int (nI (A 1)), .int (nI 4), .int (nI 5), .ref (s 4)])), (s 4, ia Z 30 (ni Sn)), (s 5, .inr (3, [.int (nI (A 2)), .int (nI 5), .int (nI 6), .ref (s 6)])), (s 6, ia Z 30 (ni Nt)), (s 7, .inr (3, [.int (nI (A 3)), .int (nI 5), .int (nI 6), .ref (s 8)])), (s 8, ia Z 30 (ni Mk))]) jl_X8_62 (c_X8_bad Z h u ab be Rf ) 0 rfl rfl dX8_horse_28 rfl (by decide) (Nat.le_of_ble_eq_true rfl) [0] [1, 2, 3, 4, 5, 6, 7, 8, 9, 10, 11, 12, 13, 14, 15, 16] rfl rfl rfl rfl (by decide) rfl (fun rv wv hp => ?_)
    obtain ⟨rfl, rfl⟩ := hp
    refine j_world hJ (ws' := [xO h u ab be ((bmp Rf 0) 0) ((bmp Rf 0) 1) ((bmp Rf 0) 2), (u 0, .inr (4, [.ref (s 0), .ref (s 1), .ref (s 3), .ref (s 5), .ref (s 7)])), cO (s 0) q (A 21) (A 5) (A 6) (A 7) (A 8) (A 0), (q 0, ia Z 12 (ni K)), (q 1, ia Z 12 (ni P)), (q 2, ia Z 6 (ni kd)), (q 3, ia Z 6 (ni am)), (q 4, ia Z 6 (ni st)), (q 5, ia Z 6 (ni rg)), (s 1, .inr (1, [.int (nI (A 4)), .ref (s 2)])), (s 2, ia Z 128 (ni Ro)), (s 3, .inr (3, [.int (nI (A 1)), .int (nI 4), .int (nI 5), .ref (s 4)])), (s 4, ia Z 30 (ni Sn)), (s 5, .inr (3, [.int (nI (A 2)), .int (nI 5), .int (nI 6), .ref (s 6)])), (s 6, ia Z 30 (ni Nt)), (s 7, .inr (3, [.int (nI (A 3)), .int (nI 5), .int (nI 6), .ref (s 8)])), (s 8, ia Z 30 (ni Mk))]) [16, 0, 1, 2, 3, 4, 5, 6, 7, 8, 9, 10, 11, 12, 13, 14, 15] rfl rfl ?_
    show J 31 [(0, .ref h), (1, .int a), (2, .int b), (3, .int c)] [.int (zI (-2))] [xO h u ab be ((bmp Rf 0) 0) ((bmp Rf 0) 1) ((bmp Rf 0) 2), (u 0, .inr (4, [.ref (s 0), .ref (s 1), .ref (s 3), .ref (s 5), .ref (s 7)])), cO (s 0) q (A 21) (A 5) (A 6) (A 7) (A 8) (A 0), (q 0, ia Z 12 (ni K)), (q 1, ia Z 12 (ni P)), (q 2, ia Z 6 (ni kd)), (q 3, ia Z 6 (ni am)), (q 4, ia Z 6 (ni st)), (q 5, ia Z 6 (ni rg)), (s 1, .inr (1, [.int (nI (A 4)), .ref (s 2)])), (s 2, ia Z 128 (ni Ro)), (s 3, .inr (3, [.int (nI (A 1)), .int (nI 4), .int (nI 5), .ref (s 4)])), (s 4, ia Z 30 (ni Sn)), (s 5, .inr (3, [.int (nI (A 2)), .int (nI 5), .int (nI 6), .ref (s 6)])), (s 6, ia Z 30 (ni Nt)), (s 7, .inr (3, [.int (nI (A 3)), .int (nI 5), .int (nI 6), .ref (s 8)])), (s 8, ia Z 30 (ni Mk))] 0 0
    have hP0 : ¬ (isS A a ∧ rgI 0 5 b ∧ rgI 0 7 c) := by simp only [rgI, isS, isR, pNote, pMark]; omega
    have hAo : (a_horse A a b c) = A := by simp only [a_horse, if_neg hP0]
    have hRo : (if isS A a ∧ rgI 0 5 b ∧ rgI 0 7 c then Rf else bmp Rf 0) = bmp Rf 0 := by simp only [if_neg hP0]
    exact hE.1 _ _ _ _ _ _ _ rfl rfl dX8_horse_31 (Nat.le_refl _) (Nat.le_refl _) (⟨K, P, kd, am, st, rg, Ro, Sn, Nt, Mk, congrArg (fun z => some (Value.int (zI z))) (by simp only [z_horse, if_neg hP0]), by rw [hAo, hRo] <;> first | rfl | (skip), by rw [hAo]; exact hA⟩)
  · skip
    refine j_iload_n hJ (q := 9) dX8_horse_8 rfl 2 rfl rfl ?_
    refine j_iconst hJ (q := 10) dX8_horse_9 rfl ki_0 ?_
    refine j_iconst hJ (q := 11) dX8_horse_10 rfl ki_5 ?_
    refine j_sR hJ (q := 14) (rest := []) (As := [.int b, .int (zI 0), .int (zI 5)]) jl_X8_58 (c_X8_within Z b 0 5 (by omega) (by omega)) dX8_horse_11 rfl (by decide) (Nat.le_of_ble_eq_true rfl) [] rfl rfl (fun rv hp => ?_)
    obtain rfl := hp
    show J 14 [(0, .ref h), (1, .int a), (2, .int b), (3, .int c)] [.int (bI (decide (0 ≤ b.toInt ∧ b.toInt ≤ 5)))] [xO h u ab be (Rf 0) (Rf 1) (Rf 2), (u 0, .inr (4, [.ref (s 0), .ref (s 1), .ref (s 3), .ref (s 5), .ref (s 7)])), cO (s 0) q (A 21) (A 5) (A 6) (A 7) (A 8) (A 0), (q 0, ia Z 12 (ni K)), (q 1, ia Z 12 (ni P)), (q 2, ia Z 6 (ni kd)), (q 3, ia Z 6 (ni am)), (q 4, ia Z 6 (ni st)), (q 5, ia Z 6 (ni rg)), (s 1, .inr (1, [.int (nI (A 4)), .ref (s 2)])), (s 2, ia Z 128 (ni Ro)), (s 3, .inr (3, [.int (nI (A 1)), .int (nI 4), .int (nI 5), .ref (s 4)])), (s 4, ia Z 30 (ni Sn)), (s 5, .inr (3, [.int (nI (A 2)), .int (nI 5), .int (nI 6), .ref (s 6)])), (s 6, ia Z 30 (ni Nt)), (s 7, .inr (3, [.int (nI (A 3)), .int (nI 5), .int (nI 6), .ref (s 8)])), (s 8, ia Z 30 (ni Mk))] 0 0
    refine jp_if_eq hJ (q := 17) (tgt := 27) dX8_horse_14 (by decide) rfl (fun c2 => ?_) (fun c2 => ?_)
    · skip
      refine j_aload_n hJ (q := 28) dX8_horse_27 rfl 0 rfl rfl ?_
      refine j_vW hJ (q := 31) (rest := []) (As := []) (wr := [(u 0, .inr (4, [.ref (s 0), .ref (s 1), .ref (s 3), .ref (s 5), .ref (s 7)])), cO (s 0) q (A 21) (A 5) (A 6) (A 7) (A 8) (A 0), (q 0, ia Z 12 (ni K)), (q 1, ia Z 12 (ni P)), (q 2, ia Z 6 (ni kd)), (q 3, ia Z 6 (ni am)), (q 4, ia Z 6 (ni st)), (q 5, ia Z 6 (ni rg)), (s 1, .inr (1, [.int (nI (A 4)), .ref (s 2)])), (s 2, ia Z 128 (ni Ro)), (s 3, .inr (3, [.int (nI (A 1)), .int (nI 4), .int (nI 5), .ref (s 4)])), (s 4, ia Z 30 (ni Sn)), (s 5, .inr (3, [.int (nI (A 2)), .int (nI 5), .int (nI 6), .ref (s 6)])), (s 6, ia Z 30 (ni Nt)), (s 7, .inr (3, [.int (nI (A 3)), .int (nI 5), .int (nI 6), .ref (s 8)])), (s 8, ia Z 30 (ni Mk))]) jl_X8_62 (c_X8_bad Z h u ab be Rf ) 0 rfl rfl dX8_horse_28 rfl (by decide) (Nat.le_of_ble_eq_true rfl) [0] [1, 2, 3, 4, 5, 6, 7, 8, 9, 10, 11, 12, 13, 14, 15, 16] rfl rfl rfl rfl (by decide) rfl (fun rv wv hp => ?_)
      obtain ⟨rfl, rfl⟩ := hp
      refine j_world hJ (ws' := [xO h u ab be ((bmp Rf 0) 0) ((bmp Rf 0) 1) ((bmp Rf 0) 2), (u 0, .inr (4, [.ref (s 0), .ref (s 1), .ref (s 3), .ref (s 5), .ref (s 7)])), cO (s 0) q (A 21) (A 5) (A 6) (A 7) (A 8) (A 0), (q 0, ia Z 12 (ni K)), (q 1, ia Z 12 (ni P)), (q 2, ia Z 6 (ni kd)), (q 3, ia Z 6 (ni am)), (q 4, ia Z 6 (ni st)), (q 5, ia Z 6 (ni rg)), (s 1, .inr (1, [.int (nI (A 4)), .ref (s 2)])), (s 2, ia Z 128 (ni Ro)), (s 3, .inr (3, [.int (nI (A 1)), .int (nI 4), .int (nI 5), .ref (s 4)])), (s 4, ia Z 30 (ni Sn)), (s 5, .inr (3, [.int (nI (A 2)), .int (nI 5), .int (nI 6), .ref (s 6)])), (s 6, ia Z 30 (ni Nt)), (s 7, .inr (3, [.int (nI (A 3)), .int (nI 5), .int (nI 6), .ref (s 8)])), (s 8, ia Z 30 (ni Mk))]) [16, 0, 1, 2, 3, 4, 5, 6, 7, 8, 9, 10, 11, 12, 13, 14, 15] rfl rfl ?_
      show J 31 [(0, .ref h), (1, .int a), (2, .int b), (3, .int c)] [.int (zI (-2))] [xO h u ab be ((bmp Rf 0) 0) ((bmp Rf 0) 1) ((bmp Rf 0) 2), (u 0, .inr (4, [.ref (s 0), .ref (s 1), .ref (s 3), .ref (s 5), .ref (s 7)])), cO (s 0) q (A 21) (A 5) (A 6) (A 7) (A 8) (A 0), (q 0, ia Z 12 (ni K)), (q 1, ia Z 12 (ni P)), (q 2, ia Z 6 (ni kd)), (q 3, ia Z 6 (ni am)), (q 4, ia Z 6 (ni st)), (q 5, ia Z 6 (ni rg)), (s 1, .inr (1, [.int (nI (A 4)), .ref (s 2)])), (s 2, ia Z 128 (ni Ro)), (s 3, .inr (3, [.int (nI (A 1)), .int (nI 4), .int (nI 5), .ref (s 4)])), (s 4, ia Z 30 (ni Sn)), (s 5, .inr (3, [.int (nI (A 2)), .int (nI 5), .int (nI 6), .ref (s 6)])), (s 6, ia Z 30 (ni Nt)), (s 7, .inr (3, [.int (nI (A 3)), .int (nI 5), .int (nI 6), .ref (s 8)])), (s 8, ia Z 30 (ni Mk))] 0 0
      have hP0 : ¬ (isS A a ∧ rgI 0 5 b ∧ rgI 0 7 c) := by simp only [rgI, isS, isR, pNote, pMark]; omega
      have hAo : (a_horse A a b c) = A := by simp only [a_horse, if_neg hP0]
      have hRo : (if isS A a ∧ rgI 0 5 b ∧ rgI 0 7 c then Rf else bmp Rf 0) = bmp Rf 0 := by simp only [if_neg hP0]
      exact hE.1 _ _ _ _ _ _ _ rfl rfl dX8_horse_31 (Nat.le_refl _) (Nat.le_refl _) (⟨K, P, kd, am, st, rg, Ro, Sn, Nt, Mk, congrArg (fun z => some (Value.int (zI z))) (by simp only [z_horse, if_neg hP0]), by rw [hAo, hRo] <;> first | rfl | (skip), by rw [hAo]; exact hA⟩)
    · skip
      refine j_iload_n hJ (q := 18) dX8_horse_17 rfl 3 rfl rfl ?_
      refine j_iconst hJ (q := 19) dX8_horse_18 rfl ki_0 ?_
      refine j_bipush hJ (q := 21) dX8_horse_19 rfl kb_7 ?_
      refine j_sR hJ (q := 24) (rest := []) (As := [.int c, .int (zI 0), .int (zI 7)]) jl_X8_58 (c_X8_within Z c 0 7 (by omega) (by omega)) dX8_horse_21 rfl (by decide) (Nat.le_of_ble_eq_true rfl) [] rfl rfl (fun rv hp => ?_)
      obtain rfl := hp
      show J 24 [(0, .ref h), (1, .int a), (2, .int b), (3, .int c)] [.int (bI (decide (0 ≤ c.toInt ∧ c.toInt ≤ 7)))] [xO h u ab be (Rf 0) (Rf 1) (Rf 2), (u 0, .inr (4, [.ref (s 0), .ref (s 1), .ref (s 3), .ref (s 5), .ref (s 7)])), cO (s 0) q (A 21) (A 5) (A 6) (A 7) (A 8) (A 0), (q 0, ia Z 12 (ni K)), (q 1, ia Z 12 (ni P)), (q 2, ia Z 6 (ni kd)), (q 3, ia Z 6 (ni am)), (q 4, ia Z 6 (ni st)), (q 5, ia Z 6 (ni rg)), (s 1, .inr (1, [.int (nI (A 4)), .ref (s 2)])), (s 2, ia Z 128 (ni Ro)), (s 3, .inr (3, [.int (nI (A 1)), .int (nI 4), .int (nI 5), .ref (s 4)])), (s 4, ia Z 30 (ni Sn)), (s 5, .inr (3, [.int (nI (A 2)), .int (nI 5), .int (nI 6), .ref (s 6)])), (s 6, ia Z 30 (ni Nt)), (s 7, .inr (3, [.int (nI (A 3)), .int (nI 5), .int (nI 6), .ref (s 8)])), (s 8, ia Z 30 (ni Mk))] 0 0
      refine jp_if_ne hJ (q := 27) (tgt := 32) dX8_horse_24 (by decide) rfl (fun c3 => ?_) (fun c3 => ?_)
      · skip
        have hn_a := nt_cast (x := a) (by omega)
        refine j_eql (lvs' := [(0, .ref h), (1, .int (nI (nt a))), (2, .int b), (3, .int c)]) (by rw [← nt_eq (x := a) (by omega)]) ?_
        have hn_b := nt_cast (x := b) (by omega)
        refine j_eql (lvs' := [(0, .ref h), (1, .int (nI (nt a))), (2, .int (nI (nt b))), (3, .int c)]) (by rw [← nt_eq (x := b) (by omega)]) ?_
        have hn_c := nt_cast (x := c) (by omega)
        refine j_eql (lvs' := [(0, .ref h), (1, .int (nI (nt a))), (2, .int (nI (nt b))), (3, .int (nI (nt c)))]) (by rw [← nt_eq (x := c) (by omega)]) ?_
        refine j_aload_n hJ (q := 33) dX8_horse_32 rfl 0 rfl rfl ?_
        refine j_get hJ (q := 36) jf_X8_10 dX8_horse_33 0 rfl rfl rfl ?_
        refine j_get hJ (q := 39) jf_X8_66 dX8_horse_36 1 rfl rfl rfl ?_
        refine j_get hJ (q := 42) jf_X8_84 dX8_horse_39 2 rfl rfl rfl ?_
        refine j_iload_n hJ (q := 43) dX8_horse_42 rfl 1 rfl rfl ?_
        refine j_ialdN hJ (q := 44) (z := nI (K (nt a))) dX8_horse_43 3 rfl (by omega) (by decide) rfl rfl ?_
        refine j_top (congrArg nI (rR_K hR (i := nt a) (by omega))) ?_
        refine j_istore hJ (q := 46) (lvs' := [(4, .int (nI (A (34 + (nt a))))), (0, .ref h), (1, .int (nI (nt a))), (2, .int (nI (nt b))), (3, .int (nI (nt c)))]) dX8_horse_44 (by decide) rfl rfl ?_
        refine j_aload_n hJ (q := 47) dX8_horse_46 rfl 1 rfl rfl ?_
        refine j_get hJ (q := 50) jf_X8_10 dX8_horse_47 0 rfl rfl rfl ?_
        refine j_get hJ (q := 53) jf_X8_66 dX8_horse_50 1 rfl rfl rfl ?_
        refine j_iload_n hJ (q := 54) dX8_horse_53 rfl 2 rfl rfl ?_
        refine j_iload_n hJ (q := 55) dX8_horse_54 rfl 3 rfl rfl ?_
        refine j_iload_n hJ (q := 56) dX8_horse_55 rfl 4 rfl rfl ?_
        refine j_vW hJ (q := 59) (rest := []) (As := [.int (nI (nt a)), .int (nI (nt b)), .int (nI (nt c))]) (wr := [xO h u ab be (Rf 0) (Rf 1) (Rf 2), (u 0, .inr (4, [.ref (s 0), .ref (s 1), .ref (s 3), .ref (s 5), .ref (s 7)])), (s 1, .inr (1, [.int (nI (A 4)), .ref (s 2)])), (s 2, ia Z 128 (ni Ro)), (s 3, .inr (3, [.int (nI (A 1)), .int (nI 4), .int (nI 5), .ref (s 4)])), (s 4, ia Z 30 (ni Sn)), (s 5, .inr (3, [.int (nI (A 2)), .int (nI 5), .int (nI 6), .ref (s 6)])), (s 6, ia Z 30 (ni Nt)), (s 7, .inr (3, [.int (nI (A 3)), .int (nI 5), .int (nI 6), .ref (s 8)])), (s 8, ia Z 30 (ni Mk))]) jl_X8_87 (c_X4_putHorse Z (s 0) q A K P kd am st rg (nt a) (nt b) (nt c) (by omega)) 2 rfl rfl dX8_horse_56 rfl (by decide) (Nat.le_of_ble_eq_true rfl) [2, 3, 4, 5, 6, 7, 8] [0, 1, 9, 10, 11, 12, 13, 14, 15, 16] rfl rfl rfl rfl (by decide) rfl (fun rv wv hp => ?_)
        obtain ⟨rfl, rfl⟩ := hp
        refine j_world hJ (ws' := [xO h u ab be (Rf 0) (Rf 1) (Rf 2), (u 0, .inr (4, [.ref (s 0), .ref (s 1), .ref (s 3), .ref (s 5), .ref (s 7)])), cO (s 0) q (A 21) (A 5) (A 6) (A 7) (A 8) (A 0), (q 0, ia Z 12 (ni (va_up K (nt a) (nt b)))), (q 1, ia Z 12 (ni (va_up P (nt a) (nt c)))), (q 2, ia Z 6 (ni kd)), (q 3, ia Z 6 (ni am)), (q 4, ia Z 6 (ni st)), (q 5, ia Z 6 (ni rg)), (s 1, .inr (1, [.int (nI (A 4)), .ref (s 2)])), (s 2, ia Z 128 (ni Ro)), (s 3, .inr (3, [.int (nI (A 1)), .int (nI 4), .int (nI 5), .ref (s 4)])), (s 4, ia Z 30 (ni Sn)), (s 5, .inr (3, [.int (nI (A 2)), .int (nI 5), .int (nI 6), .ref (s 6)])), (s 6, ia Z 30 (ni Nt)), (s 7, .inr (3, [.int (nI (A 3)), .int (nI 5), .int (nI 6), .ref (s 8)])), (s 8, ia Z 30 (ni Mk))]) [0, 1, 10, 11, 12, 13, 14, 15, 16, 2, 3, 4, 5, 6, 7, 8, 9] rfl rfl ?_
        show J 59 [(4, .int (nI (A (34 + (nt a))))), (0, .ref h), (1, .int (nI (nt a))), (2, .int (nI (nt b))), (3, .int (nI (nt c)))] [] [xO h u ab be (Rf 0) (Rf 1) (Rf 2), (u 0, .inr (4, [.ref (s 0), .ref (s 1), .ref (s 3), .ref (s 5), .ref (s 7)])), cO (s 0) q (A 21) (A 5) (A 6) (A 7) (A 8) (A 0), (q 0, ia Z 12 (ni (va_up K (nt a) (nt b)))), (q 1, ia Z 12 (ni (va_up P (nt a) (nt c)))), (q 2, ia Z 6 (ni kd)), (q 3, ia Z 6 (ni am)), (q 4, ia Z 6 (ni st)), (q 5, ia Z 6 (ni rg)), (s 1, .inr (1, [.int (nI (A 4)), .ref (s 2)])), (s 2, ia Z 128 (ni Ro)), (s 3, .inr (3, [.int (nI (A 1)), .int (nI 4), .int (nI 5), .ref (s 4)])), (s 4, ia Z 30 (ni Sn)), (s 5, .inr (3, [.int (nI (A 2)), .int (nI 5), .int (nI 6), .ref (s 6)])), (s 6, ia Z 30 (ni Nt)), (s 7, .inr (3, [.int (nI (A 3)), .int (nI 5), .int (nI 6), .ref (s 8)])), (s 8, ia Z 30 (ni Mk))] 0 0
        refine j_aload_n hJ (q := 60) dX8_horse_59 rfl 1 rfl rfl ?_
        refine j_get hJ (q := 63) jf_X8_10 dX8_horse_60 0 rfl rfl rfl ?_
        refine j_get hJ (q := 66) jf_X8_91 dX8_horse_63 1 rfl rfl rfl ?_
        refine j_iconst hJ (q := 67) dX8_horse_66 rfl ki_0 ?_
        refine j_put hJ (q := 70) (ws' := [xO h u ab be (Rf 0) (Rf 1) (Rf 2), (u 0, .inr (4, [.ref (s 0), .ref (s 1), .ref (s 3), .ref (s 5), .ref (s 7)])), cO (s 0) q (A 21) (A 5) (A 6) (A 7) (A 8) (A 0), (q 0, ia Z 12 (ni (va_up K (nt a) (nt b)))), (q 1, ia Z 12 (ni (va_up P (nt a) (nt c)))), (q 2, ia Z 6 (ni kd)), (q 3, ia Z 6 (ni am)), (q 4, ia Z 6 (ni st)), (q 5, ia Z 6 (ni rg)), (s 1, .inr (1, [.int (nI 0), .ref (s 2)])), (s 2, ia Z 128 (ni Ro)), (s 3, .inr (3, [.int (nI (A 1)), .int (nI 4), .int (nI 5), .ref (s 4)])), (s 4, ia Z 30 (ni Sn)), (s 5, .inr (3, [.int (nI (A 2)), .int (nI 5), .int (nI 6), .ref (s 6)])), (s 6, ia Z 30 (ni Nt)), (s 7, .inr (3, [.int (nI (A 3)), .int (nI 5), .int (nI 6), .ref (s 8)])), (s 8, ia Z 30 (ni Mk))]) jp_X8_95 dX8_horse_67 9 rfl rfl rfl (Nat.le_of_ble_eq_true rfl) rfl rfl ?_
        refine j_iload hJ (q := 72) dX8_horse_70 0 rfl rfl ?_
        have hP0 : isS A a ∧ rgI 0 5 b ∧ rgI 0 7 c := by simp only [rgI, isS, isR, pNote, pMark]; omega
        have hAo : (a_horse A a b c) = va_up (va_up (va_up A (34 + nt a) (nt b)) (46 + nt a) (nt c)) 4 0 := by simp only [a_horse, if_pos hP0]
        have hRo : (if isS A a ∧ rgI 0 5 b ∧ rgI 0 7 c then Rf else bmp Rf 0) = Rf := by simp only [if_pos hP0]
        have es21 : (va_up (va_up (va_up A (34 + nt a) (nt b)) (46 + nt a) (nt c)) 4 0) 21 = A 21 := by simp only [va_up]; rw [if_neg (by decide), if_neg (by omega), if_neg (by omega)]
        have es5 : (va_up (va_up (va_up A (34 + nt a) (nt b)) (46 + nt a) (nt c)) 4 0) 5 = A 5 := by simp only [va_up]; rw [if_neg (by decide), if_neg (by omega), if_neg (by omega)]
        have es6 : (va_up (va_up (va_up A (34 + nt a) (nt b)) (46 + nt a) (nt c)) 4 0) 6 = A 6 := by simp only [va_up]; rw [if_neg (by decide), if_neg (by omega), if_neg (by omega)]
        have es7 : (va_up (va_up (va_up A (34 + nt a) (nt b)) (46 + nt a) (nt c)) 4 0) 7 = A 7 := by simp only [va_up]; rw [if_neg (by decide), if_neg (by omega), if_neg (by omega)]
        have es8 : (va_up (va_up (va_up A (34 + nt a) (nt b)) (46 + nt a) (nt c)) 4 0) 8 = A 8 := by simp only [va_up]; rw [if_neg (by decide), if_neg (by omega), if_neg (by omega)]
        have es0 : (va_up (va_up (va_up A (34 + nt a) (nt b)) (46 + nt a) (nt c)) 4 0) 0 = A 0 := by simp only [va_up]; rw [if_neg (by decide), if_neg (by omega), if_neg (by omega)]
        have es1 : (va_up (va_up (va_up A (34 + nt a) (nt b)) (46 + nt a) (nt c)) 4 0) 1 = A 1 := by simp only [va_up]; rw [if_neg (by decide), if_neg (by omega), if_neg (by omega)]
        have es2 : (va_up (va_up (va_up A (34 + nt a) (nt b)) (46 + nt a) (nt c)) 4 0) 2 = A 2 := by simp only [va_up]; rw [if_neg (by decide), if_neg (by omega), if_neg (by omega)]
        have es3 : (va_up (va_up (va_up A (34 + nt a) (nt b)) (46 + nt a) (nt c)) 4 0) 3 = A 3 := by simp only [va_up]; rw [if_neg (by decide), if_neg (by omega), if_neg (by omega)]
        have es4 : (va_up (va_up (va_up A (34 + nt a) (nt b)) (46 + nt a) (nt c)) 4 0) 4 = 0 := rfl
        have eo : ∀ j, j < 34 ∨ 58 ≤ j → j ≠ 4 → (va_up (va_up (va_up A (34 + nt a) (nt b)) (46 + nt a) (nt c)) 4 0) j = A j := fun j h1 h2 => by simp only [va_up]; rw [if_neg h2, if_neg (by omega), if_neg (by omega)]
        exact hE.1 _ _ _ _ _ _ _ rfl rfl dX8_horse_72 (Nat.le_refl _) (Nat.le_refl _) (⟨(va_up K (nt a) (nt b)), (va_up P (nt a) (nt c)), kd, am, st, rg, Ro, Sn, Nt, Mk, congrArg (fun z => some (Value.int z)) ((zI_nat _).symm.trans (congrArg zI (by simp only [z_horse, if_pos hP0]))), by rw [hAo, hRo] <;> first | rfl | (simp only [es21, es5, es6, es7, es8, es0, es1, es2, es3, es4]), by rw [hAo]; exact ⟨rR_of (rR_horse hR (by omega) w2 w6) (fun j hj => by simp only [va_up]; rw [if_neg (by omega)]) (by simp only [va_up]; rw [if_neg (by omega), if_neg (by omega)]; exact w6) (by simp only [va_up]; rw [if_neg (by omega), if_neg (by omega)]; exact w2), rX_p hX (rP_0 rfl) (fun j hj => eo j (by omega) (by omega)) ⟨g1, g2, g3⟩⟩⟩)
      · skip
        refine j_aload_n hJ (q := 28) dX8_horse_27 rfl 0 rfl rfl ?_
        refine j_vW hJ (q := 31) (rest := []) (As := []) (wr := [(u 0, .inr (4, [.ref (s 0), .ref (s 1), .ref (s 3), .ref (s 5), .ref (s 7)])), cO (s 0) q (A 21) (A 5) (A 6) (A 7) (A 8) (A 0), (q 0, ia Z 12 (ni K)), (q 1, ia Z 12 (ni P)), (q 2, ia Z 6 (ni kd)), (q 3, ia Z 6 (ni am)), (q 4, ia Z 6 (ni st)), (q 5, ia Z 6 (ni rg)), (s 1, .inr (1, [.int (nI (A 4)), .ref (s 2)])), (s 2, ia Z 128 (ni Ro)), (s 3, .inr (3, [.int (nI (A 1)), .int (nI 4), .int (nI 5), .ref (s 4)])), (s 4, ia Z 30 (ni Sn)), (s 5, .inr (3, [.int (nI (A 2)), .int (nI 5), .int (nI 6), .ref (s 6)])), (s 6, ia Z 30 (ni Nt)), (s 7, .inr (3, [.int (nI (A 3)), .int (nI 5), .int (nI 6), .ref (s 8)])), (s 8, ia Z 30 (ni Mk))]) jl_X8_62 (c_X8_bad Z h u ab be Rf ) 0 rfl rfl dX8_horse_28 rfl (by decide) (Nat.le_of_ble_eq_true rfl) [0] [1, 2, 3, 4, 5, 6, 7, 8, 9, 10, 11, 12, 13, 14, 15, 16] rfl rfl rfl rfl (by decide) rfl (fun rv wv hp => ?_)
        obtain ⟨rfl, rfl⟩ := hp
        refine j_world hJ (ws' := [xO h u ab be ((bmp Rf 0) 0) ((bmp Rf 0) 1) ((bmp Rf 0) 2), (u 0, .inr (4, [.ref (s 0), .ref (s 1), .ref (s 3), .ref (s 5), .ref (s 7)])), cO (s 0) q (A 21) (A 5) (A 6) (A 7) (A 8) (A 0), (q 0, ia Z 12 (ni K)), (q 1, ia Z 12 (ni P)), (q 2, ia Z 6 (ni kd)), (q 3, ia Z 6 (ni am)), (q 4, ia Z 6 (ni st)), (q 5, ia Z 6 (ni rg)), (s 1, .inr (1, [.int (nI (A 4)), .ref (s 2)])), (s 2, ia Z 128 (ni Ro)), (s 3, .inr (3, [.int (nI (A 1)), .int (nI 4), .int (nI 5), .ref (s 4)])), (s 4, ia Z 30 (ni Sn)), (s 5, .inr (3, [.int (nI (A 2)), .int (nI 5), .int (nI 6), .ref (s 6)])), (s 6, ia Z 30 (ni Nt)), (s 7, .inr (3, [.int (nI (A 3)), .int (nI 5), .int (nI 6), .ref (s 8)])), (s 8, ia Z 30 (ni Mk))]) [16, 0, 1, 2, 3, 4, 5, 6, 7, 8, 9, 10, 11, 12, 13, 14, 15] rfl rfl ?_
        show J 31 [(0, .ref h), (1, .int a), (2, .int b), (3, .int c)] [.int (zI (-2))] [xO h u ab be ((bmp Rf 0) 0) ((bmp Rf 0) 1) ((bmp Rf 0) 2), (u 0, .inr (4, [.ref (s 0), .ref (s 1), .ref (s 3), .ref (s 5), .ref (s 7)])), cO (s 0) q (A 21) (A 5) (A 6) (A 7) (A 8) (A 0), (q 0, ia Z 12 (ni K)), (q 1, ia Z 12 (ni P)), (q 2, ia Z 6 (ni kd)), (q 3, ia Z 6 (ni am)), (q 4, ia Z 6 (ni st)), (q 5, ia Z 6 (ni rg)), (s 1, .inr (1, [.int (nI (A 4)), .ref (s 2)])), (s 2, ia Z 128 (ni Ro)), (s 3, .inr (3, [.int (nI (A 1)), .int (nI 4), .int (nI 5), .ref (s 4)])), (s 4, ia Z 30 (ni Sn)), (s 5, .inr (3, [.int (nI (A 2)), .int (nI 5), .int (nI 6), .ref (s 6)])), (s 6, ia Z 30 (ni Nt)), (s 7, .inr (3, [.int (nI (A 3)), .int (nI 5), .int (nI 6), .ref (s 8)])), (s 8, ia Z 30 (ni Mk))] 0 0
        have hP0 : ¬ (isS A a ∧ rgI 0 5 b ∧ rgI 0 7 c) := by simp only [rgI, isS, isR, pNote, pMark]; omega
        have hAo : (a_horse A a b c) = A := by simp only [a_horse, if_neg hP0]
        have hRo : (if isS A a ∧ rgI 0 5 b ∧ rgI 0 7 c then Rf else bmp Rf 0) = bmp Rf 0 := by simp only [if_neg hP0]
        exact hE.1 _ _ _ _ _ _ _ rfl rfl dX8_horse_31 (Nat.le_refl _) (Nat.le_refl _) (⟨K, P, kd, am, st, rg, Ro, Sn, Nt, Mk, congrArg (fun z => some (Value.int (zI z))) (by simp only [z_horse, if_neg hP0]), by rw [hAo, hRo] <;> first | rfl | (skip), by rw [hAo]; exact hA⟩)
