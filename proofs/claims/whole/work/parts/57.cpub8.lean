set_option maxHeartbeats 4000000 in
set_option maxRecDepth 100000 in
theorem c_X4_turnBackZ (Z : jZ) (h : Nat) (q : Nat → Nat) (n : Nat) (an : Nat) (sp : Nat) (ri : Nat) (ti : Nat) (rd : Nat) (K : Nat → Nat) (P : Nat → Nat) (kd : Nat → Nat) (am : Nat → Nat) (st : Nat → Nat) (rg : Nat → Nat) (a : Nat) (h1 : 0 < ti) : CT Z yX4_turnBack cX4_turnBack 2 (none) 1 0 0 [.ref h, .int (nI a)] [cO h q n an sp ri ti rd, (q 0, ia Z 12 (ni K)), (q 1, ia Z 12 (ni P)), (q 2, ia Z 6 (ni kd)), (q 3, ia Z 6 (ni am)), (q 4, ia Z 6 (ni st)), (q 5, ia Z 6 (ni rg))] (fun rr ww => rr = none ∧ ww = [cO h q n a sp ri (ti - 1) rd, (q 0, ia Z 12 (ni K)), (q 1, ia Z 12 (ni P)), (q 2, ia Z 6 (ni kd)), (q 3, ia Z 6 (ni am)), (q 4, ia Z 6 (ni st)), (q 5, ia Z 6 (ni rg))]) := by
  refine CT.of RX4 false rfl (fun h => by cases h) (by decide +kernel) (Nat.le_of_ble_eq_true rfl) ?_
  intro J hJ hE
  show J 0 [(0, .ref h), (1, .int (nI a))] [] [cO h q n an sp ri ti rd, (q 0, ia Z 12 (ni K)), (q 1, ia Z 12 (ni P)), (q 2, ia Z 6 (ni kd)), (q 3, ia Z 6 (ni am)), (q 4, ia Z 6 (ni st)), (q 5, ia Z 6 (ni rg))] 0 0
  refine j_aload_n hJ (q := 1) dX4_turnBack_0 rfl 0 rfl rfl ?_
  refine j_dup hJ (q := 2) dX4_turnBack_1 rfl rfl ?_
  refine j_get hJ (q := 5) jf_X4_47 dX4_turnBack_2 0 rfl rfl rfl ?_
  refine j_iconst hJ (q := 6) dX4_turnBack_5 rfl ki_1 ?_
  refine j_isub hJ (q := 7) dX4_turnBack_6 rfl (pk_sub (by omega)) ?_
  refine j_put hJ (q := 10) (ws' := [cO h q n an sp ri (ti - 1) rd, (q 0, ia Z 12 (ni K)), (q 1, ia Z 12 (ni P)), (q 2, ia Z 6 (ni kd)), (q 3, ia Z 6 (ni am)), (q 4, ia Z 6 (ni st)), (q 5, ia Z 6 (ni rg))]) jp_X4_47 dX4_turnBack_7 0 rfl rfl rfl (Nat.le_of_ble_eq_true rfl) rfl rfl ?_
  refine j_aload_n hJ (q := 11) dX4_turnBack_10 rfl 0 rfl rfl ?_
  refine j_iload_n hJ (q := 12) dX4_turnBack_11 rfl 1 rfl rfl ?_
  refine j_put hJ (q := 15) (ws' := [cO h q n a sp ri (ti - 1) rd, (q 0, ia Z 12 (ni K)), (q 1, ia Z 12 (ni P)), (q 2, ia Z 6 (ni kd)), (q 3, ia Z 6 (ni am)), (q 4, ia Z 6 (ni st)), (q 5, ia Z 6 (ni rg))]) jp_X4_38 dX4_turnBack_12 0 rfl rfl rfl (Nat.le_of_ble_eq_true rfl) rfl rfl ?_
  exact hE.2.2 _ _ _ _ _ rfl dX4_turnBack_15 (Nat.le_refl _) (Nat.le_refl _) (⟨rfl, rfl⟩)

set_option maxHeartbeats 4000000 in
set_option maxRecDepth 100000 in
theorem c_X4_giveBackZ (Z : jZ) (h : Nat) (q : Nat → Nat) (n : Nat) (an : Nat) (sp : Nat) (ri : Nat) (ti : Nat) (rd : Nat) (K : Nat → Nat) (P : Nat → Nat) (kd : Nat → Nat) (am : Nat → Nat) (st : Nat → Nat) (rg : Nat → Nat) (i : Nat) (a : Nat) (b : Nat) (h1 : i < 6) : CT Z yX4_giveBack cX4_giveBack 4 (none) 1 0 0 [.ref h, .int (nI i), .int (nI a), .int (nI b)] [cO h q n an sp ri ti rd, (q 0, ia Z 12 (ni K)), (q 1, ia Z 12 (ni P)), (q 2, ia Z 6 (ni kd)), (q 3, ia Z 6 (ni am)), (q 4, ia Z 6 (ni st)), (q 5, ia Z 6 (ni rg))] (fun rr ww => rr = none ∧ ww = [cO h q n an sp b ti rd, (q 0, ia Z 12 (ni K)), (q 1, ia Z 12 (ni P)), (q 2, ia Z 6 (ni kd)), (q 3, ia Z 6 (ni am)), (q 4, ia Z 6 (ni st)), (q 5, ia Z 6 (ni (va_up rg i a)))]) := by
  refine CT.of RX4 false rfl (fun h => by cases h) (by decide +kernel) (Nat.le_of_ble_eq_true rfl) ?_
  intro J hJ hE
  show J 0 [(0, .ref h), (1, .int (nI i)), (2, .int (nI a)), (3, .int (nI b))] [] [cO h q n an sp ri ti rd, (q 0, ia Z 12 (ni K)), (q 1, ia Z 12 (ni P)), (q 2, ia Z 6 (ni kd)), (q 3, ia Z 6 (ni am)), (q 4, ia Z 6 (ni st)), (q 5, ia Z 6 (ni rg))] 0 0
  refine j_aload_n hJ (q := 1) dX4_giveBack_0 rfl 0 rfl rfl ?_
  refine j_get hJ (q := 4) jf_X4_27 dX4_giveBack_1 0 rfl rfl rfl ?_
  refine j_iload_n hJ (q := 5) dX4_giveBack_4 rfl 1 rfl rfl ?_
  refine j_iload_n hJ (q := 6) dX4_giveBack_5 rfl 2 rfl rfl ?_
  refine j_iastN hJ (q := 7) (ws' := [cO h q n an sp ri ti rd, (q 0, ia Z 12 (ni K)), (q 1, ia Z 12 (ni P)), (q 2, ia Z 6 (ni kd)), (q 3, ia Z 6 (ni am)), (q 4, ia Z 6 (ni st)), (q 5, ia Z 6 (ni (va_up rg i a)))]) dX4_giveBack_6 6 rfl (by omega) (by decide) (ni_up _ _ _) rfl rfl ?_
  refine j_aload_n hJ (q := 8) dX4_giveBack_7 rfl 0 rfl rfl ?_
  refine j_iload_n hJ (q := 9) dX4_giveBack_8 rfl 3 rfl rfl ?_
  refine j_put hJ (q := 12) (ws' := [cO h q n an sp b ti rd, (q 0, ia Z 12 (ni K)), (q 1, ia Z 12 (ni P)), (q 2, ia Z 6 (ni kd)), (q 3, ia Z 6 (ni am)), (q 4, ia Z 6 (ni st)), (q 5, ia Z 6 (ni (va_up rg i a)))]) jp_X4_44 dX4_giveBack_9 0 rfl rfl rfl (Nat.le_of_ble_eq_true rfl) rfl rfl ?_
  exact hE.2.2 _ _ _ _ _ rfl dX4_giveBack_12 (Nat.le_refl _) (Nat.le_refl _) (⟨rfl, rfl⟩)

set_option maxHeartbeats 4000000 in
set_option maxRecDepth 100000 in
theorem c_X2_pull0 (Z : jZ) (hl : Nat) (w : Nat → Nat) (mo : Int) (bs : Int) (i : Nat) (m : Nat) (M : Nat → Nat) (R : Nat → Nat) (h : Nat) (q : Nat → Nat) (B : Nat → Nat) (sp : Nat) (K : Nat → Nat) (P : Nat → Nat) (kd : Nat → Nat) (am : Nat → Nat) (st : Nat → Nat) (rg : Nat → Nat) (dp : Nat) (t : Nat) (p : Nat) (f : Nat → Int) (hw : wf B) (hR : rR B K P kd am st rg) (hm : m ≤ 6) (hdp : dp + 0 = m) (ht : t ≤ dp) (hmo : -1 ≤ mo ∧ mo ≤ 6) (hi : i < 6) (hB8 : B 8 + 0 < 90000) (hf : hfL f i 0 p t B) (hbs : bst f (p * 4 ^ 0) = (bs, mo)) (hrow : rowL m bs M) (hpre : preL p dp R) : CT Z yX2_pull cX2_pull 9 (none) 5 0 0 [.ref hl, .ref h, .int (nI dp), .int (nI t)] [(hl, .inr (0, [.int (zI mo), .ref (w 0), .ref (w 1), .int (nI i), .int (nI m)])), (w 0, ia Z 6 (ni M)), (w 1, ia Z 6 (ni R)), cO h q (B 21) (B 5) sp (B 7) (B 8) (B 0), (q 0, ia Z 12 (ni K)), (q 1, ia Z 12 (ni P)), (q 2, ia Z 6 (ni kd)), (q 3, ia Z 6 (ni am)), (q 4, ia Z 6 (ni st)), (q 5, ia Z 6 (ni rg))] (fun rr ww => ∃ moz : Int, ∃ bsz : Int, ∃ Mz : Nat → Nat, ∃ Rz : Nat → Nat, ∃ spz : Nat, ∃ gz : Nat → Nat, rr = none ∧ ww = [(hl, .inr (0, [.int (zI moz), .ref (w 0), .ref (w 1), .int (nI i), .int (nI m)])), (w 0, ia Z 6 (ni Mz)), (w 1, ia Z 6 (ni Rz)), cO h q (B 21) (B 5) spz (B 7) (B 8) (B 0), (q 0, ia Z 12 (ni K)), (q 1, ia Z 12 (ni P)), (q 2, ia Z 6 (ni kd)), (q 3, ia Z 6 (ni am)), (q 4, ia Z 6 (ni st)), (q 5, ia Z 6 (ni gz))] ∧ (bst f ((p + 1) * 4 ^ 0) = (bsz, moz)) ∧ (rowL m bsz Mz) ∧ (∀ k, k < dp → Rz k = R k) ∧ (rR B K P kd am st gz) ∧ (-1 ≤ moz ∧ moz ≤ 6)) := by
  refine CT.of RX2 false rfl (fun h => by cases h) (by decide +kernel) (Nat.le_of_ble_eq_true rfl) ?_
  intro J hJ hE
  show J 0 [(0, .ref hl), (1, .ref h), (2, .int (nI dp)), (3, .int (nI t))] [] [(hl, .inr (0, [.int (zI mo), .ref (w 0), .ref (w 1), .int (nI i), .int (nI m)])), (w 0, ia Z 6 (ni M)), (w 1, ia Z 6 (ni R)), cO h q (B 21) (B 5) sp (B 7) (B 8) (B 0), (q 0, ia Z 12 (ni K)), (q 1, ia Z 12 (ni P)), (q 2, ia Z 6 (ni kd)), (q 3, ia Z 6 (ni am)), (q 4, ia Z 6 (ni st)), (q 5, ia Z 6 (ni rg))] 0 0
  obtain ⟨⟨w1, w2, w3, w4, w5, w6⟩, hb, wr, wh, wd⟩ := id hw
  have hb8 := hb 8
  have hb5 := hb 5
  have hb7 := hb 7
  refine j_iload_n hJ (q := 1) dX2_pull_0 rfl 3 rfl rfl ?_
  refine j_aload_n hJ (q := 2) dX2_pull_1 rfl 0 rfl rfl ?_
  refine j_get hJ (q := 5) jf_X2_31 dX2_pull_2 0 rfl rfl rfl ?_
  refine j_iadd hJ (q := 6) dX2_pull_5 rfl (nI_add _ _) ?_
  refine j_iload_n hJ (q := 7) dX2_pull_6 rfl 2 rfl rfl ?_
  refine j_isub hJ (q := 8) dX2_pull_7 rfl (pk_sub (by omega)) ?_
  refine j_aload_n hJ (q := 9) dX2_pull_8 rfl 0 rfl rfl ?_
  refine j_get hJ (q := 12) jf_X2_18 dX2_pull_9 0 rfl rfl rfl ?_
  refine jz_icmp_gt hJ (q := 15) (tgt := 16) dX2_pull_12 (by decide) rfl (zI_nat (t + m - dp)).symm rfl (by omega) (by omega) (fun c1 => ?_) (fun c1 => ?_)
  · skip
    refine j_iload_n hJ (q := 17) dX2_pull_16 rfl 2 rfl rfl ?_
    refine j_aload_n hJ (q := 18) dX2_pull_17 rfl 0 rfl rfl ?_
    refine j_get hJ (q := 21) jf_X2_31 dX2_pull_18 0 rfl rfl rfl ?_
    refine jn_icmp_lt hJ (q := 24) (tgt := 45) dX2_pull_21 (by decide) rfl (by omega) (by omega) (fun c2 => ?_) (fun c2 => ?_)
    · skip
      exfalso; omega
    · skip
      refine j_aload_n hJ (q := 25) dX2_pull_24 rfl 0 rfl rfl ?_
      refine j_iload_n hJ (q := 26) dX2_pull_25 rfl 3 rfl rfl ?_
      refine j_put hJ (q := 29) (ws' := [(hl, .inr (0, [.int (nI t), .ref (w 0), .ref (w 1), .int (nI i), .int (nI m)])), (w 0, ia Z 6 (ni M)), (w 1, ia Z 6 (ni R)), cO h q (B 21) (B 5) sp (B 7) (B 8) (B 0), (q 0, ia Z 12 (ni K)), (q 1, ia Z 12 (ni P)), (q 2, ia Z 6 (ni kd)), (q 3, ia Z 6 (ni am)), (q 4, ia Z 6 (ni st)), (q 5, ia Z 6 (ni rg))]) jp_X2_18 dX2_pull_26 0 rfl rfl rfl (Nat.le_of_ble_eq_true rfl) rfl rfl ?_
      refine j_aload_n hJ (q := 30) dX2_pull_29 rfl 0 rfl rfl ?_
      refine j_get hJ (q := 33) jf_X2_15 dX2_pull_30 0 rfl rfl rfl ?_
      refine j_iconst hJ (q := 34) dX2_pull_33 rfl ki_0 ?_
      refine j_aload_n hJ (q := 35) dX2_pull_34 rfl 0 rfl rfl ?_
      refine j_get hJ (q := 38) jf_X2_9 dX2_pull_35 0 rfl rfl rfl ?_
      refine j_iconst hJ (q := 39) dX2_pull_38 rfl ki_0 ?_
      refine j_bipush hJ (q := 41) dX2_pull_39 rfl kb_6 ?_
      refine j_copyN hJ (q := 44) (n := 6) (sp := 0) (dp := 0) (f := R) (g := M) (g' := R) (ws' := [(hl, .inr (0, [.int (nI t), .ref (w 0), .ref (w 1), .int (nI i), .int (nI m)])), (w 0, ia Z 6 (ni R)), (w 1, ia Z 6 (ni R)), cO h q (B 21) (B 5) sp (B 7) (B 8) (B 0), (q 0, ia Z 12 (ni K)), (q 1, ia Z 12 (ni P)), (q 2, ia Z 6 (ni kd)), (q 3, ia Z 6 (ni am)), (q 4, ia Z 6 (ni st)), (q 5, ia Z 6 (ni rg))]) tm_574 dX2_pull_41 2 1 rfl rfl (by decide) (by decide) (by decide) (by decide) (by decide) (Nat.le_of_ble_eq_true rfl) (fun j hj => cpy_all hj) rfl rfl ?_
      exact hE.2.2 _ _ _ _ _ rfl dX2_pull_44 (Nat.le_refl _) (Nat.le_refl _) (⟨(t : Int), (p : Int), R, R, sp, rg, rfl, by rw [zI_nat] <;> rfl, hfL_leaf hf hbs (by omega), by have := hdp; rw [Nat.add_zero] at this; subst this; exact rowL_leaf hpre, fun k hk => rfl, hR, by omega⟩)
  · skip
    exact hE.2.2 _ _ _ _ _ rfl dX2_pull_15 (Nat.le_refl _) (Nat.le_refl _) (⟨mo, bs, M, R, sp, rg, rfl, rfl, hfL_prune hf hbs (by omega), hrow, fun k hk => rfl, hR, hmo⟩)

set_option maxHeartbeats 4000000 in
set_option maxRecDepth 100000 in
theorem c_X2_pullS (Z : jZ) (n : Nat) (hl : Nat) (w : Nat → Nat) (mo : Int) (bs : Int) (i : Nat) (m : Nat) (M : Nat → Nat) (R : Nat → Nat) (h : Nat) (q : Nat → Nat) (B : Nat → Nat) (sp : Nat) (K : Nat → Nat) (P : Nat → Nat) (kd : Nat → Nat) (am : Nat → Nat) (st : Nat → Nat) (rg : Nat → Nat) (dp : Nat) (t : Nat) (p : Nat) (f : Nat → Int) (ih : ∀ (Z : jZ) (hl : Nat) (w : Nat → Nat) (mo : Int) (bs : Int) (i : Nat) (m : Nat) (M : Nat → Nat) (R : Nat → Nat) (h : Nat) (q : Nat → Nat) (B : Nat → Nat) (sp : Nat) (K : Nat → Nat) (P : Nat → Nat) (kd : Nat → Nat) (am : Nat → Nat) (st : Nat → Nat) (rg : Nat → Nat) (dp : Nat) (t : Nat) (p : Nat) (f : Nat → Int) (hw : wf B) (hR : rR B K P kd am st rg) (hm : m ≤ 6) (hdp : dp + n = m) (ht : t ≤ dp) (hmo : -1 ≤ mo ∧ mo ≤ 6) (hi : i < 6) (hB8 : B 8 + n < 90000) (hf : hfL f i n p t B) (hbs : bst f (p * 4 ^ n) = (bs, mo)) (hrow : rowL m bs M) (hpre : preL p dp R), CT Z yX2_pull cX2_pull 9 (none) (5 + n) 0 0 [.ref hl, .ref h, .int (nI dp), .int (nI t)] [(hl, .inr (0, [.int (zI mo), .ref (w 0), .ref (w 1), .int (nI i), .int (nI m)])), (w 0, ia Z 6 (ni M)), (w 1, ia Z 6 (ni R)), cO h q (B 21) (B 5) sp (B 7) (B 8) (B 0), (q 0, ia Z 12 (ni K)), (q 1, ia Z 12 (ni P)), (q 2, ia Z 6 (ni kd)), (q 3, ia Z 6 (ni am)), (q 4, ia Z 6 (ni st)), (q 5, ia Z 6 (ni rg))] (fun rr ww => ∃ moz : Int, ∃ bsz : Int, ∃ Mz : Nat → Nat, ∃ Rz : Nat → Nat, ∃ spz : Nat, ∃ gz : Nat → Nat, rr = none ∧ ww = [(hl, .inr (0, [.int (zI moz), .ref (w 0), .ref (w 1), .int (nI i), .int (nI m)])), (w 0, ia Z 6 (ni Mz)), (w 1, ia Z 6 (ni Rz)), cO h q (B 21) (B 5) spz (B 7) (B 8) (B 0), (q 0, ia Z 12 (ni K)), (q 1, ia Z 12 (ni P)), (q 2, ia Z 6 (ni kd)), (q 3, ia Z 6 (ni am)), (q 4, ia Z 6 (ni st)), (q 5, ia Z 6 (ni gz))] ∧ (bst f ((p + 1) * 4 ^ n) = (bsz, moz)) ∧ (rowL m bsz Mz) ∧ (∀ k, k < dp → Rz k = R k) ∧ (rR B K P kd am st gz) ∧ (-1 ≤ moz ∧ moz ≤ 6))) (hw : wf B) (hR : rR B K P kd am st rg) (hm : m ≤ 6) (hdp : dp + (n + 1) = m) (ht : t ≤ dp) (hmo : -1 ≤ mo ∧ mo ≤ 6) (hi : i < 6) (hB8 : B 8 + (n + 1) < 90000) (hf : hfL f i (n + 1) p t B) (hbs : bst f (p * 4 ^ (n + 1)) = (bs, mo)) (hrow : rowL m bs M) (hpre : preL p dp R) : CT Z yX2_pull cX2_pull 9 (none) (5 + (n + 1)) 0 0 [.ref hl, .ref h, .int (nI dp), .int (nI t)] [(hl, .inr (0, [.int (zI mo), .ref (w 0), .ref (w 1), .int (nI i), .int (nI m)])), (w 0, ia Z 6 (ni M)), (w 1, ia Z 6 (ni R)), cO h q (B 21) (B 5) sp (B 7) (B 8) (B 0), (q 0, ia Z 12 (ni K)), (q 1, ia Z 12 (ni P)), (q 2, ia Z 6 (ni kd)), (q 3, ia Z 6 (ni am)), (q 4, ia Z 6 (ni st)), (q 5, ia Z 6 (ni rg))] (fun rr ww => ∃ moz : Int, ∃ bsz : Int, ∃ Mz : Nat → Nat, ∃ Rz : Nat → Nat, ∃ spz : Nat, ∃ gz : Nat → Nat, rr = none ∧ ww = [(hl, .inr (0, [.int (zI moz), .ref (w 0), .ref (w 1), .int (nI i), .int (nI m)])), (w 0, ia Z 6 (ni Mz)), (w 1, ia Z 6 (ni Rz)), cO h q (B 21) (B 5) spz (B 7) (B 8) (B 0), (q 0, ia Z 12 (ni K)), (q 1, ia Z 12 (ni P)), (q 2, ia Z 6 (ni kd)), (q 3, ia Z 6 (ni am)), (q 4, ia Z 6 (ni st)), (q 5, ia Z 6 (ni gz))] ∧ (bst f ((p + 1) * 4 ^ (n + 1)) = (bsz, moz)) ∧ (rowL m bsz Mz) ∧ (∀ k, k < dp → Rz k = R k) ∧ (rR B K P kd am st gz) ∧ (-1 ≤ moz ∧ moz ≤ 6)) := by
  refine CT.of RX2 false rfl (fun h => by cases h) (by decide +kernel) (Nat.le_of_ble_eq_true rfl) ?_
  intro J hJ hE
  show J 0 [(0, .ref hl), (1, .ref h), (2, .int (nI dp)), (3, .int (nI t))] [] [(hl, .inr (0, [.int (zI mo), .ref (w 0), .ref (w 1), .int (nI i), .int (nI m)])), (w 0, ia Z 6 (ni M)), (w 1, ia Z 6 (ni R)), cO h q (B 21) (B 5) sp (B 7) (B 8) (B 0), (q 0, ia Z 12 (ni K)), (q 1, ia Z 12 (ni P)), (q 2, ia Z 6 (ni kd)), (q 3, ia Z 6 (ni am)), (q 4, ia Z 6 (ni st)), (q 5, ia Z 6 (ni rg))] 0 0
  obtain ⟨⟨w1, w2, w3, w4, w5, w6⟩, hb, wr, wh, wd⟩ := id hw
  have hb8 := hb 8
  have hb5 := hb 5
  have hb7 := hb 7
  refine j_iload_n hJ (q := 1) dX2_pull_0 rfl 3 rfl rfl ?_
  refine j_aload_n hJ (q := 2) dX2_pull_1 rfl 0 rfl rfl ?_
  refine j_get hJ (q := 5) jf_X2_31 dX2_pull_2 0 rfl rfl rfl ?_
  refine j_iadd hJ (q := 6) dX2_pull_5 rfl (nI_add _ _) ?_
  refine j_iload_n hJ (q := 7) dX2_pull_6 rfl 2 rfl rfl ?_
  refine j_isub hJ (q := 8) dX2_pull_7 rfl (pk_sub (by omega)) ?_
  refine j_aload_n hJ (q := 9) dX2_pull_8 rfl 0 rfl rfl ?_
  refine j_get hJ (q := 12) jf_X2_18 dX2_pull_9 0 rfl rfl rfl ?_
  refine jz_icmp_gt hJ (q := 15) (tgt := 16) dX2_pull_12 (by decide) rfl (zI_nat (t + m - dp)).symm rfl (by omega) (by omega) (fun c1 => ?_) (fun c1 => ?_)
  · skip
    refine j_iload_n hJ (q := 17) dX2_pull_16 rfl 2 rfl rfl ?_
    refine j_aload_n hJ (q := 18) dX2_pull_17 rfl 0 rfl rfl ?_
    refine j_get hJ (q := 21) jf_X2_31 dX2_pull_18 0 rfl rfl rfl ?_
    refine jn_icmp_lt hJ (q := 24) (tgt := 45) dX2_pull_21 (by decide) rfl (by omega) (by omega) (fun c2 => ?_) (fun c2 => ?_)
    · skip
      refine j_aload_n hJ (q := 46) dX2_pull_45 rfl 1 rfl rfl ?_
      refine j_get hJ (q := 49) jf_X2_44 dX2_pull_46 3 rfl rfl rfl ?_
      refine j_istore hJ (q := 51) (lvs' := [(4, .int (nI (B 5))), (0, .ref hl), (1, .ref h), (2, .int (nI dp)), (3, .int (nI t))]) dX2_pull_49 (by decide) rfl rfl ?_
      refine j_aload_n hJ (q := 52) dX2_pull_51 rfl 2 rfl rfl ?_
      refine j_get hJ (q := 55) jf_X2_49 dX2_pull_52 3 rfl rfl rfl ?_
      refine j_istore hJ (q := 57) (lvs' := [(5, .int (nI (B 7))), (4, .int (nI (B 5))), (0, .ref hl), (1, .ref h), (2, .int (nI dp)), (3, .int (nI t))]) dX2_pull_55 (by decide) rfl rfl ?_
      refine j_iconst hJ (q := 58) dX2_pull_57 rfl ki_0 ?_
      refine j_istore hJ (q := 60) (lvs' := [(6, .int (nI 0)), (5, .int (nI (B 7))), (4, .int (nI (B 5))), (0, .ref hl), (1, .ref h), (2, .int (nI dp)), (3, .int (nI t))]) dX2_pull_58 (by decide) rfl rfl ?_
      have L_60 : ∀ (fu_60 : Nat) (mo1 : Int) (bs1 : Int) (M1 : Nat → Nat) (R1 : Nat → Nat) (s1 : Nat) (g1 : Nat → Nat) (v : Nat), 4 - v < fu_60 → (v ≤ 4) → (-1 ≤ mo1 ∧ mo1 ≤ 6) → (bst f ((p * 4 + v) * 4 ^ n) = (bs1, mo1)) → (rowL m bs1 M1) → (∀ k, k < dp → R1 k = R k) → (rR B K P kd am st g1) → J 60 [(0, .ref hl), (1, .ref h), (2, .int (nI dp)), (3, .int (nI t)), (4, .int (nI (B 5))), (5, .int (nI (B 7))), (6, .int (nI v))] [] [(hl, .inr (0, [.int (zI mo1), .ref (w 0), .ref (w 1), .int (nI i), .int (nI m)])), (w 0, ia Z 6 (ni M1)), (w 1, ia Z 6 (ni R1)), cO h q (B 21) (B 5) s1 (B 7) (B 8) (B 0), (q 0, ia Z 12 (ni K)), (q 1, ia Z 12 (ni P)), (q 2, ia Z 6 (ni kd)), (q 3, ia Z 6 (ni am)), (q 4, ia Z 6 (ni st)), (q 5, ia Z 6 (ni g1))] 0 0 := by
        intro fu_60
        induction fu_60 with
        | zero => intro mo1 bs1 M1 R1 s1 g1 v hm; exact absurd hm (Nat.not_lt_zero _)
        | succ fu_60 ih_60 =>
          intro mo1 bs1 M1 R1 s1 g1 v hm_60 hv hmo1 hbs1 hrow1 hag1 hR1
          refine j_iload hJ (q := 62) dX2_pull_60 6 rfl rfl ?_
          refine j_iconst hJ (q := 63) dX2_pull_62 rfl ki_3 ?_
          refine jn_icmp_gt hJ (q := 66) (tgt := 169) dX2_pull_63 (by decide) rfl (by omega) (by omega) (fun c3 => ?_) (fun c3 => ?_)
          · skip
            exact hE.2.2 _ _ _ _ _ rfl dX2_pull_169 (Nat.le_refl _) (Nat.le_refl _) (⟨mo1, bs1, M1, R1, s1, g1, rfl, rfl, (p4b p n).symm ▸ ((show v = 4 by omega) ▸ hbs1), hrow1, hag1, hR1, hmo1⟩)
          · skip
            have hb1 : v < 4 := by omega
            refine j_aload_n hJ (q := 67) dX2_pull_66 rfl 0 rfl rfl ?_
            refine j_get hJ (q := 70) jf_X2_15 dX2_pull_67 0 rfl rfl rfl ?_
            refine j_iload_n hJ (q := 71) dX2_pull_70 rfl 2 rfl rfl ?_
            refine j_iload hJ (q := 73) dX2_pull_71 6 rfl rfl ?_
            refine j_iastN hJ (q := 74) (ws' := [(hl, .inr (0, [.int (zI mo1), .ref (w 0), .ref (w 1), .int (nI i), .int (nI m)])), (w 0, ia Z 6 (ni M1)), (w 1, ia Z 6 (ni (va_up R1 dp v))), cO h q (B 21) (B 5) s1 (B 7) (B 8) (B 0), (q 0, ia Z 12 (ni K)), (q 1, ia Z 12 (ni P)), (q 2, ia Z 6 (ni kd)), (q 3, ia Z 6 (ni am)), (q 4, ia Z 6 (ni st)), (q 5, ia Z 6 (ni g1))]) dX2_pull_73 2 rfl (by omega) (by decide) (ni_up _ _ _) rfl rfl ?_
            refine j_aload_n hJ (q := 75) dX2_pull_74 rfl 1 rfl rfl ?_
            refine j_iload hJ (q := 77) dX2_pull_75 6 rfl rfl ?_
            refine j_put hJ (q := 80) (ws' := [(hl, .inr (0, [.int (zI mo1), .ref (w 0), .ref (w 1), .int (nI i), .int (nI m)])), (w 0, ia Z 6 (ni M1)), (w 1, ia Z 6 (ni (va_up R1 dp v))), cO h q (B 21) (B 5) v (B 7) (B 8) (B 0), (q 0, ia Z 12 (ni K)), (q 1, ia Z 12 (ni P)), (q 2, ia Z 6 (ni kd)), (q 3, ia Z 6 (ni am)), (q 4, ia Z 6 (ni st)), (q 5, ia Z 6 (ni g1))]) jp_X2_52 dX2_pull_77 3 rfl rfl rfl (Nat.le_of_ble_eq_true rfl) rfl rfl ?_
            refine j_eqw (ws' := [(hl, .inr (0, [.int (zI mo1), .ref (w 0), .ref (w 1), .int (nI i), .int (nI m)])), (w 0, ia Z 6 (ni M1)), (w 1, ia Z 6 (ni (va_up R1 dp v))), cO h q ((va_up B 6 v) 21) ((va_up B 6 v) 5) ((va_up B 6 v) 6) ((va_up B 6 v) 7) ((va_up B 6 v) 8) ((va_up B 6 v) 0), (q 0, ia Z 12 (ni K)), (q 1, ia Z 12 (ni P)), (q 2, ia Z 6 (ni kd)), (q 3, ia Z 6 (ni am)), (q 4, ia Z 6 (ni st)), (q 5, ia Z 6 (ni g1))]) rfl ?_
            have hwC : wf (va_up B 6 v) := wf_speed hw (by omega)
            have hRC : rR (va_up B 6 v) K P kd am st g1 := rR_speed hR1 w6 w2
            have hwT : wf (tick1 (va_up B 6 v)) := wf_tick1 hwC (by show B 8 + 1 < 100000; omega)
            have hRT : rR (tick1 (va_up B 6 v)) K P kd am st g1 := rR_tick hRC w6 w2
            have hT8 : (tick1 (va_up B 6 v)) 8 = B 8 + 1 := rfl
            have hT0 : (tick1 (va_up B 6 v)) 0 = B 0 := rfl
            have hT21 : (tick1 (va_up B 6 v)) 21 = B 21 := rfl
            refine j_aload_n hJ (q := 81) dX2_pull_80 rfl 1 rfl rfl ?_
            refine j_vW hJ (q := 84) (rest := []) (As := []) (wr := [(hl, .inr (0, [.int (zI mo1), .ref (w 0), .ref (w 1), .int (nI i), .int (nI m)])), (w 0, ia Z 6 (ni M1)), (w 1, ia Z 6 (ni (va_up R1 dp v)))]) jl_X2_55 (c_X4_turn Z h q (va_up B 6 v) K P kd am st g1 hwC) 3 rfl rfl dX2_pull_81 rfl (by omega) (Nat.le_of_ble_eq_true rfl) [3, 4, 5, 6, 7, 8, 9] [0, 1, 2] rfl rfl rfl rfl (by decide) rfl (fun rv wv hp => ?_)
            obtain ⟨rfl, rfl⟩ := hp
            show J 84 [(0, .ref hl), (1, .ref h), (2, .int (nI dp)), (3, .int (nI t)), (4, .int (nI (B 5))), (5, .int (nI (B 7))), (6, .int (nI v))] [] [(hl, .inr (0, [.int (zI mo1), .ref (w 0), .ref (w 1), .int (nI i), .int (nI m)])), (w 0, ia Z 6 (ni M1)), (w 1, ia Z 6 (ni (va_up R1 dp v))), cO h q ((tick1 (va_up B 6 v)) 21) ((tick1 (va_up B 6 v)) 5) ((tick1 (va_up B 6 v)) 6) ((tick1 (va_up B 6 v)) 7) ((tick1 (va_up B 6 v)) 8) ((tick1 (va_up B 6 v)) 0), (q 0, ia Z 12 (ni K)), (q 1, ia Z 12 (ni P)), (q 2, ia Z 6 (ni kd)), (q 3, ia Z 6 (ni am)), (q 4, ia Z 6 (ni st)), (q 5, ia Z 6 (ni g1))] 0 0
            refine j_aload_n hJ (q := 85) dX2_pull_84 rfl 1 rfl rfl ?_
            refine j_vR hJ (q := 88) (rest := []) (As := []) jl_X2_58 (c_X4_whoReaches Z h q (tick1 (va_up B 6 v)) K P kd am st g1 hwT hRT) 3 rfl rfl dX2_pull_85 rfl (by omega) (Nat.le_of_ble_eq_true rfl) [3, 4, 5, 6, 7, 8, 9] rfl rfl (fun rv hp => ?_)
            obtain rfl := hp
            show J 88 [(0, .ref hl), (1, .ref h), (2, .int (nI dp)), (3, .int (nI t)), (4, .int (nI (B 5))), (5, .int (nI (B 7))), (6, .int (nI v))] [.int (oI (rchr (tick1 (va_up B 6 v))))] [(hl, .inr (0, [.int (zI mo1), .ref (w 0), .ref (w 1), .int (nI i), .int (nI m)])), (w 0, ia Z 6 (ni M1)), (w 1, ia Z 6 (ni (va_up R1 dp v))), cO h q ((tick1 (va_up B 6 v)) 21) ((tick1 (va_up B 6 v)) 5) ((tick1 (va_up B 6 v)) 6) ((tick1 (va_up B 6 v)) 7) ((tick1 (va_up B 6 v)) 8) ((tick1 (va_up B 6 v)) 0), (q 0, ia Z 12 (ni K)), (q 1, ia Z 12 (ni P)), (q 2, ia Z 6 (ni kd)), (q 3, ia Z 6 (ni am)), (q 4, ia Z 6 (ni st)), (q 5, ia Z 6 (ni g1))] 0 0
            refine j_caseo (fun o4 => ?_) (fun i5 o4 => ?_)
            · skip
              refine j_istore hJ (q := 90) (lvs' := [(7, .int (zI (-1))), (0, .ref hl), (1, .ref h), (2, .int (nI dp)), (3, .int (nI t)), (4, .int (nI (B 5))), (5, .int (nI (B 7))), (6, .int (nI v))]) dX2_pull_88 (by decide) rfl rfl ?_
              refine j_iload hJ (q := 92) dX2_pull_90 0 rfl rfl ?_
              refine j_iconst hJ (q := 93) dX2_pull_92 rfl ki_m1 ?_
              refine jz_icmp_ne hJ (q := 96) (tgt := 108) dX2_pull_93 (by decide) rfl rfl rfl (by omega) (by omega) (fun c6 => ?_) (fun c6 => ?_)
              · skip
                exfalso; omega
              · skip
                refine j_aload_n hJ (q := 97) dX2_pull_96 rfl 1 rfl rfl ?_
                refine j_aload_n hJ (q := 98) dX2_pull_97 rfl 2 rfl rfl ?_
                refine j_iload_n hJ (q := 99) dX2_pull_98 rfl 3 rfl rfl ?_
                refine j_iconst hJ (q := 100) dX2_pull_99 rfl ki_1 ?_
                refine j_iadd hJ (q := 101) dX2_pull_100 rfl (nI_add _ _) ?_
                refine j_iload_n hJ (q := 102) dX2_pull_101 rfl 4 rfl rfl ?_
                refine j_sW hJ (q := 105) (rest := []) (As := [.ref hl, .ref h, .int (nI (dp + 1)), .int (nI t)]) (wr := []) jl_X2_34 (ih Z hl w mo1 bs1 i m M1 (va_up R1 dp v) h q (tick1 (va_up B 6 v)) ((tick1 (va_up B 6 v)) 6) K P kd am st g1 (dp + 1) t (p * 4 + v) f hwT hRT hm (by omega) (by omega) hmo1 hi (by omega) (hfL_step hf (by omega) (by rw [goT_n (sl := false) rfl (Or.inr o4)]; rfl) (by rw [goT_n (sl := false) rfl (Or.inr o4)])) hbs1 hrow1 (preL_step hpre hag1 (by omega))) dX2_pull_102 rfl (by omega) (Nat.le_of_ble_eq_true rfl) [0, 1, 2, 3, 4, 5, 6, 7, 8, 9] [] rfl rfl rfl rfl (by decide) rfl (fun rv wv hp => ?_)
                obtain ⟨moz7, bsz8, Mz9, Rz10, spz11, gz12, rfl, rfl, f13, f14, f15, f16, f17⟩ := hp
                show J 105 [(7, .int (zI (-1))), (0, .ref hl), (1, .ref h), (2, .int (nI dp)), (3, .int (nI t)), (4, .int (nI (B 5))), (5, .int (nI (B 7))), (6, .int (nI v))] [] [(hl, .inr (0, [.int (zI moz7), .ref (w 0), .ref (w 1), .int (nI i), .int (nI m)])), (w 0, ia Z 6 (ni Mz9)), (w 1, ia Z 6 (ni Rz10)), cO h q ((tick1 (va_up B 6 v)) 21) ((tick1 (va_up B 6 v)) 5) spz11 ((tick1 (va_up B 6 v)) 7) ((tick1 (va_up B 6 v)) 8) ((tick1 (va_up B 6 v)) 0), (q 0, ia Z 12 (ni K)), (q 1, ia Z 12 (ni P)), (q 2, ia Z 6 (ni kd)), (q 3, ia Z 6 (ni am)), (q 4, ia Z 6 (ni st)), (q 5, ia Z 6 (ni gz12))] 0 0
                have hbst2 := f13
                have hrow2 := f14
                have hag2 := f15
                have hRz := f16
                have hmo2 := f17
                refine j_goto hJ (q := 157) dX2_pull_105 (by decide) ?_
                refine j_aload_n hJ (q := 158) dX2_pull_157 rfl 2 rfl rfl ?_
                refine j_iload hJ (q := 160) dX2_pull_158 5 rfl rfl ?_
                refine j_vW hJ (q := 163) (rest := []) (As := [.int (nI (B 5))]) (wr := [(hl, .inr (0, [.int (zI moz7), .ref (w 0), .ref (w 1), .int (nI i), .int (nI m)])), (w 0, ia Z 6 (ni Mz9)), (w 1, ia Z 6 (ni Rz10))]) jl_X2_73 (c_X4_turnBackZ Z h q ((tick1 (va_up B 6 v)) 21) ((tick1 (va_up B 6 v)) 5) spz11 ((tick1 (va_up B 6 v)) 7) ((tick1 (va_up B 6 v)) 8) ((tick1 (va_up B 6 v)) 0) K P kd am st gz12 (B 5) (by first | (rw [hT8]; omega) | (rw [takeR_8 _ (by omega)]; omega))) 3 rfl rfl dX2_pull_160 rfl (by omega) (Nat.le_of_ble_eq_true rfl) [3, 4, 5, 6, 7, 8, 9] [0, 1, 2] rfl rfl rfl rfl (by decide) rfl (fun rv wv hp => ?_)
                obtain ⟨rfl, rfl⟩ := hp
                show J 163 [(7, .int (zI (-1))), (0, .ref hl), (1, .ref h), (2, .int (nI dp)), (3, .int (nI t)), (4, .int (nI (B 5))), (5, .int (nI (B 7))), (6, .int (nI v))] [] [(hl, .inr (0, [.int (zI moz7), .ref (w 0), .ref (w 1), .int (nI i), .int (nI m)])), (w 0, ia Z 6 (ni Mz9)), (w 1, ia Z 6 (ni Rz10)), cO h q ((tick1 (va_up B 6 v)) 21) (B 5) spz11 ((tick1 (va_up B 6 v)) 7) (((tick1 (va_up B 6 v)) 8) - 1) ((tick1 (va_up B 6 v)) 0), (q 0, ia Z 12 (ni K)), (q 1, ia Z 12 (ni P)), (q 2, ia Z 6 (ni kd)), (q 3, ia Z 6 (ni am)), (q 4, ia Z 6 (ni st)), (q 5, ia Z 6 (ni gz12))] 0 0
                refine j_eqw (ws' := [(hl, .inr (0, [.int (zI moz7), .ref (w 0), .ref (w 1), .int (nI i), .int (nI m)])), (w 0, ia Z 6 (ni Mz9)), (w 1, ia Z 6 (ni Rz10)), cO h q (B 21) (B 5) spz11 (B 7) (B 8) (B 0), (q 0, ia Z 12 (ni K)), (q 1, ia Z 12 (ni P)), (q 2, ia Z 6 (ni kd)), (q 3, ia Z 6 (ni am)), (q 4, ia Z 6 (ni st)), (q 5, ia Z 6 (ni gz12))]) rfl ?_
                have hRB : rR B K P kd am st gz12 := rR_untick hRz w6 w2
                refine j_iinc hJ (q := 166) (lvs' := [(6, .int (nI (v + 1))), (7, .int (zI (-1))), (0, .ref hl), (1, .ref h), (2, .int (nI dp)), (3, .int (nI t)), (4, .int (nI (B 5))), (5, .int (nI (B 7)))]) dX2_pull_163 7 rfl (by rw [show Int32.ofInt 1 = nI 1 from by decide +kernel]; exact nI_add _ _) (by decide) rfl rfl ?_
                refine j_goto hJ (q := 60) dX2_pull_166 (by decide) ?_
                refine j_locals hJ [2, 3, 4, 5, 6, 7, 0] rfl ?_
                exact ih_60 moz7 bsz8 Mz9 Rz10 spz11 gz12 (v + 1) (by omega) (by omega) hmo2 hbst2 hrow2 (fun k hk => (hag2 k (by omega)).trans (by simp only [va_up]; rw [if_neg (by omega)]; exact hag1 k hk)) hRB
            · skip
              have hwi := rchr_some o4
              have hw6 : i5 < 6 := by omega
              refine j_istore hJ (q := 90) (lvs' := [(7, .int (nI i5)), (0, .ref hl), (1, .ref h), (2, .int (nI dp)), (3, .int (nI t)), (4, .int (nI (B 5))), (5, .int (nI (B 7))), (6, .int (nI v))]) dX2_pull_88 (by decide) rfl rfl ?_
              refine j_iload hJ (q := 92) dX2_pull_90 0 rfl rfl ?_
              refine j_iconst hJ (q := 93) dX2_pull_92 rfl ki_m1 ?_
              refine jz_icmp_ne hJ (q := 96) (tgt := 108) dX2_pull_93 (by decide) rfl (zI_nat i5).symm rfl (by omega) (by omega) (fun c18 => ?_) (fun c18 => ?_)
              · skip
                refine j_aload_n hJ (q := 109) dX2_pull_108 rfl 2 rfl rfl ?_
                refine j_get hJ (q := 112) jf_X2_62 dX2_pull_109 3 rfl rfl rfl ?_
                refine j_iload hJ (q := 114) dX2_pull_112 0 rfl rfl ?_
                refine j_ialdN hJ (q := 115) (z := nI (g1 i5)) dX2_pull_114 9 rfl (by omega) (by decide) rfl rfl ?_
                refine j_top (congrArg nI (rR_r hRT (i := i5) (by omega))) ?_
                have b19 := hwT.2.1 (9 + i5)
                refine j_istore hJ (q := 117) (lvs' := [(8, .int (nI ((tick1 (va_up B 6 v)) (9 + i5)))), (7, .int (nI i5)), (0, .ref hl), (1, .ref h), (2, .int (nI dp)), (3, .int (nI t)), (4, .int (nI (B 5))), (5, .int (nI (B 7))), (6, .int (nI v))]) dX2_pull_115 (by decide) rfl rfl ?_
                refine j_aload_n hJ (q := 118) dX2_pull_117 rfl 3 rfl rfl ?_
                refine j_iload hJ (q := 120) dX2_pull_118 1 rfl rfl ?_
                refine j_vW hJ (q := 123) (rest := []) (As := [.int (nI i5)]) (wr := [(hl, .inr (0, [.int (zI mo1), .ref (w 0), .ref (w 1), .int (nI i), .int (nI m)])), (w 0, ia Z 6 (ni M1)), (w 1, ia Z 6 (ni (va_up R1 dp v)))]) jl_X2_65 (c_X4_take Z h q (tick1 (va_up B 6 v)) K P kd am st g1 i5 hwT hRT hwi) 3 rfl rfl dX2_pull_120 rfl (by omega) (Nat.le_of_ble_eq_true rfl) [3, 4, 5, 6, 7, 8, 9] [0, 1, 2] rfl rfl rfl rfl (by decide) rfl (fun rv wv hp => ?_)
                obtain ⟨rz20, rfl, rfl, f21⟩ := hp
                show J 123 [(8, .int (nI ((tick1 (va_up B 6 v)) (9 + i5)))), (7, .int (nI i5)), (0, .ref hl), (1, .ref h), (2, .int (nI dp)), (3, .int (nI t)), (4, .int (nI (B 5))), (5, .int (nI (B 7))), (6, .int (nI v))] [] [(hl, .inr (0, [.int (zI mo1), .ref (w 0), .ref (w 1), .int (nI i), .int (nI m)])), (w 0, ia Z 6 (ni M1)), (w 1, ia Z 6 (ni (va_up R1 dp v))), cO h q ((takeR (tick1 (va_up B 6 v)) i5) 21) ((takeR (tick1 (va_up B 6 v)) i5) 5) ((takeR (tick1 (va_up B 6 v)) i5) 6) ((takeR (tick1 (va_up B 6 v)) i5) 7) ((takeR (tick1 (va_up B 6 v)) i5) 8) ((takeR (tick1 (va_up B 6 v)) i5) 0), (q 0, ia Z 12 (ni K)), (q 1, ia Z 12 (ni P)), (q 2, ia Z 6 (ni kd)), (q 3, ia Z 6 (ni am)), (q 4, ia Z 6 (ni st)), (q 5, ia Z 6 (ni rz20))] 0 0
                have hRt := f21
                refine j_aload_n hJ (q := 124) dX2_pull_123 rfl 2 rfl rfl ?_
                refine j_aload_n hJ (q := 125) dX2_pull_124 rfl 3 rfl rfl ?_
                refine j_iload_n hJ (q := 126) dX2_pull_125 rfl 4 rfl rfl ?_
                refine j_iconst hJ (q := 127) dX2_pull_126 rfl ki_1 ?_
                refine j_iadd hJ (q := 128) dX2_pull_127 rfl (nI_add _ _) ?_
                refine j_iload hJ (q := 130) dX2_pull_128 1 rfl rfl ?_
                refine j_aload_n hJ (q := 131) dX2_pull_130 rfl 2 rfl rfl ?_
                refine j_get hJ (q := 134) jf_X2_22 dX2_pull_131 0 rfl rfl rfl ?_
                refine jn_icmp_ne hJ (q := 137) (tgt := 143) dX2_pull_134 (by decide) rfl (by omega) (by omega) (fun c22 => ?_) (fun c22 => ?_)
                · skip
                  refine j_iload_n hJ (q := 144) dX2_pull_143 rfl 5 rfl rfl ?_
                  refine j_sW hJ (q := 147) (rest := []) (As := [.ref hl, .ref h, .int (nI (dp + 1)), .int (nI t)]) (wr := []) jl_X2_34 (ih Z hl w mo1 bs1 i m M1 (va_up R1 dp v) h q (takeR (tick1 (va_up B 6 v)) i5) ((takeR (tick1 (va_up B 6 v)) i5) 6) K P kd am st rz20 (dp + 1) t (p * 4 + v) f (wf_takeR hwT hwi) hRt hm (by omega) (by omega) hmo1 hi (by rw [takeR_8 _ (by omega)]; omega) (hfL_step hf (by omega) (by rw [goT_s rfl rfl o4]; rw [if_neg (show ¬ some i5 = some i from fun z => by cases z; omega)]; rfl) (by rw [goT_s rfl rfl o4])) hbs1 hrow1 (preL_step hpre hag1 (by omega))) dX2_pull_144 rfl (by omega) (Nat.le_of_ble_eq_true rfl) [0, 1, 2, 3, 4, 5, 6, 7, 8, 9] [] rfl rfl rfl rfl (by decide) rfl (fun rv wv hp => ?_)
                  obtain ⟨moz23, bsz24, Mz25, Rz26, spz27, gz28, rfl, rfl, f29, f30, f31, f32, f33⟩ := hp
                  show J 147 [(8, .int (nI ((tick1 (va_up B 6 v)) (9 + i5)))), (7, .int (nI i5)), (0, .ref hl), (1, .ref h), (2, .int (nI dp)), (3, .int (nI t)), (4, .int (nI (B 5))), (5, .int (nI (B 7))), (6, .int (nI v))] [] [(hl, .inr (0, [.int (zI moz23), .ref (w 0), .ref (w 1), .int (nI i), .int (nI m)])), (w 0, ia Z 6 (ni Mz25)), (w 1, ia Z 6 (ni Rz26)), cO h q ((takeR (tick1 (va_up B 6 v)) i5) 21) ((takeR (tick1 (va_up B 6 v)) i5) 5) spz27 ((takeR (tick1 (va_up B 6 v)) i5) 7) ((takeR (tick1 (va_up B 6 v)) i5) 8) ((takeR (tick1 (va_up B 6 v)) i5) 0), (q 0, ia Z 12 (ni K)), (q 1, ia Z 12 (ni P)), (q 2, ia Z 6 (ni kd)), (q 3, ia Z 6 (ni am)), (q 4, ia Z 6 (ni st)), (q 5, ia Z 6 (ni gz28))] 0 0
                  have hbst2 := f29
                  have hrow2 := f30
                  have hag2 := f31
                  have hRz := f32
                  have hmo2 := f33
                  refine j_aload_n hJ (q := 148) dX2_pull_147 rfl 3 rfl rfl ?_
                  refine j_iload hJ (q := 150) dX2_pull_148 1 rfl rfl ?_
                  refine j_iload hJ (q := 152) dX2_pull_150 0 rfl rfl ?_
                  refine j_iload hJ (q := 154) dX2_pull_152 7 rfl rfl ?_
                  refine j_vW hJ (q := 157) (rest := []) (As := [.int (nI i5), .int (nI ((tick1 (va_up B 6 v)) (9 + i5))), .int (nI (B 7))]) (wr := [(hl, .inr (0, [.int (zI moz23), .ref (w 0), .ref (w 1), .int (nI i), .int (nI m)])), (w 0, ia Z 6 (ni Mz25)), (w 1, ia Z 6 (ni Rz26))]) jl_X2_69 (c_X4_giveBackZ Z h q ((takeR (tick1 (va_up B 6 v)) i5) 21) ((takeR (tick1 (va_up B 6 v)) i5) 5) spz27 ((takeR (tick1 (va_up B 6 v)) i5) 7) ((takeR (tick1 (va_up B 6 v)) i5) 8) ((takeR (tick1 (va_up B 6 v)) i5) 0) K P kd am st gz28 i5 ((tick1 (va_up B 6 v)) (9 + i5)) (B 7) hw6) 3 rfl rfl dX2_pull_154 rfl (by omega) (Nat.le_of_ble_eq_true rfl) [3, 4, 5, 6, 7, 8, 9] [0, 1, 2] rfl rfl rfl rfl (by decide) rfl (fun rv wv hp => ?_)
                  obtain ⟨rfl, rfl⟩ := hp
                  show J 157 [(8, .int (nI ((tick1 (va_up B 6 v)) (9 + i5)))), (7, .int (nI i5)), (0, .ref hl), (1, .ref h), (2, .int (nI dp)), (3, .int (nI t)), (4, .int (nI (B 5))), (5, .int (nI (B 7))), (6, .int (nI v))] [] [(hl, .inr (0, [.int (zI moz23), .ref (w 0), .ref (w 1), .int (nI i), .int (nI m)])), (w 0, ia Z 6 (ni Mz25)), (w 1, ia Z 6 (ni Rz26)), cO h q ((takeR (tick1 (va_up B 6 v)) i5) 21) ((takeR (tick1 (va_up B 6 v)) i5) 5) spz27 (B 7) ((takeR (tick1 (va_up B 6 v)) i5) 8) ((takeR (tick1 (va_up B 6 v)) i5) 0), (q 0, ia Z 12 (ni K)), (q 1, ia Z 12 (ni P)), (q 2, ia Z 6 (ni kd)), (q 3, ia Z 6 (ni am)), (q 4, ia Z 6 (ni st)), (q 5, ia Z 6 (ni (va_up gz28 i5 ((tick1 (va_up B 6 v)) (9 + i5)))))] 0 0
                  refine j_aload_n hJ (q := 158) dX2_pull_157 rfl 3 rfl rfl ?_
                  refine j_iload hJ (q := 160) dX2_pull_158 6 rfl rfl ?_
                  refine j_vW hJ (q := 163) (rest := []) (As := [.int (nI (B 5))]) (wr := [(hl, .inr (0, [.int (zI moz23), .ref (w 0), .ref (w 1), .int (nI i), .int (nI m)])), (w 0, ia Z 6 (ni Mz25)), (w 1, ia Z 6 (ni Rz26))]) jl_X2_73 (c_X4_turnBackZ Z h q ((takeR (tick1 (va_up B 6 v)) i5) 21) ((takeR (tick1 (va_up B 6 v)) i5) 5) spz27 (B 7) ((takeR (tick1 (va_up B 6 v)) i5) 8) ((takeR (tick1 (va_up B 6 v)) i5) 0) K P kd am st (va_up gz28 i5 ((tick1 (va_up B 6 v)) (9 + i5))) (B 5) (by first | (rw [hT8]; omega) | (rw [takeR_8 _ (by omega)]; omega))) 3 rfl rfl dX2_pull_160 rfl (by omega) (Nat.le_of_ble_eq_true rfl) [3, 4, 5, 6, 7, 8, 9] [0, 1, 2] rfl rfl rfl rfl (by decide) rfl (fun rv wv hp => ?_)
                  obtain ⟨rfl, rfl⟩ := hp
                  show J 163 [(8, .int (nI ((tick1 (va_up B 6 v)) (9 + i5)))), (7, .int (nI i5)), (0, .ref hl), (1, .ref h), (2, .int (nI dp)), (3, .int (nI t)), (4, .int (nI (B 5))), (5, .int (nI (B 7))), (6, .int (nI v))] [] [(hl, .inr (0, [.int (zI moz23), .ref (w 0), .ref (w 1), .int (nI i), .int (nI m)])), (w 0, ia Z 6 (ni Mz25)), (w 1, ia Z 6 (ni Rz26)), cO h q ((takeR (tick1 (va_up B 6 v)) i5) 21) (B 5) spz27 (B 7) (((takeR (tick1 (va_up B 6 v)) i5) 8) - 1) ((takeR (tick1 (va_up B 6 v)) i5) 0), (q 0, ia Z 12 (ni K)), (q 1, ia Z 12 (ni P)), (q 2, ia Z 6 (ni kd)), (q 3, ia Z 6 (ni am)), (q 4, ia Z 6 (ni st)), (q 5, ia Z 6 (ni (va_up gz28 i5 ((tick1 (va_up B 6 v)) (9 + i5)))))] 0 0
                  have ek21 : takeR (tick1 (va_up B 6 v)) i5 21 = (tick1 (va_up B 6 v)) 21 := takeR_ne _ (by decide) (by omega)
                  have ek8 : takeR (tick1 (va_up B 6 v)) i5 8 = (tick1 (va_up B 6 v)) 8 := takeR_ne _ (by decide) (by omega)
                  have ek0 : takeR (tick1 (va_up B 6 v)) i5 0 = (tick1 (va_up B 6 v)) 0 := takeR_ne _ (by decide) (by omega)
                  refine j_eqw (ws' := [(hl, .inr (0, [.int (zI moz23), .ref (w 0), .ref (w 1), .int (nI i), .int (nI m)])), (w 0, ia Z 6 (ni Mz25)), (w 1, ia Z 6 (ni Rz26)), cO h q (B 21) (B 5) spz27 (B 7) (B 8) (B 0), (q 0, ia Z 12 (ni K)), (q 1, ia Z 12 (ni P)), (q 2, ia Z 6 (ni kd)), (q 3, ia Z 6 (ni am)), (q 4, ia Z 6 (ni st)), (q 5, ia Z 6 (ni (va_up gz28 i5 ((tick1 (va_up B 6 v)) (9 + i5)))))]) (by rw [ek21, ek8, ek0]; rfl) ?_
                  have hRB : rR B K P kd am st (va_up gz28 i5 ((tick1 (va_up B 6 v)) (9 + i5))) := rR_untick (rR_untake hRz hwi hwT.1.2.2.2.2.2 hwT.1.2.1) w6 w2
                  refine j_iinc hJ (q := 166) (lvs' := [(6, .int (nI (v + 1))), (8, .int (nI ((tick1 (va_up B 6 v)) (9 + i5)))), (7, .int (nI i5)), (0, .ref hl), (1, .ref h), (2, .int (nI dp)), (3, .int (nI t)), (4, .int (nI (B 5))), (5, .int (nI (B 7)))]) dX2_pull_163 8 rfl (by rw [show Int32.ofInt 1 = nI 1 from by decide +kernel]; exact nI_add _ _) (by decide) rfl rfl ?_
                  refine j_goto hJ (q := 60) dX2_pull_166 (by decide) ?_
                  refine j_locals hJ [3, 4, 5, 6, 7, 8, 0] rfl ?_
                  exact ih_60 moz23 bsz24 Mz25 Rz26 spz27 (va_up gz28 i5 ((tick1 (va_up B 6 v)) (9 + i5))) (v + 1) (by omega) (by omega) hmo2 hbst2 hrow2 (fun k hk => (hag2 k (by omega)).trans (by simp only [va_up]; rw [if_neg (by omega)]; exact hag1 k hk)) hRB
                · skip
                  refine j_iload_n hJ (q := 138) dX2_pull_137 rfl 5 rfl rfl ?_
                  refine j_iconst hJ (q := 139) dX2_pull_138 rfl ki_1 ?_
                  refine j_iadd hJ (q := 140) dX2_pull_139 rfl (nI_add _ _) ?_
                  refine j_goto hJ (q := 144) dX2_pull_140 (by decide) ?_
                  refine j_sW hJ (q := 147) (rest := []) (As := [.ref hl, .ref h, .int (nI (dp + 1)), .int (nI (t + 1))]) (wr := []) jl_X2_34 (ih Z hl w mo1 bs1 i m M1 (va_up R1 dp v) h q (takeR (tick1 (va_up B 6 v)) i5) ((takeR (tick1 (va_up B 6 v)) i5) 6) K P kd am st rz20 (dp + 1) (t + 1) (p * 4 + v) f (wf_takeR hwT hwi) hRt hm (by omega) (by omega) hmo1 hi (by rw [takeR_8 _ (by omega)]; omega) (hfL_step hf (by omega) (by rw [goT_s rfl rfl o4]; rw [if_pos (show some i5 = some i from congrArg some (by omega))]) (by rw [goT_s rfl rfl o4])) hbs1 hrow1 (preL_step hpre hag1 (by omega))) dX2_pull_144 rfl (by omega) (Nat.le_of_ble_eq_true rfl) [0, 1, 2, 3, 4, 5, 6, 7, 8, 9] [] rfl rfl rfl rfl (by decide) rfl (fun rv wv hp => ?_)
                  obtain ⟨moz34, bsz35, Mz36, Rz37, spz38, gz39, rfl, rfl, f40, f41, f42, f43, f44⟩ := hp
                  show J 147 [(8, .int (nI ((tick1 (va_up B 6 v)) (9 + i5)))), (7, .int (nI i5)), (0, .ref hl), (1, .ref h), (2, .int (nI dp)), (3, .int (nI t)), (4, .int (nI (B 5))), (5, .int (nI (B 7))), (6, .int (nI v))] [] [(hl, .inr (0, [.int (zI moz34), .ref (w 0), .ref (w 1), .int (nI i), .int (nI m)])), (w 0, ia Z 6 (ni Mz36)), (w 1, ia Z 6 (ni Rz37)), cO h q ((takeR (tick1 (va_up B 6 v)) i5) 21) ((takeR (tick1 (va_up B 6 v)) i5) 5) spz38 ((takeR (tick1 (va_up B 6 v)) i5) 7) ((takeR (tick1 (va_up B 6 v)) i5) 8) ((takeR (tick1 (va_up B 6 v)) i5) 0), (q 0, ia Z 12 (ni K)), (q 1, ia Z 12 (ni P)), (q 2, ia Z 6 (ni kd)), (q 3, ia Z 6 (ni am)), (q 4, ia Z 6 (ni st)), (q 5, ia Z 6 (ni gz39))] 0 0
                  have hbst2 := f40
                  have hrow2 := f41
                  have hag2 := f42
                  have hRz := f43
                  have hmo2 := f44
                  refine j_aload_n hJ (q := 148) dX2_pull_147 rfl 3 rfl rfl ?_
                  refine j_iload hJ (q := 150) dX2_pull_148 1 rfl rfl ?_
                  refine j_iload hJ (q := 152) dX2_pull_150 0 rfl rfl ?_
                  refine j_iload hJ (q := 154) dX2_pull_152 7 rfl rfl ?_
                  refine j_vW hJ (q := 157) (rest := []) (As := [.int (nI i5), .int (nI ((tick1 (va_up B 6 v)) (9 + i5))), .int (nI (B 7))]) (wr := [(hl, .inr (0, [.int (zI moz34), .ref (w 0), .ref (w 1), .int (nI i), .int (nI m)])), (w 0, ia Z 6 (ni Mz36)), (w 1, ia Z 6 (ni Rz37))]) jl_X2_69 (c_X4_giveBackZ Z h q ((takeR (tick1 (va_up B 6 v)) i5) 21) ((takeR (tick1 (va_up B 6 v)) i5) 5) spz38 ((takeR (tick1 (va_up B 6 v)) i5) 7) ((takeR (tick1 (va_up B 6 v)) i5) 8) ((takeR (tick1 (va_up B 6 v)) i5) 0) K P kd am st gz39 i5 ((tick1 (va_up B 6 v)) (9 + i5)) (B 7) hw6) 3 rfl rfl dX2_pull_154 rfl (by omega) (Nat.le_of_ble_eq_true rfl) [3, 4, 5, 6, 7, 8, 9] [0, 1, 2] rfl rfl rfl rfl (by decide) rfl (fun rv wv hp => ?_)
                  obtain ⟨rfl, rfl⟩ := hp
                  show J 157 [(8, .int (nI ((tick1 (va_up B 6 v)) (9 + i5)))), (7, .int (nI i5)), (0, .ref hl), (1, .ref h), (2, .int (nI dp)), (3, .int (nI t)), (4, .int (nI (B 5))), (5, .int (nI (B 7))), (6, .int (nI v))] [] [(hl, .inr (0, [.int (zI moz34), .ref (w 0), .ref (w 1), .int (nI i), .int (nI m)])), (w 0, ia Z 6 (ni Mz36)), (w 1, ia Z 6 (ni Rz37)), cO h q ((takeR (tick1 (va_up B 6 v)) i5) 21) ((takeR (tick1 (va_up B 6 v)) i5) 5) spz38 (B 7) ((takeR (tick1 (va_up B 6 v)) i5) 8) ((takeR (tick1 (va_up B 6 v)) i5) 0), (q 0, ia Z 12 (ni K)), (q 1, ia Z 12 (ni P)), (q 2, ia Z 6 (ni kd)), (q 3, ia Z 6 (ni am)), (q 4, ia Z 6 (ni st)), (q 5, ia Z 6 (ni (va_up gz39 i5 ((tick1 (va_up B 6 v)) (9 + i5)))))] 0 0
                  refine j_aload_n hJ (q := 158) dX2_pull_157 rfl 3 rfl rfl ?_
                  refine j_iload hJ (q := 160) dX2_pull_158 6 rfl rfl ?_
                  refine j_vW hJ (q := 163) (rest := []) (As := [.int (nI (B 5))]) (wr := [(hl, .inr (0, [.int (zI moz34), .ref (w 0), .ref (w 1), .int (nI i), .int (nI m)])), (w 0, ia Z 6 (ni Mz36)), (w 1, ia Z 6 (ni Rz37))]) jl_X2_73 (c_X4_turnBackZ Z h q ((takeR (tick1 (va_up B 6 v)) i5) 21) ((takeR (tick1 (va_up B 6 v)) i5) 5) spz38 (B 7) ((takeR (tick1 (va_up B 6 v)) i5) 8) ((takeR (tick1 (va_up B 6 v)) i5) 0) K P kd am st (va_up gz39 i5 ((tick1 (va_up B 6 v)) (9 + i5))) (B 5) (by first | (rw [hT8]; omega) | (rw [takeR_8 _ (by omega)]; omega))) 3 rfl rfl dX2_pull_160 rfl (by omega) (Nat.le_of_ble_eq_true rfl) [3, 4, 5, 6, 7, 8, 9] [0, 1, 2] rfl rfl rfl rfl (by decide) rfl (fun rv wv hp => ?_)
                  obtain ⟨rfl, rfl⟩ := hp
                  show J 163 [(8, .int (nI ((tick1 (va_up B 6 v)) (9 + i5)))), (7, .int (nI i5)), (0, .ref hl), (1, .ref h), (2, .int (nI dp)), (3, .int (nI t)), (4, .int (nI (B 5))), (5, .int (nI (B 7))), (6, .int (nI v))] [] [(hl, .inr (0, [.int (zI moz34), .ref (w 0), .ref (w 1), .int (nI i), .int (nI m)])), (w 0, ia Z 6 (ni Mz36)), (w 1, ia Z 6 (ni Rz37)), cO h q ((takeR (tick1 (va_up B 6 v)) i5) 21) (B 5) spz38 (B 7) (((takeR (tick1 (va_up B 6 v)) i5) 8) - 1) ((takeR (tick1 (va_up B 6 v)) i5) 0), (q 0, ia Z 12 (ni K)), (q 1, ia Z 12 (ni P)), (q 2, ia Z 6 (ni kd)), (q 3, ia Z 6 (ni am)), (q 4, ia Z 6 (ni st)), (q 5, ia Z 6 (ni (va_up gz39 i5 ((tick1 (va_up B 6 v)) (9 + i5)))))] 0 0
                  have ek21 : takeR (tick1 (va_up B 6 v)) i5 21 = (tick1 (va_up B 6 v)) 21 := takeR_ne _ (by decide) (by omega)
                  have ek8 : takeR (tick1 (va_up B 6 v)) i5 8 = (tick1 (va_up B 6 v)) 8 := takeR_ne _ (by decide) (by omega)
                  have ek0 : takeR (tick1 (va_up B 6 v)) i5 0 = (tick1 (va_up B 6 v)) 0 := takeR_ne _ (by decide) (by omega)
                  refine j_eqw (ws' := [(hl, .inr (0, [.int (zI moz34), .ref (w 0), .ref (w 1), .int (nI i), .int (nI m)])), (w 0, ia Z 6 (ni Mz36)), (w 1, ia Z 6 (ni Rz37)), cO h q (B 21) (B 5) spz38 (B 7) (B 8) (B 0), (q 0, ia Z 12 (ni K)), (q 1, ia Z 12 (ni P)), (q 2, ia Z 6 (ni kd)), (q 3, ia Z 6 (ni am)), (q 4, ia Z 6 (ni st)), (q 5, ia Z 6 (ni (va_up gz39 i5 ((tick1 (va_up B 6 v)) (9 + i5)))))]) (by rw [ek21, ek8, ek0]; rfl) ?_
                  have hRB : rR B K P kd am st (va_up gz39 i5 ((tick1 (va_up B 6 v)) (9 + i5))) := rR_untick (rR_untake hRz hwi hwT.1.2.2.2.2.2 hwT.1.2.1) w6 w2
                  refine j_iinc hJ (q := 166) (lvs' := [(6, .int (nI (v + 1))), (8, .int (nI ((tick1 (va_up B 6 v)) (9 + i5)))), (7, .int (nI i5)), (0, .ref hl), (1, .ref h), (2, .int (nI dp)), (3, .int (nI t)), (4, .int (nI (B 5))), (5, .int (nI (B 7)))]) dX2_pull_163 8 rfl (by rw [show Int32.ofInt 1 = nI 1 from by decide +kernel]; exact nI_add _ _) (by decide) rfl rfl ?_
                  refine j_goto hJ (q := 60) dX2_pull_166 (by decide) ?_
                  refine j_locals hJ [3, 4, 5, 6, 7, 8, 0] rfl ?_
                  exact ih_60 moz34 bsz35 Mz36 Rz37 spz38 (va_up gz39 i5 ((tick1 (va_up B 6 v)) (9 + i5))) (v + 1) (by omega) (by omega) hmo2 hbst2 hrow2 (fun k hk => (hag2 k (by omega)).trans (by simp only [va_up]; rw [if_neg (by omega)]; exact hag1 k hk)) hRB
              · skip
                exfalso; omega
      refine j_locals hJ [3, 4, 5, 6, 2, 1, 0] rfl ?_
      exact L_60 ((4 - 0) + 1) mo bs M R sp rg 0 (Nat.lt_succ_self _) (by omega) hmo (by rw [← p4a]; exact hbs) hrow (fun k hk => rfl) hR
    · skip
      exfalso; omega
  · skip
    exact hE.2.2 _ _ _ _ _ rfl dX2_pull_15 (Nat.le_refl _) (Nat.le_refl _) (⟨mo, bs, M, R, sp, rg, rfl, rfl, hfL_prune hf hbs (by omega), hrow, fun k hk => rfl, hR, hmo⟩)

theorem c_X2_pull (n : Nat) : ∀ (Z : jZ) (hl : Nat) (w : Nat → Nat) (mo : Int) (bs : Int) (i : Nat) (m : Nat) (M : Nat → Nat) (R : Nat → Nat) (h : Nat) (q : Nat → Nat) (B : Nat → Nat) (sp : Nat) (K : Nat → Nat) (P : Nat → Nat) (kd : Nat → Nat) (am : Nat → Nat) (st : Nat → Nat) (rg : Nat → Nat) (dp : Nat) (t : Nat) (p : Nat) (f : Nat → Int) (hw : wf B) (hR : rR B K P kd am st rg) (hm : m ≤ 6) (hdp : dp + n = m) (ht : t ≤ dp) (hmo : -1 ≤ mo ∧ mo ≤ 6) (hi : i < 6) (hB8 : B 8 + n < 90000) (hf : hfL f i n p t B) (hbs : bst f (p * 4 ^ n) = (bs, mo)) (hrow : rowL m bs M) (hpre : preL p dp R), CT Z yX2_pull cX2_pull 9 (none) (5 + n) 0 0 [.ref hl, .ref h, .int (nI dp), .int (nI t)] [(hl, .inr (0, [.int (zI mo), .ref (w 0), .ref (w 1), .int (nI i), .int (nI m)])), (w 0, ia Z 6 (ni M)), (w 1, ia Z 6 (ni R)), cO h q (B 21) (B 5) sp (B 7) (B 8) (B 0), (q 0, ia Z 12 (ni K)), (q 1, ia Z 12 (ni P)), (q 2, ia Z 6 (ni kd)), (q 3, ia Z 6 (ni am)), (q 4, ia Z 6 (ni st)), (q 5, ia Z 6 (ni rg))] (fun rr ww => ∃ moz : Int, ∃ bsz : Int, ∃ Mz : Nat → Nat, ∃ Rz : Nat → Nat, ∃ spz : Nat, ∃ gz : Nat → Nat, rr = none ∧ ww = [(hl, .inr (0, [.int (zI moz), .ref (w 0), .ref (w 1), .int (nI i), .int (nI m)])), (w 0, ia Z 6 (ni Mz)), (w 1, ia Z 6 (ni Rz)), cO h q (B 21) (B 5) spz (B 7) (B 8) (B 0), (q 0, ia Z 12 (ni K)), (q 1, ia Z 12 (ni P)), (q 2, ia Z 6 (ni kd)), (q 3, ia Z 6 (ni am)), (q 4, ia Z 6 (ni st)), (q 5, ia Z 6 (ni gz))] ∧ (bst f ((p + 1) * 4 ^ n) = (bsz, moz)) ∧ (rowL m bsz Mz) ∧ (∀ k, k < dp → Rz k = R k) ∧ (rR B K P kd am st gz) ∧ (-1 ≤ moz ∧ moz ≤ 6)) := by
  induction n with
  | zero => intro Z hl w mo bs i m M R h q B sp K P kd am st rg dp t p f hw hR hm hdp ht hmo hi hB8 hf hbs hrow hpre; exact c_X2_pull0 Z hl w mo bs i m M R h q B sp K P kd am st rg dp t p f hw hR hm hdp ht hmo hi hB8 hf hbs hrow hpre
  | succ n ih => intro Z hl w mo bs i m M R h q B sp K P kd am st rg dp t p f hw hR hm hdp ht hmo hi hB8 hf hbs hrow hpre; exact c_X2_pullS Z n hl w mo bs i m M R h q B sp K P kd am st rg dp t p f ih hw hR hm hdp ht hmo hi hB8 hf hbs hrow hpre

set_option maxHeartbeats 4000000 in
set_option maxRecDepth 100000 in
theorem c_X2_find (Z : jZ) (hl : Nat) (w : Nat → Nat) (m0 : Int) (i0 : Nat) (n0 : Nat) (M : Nat → Nat) (R : Nat → Nat) (h : Nat) (q : Nat → Nat) (A : Nat → Nat) (K : Nat → Nat) (P : Nat → Nat) (kd : Nat → Nat) (am : Nat → Nat) (st : Nat → Nat) (rg : Nat → Nat) (i : Nat) (m : Nat) (hw : wf A) (hR : rR A K P kd am st rg) (h1 : i < A 0) (h2 : 1 ≤ m ∧ m ≤ 6) (ht : A 8 ≤ 9999) : CT Z yX2_find cX2_find 4 (none) 12 0 0 [.ref hl, .ref h, .int (nI i), .int (nI m)] [(hl, .inr (0, [.int (zI m0), .ref (w 0), .ref (w 1), .int (nI i0), .int (nI n0)])), (w 0, ia Z 6 (ni M)), (w 1, ia Z 6 (ni R)), cO h q (A 21) (A 5) (A 6) (A 7) (A 8) (A 0), (q 0, ia Z 12 (ni K)), (q 1, ia Z 12 (ni P)), (q 2, ia Z 6 (ni kd)), (q 3, ia Z 6 (ni am)), (q 4, ia Z 6 (ni st)), (q 5, ia Z 6 (ni rg))] (fun rr ww => ∃ moz : Int, ∃ bsz : Int, ∃ Mz : Nat → Nat, ∃ Rz : Nat → Nat, ∃ spz : Nat, ∃ gz : Nat → Nat, rr = none ∧ ww = [(hl, .inr (0, [.int (zI moz), .ref (w 0), .ref (w 1), .int (nI i), .int (nI m)])), (w 0, ia Z 6 (ni Mz)), (w 1, ia Z 6 (ni Rz)), cO h q (A 21) (A 5) spz (A 7) (A 8) (A 0), (q 0, ia Z 12 (ni K)), (q 1, ia Z 12 (ni P)), (q 2, ia Z 6 (ni kd)), (q 3, ia Z 6 (ni am)), (q 4, ia Z 6 (ni st)), (q 5, ia Z 6 (ni gz))] ∧ (bst (fLever A i m) (1 * 2 ^ (2 * m)) = (bsz, moz)) ∧ (rowL m bsz Mz) ∧ (-1 ≤ moz ∧ moz ≤ 6)) := by
  refine CT.of RX2 false rfl (fun h => by cases h) (by decide +kernel) (Nat.le_of_ble_eq_true rfl) ?_
  intro J hJ hE
  show J 0 [(0, .ref hl), (1, .ref h), (2, .int (nI i)), (3, .int (nI m))] [] [(hl, .inr (0, [.int (zI m0), .ref (w 0), .ref (w 1), .int (nI i0), .int (nI n0)])), (w 0, ia Z 6 (ni M)), (w 1, ia Z 6 (ni R)), cO h q (A 21) (A 5) (A 6) (A 7) (A 8) (A 0), (q 0, ia Z 12 (ni K)), (q 1, ia Z 12 (ni P)), (q 2, ia Z 6 (ni kd)), (q 3, ia Z 6 (ni am)), (q 4, ia Z 6 (ni st)), (q 5, ia Z 6 (ni rg))] 0 0
  obtain ⟨⟨w1, w2, w3, w4, w5, w6⟩, hb, wr, wh, wd⟩ := id hw
  refine j_aload_n hJ (q := 1) dX2_find_0 rfl 0 rfl rfl ?_
  refine j_iconst hJ (q := 2) dX2_find_1 rfl ki_m1 ?_
  refine j_put hJ (q := 5) (ws' := [(hl, .inr (0, [.int (zI (-1)), .ref (w 0), .ref (w 1), .int (nI i0), .int (nI n0)])), (w 0, ia Z 6 (ni M)), (w 1, ia Z 6 (ni R)), cO h q (A 21) (A 5) (A 6) (A 7) (A 8) (A 0), (q 0, ia Z 12 (ni K)), (q 1, ia Z 12 (ni P)), (q 2, ia Z 6 (ni kd)), (q 3, ia Z 6 (ni am)), (q 4, ia Z 6 (ni st)), (q 5, ia Z 6 (ni rg))]) jp_X2_18 dX2_find_2 0 rfl rfl rfl (Nat.le_of_ble_eq_true rfl) rfl rfl ?_
  refine j_aload_n hJ (q := 6) dX2_find_5 rfl 0 rfl rfl ?_
  refine j_iload_n hJ (q := 7) dX2_find_6 rfl 2 rfl rfl ?_
  refine j_put hJ (q := 10) (ws' := [(hl, .inr (0, [.int (zI (-1)), .ref (w 0), .ref (w 1), .int (nI i), .int (nI n0)])), (w 0, ia Z 6 (ni M)), (w 1, ia Z 6 (ni R)), cO h q (A 21) (A 5) (A 6) (A 7) (A 8) (A 0), (q 0, ia Z 12 (ni K)), (q 1, ia Z 12 (ni P)), (q 2, ia Z 6 (ni kd)), (q 3, ia Z 6 (ni am)), (q 4, ia Z 6 (ni st)), (q 5, ia Z 6 (ni rg))]) jp_X2_22 dX2_find_7 0 rfl rfl rfl (Nat.le_of_ble_eq_true rfl) rfl rfl ?_
  refine j_aload_n hJ (q := 11) dX2_find_10 rfl 0 rfl rfl ?_
  refine j_iload_n hJ (q := 12) dX2_find_11 rfl 3 rfl rfl ?_
  refine j_bipush hJ (q := 14) dX2_find_12 rfl kb_6 ?_
  refine j_min hJ (q := 17) (x := m) (y := 6) tm_570 dX2_find_14 (by omega) (by omega) (by decide) (Nat.le_of_ble_eq_true rfl) (Nat.le_of_ble_eq_true rfl) (Nat.le_of_ble_eq_true rfl) rfl ?_
  refine j_put hJ (q := 20) (ws' := [(hl, .inr (0, [.int (zI (-1)), .ref (w 0), .ref (w 1), .int (nI i), .int (nI (if 6 < m then 6 else m))])), (w 0, ia Z 6 (ni M)), (w 1, ia Z 6 (ni R)), cO h q (A 21) (A 5) (A 6) (A 7) (A 8) (A 0), (q 0, ia Z 12 (ni K)), (q 1, ia Z 12 (ni P)), (q 2, ia Z 6 (ni kd)), (q 3, ia Z 6 (ni am)), (q 4, ia Z 6 (ni st)), (q 5, ia Z 6 (ni rg))]) jp_X2_31 dX2_find_17 0 rfl rfl rfl (Nat.le_of_ble_eq_true rfl) rfl rfl ?_
  refine j_eqw (ws' := [(hl, .inr (0, [.int (zI (-1)), .ref (w 0), .ref (w 1), .int (nI i), .int (nI m)])), (w 0, ia Z 6 (ni M)), (w 1, ia Z 6 (ni R)), cO h q (A 21) (A 5) (A 6) (A 7) (A 8) (A 0), (q 0, ia Z 12 (ni K)), (q 1, ia Z 12 (ni P)), (q 2, ia Z 6 (ni kd)), (q 3, ia Z 6 (ni am)), (q 4, ia Z 6 (ni st)), (q 5, ia Z 6 (ni rg))]) (by rw [if_neg (by omega)]) ?_
  refine j_aload_n hJ (q := 21) dX2_find_20 rfl 0 rfl rfl ?_
  refine j_aload_n hJ (q := 22) dX2_find_21 rfl 1 rfl rfl ?_
  refine j_iconst hJ (q := 23) dX2_find_22 rfl ki_0 ?_
  refine j_iconst hJ (q := 24) dX2_find_23 rfl ki_0 ?_
  refine j_sW hJ (q := 27) (rest := []) (As := [.ref hl, .ref h, .int (nI 0), .int (nI 0)]) (wr := []) jl_X2_34 (c_X2_pull m Z hl w (-1) (-1) i m M R h q A (A 6) K P kd am st rg 0 0 0 (fLever A i m) hw hR (by omega) (by omega) (by omega) (by omega) (by omega) (by omega) (fun x hx => by rw [Nat.zero_mul, Nat.zero_add, Nat.zero_add]; rfl) (by rw [Nat.zero_mul]; rfl) (fun h0 => absurd h0 (by decide)) (preL_0 _)) dX2_find_24 rfl (by omega) (Nat.le_of_ble_eq_true rfl) [0, 1, 2, 3, 4, 5, 6, 7, 8, 9] [] rfl rfl rfl rfl (by decide) rfl (fun rv wv hp => ?_)
  obtain ⟨moz1, bsz2, Mz3, Rz4, spz5, gz6, rfl, rfl, f7, f8, f9, f10, f11⟩ := hp
  show J 27 [(0, .ref hl), (1, .ref h), (2, .int (nI i)), (3, .int (nI m))] [] [(hl, .inr (0, [.int (zI moz1), .ref (w 0), .ref (w 1), .int (nI i), .int (nI m)])), (w 0, ia Z 6 (ni Mz3)), (w 1, ia Z 6 (ni Rz4)), cO h q (A 21) (A 5) spz5 (A 7) (A 8) (A 0), (q 0, ia Z 12 (ni K)), (q 1, ia Z 12 (ni P)), (q 2, ia Z 6 (ni kd)), (q 3, ia Z 6 (ni am)), (q 4, ia Z 6 (ni st)), (q 5, ia Z 6 (ni gz6))] 0 0
  have hz0 := f7
  have hz1 := f8
  have hz4 := f11
  exact hE.2.2 _ _ _ _ _ rfl dX2_find_27 (Nat.le_refl _) (Nat.le_refl _) (⟨moz1, bsz2, Mz3, Rz4, spz5, gz6, rfl, rfl, by rw [pw4]; exact hz0, hz1, hz4⟩)

set_option maxHeartbeats 4000000 in
set_option maxRecDepth 100000 in
theorem c_X8_lever (Z : jZ) (h : Nat) (u : Nat → Nat) (ab : Int) (be : Int) (Rf : Nat → Nat) (s : Nat → Nat) (q : Nat → Nat) (A : Nat → Nat) (K : Nat → Nat) (P : Nat → Nat) (kd : Nat → Nat) (am : Nat → Nat) (st : Nat → Nat) (rg : Nat → Nat) (qt : Nat → Nat) (t1 : Nat) (t2 : Nat) (t3 : Nat) (t4 : Nat) (t5 : Nat) (t6 : Nat) (Kt : Nat → Nat) (Pt : Nat → Nat) (kt : Nat → Nat) (mt : Nat → Nat) (stt : Nat → Nat) (gt : Nat → Nat) (w : Nat → Nat) (lm : Int) (li : Nat) (ln : Nat) (M : Nat → Nat) (R : Nat → Nat) (a : Int32) (b : Int32) (c : Int32) (hg : wg A) (hR : rR A K P kd am st rg) : CT Z yX8_lever cX8_lever 4 ((some FieldType.int)) 13 0 0 [.ref h, .int a, .int b, .int c] [xO h u ab be (Rf 0) (Rf 1) (Rf 2), (u 0, .inr (4, [.ref (s 0), .ref (s 1), .ref (s 3), .ref (s 5), .ref (s 7)])), cO (s 0) q (A 21) (A 5) (A 6) (A 7) (A 8) (A 0), (q 0, ia Z 12 (ni K)), (q 1, ia Z 12 (ni P)), (q 2, ia Z 6 (ni kd)), (q 3, ia Z 6 (ni am)), (q 4, ia Z 6 (ni st)), (q 5, ia Z 6 (ni rg)), cO (u 3) qt t1 t2 t3 t4 t5 t6, (qt 0, ia Z 12 (ni Kt)), (qt 1, ia Z 12 (ni Pt)), (qt 2, ia Z 6 (ni kt)), (qt 3, ia Z 6 (ni mt)), (qt 4, ia Z 6 (ni stt)), (qt 5, ia Z 6 (ni gt)), (u 4, .inr (0, [.int (zI lm), .ref (w 0), .ref (w 1), .int (nI li), .int (nI ln)])), (w 0, ia Z 6 (ni M)), (w 1, ia Z 6 (ni R))] (fun rr ww => ∃ y1 : Nat, ∃ y2 : Nat, ∃ y3 : Nat, ∃ y4 : Nat, ∃ y5 : Nat, ∃ y6 : Nat, ∃ Kx : Nat → Nat, ∃ Px : Nat → Nat, ∃ kx : Nat → Nat, ∃ mx : Nat → Nat, ∃ sx : Nat → Nat, ∃ gx : Nat → Nat, ∃ lx : Int, ∃ iy : Nat, ∃ my : Nat, ∃ Mx : Nat → Nat, ∃ Rx : Nat → Nat, rr = some (.int (zI (z_lever A a b c))) ∧ ww = [xO h u ab be ((if pLever A a b c then Rf else bmp Rf 0) 0) ((if pLever A a b c then Rf else bmp Rf 0) 1) ((if pLever A a b c then Rf else bmp Rf 0) 2), (u 0, .inr (4, [.ref (s 0), .ref (s 1), .ref (s 3), .ref (s 5), .ref (s 7)])), cO (s 0) q (A 21) (A 5) (A 6) (A 7) (A 8) (A 0), (q 0, ia Z 12 (ni K)), (q 1, ia Z 12 (ni P)), (q 2, ia Z 6 (ni kd)), (q 3, ia Z 6 (ni am)), (q 4, ia Z 6 (ni st)), (q 5, ia Z 6 (ni rg)), cO (u 3) qt y1 y2 y3 y4 y5 y6, (qt 0, ia Z 12 (ni Kx)), (qt 1, ia Z 12 (ni Px)), (qt 2, ia Z 6 (ni kx)), (qt 3, ia Z 6 (ni mx)), (qt 4, ia Z 6 (ni sx)), (qt 5, ia Z 6 (ni gx)), (u 4, .inr (0, [.int (zI lx), .ref (w 0), .ref (w 1), .int (nI iy), .int (nI my)])), (w 0, ia Z 6 (ni Mx)), (w 1, ia Z 6 (ni Rx))]) := by
  refine CT.of RX8 false rfl (fun h => by cases h) (by decide +kernel) (Nat.le_of_ble_eq_true rfl) ?_
  intro J hJ hE
  show J 0 [(0, .ref h), (1, .int a), (2, .int b), (3, .int c)] [] [xO h u ab be (Rf 0) (Rf 1) (Rf 2), (u 0, .inr (4, [.ref (s 0), .ref (s 1), .ref (s 3), .ref (s 5), .ref (s 7)])), cO (s 0) q (A 21) (A 5) (A 6) (A 7) (A 8) (A 0), (q 0, ia Z 12 (ni K)), (q 1, ia Z 12 (ni P)), (q 2, ia Z 6 (ni kd)), (q 3, ia Z 6 (ni am)), (q 4, ia Z 6 (ni st)), (q 5, ia Z 6 (ni rg)), cO (u 3) qt t1 t2 t3 t4 t5 t6, (qt 0, ia Z 12 (ni Kt)), (qt 1, ia Z 12 (ni Pt)), (qt 2, ia Z 6 (ni kt)), (qt 3, ia Z 6 (ni mt)), (qt 4, ia Z 6 (ni stt)), (qt 5, ia Z 6 (ni gt)), (u 4, .inr (0, [.int (zI lm), .ref (w 0), .ref (w 1), .int (nI li), .int (nI ln)])), (w 0, ia Z 6 (ni M)), (w 1, ia Z 6 (ni R))] 0 0
  obtain ⟨hw, ⟨g1, g2, g3, g4, g8⟩, hrs, hrn, hrm, hpst⟩ := id hg
  obtain ⟨⟨w1, w2, w3, w4, w5, w6⟩, hb, wr, wh, wd⟩ := id hw
  have hr_a := zI_rng a
  have hr_b := zI_rng b
  have hr_c := zI_rng c
  refine j_aload_n hJ (q := 1) dX8_lever_0 rfl 0 rfl rfl ?_
  refine j_iload_n hJ (q := 2) dX8_lever_1 rfl 1 rfl rfl ?_
  refine j_vR hJ (q := 5) (rest := []) (As := [.int a]) jl_X8_141 (c_X8_isRider Z h u ab be Rf s q A K P kd am st rg a (by omega)) 0 rfl rfl dX8_lever_2 rfl (by decide) (Nat.le_of_ble_eq_true rfl) [0, 1, 2, 3, 4, 5, 6, 7, 8] rfl rfl (fun rv hp => ?_)
  obtain rfl := hp
  show J 5 [(0, .ref h), (1, .int a), (2, .int b), (3, .int c)] [.int (bI (decide (0 ≤ a.toInt ∧ a.toInt ≤ (A 0 : Int) - 1)))] [xO h u ab be (Rf 0) (Rf 1) (Rf 2), (u 0, .inr (4, [.ref (s 0), .ref (s 1), .ref (s 3), .ref (s 5), .ref (s 7)])), cO (s 0) q (A 21) (A 5) (A 6) (A 7) (A 8) (A 0), (q 0, ia Z 12 (ni K)), (q 1, ia Z 12 (ni P)), (q 2, ia Z 6 (ni kd)), (q 3, ia Z 6 (ni am)), (q 4, ia Z 6 (ni st)), (q 5, ia Z 6 (ni rg)), cO (u 3) qt t1 t2 t3 t4 t5 t6, (qt 0, ia Z 12 (ni Kt)), (qt 1, ia Z 12 (ni Pt)), (qt 2, ia Z 6 (ni kt)), (qt 3, ia Z 6 (ni mt)), (qt 4, ia Z 6 (ni stt)), (qt 5, ia Z 6 (ni gt)), (u 4, .inr (0, [.int (zI lm), .ref (w 0), .ref (w 1), .int (nI li), .int (nI ln)])), (w 0, ia Z 6 (ni M)), (w 1, ia Z 6 (ni R))] 0 0
  refine jp_if_eq hJ (q := 8) (tgt := 23) dX8_lever_5 (by decide) rfl (fun c1 => ?_) (fun c1 => ?_)
  · skip
    refine j_aload_n hJ (q := 24) dX8_lever_23 rfl 0 rfl rfl ?_
    refine j_vW hJ (q := 27) (rest := []) (As := []) (wr := [(u 0, .inr (4, [.ref (s 0), .ref (s 1), .ref (s 3), .ref (s 5), .ref (s 7)])), cO (s 0) q (A 21) (A 5) (A 6) (A 7) (A 8) (A 0), (q 0, ia Z 12 (ni K)), (q 1, ia Z 12 (ni P)), (q 2, ia Z 6 (ni kd)), (q 3, ia Z 6 (ni am)), (q 4, ia Z 6 (ni st)), (q 5, ia Z 6 (ni rg)), cO (u 3) qt t1 t2 t3 t4 t5 t6, (qt 0, ia Z 12 (ni Kt)), (qt 1, ia Z 12 (ni Pt)), (qt 2, ia Z 6 (ni kt)), (qt 3, ia Z 6 (ni mt)), (qt 4, ia Z 6 (ni stt)), (qt 5, ia Z 6 (ni gt)), (u 4, .inr (0, [.int (zI lm), .ref (w 0), .ref (w 1), .int (nI li), .int (nI ln)])), (w 0, ia Z 6 (ni M)), (w 1, ia Z 6 (ni R))]) jl_X8_175 (c_X8_badOfList Z h u ab be Rf ) 0 rfl rfl dX8_lever_24 rfl (by decide) (Nat.le_of_ble_eq_true rfl) [0] [1, 2, 3, 4, 5, 6, 7, 8, 9, 10, 11, 12, 13, 14, 15, 16, 17, 18] rfl rfl rfl rfl (by decide) rfl (fun rv wv hp => ?_)
    obtain ⟨rfl, rfl⟩ := hp
    refine j_world hJ (ws' := [xO h u ab be ((bmp Rf 0) 0) ((bmp Rf 0) 1) ((bmp Rf 0) 2), (u 0, .inr (4, [.ref (s 0), .ref (s 1), .ref (s 3), .ref (s 5), .ref (s 7)])), cO (s 0) q (A 21) (A 5) (A 6) (A 7) (A 8) (A 0), (q 0, ia Z 12 (ni K)), (q 1, ia Z 12 (ni P)), (q 2, ia Z 6 (ni kd)), (q 3, ia Z 6 (ni am)), (q 4, ia Z 6 (ni st)), (q 5, ia Z 6 (ni rg)), cO (u 3) qt t1 t2 t3 t4 t5 t6, (qt 0, ia Z 12 (ni Kt)), (qt 1, ia Z 12 (ni Pt)), (qt 2, ia Z 6 (ni kt)), (qt 3, ia Z 6 (ni mt)), (qt 4, ia Z 6 (ni stt)), (qt 5, ia Z 6 (ni gt)), (u 4, .inr (0, [.int (zI lm), .ref (w 0), .ref (w 1), .int (nI li), .int (nI ln)])), (w 0, ia Z 6 (ni M)), (w 1, ia Z 6 (ni R))]) [18, 0, 1, 2, 3, 4, 5, 6, 7, 8, 9, 10, 11, 12, 13, 14, 15, 16, 17] rfl rfl ?_
    show J 27 [(0, .ref h), (1, .int a), (2, .int b), (3, .int c)] [.int (zI (-10))] [xO h u ab be ((bmp Rf 0) 0) ((bmp Rf 0) 1) ((bmp Rf 0) 2), (u 0, .inr (4, [.ref (s 0), .ref (s 1), .ref (s 3), .ref (s 5), .ref (s 7)])), cO (s 0) q (A 21) (A 5) (A 6) (A 7) (A 8) (A 0), (q 0, ia Z 12 (ni K)), (q 1, ia Z 12 (ni P)), (q 2, ia Z 6 (ni kd)), (q 3, ia Z 6 (ni am)), (q 4, ia Z 6 (ni st)), (q 5, ia Z 6 (ni rg)), cO (u 3) qt t1 t2 t3 t4 t5 t6, (qt 0, ia Z 12 (ni Kt)), (qt 1, ia Z 12 (ni Pt)), (qt 2, ia Z 6 (ni kt)), (qt 3, ia Z 6 (ni mt)), (qt 4, ia Z 6 (ni stt)), (qt 5, ia Z 6 (ni gt)), (u 4, .inr (0, [.int (zI lm), .ref (w 0), .ref (w 1), .int (nI li), .int (nI ln)])), (w 0, ia Z 6 (ni M)), (w 1, ia Z 6 (ni R))] 0 0
    have hP0 : ¬ pLever A a b c := by simp only [rgI, isS, isR, pNote, pMark, pFast, pLever, pHands, pSlip, pEven]; omega
    exact hE.1 _ _ _ _ _ _ _ rfl rfl dX8_lever_27 (Nat.le_refl _) (Nat.le_refl _) (⟨t1, t2, t3, t4, t5, t6, Kt, Pt, kt, mt, stt, gt, lm, li, ln, M, R, congrArg (fun z => some (Value.int (zI z))) (by simp only [z_lever, if_neg hP0]), by rw [if_neg hP0] <;> rfl⟩)
  · skip
    refine j_iload_n hJ (q := 9) dX8_lever_8 rfl 2 rfl rfl ?_
    refine j_iconst hJ (q := 10) dX8_lever_9 rfl ki_1 ?_
    refine j_bipush hJ (q := 12) dX8_lever_10 rfl kb_6 ?_
    refine j_sR hJ (q := 15) (rest := []) (As := [.int b, .int (zI 1), .int (zI 6)]) jl_X8_58 (c_X8_within Z b 1 6 (by omega) (by omega)) dX8_lever_12 rfl (by decide) (Nat.le_of_ble_eq_true rfl) [] rfl rfl (fun rv hp => ?_)
    obtain rfl := hp
    show J 15 [(0, .ref h), (1, .int a), (2, .int b), (3, .int c)] [.int (bI (decide (1 ≤ b.toInt ∧ b.toInt ≤ 6)))] [xO h u ab be (Rf 0) (Rf 1) (Rf 2), (u 0, .inr (4, [.ref (s 0), .ref (s 1), .ref (s 3), .ref (s 5), .ref (s 7)])), cO (s 0) q (A 21) (A 5) (A 6) (A 7) (A 8) (A 0), (q 0, ia Z 12 (ni K)), (q 1, ia Z 12 (ni P)), (q 2, ia Z 6 (ni kd)), (q 3, ia Z 6 (ni am)), (q 4, ia Z 6 (ni st)), (q 5, ia Z 6 (ni rg)), cO (u 3) qt t1 t2 t3 t4 t5 t6, (qt 0, ia Z 12 (ni Kt)), (qt 1, ia Z 12 (ni Pt)), (qt 2, ia Z 6 (ni kt)), (qt 3, ia Z 6 (ni mt)), (qt 4, ia Z 6 (ni stt)), (qt 5, ia Z 6 (ni gt)), (u 4, .inr (0, [.int (zI lm), .ref (w 0), .ref (w 1), .int (nI li), .int (nI ln)])), (w 0, ia Z 6 (ni M)), (w 1, ia Z 6 (ni R))] 0 0
    refine jp_if_eq hJ (q := 18) (tgt := 23) dX8_lever_15 (by decide) rfl (fun c2 => ?_) (fun c2 => ?_)
    · skip
      refine j_aload_n hJ (q := 24) dX8_lever_23 rfl 0 rfl rfl ?_
      refine j_vW hJ (q := 27) (rest := []) (As := []) (wr := [(u 0, .inr (4, [.ref (s 0), .ref (s 1), .ref (s 3), .ref (s 5), .ref (s 7)])), cO (s 0) q (A 21) (A 5) (A 6) (A 7) (A 8) (A 0), (q 0, ia Z 12 (ni K)), (q 1, ia Z 12 (ni P)), (q 2, ia Z 6 (ni kd)), (q 3, ia Z 6 (ni am)), (q 4, ia Z 6 (ni st)), (q 5, ia Z 6 (ni rg)), cO (u 3) qt t1 t2 t3 t4 t5 t6, (qt 0, ia Z 12 (ni Kt)), (qt 1, ia Z 12 (ni Pt)), (qt 2, ia Z 6 (ni kt)), (qt 3, ia Z 6 (ni mt)), (qt 4, ia Z 6 (ni stt)), (qt 5, ia Z 6 (ni gt)), (u 4, .inr (0, [.int (zI lm), .ref (w 0), .ref (w 1), .int (nI li), .int (nI ln)])), (w 0, ia Z 6 (ni M)), (w 1, ia Z 6 (ni R))]) jl_X8_175 (c_X8_badOfList Z h u ab be Rf ) 0 rfl rfl dX8_lever_24 rfl (by decide) (Nat.le_of_ble_eq_true rfl) [0] [1, 2, 3, 4, 5, 6, 7, 8, 9, 10, 11, 12, 13, 14, 15, 16, 17, 18] rfl rfl rfl rfl (by decide) rfl (fun rv wv hp => ?_)
      obtain ⟨rfl, rfl⟩ := hp
      refine j_world hJ (ws' := [xO h u ab be ((bmp Rf 0) 0) ((bmp Rf 0) 1) ((bmp Rf 0) 2), (u 0, .inr (4, [.ref (s 0), .ref (s 1), .ref (s 3), .ref (s 5), .ref (s 7)])), cO (s 0) q (A 21) (A 5) (A 6) (A 7) (A 8) (A 0), (q 0, ia Z 12 (ni K)), (q 1, ia Z 12 (ni P)), (q 2, ia Z 6 (ni kd)), (q 3, ia Z 6 (ni am)), (q 4, ia Z 6 (ni st)), (q 5, ia Z 6 (ni rg)), cO (u 3) qt t1 t2 t3 t4 t5 t6, (qt 0, ia Z 12 (ni Kt)), (qt 1, ia Z 12 (ni Pt)), (qt 2, ia Z 6 (ni kt)), (qt 3, ia Z 6 (ni mt)), (qt 4, ia Z 6 (ni stt)), (qt 5, ia Z 6 (ni gt)), (u 4, .inr (0, [.int (zI lm), .ref (w 0), .ref (w 1), .int (nI li), .int (nI ln)])), (w 0, ia Z 6 (ni M)), (w 1, ia Z 6 (ni R))]) [18, 0, 1, 2, 3, 4, 5, 6, 7, 8, 9, 10, 11, 12, 13, 14, 15, 16, 17] rfl rfl ?_
      show J 27 [(0, .ref h), (1, .int a), (2, .int b), (3, .int c)] [.int (zI (-10))] [xO h u ab be ((bmp Rf 0) 0) ((bmp Rf 0) 1) ((bmp Rf 0) 2), (u 0, .inr (4, [.ref (s 0), .ref (s 1), .ref (s 3), .ref (s 5), .ref (s 7)])), cO (s 0) q (A 21) (A 5) (A 6) (A 7) (A 8) (A 0), (q 0, ia Z 12 (ni K)), (q 1, ia Z 12 (ni P)), (q 2, ia Z 6 (ni kd)), (q 3, ia Z 6 (ni am)), (q 4, ia Z 6 (ni st)), (q 5, ia Z 6 (ni rg)), cO (u 3) qt t1 t2 t3 t4 t5 t6, (qt 0, ia Z 12 (ni Kt)), (qt 1, ia Z 12 (ni Pt)), (qt 2, ia Z 6 (ni kt)), (qt 3, ia Z 6 (ni mt)), (qt 4, ia Z 6 (ni stt)), (qt 5, ia Z 6 (ni gt)), (u 4, .inr (0, [.int (zI lm), .ref (w 0), .ref (w 1), .int (nI li), .int (nI ln)])), (w 0, ia Z 6 (ni M)), (w 1, ia Z 6 (ni R))] 0 0
      have hP0 : ¬ pLever A a b c := by simp only [rgI, isS, isR, pNote, pMark, pFast, pLever, pHands, pSlip, pEven]; omega
      exact hE.1 _ _ _ _ _ _ _ rfl rfl dX8_lever_27 (Nat.le_refl _) (Nat.le_refl _) (⟨t1, t2, t3, t4, t5, t6, Kt, Pt, kt, mt, stt, gt, lm, li, ln, M, R, congrArg (fun z => some (Value.int (zI z))) (by simp only [z_lever, if_neg hP0]), by rw [if_neg hP0] <;> rfl⟩)
    · skip
      refine j_iload_n hJ (q := 19) dX8_lever_18 rfl 3 rfl rfl ?_
      refine j_iconst hJ (q := 20) dX8_lever_19 rfl ki_m1 ?_
      refine jz_icmp_ge hJ (q := 23) (tgt := 28) dX8_lever_20 (by decide) rfl (zI_of c) rfl (zI_rng c) (by omega) (fun c3 => ?_) (fun c3 => ?_)
      · skip
        have hn_a := nt_cast (x := a) (by omega)
        refine j_eql (lvs' := [(0, .ref h), (1, .int (nI (nt a))), (2, .int b), (3, .int c)]) (by rw [← nt_eq (x := a) (by omega)]) ?_
        have hn_b := nt_cast (x := b) (by omega)
        refine j_eql (lvs' := [(0, .ref h), (1, .int (nI (nt a))), (2, .int (nI (nt b))), (3, .int c)]) (by rw [← nt_eq (x := b) (by omega)]) ?_
        refine j_iload_n hJ (q := 29) dX8_lever_28 rfl 3 rfl rfl ?_
        refine j_iload_n hJ (q := 30) dX8_lever_29 rfl 2 rfl rfl ?_
        refine jz_icmp_lt hJ (q := 33) (tgt := 36) dX8_lever_30 (by decide) rfl (zI_of c) (zI_nat (nt b)).symm (zI_rng c) (by omega) (fun c4 => ?_) (fun c4 => ?_)
        · skip
          refine j_aload_n hJ (q := 37) dX8_lever_36 rfl 0 rfl rfl ?_
          refine j_get hJ (q := 40) jf_X8_37 dX8_lever_37 0 rfl rfl rfl ?_
          refine j_aload_n hJ (q := 41) dX8_lever_40 rfl 0 rfl rfl ?_
          refine j_get hJ (q := 44) jf_X8_10 dX8_lever_41 0 rfl rfl rfl ?_
          refine j_get hJ (q := 47) jf_X8_66 dX8_lever_44 1 rfl rfl rfl ?_
          refine j_vW hJ (q := 50) (rest := []) (As := [.ref (s 0)]) (wr := [xO h u ab be (Rf 0) (Rf 1) (Rf 2), (u 0, .inr (4, [.ref (s 0), .ref (s 1), .ref (s 3), .ref (s 5), .ref (s 7)])), (u 4, .inr (0, [.int (zI lm), .ref (w 0), .ref (w 1), .int (nI li), .int (nI ln)])), (w 0, ia Z 6 (ni M)), (w 1, ia Z 6 (ni R))]) jl_X8_122 (c_X4_copyOf Z (u 3) qt t1 t2 t3 t4 t5 t6 Kt Pt kt mt stt gt (s 0) q A K P kd am st rg ) 9 rfl rfl dX8_lever_47 rfl (by decide) (Nat.le_of_ble_eq_true rfl) [9, 10, 11, 12, 13, 14, 15, 2, 3, 4, 5, 6, 7, 8] [0, 1, 16, 17, 18] rfl rfl rfl rfl (by decide) rfl (fun rv wv hp => ?_)
          obtain ⟨rfl, rfl⟩ := hp
          refine j_world hJ (ws' := [xO h u ab be (Rf 0) (Rf 1) (Rf 2), (u 0, .inr (4, [.ref (s 0), .ref (s 1), .ref (s 3), .ref (s 5), .ref (s 7)])), cO (s 0) q (A 21) (A 5) (A 6) (A 7) (A 8) (A 0), (q 0, ia Z 12 (ni K)), (q 1, ia Z 12 (ni P)), (q 2, ia Z 6 (ni kd)), (q 3, ia Z 6 (ni am)), (q 4, ia Z 6 (ni st)), (q 5, ia Z 6 (ni rg)), cO (u 3) qt (A 21) (A 5) (A 6) (A 7) (A 8) (A 0), (qt 0, ia Z 12 (ni K)), (qt 1, ia Z 12 (ni P)), (qt 2, ia Z 6 (ni kd)), (qt 3, ia Z 6 (ni am)), (qt 4, ia Z 6 (ni st)), (qt 5, ia Z 6 (ni rg)), (u 4, .inr (0, [.int (zI lm), .ref (w 0), .ref (w 1), .int (nI li), .int (nI ln)])), (w 0, ia Z 6 (ni M)), (w 1, ia Z 6 (ni R))]) [0, 1, 12, 13, 14, 15, 16, 17, 18, 5, 6, 7, 8, 9, 10, 11, 2, 3, 4] rfl rfl ?_
          show J 50 [(0, .ref h), (1, .int (nI (nt a))), (2, .int (nI (nt b))), (3, .int c)] [] [xO h u ab be (Rf 0) (Rf 1) (Rf 2), (u 0, .inr (4, [.ref (s 0), .ref (s 1), .ref (s 3), .ref (s 5), .ref (s 7)])), cO (s 0) q (A 21) (A 5) (A 6) (A 7) (A 8) (A 0), (q 0, ia Z 12 (ni K)), (q 1, ia Z 12 (ni P)), (q 2, ia Z 6 (ni kd)), (q 3, ia Z 6 (ni am)), (q 4, ia Z 6 (ni st)), (q 5, ia Z 6 (ni rg)), cO (u 3) qt (A 21) (A 5) (A 6) (A 7) (A 8) (A 0), (qt 0, ia Z 12 (ni K)), (qt 1, ia Z 12 (ni P)), (qt 2, ia Z 6 (ni kd)), (qt 3, ia Z 6 (ni am)), (qt 4, ia Z 6 (ni st)), (qt 5, ia Z 6 (ni rg)), (u 4, .inr (0, [.int (zI lm), .ref (w 0), .ref (w 1), .int (nI li), .int (nI ln)])), (w 0, ia Z 6 (ni M)), (w 1, ia Z 6 (ni R))] 0 0
          refine j_aload_n hJ (q := 51) dX8_lever_50 rfl 0 rfl rfl ?_
          refine j_get hJ (q := 54) jf_X8_44 dX8_lever_51 0 rfl rfl rfl ?_
          refine j_aload_n hJ (q := 55) dX8_lever_54 rfl 0 rfl rfl ?_
          refine j_get hJ (q := 58) jf_X8_37 dX8_lever_55 0 rfl rfl rfl ?_
          refine j_iload_n hJ (q := 59) dX8_lever_58 rfl 1 rfl rfl ?_
          refine j_iload_n hJ (q := 60) dX8_lever_59 rfl 2 rfl rfl ?_
          refine j_vW hJ (q := 63) (rest := []) (As := [.ref (u 3), .int (nI (nt a)), .int (nI (nt b))]) (wr := [xO h u ab be (Rf 0) (Rf 1) (Rf 2), (u 0, .inr (4, [.ref (s 0), .ref (s 1), .ref (s 3), .ref (s 5), .ref (s 7)])), cO (s 0) q (A 21) (A 5) (A 6) (A 7) (A 8) (A 0), (q 0, ia Z 12 (ni K)), (q 1, ia Z 12 (ni P)), (q 2, ia Z 6 (ni kd)), (q 3, ia Z 6 (ni am)), (q 4, ia Z 6 (ni st)), (q 5, ia Z 6 (ni rg))]) jl_X8_186 (c_X2_find Z (u 4) w lm li ln M R (u 3) qt A K P kd am st rg (nt a) (nt b) hw hR (by omega) (by omega) g8) 16 rfl rfl dX8_lever_60 rfl (by decide) (Nat.le_of_ble_eq_true rfl) [16, 17, 18, 9, 10, 11, 12, 13, 14, 15] [0, 1, 2, 3, 4, 5, 6, 7, 8] rfl rfl rfl rfl (by decide) rfl (fun rv wv hp => ?_)
          obtain ⟨moz5, bsz6, Mz7, Rz8, spz9, gz10, rfl, rfl, f11, f12, f13⟩ := hp
          refine j_world hJ (ws' := [xO h u ab be (Rf 0) (Rf 1) (Rf 2), (u 0, .inr (4, [.ref (s 0), .ref (s 1), .ref (s 3), .ref (s 5), .ref (s 7)])), cO (s 0) q (A 21) (A 5) (A 6) (A 7) (A 8) (A 0), (q 0, ia Z 12 (ni K)), (q 1, ia Z 12 (ni P)), (q 2, ia Z 6 (ni kd)), (q 3, ia Z 6 (ni am)), (q 4, ia Z 6 (ni st)), (q 5, ia Z 6 (ni rg)), cO (u 3) qt (A 21) (A 5) spz9 (A 7) (A 8) (A 0), (qt 0, ia Z 12 (ni K)), (qt 1, ia Z 12 (ni P)), (qt 2, ia Z 6 (ni kd)), (qt 3, ia Z 6 (ni am)), (qt 4, ia Z 6 (ni st)), (qt 5, ia Z 6 (ni gz10)), ((u 4), .inr (0, [.int (zI moz5), .ref (w 0), .ref (w 1), .int (nI (nt a)), .int (nI (nt b))])), (w 0, ia Z 6 (ni Mz7)), (w 1, ia Z 6 (ni Rz8))]) [0, 1, 2, 3, 4, 5, 6, 7, 8, 12, 13, 14, 15, 16, 17, 18, 9, 10, 11] rfl rfl ?_
          show J 63 [(0, .ref h), (1, .int (nI (nt a))), (2, .int (nI (nt b))), (3, .int c)] [] [xO h u ab be (Rf 0) (Rf 1) (Rf 2), (u 0, .inr (4, [.ref (s 0), .ref (s 1), .ref (s 3), .ref (s 5), .ref (s 7)])), cO (s 0) q (A 21) (A 5) (A 6) (A 7) (A 8) (A 0), (q 0, ia Z 12 (ni K)), (q 1, ia Z 12 (ni P)), (q 2, ia Z 6 (ni kd)), (q 3, ia Z 6 (ni am)), (q 4, ia Z 6 (ni st)), (q 5, ia Z 6 (ni rg)), cO (u 3) qt (A 21) (A 5) spz9 (A 7) (A 8) (A 0), (qt 0, ia Z 12 (ni K)), (qt 1, ia Z 12 (ni P)), (qt 2, ia Z 6 (ni kd)), (qt 3, ia Z 6 (ni am)), (qt 4, ia Z 6 (ni st)), (qt 5, ia Z 6 (ni gz10)), ((u 4), .inr (0, [.int (zI moz5), .ref (w 0), .ref (w 1), .int (nI (nt a)), .int (nI (nt b))])), (w 0, ia Z 6 (ni Mz7)), (w 1, ia Z 6 (ni Rz8))] 0 0
          have hz0 := f11
          have hz1 := f12
          have hz4 := f13
          refine j_iload_n hJ (q := 64) dX8_lever_63 rfl 3 rfl rfl ?_
          refine j_iconst hJ (q := 65) dX8_lever_64 rfl ki_m1 ?_
          refine jz_icmp_ne hJ (q := 68) (tgt := 78) dX8_lever_65 (by decide) rfl (zI_of c) rfl (zI_rng c) (by omega) (fun c14 => ?_) (fun c14 => ?_)
          · skip
            have hn_c := nt_cast (x := c) (by omega)
            refine j_eql (lvs' := [(0, .ref h), (1, .int (nI (nt a))), (2, .int (nI (nt b))), (3, .int (nI (nt c)))]) (by rw [← nt_eq (x := c) (by omega)]) ?_
            refine j_aload_n hJ (q := 79) dX8_lever_78 rfl 0 rfl rfl ?_
            refine j_get hJ (q := 82) jf_X8_44 dX8_lever_79 0 rfl rfl rfl ?_
            refine j_get hJ (q := 85) jf_X8_193 dX8_lever_82 16 rfl rfl rfl ?_
            refine j_iload_n hJ (q := 86) dX8_lever_85 rfl 3 rfl rfl ?_
            refine j_ialdN hJ (q := 87) (z := nI (Mz7 (nt c))) dX8_lever_86 17 rfl (by omega) (by decide) rfl rfl ?_
            have hP0 : pLever A a b c := by simp only [rgI, isS, isR, pNote, pMark, pFast, pLever, pHands, pSlip, pEven]; omega
            have hQ0 : ¬ c.toInt = -1 := by omega
            have hQ1 : ¬ (nt b : Int) ≤ c.toInt := by omega
            have hps := bst_pos (f := fLever A (nt a) (nt b)) (fun u => by show (0 : Int) ≤ (tkb (nt a) u (nt b) A : Int); omega) (1 * 2 ^ (2 * nt b)) (by have := Nat.pow_pos (n := 2 * nt b) (show 0 < 2 by decide); omega)
            rw [hz0] at hps
            exact hE.1 _ _ _ _ _ _ _ rfl rfl dX8_lever_87 (Nat.le_refl _) (Nat.le_refl _) (⟨(A 21), (A 5), spz9, (A 7), (A 8), (A 0), K, P, kd, am, st, gz10, moz5, (nt a), (nt b), Mz7, Rz8, congrArg (fun z => some (Value.int z)) ((zI_nat _).symm.trans (congrArg zI (by simp only [z_lever, if_pos hP0, if_neg hQ0, if_neg hQ1]; rw [hz0]; exact congrArg (fun k : Nat => (k : Int)) (hz1 hps.1 (nt c) (by omega))))), by rw [if_pos hP0] <;> rfl⟩)
          · skip
            refine j_aload_n hJ (q := 69) dX8_lever_68 rfl 0 rfl rfl ?_
            refine j_get hJ (q := 72) jf_X8_44 dX8_lever_69 0 rfl rfl rfl ?_
            refine j_get hJ (q := 75) jf_X8_190 dX8_lever_72 16 rfl rfl rfl ?_
            refine j_goto hJ (q := 87) dX8_lever_75 (by decide) ?_
            have hP0 : pLever A a b c := by simp only [rgI, isS, isR, pNote, pMark, pFast, pLever, pHands, pSlip, pEven]; omega
            have hQ0 : c.toInt = -1 := by omega
            exact hE.1 _ _ _ _ _ _ _ rfl rfl dX8_lever_87 (Nat.le_refl _) (Nat.le_refl _) (⟨(A 21), (A 5), spz9, (A 7), (A 8), (A 0), K, P, kd, am, st, gz10, moz5, (nt a), (nt b), Mz7, Rz8, congrArg (fun z => some (Value.int (zI z))) (by simp only [z_lever, if_pos hP0, if_pos hQ0]; rw [hz0]), by rw [if_pos hP0] <;> rfl⟩)
        · skip
          refine j_bipush hJ (q := 35) dX8_lever_33 rfl kb_m5 ?_
          have hP0 : pLever A a b c := by simp only [rgI, isS, isR, pNote, pMark, pFast, pLever, pHands, pSlip, pEven]; omega
          have hQ0 : ¬ c.toInt = -1 := by omega
          have hQ1 : (nt b : Int) ≤ c.toInt := by omega
          exact hE.1 _ _ _ _ _ _ _ rfl rfl dX8_lever_35 (Nat.le_refl _) (Nat.le_refl _) (⟨t1, t2, t3, t4, t5, t6, Kt, Pt, kt, mt, stt, gt, lm, li, ln, M, R, congrArg (fun z => some (Value.int (zI z))) (by simp only [z_lever, if_pos hP0, if_neg hQ0, if_pos hQ1]), by rw [if_pos hP0] <;> rfl⟩)
      · skip
        refine j_aload_n hJ (q := 24) dX8_lever_23 rfl 0 rfl rfl ?_
        refine j_vW hJ (q := 27) (rest := []) (As := []) (wr := [(u 0, .inr (4, [.ref (s 0), .ref (s 1), .ref (s 3), .ref (s 5), .ref (s 7)])), cO (s 0) q (A 21) (A 5) (A 6) (A 7) (A 8) (A 0), (q 0, ia Z 12 (ni K)), (q 1, ia Z 12 (ni P)), (q 2, ia Z 6 (ni kd)), (q 3, ia Z 6 (ni am)), (q 4, ia Z 6 (ni st)), (q 5, ia Z 6 (ni rg)), cO (u 3) qt t1 t2 t3 t4 t5 t6, (qt 0, ia Z 12 (ni Kt)), (qt 1, ia Z 12 (ni Pt)), (qt 2, ia Z 6 (ni kt)), (qt 3, ia Z 6 (ni mt)), (qt 4, ia Z 6 (ni stt)), (qt 5, ia Z 6 (ni gt)), (u 4, .inr (0, [.int (zI lm), .ref (w 0), .ref (w 1), .int (nI li), .int (nI ln)])), (w 0, ia Z 6 (ni M)), (w 1, ia Z 6 (ni R))]) jl_X8_175 (c_X8_badOfList Z h u ab be Rf ) 0 rfl rfl dX8_lever_24 rfl (by decide) (Nat.le_of_ble_eq_true rfl) [0] [1, 2, 3, 4, 5, 6, 7, 8, 9, 10, 11, 12, 13, 14, 15, 16, 17, 18] rfl rfl rfl rfl (by decide) rfl (fun rv wv hp => ?_)
        obtain ⟨rfl, rfl⟩ := hp
        refine j_world hJ (ws' := [xO h u ab be ((bmp Rf 0) 0) ((bmp Rf 0) 1) ((bmp Rf 0) 2), (u 0, .inr (4, [.ref (s 0), .ref (s 1), .ref (s 3), .ref (s 5), .ref (s 7)])), cO (s 0) q (A 21) (A 5) (A 6) (A 7) (A 8) (A 0), (q 0, ia Z 12 (ni K)), (q 1, ia Z 12 (ni P)), (q 2, ia Z 6 (ni kd)), (q 3, ia Z 6 (ni am)), (q 4, ia Z 6 (ni st)), (q 5, ia Z 6 (ni rg)), cO (u 3) qt t1 t2 t3 t4 t5 t6, (qt 0, ia Z 12 (ni Kt)), (qt 1, ia Z 12 (ni Pt)), (qt 2, ia Z 6 (ni kt)), (qt 3, ia Z 6 (ni mt)), (qt 4, ia Z 6 (ni stt)), (qt 5, ia Z 6 (ni gt)), (u 4, .inr (0, [.int (zI lm), .ref (w 0), .ref (w 1), .int (nI li), .int (nI ln)])), (w 0, ia Z 6 (ni M)), (w 1, ia Z 6 (ni R))]) [18, 0, 1, 2, 3, 4, 5, 6, 7, 8, 9, 10, 11, 12, 13, 14, 15, 16, 17] rfl rfl ?_
        show J 27 [(0, .ref h), (1, .int a), (2, .int b), (3, .int c)] [.int (zI (-10))] [xO h u ab be ((bmp Rf 0) 0) ((bmp Rf 0) 1) ((bmp Rf 0) 2), (u 0, .inr (4, [.ref (s 0), .ref (s 1), .ref (s 3), .ref (s 5), .ref (s 7)])), cO (s 0) q (A 21) (A 5) (A 6) (A 7) (A 8) (A 0), (q 0, ia Z 12 (ni K)), (q 1, ia Z 12 (ni P)), (q 2, ia Z 6 (ni kd)), (q 3, ia Z 6 (ni am)), (q 4, ia Z 6 (ni st)), (q 5, ia Z 6 (ni rg)), cO (u 3) qt t1 t2 t3 t4 t5 t6, (qt 0, ia Z 12 (ni Kt)), (qt 1, ia Z 12 (ni Pt)), (qt 2, ia Z 6 (ni kt)), (qt 3, ia Z 6 (ni mt)), (qt 4, ia Z 6 (ni stt)), (qt 5, ia Z 6 (ni gt)), (u 4, .inr (0, [.int (zI lm), .ref (w 0), .ref (w 1), .int (nI li), .int (nI ln)])), (w 0, ia Z 6 (ni M)), (w 1, ia Z 6 (ni R))] 0 0
        have hP0 : ¬ pLever A a b c := by simp only [rgI, isS, isR, pNote, pMark, pFast, pLever, pHands, pSlip, pEven]; omega
        exact hE.1 _ _ _ _ _ _ _ rfl rfl dX8_lever_27 (Nat.le_refl _) (Nat.le_refl _) (⟨t1, t2, t3, t4, t5, t6, Kt, Pt, kt, mt, stt, gt, lm, li, ln, M, R, congrArg (fun z => some (Value.int (zI z))) (by simp only [z_lever, if_neg hP0]), by rw [if_neg hP0] <;> rfl⟩)
