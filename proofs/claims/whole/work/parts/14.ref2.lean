set_option maxHeartbeats 4000000 in
set_option maxRecDepth 100000 in
theorem c_X9_in (Z : jZ) (v : Int) (lo : Int) (hi : Int) (h1 : -9000000000000000000 ≤ v ∧ v < 9000000000000000000) (h2 : -9000000000000000000 ≤ lo ∧ lo < 9000000000000000000) (h3 : -9000000000000000000 ≤ hi ∧ hi < 9000000000000000000) : CR Z yX9_in cX9_in 6 ((some FieldType.boolean)) 1 [.long (zL v), .long (zL lo), .long (zL hi)] [] (fun rr => rr = some (.int (bI (decide (lo ≤ v ∧ v ≤ hi))))) := by
  refine CR.of RX9 rfl (by decide +kernel) (Nat.le_of_ble_eq_true rfl) ?_
  intro J hJ hE
  show J 0 [(0, .long (zL v)), (2, .long (zL lo)), (4, .long (zL hi))] [] [] 0 0
  refine j_lload_n hJ (q := 1) dX9_in_0 rfl 0 rfl rfl ?_
  refine j_lload_n hJ (q := 2) dX9_in_1 rfl 1 rfl rfl ?_
  refine j_lcmp hJ (q := 3) dX9_in_2 rfl (zI_cmp (by omega) (by omega)) ?_
  refine jc_if_lt hJ (q := 6) (tgt := 17) dX9_in_3 (by decide) rfl (fun (c1 : v < lo) => ?_) (fun (c1 : lo ≤ v) => ?_)
  · skip
    refine j_iconst hJ (q := 18) dX9_in_17 rfl ki_0 ?_
    exact hE.1 _ _ _ _ _ _ _ rfl rfl dX9_in_18 (Nat.le_refl _) (Nat.le_refl _) (congrArg (fun z => some (Value.int z)) (bI_f (by omega)))
  · skip
    refine j_lload_n hJ (q := 7) dX9_in_6 rfl 0 rfl rfl ?_
    refine j_lload hJ (q := 9) dX9_in_7 2 rfl rfl ?_
    refine j_lcmp hJ (q := 10) dX9_in_9 rfl (zI_cmp (by omega) (by omega)) ?_
    refine jc_if_gt hJ (q := 13) (tgt := 17) dX9_in_10 (by decide) rfl (fun (c2 : hi < v) => ?_) (fun (c2 : v ≤ hi) => ?_)
    · skip
      refine j_iconst hJ (q := 18) dX9_in_17 rfl ki_0 ?_
      exact hE.1 _ _ _ _ _ _ _ rfl rfl dX9_in_18 (Nat.le_refl _) (Nat.le_refl _) (congrArg (fun z => some (Value.int z)) (bI_f (by omega)))
    · skip
      refine j_iconst hJ (q := 14) dX9_in_13 rfl ki_1 ?_
      refine j_goto hJ (q := 18) dX9_in_14 (by decide) ?_
      exact hE.1 _ _ _ _ _ _ _ rfl rfl dX9_in_18 (Nat.le_refl _) (Nat.le_refl _) (congrArg (fun z => some (Value.int z)) (bI_t (by omega)))

set_option maxHeartbeats 4000000 in
set_option maxRecDepth 100000 in
theorem c_X9_bad (Z : jZ) (h : Nat) (q : Nat → Nat) (ab : Int) (be : Int) (bl : Nat) (ta : Nat) (tl : Nat) (tk : Nat) (va : Nat) (Rf : Nat → Nat) (t : Int)  : CT Z yX9_bad cX9_bad 2 ((some FieldType.int)) 1 0 0 [.ref h, .int (zI t)] [mO h q ab be bl ta tl tk va, (q 3, ia Z 3 (ni Rf))] (fun rr ww => rr = some (.int (zI t)) ∧ ww = [mO h q ab be bl ta tl tk va, (q 3, ia Z 3 (ni (va_up Rf 0 (Rf 0 + 1))))]) := by
  refine CT.of RX9 false rfl (fun h => by cases h) (by decide +kernel) (Nat.le_of_ble_eq_true rfl) ?_
  intro J hJ hE
  show J 0 [(0, .ref h), (1, .int (zI t))] [] [mO h q ab be bl ta tl tk va, (q 3, ia Z 3 (ni Rf))] 0 0
  refine j_aload_n hJ (q := 1) dX9_bad_0 rfl 0 rfl rfl ?_
  refine j_get hJ (q := 4) jf_X9_20 dX9_bad_1 0 rfl rfl rfl ?_
  refine j_iconst hJ (q := 5) dX9_bad_4 rfl ki_0 ?_
  refine j_dup2 hJ (q := 6) dX9_bad_5 rfl rfl rfl ?_
  refine j_ialdN hJ (q := 7) (z := nI (Rf 0)) dX9_bad_6 1 rfl (by decide) (by decide) rfl rfl ?_
  refine j_iconst hJ (q := 8) dX9_bad_7 rfl ki_1 ?_
  refine j_iadd hJ (q := 9) dX9_bad_8 rfl (nI_add _ _) ?_
  refine j_iastN hJ (q := 10) (ws' := [mO h q ab be bl ta tl tk va, (q 3, ia Z 3 (ni (va_up Rf 0 (Rf 0 + 1))))]) dX9_bad_9 1 rfl (by decide) (by decide) (ni_up _ _ _) rfl rfl ?_
  refine j_iload_n hJ (q := 11) dX9_bad_10 rfl 1 rfl rfl ?_
  exact hE.1 _ _ _ _ _ _ _ rfl rfl dX9_bad_11 (Nat.le_refl _) (Nat.le_refl _) (⟨congrArg (fun z => some (Value.int (zI z))) (by rfl), rfl⟩)

set_option maxHeartbeats 4000000 in
set_option maxRecDepth 100000 in
theorem c_X9_no (Z : jZ) (h : Nat) (q : Nat → Nat) (ab : Int) (be : Int) (bl : Nat) (ta : Nat) (tl : Nat) (tk : Nat) (va : Nat) (Rf : Nat → Nat)  : CT Z yX9_no cX9_no 1 ((some FieldType.int)) 1 0 0 [.ref h] [mO h q ab be bl ta tl tk va, (q 3, ia Z 3 (ni Rf))] (fun rr ww => rr = some (.int (zI (-3))) ∧ ww = [mO h q ab be bl ta tl tk va, (q 3, ia Z 3 (ni (va_up Rf 1 (Rf 1 + 1))))]) := by
  refine CT.of RX9 false rfl (fun h => by cases h) (by decide +kernel) (Nat.le_of_ble_eq_true rfl) ?_
  intro J hJ hE
  show J 0 [(0, .ref h)] [] [mO h q ab be bl ta tl tk va, (q 3, ia Z 3 (ni Rf))] 0 0
  refine j_aload_n hJ (q := 1) dX9_no_0 rfl 0 rfl rfl ?_
  refine j_get hJ (q := 4) jf_X9_20 dX9_no_1 0 rfl rfl rfl ?_
  refine j_iconst hJ (q := 5) dX9_no_4 rfl ki_1 ?_
  refine j_dup2 hJ (q := 6) dX9_no_5 rfl rfl rfl ?_
  refine j_ialdN hJ (q := 7) (z := nI (Rf 1)) dX9_no_6 1 rfl (by decide) (by decide) rfl rfl ?_
  refine j_iconst hJ (q := 8) dX9_no_7 rfl ki_1 ?_
  refine j_iadd hJ (q := 9) dX9_no_8 rfl (nI_add _ _) ?_
  refine j_iastN hJ (q := 10) (ws' := [mO h q ab be bl ta tl tk va, (q 3, ia Z 3 (ni (va_up Rf 1 (Rf 1 + 1))))]) dX9_no_9 1 rfl (by decide) (by decide) (ni_up _ _ _) rfl rfl ?_
  refine j_bipush hJ (q := 12) dX9_no_10 rfl kb_m3 ?_
  exact hE.1 _ _ _ _ _ _ _ rfl rfl dX9_no_12 (Nat.le_refl _) (Nat.le_refl _) (⟨congrArg (fun z => some (Value.int (zI z))) (by rfl), rfl⟩)

set_option maxHeartbeats 4000000 in
set_option maxRecDepth 100000 in
theorem c_X9_full (Z : jZ) (h : Nat) (q : Nat → Nat) (ab : Int) (be : Int) (bl : Nat) (ta : Nat) (tl : Nat) (tk : Nat) (va : Nat) (Rf : Nat → Nat)  : CT Z yX9_full cX9_full 1 ((some FieldType.int)) 1 0 0 [.ref h] [mO h q ab be bl ta tl tk va, (q 3, ia Z 3 (ni Rf))] (fun rr ww => rr = some (.int (zI (-4))) ∧ ww = [mO h q ab be bl ta tl tk va, (q 3, ia Z 3 (ni (va_up Rf 2 (Rf 2 + 1))))]) := by
  refine CT.of RX9 false rfl (fun h => by cases h) (by decide +kernel) (Nat.le_of_ble_eq_true rfl) ?_
  intro J hJ hE
  show J 0 [(0, .ref h)] [] [mO h q ab be bl ta tl tk va, (q 3, ia Z 3 (ni Rf))] 0 0
  refine j_aload_n hJ (q := 1) dX9_full_0 rfl 0 rfl rfl ?_
  refine j_get hJ (q := 4) jf_X9_20 dX9_full_1 0 rfl rfl rfl ?_
  refine j_iconst hJ (q := 5) dX9_full_4 rfl ki_2 ?_
  refine j_dup2 hJ (q := 6) dX9_full_5 rfl rfl rfl ?_
  refine j_ialdN hJ (q := 7) (z := nI (Rf 2)) dX9_full_6 1 rfl (by decide) (by decide) rfl rfl ?_
  refine j_iconst hJ (q := 8) dX9_full_7 rfl ki_1 ?_
  refine j_iadd hJ (q := 9) dX9_full_8 rfl (nI_add _ _) ?_
  refine j_iastN hJ (q := 10) (ws' := [mO h q ab be bl ta tl tk va, (q 3, ia Z 3 (ni (va_up Rf 2 (Rf 2 + 1))))]) dX9_full_9 1 rfl (by decide) (by decide) (ni_up _ _ _) rfl rfl ?_
  refine j_bipush hJ (q := 12) dX9_full_10 rfl kb_m4 ?_
  exact hE.1 _ _ _ _ _ _ _ rfl rfl dX9_full_12 (Nat.le_refl _) (Nat.le_refl _) (⟨congrArg (fun z => some (Value.int (zI z))) (by rfl), rfl⟩)

set_option maxHeartbeats 4000000 in
set_option maxRecDepth 100000 in
theorem c_X9_has (Z : jZ) (st : Nat) (k : Nat) (h1 : st < 2147483648) (h2 : k < 32) : CR Z yX9_has cX9_has 2 ((some FieldType.boolean)) 1 [.int (nI st), .int (nI k)] [] (fun rr => rr = some (.int (bI (decide (st / 2 ^ k % 2 = 1))))) := by
  refine CR.of RX9 rfl (by decide +kernel) (Nat.le_of_ble_eq_true rfl) ?_
  intro J hJ hE
  show J 0 [(0, .int (nI st)), (1, .int (nI k))] [] [] 0 0
  refine j_iload_n hJ (q := 1) dX9_has_0 rfl 0 rfl rfl ?_
  refine j_iload_n hJ (q := 2) dX9_has_1 rfl 1 rfl rfl ?_
  refine j_ishr hJ (q := 3) dX9_has_2 rfl (nI_shr (by omega) (by omega)) ?_
  refine j_iconst hJ (q := 4) dX9_has_3 rfl ki_1 ?_
  have g1 : st / 2 ^ k ≤ st := Nat.div_le_self _ _
  refine j_iand hJ (q := 5) dX9_has_4 rfl (nI_and1 (by omega)) ?_
  refine j_iconst hJ (q := 6) dX9_has_5 rfl ki_1 ?_
  refine jn_icmp_ne hJ (q := 9) (tgt := 13) dX9_has_6 (by decide) rfl (by omega) (by omega) (fun c1 => ?_) (fun c1 => ?_)
  · skip
    refine j_iconst hJ (q := 14) dX9_has_13 rfl ki_0 ?_
    exact hE.1 _ _ _ _ _ _ _ rfl rfl dX9_has_14 (Nat.le_refl _) (Nat.le_refl _) (congrArg (fun z => some (Value.int z)) (bI_f (by omega)))
  · skip
    refine j_iconst hJ (q := 10) dX9_has_9 rfl ki_1 ?_
    refine j_goto hJ (q := 14) dX9_has_10 (by decide) ?_
    exact hE.1 _ _ _ _ _ _ _ rfl rfl dX9_has_14 (Nat.le_refl _) (Nat.le_refl _) (congrArg (fun z => some (Value.int z)) (bI_t (by omega)))

set_option maxHeartbeats 4000000 in
set_option maxRecDepth 100000 in
theorem c_X9_many (Z : jZ) (h : Nat) (q : Nat → Nat) (ab : Int) (be : Int) (bl : Nat) (ta : Nat) (tl : Nat) (tk : Nat) (va : Nat) (A : Nat → Nat)  : CR Z yX9_many cX9_many 1 ((some FieldType.int)) 1 [.ref h] [mO h q ab be bl ta tl tk va, (q 0, ia Z 266 (ni A))] (fun rr => rr = some (.int (nI (A 0)))) := by
  refine CR.of RX9 rfl (by decide +kernel) (Nat.le_of_ble_eq_true rfl) ?_
  intro J hJ hE
  show J 0 [(0, .ref h)] [] [mO h q ab be bl ta tl tk va, (q 0, ia Z 266 (ni A))] 0 0
  refine j_aload_n hJ (q := 1) dX9_many_0 rfl 0 rfl rfl ?_
  refine j_get hJ (q := 4) jf_X9_7 dX9_many_1 0 rfl rfl rfl ?_
  refine j_iconst hJ (q := 5) dX9_many_4 rfl ki_0 ?_
  refine j_ialdN hJ (q := 6) (z := nI (A 0)) dX9_many_5 1 rfl (by decide) (by decide) rfl rfl ?_
  exact hE.1 _ _ _ _ _ _ _ rfl rfl dX9_many_6 (Nat.le_refl _) (Nat.le_refl _) (congrArg (fun z => some (Value.int (nI z))) (by rfl))

set_option maxHeartbeats 4000000 in
set_option maxRecDepth 100000 in
theorem c_X9_isKind (Z : jZ) (x : Int32)  : CR Z yX9_isKind cX9_isKind 1 ((some FieldType.boolean)) 2 [.int x] [] (fun rr => rr = some (.int (bI (decide (0 ≤ x.toInt ∧ x.toInt ≤ 5))))) := by
  refine CR.of RX9 rfl (by decide +kernel) (Nat.le_of_ble_eq_true rfl) ?_
  intro J hJ hE
  show J 0 [(0, .int x)] [] [] 0 0
  have hx := zI_rng x
  refine j_iload_n hJ (q := 1) dX9_isKind_0 rfl 0 rfl rfl ?_
  refine j_i2l hJ (q := 2) dX9_isKind_1 rfl (zL_i _ (zI_of x) (zI_rng x)) ?_
  refine j_lconst hJ (q := 3) (v := zL 0) dX9_isKind_2 rfl rfl ?_
  refine j_ldc2 hJ (q := 6) (v' := zL 5) dX9_isKind_3 tm_867 rfl rfl ?_
  refine j_sR hJ (q := 9) (rest := []) (As := [.long (zL x.toInt), .long (zL 0), .long (zL 5)]) jl_X9_53 (c_X9_in Z x.toInt 0 5 (by omega) (by omega) (by omega)) dX9_isKind_6 rfl (by decide) (Nat.le_of_ble_eq_true rfl) [] rfl rfl (fun rv hp => ?_)
  obtain rfl := hp
  show J 9 [(0, .int x)] [.int (bI (decide (0 ≤ x.toInt ∧ x.toInt ≤ 5)))] [] 0 0
  exact hE.1 _ _ _ _ _ _ _ rfl (bI_nar _) dX9_isKind_9 (Nat.le_refl _) (Nat.le_refl _) (rfl)

set_option maxHeartbeats 4000000 in
set_option maxRecDepth 100000 in
theorem c_X9_isSpeed (Z : jZ) (x : Int32)  : CR Z yX9_isSpeed cX9_isSpeed 1 ((some FieldType.boolean)) 2 [.int x] [] (fun rr => rr = some (.int (bI (decide (0 ≤ x.toInt ∧ x.toInt ≤ 3))))) := by
  refine CR.of RX9 rfl (by decide +kernel) (Nat.le_of_ble_eq_true rfl) ?_
  intro J hJ hE
  show J 0 [(0, .int x)] [] [] 0 0
  have hx := zI_rng x
  refine j_iload_n hJ (q := 1) dX9_isSpeed_0 rfl 0 rfl rfl ?_
  refine j_i2l hJ (q := 2) dX9_isSpeed_1 rfl (zL_i _ (zI_of x) (zI_rng x)) ?_
  refine j_lconst hJ (q := 3) (v := zL 0) dX9_isSpeed_2 rfl rfl ?_
  refine j_ldc2 hJ (q := 6) (v' := zL 3) dX9_isSpeed_3 tm_847 rfl rfl ?_
  refine j_sR hJ (q := 9) (rest := []) (As := [.long (zL x.toInt), .long (zL 0), .long (zL 3)]) jl_X9_53 (c_X9_in Z x.toInt 0 3 (by omega) (by omega) (by omega)) dX9_isSpeed_6 rfl (by decide) (Nat.le_of_ble_eq_true rfl) [] rfl rfl (fun rv hp => ?_)
  obtain rfl := hp
  show J 9 [(0, .int x)] [.int (bI (decide (0 ≤ x.toInt ∧ x.toInt ≤ 3)))] [] 0 0
  exact hE.1 _ _ _ _ _ _ _ rfl (bI_nar _) dX9_isSpeed_9 (Nat.le_refl _) (Nat.le_refl _) (rfl)

set_option maxHeartbeats 4000000 in
set_option maxRecDepth 100000 in
theorem c_X9_isPhase (Z : jZ) (x : Int32)  : CR Z yX9_isPhase cX9_isPhase 1 ((some FieldType.boolean)) 2 [.int x] [] (fun rr => rr = some (.int (bI (decide (0 ≤ x.toInt ∧ x.toInt ≤ 7))))) := by
  refine CR.of RX9 rfl (by decide +kernel) (Nat.le_of_ble_eq_true rfl) ?_
  intro J hJ hE
  show J 0 [(0, .int x)] [] [] 0 0
  have hx := zI_rng x
  refine j_iload_n hJ (q := 1) dX9_isPhase_0 rfl 0 rfl rfl ?_
  refine j_i2l hJ (q := 2) dX9_isPhase_1 rfl (zL_i _ (zI_of x) (zI_rng x)) ?_
  refine j_lconst hJ (q := 3) (v := zL 0) dX9_isPhase_2 rfl rfl ?_
  refine j_ldc2 hJ (q := 6) (v' := zL 7) dX9_isPhase_3 tm_871 rfl rfl ?_
  refine j_sR hJ (q := 9) (rest := []) (As := [.long (zL x.toInt), .long (zL 0), .long (zL 7)]) jl_X9_53 (c_X9_in Z x.toInt 0 7 (by omega) (by omega) (by omega)) dX9_isPhase_6 rfl (by decide) (Nat.le_of_ble_eq_true rfl) [] rfl rfl (fun rv hp => ?_)
  obtain rfl := hp
  show J 9 [(0, .int x)] [.int (bI (decide (0 ≤ x.toInt ∧ x.toInt ≤ 7)))] [] 0 0
  exact hE.1 _ _ _ _ _ _ _ rfl (bI_nar _) dX9_isPhase_9 (Nat.le_refl _) (Nat.le_refl _) (rfl)

set_option maxHeartbeats 4000000 in
set_option maxRecDepth 100000 in
theorem c_X9_isArm (Z : jZ) (x : Int32)  : CR Z yX9_isArm cX9_isArm 1 ((some FieldType.boolean)) 2 [.int x] [] (fun rr => rr = some (.int (bI (decide (1 ≤ x.toInt ∧ x.toInt ≤ 9))))) := by
  refine CR.of RX9 rfl (by decide +kernel) (Nat.le_of_ble_eq_true rfl) ?_
  intro J hJ hE
  show J 0 [(0, .int x)] [] [] 0 0
  have hx := zI_rng x
  refine j_iload_n hJ (q := 1) dX9_isArm_0 rfl 0 rfl rfl ?_
  refine j_i2l hJ (q := 2) dX9_isArm_1 rfl (zL_i _ (zI_of x) (zI_rng x)) ?_
  refine j_lconst hJ (q := 3) (v := zL 1) dX9_isArm_2 rfl rfl ?_
  refine j_ldc2 hJ (q := 6) (v' := zL 9) dX9_isArm_3 tm_879 rfl rfl ?_
  refine j_sR hJ (q := 9) (rest := []) (As := [.long (zL x.toInt), .long (zL 1), .long (zL 9)]) jl_X9_53 (c_X9_in Z x.toInt 1 9 (by omega) (by omega) (by omega)) dX9_isArm_6 rfl (by decide) (Nat.le_of_ble_eq_true rfl) [] rfl rfl (fun rv hp => ?_)
  obtain rfl := hp
  show J 9 [(0, .int x)] [.int (bI (decide (1 ≤ x.toInt ∧ x.toInt ≤ 9)))] [] 0 0
  exact hE.1 _ _ _ _ _ _ _ rfl (bI_nar _) dX9_isArm_9 (Nat.le_refl _) (Nat.le_refl _) (rfl)

set_option maxHeartbeats 4000000 in
set_option maxRecDepth 100000 in
theorem c_X9_isSeat (Z : jZ) (h : Nat) (q : Nat → Nat) (ab : Int) (be : Int) (bl : Nat) (ta : Nat) (tl : Nat) (tk : Nat) (va : Nat) (A : Nat → Nat) (x : Int32) (hb : A 21 < 100000) : CR Z yX9_isSeat cX9_isSeat 2 ((some FieldType.boolean)) 2 [.ref h, .int x] [mO h q ab be bl ta tl tk va, (q 0, ia Z 266 (ni A))] (fun rr => rr = some (.int (bI (decide (0 ≤ x.toInt ∧ x.toInt ≤ (A 21 : Int) - 1))))) := by
  refine CR.of RX9 rfl (by decide +kernel) (Nat.le_of_ble_eq_true rfl) ?_
  intro J hJ hE
  show J 0 [(0, .ref h), (1, .int x)] [] [mO h q ab be bl ta tl tk va, (q 0, ia Z 266 (ni A))] 0 0
  have hx := zI_rng x
  refine j_iload_n hJ (q := 1) dX9_isSeat_0 rfl 1 rfl rfl ?_
  refine j_i2l hJ (q := 2) dX9_isSeat_1 rfl (zL_i _ (zI_of x) (zI_rng x)) ?_
  refine j_lconst hJ (q := 3) (v := zL 0) dX9_isSeat_2 rfl rfl ?_
  refine j_aload_n hJ (q := 4) dX9_isSeat_3 rfl 0 rfl rfl ?_
  refine j_get hJ (q := 7) jf_X9_7 dX9_isSeat_4 0 rfl rfl rfl ?_
  refine j_bipush hJ (q := 9) dX9_isSeat_7 rfl kb_21 ?_
  refine j_ialdN hJ (q := 10) (z := nI (A 21)) dX9_isSeat_9 1 rfl (by decide) (by decide) rfl rfl ?_
  refine j_iconst hJ (q := 11) dX9_isSeat_10 rfl ki_1 ?_
  refine j_isub hJ (q := 12) dX9_isSeat_11 rfl (zI_sub (zI_nat (A 21)).symm (zI_nat 1).symm) ?_
  refine j_i2l hJ (q := 13) dX9_isSeat_12 rfl (zL_i _ rfl (by omega)) ?_
  refine j_sR hJ (q := 16) (rest := []) (As := [.long (zL x.toInt), .long (zL 0), .long (zL (((A 21) : Int) - (1 : Int)))]) jl_X9_53 (c_X9_in Z x.toInt 0 (((A 21) : Int) - (1 : Int)) (by omega) (by omega) (by omega)) dX9_isSeat_13 rfl (by decide) (Nat.le_of_ble_eq_true rfl) [] rfl rfl (fun rv hp => ?_)
  obtain rfl := hp
  show J 16 [(0, .ref h), (1, .int x)] [.int (bI (decide (0 ≤ x.toInt ∧ x.toInt ≤ (((A 21) : Int) - (1 : Int)))))] [mO h q ab be bl ta tl tk va, (q 0, ia Z 266 (ni A))] 0 0
  exact hE.1 _ _ _ _ _ _ _ rfl (bI_nar _) dX9_isSeat_16 (Nat.le_refl _) (Nat.le_refl _) (rfl)

set_option maxHeartbeats 4000000 in
set_option maxRecDepth 100000 in
theorem c_X9_isRider (Z : jZ) (h : Nat) (q : Nat → Nat) (ab : Int) (be : Int) (bl : Nat) (ta : Nat) (tl : Nat) (tk : Nat) (va : Nat) (A : Nat → Nat) (x : Int32) (hb : A 0 < 100000) : CR Z yX9_isRider cX9_isRider 2 ((some FieldType.boolean)) 2 [.ref h, .int x] [mO h q ab be bl ta tl tk va, (q 0, ia Z 266 (ni A))] (fun rr => rr = some (.int (bI (decide (0 ≤ x.toInt ∧ x.toInt ≤ (A 0 : Int) - 1))))) := by
  refine CR.of RX9 rfl (by decide +kernel) (Nat.le_of_ble_eq_true rfl) ?_
  intro J hJ hE
  show J 0 [(0, .ref h), (1, .int x)] [] [mO h q ab be bl ta tl tk va, (q 0, ia Z 266 (ni A))] 0 0
  have hx := zI_rng x
  refine j_iload_n hJ (q := 1) dX9_isRider_0 rfl 1 rfl rfl ?_
  refine j_i2l hJ (q := 2) dX9_isRider_1 rfl (zL_i _ (zI_of x) (zI_rng x)) ?_
  refine j_lconst hJ (q := 3) (v := zL 0) dX9_isRider_2 rfl rfl ?_
  refine j_aload_n hJ (q := 4) dX9_isRider_3 rfl 0 rfl rfl ?_
  refine j_vR hJ (q := 7) (rest := [.long (zL 0), .long (zL x.toInt)]) (As := []) jl_X9_49 (c_X9_many Z h q ab be bl ta tl tk va A ) 0 rfl rfl dX9_isRider_4 rfl (by decide) (Nat.le_of_ble_eq_true rfl) [0, 1] rfl rfl (fun rv hp => ?_)
  obtain rfl := hp
  show J 7 [(0, .ref h), (1, .int x)] [.int (nI (A 0)), .long (zL 0), .long (zL x.toInt)] [mO h q ab be bl ta tl tk va, (q 0, ia Z 266 (ni A))] 0 0
  refine j_iconst hJ (q := 8) dX9_isRider_7 rfl ki_1 ?_
  refine j_isub hJ (q := 9) dX9_isRider_8 rfl (zI_sub (zI_nat (A 0)).symm (zI_nat 1).symm) ?_
  refine j_i2l hJ (q := 10) dX9_isRider_9 rfl (zL_i _ rfl (by omega)) ?_
  refine j_sR hJ (q := 13) (rest := []) (As := [.long (zL x.toInt), .long (zL 0), .long (zL (((A 0) : Int) - (1 : Int)))]) jl_X9_53 (c_X9_in Z x.toInt 0 (((A 0) : Int) - (1 : Int)) (by omega) (by omega) (by omega)) dX9_isRider_10 rfl (by decide) (Nat.le_of_ble_eq_true rfl) [] rfl rfl (fun rv hp => ?_)
  obtain rfl := hp
  show J 13 [(0, .ref h), (1, .int x)] [.int (bI (decide (0 ≤ x.toInt ∧ x.toInt ≤ (((A 0) : Int) - (1 : Int)))))] [mO h q ab be bl ta tl tk va, (q 0, ia Z 266 (ni A))] 0 0
  exact hE.1 _ _ _ _ _ _ _ rfl (bI_nar _) dX9_isRider_13 (Nat.le_refl _) (Nat.le_refl _) (rfl)

set_option maxHeartbeats 4000000 in
set_option maxRecDepth 100000 in
theorem c_X9_begin (Z : jZ) (q : Nat) (n : Nat) (A : Nat → Nat) (k : Nat) (v : Nat) (hn : 138 ≤ n ∧ n < 1000) : CT Z yX9_begin cX9_begin 4 (none) 1 0 0 [.ref q, .int (nI k), .int (nI v)] [(q, ia Z n (ni A))] (fun rr ww => rr = none ∧ ww = [(q, ia Z n (ni (beg A k v)))]) := by
  refine CT.of RX9 false rfl (fun h => by cases h) (by decide +kernel) (Nat.le_of_ble_eq_true rfl) ?_
  intro J hJ hE
  show J 0 [(0, .ref q), (1, .int (nI k)), (2, .int (nI v))] [] [(q, ia Z n (ni A))] 0 0
  refine j_iconst hJ (q := 1) dX9_begin_0 rfl ki_0 ?_
  refine j_istore_n hJ (q := 2) (lvs' := [(3, .int (nI 0)), (0, .ref q), (1, .int (nI k)), (2, .int (nI v))]) dX9_begin_1 rfl (by decide) rfl rfl ?_
  have L_2 : ∀ (fu_2 : Nat) (B : Nat → Nat) (i : Nat), 138 - i < fu_2 → (i ≤ 138) → (B = zer A i) → J 2 [(0, .ref q), (1, .int (nI k)), (2, .int (nI v)), (3, .int (nI i))] [] [(q, ia Z n (ni B))] 0 0 := by
    intro fu_2
    induction fu_2 with
    | zero => intro B i hm; exact absurd hm (Nat.not_lt_zero _)
    | succ fu_2 ih_2 =>
      intro B i hm_2 hi hB
      refine j_iload_n hJ (q := 3) dX9_begin_2 rfl 3 rfl rfl ?_
      refine j_sipush hJ (q := 6) dX9_begin_3 rfl ks_138 ?_
      refine jn_icmp_ge hJ (q := 9) (tgt := 19) dX9_begin_6 (by decide) rfl (by omega) (by omega) (fun c1 => ?_) (fun c1 => ?_)
      · skip
        refine j_aload_n hJ (q := 20) dX9_begin_19 rfl 0 rfl rfl ?_
        refine j_bipush hJ (q := 22) dX9_begin_20 rfl kb_21 ?_
        refine j_iload_n hJ (q := 23) dX9_begin_22 rfl 1 rfl rfl ?_
        refine j_iastN hJ (q := 24) (ws' := [(q, ia Z n (ni (va_up B 21 k)))]) dX9_begin_23 0 rfl (by omega) (by omega) (ni_up _ _ _) rfl rfl ?_
        refine j_aload_n hJ (q := 25) dX9_begin_24 rfl 0 rfl rfl ?_
        refine j_bipush hJ (q := 27) dX9_begin_25 rfl kb_6 ?_
        refine j_iload_n hJ (q := 28) dX9_begin_27 rfl 2 rfl rfl ?_
        refine j_iastN hJ (q := 29) (ws' := [(q, ia Z n (ni (va_up (va_up B 21 k) 6 v)))]) dX9_begin_28 0 rfl (by omega) (by omega) (ni_up _ _ _) rfl rfl ?_
        refine j_aload_n hJ (q := 30) dX9_begin_29 rfl 0 rfl rfl ?_
        refine j_bipush hJ (q := 32) dX9_begin_30 rfl kb_7 ?_
        refine j_bipush hJ (q := 34) dX9_begin_32 rfl kb_8 ?_
        refine j_iastN hJ (q := 35) (ws' := [(q, ia Z n (ni (va_up (va_up (va_up B 21 k) 6 v) 7 8)))]) dX9_begin_34 0 rfl (by omega) (by omega) (ni_up _ _ _) rfl rfl ?_
        exact hE.2.2 _ _ _ _ _ rfl dX9_begin_35 (Nat.le_refl _) (Nat.le_refl _) (⟨rfl, by rw [hB, show i = 138 by omega]; rfl⟩)
      · skip
        refine j_aload_n hJ (q := 10) dX9_begin_9 rfl 0 rfl rfl ?_
        refine j_iload_n hJ (q := 11) dX9_begin_10 rfl 3 rfl rfl ?_
        refine j_iconst hJ (q := 12) dX9_begin_11 rfl ki_0 ?_
        refine j_iastN hJ (q := 13) (ws' := [(q, ia Z n (ni (va_up B i 0)))]) dX9_begin_12 0 rfl (by omega) (by omega) (ni_up _ _ _) rfl rfl ?_
        refine j_iinc hJ (q := 16) (lvs' := [(3, .int (nI (i + 1))), (0, .ref q), (1, .int (nI k)), (2, .int (nI v))]) dX9_begin_13 3 rfl (by rw [show Int32.ofInt 1 = nI 1 from by decide +kernel]; exact nI_add _ _) (by decide) rfl rfl ?_
        refine j_goto hJ (q := 2) dX9_begin_16 (by decide) ?_
        refine j_locals hJ [1, 2, 3, 0] rfl ?_
        exact ih_2 (va_up B i 0) (i + 1) (by omega) (by omega) (by rw [hB]; exact zer_up A i)
  refine j_locals hJ [1, 2, 3, 0] rfl ?_
  exact L_2 ((138 - 0) + 1) A 0 (Nat.lt_succ_self _) (by omega) (zer_0 A)

set_option maxHeartbeats 4000000 in
set_option maxRecDepth 100000 in
theorem c_X9_layRider (Z : jZ) (q : Nat) (n : Nat) (A : Nat → Nat) (k : Nat) (a : Nat) (s : Nat) (hn : 58 ≤ n ∧ n < 1000) (h0 : A 0 < 6) : CT Z yX9_layRider cX9_layRider 5 (none) 1 0 0 [.ref q, .int (nI k), .int (nI a), .int (nI s)] [(q, ia Z n (ni A))] (fun rr ww => rr = none ∧ ww = [(q, ia Z n (ni (layR A k a s)))]) := by
  refine CT.of RX9 false rfl (fun h => by cases h) (by decide +kernel) (Nat.le_of_ble_eq_true rfl) ?_
  intro J hJ hE
  show J 0 [(0, .ref q), (1, .int (nI k)), (2, .int (nI a)), (3, .int (nI s))] [] [(q, ia Z n (ni A))] 0 0
  refine j_aload_n hJ (q := 1) dX9_layRider_0 rfl 0 rfl rfl ?_
  refine j_iconst hJ (q := 2) dX9_layRider_1 rfl ki_0 ?_
  refine j_ialdN hJ (q := 3) (z := nI (A 0)) dX9_layRider_2 0 rfl (by omega) (by omega) rfl rfl ?_
  refine j_istore hJ (q := 5) (lvs' := [(4, .int (nI (A 0))), (0, .ref q), (1, .int (nI k)), (2, .int (nI a)), (3, .int (nI s))]) dX9_layRider_3 (by decide) rfl rfl ?_
  refine j_aload_n hJ (q := 6) dX9_layRider_5 rfl 1 rfl rfl ?_
  refine j_bipush hJ (q := 8) dX9_layRider_6 rfl kb_22 ?_
  refine j_iload hJ (q := 10) dX9_layRider_8 0 rfl rfl ?_
  refine j_iadd hJ (q := 11) dX9_layRider_10 rfl (nI_add _ _) ?_
  refine j_iload_n hJ (q := 12) dX9_layRider_11 rfl 2 rfl rfl ?_
  refine j_iastN hJ (q := 13) (ws' := [(q, ia Z n (ni (va_up A (22 + (A 0)) k)))]) dX9_layRider_12 0 rfl (by omega) (by omega) (ni_up _ _ _) rfl rfl ?_
  refine j_aload_n hJ (q := 14) dX9_layRider_13 rfl 1 rfl rfl ?_
  refine j_bipush hJ (q := 16) dX9_layRider_14 rfl kb_28 ?_
  refine j_iload hJ (q := 18) dX9_layRider_16 0 rfl rfl ?_
  refine j_iadd hJ (q := 19) dX9_layRider_18 rfl (nI_add _ _) ?_
  refine j_iload_n hJ (q := 20) dX9_layRider_19 rfl 3 rfl rfl ?_
  refine j_iastN hJ (q := 21) (ws' := [(q, ia Z n (ni (va_up (va_up A (22 + (A 0)) k) (28 + (A 0)) a)))]) dX9_layRider_20 0 rfl (by omega) (by omega) (ni_up _ _ _) rfl rfl ?_
  refine j_aload_n hJ (q := 22) dX9_layRider_21 rfl 1 rfl rfl ?_
  refine j_bipush hJ (q := 24) dX9_layRider_22 rfl kb_15 ?_
  refine j_iload hJ (q := 26) dX9_layRider_24 0 rfl rfl ?_
  refine j_iadd hJ (q := 27) dX9_layRider_26 rfl (nI_add _ _) ?_
  refine j_iload_n hJ (q := 28) dX9_layRider_27 rfl 4 rfl rfl ?_
  refine j_iastN hJ (q := 29) (ws' := [(q, ia Z n (ni (va_up (va_up (va_up A (22 + (A 0)) k) (28 + (A 0)) a) (15 + (A 0)) s)))]) dX9_layRider_28 0 rfl (by omega) (by omega) (ni_up _ _ _) rfl rfl ?_
  refine j_aload_n hJ (q := 30) dX9_layRider_29 rfl 1 rfl rfl ?_
  refine j_bipush hJ (q := 32) dX9_layRider_30 rfl kb_9 ?_
  refine j_iload hJ (q := 34) dX9_layRider_32 0 rfl rfl ?_
  refine j_iadd hJ (q := 35) dX9_layRider_34 rfl (nI_add _ _) ?_
  refine j_iconst hJ (q := 36) dX9_layRider_35 rfl ki_0 ?_
  refine j_iastN hJ (q := 37) (ws' := [(q, ia Z n (ni (va_up (va_up (va_up (va_up A (22 + (A 0)) k) (28 + (A 0)) a) (15 + (A 0)) s) (9 + (A 0)) 0)))]) dX9_layRider_36 0 rfl (by omega) (by omega) (ni_up _ _ _) rfl rfl ?_
  obtain ⟨B, e_B⟩ : ∃ z : Nat → Nat, z = va_up (va_up (va_up (va_up A (22 + A 0) k) (28 + A 0) a) (15 + A 0) s) (9 + A 0) 0 := ⟨_, rfl⟩
  refine j_eqw (ws' := [(q, ia Z n (ni B))]) (by subst e_B; rfl) ?_
  have hB0 : B 0 = A 0 := by rw [e_B]; simp only [va_up]; rw [if_neg (by omega), if_neg (by omega), if_neg (by omega), if_neg (by omega)]
  refine j_aload_n hJ (q := 38) dX9_layRider_37 rfl 1 rfl rfl ?_
  refine j_iconst hJ (q := 39) dX9_layRider_38 rfl ki_0 ?_
  refine j_dup2 hJ (q := 40) dX9_layRider_39 rfl rfl rfl ?_
  refine j_ialdN hJ (q := 41) (z := nI (B 0)) dX9_layRider_40 0 rfl (by omega) (by omega) rfl rfl ?_
  refine j_iconst hJ (q := 42) dX9_layRider_41 rfl ki_1 ?_
  refine j_iadd hJ (q := 43) dX9_layRider_42 rfl (nI_add _ _) ?_
  refine j_iastN hJ (q := 44) (ws' := [(q, ia Z n (ni (va_up B 0 (B 0 + 1))))]) dX9_layRider_43 0 rfl (by omega) (by omega) (ni_up _ _ _) rfl rfl ?_
  exact hE.2.2 _ _ _ _ _ rfl dX9_layRider_44 (Nat.le_refl _) (Nat.le_refl _) (⟨rfl, by rw [hB0, e_B]; rfl⟩)

set_option maxHeartbeats 4000000 in
set_option maxRecDepth 100000 in
theorem c_X9_goTick (Z : jZ) (q : Nat) (n : Nat) (A : Nat → Nat) (sl : Bool) (hn : 58 ≤ n ∧ n < 1000) (hw : wf A) (ht : A 8 + 1 < 100000) : CT Z yX9_goTick cX9_goTick 3 ((some FieldType.int)) 4 0 0 [.ref q, .int (bI sl)] [(q, ia Z n (ni A))] (fun rr ww => rr = some (.int (oI ((goT A sl).1))) ∧ ww = [(q, ia Z n (ni ((goT A sl).2)))]) := by
  refine CT.of RX9 false rfl (fun h => by cases h) (by decide +kernel) (Nat.le_of_ble_eq_true rfl) ?_
  intro J hJ hE
  show J 0 [(0, .ref q), (1, .int (bI sl))] [] [(q, ia Z n (ni A))] 0 0
  obtain ⟨⟨a1, a2, a3, a4, a5, a6⟩, ab, ar, ah, ad⟩ := id hw
  refine j_aload_n hJ (q := 1) dX9_goTick_0 rfl 0 rfl rfl ?_
  refine j_bipush hJ (q := 3) dX9_goTick_1 rfl kb_8 ?_
  refine j_dup2 hJ (q := 4) dX9_goTick_3 rfl rfl rfl ?_
  refine j_ialdN hJ (q := 5) (z := nI (A 8)) dX9_goTick_4 0 rfl (by omega) (by omega) rfl rfl ?_
  have b1 := ab 8
  refine j_iconst hJ (q := 6) dX9_goTick_5 rfl ki_1 ?_
  refine j_iadd hJ (q := 7) dX9_goTick_6 rfl (nI_add _ _) ?_
  refine j_iastN hJ (q := 8) (ws' := [(q, ia Z n (ni (va_up A 8 (A 8 + 1))))]) dX9_goTick_7 0 rfl (by omega) (by omega) (ni_up _ _ _) rfl rfl ?_
  refine j_aload_n hJ (q := 9) dX9_goTick_8 rfl 0 rfl rfl ?_
  refine j_iconst hJ (q := 10) dX9_goTick_9 rfl ki_5 ?_
  refine j_aload_n hJ (q := 11) dX9_goTick_10 rfl 0 rfl rfl ?_
  refine j_iconst hJ (q := 12) dX9_goTick_11 rfl ki_5 ?_
  refine j_ialdN hJ (q := 13) (z := nI (A 5)) dX9_goTick_12 0 rfl (by omega) (by omega) rfl rfl ?_
  have b2 := ab 5
  refine j_aload_n hJ (q := 14) dX9_goTick_13 rfl 0 rfl rfl ?_
  refine j_bipush hJ (q := 16) dX9_goTick_14 rfl kb_6 ?_
  refine j_ialdN hJ (q := 17) (z := nI (A 6)) dX9_goTick_16 0 rfl (by omega) (by omega) rfl rfl ?_
  have b3 := ab 6
  refine j_iadd hJ (q := 18) dX9_goTick_17 rfl (nI_add _ _) ?_
  refine j_aload_n hJ (q := 19) dX9_goTick_18 rfl 0 rfl rfl ?_
  refine j_bipush hJ (q := 21) dX9_goTick_19 rfl kb_21 ?_
  refine j_ialdN hJ (q := 22) (z := nI (A 21)) dX9_goTick_21 0 rfl (by omega) (by omega) rfl rfl ?_
  have b4 := ab 21
  refine j_irem hJ (q := 23) dX9_goTick_22 rfl (nI_ne0 (by omega) (by omega)) (pk_rem (by omega) (by omega) (by omega)) ?_
  refine j_iastN hJ (q := 24) (ws' := [(q, ia Z n (ni (va_up (va_up A 8 (A 8 + 1)) 5 ((A 5 + (A 6)) % (A 21)))))]) dX9_goTick_23 0 rfl (by omega) (by omega) (ni_up _ _ _) rfl rfl ?_
  obtain ⟨B, e_B⟩ : ∃ z : Nat → Nat, z = tick1 A := ⟨_, rfl⟩
  refine j_eqw (ws' := [(q, ia Z n (ni B))]) (by subst e_B; rfl) ?_
  have hwB : wf B := by rw [e_B]; exact wf_tick1 hw ht
  obtain ⟨⟨B1, B2, B3, B4, B5, B6⟩, Bb, Br, Bh, Bd⟩ := id hwB
  refine j_aload_n hJ (q := 25) dX9_goTick_24 rfl 0 rfl rfl ?_
  refine j_aload_n hJ (q := 26) dX9_goTick_25 rfl 0 rfl rfl ?_
  refine j_bipush hJ (q := 28) dX9_goTick_26 rfl kb_21 ?_
  refine j_ialdN hJ (q := 29) (z := nI (B 21)) dX9_goTick_28 0 rfl (by omega) (by omega) rfl rfl ?_
  have b5 := Bb 21
  refine j_aload_n hJ (q := 30) dX9_goTick_29 rfl 0 rfl rfl ?_
  refine j_iconst hJ (q := 31) dX9_goTick_30 rfl ki_5 ?_
  refine j_ialdN hJ (q := 32) (z := nI (B 5)) dX9_goTick_31 0 rfl (by omega) (by omega) rfl rfl ?_
  have b6 := Bb 5
  refine j_isub hJ (q := 33) dX9_goTick_32 rfl (pk_sub (by omega)) ?_
  refine j_aload_n hJ (q := 34) dX9_goTick_33 rfl 0 rfl rfl ?_
  refine j_bipush hJ (q := 36) dX9_goTick_34 rfl kb_21 ?_
  refine j_ialdN hJ (q := 37) (z := nI (B 21)) dX9_goTick_36 0 rfl (by omega) (by omega) rfl rfl ?_
  have b7 := Bb 21
  refine j_irem hJ (q := 38) dX9_goTick_37 rfl (nI_ne0 (by omega) (by omega)) (pk_rem (by omega) (by omega) (by omega)) ?_
  refine j_sR hJ (q := 41) (rest := []) (As := [.ref q, .int (nI ((B 21 - (B 5)) % (B 21)))]) jl_X9_89 (c_X9_whoIs Z q n B ((B 21 - (B 5)) % (B 21)) (by omega) (by omega) (by have := Nat.mod_lt (B 21 - B 5) (show 0 < B 21 by omega); omega) Bb) dX9_goTick_38 rfl (by decide) (Nat.le_of_ble_eq_true rfl) [0] rfl rfl (fun rv hp => ?_)
  obtain rfl := hp
  show J 41 [(0, .ref q), (1, .int (bI sl))] [.int (oI (who B ((B 21 - (B 5)) % (B 21))))] [(q, ia Z n (ni B))] 0 0
  refine j_caseo (fun o8 => ?_) (fun i9 o8 => ?_)
  · skip
    refine j_istore_n hJ (q := 42) (lvs' := [(2, .int (zI (-1))), (0, .ref q), (1, .int (bI sl))]) dX9_goTick_41 rfl (by decide) rfl rfl ?_
    refine j_iload_n hJ (q := 43) dX9_goTick_42 rfl 0 rfl rfl ?_
    refine j_iconst hJ (q := 44) dX9_goTick_43 rfl ki_m1 ?_
    refine jz_icmp_eq hJ (q := 47) (tgt := 63) dX9_goTick_44 (by decide) rfl rfl rfl (by omega) (by omega) (fun c10 => ?_) (fun c10 => ?_)
    · skip
      refine j_iconst hJ (q := 64) dX9_goTick_63 rfl ki_m1 ?_
      have hg : goT A sl = (none, B) := goT_n e_B (by first | exact Or.inl (by assumption) | exact Or.inr (rchr_n0 o8) | exact Or.inr (rchr_n1 o8 (by omega)))
      exact hE.1 _ _ _ _ _ _ _ rfl rfl dX9_goTick_64 (Nat.le_refl _) (Nat.le_refl _) (⟨congrArg (fun z => some (Value.int (oI z))) (show none = (goT A sl).1 by rw [hg]), by rw [hg]⟩)
    · skip
      exfalso; omega
  · skip
    have hi := who_some o8
    have hB9 := (Br i9 hi.1).2.2.2
    refine j_istore_n hJ (q := 42) (lvs' := [(2, .int (nI i9)), (0, .ref q), (1, .int (bI sl))]) dX9_goTick_41 rfl (by decide) rfl rfl ?_
    refine j_iload_n hJ (q := 43) dX9_goTick_42 rfl 0 rfl rfl ?_
    refine j_iconst hJ (q := 44) dX9_goTick_43 rfl ki_m1 ?_
    refine jz_icmp_eq hJ (q := 47) (tgt := 63) dX9_goTick_44 (by decide) rfl (zI_nat i9).symm rfl (by omega) (by omega) (fun c11 => ?_) (fun c11 => ?_)
    · skip
      exfalso; omega
    · skip
      refine j_iload_n hJ (q := 48) dX9_goTick_47 rfl 2 rfl rfl ?_
      refine jb_if_ne hJ (q := 51) (tgt := 63) dX9_goTick_48 (by decide) rfl (fun c12 => ?_) (fun c12 => ?_)
      · skip
        refine j_iconst hJ (q := 64) dX9_goTick_63 rfl ki_m1 ?_
        have hg : goT A sl = (none, B) := goT_n e_B (by first | exact Or.inl (by assumption) | exact Or.inr (rchr_n0 o8) | exact Or.inr (rchr_n1 o8 (by omega)))
        exact hE.1 _ _ _ _ _ _ _ rfl rfl dX9_goTick_64 (Nat.le_refl _) (Nat.le_refl _) (⟨congrArg (fun z => some (Value.int (oI z))) (show none = (goT A sl).1 by rw [hg]), by rw [hg]⟩)
      · skip
        refine j_aload_n hJ (q := 52) dX9_goTick_51 rfl 1 rfl rfl ?_
        refine j_iload_n hJ (q := 53) dX9_goTick_52 rfl 0 rfl rfl ?_
        refine j_sR hJ (q := 56) (rest := []) (As := [.ref q, .int (nI i9)]) jl_X9_113 (c_X9_reachOf Z q n B i9 (by omega) hwB hi.1) dX9_goTick_53 rfl (by decide) (Nat.le_of_ble_eq_true rfl) [0] rfl rfl (fun rv hp => ?_)
        obtain rfl := hp
        show J 56 [(2, .int (nI i9)), (0, .ref q), (1, .int (bI sl))] [.int (nI (rchO B i9))] [(q, ia Z n (ni B))] 0 0
        have hro := rchO_le hwB hi.1
        refine j_aload_n hJ (q := 57) dX9_goTick_56 rfl 1 rfl rfl ?_
        refine j_bipush hJ (q := 59) dX9_goTick_57 rfl kb_7 ?_
        refine j_ialdN hJ (q := 60) (z := nI (B 7)) dX9_goTick_59 0 rfl (by omega) (by omega) rfl rfl ?_
        have b13 := Bb 7
        refine jn_icmp_ge hJ (q := 63) (tgt := 65) dX9_goTick_60 (by decide) rfl (by omega) (by omega) (fun c14 => ?_) (fun c14 => ?_)
        · skip
          refine j_aload_n hJ (q := 66) dX9_goTick_65 rfl 1 rfl rfl ?_
          refine j_bipush hJ (q := 68) dX9_goTick_66 rfl kb_9 ?_
          refine j_iload_n hJ (q := 69) dX9_goTick_68 rfl 0 rfl rfl ?_
          refine j_iadd hJ (q := 70) dX9_goTick_69 rfl (nI_add _ _) ?_
          refine j_dup2 hJ (q := 71) dX9_goTick_70 rfl rfl rfl ?_
          refine j_ialdN hJ (q := 72) (z := nI (B (9 + i9))) dX9_goTick_71 0 rfl (by omega) (by omega) rfl rfl ?_
          have b15 := Bb (9 + i9)
          refine j_aload_n hJ (q := 73) dX9_goTick_72 rfl 1 rfl rfl ?_
          refine j_bipush hJ (q := 75) dX9_goTick_73 rfl kb_9 ?_
          refine j_iload_n hJ (q := 76) dX9_goTick_75 rfl 0 rfl rfl ?_
          refine j_iadd hJ (q := 77) dX9_goTick_76 rfl (nI_add _ _) ?_
          refine j_ialdN hJ (q := 78) (z := nI (B (9 + i9))) dX9_goTick_77 0 rfl (by omega) (by omega) rfl rfl ?_
          have b16 := Bb (9 + i9)
          refine j_bipush hJ (q := 80) dX9_goTick_78 rfl kb_99 ?_
          refine jn_icmp_ge hJ (q := 83) (tgt := 87) dX9_goTick_80 (by decide) rfl (by omega) (by omega) (fun c17 => ?_) (fun c17 => ?_)
          · skip
            refine j_iconst hJ (q := 88) dX9_goTick_87 rfl ki_0 ?_
            refine j_iadd hJ (q := 89) dX9_goTick_88 rfl (nI_add _ _) ?_
            refine j_iastN hJ (q := 90) (ws' := [(q, ia Z n (ni (va_up B (9 + i9) (B (9 + i9) + 0))))]) dX9_goTick_89 0 rfl (by omega) (by omega) (ni_up _ _ _) rfl rfl ?_
            obtain ⟨C, e_C⟩ : ∃ z : Nat → Nat, z = va_up B (9 + i9) (B (9 + i9) + 0) := ⟨_, rfl⟩
            refine j_eqw (ws' := [(q, ia Z n (ni C))]) (by subst e_C; rfl) ?_
            have hC7 : C 7 = B 7 := by rw [e_C]; simp only [va_up]; rw [if_neg (by omega)]
            have hCb := Bb 7
            refine j_aload_n hJ (q := 91) dX9_goTick_90 rfl 1 rfl rfl ?_
            refine j_bipush hJ (q := 93) dX9_goTick_91 rfl kb_7 ?_
            refine j_dup2 hJ (q := 94) dX9_goTick_93 rfl rfl rfl ?_
            refine j_ialdN hJ (q := 95) (z := nI (C 7)) dX9_goTick_94 0 rfl (by omega) (by omega) rfl rfl ?_
            refine j_aload_n hJ (q := 96) dX9_goTick_95 rfl 1 rfl rfl ?_
            refine j_bipush hJ (q := 98) dX9_goTick_96 rfl kb_7 ?_
            refine j_ialdN hJ (q := 99) (z := nI (C 7)) dX9_goTick_98 0 rfl (by omega) (by omega) rfl rfl ?_
            refine j_bipush hJ (q := 101) dX9_goTick_99 rfl kb_20 ?_
            refine jn_icmp_ge hJ (q := 104) (tgt := 108) dX9_goTick_101 (by decide) rfl (by omega) (by omega) (fun c18 => ?_) (fun c18 => ?_)
            · skip
              refine j_iconst hJ (q := 109) dX9_goTick_108 rfl ki_0 ?_
              refine j_iadd hJ (q := 110) dX9_goTick_109 rfl (nI_add _ _) ?_
              refine j_iastN hJ (q := 111) (ws' := [(q, ia Z n (ni (va_up C 7 (C 7 + 0))))]) dX9_goTick_110 0 rfl (by omega) (by omega) (ni_up _ _ _) rfl rfl ?_
              refine j_iload_n hJ (q := 112) dX9_goTick_111 rfl 0 rfl rfl ?_
              have hg : goT A sl = (some i9, takeR B i9) := goT_s e_B (by assumption) (rchr_s o8 (by omega))
              exact hE.1 _ _ _ _ _ _ _ rfl rfl dX9_goTick_112 (Nat.le_refl _) (Nat.le_refl _) (⟨congrArg (fun z => some (Value.int (oI z))) (show some i9 = (goT A sl).1 by rw [hg]), by rw [hg]; exact congrArg (fun z => [(q, ia Z n (ni z))]) (takeR_of e_C (by split <;> omega) (by rw [hC7]; split <;> omega))⟩)
            · skip
              refine j_iconst hJ (q := 105) dX9_goTick_104 rfl ki_1 ?_
              refine j_goto hJ (q := 109) dX9_goTick_105 (by decide) ?_
              refine j_iadd hJ (q := 110) dX9_goTick_109 rfl (nI_add _ _) ?_
              refine j_iastN hJ (q := 111) (ws' := [(q, ia Z n (ni (va_up C 7 (C 7 + 1))))]) dX9_goTick_110 0 rfl (by omega) (by omega) (ni_up _ _ _) rfl rfl ?_
              refine j_iload_n hJ (q := 112) dX9_goTick_111 rfl 0 rfl rfl ?_
              have hg : goT A sl = (some i9, takeR B i9) := goT_s e_B (by assumption) (rchr_s o8 (by omega))
              exact hE.1 _ _ _ _ _ _ _ rfl rfl dX9_goTick_112 (Nat.le_refl _) (Nat.le_refl _) (⟨congrArg (fun z => some (Value.int (oI z))) (show some i9 = (goT A sl).1 by rw [hg]), by rw [hg]; exact congrArg (fun z => [(q, ia Z n (ni z))]) (takeR_of e_C (by split <;> omega) (by rw [hC7]; split <;> omega))⟩)
          · skip
            refine j_iconst hJ (q := 84) dX9_goTick_83 rfl ki_1 ?_
            refine j_goto hJ (q := 88) dX9_goTick_84 (by decide) ?_
            refine j_iadd hJ (q := 89) dX9_goTick_88 rfl (nI_add _ _) ?_
            refine j_iastN hJ (q := 90) (ws' := [(q, ia Z n (ni (va_up B (9 + i9) (B (9 + i9) + 1))))]) dX9_goTick_89 0 rfl (by omega) (by omega) (ni_up _ _ _) rfl rfl ?_
            obtain ⟨C, e_C⟩ : ∃ z : Nat → Nat, z = va_up B (9 + i9) (B (9 + i9) + 1) := ⟨_, rfl⟩
            refine j_eqw (ws' := [(q, ia Z n (ni C))]) (by subst e_C; rfl) ?_
            have hC7 : C 7 = B 7 := by rw [e_C]; simp only [va_up]; rw [if_neg (by omega)]
            have hCb := Bb 7
            refine j_aload_n hJ (q := 91) dX9_goTick_90 rfl 1 rfl rfl ?_
            refine j_bipush hJ (q := 93) dX9_goTick_91 rfl kb_7 ?_
            refine j_dup2 hJ (q := 94) dX9_goTick_93 rfl rfl rfl ?_
            refine j_ialdN hJ (q := 95) (z := nI (C 7)) dX9_goTick_94 0 rfl (by omega) (by omega) rfl rfl ?_
            refine j_aload_n hJ (q := 96) dX9_goTick_95 rfl 1 rfl rfl ?_
            refine j_bipush hJ (q := 98) dX9_goTick_96 rfl kb_7 ?_
            refine j_ialdN hJ (q := 99) (z := nI (C 7)) dX9_goTick_98 0 rfl (by omega) (by omega) rfl rfl ?_
            refine j_bipush hJ (q := 101) dX9_goTick_99 rfl kb_20 ?_
            refine jn_icmp_ge hJ (q := 104) (tgt := 108) dX9_goTick_101 (by decide) rfl (by omega) (by omega) (fun c19 => ?_) (fun c19 => ?_)
            · skip
              refine j_iconst hJ (q := 109) dX9_goTick_108 rfl ki_0 ?_
              refine j_iadd hJ (q := 110) dX9_goTick_109 rfl (nI_add _ _) ?_
              refine j_iastN hJ (q := 111) (ws' := [(q, ia Z n (ni (va_up C 7 (C 7 + 0))))]) dX9_goTick_110 0 rfl (by omega) (by omega) (ni_up _ _ _) rfl rfl ?_
              refine j_iload_n hJ (q := 112) dX9_goTick_111 rfl 0 rfl rfl ?_
              have hg : goT A sl = (some i9, takeR B i9) := goT_s e_B (by assumption) (rchr_s o8 (by omega))
              exact hE.1 _ _ _ _ _ _ _ rfl rfl dX9_goTick_112 (Nat.le_refl _) (Nat.le_refl _) (⟨congrArg (fun z => some (Value.int (oI z))) (show some i9 = (goT A sl).1 by rw [hg]), by rw [hg]; exact congrArg (fun z => [(q, ia Z n (ni z))]) (takeR_of e_C (by split <;> omega) (by rw [hC7]; split <;> omega))⟩)
            · skip
              refine j_iconst hJ (q := 105) dX9_goTick_104 rfl ki_1 ?_
              refine j_goto hJ (q := 109) dX9_goTick_105 (by decide) ?_
              refine j_iadd hJ (q := 110) dX9_goTick_109 rfl (nI_add _ _) ?_
              refine j_iastN hJ (q := 111) (ws' := [(q, ia Z n (ni (va_up C 7 (C 7 + 1))))]) dX9_goTick_110 0 rfl (by omega) (by omega) (ni_up _ _ _) rfl rfl ?_
              refine j_iload_n hJ (q := 112) dX9_goTick_111 rfl 0 rfl rfl ?_
              have hg : goT A sl = (some i9, takeR B i9) := goT_s e_B (by assumption) (rchr_s o8 (by omega))
              exact hE.1 _ _ _ _ _ _ _ rfl rfl dX9_goTick_112 (Nat.le_refl _) (Nat.le_refl _) (⟨congrArg (fun z => some (Value.int (oI z))) (show some i9 = (goT A sl).1 by rw [hg]), by rw [hg]; exact congrArg (fun z => [(q, ia Z n (ni z))]) (takeR_of e_C (by split <;> omega) (by rw [hC7]; split <;> omega))⟩)
        · skip
          refine j_iconst hJ (q := 64) dX9_goTick_63 rfl ki_m1 ?_
          have hg : goT A sl = (none, B) := goT_n e_B (by first | exact Or.inl (by assumption) | exact Or.inr (rchr_n0 o8) | exact Or.inr (rchr_n1 o8 (by omega)))
          exact hE.1 _ _ _ _ _ _ _ rfl rfl dX9_goTick_64 (Nat.le_refl _) (Nat.le_refl _) (⟨congrArg (fun z => some (Value.int (oI z))) (show none = (goT A sl).1 by rw [hg]), by rw [hg]⟩)

set_option maxHeartbeats 4000000 in
set_option maxRecDepth 100000 in
theorem c_X9_goTicks (Z : jZ) (q : Nat) (n : Nat) (A : Nat → Nat) (m : Nat) (hn : 58 ≤ n ∧ n < 1000) (hw : wf A) (hm : m < 1000000) : CT Z yX9_goTicks cX9_goTicks 4 (none) 5 0 0 [.ref q, .int (nI m)] [(q, ia Z n (ni A))] (fun rr ww => rr = none ∧ ww = [(q, ia Z n (ni (goN m A)))]) := by
  refine CT.of RX9 false rfl (fun h => by cases h) (by decide +kernel) (Nat.le_of_ble_eq_true rfl) ?_
  intro J hJ hE
  show J 0 [(0, .ref q), (1, .int (nI m))] [] [(q, ia Z n (ni A))] 0 0
  refine j_iconst hJ (q := 1) dX9_goTicks_0 rfl ki_0 ?_
  refine j_istore_n hJ (q := 2) (lvs' := [(2, .int (nI 0)), (0, .ref q), (1, .int (nI m))]) dX9_goTicks_1 rfl (by decide) rfl rfl ?_
  have L_2 : ∀ (fu_2 : Nat) (B : Nat → Nat) (k : Nat), m - k < fu_2 → (k ≤ m) → (goN (m - k) B = goN m A) → (wf B) → J 2 [(0, .ref q), (1, .int (nI m)), (2, .int (nI k))] [] [(q, ia Z n (ni B))] 0 0 := by
    intro fu_2
    induction fu_2 with
    | zero => intro B k hm; exact absurd hm (Nat.not_lt_zero _)
    | succ fu_2 ih_2 =>
      intro B k hm_2 hk hB hwB
      have Bb := hwB.2.1
      refine j_iload_n hJ (q := 3) dX9_goTicks_2 rfl 2 rfl rfl ?_
      refine j_iload_n hJ (q := 4) dX9_goTicks_3 rfl 1 rfl rfl ?_
      refine jn_icmp_ge hJ (q := 7) (tgt := 29) dX9_goTicks_4 (by decide) rfl (by omega) (by omega) (fun c1 => ?_) (fun c1 => ?_)
      · skip
        exact hE.2.2 _ _ _ _ _ rfl dX9_goTicks_29 (Nat.le_refl _) (Nat.le_refl _) (⟨rfl, by first | rw [← hB, show m - k = 0 by omega]; rfl | rw [← hB, goN_out (by omega)]⟩)
      · skip
        refine j_aload_n hJ (q := 8) dX9_goTicks_7 rfl 0 rfl rfl ?_
        refine j_bipush hJ (q := 10) dX9_goTicks_8 rfl kb_8 ?_
        refine j_ialdN hJ (q := 11) (z := nI (B 8)) dX9_goTicks_10 0 rfl (by omega) (by omega) rfl rfl ?_
        have b2 := Bb 8
        refine j_sipush hJ (q := 14) dX9_goTicks_11 rfl ks_9999 ?_
        refine jn_icmp_ge hJ (q := 17) (tgt := 29) dX9_goTicks_14 (by decide) rfl (by omega) (by omega) (fun c3 => ?_) (fun c3 => ?_)
        · skip
          exact hE.2.2 _ _ _ _ _ rfl dX9_goTicks_29 (Nat.le_refl _) (Nat.le_refl _) (⟨rfl, by first | rw [← hB, show m - k = 0 by omega]; rfl | rw [← hB, goN_out (by omega)]⟩)
        · skip
          refine j_aload_n hJ (q := 18) dX9_goTicks_17 rfl 0 rfl rfl ?_
          refine j_iconst hJ (q := 19) dX9_goTicks_18 rfl ki_0 ?_
          refine j_sW hJ (q := 22) (rest := []) (As := [.ref q, .int (bI false)]) (wr := []) jl_X9_116 (c_X9_goTick Z q n B false (by omega) hwB (by omega)) dX9_goTicks_19 rfl (by decide) (Nat.le_of_ble_eq_true rfl) [0] [] rfl rfl rfl rfl (by decide) rfl (fun rv wv hp => ?_)
          obtain ⟨rfl, rfl⟩ := hp
          show J 22 [(0, .ref q), (1, .int (nI m)), (2, .int (nI k))] [.int (oI ((goT B false).1))] [(q, ia Z n (ni ((goT B false).2)))] 0 0
          refine j_istore_n hJ (q := 23) (lvs' := [(3, .int (oI ((goT B false).1))), (0, .ref q), (1, .int (nI m)), (2, .int (nI k))]) dX9_goTicks_22 rfl (by decide) rfl rfl ?_
          refine j_iinc hJ (q := 26) (lvs' := [(2, .int (nI (k + 1))), (3, .int (oI ((goT B false).1))), (0, .ref q), (1, .int (nI m))]) dX9_goTicks_23 3 rfl (by rw [show Int32.ofInt 1 = nI 1 from by decide +kernel]; exact nI_add _ _) (by decide) rfl rfl ?_
          refine j_goto hJ (q := 2) dX9_goTicks_26 (by decide) ?_
          refine j_locals hJ [2, 3, 0] rfl ?_
          exact ih_2 ((goT B false).2) (k + 1) (by omega) (by omega) (by rw [← hB, show m - k = (m - (k + 1)) + 1 by omega]; simp only [goN]; rw [if_pos (by omega)]) (wf_goT false hwB (by omega))
  refine j_locals hJ [1, 2, 0] rfl ?_
  exact L_2 ((m - 0) + 1) A 0 (Nat.lt_succ_self _) (by omega) rfl hw

set_option maxHeartbeats 4000000 in
set_option maxRecDepth 100000 in
theorem c_X9_layHand (Z : jZ) (h : Nat) (q : Nat → Nat) (ab : Int) (be : Int) (bl : Nat) (ta : Nat) (tl : Nat) (tk : Nat) (va : Nat) (A : Nat → Nat) (Hd : Nat → Nat)  : CT Z yX9_layHand cX9_layHand 2 (none) 1 0 0 [.ref h] [mO h q ab be bl ta tl tk va, (q 0, ia Z 266 (ni A)), (q 4, ia Z 58 (ni Hd))] (fun rr ww => rr = none ∧ ww = [mO h q ab be bl ta tl tk va, (q 0, ia Z 266 (ni A)), (q 4, ia Z 58 (ni A))]) := by
  refine CT.of RX9 false rfl (fun h => by cases h) (by decide +kernel) (Nat.le_of_ble_eq_true rfl) ?_
  intro J hJ hE
  show J 0 [(0, .ref h)] [] [mO h q ab be bl ta tl tk va, (q 0, ia Z 266 (ni A)), (q 4, ia Z 58 (ni Hd))] 0 0
  refine j_iconst hJ (q := 1) dX9_layHand_0 rfl ki_0 ?_
  refine j_istore_n hJ (q := 2) (lvs' := [(1, .int (nI 0)), (0, .ref h)]) dX9_layHand_1 rfl (by decide) rfl rfl ?_
  have L_2 : ∀ (fu_2 : Nat) (B : Nat → Nat) (i : Nat), 58 - i < fu_2 → (i ≤ 58) → (∀ j, j < i → B j = A j) → J 2 [(0, .ref h), (1, .int (nI i))] [] [mO h q ab be bl ta tl tk va, (q 0, ia Z 266 (ni A)), (q 4, ia Z 58 (ni B))] 0 0 := by
    intro fu_2
    induction fu_2 with
    | zero => intro B i hm; exact absurd hm (Nat.not_lt_zero _)
    | succ fu_2 ih_2 =>
      intro B i hm_2 hi hB
      refine j_iload_n hJ (q := 3) dX9_layHand_2 rfl 1 rfl rfl ?_
      refine j_bipush hJ (q := 5) dX9_layHand_3 rfl kb_58 ?_
      refine jn_icmp_ge hJ (q := 8) (tgt := 26) dX9_layHand_5 (by decide) rfl (by omega) (by omega) (fun c1 => ?_) (fun c1 => ?_)
      · skip
        refine j_ext hJ (ws' := [mO h q ab be bl ta tl tk va, (q 0, ia Z 266 (ni A)), (q 4, ia Z 58 (ni A))]) (g := ni A) 2 rfl (fun j hj => congrArg nI (hB j (by omega))) rfl ?_
        exact hE.2.2 _ _ _ _ _ rfl dX9_layHand_26 (Nat.le_refl _) (Nat.le_refl _) (⟨rfl, rfl⟩)
      · skip
        refine j_aload_n hJ (q := 9) dX9_layHand_8 rfl 0 rfl rfl ?_
        refine j_get hJ (q := 12) jf_X9_27 dX9_layHand_9 0 rfl rfl rfl ?_
        refine j_iload_n hJ (q := 13) dX9_layHand_12 rfl 1 rfl rfl ?_
        refine j_aload_n hJ (q := 14) dX9_layHand_13 rfl 0 rfl rfl ?_
        refine j_get hJ (q := 17) jf_X9_7 dX9_layHand_14 0 rfl rfl rfl ?_
        refine j_iload_n hJ (q := 18) dX9_layHand_17 rfl 1 rfl rfl ?_
        refine j_ialdN hJ (q := 19) (z := nI (A i)) dX9_layHand_18 1 rfl (by omega) (by decide) rfl rfl ?_
        refine j_iastN hJ (q := 20) (ws' := [mO h q ab be bl ta tl tk va, (q 0, ia Z 266 (ni A)), (q 4, ia Z 58 (ni (va_up B i (A i))))]) dX9_layHand_19 2 rfl (by omega) (by decide) (ni_up _ _ _) rfl rfl ?_
        refine j_iinc hJ (q := 23) (lvs' := [(1, .int (nI (i + 1))), (0, .ref h)]) dX9_layHand_20 1 rfl (by rw [show Int32.ofInt 1 = nI 1 from by decide +kernel]; exact nI_add _ _) (by decide) rfl rfl ?_
        refine j_goto hJ (q := 2) dX9_layHand_23 (by decide) ?_
        refine j_locals hJ [1, 0] rfl ?_
        exact ih_2 (va_up B i (A i)) (i + 1) (by omega) (by omega) (fun j hj => by simp only [va_up]; by_cases h : j = i <;> simp only [h, if_true, if_false]; exact hB j (by omega))
  refine j_locals hJ [1, 0] rfl ?_
  exact L_2 ((58 - 0) + 1) Hd 0 (Nat.lt_succ_self _) (by omega) (fun j hj => absurd hj (Nat.not_lt_zero _))

set_option maxHeartbeats 4000000 in
set_option maxRecDepth 100000 in
theorem c_X9_save (Z : jZ) (h : Nat) (q : Nat → Nat) (ab : Int) (be : Int) (bl : Nat) (ta : Nat) (tl : Nat) (tk : Nat) (va : Nat) (A : Nat → Nat) (h4 : A 4 ≤ 8) (hb : ∀ j, A j < 100000) : CT Z yX9_save cX9_save 2 (none) 1 0 0 [.ref h] [mO h q ab be bl ta tl tk va, (q 0, ia Z 266 (ni A))] (fun rr ww => rr = none ∧ ww = [mO h q ab be bl ta tl tk va, (q 0, ia Z 266 (ni (saved A)))]) := by
  refine CT.of RX9 false rfl (fun h => by cases h) (by decide +kernel) (Nat.le_of_ble_eq_true rfl) ?_
  intro J hJ hE
  show J 0 [(0, .ref h)] [] [mO h q ab be bl ta tl tk va, (q 0, ia Z 266 (ni A))] 0 0
  refine j_aload_n hJ (q := 1) dX9_save_0 rfl 0 rfl rfl ?_
  refine j_get hJ (q := 4) jf_X9_7 dX9_save_1 0 rfl rfl rfl ?_
  refine j_iconst hJ (q := 5) dX9_save_4 rfl ki_4 ?_
  refine j_ialdN hJ (q := 6) (z := nI (A 4)) dX9_save_5 1 rfl (by decide) (by decide) rfl rfl ?_
  have b1 := hb 4
  refine j_bipush hJ (q := 8) dX9_save_6 rfl kb_8 ?_
  refine jn_icmp_ne hJ (q := 11) (tgt := 53) dX9_save_8 (by decide) rfl (by omega) (by omega) (fun c2 => ?_) (fun c2 => ?_)
  · skip
    obtain ⟨C, e_C⟩ : ∃ z : Nat → Nat, z = A := ⟨_, rfl⟩
    refine j_eqw (ws' := [mO h q ab be bl ta tl tk va, (q 0, ia Z 266 (ni C))]) (by subst e_C; rfl) ?_
    have hC : C = pushed A := by first | (rw [e_C, hB, show i = 112 by omega]; simp only [pushed]; rw [if_pos (by omega)]) | (rw [e_C]; simp only [pushed]; rw [if_neg (by omega)])
    have hC4 : C 4 ≤ 7 := by rw [hC]; simp only [pushed]; split <;> first | (simp [va_up]; done) | omega
    refine j_iconst hJ (q := 54) dX9_save_53 rfl ki_0 ?_
    refine j_istore_n hJ (q := 55) (lvs' := [(1, .int (nI 0)), (0, .ref h)]) dX9_save_54 rfl (by decide) rfl rfl ?_
    have L_55 : ∀ (fu_55 : Nat) (D : Nat → Nat) (k : Nat), 16 - k < fu_55 → (k ≤ 16) → (D = put16 C (C 4) k) → J 55 [(0, .ref h), (1, .int (nI k))] [] [mO h q ab be bl ta tl tk va, (q 0, ia Z 266 (ni D))] 0 0 := by
      intro fu_55
      induction fu_55 with
      | zero => intro D k hm; exact absurd hm (Nat.not_lt_zero _)
      | succ fu_55 ih_55 =>
        intro D k hm_55 hk hD
        have hD4 : D 4 = C 4 := by rw [hD]; simp only [put16]; rw [if_neg (by omega)]
        refine j_iload_n hJ (q := 56) dX9_save_55 rfl 1 rfl rfl ?_
        refine j_bipush hJ (q := 58) dX9_save_56 rfl kb_16 ?_
        refine jn_icmp_ge hJ (q := 61) (tgt := 95) dX9_save_58 (by decide) rfl (by omega) (by omega) (fun c3 => ?_) (fun c3 => ?_)
        · skip
          refine j_aload_n hJ (q := 96) dX9_save_95 rfl 0 rfl rfl ?_
          refine j_get hJ (q := 99) jf_X9_7 dX9_save_96 0 rfl rfl rfl ?_
          refine j_iconst hJ (q := 100) dX9_save_99 rfl ki_4 ?_
          refine j_dup2 hJ (q := 101) dX9_save_100 rfl rfl rfl ?_
          refine j_ialdN hJ (q := 102) (z := nI (D 4)) dX9_save_101 1 rfl (by decide) (by decide) rfl rfl ?_
          refine j_iconst hJ (q := 103) dX9_save_102 rfl ki_1 ?_
          refine j_iadd hJ (q := 104) dX9_save_103 rfl (nI_add _ _) ?_
          refine j_iastN hJ (q := 105) (ws' := [mO h q ab be bl ta tl tk va, (q 0, ia Z 266 (ni (va_up D 4 (D 4 + 1))))]) dX9_save_104 1 rfl (by decide) (by decide) (ni_up _ _ _) rfl rfl ?_
          exact hE.2.2 _ _ _ _ _ rfl dX9_save_105 (Nat.le_refl _) (Nat.le_refl _) (⟨rfl, by rw [hD4, hD, show k = 16 by omega, hC]; rfl⟩)
        · skip
          refine j_aload_n hJ (q := 62) dX9_save_61 rfl 0 rfl rfl ?_
          refine j_get hJ (q := 65) jf_X9_7 dX9_save_62 0 rfl rfl rfl ?_
          refine j_sipush hJ (q := 68) dX9_save_65 rfl ks_138 ?_
          refine j_bipush hJ (q := 70) dX9_save_68 rfl kb_16 ?_
          refine j_aload_n hJ (q := 71) dX9_save_70 rfl 0 rfl rfl ?_
          refine j_get hJ (q := 74) jf_X9_7 dX9_save_71 0 rfl rfl rfl ?_
          refine j_iconst hJ (q := 75) dX9_save_74 rfl ki_4 ?_
          refine j_ialdN hJ (q := 76) (z := nI (D 4)) dX9_save_75 1 rfl (by decide) (by decide) rfl rfl ?_
          refine j_imul hJ (q := 77) dX9_save_76 rfl (pk_mul _ _) ?_
          refine j_iadd hJ (q := 78) dX9_save_77 rfl (nI_add _ _) ?_
          refine j_iload_n hJ (q := 79) dX9_save_78 rfl 1 rfl rfl ?_
          refine j_iadd hJ (q := 80) dX9_save_79 rfl (nI_add _ _) ?_
          refine j_aload_n hJ (q := 81) dX9_save_80 rfl 0 rfl rfl ?_
          refine j_get hJ (q := 84) jf_X9_7 dX9_save_81 0 rfl rfl rfl ?_
          refine j_iconst hJ (q := 85) dX9_save_84 rfl ki_5 ?_
          refine j_iload_n hJ (q := 86) dX9_save_85 rfl 1 rfl rfl ?_
          refine j_iadd hJ (q := 87) dX9_save_86 rfl (nI_add _ _) ?_
          refine j_ialdN hJ (q := 88) (z := nI (D (5 + k))) dX9_save_87 1 rfl (by omega) (by decide) rfl rfl ?_
          refine j_iastN hJ (q := 89) (ws' := [mO h q ab be bl ta tl tk va, (q 0, ia Z 266 (ni (va_up D (138 + (16 * (D 4)) + k) (D (5 + k)))))]) dX9_save_88 1 rfl (by omega) (by decide) (ni_up _ _ _) rfl rfl ?_
          refine j_iinc hJ (q := 92) (lvs' := [(1, .int (nI (k + 1))), (0, .ref h)]) dX9_save_89 1 rfl (by rw [show Int32.ofInt 1 = nI 1 from by decide +kernel]; exact nI_add _ _) (by decide) rfl rfl ?_
          refine j_goto hJ (q := 55) dX9_save_92 (by decide) ?_
          refine j_locals hJ [1, 0] rfl ?_
          exact ih_55 (va_up D (138 + (16 * (D 4)) + k) (D (5 + k))) (k + 1) (by omega) (by omega) (by rw [hD4, hD]; exact put16_up C (by omega))
    refine j_locals hJ [1, 0] rfl ?_
    exact L_55 ((16 - 0) + 1) C 0 (Nat.lt_succ_self _) (by omega) (put16_0 C _)
  · skip
    refine j_iconst hJ (q := 12) dX9_save_11 rfl ki_0 ?_
    refine j_istore_n hJ (q := 13) (lvs' := [(1, .int (nI 0)), (0, .ref h)]) dX9_save_12 rfl (by decide) rfl rfl ?_
    have L_13 : ∀ (fu_13 : Nat) (B : Nat → Nat) (i : Nat), 112 - i < fu_13 → (i ≤ 112) → (B = shf A i) → J 13 [(0, .ref h), (1, .int (nI i))] [] [mO h q ab be bl ta tl tk va, (q 0, ia Z 266 (ni B))] 0 0 := by
      intro fu_13
      induction fu_13 with
      | zero => intro B i hm; exact absurd hm (Nat.not_lt_zero _)
      | succ fu_13 ih_13 =>
        intro B i hm_13 hi hB
        refine j_iload_n hJ (q := 14) dX9_save_13 rfl 1 rfl rfl ?_
        refine j_bipush hJ (q := 16) dX9_save_14 rfl kb_112 ?_
        refine jn_icmp_ge hJ (q := 19) (tgt := 45) dX9_save_16 (by decide) rfl (by omega) (by omega) (fun c4 => ?_) (fun c4 => ?_)
        · skip
          refine j_aload_n hJ (q := 46) dX9_save_45 rfl 0 rfl rfl ?_
          refine j_get hJ (q := 49) jf_X9_7 dX9_save_46 0 rfl rfl rfl ?_
          refine j_iconst hJ (q := 50) dX9_save_49 rfl ki_4 ?_
          refine j_bipush hJ (q := 52) dX9_save_50 rfl kb_7 ?_
          refine j_iastN hJ (q := 53) (ws' := [mO h q ab be bl ta tl tk va, (q 0, ia Z 266 (ni (va_up B 4 7)))]) dX9_save_52 1 rfl (by decide) (by decide) (ni_up _ _ _) rfl rfl ?_
          obtain ⟨C, e_C⟩ : ∃ z : Nat → Nat, z = va_up B 4 7 := ⟨_, rfl⟩
          refine j_eqw (ws' := [mO h q ab be bl ta tl tk va, (q 0, ia Z 266 (ni C))]) (by subst e_C; rfl) ?_
          have hC : C = pushed A := by first | (rw [e_C, hB, show i = 112 by omega]; simp only [pushed]; rw [if_pos (by omega)]) | (rw [e_C]; simp only [pushed]; rw [if_neg (by omega)])
          have hC4 : C 4 ≤ 7 := by rw [hC]; simp only [pushed]; split <;> first | (simp [va_up]; done) | omega
          refine j_iconst hJ (q := 54) dX9_save_53 rfl ki_0 ?_
          refine j_istore_n hJ (q := 55) (lvs' := [(1, .int (nI 0)), (0, .ref h)]) dX9_save_54 rfl (by decide) rfl rfl ?_
          have L_55 : ∀ (fu_55 : Nat) (D : Nat → Nat) (k : Nat), 16 - k < fu_55 → (k ≤ 16) → (D = put16 C (C 4) k) → J 55 [(0, .ref h), (1, .int (nI k))] [] [mO h q ab be bl ta tl tk va, (q 0, ia Z 266 (ni D))] 0 0 := by
            intro fu_55
            induction fu_55 with
            | zero => intro D k hm; exact absurd hm (Nat.not_lt_zero _)
            | succ fu_55 ih_55 =>
              intro D k hm_55 hk hD
              have hD4 : D 4 = C 4 := by rw [hD]; simp only [put16]; rw [if_neg (by omega)]
              refine j_iload_n hJ (q := 56) dX9_save_55 rfl 1 rfl rfl ?_
              refine j_bipush hJ (q := 58) dX9_save_56 rfl kb_16 ?_
              refine jn_icmp_ge hJ (q := 61) (tgt := 95) dX9_save_58 (by decide) rfl (by omega) (by omega) (fun c5 => ?_) (fun c5 => ?_)
              · skip
                refine j_aload_n hJ (q := 96) dX9_save_95 rfl 0 rfl rfl ?_
                refine j_get hJ (q := 99) jf_X9_7 dX9_save_96 0 rfl rfl rfl ?_
                refine j_iconst hJ (q := 100) dX9_save_99 rfl ki_4 ?_
                refine j_dup2 hJ (q := 101) dX9_save_100 rfl rfl rfl ?_
                refine j_ialdN hJ (q := 102) (z := nI (D 4)) dX9_save_101 1 rfl (by decide) (by decide) rfl rfl ?_
                refine j_iconst hJ (q := 103) dX9_save_102 rfl ki_1 ?_
                refine j_iadd hJ (q := 104) dX9_save_103 rfl (nI_add _ _) ?_
                refine j_iastN hJ (q := 105) (ws' := [mO h q ab be bl ta tl tk va, (q 0, ia Z 266 (ni (va_up D 4 (D 4 + 1))))]) dX9_save_104 1 rfl (by decide) (by decide) (ni_up _ _ _) rfl rfl ?_
                exact hE.2.2 _ _ _ _ _ rfl dX9_save_105 (Nat.le_refl _) (Nat.le_refl _) (⟨rfl, by rw [hD4, hD, show k = 16 by omega, hC]; rfl⟩)
              · skip
                refine j_aload_n hJ (q := 62) dX9_save_61 rfl 0 rfl rfl ?_
                refine j_get hJ (q := 65) jf_X9_7 dX9_save_62 0 rfl rfl rfl ?_
                refine j_sipush hJ (q := 68) dX9_save_65 rfl ks_138 ?_
                refine j_bipush hJ (q := 70) dX9_save_68 rfl kb_16 ?_
                refine j_aload_n hJ (q := 71) dX9_save_70 rfl 0 rfl rfl ?_
                refine j_get hJ (q := 74) jf_X9_7 dX9_save_71 0 rfl rfl rfl ?_
                refine j_iconst hJ (q := 75) dX9_save_74 rfl ki_4 ?_
                refine j_ialdN hJ (q := 76) (z := nI (D 4)) dX9_save_75 1 rfl (by decide) (by decide) rfl rfl ?_
                refine j_imul hJ (q := 77) dX9_save_76 rfl (pk_mul _ _) ?_
                refine j_iadd hJ (q := 78) dX9_save_77 rfl (nI_add _ _) ?_
                refine j_iload_n hJ (q := 79) dX9_save_78 rfl 1 rfl rfl ?_
                refine j_iadd hJ (q := 80) dX9_save_79 rfl (nI_add _ _) ?_
                refine j_aload_n hJ (q := 81) dX9_save_80 rfl 0 rfl rfl ?_
                refine j_get hJ (q := 84) jf_X9_7 dX9_save_81 0 rfl rfl rfl ?_
                refine j_iconst hJ (q := 85) dX9_save_84 rfl ki_5 ?_
                refine j_iload_n hJ (q := 86) dX9_save_85 rfl 1 rfl rfl ?_
                refine j_iadd hJ (q := 87) dX9_save_86 rfl (nI_add _ _) ?_
                refine j_ialdN hJ (q := 88) (z := nI (D (5 + k))) dX9_save_87 1 rfl (by omega) (by decide) rfl rfl ?_
                refine j_iastN hJ (q := 89) (ws' := [mO h q ab be bl ta tl tk va, (q 0, ia Z 266 (ni (va_up D (138 + (16 * (D 4)) + k) (D (5 + k)))))]) dX9_save_88 1 rfl (by omega) (by decide) (ni_up _ _ _) rfl rfl ?_
                refine j_iinc hJ (q := 92) (lvs' := [(1, .int (nI (k + 1))), (0, .ref h)]) dX9_save_89 1 rfl (by rw [show Int32.ofInt 1 = nI 1 from by decide +kernel]; exact nI_add _ _) (by decide) rfl rfl ?_
                refine j_goto hJ (q := 55) dX9_save_92 (by decide) ?_
                refine j_locals hJ [1, 0] rfl ?_
                exact ih_55 (va_up D (138 + (16 * (D 4)) + k) (D (5 + k))) (k + 1) (by omega) (by omega) (by rw [hD4, hD]; exact put16_up C (by omega))
          refine j_locals hJ [1, 0] rfl ?_
          exact L_55 ((16 - 0) + 1) C 0 (Nat.lt_succ_self _) (by omega) (put16_0 C _)
        · skip
          refine j_aload_n hJ (q := 20) dX9_save_19 rfl 0 rfl rfl ?_
          refine j_get hJ (q := 23) jf_X9_7 dX9_save_20 0 rfl rfl rfl ?_
          refine j_sipush hJ (q := 26) dX9_save_23 rfl ks_138 ?_
          refine j_iload_n hJ (q := 27) dX9_save_26 rfl 1 rfl rfl ?_
          refine j_iadd hJ (q := 28) dX9_save_27 rfl (nI_add _ _) ?_
          refine j_aload_n hJ (q := 29) dX9_save_28 rfl 0 rfl rfl ?_
          refine j_get hJ (q := 32) jf_X9_7 dX9_save_29 0 rfl rfl rfl ?_
          refine j_sipush hJ (q := 35) dX9_save_32 rfl ks_154 ?_
          refine j_iload_n hJ (q := 36) dX9_save_35 rfl 1 rfl rfl ?_
          refine j_iadd hJ (q := 37) dX9_save_36 rfl (nI_add _ _) ?_
          refine j_ialdN hJ (q := 38) (z := nI (B (154 + i))) dX9_save_37 1 rfl (by omega) (by decide) rfl rfl ?_
          refine j_iastN hJ (q := 39) (ws' := [mO h q ab be bl ta tl tk va, (q 0, ia Z 266 (ni (va_up B (138 + i) (B (154 + i)))))]) dX9_save_38 1 rfl (by omega) (by decide) (ni_up _ _ _) rfl rfl ?_
          refine j_iinc hJ (q := 42) (lvs' := [(1, .int (nI (i + 1))), (0, .ref h)]) dX9_save_39 1 rfl (by rw [show Int32.ofInt 1 = nI 1 from by decide +kernel]; exact nI_add _ _) (by decide) rfl rfl ?_
          refine j_goto hJ (q := 13) dX9_save_42 (by decide) ?_
          refine j_locals hJ [1, 0] rfl ?_
          exact ih_13 (va_up B (138 + i) (B (154 + i))) (i + 1) (by omega) (by omega) (by rw [hB]; exact shf_up A (by omega))
    refine j_locals hJ [1, 0] rfl ?_
    exact L_13 ((112 - 0) + 1) A 0 (Nat.lt_succ_self _) (by omega) (shf_0 A)

set_option maxHeartbeats 4000000 in
set_option maxRecDepth 100000 in
theorem c_X9_taken (Z : jZ) (h : Nat) (q : Nat → Nat) (ab : Int) (be : Int) (bl : Nat) (ta : Nat) (tl : Nat) (tk : Nat) (va : Nat) (Hd : Nat → Nat) (i : Nat) (m : Nat) (hw : wf Hd) (hi : i < 100) (hm : m < 1000) (ht : Hd 8 + m < 90000) : CT Z yX9_taken cX9_taken 5 ((some FieldType.int)) 5 0 0 [.ref h, .int (nI i), .int (nI m)] [mO h q ab be bl ta tl tk va, (q 4, ia Z 58 (ni Hd))] (fun rr ww => ∃ Hx : Nat → Nat, rr = some (.int (nI (tkn i m Hd))) ∧ ww = [mO h q ab be bl ta tl tk va, (q 4, ia Z 58 (ni Hx))]) := by
  refine CT.of RX9 false rfl (fun h => by cases h) (by decide +kernel) (Nat.le_of_ble_eq_true rfl) ?_
  intro J hJ hE
  show J 0 [(0, .ref h), (1, .int (nI i)), (2, .int (nI m))] [] [mO h q ab be bl ta tl tk va, (q 4, ia Z 58 (ni Hd))] 0 0
  refine j_iconst hJ (q := 1) dX9_taken_0 rfl ki_0 ?_
  refine j_istore_n hJ (q := 2) (lvs' := [(3, .int (nI 0)), (0, .ref h), (1, .int (nI i)), (2, .int (nI m))]) dX9_taken_1 rfl (by decide) rfl rfl ?_
  refine j_iconst hJ (q := 3) dX9_taken_2 rfl ki_0 ?_
  refine j_istore hJ (q := 5) (lvs' := [(4, .int (nI 0)), (3, .int (nI 0)), (0, .ref h), (1, .int (nI i)), (2, .int (nI m))]) dX9_taken_3 (by decide) rfl rfl ?_
  have L_5 : ∀ (fu_5 : Nat) (B : Nat → Nat) (c : Nat) (k : Nat), m - k < fu_5 → (k ≤ m) → (c + tkn i (m - k) B = tkn i m Hd) → (wf B) → (B 8 + (m - k) < 90000) → J 5 [(0, .ref h), (1, .int (nI i)), (2, .int (nI m)), (3, .int (nI c)), (4, .int (nI k))] [] [mO h q ab be bl ta tl tk va, (q 4, ia Z 58 (ni B))] 0 0 := by
    intro fu_5
    induction fu_5 with
    | zero => intro B c k hm; exact absurd hm (Nat.not_lt_zero _)
    | succ fu_5 ih_5 =>
      intro B c k hm_5 hk hB hwB hBt
      refine j_iload hJ (q := 7) dX9_taken_5 4 rfl rfl ?_
      refine j_iload_n hJ (q := 8) dX9_taken_7 rfl 2 rfl rfl ?_
      refine jn_icmp_ge hJ (q := 11) (tgt := 37) dX9_taken_8 (by decide) rfl (by omega) (by omega) (fun c1 => ?_) (fun c1 => ?_)
      · skip
        refine j_iload_n hJ (q := 38) dX9_taken_37 rfl 3 rfl rfl ?_
        exact hE.1 _ _ _ _ _ _ _ rfl rfl dX9_taken_38 (Nat.le_refl _) (Nat.le_refl _) (⟨B, congrArg (fun z => some (Value.int (nI z))) (by rw [← hB, show m - k = 0 by omega]; simp only [tkn, Nat.add_zero]), rfl⟩)
      · skip
        refine j_iload_n hJ (q := 12) dX9_taken_11 rfl 3 rfl rfl ?_
        refine j_aload_n hJ (q := 13) dX9_taken_12 rfl 0 rfl rfl ?_
        refine j_get hJ (q := 16) jf_X9_27 dX9_taken_13 0 rfl rfl rfl ?_
        refine j_iconst hJ (q := 17) dX9_taken_16 rfl ki_0 ?_
        refine j_sW hJ (q := 20) (rest := [.int (nI c)]) (As := [.ref (q 4), .int (bI false)]) (wr := [mO h q ab be bl ta tl tk va]) jl_X9_116 (c_X9_goTick Z (q 4) 58 B false (by omega) hwB (by omega)) dX9_taken_17 rfl (by decide) (Nat.le_of_ble_eq_true rfl) [1] [0] rfl rfl rfl rfl (by decide) rfl (fun rv wv hp => ?_)
        obtain ⟨rfl, rfl⟩ := hp
        show J 20 [(0, .ref h), (1, .int (nI i)), (2, .int (nI m)), (3, .int (nI c)), (4, .int (nI k))] [.int (oI ((goT B false).1)), .int (nI c)] [mO h q ab be bl ta tl tk va, ((q 4), ia Z 58 (ni ((goT B false).2)))] 0 0
        refine j_caseo (fun o2 => ?_) (fun i3 o2 => ?_)
        · skip
          refine j_iload_n hJ (q := 21) dX9_taken_20 rfl 1 rfl rfl ?_
          refine jz_icmp_ne hJ (q := 24) (tgt := 28) dX9_taken_21 (by decide) rfl rfl (zI_nat i).symm (by omega) (by omega) (fun c4 => ?_) (fun c4 => ?_)
          · skip
            refine j_iconst hJ (q := 29) dX9_taken_28 rfl ki_0 ?_
            refine j_iadd hJ (q := 30) dX9_taken_29 rfl (nI_add _ _) ?_
            refine j_istore_n hJ (q := 31) (lvs' := [(3, .int (nI (c + 0))), (0, .ref h), (1, .int (nI i)), (2, .int (nI m)), (4, .int (nI k))]) dX9_taken_30 rfl (by decide) rfl rfl ?_
            refine j_iinc hJ (q := 34) (lvs' := [(4, .int (nI (k + 1))), (3, .int (nI (c + 0))), (0, .ref h), (1, .int (nI i)), (2, .int (nI m))]) dX9_taken_31 4 rfl (by rw [show Int32.ofInt 1 = nI 1 from by decide +kernel]; exact nI_add _ _) (by decide) rfl rfl ?_
            refine j_goto hJ (q := 5) dX9_taken_34 (by decide) ?_
            refine j_locals hJ [2, 3, 4, 1, 0] rfl ?_
            exact ih_5 ((goT B false).2) (c + 0) (k + 1) (by omega) (by omega) (by rw [← hB, show m - k = (m - (k + 1)) + 1 by omega]; simp only [tkn]; split <;> simp_all <;> omega) (wf_goT false hwB (by omega)) (by rw [goT_8]; omega)
          · skip
            exfalso; omega
        · skip
          have hlt := goT_lt o2
          have hl6 := hwB.1.2.2.2.2.2
          refine j_iload_n hJ (q := 21) dX9_taken_20 rfl 1 rfl rfl ?_
          refine jn_icmp_ne hJ (q := 24) (tgt := 28) dX9_taken_21 (by decide) rfl (by omega) (by omega) (fun c5 => ?_) (fun c5 => ?_)
          · skip
            refine j_iconst hJ (q := 29) dX9_taken_28 rfl ki_0 ?_
            refine j_iadd hJ (q := 30) dX9_taken_29 rfl (nI_add _ _) ?_
            refine j_istore_n hJ (q := 31) (lvs' := [(3, .int (nI (c + 0))), (0, .ref h), (1, .int (nI i)), (2, .int (nI m)), (4, .int (nI k))]) dX9_taken_30 rfl (by decide) rfl rfl ?_
            refine j_iinc hJ (q := 34) (lvs' := [(4, .int (nI (k + 1))), (3, .int (nI (c + 0))), (0, .ref h), (1, .int (nI i)), (2, .int (nI m))]) dX9_taken_31 4 rfl (by rw [show Int32.ofInt 1 = nI 1 from by decide +kernel]; exact nI_add _ _) (by decide) rfl rfl ?_
            refine j_goto hJ (q := 5) dX9_taken_34 (by decide) ?_
            refine j_locals hJ [2, 3, 4, 1, 0] rfl ?_
            exact ih_5 ((goT B false).2) (c + 0) (k + 1) (by omega) (by omega) (by rw [← hB, show m - k = (m - (k + 1)) + 1 by omega]; simp only [tkn]; split <;> simp_all <;> omega) (wf_goT false hwB (by omega)) (by rw [goT_8]; omega)
          · skip
            refine j_iconst hJ (q := 25) dX9_taken_24 rfl ki_1 ?_
            refine j_goto hJ (q := 29) dX9_taken_25 (by decide) ?_
            refine j_iadd hJ (q := 30) dX9_taken_29 rfl (nI_add _ _) ?_
            refine j_istore_n hJ (q := 31) (lvs' := [(3, .int (nI (c + 1))), (0, .ref h), (1, .int (nI i)), (2, .int (nI m)), (4, .int (nI k))]) dX9_taken_30 rfl (by decide) rfl rfl ?_
            refine j_iinc hJ (q := 34) (lvs' := [(4, .int (nI (k + 1))), (3, .int (nI (c + 1))), (0, .ref h), (1, .int (nI i)), (2, .int (nI m))]) dX9_taken_31 4 rfl (by rw [show Int32.ofInt 1 = nI 1 from by decide +kernel]; exact nI_add _ _) (by decide) rfl rfl ?_
            refine j_goto hJ (q := 5) dX9_taken_34 (by decide) ?_
            refine j_locals hJ [2, 3, 4, 1, 0] rfl ?_
            exact ih_5 ((goT B false).2) (c + 1) (k + 1) (by omega) (by omega) (by rw [← hB, show m - k = (m - (k + 1)) + 1 by omega]; simp only [tkn]; split <;> simp_all <;> omega) (wf_goT false hwB (by omega)) (by rw [goT_8]; omega)
  refine j_locals hJ [2, 3, 4, 1, 0] rfl ?_
  exact L_5 ((m - 0) + 1) Hd 0 0 (Nat.lt_succ_self _) (by omega) (by simp only [Nat.zero_add, Nat.sub_zero]) hw (by omega)
