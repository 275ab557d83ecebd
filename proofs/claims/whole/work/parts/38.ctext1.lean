set_option maxHeartbeats 4000000 in
set_option maxRecDepth 100000 in
theorem c_J3_ckN (Z : jZ) (k : Nat) (n : Nat) (h1 : k < n) (h2 : n < 1000) : CR Z yJ3_checkIndex_8e157 cJ3_checkIndex_8e157 3 ((some FieldType.int)) 1 [.int (nI k), .int (nI n), .null] [] (fun rr => rr = some (.int (nI k))) := by
  refine CR.of RJ3 rfl (by decide +kernel) (Nat.le_of_ble_eq_true rfl) ?_
  intro J hJ hE
  show J 0 [(0, .int (nI k)), (1, .int (nI n)), (2, .null)] [] [] 0 0
  refine j_iload_n hJ (q := 1) dJ3_checkIndex_8e157_0 rfl 0 rfl rfl ?_
  refine jz_if_lt hJ (q := 4) (tgt := 9) dJ3_checkIndex_8e157_1 (by decide) rfl (zI_nat k).symm (by omega) (fun c1 => ?_) (fun c1 => ?_)
  · skip
    exfalso; omega
  · skip
    refine j_iload_n hJ (q := 5) dJ3_checkIndex_8e157_4 rfl 0 rfl rfl ?_
    refine j_iload_n hJ (q := 6) dJ3_checkIndex_8e157_5 rfl 1 rfl rfl ?_
    refine jn_icmp_lt hJ (q := 9) (tgt := 16) dJ3_checkIndex_8e157_6 (by decide) rfl (by omega) (by omega) (fun c2 => ?_) (fun c2 => ?_)
    · skip
      refine j_iload_n hJ (q := 17) dJ3_checkIndex_8e157_16 rfl 0 rfl rfl ?_
      exact hE.1 _ _ _ _ _ _ _ rfl rfl dJ3_checkIndex_8e157_17 (Nat.le_refl _) (Nat.le_refl _) (congrArg (fun z => some (Value.int (nI z))) (by rfl))
    · skip
      exfalso; omega

set_option maxHeartbeats 4000000 in
set_option maxRecDepth 100000 in
theorem c_J3_ckR (Z : jZ) (k : Nat) (n : Nat) (t : Nat) (h1 : k < n) (h2 : n < 1000) : CR Z yJ3_checkIndex_8e157 cJ3_checkIndex_8e157 3 ((some FieldType.int)) 1 [.int (nI k), .int (nI n), .ref t] [] (fun rr => rr = some (.int (nI k))) := by
  refine CR.of RJ3 rfl (by decide +kernel) (Nat.le_of_ble_eq_true rfl) ?_
  intro J hJ hE
  show J 0 [(0, .int (nI k)), (1, .int (nI n)), (2, .ref t)] [] [] 0 0
  refine j_iload_n hJ (q := 1) dJ3_checkIndex_8e157_0 rfl 0 rfl rfl ?_
  refine jz_if_lt hJ (q := 4) (tgt := 9) dJ3_checkIndex_8e157_1 (by decide) rfl (zI_nat k).symm (by omega) (fun c1 => ?_) (fun c1 => ?_)
  · skip
    exfalso; omega
  · skip
    refine j_iload_n hJ (q := 5) dJ3_checkIndex_8e157_4 rfl 0 rfl rfl ?_
    refine j_iload_n hJ (q := 6) dJ3_checkIndex_8e157_5 rfl 1 rfl rfl ?_
    refine jn_icmp_lt hJ (q := 9) (tgt := 16) dJ3_checkIndex_8e157_6 (by decide) rfl (by omega) (by omega) (fun c2 => ?_) (fun c2 => ?_)
    · skip
      refine j_iload_n hJ (q := 17) dJ3_checkIndex_8e157_16 rfl 0 rfl rfl ?_
      exact hE.1 _ _ _ _ _ _ _ rfl rfl dJ3_checkIndex_8e157_17 (Nat.le_refl _) (Nat.le_refl _) (congrArg (fun z => some (Value.int (nI z))) (by rfl))
    · skip
      exfalso; omega

set_option maxHeartbeats 4000000 in
set_option maxRecDepth 100000 in
theorem c_J0_checkIndex_df160 (Z : jZ) (k : Nat) (n : Nat) (h1 : k < n) (h2 : n < 1000) : CR Z yJ0_checkIndex_df160 cJ0_checkIndex_df160 2 (none) 2 [.int (nI k), .int (nI n)] [] (fun rr => rr = none) := by
  refine CR.of RJ0 rfl (by decide +kernel) (Nat.le_of_ble_eq_true rfl) ?_
  intro J hJ hE
  show J 0 [(0, .int (nI k)), (1, .int (nI n))] [] [] 0 0
  refine j_iload_n hJ (q := 1) dJ0_checkIndex_df160_0 rfl 0 rfl rfl ?_
  refine j_iload_n hJ (q := 2) dJ0_checkIndex_df160_1 rfl 1 rfl rfl ?_
  refine j_gsQ hJ (q := 5) dJ0_checkIndex_df160_2 rfl ?_ (fun t1 => ?_)
  · skip
    refine j_sR hJ (q := 8) (rest := []) (As := [.int (nI k), .int (nI n), .null]) jl_J0_1059 (c_J3_ckN Z k n (by omega) (by omega)) dJ0_checkIndex_df160_5 rfl (by decide) (Nat.le_of_ble_eq_true rfl) [] rfl rfl (fun rv hp => ?_)
    obtain rfl := hp
    show J 8 [(0, .int (nI k)), (1, .int (nI n))] [.int (nI k)] [] 0 0
    refine j_pop hJ (q := 9) dJ0_checkIndex_df160_8 rfl rfl ?_
    exact hE.2.2 _ _ _ _ _ rfl dJ0_checkIndex_df160_9 (Nat.le_refl _) (Nat.le_refl _) (rfl)
  · skip
    refine j_sR hJ (q := 8) (rest := []) (As := [.int (nI k), .int (nI n), .ref t1]) jl_J0_1059 (c_J3_ckR Z k n t1 (by omega) (by omega)) dJ0_checkIndex_df160_5 rfl (by decide) (Nat.le_of_ble_eq_true rfl) [] rfl rfl (fun rv hp => ?_)
    obtain rfl := hp
    show J 8 [(0, .int (nI k)), (1, .int (nI n))] [.int (nI k)] [] 0 0
    refine j_pop hJ (q := 9) dJ0_checkIndex_df160_8 rfl rfl ?_
    exact hE.2.2 _ _ _ _ _ rfl dJ0_checkIndex_df160_9 (Nat.le_refl _) (Nat.le_refl _) (rfl)

set_option maxHeartbeats 4000000 in
set_option maxRecDepth 100000 in
theorem c_J0_coder_7d493 (Z : jZ) (i : Nat) (hi : i < 5) : CR Z yJ0_coder_7d493 cJ0_coder_7d493 1 ((some FieldType.byte)) 1 [.ref (Z.2.2 i)] [] (fun rr => rr = some (.int (nI 0))) := by
  refine CR.of RJ0 rfl (by decide +kernel) (Nat.le_of_ble_eq_true rfl) ?_
  intro J hJ hE
  show J 0 [(0, .ref (Z.2.2 i))] [] [] 0 0
  refine j_gsC hJ (q := 3) dJ0_coder_7d493_0 rfl ?_
  refine jn_if_eq hJ (q := 6) (tgt := 13) dJ0_coder_7d493_3 (by decide) rfl (by omega) (fun c1 => ?_) (fun c1 => ?_)
  · skip
    exfalso; omega
  · skip
    refine j_aload_n hJ (q := 7) dJ0_coder_7d493_6 rfl 0 rfl rfl ?_
    refine j_strC hJ (q := 10) (i := i) (by omega) dJ0_coder_7d493_7 rfl ?_
    refine j_goto hJ (q := 14) dJ0_coder_7d493_10 (by decide) ?_
    exact hE.1 _ _ _ _ _ _ _ rfl rfl dJ0_coder_7d493_14 (Nat.le_refl _) (Nat.le_refl _) (congrArg (fun z => some (Value.int (nI z))) (by rfl))

set_option maxHeartbeats 4000000 in
set_option maxRecDepth 100000 in
theorem c_J0_isLatin1_aae02 (Z : jZ) (i : Nat) (hi : i < 5) : CR Z yJ0_isLatin1_aae02 cJ0_isLatin1_aae02 1 ((some FieldType.boolean)) 1 [.ref (Z.2.2 i)] [] (fun rr => rr = some (.int (nI 1))) := by
  refine CR.of RJ0 rfl (by decide +kernel) (Nat.le_of_ble_eq_true rfl) ?_
  intro J hJ hE
  show J 0 [(0, .ref (Z.2.2 i))] [] [] 0 0
  refine j_gsC hJ (q := 3) dJ0_isLatin1_aae02_0 rfl ?_
  refine jn_if_eq hJ (q := 6) (tgt := 17) dJ0_isLatin1_aae02_3 (by decide) rfl (by omega) (fun c1 => ?_) (fun c1 => ?_)
  · skip
    exfalso; omega
  · skip
    refine j_aload_n hJ (q := 7) dJ0_isLatin1_aae02_6 rfl 0 rfl rfl ?_
    refine j_strC hJ (q := 10) (i := i) (by omega) dJ0_isLatin1_aae02_7 rfl ?_
    refine jn_if_ne hJ (q := 13) (tgt := 17) dJ0_isLatin1_aae02_10 (by decide) rfl (by omega) (fun c2 => ?_) (fun c2 => ?_)
    · skip
      exfalso; omega
    · skip
      refine j_iconst hJ (q := 14) dJ0_isLatin1_aae02_13 rfl ki_1 ?_
      refine j_goto hJ (q := 18) dJ0_isLatin1_aae02_14 (by decide) ?_
      exact hE.1 _ _ _ _ _ _ _ rfl rfl dJ0_isLatin1_aae02_18 (Nat.le_refl _) (Nat.le_refl _) (congrArg (fun z => some (Value.int (nI z))) (by rfl))

set_option maxHeartbeats 4000000 in
set_option maxRecDepth 100000 in
theorem c_J0_length_8abf5 (Z : jZ) (i : Nat) (hi : i < 5) : CR Z yJ0_length_8abf5 cJ0_length_8abf5 1 ((some FieldType.int)) 2 [.ref (Z.2.2 i)] [] (fun rr => rr = some (.int (nI (jlen.getD i 0)))) := by
  refine CR.of RJ0 rfl (by decide +kernel) (Nat.le_of_ble_eq_true rfl) ?_
  intro J hJ hE
  show J 0 [(0, .ref (Z.2.2 i))] [] [] 0 0
  have hl := jl_all i hi
  refine j_aload_n hJ (q := 1) dJ0_length_8abf5_0 rfl 0 rfl rfl ?_
  refine j_strV hJ (q := 4) (i := i) (by omega) dJ0_length_8abf5_1 rfl ?_
  refine j_strL hJ (q := 5) (i := i) (by omega) dJ0_length_8abf5_4 rfl ?_
  refine j_aload_n hJ (q := 6) dJ0_length_8abf5_5 rfl 0 rfl rfl ?_
  refine j_strR hJ (q := 9) (i := i) (rest := [.int (nI (jlen.getD i 0))]) (As := []) (by omega) jl_J0_335 (c_J0_coder_7d493 Z i (by omega)) dJ0_length_8abf5_6 rfl (by decide) (Nat.le_of_ble_eq_true rfl) [] rfl rfl (fun rv hp => ?_)
  obtain rfl := hp
  show J 9 [(0, .ref (Z.2.2 i))] [.int (nI 0), .int (nI (jlen.getD i 0))] [] 0 0
  refine j_ishr hJ (q := 10) dJ0_length_8abf5_9 rfl (nI_shr (by omega) (by omega)) ?_
  exact hE.1 _ _ _ _ _ _ _ rfl rfl dJ0_length_8abf5_10 (Nat.le_refl _) (Nat.le_refl _) (congrArg (fun z => some (Value.int (nI z))) (by exact Nat.div_one _))

set_option maxHeartbeats 4000000 in
set_option maxRecDepth 100000 in
theorem c_J1_charAt_3b067 (Z : jZ) (i : Nat) (k : Nat) (hi : i < 5) (hk : k < jlen.getD i 0) : CR Z yJ1_charAt_3b067 cJ1_charAt_3b067 2 ((some FieldType.char)) 3 [.ref (Z.2.2 (5 + i)), .int (nI k)] [] (fun rr => rr = some (.int (nI (chW i k)))) := by
  refine CR.of RJ1 rfl (by decide +kernel) (Nat.le_of_ble_eq_true rfl) ?_
  intro J hJ hE
  show J 0 [(0, .ref (Z.2.2 (5 + i))), (1, .int (nI k))] [] [] 0 0
  have hc := chW_all i hi k hk
  have hl : jlen.getD i 0 < 1000 := (show ∀ i, i < 5 → jlen.getD i 0 < 1000 by decide) i hi
  refine j_iload_n hJ (q := 1) dJ1_charAt_3b067_0 rfl 1 rfl rfl ?_
  refine j_aload_n hJ (q := 2) dJ1_charAt_3b067_1 rfl 0 rfl rfl ?_
  refine j_strL hJ (q := 3) (i := i) (by omega) dJ1_charAt_3b067_2 rfl ?_
  refine j_sR hJ (q := 6) (rest := []) (As := [.int (nI k), .int (nI (jlen.getD i 0))]) jl_J1_9 (c_J0_checkIndex_df160 Z k (jlen.getD i 0) (by omega) (by omega)) dJ1_charAt_3b067_3 rfl (by decide) (Nat.le_of_ble_eq_true rfl) [] rfl rfl (fun rv hp => ?_)
  obtain rfl := hp
  show J 6 [(0, .ref (Z.2.2 (5 + i))), (1, .int (nI k))] [] [] 0 0
  refine j_aload_n hJ (q := 7) dJ1_charAt_3b067_6 rfl 0 rfl rfl ?_
  refine j_iload_n hJ (q := 8) dJ1_charAt_3b067_7 rfl 1 rfl rfl ?_
  refine j_strB hJ (q := 9) (i := i) (k := k) (by omega) (by omega) dJ1_charAt_3b067_8 rfl ?_
  refine j_sipush hJ (q := 12) dJ1_charAt_3b067_9 rfl ks_255 ?_
  refine j_iand hJ (q := 13) dJ1_charAt_3b067_12 rfl hc.2.1 ?_
  refine j_i2c hJ (q := 14) dJ1_charAt_3b067_13 rfl hc.2.2.1 ?_
  exact hE.1 _ _ _ _ _ _ _ rfl hc.2.2.2.1 dJ1_charAt_3b067_14 (Nat.le_refl _) (Nat.le_refl _) (congrArg (fun z => some (Value.int (nI z))) (by rfl))

set_option maxHeartbeats 4000000 in
set_option maxRecDepth 100000 in
theorem c_J0_charAt_5068e (Z : jZ) (i : Nat) (k : Nat) (hi : i < 5) (hk : k < jlen.getD i 0) : CR Z yJ0_charAt_5068e cJ0_charAt_5068e 2 ((some FieldType.char)) 4 [.ref (Z.2.2 i), .int (nI k)] [] (fun rr => rr = some (.int (nI (chW i k)))) := by
  refine CR.of RJ0 rfl (by decide +kernel) (Nat.le_of_ble_eq_true rfl) ?_
  intro J hJ hE
  show J 0 [(0, .ref (Z.2.2 i)), (1, .int (nI k))] [] [] 0 0
  have hc := chW_all i hi k hk
  refine j_aload_n hJ (q := 1) dJ0_charAt_5068e_0 rfl 0 rfl rfl ?_
  refine j_strR hJ (q := 4) (i := i) (rest := []) (As := []) (by omega) jl_J0_492 (c_J0_isLatin1_aae02 Z i (by omega)) dJ0_charAt_5068e_1 rfl (by decide) (Nat.le_of_ble_eq_true rfl) [] rfl rfl (fun rv hp => ?_)
  obtain rfl := hp
  show J 4 [(0, .ref (Z.2.2 i)), (1, .int (nI k))] [.int (nI 1)] [] 0 0
  refine jn_if_eq hJ (q := 7) (tgt := 16) dJ0_charAt_5068e_4 (by decide) rfl (by omega) (fun c1 => ?_) (fun c1 => ?_)
  · skip
    exfalso; omega
  · skip
    refine j_aload_n hJ (q := 8) dJ0_charAt_5068e_7 rfl 0 rfl rfl ?_
    refine j_strV hJ (q := 11) (i := i) (by omega) dJ0_charAt_5068e_8 rfl ?_
    refine j_iload_n hJ (q := 12) dJ0_charAt_5068e_11 rfl 1 rfl rfl ?_
    refine j_sR hJ (q := 15) (rest := []) (As := [.ref (Z.2.2 (5 + i)), .int (nI k)]) jl_J0_495 (c_J1_charAt_3b067 Z i k (by omega) (by omega)) dJ0_charAt_5068e_12 rfl (by decide) (Nat.le_of_ble_eq_true rfl) [] rfl rfl (fun rv hp => ?_)
    obtain rfl := hp
    show J 15 [(0, .ref (Z.2.2 i)), (1, .int (nI k))] [.int (nI (chW i k))] [] 0 0
    exact hE.1 _ _ _ _ _ _ _ rfl hc.2.2.2.1 dJ0_charAt_5068e_15 (Nat.le_refl _) (Nat.le_refl _) (congrArg (fun z => some (Value.int (nI z))) (by rfl))

set_option maxHeartbeats 4000000 in
set_option maxRecDepth 100000 in
theorem c_X7_isLetter (Z : jZ) (c : Nat) (h1 : c < 128) : CR Z yX7_isLetter cX7_isLetter 1 ((some FieldType.boolean)) 1 [.int (nI c)] [] (fun rr => rr = some (.int (bI (decide (97 ≤ c ∧ c ≤ 122))))) := by
  refine CR.of RX7 rfl (by decide +kernel) (Nat.le_of_ble_eq_true rfl) ?_
  intro J hJ hE
  show J 0 [(0, .int (nI c))] [] [] 0 0
  refine j_iload_n hJ (q := 1) dX7_isLetter_0 rfl 0 rfl rfl ?_
  refine j_bipush hJ (q := 3) dX7_isLetter_1 rfl kb_97 ?_
  refine jn_icmp_lt hJ (q := 6) (tgt := 16) dX7_isLetter_3 (by decide) rfl (by omega) (by omega) (fun c1 => ?_) (fun c1 => ?_)
  · skip
    refine j_iconst hJ (q := 17) dX7_isLetter_16 rfl ki_0 ?_
    exact hE.1 _ _ _ _ _ _ _ rfl rfl dX7_isLetter_17 (Nat.le_refl _) (Nat.le_refl _) (congrArg (fun z => some (Value.int z)) (bI_f (by omega)))
  · skip
    refine j_iload_n hJ (q := 7) dX7_isLetter_6 rfl 0 rfl rfl ?_
    refine j_bipush hJ (q := 9) dX7_isLetter_7 rfl kb_122 ?_
    refine jn_icmp_gt hJ (q := 12) (tgt := 16) dX7_isLetter_9 (by decide) rfl (by omega) (by omega) (fun c2 => ?_) (fun c2 => ?_)
    · skip
      refine j_iconst hJ (q := 17) dX7_isLetter_16 rfl ki_0 ?_
      exact hE.1 _ _ _ _ _ _ _ rfl rfl dX7_isLetter_17 (Nat.le_refl _) (Nat.le_refl _) (congrArg (fun z => some (Value.int z)) (bI_f (by omega)))
    · skip
      refine j_iconst hJ (q := 13) dX7_isLetter_12 rfl ki_1 ?_
      refine j_goto hJ (q := 17) dX7_isLetter_13 (by decide) ?_
      exact hE.1 _ _ _ _ _ _ _ rfl rfl dX7_isLetter_17 (Nat.le_refl _) (Nat.le_refl _) (congrArg (fun z => some (Value.int z)) (bI_t (by omega)))

set_option maxHeartbeats 4000000 in
set_option maxRecDepth 100000 in
theorem c_X7_isFigure (Z : jZ) (c : Nat) (h1 : c < 128) : CR Z yX7_isFigure cX7_isFigure 1 ((some FieldType.boolean)) 1 [.int (nI c)] [] (fun rr => rr = some (.int (bI (decide (48 ≤ c ∧ c ≤ 57))))) := by
  refine CR.of RX7 rfl (by decide +kernel) (Nat.le_of_ble_eq_true rfl) ?_
  intro J hJ hE
  show J 0 [(0, .int (nI c))] [] [] 0 0
  refine j_iload_n hJ (q := 1) dX7_isFigure_0 rfl 0 rfl rfl ?_
  refine j_bipush hJ (q := 3) dX7_isFigure_1 rfl kb_48 ?_
  refine jn_icmp_lt hJ (q := 6) (tgt := 16) dX7_isFigure_3 (by decide) rfl (by omega) (by omega) (fun c1 => ?_) (fun c1 => ?_)
  · skip
    refine j_iconst hJ (q := 17) dX7_isFigure_16 rfl ki_0 ?_
    exact hE.1 _ _ _ _ _ _ _ rfl rfl dX7_isFigure_17 (Nat.le_refl _) (Nat.le_refl _) (congrArg (fun z => some (Value.int z)) (bI_f (by omega)))
  · skip
    refine j_iload_n hJ (q := 7) dX7_isFigure_6 rfl 0 rfl rfl ?_
    refine j_bipush hJ (q := 9) dX7_isFigure_7 rfl kb_57 ?_
    refine jn_icmp_gt hJ (q := 12) (tgt := 16) dX7_isFigure_9 (by decide) rfl (by omega) (by omega) (fun c2 => ?_) (fun c2 => ?_)
    · skip
      refine j_iconst hJ (q := 17) dX7_isFigure_16 rfl ki_0 ?_
      exact hE.1 _ _ _ _ _ _ _ rfl rfl dX7_isFigure_17 (Nat.le_refl _) (Nat.le_refl _) (congrArg (fun z => some (Value.int z)) (bI_f (by omega)))
    · skip
      refine j_iconst hJ (q := 13) dX7_isFigure_12 rfl ki_1 ?_
      refine j_goto hJ (q := 17) dX7_isFigure_13 (by decide) ?_
      exact hE.1 _ _ _ _ _ _ _ rfl rfl dX7_isFigure_17 (Nat.le_refl _) (Nat.le_refl _) (congrArg (fun z => some (Value.int z)) (bI_t (by omega)))

set_option maxHeartbeats 4000000 in
set_option maxRecDepth 100000 in
theorem c_X8_within (Z : jZ) (v : Int32) (lo : Int) (hi : Int) (h2 : -2147483648 ≤ lo ∧ lo < 2147483648) (h3 : -2147483648 ≤ hi ∧ hi < 2147483648) : CR Z yX8_within cX8_within 3 ((some FieldType.boolean)) 1 [.int v, .int (zI lo), .int (zI hi)] [] (fun rr => rr = some (.int (bI (decide (lo ≤ v.toInt ∧ v.toInt ≤ hi))))) := by
  refine CR.of RX8 rfl (by decide +kernel) (Nat.le_of_ble_eq_true rfl) ?_
  intro J hJ hE
  show J 0 [(0, .int v), (1, .int (zI lo)), (2, .int (zI hi))] [] [] 0 0
  have hv := zI_rng v
  refine j_iload_n hJ (q := 1) dX8_within_0 rfl 0 rfl rfl ?_
  refine j_iload_n hJ (q := 2) dX8_within_1 rfl 1 rfl rfl ?_
  refine jz_icmp_lt hJ (q := 5) (tgt := 14) dX8_within_2 (by decide) rfl (zI_of v) rfl (zI_rng v) (by omega) (fun c1 => ?_) (fun c1 => ?_)
  · skip
    refine j_iconst hJ (q := 15) dX8_within_14 rfl ki_0 ?_
    exact hE.1 _ _ _ _ _ _ _ rfl rfl dX8_within_15 (Nat.le_refl _) (Nat.le_refl _) (congrArg (fun z => some (Value.int z)) (bI_f (by omega)))
  · skip
    refine j_iload_n hJ (q := 6) dX8_within_5 rfl 0 rfl rfl ?_
    refine j_iload_n hJ (q := 7) dX8_within_6 rfl 2 rfl rfl ?_
    refine jz_icmp_gt hJ (q := 10) (tgt := 14) dX8_within_7 (by decide) rfl (zI_of v) rfl (zI_rng v) (by omega) (fun c2 => ?_) (fun c2 => ?_)
    · skip
      refine j_iconst hJ (q := 15) dX8_within_14 rfl ki_0 ?_
      exact hE.1 _ _ _ _ _ _ _ rfl rfl dX8_within_15 (Nat.le_refl _) (Nat.le_refl _) (congrArg (fun z => some (Value.int z)) (bI_f (by omega)))
    · skip
      refine j_iconst hJ (q := 11) dX8_within_10 rfl ki_1 ?_
      refine j_goto hJ (q := 15) dX8_within_11 (by decide) ?_
      exact hE.1 _ _ _ _ _ _ _ rfl rfl dX8_within_15 (Nat.le_refl _) (Nat.le_refl _) (congrArg (fun z => some (Value.int z)) (bI_t (by omega)))

set_option maxHeartbeats 4000000 in
set_option maxRecDepth 100000 in
theorem c_X8_withinN (Z : jZ) (v : Int32) (lo : Nat) (hi : Nat) (h2 : lo < 1000) (h3 : hi < 1000) : CT Z yX8_within cX8_within 3 ((some FieldType.boolean)) 1 0 0 [.int v, .int (nI lo), .int (nI hi)] [] (fun rr ww => rr = some (.int (bI (decide ((lo : Int) ≤ v.toInt ∧ v.toInt ≤ (hi : Int))))) ∧ ww = []) := by
  refine CT.of RX8 false rfl (fun h => by cases h) (by decide +kernel) (Nat.le_of_ble_eq_true rfl) ?_
  intro J hJ hE
  show J 0 [(0, .int v), (1, .int (nI lo)), (2, .int (nI hi))] [] [] 0 0
  have hv := zI_rng v
  refine j_iload_n hJ (q := 1) dX8_within_0 rfl 0 rfl rfl ?_
  refine j_iload_n hJ (q := 2) dX8_within_1 rfl 1 rfl rfl ?_
  refine jz_icmp_lt hJ (q := 5) (tgt := 14) dX8_within_2 (by decide) rfl (zI_of v) (zI_nat lo).symm (zI_rng v) (by omega) (fun c1 => ?_) (fun c1 => ?_)
  · skip
    refine j_iconst hJ (q := 15) dX8_within_14 rfl ki_0 ?_
    exact hE.1 _ _ _ _ _ _ _ rfl rfl dX8_within_15 (Nat.le_refl _) (Nat.le_refl _) (⟨congrArg (fun z => some (Value.int z)) (bI_f (by omega)), rfl⟩)
  · skip
    refine j_iload_n hJ (q := 6) dX8_within_5 rfl 0 rfl rfl ?_
    refine j_iload_n hJ (q := 7) dX8_within_6 rfl 2 rfl rfl ?_
    refine jz_icmp_gt hJ (q := 10) (tgt := 14) dX8_within_7 (by decide) rfl (zI_of v) (zI_nat hi).symm (zI_rng v) (by omega) (fun c2 => ?_) (fun c2 => ?_)
    · skip
      refine j_iconst hJ (q := 15) dX8_within_14 rfl ki_0 ?_
      exact hE.1 _ _ _ _ _ _ _ rfl rfl dX8_within_15 (Nat.le_refl _) (Nat.le_refl _) (⟨congrArg (fun z => some (Value.int z)) (bI_f (by omega)), rfl⟩)
    · skip
      refine j_iconst hJ (q := 11) dX8_within_10 rfl ki_1 ?_
      refine j_goto hJ (q := 15) dX8_within_11 (by decide) ?_
      exact hE.1 _ _ _ _ _ _ _ rfl rfl dX8_within_15 (Nat.le_refl _) (Nat.le_refl _) (⟨congrArg (fun z => some (Value.int z)) (bI_t (by omega)), rfl⟩)

set_option maxHeartbeats 4000000 in
set_option maxRecDepth 100000 in
theorem c_X7_isWord (Z : jZ) (ht : Nat) (bt : Nat) (tt : Nat) (L : Nat) (By : Nat → Nat) (fi : Nat) (nb : Int32) (im : Nat) (i : Nat) (hL : L ≤ 150) (hby : ∀ j, By j < 128) (hf : fi ≤ L) (hi : i < 5) : CR Z yX7_isWord cX7_isWord 3 ((some FieldType.boolean)) 5 [.ref ht, .ref (Z.2.2 i)] [(ht, .inr (5, [.int (nI L), .ref bt, .int (nI (tkK By L fi)), .int (nI fi), .int (nI (fi + tkL By L fi)), .int nb, .int (nI im), .ref tt])), (bt, ba Z 150 (ni By))] (fun rr => rr = some (.int (bI (isW By L fi (jlen.getD i 0) (chW i))))) := by
  refine CR.of RX7 rfl (by decide +kernel) (Nat.le_of_ble_eq_true rfl) ?_
  intro J hJ hE
  show J 0 [(0, .ref ht), (1, .ref (Z.2.2 i))] [] [(ht, .inr (5, [.int (nI L), .ref bt, .int (nI (tkK By L fi)), .int (nI fi), .int (nI (fi + tkL By L fi)), .int nb, .int (nI im), .ref tt])), (bt, ba Z 150 (ni By))] 0 0
  have hk4 := tkK_le (By := By) (L := L) (p := fi)
  have hin := tkL_in (By := By) hf
  have hl : jlen.getD i 0 < 1000 := (show ∀ i, i < 5 → jlen.getD i 0 < 1000 by decide) i hi
  refine j_aload_n hJ (q := 1) dX7_isWord_0 rfl 0 rfl rfl ?_
  refine j_get hJ (q := 4) jf_X7_29 dX7_isWord_1 0 rfl rfl rfl ?_
  refine j_iconst hJ (q := 5) dX7_isWord_4 rfl ki_1 ?_
  refine jn_icmp_ne hJ (q := 8) (tgt := 24) dX7_isWord_5 (by decide) rfl (by omega) (by omega) (fun c1 => ?_) (fun c1 => ?_)
  · skip
    refine j_iconst hJ (q := 25) dX7_isWord_24 rfl ki_0 ?_
    exact hE.1 _ _ _ _ _ _ _ rfl rfl dX7_isWord_25 (Nat.le_refl _) (Nat.le_refl _) (congrArg (fun z => some (Value.int (bI z))) (show false = (isW By L fi (jlen.getD i 0) (chW i)) by exact isW_no (by omega)))
  · skip
    refine j_aload_n hJ (q := 9) dX7_isWord_8 rfl 0 rfl rfl ?_
    refine j_get hJ (q := 12) jf_X7_23 dX7_isWord_9 0 rfl rfl rfl ?_
    refine j_aload_n hJ (q := 13) dX7_isWord_12 rfl 0 rfl rfl ?_
    refine j_get hJ (q := 16) jf_X7_46 dX7_isWord_13 0 rfl rfl rfl ?_
    refine j_isub hJ (q := 17) dX7_isWord_16 rfl (pk_sub (by omega)) ?_
    refine j_aload_n hJ (q := 18) dX7_isWord_17 rfl 1 rfl rfl ?_
    refine j_strR hJ (q := 21) (i := i) (rest := [.int (nI (fi + tkL By L fi - fi))]) (As := []) (by omega) jl_X7_112 (c_J0_length_8abf5 Z i (by omega)) dX7_isWord_18 rfl (by decide) (Nat.le_of_ble_eq_true rfl) [] rfl rfl (fun rv hp => ?_)
    obtain rfl := hp
    show J 21 [(0, .ref ht), (1, .ref (Z.2.2 i))] [.int (nI (jlen.getD i 0)), .int (nI (fi + tkL By L fi - fi))] [(ht, .inr (5, [.int (nI L), .ref bt, .int (nI (tkK By L fi)), .int (nI fi), .int (nI (fi + tkL By L fi)), .int nb, .int (nI im), .ref tt])), (bt, ba Z 150 (ni By))] 0 0
    refine jn_icmp_eq hJ (q := 24) (tgt := 26) dX7_isWord_21 (by decide) rfl (by omega) (by omega) (fun c2 => ?_) (fun c2 => ?_)
    · skip
      refine j_iconst hJ (q := 27) dX7_isWord_26 rfl ki_0 ?_
      refine j_istore_n hJ (q := 28) (lvs' := [(2, .int (nI 0)), (0, .ref ht), (1, .ref (Z.2.2 i))]) dX7_isWord_27 rfl (by decide) rfl rfl ?_
      have L_28 : ∀ (fu_28 : Nat) (k : Nat), jlen.getD i 0 - k < fu_28 → (k ≤ jlen.getD i 0) → (spN By fi (chW i) k = true) → J 28 [(0, .ref ht), (1, .ref (Z.2.2 i)), (2, .int (nI k))] [] [(ht, .inr (5, [.int (nI L), .ref bt, .int (nI (tkK By L fi)), .int (nI fi), .int (nI (fi + tkL By L fi)), .int nb, .int (nI im), .ref tt])), (bt, ba Z 150 (ni By))] 0 0 := by
        intro fu_28
        induction fu_28 with
        | zero => intro k hm; exact absurd hm (Nat.not_lt_zero _)
        | succ fu_28 ih_28 =>
          intro k hm_28 hk hs
          refine j_iload_n hJ (q := 29) dX7_isWord_28 rfl 2 rfl rfl ?_
          refine j_aload_n hJ (q := 30) dX7_isWord_29 rfl 1 rfl rfl ?_
          refine j_strR hJ (q := 33) (i := i) (rest := [.int (nI k)]) (As := []) (by omega) jl_X7_112 (c_J0_length_8abf5 Z i (by omega)) dX7_isWord_30 rfl (by decide) (Nat.le_of_ble_eq_true rfl) [] rfl rfl (fun rv hp => ?_)
          obtain rfl := hp
          show J 33 [(0, .ref ht), (1, .ref (Z.2.2 i)), (2, .int (nI k))] [.int (nI (jlen.getD i 0)), .int (nI k)] [(ht, .inr (5, [.int (nI L), .ref bt, .int (nI (tkK By L fi)), .int (nI fi), .int (nI (fi + tkL By L fi)), .int nb, .int (nI im), .ref tt])), (bt, ba Z 150 (ni By))] 0 0
          refine jn_icmp_ge hJ (q := 36) (tgt := 63) dX7_isWord_33 (by decide) rfl (by omega) (by omega) (fun c3 => ?_) (fun c3 => ?_)
          · skip
            refine j_iconst hJ (q := 64) dX7_isWord_63 rfl ki_1 ?_
            exact hE.1 _ _ _ _ _ _ _ rfl rfl dX7_isWord_64 (Nat.le_refl _) (Nat.le_refl _) (congrArg (fun z => some (Value.int (bI z))) (show true = (isW By L fi (jlen.getD i 0) (chW i)) by exact isW_yes (by omega) (by rw [show jlen.getD i 0 = k by omega]; exact hs)))
          · skip
            refine j_aload_n hJ (q := 37) dX7_isWord_36 rfl 0 rfl rfl ?_
            refine j_get hJ (q := 40) jf_X7_9 dX7_isWord_37 0 rfl rfl rfl ?_
            refine j_aload_n hJ (q := 41) dX7_isWord_40 rfl 0 rfl rfl ?_
            refine j_get hJ (q := 44) jf_X7_46 dX7_isWord_41 0 rfl rfl rfl ?_
            refine j_iload_n hJ (q := 45) dX7_isWord_44 rfl 2 rfl rfl ?_
            refine j_iadd hJ (q := 46) dX7_isWord_45 rfl (nI_add _ _) ?_
            refine j_baldN hJ (q := 47) (z := nI (By (fi + k))) dX7_isWord_46 1 rfl (by omega) (by decide) rfl rfl ?_
            have b4 := hby (fi + k)
            refine j_aload_n hJ (q := 48) dX7_isWord_47 rfl 1 rfl rfl ?_
            refine j_iload_n hJ (q := 49) dX7_isWord_48 rfl 2 rfl rfl ?_
            refine j_strR hJ (q := 52) (i := i) (rest := [.int (nI (By (fi + k)))]) (As := [.int (nI k)]) (by omega) jl_X7_117 (c_J0_charAt_5068e Z i k (by omega) (by omega)) dX7_isWord_49 rfl (by decide) (Nat.le_of_ble_eq_true rfl) [] rfl rfl (fun rv hp => ?_)
            obtain rfl := hp
            show J 52 [(0, .ref ht), (1, .ref (Z.2.2 i)), (2, .int (nI k))] [.int (nI (chW i k)), .int (nI (By (fi + k)))] [(ht, .inr (5, [.int (nI L), .ref bt, .int (nI (tkK By L fi)), .int (nI fi), .int (nI (fi + tkL By L fi)), .int nb, .int (nI im), .ref tt])), (bt, ba Z 150 (ni By))] 0 0
            have hcc := (chW_all i hi k (by omega)).2.2.2.2
            refine jn_icmp_eq hJ (q := 55) (tgt := 57) dX7_isWord_52 (by decide) rfl (by omega) (by omega) (fun c5 => ?_) (fun c5 => ?_)
            · skip
              refine j_iinc hJ (q := 60) (lvs' := [(2, .int (nI (k + 1))), (0, .ref ht), (1, .ref (Z.2.2 i))]) dX7_isWord_57 2 rfl (by rw [show Int32.ofInt 1 = nI 1 from by decide +kernel]; exact nI_add _ _) (by decide) rfl rfl ?_
              refine j_goto hJ (q := 28) dX7_isWord_60 (by decide) ?_
              refine j_locals hJ [1, 2, 0] rfl ?_
              exact ih_28 (k + 1) (by omega) (by omega) (spN_go hs (by assumption))
            · skip
              refine j_iconst hJ (q := 56) dX7_isWord_55 rfl ki_0 ?_
              exact hE.1 _ _ _ _ _ _ _ rfl rfl dX7_isWord_56 (Nat.le_refl _) (Nat.le_refl _) (congrArg (fun z => some (Value.int (bI z))) (show false = (isW By L fi (jlen.getD i 0) (chW i)) by exact isW_nok (k := k) (by omega) (by assumption)))
      refine j_locals hJ [1, 2, 0] rfl ?_
      exact L_28 ((jlen.getD i 0 - 0) + 1) 0 (Nat.lt_succ_self _) (Nat.zero_le _) rfl
    · skip
      refine j_iconst hJ (q := 25) dX7_isWord_24 rfl ki_0 ?_
      exact hE.1 _ _ _ _ _ _ _ rfl rfl dX7_isWord_25 (Nat.le_refl _) (Nat.le_refl _) (congrArg (fun z => some (Value.int (bI z))) (show false = (isW By L fi (jlen.getD i 0) (chW i)) by exact isW_no (by omega)))

set_option maxHeartbeats 4000000 in
set_option maxRecDepth 100000 in
theorem c_X7_next (Z : jZ) (ht : Nat) (bt : Nat) (tt : Nat) (L : Nat) (By : Nat → Nat) (tk : Nat) (fi : Nat) (be : Nat) (nb : Int32) (im : Nat) (hL : L ≤ 150) (hby : ∀ j, By j < 128) (hbe : be ≤ L) : CT Z yX7_next cX7_next 1 (none) 2 0 0 [.ref ht] [(ht, .inr (5, [.int (nI L), .ref bt, .int (nI tk), .int (nI fi), .int (nI be), .int nb, .int (nI im), .ref tt])), (bt, ba Z 150 (ni By))] (fun rr ww => ∃ nz : Int32, rr = none ∧ ww = [(ht, .inr (5, [.int (nI L), .ref bt, .int (nI (tkK By L (sk By L be))), .int (nI (sk By L be)), .int (nI (sk By L be + tkL By L (sk By L be))), .int nz, .int (nI im), .ref tt])), (bt, ba Z 150 (ni By))] ∧ (tkK By L (sk By L be) = 2 → nz = nI (tkV By L (sk By L be)))) := by
  refine CT.of RX7 false rfl (fun h => by cases h) (by decide +kernel) (Nat.le_of_ble_eq_true rfl) ?_
  intro J hJ hE
  show J 0 [(0, .ref ht)] [] [(ht, .inr (5, [.int (nI L), .ref bt, .int (nI tk), .int (nI fi), .int (nI be), .int nb, .int (nI im), .ref tt])), (bt, ba Z 150 (ni By))] 0 0
  refine j_aload_n hJ (q := 1) dX7_next_0 rfl 0 rfl rfl ?_
  refine j_aload_n hJ (q := 2) dX7_next_1 rfl 0 rfl rfl ?_
  refine j_get hJ (q := 5) jf_X7_23 dX7_next_2 0 rfl rfl rfl ?_
  refine j_put hJ (q := 8) (ws' := [(ht, .inr (5, [.int (nI L), .ref bt, .int (nI tk), .int (nI be), .int (nI be), .int nb, .int (nI im), .ref tt])), (bt, ba Z 150 (ni By))]) jp_X7_46 dX7_next_5 0 rfl rfl rfl (Nat.le_of_ble_eq_true rfl) rfl rfl ?_
  have L_8 : ∀ (fu_8 : Nat) (f : Nat), L - f < fu_8 → (f ≤ L) → (sk By L be = sk By L f) → J 8 [(0, .ref ht)] [] [(ht, .inr (5, [.int (nI L), .ref bt, .int (nI tk), .int (nI f), .int (nI be), .int nb, .int (nI im), .ref tt])), (bt, ba Z 150 (ni By))] 0 0 := by
    intro fu_8
    induction fu_8 with
    | zero => intro f hm; exact absurd hm (Nat.not_lt_zero _)
    | succ fu_8 ih_8 =>
      intro f hm_8 hfl hf1
      refine j_aload_n hJ (q := 9) dX7_next_8 rfl 0 rfl rfl ?_
      refine j_get hJ (q := 12) jf_X7_46 dX7_next_9 0 rfl rfl rfl ?_
      refine j_aload_n hJ (q := 13) dX7_next_12 rfl 0 rfl rfl ?_
      refine j_get hJ (q := 16) jf_X7_19 dX7_next_13 0 rfl rfl rfl ?_
      refine jn_icmp_ge hJ (q := 19) (tgt := 46) dX7_next_16 (by decide) rfl (by omega) (by omega) (fun c1 => ?_) (fun c1 => ?_)
      · skip
        have hf : sk By L be = f := by rw [hf1]; exact sk_stop (by omega)
        refine j_aload_n hJ (q := 47) dX7_next_46 rfl 0 rfl rfl ?_
        refine j_aload_n hJ (q := 48) dX7_next_47 rfl 0 rfl rfl ?_
        refine j_get hJ (q := 51) jf_X7_46 dX7_next_48 0 rfl rfl rfl ?_
        refine j_put hJ (q := 54) (ws' := [(ht, .inr (5, [.int (nI L), .ref bt, .int (nI tk), .int (nI f), .int (nI f), .int nb, .int (nI im), .ref tt])), (bt, ba Z 150 (ni By))]) jp_X7_23 dX7_next_51 0 rfl rfl rfl (Nat.le_of_ble_eq_true rfl) rfl rfl ?_
        refine j_aload_n hJ (q := 55) dX7_next_54 rfl 0 rfl rfl ?_
        refine j_get hJ (q := 58) jf_X7_46 dX7_next_55 0 rfl rfl rfl ?_
        refine j_aload_n hJ (q := 59) dX7_next_58 rfl 0 rfl rfl ?_
        refine j_get hJ (q := 62) jf_X7_19 dX7_next_59 0 rfl rfl rfl ?_
        refine jn_icmp_lt hJ (q := 65) (tgt := 73) dX7_next_62 (by decide) rfl (by omega) (by omega) (fun c2 => ?_) (fun c2 => ?_)
        · skip
          refine j_aload_n hJ (q := 74) dX7_next_73 rfl 0 rfl rfl ?_
          refine j_get hJ (q := 77) jf_X7_9 dX7_next_74 0 rfl rfl rfl ?_
          refine j_aload_n hJ (q := 78) dX7_next_77 rfl 0 rfl rfl ?_
          refine j_get hJ (q := 81) jf_X7_46 dX7_next_78 0 rfl rfl rfl ?_
          refine j_baldN hJ (q := 82) (z := nI (By f)) dX7_next_81 1 rfl (by omega) (by decide) rfl rfl ?_
          have b3 := hby f
          refine j_sR hJ (q := 85) (rest := []) (As := [.int (nI (By f))]) jl_X7_121 (c_X7_isLetter Z (By f) (by omega)) dX7_next_82 rfl (by decide) (Nat.le_of_ble_eq_true rfl) [] rfl rfl (fun rv hp => ?_)
          obtain rfl := hp
          show J 85 [(0, .ref ht)] [.int (bI (decide (97 ≤ (By f) ∧ (By f) ≤ 122)))] [(ht, .inr (5, [.int (nI L), .ref bt, .int (nI tk), .int (nI f), .int (nI f), .int nb, .int (nI im), .ref tt])), (bt, ba Z 150 (ni By))] 0 0
          refine jp_if_eq hJ (q := 88) (tgt := 135) dX7_next_85 (by decide) rfl (fun c4 => ?_) (fun c4 => ?_)
          · skip
            refine j_aload_n hJ (q := 136) dX7_next_135 rfl 0 rfl rfl ?_
            refine j_get hJ (q := 139) jf_X7_9 dX7_next_136 0 rfl rfl rfl ?_
            refine j_aload_n hJ (q := 140) dX7_next_139 rfl 0 rfl rfl ?_
            refine j_get hJ (q := 143) jf_X7_46 dX7_next_140 0 rfl rfl rfl ?_
            refine j_baldN hJ (q := 144) (z := nI (By f)) dX7_next_143 1 rfl (by omega) (by decide) rfl rfl ?_
            have b5 := hby f
            refine j_sR hJ (q := 147) (rest := []) (As := [.int (nI (By f))]) jl_X7_125 (c_X7_isFigure Z (By f) (by omega)) dX7_next_144 rfl (by decide) (Nat.le_of_ble_eq_true rfl) [] rfl rfl (fun rv hp => ?_)
            obtain rfl := hp
            show J 147 [(0, .ref ht)] [.int (bI (decide (48 ≤ (By f) ∧ (By f) ≤ 57)))] [(ht, .inr (5, [.int (nI L), .ref bt, .int (nI tk), .int (nI f), .int (nI f), .int nb, .int (nI im), .ref tt])), (bt, ba Z 150 (ni By))] 0 0
            refine jp_if_eq hJ (q := 150) (tgt := 243) dX7_next_147 (by decide) rfl (fun c6 => ?_) (fun c6 => ?_)
            · skip
              refine j_aload_n hJ (q := 244) dX7_next_243 rfl 0 rfl rfl ?_
              refine j_aload_n hJ (q := 245) dX7_next_244 rfl 0 rfl rfl ?_
              refine j_get hJ (q := 248) jf_X7_9 dX7_next_245 0 rfl rfl rfl ?_
              refine j_aload_n hJ (q := 249) dX7_next_248 rfl 0 rfl rfl ?_
              refine j_get hJ (q := 252) jf_X7_46 dX7_next_249 0 rfl rfl rfl ?_
              refine j_baldN hJ (q := 253) (z := nI (By f)) dX7_next_252 1 rfl (by omega) (by decide) rfl rfl ?_
              have b7 := hby f
              refine j_bipush hJ (q := 255) dX7_next_253 rfl kb_59 ?_
              refine jn_icmp_ne hJ (q := 258) (tgt := 262) dX7_next_255 (by decide) rfl (by omega) (by omega) (fun c8 => ?_) (fun c8 => ?_)
              · skip
                refine j_iconst hJ (q := 263) dX7_next_262 rfl ki_4 ?_
                refine j_put hJ (q := 266) (ws' := [(ht, .inr (5, [.int (nI L), .ref bt, .int (nI 4), .int (nI f), .int (nI f), .int nb, .int (nI im), .ref tt])), (bt, ba Z 150 (ni By))]) jp_X7_29 dX7_next_263 0 rfl rfl rfl (Nat.le_of_ble_eq_true rfl) rfl rfl ?_
                refine j_aload_n hJ (q := 267) dX7_next_266 rfl 0 rfl rfl ?_
                refine j_dup hJ (q := 268) dX7_next_267 rfl rfl ?_
                refine j_get hJ (q := 271) jf_X7_23 dX7_next_268 0 rfl rfl rfl ?_
                refine j_iconst hJ (q := 272) dX7_next_271 rfl ki_1 ?_
                refine j_iadd hJ (q := 273) dX7_next_272 rfl (nI_add _ _) ?_
                refine j_put hJ (q := 276) (ws' := [(ht, .inr (5, [.int (nI L), .ref bt, .int (nI 4), .int (nI f), .int (nI (f + 1)), .int nb, .int (nI im), .ref tt])), (bt, ba Z 150 (ni By))]) jp_X7_23 dX7_next_273 0 rfl rfl rfl (Nat.le_of_ble_eq_true rfl) rfl rfl ?_
                have hz := tk_sgn (By := By) (L := L) (f := f) (by omega) (by assumption) (by assumption)
                rw [if_neg (by omega)] at hz
                exact hE.2.2 _ _ _ _ _ rfl dX7_next_276 (Nat.le_refl _) (Nat.le_refl _) (⟨nb, rfl, by rw [hf, hz.1, hz.2], fun h => by rw [hf, hz.1] at h; cases h⟩)
              · skip
                refine j_iconst hJ (q := 259) dX7_next_258 rfl ki_3 ?_
                refine j_goto hJ (q := 263) dX7_next_259 (by decide) ?_
                refine j_put hJ (q := 266) (ws' := [(ht, .inr (5, [.int (nI L), .ref bt, .int (nI 3), .int (nI f), .int (nI f), .int nb, .int (nI im), .ref tt])), (bt, ba Z 150 (ni By))]) jp_X7_29 dX7_next_263 0 rfl rfl rfl (Nat.le_of_ble_eq_true rfl) rfl rfl ?_
                refine j_aload_n hJ (q := 267) dX7_next_266 rfl 0 rfl rfl ?_
                refine j_dup hJ (q := 268) dX7_next_267 rfl rfl ?_
                refine j_get hJ (q := 271) jf_X7_23 dX7_next_268 0 rfl rfl rfl ?_
                refine j_iconst hJ (q := 272) dX7_next_271 rfl ki_1 ?_
                refine j_iadd hJ (q := 273) dX7_next_272 rfl (nI_add _ _) ?_
                refine j_put hJ (q := 276) (ws' := [(ht, .inr (5, [.int (nI L), .ref bt, .int (nI 3), .int (nI f), .int (nI (f + 1)), .int nb, .int (nI im), .ref tt])), (bt, ba Z 150 (ni By))]) jp_X7_23 dX7_next_273 0 rfl rfl rfl (Nat.le_of_ble_eq_true rfl) rfl rfl ?_
                have hz := tk_sgn (By := By) (L := L) (f := f) (by omega) (by assumption) (by assumption)
                rw [if_pos (by omega)] at hz
                exact hE.2.2 _ _ _ _ _ rfl dX7_next_276 (Nat.le_refl _) (Nat.le_refl _) (⟨nb, rfl, by rw [hf, hz.1, hz.2], fun h => by rw [hf, hz.1] at h; cases h⟩)
            · skip
              refine j_aload_n hJ (q := 151) dX7_next_150 rfl 0 rfl rfl ?_
              refine j_iconst hJ (q := 152) dX7_next_151 rfl ki_0 ?_
              refine j_put hJ (q := 155) (ws' := [(ht, .inr (5, [.int (nI L), .ref bt, .int (nI tk), .int (nI f), .int (nI f), .int (nI 0), .int (nI im), .ref tt])), (bt, ba Z 150 (ni By))]) jp_X7_106 dX7_next_152 0 rfl rfl rfl (Nat.le_of_ble_eq_true rfl) rfl rfl ?_
              have L_155 : ∀ (fu_155 : Nat) (e : Nat) (nn : Int32), L - e < fu_155 → (f ≤ e ∧ e ≤ L) → (e + rn 2 By L e = f + rn 2 By L f) → (e - f ≤ 2 → nn = nI (vN By f (e - f))) → J 155 [(0, .ref ht)] [] [(ht, .inr (5, [.int (nI L), .ref bt, .int (nI tk), .int (nI f), .int (nI e), .int nn, .int (nI im), .ref tt])), (bt, ba Z 150 (ni By))] 0 0 := by
                intro fu_155
                induction fu_155 with
                | zero => intro e nn hm; exact absurd hm (Nat.not_lt_zero _)
                | succ fu_155 ih_155 =>
                  intro e nn hm_155 hel he hnb
                  refine j_aload_n hJ (q := 156) dX7_next_155 rfl 0 rfl rfl ?_
                  refine j_get hJ (q := 159) jf_X7_23 dX7_next_156 0 rfl rfl rfl ?_
                  refine j_aload_n hJ (q := 160) dX7_next_159 rfl 0 rfl rfl ?_
                  refine j_get hJ (q := 163) jf_X7_19 dX7_next_160 0 rfl rfl rfl ?_
                  refine jn_icmp_ge hJ (q := 166) (tgt := 218) dX7_next_163 (by decide) rfl (by omega) (by omega) (fun c9 => ?_) (fun c9 => ?_)
                  · skip
                    refine j_aload_n hJ (q := 219) dX7_next_218 rfl 0 rfl rfl ?_
                    refine j_aload_n hJ (q := 220) dX7_next_219 rfl 0 rfl rfl ?_
                    refine j_get hJ (q := 223) jf_X7_23 dX7_next_220 0 rfl rfl rfl ?_
                    refine j_aload_n hJ (q := 224) dX7_next_223 rfl 0 rfl rfl ?_
                    refine j_get hJ (q := 227) jf_X7_46 dX7_next_224 0 rfl rfl rfl ?_
                    refine j_isub hJ (q := 228) dX7_next_227 rfl (pk_sub (by omega)) ?_
                    refine j_iconst hJ (q := 229) dX7_next_228 rfl ki_2 ?_
                    refine jn_icmp_gt hJ (q := 232) (tgt := 236) dX7_next_229 (by decide) rfl (by omega) (by omega) (fun c10 => ?_) (fun c10 => ?_)
                    · skip
                      refine j_iconst hJ (q := 237) dX7_next_236 rfl ki_4 ?_
                      refine j_put hJ (q := 240) (ws' := [(ht, .inr (5, [.int (nI L), .ref bt, .int (nI 4), .int (nI f), .int (nI e), .int nn, .int (nI im), .ref tt])), (bt, ba Z 150 (ni By))]) jp_X7_29 dX7_next_237 0 rfl rfl rfl (Nat.le_of_ble_eq_true rfl) rfl rfl ?_
                      refine j_goto hJ (q := 276) dX7_next_240 (by decide) ?_
                      have hq := tk_fig (By := By) (L := L) (f := f) (e := e) (by omega) (by omega) he (by omega)
                      have hz := tk_wrong (By := By) (L := L) (f := f) (e := e) (by omega) hq (by omega)
                      exact hE.2.2 _ _ _ _ _ rfl dX7_next_276 (Nat.le_refl _) (Nat.le_refl _) (⟨nn, rfl, by rw [hf, hz, hq.2], fun h => by rw [hf, hz] at h; cases h⟩)
                    · skip
                      refine j_iconst hJ (q := 233) dX7_next_232 rfl ki_2 ?_
                      refine j_goto hJ (q := 237) dX7_next_233 (by decide) ?_
                      refine j_put hJ (q := 240) (ws' := [(ht, .inr (5, [.int (nI L), .ref bt, .int (nI 2), .int (nI f), .int (nI e), .int nn, .int (nI im), .ref tt])), (bt, ba Z 150 (ni By))]) jp_X7_29 dX7_next_237 0 rfl rfl rfl (Nat.le_of_ble_eq_true rfl) rfl rfl ?_
                      refine j_goto hJ (q := 276) dX7_next_240 (by decide) ?_
                      have hq := tk_fig (By := By) (L := L) (f := f) (e := e) (by omega) (by omega) he (by omega)
                      have hz := tk_num (By := By) (L := L) (f := f) (e := e) (by omega) hq (by omega)
                      exact hE.2.2 _ _ _ _ _ rfl dX7_next_276 (Nat.le_refl _) (Nat.le_refl _) (⟨nn, rfl, by rw [hf, hz.1, hq.2], fun _ => by rw [hf, hz.2]; exact hnb (by omega)⟩)
                  · skip
                    refine j_aload_n hJ (q := 167) dX7_next_166 rfl 0 rfl rfl ?_
                    refine j_get hJ (q := 170) jf_X7_9 dX7_next_167 0 rfl rfl rfl ?_
                    refine j_aload_n hJ (q := 171) dX7_next_170 rfl 0 rfl rfl ?_
                    refine j_get hJ (q := 174) jf_X7_23 dX7_next_171 0 rfl rfl rfl ?_
                    refine j_baldN hJ (q := 175) (z := nI (By e)) dX7_next_174 1 rfl (by omega) (by decide) rfl rfl ?_
                    have b11 := hby e
                    refine j_sR hJ (q := 178) (rest := []) (As := [.int (nI (By e))]) jl_X7_125 (c_X7_isFigure Z (By e) (by omega)) dX7_next_175 rfl (by decide) (Nat.le_of_ble_eq_true rfl) [] rfl rfl (fun rv hp => ?_)
                    obtain rfl := hp
                    show J 178 [(0, .ref ht)] [.int (bI (decide (48 ≤ (By e) ∧ (By e) ≤ 57)))] [(ht, .inr (5, [.int (nI L), .ref bt, .int (nI tk), .int (nI f), .int (nI e), .int nn, .int (nI im), .ref tt])), (bt, ba Z 150 (ni By))] 0 0
                    refine jp_if_eq hJ (q := 181) (tgt := 218) dX7_next_178 (by decide) rfl (fun c12 => ?_) (fun c12 => ?_)
                    · skip
                      refine j_aload_n hJ (q := 219) dX7_next_218 rfl 0 rfl rfl ?_
                      refine j_aload_n hJ (q := 220) dX7_next_219 rfl 0 rfl rfl ?_
                      refine j_get hJ (q := 223) jf_X7_23 dX7_next_220 0 rfl rfl rfl ?_
                      refine j_aload_n hJ (q := 224) dX7_next_223 rfl 0 rfl rfl ?_
                      refine j_get hJ (q := 227) jf_X7_46 dX7_next_224 0 rfl rfl rfl ?_
                      refine j_isub hJ (q := 228) dX7_next_227 rfl (pk_sub (by omega)) ?_
                      refine j_iconst hJ (q := 229) dX7_next_228 rfl ki_2 ?_
                      refine jn_icmp_gt hJ (q := 232) (tgt := 236) dX7_next_229 (by decide) rfl (by omega) (by omega) (fun c13 => ?_) (fun c13 => ?_)
                      · skip
                        refine j_iconst hJ (q := 237) dX7_next_236 rfl ki_4 ?_
                        refine j_put hJ (q := 240) (ws' := [(ht, .inr (5, [.int (nI L), .ref bt, .int (nI 4), .int (nI f), .int (nI e), .int nn, .int (nI im), .ref tt])), (bt, ba Z 150 (ni By))]) jp_X7_29 dX7_next_237 0 rfl rfl rfl (Nat.le_of_ble_eq_true rfl) rfl rfl ?_
                        refine j_goto hJ (q := 276) dX7_next_240 (by decide) ?_
                        have hq := tk_fig (By := By) (L := L) (f := f) (e := e) (by omega) (by omega) he (by omega)
                        have hz := tk_wrong (By := By) (L := L) (f := f) (e := e) (by omega) hq (by omega)
                        exact hE.2.2 _ _ _ _ _ rfl dX7_next_276 (Nat.le_refl _) (Nat.le_refl _) (⟨nn, rfl, by rw [hf, hz, hq.2], fun h => by rw [hf, hz] at h; cases h⟩)
                      · skip
                        refine j_iconst hJ (q := 233) dX7_next_232 rfl ki_2 ?_
                        refine j_goto hJ (q := 237) dX7_next_233 (by decide) ?_
                        refine j_put hJ (q := 240) (ws' := [(ht, .inr (5, [.int (nI L), .ref bt, .int (nI 2), .int (nI f), .int (nI e), .int nn, .int (nI im), .ref tt])), (bt, ba Z 150 (ni By))]) jp_X7_29 dX7_next_237 0 rfl rfl rfl (Nat.le_of_ble_eq_true rfl) rfl rfl ?_
                        refine j_goto hJ (q := 276) dX7_next_240 (by decide) ?_
                        have hq := tk_fig (By := By) (L := L) (f := f) (e := e) (by omega) (by omega) he (by omega)
                        have hz := tk_num (By := By) (L := L) (f := f) (e := e) (by omega) hq (by omega)
                        exact hE.2.2 _ _ _ _ _ rfl dX7_next_276 (Nat.le_refl _) (Nat.le_refl _) (⟨nn, rfl, by rw [hf, hz.1, hq.2], fun _ => by rw [hf, hz.2]; exact hnb (by omega)⟩)
                    · skip
                      refine j_aload_n hJ (q := 182) dX7_next_181 rfl 0 rfl rfl ?_
                      refine j_bipush hJ (q := 184) dX7_next_182 rfl kb_10 ?_
                      refine j_aload_n hJ (q := 185) dX7_next_184 rfl 0 rfl rfl ?_
                      refine j_get hJ (q := 188) jf_X7_106 dX7_next_185 0 rfl rfl rfl ?_
                      refine j_imul hJ (q := 189) dX7_next_188 rfl (zI_mul (zI_nat 10).symm (zI_of nn)) ?_
                      refine j_aload_n hJ (q := 190) dX7_next_189 rfl 0 rfl rfl ?_
                      refine j_get hJ (q := 193) jf_X7_9 dX7_next_190 0 rfl rfl rfl ?_
                      refine j_aload_n hJ (q := 194) dX7_next_193 rfl 0 rfl rfl ?_
                      refine j_get hJ (q := 197) jf_X7_23 dX7_next_194 0 rfl rfl rfl ?_
                      refine j_baldN hJ (q := 198) (z := nI (By e)) dX7_next_197 1 rfl (by omega) (by decide) rfl rfl ?_
                      have b14 := hby e
                      refine j_bipush hJ (q := 200) dX7_next_198 rfl kb_48 ?_
                      refine j_isub hJ (q := 201) dX7_next_200 rfl (zI_sub (zI_nat (By e)).symm (zI_nat 48).symm) ?_
                      refine j_iadd hJ (q := 202) dX7_next_201 rfl (zI_add rfl rfl) ?_
                      refine j_put hJ (q := 205) (ws' := [(ht, .inr (5, [.int (nI L), .ref bt, .int (nI tk), .int (nI f), .int (nI e), .int (zI ((10 : Int) * nn.toInt + (((By e) : Int) - (48 : Int)))), .int (nI im), .ref tt])), (bt, ba Z 150 (ni By))]) jp_X7_106 dX7_next_202 0 rfl rfl rfl (Nat.le_of_ble_eq_true rfl) rfl rfl ?_
                      refine j_aload_n hJ (q := 206) dX7_next_205 rfl 0 rfl rfl ?_
                      refine j_dup hJ (q := 207) dX7_next_206 rfl rfl ?_
                      refine j_get hJ (q := 210) jf_X7_23 dX7_next_207 0 rfl rfl rfl ?_
                      refine j_iconst hJ (q := 211) dX7_next_210 rfl ki_1 ?_
                      refine j_iadd hJ (q := 212) dX7_next_211 rfl (nI_add _ _) ?_
                      refine j_put hJ (q := 215) (ws' := [(ht, .inr (5, [.int (nI L), .ref bt, .int (nI tk), .int (nI f), .int (nI (e + 1)), .int (zI ((10 : Int) * nn.toInt + (((By e) : Int) - (48 : Int)))), .int (nI im), .ref tt])), (bt, ba Z 150 (ni By))]) jp_X7_23 dX7_next_212 0 rfl rfl rfl (Nat.le_of_ble_eq_true rfl) rfl rfl ?_
                      refine j_goto hJ (q := 155) dX7_next_215 (by decide) ?_
                      exact ih_155 (e + 1) (zI ((10 : Int) * nn.toInt + (((By e) : Int) - (48 : Int)))) (by omega) (by omega) (by rw [← he, rn_go (p := e) ⟨by omega, by unfold cls; rw [if_neg (by omega), if_pos (by omega)]⟩]; omega) (fun h2 => num_st hby (by omega) hnb (by omega) h2)
              exact L_155 ((L - f) + 1) f (nI 0) (Nat.lt_succ_self _) (by omega) rfl (fun _ => by rw [Nat.sub_self]; rfl)
          · skip
            have L_88 : ∀ (fu_88 : Nat) (e : Nat), L - e < fu_88 → (f ≤ e ∧ e ≤ L) → (e + rn 1 By L e = f + rn 1 By L f) → J 88 [(0, .ref ht)] [] [(ht, .inr (5, [.int (nI L), .ref bt, .int (nI tk), .int (nI f), .int (nI e), .int nb, .int (nI im), .ref tt])), (bt, ba Z 150 (ni By))] 0 0 := by
              intro fu_88
              induction fu_88 with
              | zero => intro e hm; exact absurd hm (Nat.not_lt_zero _)
              | succ fu_88 ih_88 =>
                intro e hm_88 hel he
                refine j_aload_n hJ (q := 89) dX7_next_88 rfl 0 rfl rfl ?_
                refine j_get hJ (q := 92) jf_X7_23 dX7_next_89 0 rfl rfl rfl ?_
                refine j_aload_n hJ (q := 93) dX7_next_92 rfl 0 rfl rfl ?_
                refine j_get hJ (q := 96) jf_X7_19 dX7_next_93 0 rfl rfl rfl ?_
                refine jn_icmp_ge hJ (q := 99) (tgt := 127) dX7_next_96 (by decide) rfl (by omega) (by omega) (fun c15 => ?_) (fun c15 => ?_)
                · skip
                  refine j_aload_n hJ (q := 128) dX7_next_127 rfl 0 rfl rfl ?_
                  refine j_iconst hJ (q := 129) dX7_next_128 rfl ki_1 ?_
                  refine j_put hJ (q := 132) (ws' := [(ht, .inr (5, [.int (nI L), .ref bt, .int (nI 1), .int (nI f), .int (nI e), .int nb, .int (nI im), .ref tt])), (bt, ba Z 150 (ni By))]) jp_X7_29 dX7_next_129 0 rfl rfl rfl (Nat.le_of_ble_eq_true rfl) rfl rfl ?_
                  refine j_goto hJ (q := 276) dX7_next_132 (by decide) ?_
                  have hz := tk_let (By := By) (L := L) (f := f) (e := e) (by omega) (by omega) he (by omega)
                  exact hE.2.2 _ _ _ _ _ rfl dX7_next_276 (Nat.le_refl _) (Nat.le_refl _) (⟨nb, rfl, by rw [hf, hz.1, hz.2], fun h => by rw [hf, hz.1] at h; cases h⟩)
                · skip
                  refine j_aload_n hJ (q := 100) dX7_next_99 rfl 0 rfl rfl ?_
                  refine j_get hJ (q := 103) jf_X7_9 dX7_next_100 0 rfl rfl rfl ?_
                  refine j_aload_n hJ (q := 104) dX7_next_103 rfl 0 rfl rfl ?_
                  refine j_get hJ (q := 107) jf_X7_23 dX7_next_104 0 rfl rfl rfl ?_
                  refine j_baldN hJ (q := 108) (z := nI (By e)) dX7_next_107 1 rfl (by omega) (by decide) rfl rfl ?_
                  have b16 := hby e
                  refine j_sR hJ (q := 111) (rest := []) (As := [.int (nI (By e))]) jl_X7_121 (c_X7_isLetter Z (By e) (by omega)) dX7_next_108 rfl (by decide) (Nat.le_of_ble_eq_true rfl) [] rfl rfl (fun rv hp => ?_)
                  obtain rfl := hp
                  show J 111 [(0, .ref ht)] [.int (bI (decide (97 ≤ (By e) ∧ (By e) ≤ 122)))] [(ht, .inr (5, [.int (nI L), .ref bt, .int (nI tk), .int (nI f), .int (nI e), .int nb, .int (nI im), .ref tt])), (bt, ba Z 150 (ni By))] 0 0
                  refine jp_if_eq hJ (q := 114) (tgt := 127) dX7_next_111 (by decide) rfl (fun c17 => ?_) (fun c17 => ?_)
                  · skip
                    refine j_aload_n hJ (q := 128) dX7_next_127 rfl 0 rfl rfl ?_
                    refine j_iconst hJ (q := 129) dX7_next_128 rfl ki_1 ?_
                    refine j_put hJ (q := 132) (ws' := [(ht, .inr (5, [.int (nI L), .ref bt, .int (nI 1), .int (nI f), .int (nI e), .int nb, .int (nI im), .ref tt])), (bt, ba Z 150 (ni By))]) jp_X7_29 dX7_next_129 0 rfl rfl rfl (Nat.le_of_ble_eq_true rfl) rfl rfl ?_
                    refine j_goto hJ (q := 276) dX7_next_132 (by decide) ?_
                    have hz := tk_let (By := By) (L := L) (f := f) (e := e) (by omega) (by omega) he (by omega)
                    exact hE.2.2 _ _ _ _ _ rfl dX7_next_276 (Nat.le_refl _) (Nat.le_refl _) (⟨nb, rfl, by rw [hf, hz.1, hz.2], fun h => by rw [hf, hz.1] at h; cases h⟩)
                  · skip
                    refine j_aload_n hJ (q := 115) dX7_next_114 rfl 0 rfl rfl ?_
                    refine j_dup hJ (q := 116) dX7_next_115 rfl rfl ?_
                    refine j_get hJ (q := 119) jf_X7_23 dX7_next_116 0 rfl rfl rfl ?_
                    refine j_iconst hJ (q := 120) dX7_next_119 rfl ki_1 ?_
                    refine j_iadd hJ (q := 121) dX7_next_120 rfl (nI_add _ _) ?_
                    refine j_put hJ (q := 124) (ws' := [(ht, .inr (5, [.int (nI L), .ref bt, .int (nI tk), .int (nI f), .int (nI (e + 1)), .int nb, .int (nI im), .ref tt])), (bt, ba Z 150 (ni By))]) jp_X7_23 dX7_next_121 0 rfl rfl rfl (Nat.le_of_ble_eq_true rfl) rfl rfl ?_
                    refine j_goto hJ (q := 88) dX7_next_124 (by decide) ?_
                    exact ih_88 (e + 1) (by omega) (by omega) (by rw [← he, rn_go (p := e) ⟨by omega, by unfold cls; rw [if_pos (by omega)]⟩]; omega)
            exact L_88 ((L - f) + 1) f (Nat.lt_succ_self _) (by omega) rfl
        · skip
          refine j_aload_n hJ (q := 66) dX7_next_65 rfl 0 rfl rfl ?_
          refine j_iconst hJ (q := 67) dX7_next_66 rfl ki_0 ?_
          refine j_put hJ (q := 70) (ws' := [(ht, .inr (5, [.int (nI L), .ref bt, .int (nI 0), .int (nI f), .int (nI f), .int nb, .int (nI im), .ref tt])), (bt, ba Z 150 (ni By))]) jp_X7_29 dX7_next_67 0 rfl rfl rfl (Nat.le_of_ble_eq_true rfl) rfl rfl ?_
          refine j_goto hJ (q := 276) dX7_next_70 (by decide) ?_
          have hz := tkL_0 (By := By) (show L ≤ f by omega)
          exact hE.2.2 _ _ _ _ _ rfl dX7_next_276 (Nat.le_refl _) (Nat.le_refl _) (⟨nb, rfl, by rw [hf, hz.1, hz.2.1]; rfl, fun h => by rw [hf, hz.2.1] at h; cases h⟩)
      · skip
        refine j_aload_n hJ (q := 20) dX7_next_19 rfl 0 rfl rfl ?_
        refine j_get hJ (q := 23) jf_X7_9 dX7_next_20 0 rfl rfl rfl ?_
        refine j_aload_n hJ (q := 24) dX7_next_23 rfl 0 rfl rfl ?_
        refine j_get hJ (q := 27) jf_X7_46 dX7_next_24 0 rfl rfl rfl ?_
        refine j_baldN hJ (q := 28) (z := nI (By f)) dX7_next_27 1 rfl (by omega) (by decide) rfl rfl ?_
        have b18 := hby f
        refine j_bipush hJ (q := 30) dX7_next_28 rfl kb_32 ?_
        refine jn_icmp_ne hJ (q := 33) (tgt := 46) dX7_next_30 (by decide) rfl (by omega) (by omega) (fun c19 => ?_) (fun c19 => ?_)
        · skip
          have hf : sk By L be = f := by rw [hf1]; exact sk_stop (by omega)
          refine j_aload_n hJ (q := 47) dX7_next_46 rfl 0 rfl rfl ?_
          refine j_aload_n hJ (q := 48) dX7_next_47 rfl 0 rfl rfl ?_
          refine j_get hJ (q := 51) jf_X7_46 dX7_next_48 0 rfl rfl rfl ?_
          refine j_put hJ (q := 54) (ws' := [(ht, .inr (5, [.int (nI L), .ref bt, .int (nI tk), .int (nI f), .int (nI f), .int nb, .int (nI im), .ref tt])), (bt, ba Z 150 (ni By))]) jp_X7_23 dX7_next_51 0 rfl rfl rfl (Nat.le_of_ble_eq_true rfl) rfl rfl ?_
          refine j_aload_n hJ (q := 55) dX7_next_54 rfl 0 rfl rfl ?_
          refine j_get hJ (q := 58) jf_X7_46 dX7_next_55 0 rfl rfl rfl ?_
          refine j_aload_n hJ (q := 59) dX7_next_58 rfl 0 rfl rfl ?_
          refine j_get hJ (q := 62) jf_X7_19 dX7_next_59 0 rfl rfl rfl ?_
          refine jn_icmp_lt hJ (q := 65) (tgt := 73) dX7_next_62 (by decide) rfl (by omega) (by omega) (fun c20 => ?_) (fun c20 => ?_)
          · skip
            refine j_aload_n hJ (q := 74) dX7_next_73 rfl 0 rfl rfl ?_
            refine j_get hJ (q := 77) jf_X7_9 dX7_next_74 0 rfl rfl rfl ?_
            refine j_aload_n hJ (q := 78) dX7_next_77 rfl 0 rfl rfl ?_
            refine j_get hJ (q := 81) jf_X7_46 dX7_next_78 0 rfl rfl rfl ?_
            refine j_baldN hJ (q := 82) (z := nI (By f)) dX7_next_81 1 rfl (by omega) (by decide) rfl rfl ?_
            have b21 := hby f
            refine j_sR hJ (q := 85) (rest := []) (As := [.int (nI (By f))]) jl_X7_121 (c_X7_isLetter Z (By f) (by omega)) dX7_next_82 rfl (by decide) (Nat.le_of_ble_eq_true rfl) [] rfl rfl (fun rv hp => ?_)
            obtain rfl := hp
            show J 85 [(0, .ref ht)] [.int (bI (decide (97 ≤ (By f) ∧ (By f) ≤ 122)))] [(ht, .inr (5, [.int (nI L), .ref bt, .int (nI tk), .int (nI f), .int (nI f), .int nb, .int (nI im), .ref tt])), (bt, ba Z 150 (ni By))] 0 0
            refine jp_if_eq hJ (q := 88) (tgt := 135) dX7_next_85 (by decide) rfl (fun c22 => ?_) (fun c22 => ?_)
            · skip
              refine j_aload_n hJ (q := 136) dX7_next_135 rfl 0 rfl rfl ?_
              refine j_get hJ (q := 139) jf_X7_9 dX7_next_136 0 rfl rfl rfl ?_
              refine j_aload_n hJ (q := 140) dX7_next_139 rfl 0 rfl rfl ?_
              refine j_get hJ (q := 143) jf_X7_46 dX7_next_140 0 rfl rfl rfl ?_
              refine j_baldN hJ (q := 144) (z := nI (By f)) dX7_next_143 1 rfl (by omega) (by decide) rfl rfl ?_
              have b23 := hby f
              refine j_sR hJ (q := 147) (rest := []) (As := [.int (nI (By f))]) jl_X7_125 (c_X7_isFigure Z (By f) (by omega)) dX7_next_144 rfl (by decide) (Nat.le_of_ble_eq_true rfl) [] rfl rfl (fun rv hp => ?_)
              obtain rfl := hp
              show J 147 [(0, .ref ht)] [.int (bI (decide (48 ≤ (By f) ∧ (By f) ≤ 57)))] [(ht, .inr (5, [.int (nI L), .ref bt, .int (nI tk), .int (nI f), .int (nI f), .int nb, .int (nI im), .ref tt])), (bt, ba Z 150 (ni By))] 0 0
              refine jp_if_eq hJ (q := 150) (tgt := 243) dX7_next_147 (by decide) rfl (fun c24 => ?_) (fun c24 => ?_)
              · skip
                refine j_aload_n hJ (q := 244) dX7_next_243 rfl 0 rfl rfl ?_
                refine j_aload_n hJ (q := 245) dX7_next_244 rfl 0 rfl rfl ?_
                refine j_get hJ (q := 248) jf_X7_9 dX7_next_245 0 rfl rfl rfl ?_
                refine j_aload_n hJ (q := 249) dX7_next_248 rfl 0 rfl rfl ?_
                refine j_get hJ (q := 252) jf_X7_46 dX7_next_249 0 rfl rfl rfl ?_
                refine j_baldN hJ (q := 253) (z := nI (By f)) dX7_next_252 1 rfl (by omega) (by decide) rfl rfl ?_
                have b25 := hby f
                refine j_bipush hJ (q := 255) dX7_next_253 rfl kb_59 ?_
                refine jn_icmp_ne hJ (q := 258) (tgt := 262) dX7_next_255 (by decide) rfl (by omega) (by omega) (fun c26 => ?_) (fun c26 => ?_)
                · skip
                  refine j_iconst hJ (q := 263) dX7_next_262 rfl ki_4 ?_
                  refine j_put hJ (q := 266) (ws' := [(ht, .inr (5, [.int (nI L), .ref bt, .int (nI 4), .int (nI f), .int (nI f), .int nb, .int (nI im), .ref tt])), (bt, ba Z 150 (ni By))]) jp_X7_29 dX7_next_263 0 rfl rfl rfl (Nat.le_of_ble_eq_true rfl) rfl rfl ?_
                  refine j_aload_n hJ (q := 267) dX7_next_266 rfl 0 rfl rfl ?_
                  refine j_dup hJ (q := 268) dX7_next_267 rfl rfl ?_
                  refine j_get hJ (q := 271) jf_X7_23 dX7_next_268 0 rfl rfl rfl ?_
                  refine j_iconst hJ (q := 272) dX7_next_271 rfl ki_1 ?_
                  refine j_iadd hJ (q := 273) dX7_next_272 rfl (nI_add _ _) ?_
                  refine j_put hJ (q := 276) (ws' := [(ht, .inr (5, [.int (nI L), .ref bt, .int (nI 4), .int (nI f), .int (nI (f + 1)), .int nb, .int (nI im), .ref tt])), (bt, ba Z 150 (ni By))]) jp_X7_23 dX7_next_273 0 rfl rfl rfl (Nat.le_of_ble_eq_true rfl) rfl rfl ?_
                  have hz := tk_sgn (By := By) (L := L) (f := f) (by omega) (by assumption) (by assumption)
                  rw [if_neg (by omega)] at hz
                  exact hE.2.2 _ _ _ _ _ rfl dX7_next_276 (Nat.le_refl _) (Nat.le_refl _) (⟨nb, rfl, by rw [hf, hz.1, hz.2], fun h => by rw [hf, hz.1] at h; cases h⟩)
                · skip
                  refine j_iconst hJ (q := 259) dX7_next_258 rfl ki_3 ?_
                  refine j_goto hJ (q := 263) dX7_next_259 (by decide) ?_
                  refine j_put hJ (q := 266) (ws' := [(ht, .inr (5, [.int (nI L), .ref bt, .int (nI 3), .int (nI f), .int (nI f), .int nb, .int (nI im), .ref tt])), (bt, ba Z 150 (ni By))]) jp_X7_29 dX7_next_263 0 rfl rfl rfl (Nat.le_of_ble_eq_true rfl) rfl rfl ?_
                  refine j_aload_n hJ (q := 267) dX7_next_266 rfl 0 rfl rfl ?_
                  refine j_dup hJ (q := 268) dX7_next_267 rfl rfl ?_
                  refine j_get hJ (q := 271) jf_X7_23 dX7_next_268 0 rfl rfl rfl ?_
                  refine j_iconst hJ (q := 272) dX7_next_271 rfl ki_1 ?_
                  refine j_iadd hJ (q := 273) dX7_next_272 rfl (nI_add _ _) ?_
                  refine j_put hJ (q := 276) (ws' := [(ht, .inr (5, [.int (nI L), .ref bt, .int (nI 3), .int (nI f), .int (nI (f + 1)), .int nb, .int (nI im), .ref tt])), (bt, ba Z 150 (ni By))]) jp_X7_23 dX7_next_273 0 rfl rfl rfl (Nat.le_of_ble_eq_true rfl) rfl rfl ?_
                  have hz := tk_sgn (By := By) (L := L) (f := f) (by omega) (by assumption) (by assumption)
                  rw [if_pos (by omega)] at hz
                  exact hE.2.2 _ _ _ _ _ rfl dX7_next_276 (Nat.le_refl _) (Nat.le_refl _) (⟨nb, rfl, by rw [hf, hz.1, hz.2], fun h => by rw [hf, hz.1] at h; cases h⟩)
              · skip
                refine j_aload_n hJ (q := 151) dX7_next_150 rfl 0 rfl rfl ?_
                refine j_iconst hJ (q := 152) dX7_next_151 rfl ki_0 ?_
                refine j_put hJ (q := 155) (ws' := [(ht, .inr (5, [.int (nI L), .ref bt, .int (nI tk), .int (nI f), .int (nI f), .int (nI 0), .int (nI im), .ref tt])), (bt, ba Z 150 (ni By))]) jp_X7_106 dX7_next_152 0 rfl rfl rfl (Nat.le_of_ble_eq_true rfl) rfl rfl ?_
                have L_155 : ∀ (fu_155 : Nat) (e : Nat) (nn : Int32), L - e < fu_155 → (f ≤ e ∧ e ≤ L) → (e + rn 2 By L e = f + rn 2 By L f) → (e - f ≤ 2 → nn = nI (vN By f (e - f))) → J 155 [(0, .ref ht)] [] [(ht, .inr (5, [.int (nI L), .ref bt, .int (nI tk), .int (nI f), .int (nI e), .int nn, .int (nI im), .ref tt])), (bt, ba Z 150 (ni By))] 0 0 := by
                  intro fu_155
                  induction fu_155 with
                  | zero => intro e nn hm; exact absurd hm (Nat.not_lt_zero _)
                  | succ fu_155 ih_155 =>
                    intro e nn hm_155 hel he hnb
                    refine j_aload_n hJ (q := 156) dX7_next_155 rfl 0 rfl rfl ?_
                    refine j_get hJ (q := 159) jf_X7_23 dX7_next_156 0 rfl rfl rfl ?_
                    refine j_aload_n hJ (q := 160) dX7_next_159 rfl 0 rfl rfl ?_
                    refine j_get hJ (q := 163) jf_X7_19 dX7_next_160 0 rfl rfl rfl ?_
                    refine jn_icmp_ge hJ (q := 166) (tgt := 218) dX7_next_163 (by decide) rfl (by omega) (by omega) (fun c27 => ?_) (fun c27 => ?_)
                    · skip
                      refine j_aload_n hJ (q := 219) dX7_next_218 rfl 0 rfl rfl ?_
                      refine j_aload_n hJ (q := 220) dX7_next_219 rfl 0 rfl rfl ?_
                      refine j_get hJ (q := 223) jf_X7_23 dX7_next_220 0 rfl rfl rfl ?_
                      refine j_aload_n hJ (q := 224) dX7_next_223 rfl 0 rfl rfl ?_
                      refine j_get hJ (q := 227) jf_X7_46 dX7_next_224 0 rfl rfl rfl ?_
                      refine j_isub hJ (q := 228) dX7_next_227 rfl (pk_sub (by omega)) ?_
                      refine j_iconst hJ (q := 229) dX7_next_228 rfl ki_2 ?_
                      refine jn_icmp_gt hJ (q := 232) (tgt := 236) dX7_next_229 (by decide) rfl (by omega) (by omega) (fun c28 => ?_) (fun c28 => ?_)
                      · skip
                        refine j_iconst hJ (q := 237) dX7_next_236 rfl ki_4 ?_
                        refine j_put hJ (q := 240) (ws' := [(ht, .inr (5, [.int (nI L), .ref bt, .int (nI 4), .int (nI f), .int (nI e), .int nn, .int (nI im), .ref tt])), (bt, ba Z 150 (ni By))]) jp_X7_29 dX7_next_237 0 rfl rfl rfl (Nat.le_of_ble_eq_true rfl) rfl rfl ?_
                        refine j_goto hJ (q := 276) dX7_next_240 (by decide) ?_
                        have hq := tk_fig (By := By) (L := L) (f := f) (e := e) (by omega) (by omega) he (by omega)
                        have hz := tk_wrong (By := By) (L := L) (f := f) (e := e) (by omega) hq (by omega)
                        exact hE.2.2 _ _ _ _ _ rfl dX7_next_276 (Nat.le_refl _) (Nat.le_refl _) (⟨nn, rfl, by rw [hf, hz, hq.2], fun h => by rw [hf, hz] at h; cases h⟩)
                      · skip
                        refine j_iconst hJ (q := 233) dX7_next_232 rfl ki_2 ?_
                        refine j_goto hJ (q := 237) dX7_next_233 (by decide) ?_
                        refine j_put hJ (q := 240) (ws' := [(ht, .inr (5, [.int (nI L), .ref bt, .int (nI 2), .int (nI f), .int (nI e), .int nn, .int (nI im), .ref tt])), (bt, ba Z 150 (ni By))]) jp_X7_29 dX7_next_237 0 rfl rfl rfl (Nat.le_of_ble_eq_true rfl) rfl rfl ?_
                        refine j_goto hJ (q := 276) dX7_next_240 (by decide) ?_
                        have hq := tk_fig (By := By) (L := L) (f := f) (e := e) (by omega) (by omega) he (by omega)
                        have hz := tk_num (By := By) (L := L) (f := f) (e := e) (by omega) hq (by omega)
                        exact hE.2.2 _ _ _ _ _ rfl dX7_next_276 (Nat.le_refl _) (Nat.le_refl _) (⟨nn, rfl, by rw [hf, hz.1, hq.2], fun _ => by rw [hf, hz.2]; exact hnb (by omega)⟩)
                    · skip
                      refine j_aload_n hJ (q := 167) dX7_next_166 rfl 0 rfl rfl ?_
                      refine j_get hJ (q := 170) jf_X7_9 dX7_next_167 0 rfl rfl rfl ?_
                      refine j_aload_n hJ (q := 171) dX7_next_170 rfl 0 rfl rfl ?_
                      refine j_get hJ (q := 174) jf_X7_23 dX7_next_171 0 rfl rfl rfl ?_
                      refine j_baldN hJ (q := 175) (z := nI (By e)) dX7_next_174 1 rfl (by omega) (by decide) rfl rfl ?_
                      have b29 := hby e
                      refine j_sR hJ (q := 178) (rest := []) (As := [.int (nI (By e))]) jl_X7_125 (c_X7_isFigure Z (By e) (by omega)) dX7_next_175 rfl (by decide) (Nat.le_of_ble_eq_true rfl) [] rfl rfl (fun rv hp => ?_)
                      obtain rfl := hp
                      show J 178 [(0, .ref ht)] [.int (bI (decide (48 ≤ (By e) ∧ (By e) ≤ 57)))] [(ht, .inr (5, [.int (nI L), .ref bt, .int (nI tk), .int (nI f), .int (nI e), .int nn, .int (nI im), .ref tt])), (bt, ba Z 150 (ni By))] 0 0
                      refine jp_if_eq hJ (q := 181) (tgt := 218) dX7_next_178 (by decide) rfl (fun c30 => ?_) (fun c30 => ?_)
                      · skip
                        refine j_aload_n hJ (q := 219) dX7_next_218 rfl 0 rfl rfl ?_
                        refine j_aload_n hJ (q := 220) dX7_next_219 rfl 0 rfl rfl ?_
                        refine j_get hJ (q := 223) jf_X7_23 dX7_next_220 0 rfl rfl rfl ?_
                        refine j_aload_n hJ (q := 224) dX7_next_223 rfl 0 rfl rfl ?_
                        refine j_get hJ (q := 227) jf_X7_46 dX7_next_224 0 rfl rfl rfl ?_
                        refine j_isub hJ (q := 228) dX7_next_227 rfl (pk_sub (by omega)) ?_
                        refine j_iconst hJ (q := 229) dX7_next_228 rfl ki_2 ?_
                        refine jn_icmp_gt hJ (q := 232) (tgt := 236) dX7_next_229 (by decide) rfl (by omega) (by omega) (fun c31 => ?_) (fun c31 => ?_)
                        · skip
                          refine j_iconst hJ (q := 237) dX7_next_236 rfl ki_4 ?_
                          refine j_put hJ (q := 240) (ws' := [(ht, .inr (5, [.int (nI L), .ref bt, .int (nI 4), .int (nI f), .int (nI e), .int nn, .int (nI im), .ref tt])), (bt, ba Z 150 (ni By))]) jp_X7_29 dX7_next_237 0 rfl rfl rfl (Nat.le_of_ble_eq_true rfl) rfl rfl ?_
                          refine j_goto hJ (q := 276) dX7_next_240 (by decide) ?_
                          have hq := tk_fig (By := By) (L := L) (f := f) (e := e) (by omega) (by omega) he (by omega)
                          have hz := tk_wrong (By := By) (L := L) (f := f) (e := e) (by omega) hq (by omega)
                          exact hE.2.2 _ _ _ _ _ rfl dX7_next_276 (Nat.le_refl _) (Nat.le_refl _) (⟨nn, rfl, by rw [hf, hz, hq.2], fun h => by rw [hf, hz] at h; cases h⟩)
                        · skip
                          refine j_iconst hJ (q := 233) dX7_next_232 rfl ki_2 ?_
                          refine j_goto hJ (q := 237) dX7_next_233 (by decide) ?_
                          refine j_put hJ (q := 240) (ws' := [(ht, .inr (5, [.int (nI L), .ref bt, .int (nI 2), .int (nI f), .int (nI e), .int nn, .int (nI im), .ref tt])), (bt, ba Z 150 (ni By))]) jp_X7_29 dX7_next_237 0 rfl rfl rfl (Nat.le_of_ble_eq_true rfl) rfl rfl ?_
                          refine j_goto hJ (q := 276) dX7_next_240 (by decide) ?_
                          have hq := tk_fig (By := By) (L := L) (f := f) (e := e) (by omega) (by omega) he (by omega)
                          have hz := tk_num (By := By) (L := L) (f := f) (e := e) (by omega) hq (by omega)
                          exact hE.2.2 _ _ _ _ _ rfl dX7_next_276 (Nat.le_refl _) (Nat.le_refl _) (⟨nn, rfl, by rw [hf, hz.1, hq.2], fun _ => by rw [hf, hz.2]; exact hnb (by omega)⟩)
                      · skip
                        refine j_aload_n hJ (q := 182) dX7_next_181 rfl 0 rfl rfl ?_
                        refine j_bipush hJ (q := 184) dX7_next_182 rfl kb_10 ?_
                        refine j_aload_n hJ (q := 185) dX7_next_184 rfl 0 rfl rfl ?_
                        refine j_get hJ (q := 188) jf_X7_106 dX7_next_185 0 rfl rfl rfl ?_
                        refine j_imul hJ (q := 189) dX7_next_188 rfl (zI_mul (zI_nat 10).symm (zI_of nn)) ?_
                        refine j_aload_n hJ (q := 190) dX7_next_189 rfl 0 rfl rfl ?_
                        refine j_get hJ (q := 193) jf_X7_9 dX7_next_190 0 rfl rfl rfl ?_
                        refine j_aload_n hJ (q := 194) dX7_next_193 rfl 0 rfl rfl ?_
                        refine j_get hJ (q := 197) jf_X7_23 dX7_next_194 0 rfl rfl rfl ?_
                        refine j_baldN hJ (q := 198) (z := nI (By e)) dX7_next_197 1 rfl (by omega) (by decide) rfl rfl ?_
                        have b32 := hby e
                        refine j_bipush hJ (q := 200) dX7_next_198 rfl kb_48 ?_
                        refine j_isub hJ (q := 201) dX7_next_200 rfl (zI_sub (zI_nat (By e)).symm (zI_nat 48).symm) ?_
                        refine j_iadd hJ (q := 202) dX7_next_201 rfl (zI_add rfl rfl) ?_
                        refine j_put hJ (q := 205) (ws' := [(ht, .inr (5, [.int (nI L), .ref bt, .int (nI tk), .int (nI f), .int (nI e), .int (zI ((10 : Int) * nn.toInt + (((By e) : Int) - (48 : Int)))), .int (nI im), .ref tt])), (bt, ba Z 150 (ni By))]) jp_X7_106 dX7_next_202 0 rfl rfl rfl (Nat.le_of_ble_eq_true rfl) rfl rfl ?_
                        refine j_aload_n hJ (q := 206) dX7_next_205 rfl 0 rfl rfl ?_
                        refine j_dup hJ (q := 207) dX7_next_206 rfl rfl ?_
                        refine j_get hJ (q := 210) jf_X7_23 dX7_next_207 0 rfl rfl rfl ?_
                        refine j_iconst hJ (q := 211) dX7_next_210 rfl ki_1 ?_
                        refine j_iadd hJ (q := 212) dX7_next_211 rfl (nI_add _ _) ?_
                        refine j_put hJ (q := 215) (ws' := [(ht, .inr (5, [.int (nI L), .ref bt, .int (nI tk), .int (nI f), .int (nI (e + 1)), .int (zI ((10 : Int) * nn.toInt + (((By e) : Int) - (48 : Int)))), .int (nI im), .ref tt])), (bt, ba Z 150 (ni By))]) jp_X7_23 dX7_next_212 0 rfl rfl rfl (Nat.le_of_ble_eq_true rfl) rfl rfl ?_
                        refine j_goto hJ (q := 155) dX7_next_215 (by decide) ?_
                        exact ih_155 (e + 1) (zI ((10 : Int) * nn.toInt + (((By e) : Int) - (48 : Int)))) (by omega) (by omega) (by rw [← he, rn_go (p := e) ⟨by omega, by unfold cls; rw [if_neg (by omega), if_pos (by omega)]⟩]; omega) (fun h2 => num_st hby (by omega) hnb (by omega) h2)
                exact L_155 ((L - f) + 1) f (nI 0) (Nat.lt_succ_self _) (by omega) rfl (fun _ => by rw [Nat.sub_self]; rfl)
            · skip
              have L_88 : ∀ (fu_88 : Nat) (e : Nat), L - e < fu_88 → (f ≤ e ∧ e ≤ L) → (e + rn 1 By L e = f + rn 1 By L f) → J 88 [(0, .ref ht)] [] [(ht, .inr (5, [.int (nI L), .ref bt, .int (nI tk), .int (nI f), .int (nI e), .int nb, .int (nI im), .ref tt])), (bt, ba Z 150 (ni By))] 0 0 := by
                intro fu_88
                induction fu_88 with
                | zero => intro e hm; exact absurd hm (Nat.not_lt_zero _)
                | succ fu_88 ih_88 =>
                  intro e hm_88 hel he
                  refine j_aload_n hJ (q := 89) dX7_next_88 rfl 0 rfl rfl ?_
                  refine j_get hJ (q := 92) jf_X7_23 dX7_next_89 0 rfl rfl rfl ?_
                  refine j_aload_n hJ (q := 93) dX7_next_92 rfl 0 rfl rfl ?_
                  refine j_get hJ (q := 96) jf_X7_19 dX7_next_93 0 rfl rfl rfl ?_
                  refine jn_icmp_ge hJ (q := 99) (tgt := 127) dX7_next_96 (by decide) rfl (by omega) (by omega) (fun c33 => ?_) (fun c33 => ?_)
                  · skip
                    refine j_aload_n hJ (q := 128) dX7_next_127 rfl 0 rfl rfl ?_
                    refine j_iconst hJ (q := 129) dX7_next_128 rfl ki_1 ?_
                    refine j_put hJ (q := 132) (ws' := [(ht, .inr (5, [.int (nI L), .ref bt, .int (nI 1), .int (nI f), .int (nI e), .int nb, .int (nI im), .ref tt])), (bt, ba Z 150 (ni By))]) jp_X7_29 dX7_next_129 0 rfl rfl rfl (Nat.le_of_ble_eq_true rfl) rfl rfl ?_
                    refine j_goto hJ (q := 276) dX7_next_132 (by decide) ?_
                    have hz := tk_let (By := By) (L := L) (f := f) (e := e) (by omega) (by omega) he (by omega)
                    exact hE.2.2 _ _ _ _ _ rfl dX7_next_276 (Nat.le_refl _) (Nat.le_refl _) (⟨nb, rfl, by rw [hf, hz.1, hz.2], fun h => by rw [hf, hz.1] at h; cases h⟩)
                  · skip
                    refine j_aload_n hJ (q := 100) dX7_next_99 rfl 0 rfl rfl ?_
                    refine j_get hJ (q := 103) jf_X7_9 dX7_next_100 0 rfl rfl rfl ?_
                    refine j_aload_n hJ (q := 104) dX7_next_103 rfl 0 rfl rfl ?_
                    refine j_get hJ (q := 107) jf_X7_23 dX7_next_104 0 rfl rfl rfl ?_
                    refine j_baldN hJ (q := 108) (z := nI (By e)) dX7_next_107 1 rfl (by omega) (by decide) rfl rfl ?_
                    have b34 := hby e
                    refine j_sR hJ (q := 111) (rest := []) (As := [.int (nI (By e))]) jl_X7_121 (c_X7_isLetter Z (By e) (by omega)) dX7_next_108 rfl (by decide) (Nat.le_of_ble_eq_true rfl) [] rfl rfl (fun rv hp => ?_)
                    obtain rfl := hp
                    show J 111 [(0, .ref ht)] [.int (bI (decide (97 ≤ (By e) ∧ (By e) ≤ 122)))] [(ht, .inr (5, [.int (nI L), .ref bt, .int (nI tk), .int (nI f), .int (nI e), .int nb, .int (nI im), .ref tt])), (bt, ba Z 150 (ni By))] 0 0
                    refine jp_if_eq hJ (q := 114) (tgt := 127) dX7_next_111 (by decide) rfl (fun c35 => ?_) (fun c35 => ?_)
                    · skip
                      refine j_aload_n hJ (q := 128) dX7_next_127 rfl 0 rfl rfl ?_
                      refine j_iconst hJ (q := 129) dX7_next_128 rfl ki_1 ?_
                      refine j_put hJ (q := 132) (ws' := [(ht, .inr (5, [.int (nI L), .ref bt, .int (nI 1), .int (nI f), .int (nI e), .int nb, .int (nI im), .ref tt])), (bt, ba Z 150 (ni By))]) jp_X7_29 dX7_next_129 0 rfl rfl rfl (Nat.le_of_ble_eq_true rfl) rfl rfl ?_
                      refine j_goto hJ (q := 276) dX7_next_132 (by decide) ?_
                      have hz := tk_let (By := By) (L := L) (f := f) (e := e) (by omega) (by omega) he (by omega)
                      exact hE.2.2 _ _ _ _ _ rfl dX7_next_276 (Nat.le_refl _) (Nat.le_refl _) (⟨nb, rfl, by rw [hf, hz.1, hz.2], fun h => by rw [hf, hz.1] at h; cases h⟩)
                    · skip
                      refine j_aload_n hJ (q := 115) dX7_next_114 rfl 0 rfl rfl ?_
                      refine j_dup hJ (q := 116) dX7_next_115 rfl rfl ?_
                      refine j_get hJ (q := 119) jf_X7_23 dX7_next_116 0 rfl rfl rfl ?_
                      refine j_iconst hJ (q := 120) dX7_next_119 rfl ki_1 ?_
                      refine j_iadd hJ (q := 121) dX7_next_120 rfl (nI_add _ _) ?_
                      refine j_put hJ (q := 124) (ws' := [(ht, .inr (5, [.int (nI L), .ref bt, .int (nI tk), .int (nI f), .int (nI (e + 1)), .int nb, .int (nI im), .ref tt])), (bt, ba Z 150 (ni By))]) jp_X7_23 dX7_next_121 0 rfl rfl rfl (Nat.le_of_ble_eq_true rfl) rfl rfl ?_
                      refine j_goto hJ (q := 88) dX7_next_124 (by decide) ?_
                      exact ih_88 (e + 1) (by omega) (by omega) (by rw [← he, rn_go (p := e) ⟨by omega, by unfold cls; rw [if_pos (by omega)]⟩]; omega)
              exact L_88 ((L - f) + 1) f (Nat.lt_succ_self _) (by omega) rfl
          · skip
            refine j_aload_n hJ (q := 66) dX7_next_65 rfl 0 rfl rfl ?_
            refine j_iconst hJ (q := 67) dX7_next_66 rfl ki_0 ?_
            refine j_put hJ (q := 70) (ws' := [(ht, .inr (5, [.int (nI L), .ref bt, .int (nI 0), .int (nI f), .int (nI f), .int nb, .int (nI im), .ref tt])), (bt, ba Z 150 (ni By))]) jp_X7_29 dX7_next_67 0 rfl rfl rfl (Nat.le_of_ble_eq_true rfl) rfl rfl ?_
            refine j_goto hJ (q := 276) dX7_next_70 (by decide) ?_
            have hz := tkL_0 (By := By) (show L ≤ f by omega)
            exact hE.2.2 _ _ _ _ _ rfl dX7_next_276 (Nat.le_refl _) (Nat.le_refl _) (⟨nb, rfl, by rw [hf, hz.1, hz.2.1]; rfl, fun h => by rw [hf, hz.2.1] at h; cases h⟩)
        · skip
          refine j_aload_n hJ (q := 34) dX7_next_33 rfl 0 rfl rfl ?_
          refine j_dup hJ (q := 35) dX7_next_34 rfl rfl ?_
          refine j_get hJ (q := 38) jf_X7_46 dX7_next_35 0 rfl rfl rfl ?_
          refine j_iconst hJ (q := 39) dX7_next_38 rfl ki_1 ?_
          refine j_iadd hJ (q := 40) dX7_next_39 rfl (nI_add _ _) ?_
          refine j_put hJ (q := 43) (ws' := [(ht, .inr (5, [.int (nI L), .ref bt, .int (nI tk), .int (nI (f + 1)), .int (nI be), .int nb, .int (nI im), .ref tt])), (bt, ba Z 150 (ni By))]) jp_X7_46 dX7_next_40 0 rfl rfl rfl (Nat.le_of_ble_eq_true rfl) rfl rfl ?_
          refine j_goto hJ (q := 8) dX7_next_43 (by decide) ?_
          exact ih_8 (f + 1) (by omega) (by omega) (by rw [hf1]; exact sk_go (by omega))
  exact L_8 ((L - be) + 1) be (Nat.lt_succ_self _) hbe rfl
