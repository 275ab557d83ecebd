theorem c_X7_nextN (Z : jZ) (ht : Nat) (bt : Nat) (tt : Nat) (L : Nat) (By : Nat → Nat) (fi : Nat) (nb : Int32) (im : Nat) (hL : L ≤ 150) (hby : ∀ j, By j < 128) (hf : fi ≤ L) : CT Z yX7_next cX7_next 1 (none) 2 0 0 [.ref ht] [(ht, .inr (5, [.int (nI L), .ref bt, .int (nI (tkK By L fi)), .int (nI fi), .int (nI (fi + tkL By L fi)), .int nb, .int (nI im), .ref tt])), (bt, ba Z 150 (ni By))] (fun rr ww => ∃ nz : Int32, rr = none ∧ ww = [(ht, .inr (5, [.int (nI L), .ref bt, .int (nI (tkK By L (nx By L fi))), .int (nI (nx By L fi)), .int (nI ((nx By L fi) + tkL By L (nx By L fi))), .int nz, .int (nI im), .ref tt])), (bt, ba Z 150 (ni By))] ∧ (tkK By L (nx By L fi) = 2 → nz = nI (tkV By L (nx By L fi)))) := c_X7_next Z ht bt tt L By (tkK By L fi) fi (fi + tkL By L fi) nb im hL hby (tkL_in hf)

set_option maxHeartbeats 4000000 in
set_option maxRecDepth 100000 in
theorem c_X7_put (Z : jZ) (ht : Nat) (bt : Nat) (tt : Nat) (L : Nat) (By : Nat → Nat) (tk : Nat) (fi : Nat) (be : Nat) (nb : Int32) (im : Nat) (c : Nat) (h1 : L < 150) (h2 : c < 128) : CT Z yX7_put cX7_put 2 (none) 1 0 0 [.ref ht, .int (nI c)] [(ht, .inr (5, [.int (nI L), .ref bt, .int (nI tk), .int (nI fi), .int (nI be), .int nb, .int (nI im), .ref tt])), (bt, ba Z 150 (ni By))] (fun rr ww => rr = none ∧ ww = [(ht, .inr (5, [.int (nI (L + 1)), .ref bt, .int (nI tk), .int (nI fi), .int (nI be), .int nb, .int (nI im), .ref tt])), (bt, ba Z 150 (ni (va_up By L c)))]) := by
  refine CT.of RX7 false rfl (fun h => by cases h) (by decide +kernel) (Nat.le_of_ble_eq_true rfl) ?_
  intro J hJ hE
  show J 0 [(0, .ref ht), (1, .int (nI c))] [] [(ht, .inr (5, [.int (nI L), .ref bt, .int (nI tk), .int (nI fi), .int (nI be), .int nb, .int (nI im), .ref tt])), (bt, ba Z 150 (ni By))] 0 0
  refine j_aload_n hJ (q := 1) dX7_put_0 rfl 0 rfl rfl ?_
  refine j_get hJ (q := 4) jf_X7_19 dX7_put_1 0 rfl rfl rfl ?_
  refine j_sipush hJ (q := 7) dX7_put_4 rfl ks_150 ?_
  refine jn_icmp_ge hJ (q := 10) (tgt := 31) dX7_put_7 (by decide) rfl (by omega) (by omega) (fun c1 => ?_) (fun c1 => ?_)
  · skip
    exfalso; omega
  · skip
    refine j_aload_n hJ (q := 11) dX7_put_10 rfl 0 rfl rfl ?_
    refine j_get hJ (q := 14) jf_X7_9 dX7_put_11 0 rfl rfl rfl ?_
    refine j_aload_n hJ (q := 15) dX7_put_14 rfl 0 rfl rfl ?_
    refine j_get hJ (q := 18) jf_X7_19 dX7_put_15 0 rfl rfl rfl ?_
    refine j_iload_n hJ (q := 19) dX7_put_18 rfl 1 rfl rfl ?_
    refine j_i2b hJ (q := 20) dX7_put_19 rfl (nI_i2b (by omega)) ?_
    refine j_bastN hJ (q := 21) (ws' := [(ht, .inr (5, [.int (nI L), .ref bt, .int (nI tk), .int (nI fi), .int (nI be), .int nb, .int (nI im), .ref tt])), (bt, ba Z 150 (ni (va_up By L c)))]) dX7_put_20 1 rfl (by omega) (by decide) (ni_upb _ _ (by omega)) rfl rfl ?_
    refine j_aload_n hJ (q := 22) dX7_put_21 rfl 0 rfl rfl ?_
    refine j_dup hJ (q := 23) dX7_put_22 rfl rfl ?_
    refine j_get hJ (q := 26) jf_X7_19 dX7_put_23 0 rfl rfl rfl ?_
    refine j_iconst hJ (q := 27) dX7_put_26 rfl ki_1 ?_
    refine j_iadd hJ (q := 28) dX7_put_27 rfl (nI_add _ _) ?_
    refine j_put hJ (q := 31) (ws' := [(ht, .inr (5, [.int (nI (L + 1)), .ref bt, .int (nI tk), .int (nI fi), .int (nI be), .int nb, .int (nI im), .ref tt])), (bt, ba Z 150 (ni (va_up By L c)))]) jp_X7_19 dX7_put_28 0 rfl rfl rfl (Nat.le_of_ble_eq_true rfl) rfl rfl ?_
    exact hE.2.2 _ _ _ _ _ rfl dX7_put_31 (Nat.le_refl _) (Nat.le_refl _) (⟨rfl, rfl⟩)

set_option maxHeartbeats 4000000 in
set_option maxRecDepth 100000 in
theorem c_X7_isStop (Z : jZ) (ht : Nat) (bt : Nat) (tt : Nat) (L : Nat) (By : Nat → Nat) (fi : Nat) (nb : Int32) (im : Nat) (hL : L ≤ 150) (hby : ∀ j, By j < 128) (hf : fi ≤ L) : CT Z yX7_isStop cX7_isStop 1 ((some FieldType.boolean)) 3 0 0 [.ref ht] [(ht, .inr (5, [.int (nI L), .ref bt, .int (nI (tkK By L fi)), .int (nI fi), .int (nI (fi + tkL By L fi)), .int nb, .int (nI im), .ref tt])), (bt, ba Z 150 (ni By))] (fun rr ww => ∃ nz : Int32, rr = some (.int (bI (decide (tkK By L (nx By L fi) = 3)))) ∧ ww = [(ht, .inr (5, [.int (nI L), .ref bt, .int (nI (tkK By L (nx By L fi))), .int (nI (nx By L fi)), .int (nI ((nx By L fi) + tkL By L (nx By L fi))), .int nz, .int (nI im), .ref tt])), (bt, ba Z 150 (ni By))]) := by
  refine CT.of RX7 false rfl (fun h => by cases h) (by decide +kernel) (Nat.le_of_ble_eq_true rfl) ?_
  intro J hJ hE
  show J 0 [(0, .ref ht)] [] [(ht, .inr (5, [.int (nI L), .ref bt, .int (nI (tkK By L fi)), .int (nI fi), .int (nI (fi + tkL By L fi)), .int nb, .int (nI im), .ref tt])), (bt, ba Z 150 (ni By))] 0 0
  refine j_aload_n hJ (q := 1) dX7_isStop_0 rfl 0 rfl rfl ?_
  refine j_vW hJ (q := 4) (rest := []) (As := []) (wr := []) jl_X7_26 (c_X7_nextN Z ht bt tt L By fi nb im (by omega) hby (by omega)) 0 rfl rfl dX7_isStop_1 rfl (by decide) (Nat.le_of_ble_eq_true rfl) [0, 1] [] rfl rfl rfl rfl (by decide) rfl (fun rv wv hp => ?_)
  obtain ⟨nz1, rfl, rfl, f2⟩ := hp
  show J 4 [(0, .ref ht)] [] [(ht, .inr (5, [.int (nI L), .ref bt, .int (nI (tkK By L (nx By L fi))), .int (nI (nx By L fi)), .int (nI ((nx By L fi) + tkL By L (nx By L fi))), .int nz1, .int (nI im), .ref tt])), (bt, ba Z 150 (ni By))] 0 0
  have hk4 := tkK_le (By := By) (L := L) (p := nx By L fi)
  refine j_aload_n hJ (q := 5) dX7_isStop_4 rfl 0 rfl rfl ?_
  refine j_get hJ (q := 8) jf_X7_29 dX7_isStop_5 0 rfl rfl rfl ?_
  refine j_iconst hJ (q := 9) dX7_isStop_8 rfl ki_3 ?_
  refine jn_icmp_ne hJ (q := 12) (tgt := 16) dX7_isStop_9 (by decide) rfl (by omega) (by omega) (fun c3 => ?_) (fun c3 => ?_)
  · skip
    refine j_iconst hJ (q := 17) dX7_isStop_16 rfl ki_0 ?_
    exact hE.1 _ _ _ _ _ _ _ rfl rfl dX7_isStop_17 (Nat.le_refl _) (Nat.le_refl _) (⟨nz1, congrArg (fun z => some (Value.int z)) (bI_f (by omega)), rfl⟩)
  · skip
    refine j_iconst hJ (q := 13) dX7_isStop_12 rfl ki_1 ?_
    refine j_goto hJ (q := 17) dX7_isStop_13 (by decide) ?_
    exact hE.1 _ _ _ _ _ _ _ rfl rfl dX7_isStop_17 (Nat.le_refl _) (Nat.le_refl _) (⟨nz1, congrArg (fun z => some (Value.int z)) (bI_t (by omega)), rfl⟩)

set_option maxHeartbeats 4000000 in
set_option maxRecDepth 100000 in
theorem c_X7_isNumber (Z : jZ) (ht : Nat) (bt : Nat) (tt : Nat) (L : Nat) (By : Nat → Nat) (fi : Nat) (nb : Int32) (im : Nat) (Td : Nat → Int32) (k : Nat) (lo : Nat) (hi : Nat) (hL : L ≤ 150) (hby : ∀ j, By j < 128) (hf : fi ≤ L) (hk : k < 3) (h2 : lo < 1000) (h3 : hi < 1000) : CT Z yX7_isNumber cX7_isNumber 4 ((some FieldType.boolean)) 3 0 0 [.ref ht, .int (nI k), .int (nI lo), .int (nI hi)] [(ht, .inr (5, [.int (nI L), .ref bt, .int (nI (tkK By L fi)), .int (nI fi), .int (nI (fi + tkL By L fi)), .int nb, .int (nI im), .ref tt])), (bt, ba Z 150 (ni By)), (tt, ia Z 3 Td)] (fun rr ww => ∃ nz : Int32, rr = some (.int (bI (decide (num By L (nx By L fi) lo hi)))) ∧ ww = [(ht, .inr (5, [.int (nI L), .ref bt, .int (nI (tkK By L (nx By L fi))), .int (nI (nx By L fi)), .int (nI ((nx By L fi) + tkL By L (nx By L fi))), .int nz, .int (nI im), .ref tt])), (bt, ba Z 150 (ni By)), (tt, ia Z 3 (upd Td k nz))] ∧ (tkK By L (nx By L fi) = 2 → nz = nI (tkV By L (nx By L fi)))) := by
  refine CT.of RX7 false rfl (fun h => by cases h) (by decide +kernel) (Nat.le_of_ble_eq_true rfl) ?_
  intro J hJ hE
  show J 0 [(0, .ref ht), (1, .int (nI k)), (2, .int (nI lo)), (3, .int (nI hi))] [] [(ht, .inr (5, [.int (nI L), .ref bt, .int (nI (tkK By L fi)), .int (nI fi), .int (nI (fi + tkL By L fi)), .int nb, .int (nI im), .ref tt])), (bt, ba Z 150 (ni By)), (tt, ia Z 3 Td)] 0 0
  refine j_aload_n hJ (q := 1) dX7_isNumber_0 rfl 0 rfl rfl ?_
  refine j_vW hJ (q := 4) (rest := []) (As := []) (wr := [(tt, ia Z 3 Td)]) jl_X7_26 (c_X7_nextN Z ht bt tt L By fi nb im (by omega) hby (by omega)) 0 rfl rfl dX7_isNumber_1 rfl (by decide) (Nat.le_of_ble_eq_true rfl) [0, 1] [2] rfl rfl rfl rfl (by decide) rfl (fun rv wv hp => ?_)
  obtain ⟨nz1, rfl, rfl, f2⟩ := hp
  refine j_world hJ (ws' := [(ht, .inr (5, [.int (nI L), .ref bt, .int (nI (tkK By L (nx By L fi))), .int (nI (nx By L fi)), .int (nI ((nx By L fi) + tkL By L (nx By L fi))), .int nz1, .int (nI im), .ref tt])), (bt, ba Z 150 (ni By)), (tt, ia Z 3 Td)]) [1, 2, 0] rfl rfl ?_
  show J 4 [(0, .ref ht), (1, .int (nI k)), (2, .int (nI lo)), (3, .int (nI hi))] [] [(ht, .inr (5, [.int (nI L), .ref bt, .int (nI (tkK By L (nx By L fi))), .int (nI (nx By L fi)), .int (nI ((nx By L fi) + tkL By L (nx By L fi))), .int nz1, .int (nI im), .ref tt])), (bt, ba Z 150 (ni By)), (tt, ia Z 3 Td)] 0 0
  have hk4 := tkK_le (By := By) (L := L) (p := nx By L fi)
  have hvl := tkV_le (L := L) (a := nx By L fi) hby
  have hnum := f2
  refine j_aload_n hJ (q := 5) dX7_isNumber_4 rfl 0 rfl rfl ?_
  refine j_get hJ (q := 8) jf_X7_15 dX7_isNumber_5 0 rfl rfl rfl ?_
  refine j_iload_n hJ (q := 9) dX7_isNumber_8 rfl 1 rfl rfl ?_
  refine j_aload_n hJ (q := 10) dX7_isNumber_9 rfl 0 rfl rfl ?_
  refine j_get hJ (q := 13) jf_X7_106 dX7_isNumber_10 0 rfl rfl rfl ?_
  refine j_iastN hJ (q := 14) (ws' := [(ht, .inr (5, [.int (nI L), .ref bt, .int (nI (tkK By L (nx By L fi))), .int (nI (nx By L fi)), .int (nI ((nx By L fi) + tkL By L (nx By L fi))), .int nz1, .int (nI im), .ref tt])), (bt, ba Z 150 (ni By)), (tt, ia Z 3 (upd Td k nz1))]) dX7_isNumber_13 2 rfl (by omega) (by decide) rfl rfl rfl ?_
  refine j_aload_n hJ (q := 15) dX7_isNumber_14 rfl 0 rfl rfl ?_
  refine j_get hJ (q := 18) jf_X7_29 dX7_isNumber_15 0 rfl rfl rfl ?_
  refine j_iconst hJ (q := 19) dX7_isNumber_18 rfl ki_2 ?_
  refine jn_icmp_ne hJ (q := 22) (tgt := 38) dX7_isNumber_19 (by decide) rfl (by omega) (by omega) (fun c3 => ?_) (fun c3 => ?_)
  · skip
    refine j_iconst hJ (q := 39) dX7_isNumber_38 rfl ki_0 ?_
    exact hE.1 _ _ _ _ _ _ _ rfl rfl dX7_isNumber_39 (Nat.le_refl _) (Nat.le_refl _) (⟨nz1, congrArg (fun z => some (Value.int z)) (bI_f (by rw [num_iff]; omega)), rfl, hnum⟩)
  · skip
    have hz : nz1.toInt = (tkV By L (nx By L fi) : Int) := by rw [hnum (by assumption)]; exact nI_toI (by omega)
    refine j_aload_n hJ (q := 23) dX7_isNumber_22 rfl 0 rfl rfl ?_
    refine j_get hJ (q := 26) jf_X7_106 dX7_isNumber_23 0 rfl rfl rfl ?_
    refine j_iload_n hJ (q := 27) dX7_isNumber_26 rfl 2 rfl rfl ?_
    refine j_iload_n hJ (q := 28) dX7_isNumber_27 rfl 3 rfl rfl ?_
    refine j_sWN hJ (q := 31) (rest := []) (As := [.int nz1, .int (nI lo), .int (nI hi)]) (wr := [(ht, .inr (5, [.int (nI L), .ref bt, .int (nI (tkK By L (nx By L fi))), .int (nI (nx By L fi)), .int (nI ((nx By L fi) + tkL By L (nx By L fi))), .int nz1, .int (nI im), .ref tt])), (bt, ba Z 150 (ni By)), (tt, ia Z 3 (upd Td k nz1))]) (by decide) tm_1 tm_271 jm_yX8_within tm_270 (c_X8_withinN Z nz1 lo hi (by omega) (by omega)) dX7_isNumber_28 rfl (by decide) (Nat.le_of_ble_eq_true rfl) [] [0, 1, 2] rfl rfl rfl rfl (by decide) rfl (fun rv wv hp => ?_)
    obtain ⟨rfl, rfl⟩ := hp
    show J 31 [(0, .ref ht), (1, .int (nI k)), (2, .int (nI lo)), (3, .int (nI hi))] [.int (bI (decide ((lo : Int) ≤ nz1.toInt ∧ nz1.toInt ≤ (hi : Int))))] [(ht, .inr (5, [.int (nI L), .ref bt, .int (nI (tkK By L (nx By L fi))), .int (nI (nx By L fi)), .int (nI ((nx By L fi) + tkL By L (nx By L fi))), .int nz1, .int (nI im), .ref tt])), (bt, ba Z 150 (ni By)), (tt, ia Z 3 (upd Td k nz1))] 0 0
    refine jp_if_eq hJ (q := 34) (tgt := 38) dX7_isNumber_31 (by decide) rfl (fun c4 => ?_) (fun c4 => ?_)
    · skip
      refine j_iconst hJ (q := 39) dX7_isNumber_38 rfl ki_0 ?_
      exact hE.1 _ _ _ _ _ _ _ rfl rfl dX7_isNumber_39 (Nat.le_refl _) (Nat.le_refl _) (⟨nz1, congrArg (fun z => some (Value.int z)) (bI_f (by rw [num_iff]; omega)), rfl, hnum⟩)
    · skip
      refine j_iconst hJ (q := 35) dX7_isNumber_34 rfl ki_1 ?_
      refine j_goto hJ (q := 39) dX7_isNumber_35 (by decide) ?_
      exact hE.1 _ _ _ _ _ _ _ rfl rfl dX7_isNumber_39 (Nat.le_refl _) (Nat.le_refl _) (⟨nz1, congrArg (fun z => some (Value.int z)) (bI_t (by rw [num_iff]; omega)), rfl, hnum⟩)

set_option maxHeartbeats 4000000 in
set_option maxRecDepth 100000 in
theorem c_X7_firstItem (Z : jZ) (ht : Nat) (bt : Nat) (tt : Nat) (L : Nat) (By : Nat → Nat) (fi : Nat) (nb : Int32) (im : Nat) (hL : L ≤ 150) (hby : ∀ j, By j < 128) (hf : fi ≤ L) : CR Z yX7_firstItem cX7_firstItem 1 ((some FieldType.int)) 6 [.ref ht] [(ht, .inr (5, [.int (nI L), .ref bt, .int (nI (tkK By L fi)), .int (nI fi), .int (nI (fi + tkL By L fi)), .int nb, .int (nI im), .ref tt])), (bt, ba Z 150 (ni By))] (fun rr => (isW By L fi 5 wRound = true ∧ rr = some (.int (nI 1))) ∨ (isW By L fi 5 wRound = false ∧ rr = some (.int (nI 0)))) := by
  refine CR.of RX7 rfl (by decide +kernel) (Nat.le_of_ble_eq_true rfl) ?_
  intro J hJ hE
  show J 0 [(0, .ref ht)] [] [(ht, .inr (5, [.int (nI L), .ref bt, .int (nI (tkK By L fi)), .int (nI fi), .int (nI (fi + tkL By L fi)), .int nb, .int (nI im), .ref tt])), (bt, ba Z 150 (ni By))] 0 0
  refine j_aload_n hJ (q := 1) dX7_firstItem_0 rfl 0 rfl rfl ?_
  refine j_ldcS hJ (q := 3) 0 (by decide) dX7_firstItem_1 rfl ?_
  refine j_vR hJ (q := 6) (rest := []) (As := [.ref (Z.2.2 0)]) jl_X7_55 (c_X7_isWord Z ht bt tt L By fi nb im 0 (by omega) hby (by omega) (by decide)) 0 rfl rfl dX7_firstItem_3 rfl (by decide) (Nat.le_of_ble_eq_true rfl) [0, 1] rfl rfl (fun rv hp => ?_)
  obtain rfl := hp
  show J 6 [(0, .ref ht)] [.int (bI (isW By L fi (jlen.getD 0 0) (chW 0)))] [(ht, .inr (5, [.int (nI L), .ref bt, .int (nI (tkK By L fi)), .int (nI fi), .int (nI (fi + tkL By L fi)), .int nb, .int (nI im), .ref tt])), (bt, ba Z 150 (ni By))] 0 0
  refine jb_if_eq hJ (q := 9) (tgt := 13) dX7_firstItem_6 (by decide) rfl (fun c1 => ?_) (fun c1 => ?_)
  · skip
    refine j_iconst hJ (q := 14) dX7_firstItem_13 rfl ki_0 ?_
    exact hE.1 _ _ _ _ _ _ _ rfl rfl dX7_firstItem_14 (Nat.le_refl _) (Nat.le_refl _) (Or.inr (⟨((isW_w w0_eq).trans (by assumption)), congrArg (fun z => some (Value.int (nI z))) (by rfl)⟩))
  · skip
    refine j_iconst hJ (q := 10) dX7_firstItem_9 rfl ki_1 ?_
    refine j_goto hJ (q := 14) dX7_firstItem_10 (by decide) ?_
    exact hE.1 _ _ _ _ _ _ _ rfl rfl dX7_firstItem_14 (Nat.le_refl _) (Nat.le_refl _) (Or.inl (⟨((isW_w w0_eq).trans (by assumption)), congrArg (fun z => some (Value.int (nI z))) (by rfl)⟩))

set_option maxHeartbeats 4000000 in
set_option maxRecDepth 100000 in
theorem c_X7_laterItem (Z : jZ) (ht : Nat) (bt : Nat) (tt : Nat) (L : Nat) (By : Nat → Nat) (fi : Nat) (nb : Int32) (im : Nat) (hL : L ≤ 150) (hby : ∀ j, By j < 128) (hf : fi ≤ L) : CR Z yX7_laterItem cX7_laterItem 1 ((some FieldType.int)) 6 [.ref ht] [(ht, .inr (5, [.int (nI L), .ref bt, .int (nI (tkK By L fi)), .int (nI fi), .int (nI (fi + tkL By L fi)), .int nb, .int (nI im), .ref tt])), (bt, ba Z 150 (ni By))] (fun rr => (isW By L fi 5 wHorse = true ∧ rr = some (.int (nI 2))) ∨ ((isW By L fi 5 wHorse = false ∧ isW By L fi 5 wRider = true) ∧ rr = some (.int (nI 3))) ∨ ((isW By L fi 5 wHorse = false ∧ isW By L fi 5 wRider = false ∧ isW By L fi 4 wRing = true) ∧ rr = some (.int (nI 4))) ∨ ((isW By L fi 5 wHorse = false ∧ isW By L fi 5 wRider = false ∧ isW By L fi 4 wRing = false ∧ isW By L fi 2 wGo = true) ∧ rr = some (.int (nI 5))) ∨ ((isW By L fi 5 wHorse = false ∧ isW By L fi 5 wRider = false ∧ isW By L fi 4 wRing = false ∧ isW By L fi 2 wGo = false) ∧ rr = some (.int (nI 0)))) := by
  refine CR.of RX7 rfl (by decide +kernel) (Nat.le_of_ble_eq_true rfl) ?_
  intro J hJ hE
  show J 0 [(0, .ref ht)] [] [(ht, .inr (5, [.int (nI L), .ref bt, .int (nI (tkK By L fi)), .int (nI fi), .int (nI (fi + tkL By L fi)), .int nb, .int (nI im), .ref tt])), (bt, ba Z 150 (ni By))] 0 0
  refine j_aload_n hJ (q := 1) dX7_laterItem_0 rfl 0 rfl rfl ?_
  refine j_ldcS hJ (q := 3) 1 (by decide) dX7_laterItem_1 rfl ?_
  refine j_vR hJ (q := 6) (rest := []) (As := [.ref (Z.2.2 1)]) jl_X7_55 (c_X7_isWord Z ht bt tt L By fi nb im 1 (by omega) hby (by omega) (by decide)) 0 rfl rfl dX7_laterItem_3 rfl (by decide) (Nat.le_of_ble_eq_true rfl) [0, 1] rfl rfl (fun rv hp => ?_)
  obtain rfl := hp
  show J 6 [(0, .ref ht)] [.int (bI (isW By L fi (jlen.getD 1 0) (chW 1)))] [(ht, .inr (5, [.int (nI L), .ref bt, .int (nI (tkK By L fi)), .int (nI fi), .int (nI (fi + tkL By L fi)), .int nb, .int (nI im), .ref tt])), (bt, ba Z 150 (ni By))] 0 0
  refine jb_if_eq hJ (q := 9) (tgt := 11) dX7_laterItem_6 (by decide) rfl (fun c1 => ?_) (fun c1 => ?_)
  · skip
    refine j_aload_n hJ (q := 12) dX7_laterItem_11 rfl 0 rfl rfl ?_
    refine j_ldcS hJ (q := 14) 2 (by decide) dX7_laterItem_12 rfl ?_
    refine j_vR hJ (q := 17) (rest := []) (As := [.ref (Z.2.2 2)]) jl_X7_55 (c_X7_isWord Z ht bt tt L By fi nb im 2 (by omega) hby (by omega) (by decide)) 0 rfl rfl dX7_laterItem_14 rfl (by decide) (Nat.le_of_ble_eq_true rfl) [0, 1] rfl rfl (fun rv hp => ?_)
    obtain rfl := hp
    show J 17 [(0, .ref ht)] [.int (bI (isW By L fi (jlen.getD 2 0) (chW 2)))] [(ht, .inr (5, [.int (nI L), .ref bt, .int (nI (tkK By L fi)), .int (nI fi), .int (nI (fi + tkL By L fi)), .int nb, .int (nI im), .ref tt])), (bt, ba Z 150 (ni By))] 0 0
    refine jb_if_eq hJ (q := 20) (tgt := 22) dX7_laterItem_17 (by decide) rfl (fun c2 => ?_) (fun c2 => ?_)
    · skip
      refine j_aload_n hJ (q := 23) dX7_laterItem_22 rfl 0 rfl rfl ?_
      refine j_ldcS hJ (q := 25) 3 (by decide) dX7_laterItem_23 rfl ?_
      refine j_vR hJ (q := 28) (rest := []) (As := [.ref (Z.2.2 3)]) jl_X7_55 (c_X7_isWord Z ht bt tt L By fi nb im 3 (by omega) hby (by omega) (by decide)) 0 rfl rfl dX7_laterItem_25 rfl (by decide) (Nat.le_of_ble_eq_true rfl) [0, 1] rfl rfl (fun rv hp => ?_)
      obtain rfl := hp
      show J 28 [(0, .ref ht)] [.int (bI (isW By L fi (jlen.getD 3 0) (chW 3)))] [(ht, .inr (5, [.int (nI L), .ref bt, .int (nI (tkK By L fi)), .int (nI fi), .int (nI (fi + tkL By L fi)), .int nb, .int (nI im), .ref tt])), (bt, ba Z 150 (ni By))] 0 0
      refine jb_if_eq hJ (q := 31) (tgt := 33) dX7_laterItem_28 (by decide) rfl (fun c3 => ?_) (fun c3 => ?_)
      · skip
        refine j_aload_n hJ (q := 34) dX7_laterItem_33 rfl 0 rfl rfl ?_
        refine j_ldcS hJ (q := 36) 4 (by decide) dX7_laterItem_34 rfl ?_
        refine j_vR hJ (q := 39) (rest := []) (As := [.ref (Z.2.2 4)]) jl_X7_55 (c_X7_isWord Z ht bt tt L By fi nb im 4 (by omega) hby (by omega) (by decide)) 0 rfl rfl dX7_laterItem_36 rfl (by decide) (Nat.le_of_ble_eq_true rfl) [0, 1] rfl rfl (fun rv hp => ?_)
        obtain rfl := hp
        show J 39 [(0, .ref ht)] [.int (bI (isW By L fi (jlen.getD 4 0) (chW 4)))] [(ht, .inr (5, [.int (nI L), .ref bt, .int (nI (tkK By L fi)), .int (nI fi), .int (nI (fi + tkL By L fi)), .int nb, .int (nI im), .ref tt])), (bt, ba Z 150 (ni By))] 0 0
        refine jb_if_eq hJ (q := 42) (tgt := 46) dX7_laterItem_39 (by decide) rfl (fun c4 => ?_) (fun c4 => ?_)
        · skip
          refine j_iconst hJ (q := 47) dX7_laterItem_46 rfl ki_0 ?_
          exact hE.1 _ _ _ _ _ _ _ rfl rfl dX7_laterItem_47 (Nat.le_refl _) (Nat.le_refl _) (Or.inr (Or.inr (Or.inr (Or.inr (⟨(⟨(isW_w w1_eq).trans (by assumption), (isW_w w2_eq).trans (by assumption), (isW_w w3_eq).trans (by assumption), (isW_w w4_eq).trans (by assumption)⟩), congrArg (fun z => some (Value.int (nI z))) (by rfl)⟩)))))
        · skip
          refine j_iconst hJ (q := 43) dX7_laterItem_42 rfl ki_5 ?_
          refine j_goto hJ (q := 47) dX7_laterItem_43 (by decide) ?_
          exact hE.1 _ _ _ _ _ _ _ rfl rfl dX7_laterItem_47 (Nat.le_refl _) (Nat.le_refl _) (Or.inr (Or.inr (Or.inr (Or.inl (⟨(⟨(isW_w w1_eq).trans (by assumption), (isW_w w2_eq).trans (by assumption), (isW_w w3_eq).trans (by assumption), (isW_w w4_eq).trans (by assumption)⟩), congrArg (fun z => some (Value.int (nI z))) (by rfl)⟩)))))
      · skip
        refine j_iconst hJ (q := 32) dX7_laterItem_31 rfl ki_4 ?_
        exact hE.1 _ _ _ _ _ _ _ rfl rfl dX7_laterItem_32 (Nat.le_refl _) (Nat.le_refl _) (Or.inr (Or.inr (Or.inl (⟨(⟨(isW_w w1_eq).trans (by assumption), (isW_w w2_eq).trans (by assumption), (isW_w w3_eq).trans (by assumption)⟩), congrArg (fun z => some (Value.int (nI z))) (by rfl)⟩))))
    · skip
      refine j_iconst hJ (q := 21) dX7_laterItem_20 rfl ki_3 ?_
      exact hE.1 _ _ _ _ _ _ _ rfl rfl dX7_laterItem_21 (Nat.le_refl _) (Nat.le_refl _) (Or.inr (Or.inl (⟨(⟨(isW_w w1_eq).trans (by assumption), (isW_w w2_eq).trans (by assumption)⟩), congrArg (fun z => some (Value.int (nI z))) (by rfl)⟩)))
  · skip
    refine j_iconst hJ (q := 10) dX7_laterItem_9 rfl ki_2 ?_
    exact hE.1 _ _ _ _ _ _ _ rfl rfl dX7_laterItem_10 (Nat.le_refl _) (Nat.le_refl _) (Or.inl (⟨((isW_w w1_eq).trans (by assumption)), congrArg (fun z => some (Value.int (nI z))) (by rfl)⟩))

set_option maxHeartbeats 4000000 in
set_option maxRecDepth 100000 in
theorem c_X7_isItem2 (Z : jZ) (ht : Nat) (bt : Nat) (tt : Nat) (L : Nat) (By : Nat → Nat) (fi : Nat) (nb : Int32) (Td : Nat → Int32) (h : Nat) (q : Nat → Nat) (A : Nat → Nat) (K : Nat → Nat) (P : Nat → Nat) (kd : Nat → Nat) (am : Nat → Nat) (st : Nat → Nat) (rg : Nat → Nat) (hL : L ≤ 150) (hby : ∀ j, By j < 128) (hf : fi ≤ L) (hw : wf A) (hR : rR A K P kd am st rg) : CT Z yX7_isItem cX7_isItem 3 ((some FieldType.boolean)) 4 0 0 [.ref ht, .ref h] [(ht, .inr (5, [.int (nI L), .ref bt, .int (nI (tkK By L fi)), .int (nI fi), .int (nI (fi + tkL By L fi)), .int nb, .int (nI 2), .ref tt])), (bt, ba Z 150 (ni By)), (tt, ia Z 3 Td), cO h q (A 21) (A 5) (A 6) (A 7) (A 8) (A 0), (q 0, ia Z 12 (ni K)), (q 1, ia Z 12 (ni P)), (q 2, ia Z 6 (ni kd)), (q 3, ia Z 6 (ni am)), (q 4, ia Z 6 (ni st)), (q 5, ia Z 6 (ni rg))] (fun rr ww => (∃ Tz : Nat → Int32, ∃ nz : Int32, ((thF By L fi A).1 = true ∧ tkK By L (thF By L fi A).2.1 = 3) ∧ rr = some (.int (nI 1)) ∧ ww = [(ht, .inr (5, [.int (nI L), .ref bt, .int (nI (tkK By L ((thF By L fi A).2.1))), .int (nI ((thF By L fi A).2.1)), .int (nI (((thF By L fi A).2.1) + tkL By L ((thF By L fi A).2.1))), .int nz, .int (nI 2), .ref tt])), (bt, ba Z 150 (ni By)), (tt, ia Z 3 Tz), cO h q (A 21) (A 5) (A 6) (A 7) (A 8) (A 0), (q 0, ia Z 12 (ni K)), (q 1, ia Z 12 (ni P)), (q 2, ia Z 6 (ni kd)), (q 3, ia Z 6 (ni am)), (q 4, ia Z 6 (ni st)), (q 5, ia Z 6 (ni rg))] ∧ Tz 0 = nI (tkV By L (nx By L fi)) ∧ Tz 1 = nI (tkV By L (nx By L (nx By L fi))) ∧ Tz 2 = nI (tkV By L (nx By L (nx By L (nx By L fi))))) ∨ (∃ Tz : Nat → Int32, ∃ nz : Int32, (¬ ((thF By L fi A).1 = true ∧ tkK By L (thF By L fi A).2.1 = 3)) ∧ rr = some (.int (nI 0)) ∧ ww = [(ht, .inr (5, [.int (nI L), .ref bt, .int (nI (tkK By L ((thF By L fi A).2.1))), .int (nI ((thF By L fi A).2.1)), .int (nI (((thF By L fi A).2.1) + tkL By L ((thF By L fi A).2.1))), .int nz, .int (nI 2), .ref tt])), (bt, ba Z 150 (ni By)), (tt, ia Z 3 Tz), cO h q (A 21) (A 5) (A 6) (A 7) (A 8) (A 0), (q 0, ia Z 12 (ni K)), (q 1, ia Z 12 (ni P)), (q 2, ia Z 6 (ni kd)), (q 3, ia Z 6 (ni am)), (q 4, ia Z 6 (ni st)), (q 5, ia Z 6 (ni rg))])) := by
  refine CT.of RX7 false rfl (fun h => by cases h) (by decide +kernel) (Nat.le_of_ble_eq_true rfl) ?_
  intro J hJ hE
  show J 0 [(0, .ref ht), (1, .ref h)] [] [(ht, .inr (5, [.int (nI L), .ref bt, .int (nI (tkK By L fi)), .int (nI fi), .int (nI (fi + tkL By L fi)), .int nb, .int (nI 2), .ref tt])), (bt, ba Z 150 (ni By)), (tt, ia Z 3 Td), cO h q (A 21) (A 5) (A 6) (A 7) (A 8) (A 0), (q 0, ia Z 12 (ni K)), (q 1, ia Z 12 (ni P)), (q 2, ia Z 6 (ni kd)), (q 3, ia Z 6 (ni am)), (q 4, ia Z 6 (ni st)), (q 5, ia Z 6 (ni rg))] 0 0
  obtain ⟨⟨w1, w2, w3, w4, w5, w6⟩, hb, wr, wh, wd⟩ := id hw
  have hn1 := nx_in (By := By) (L := L) (p := fi) hf
  have hn2 := nx_in (By := By) (L := L) (p := nx By L fi) hn1.2
  have hn3 := nx_in (By := By) (L := L) (p := nx By L (nx By L fi)) hn2.2
  have hn4 := nx_in (By := By) (L := L) (p := nx By L (nx By L (nx By L fi))) hn3.2
  refine j_aload_n hJ (q := 1) dX7_isItem_0 rfl 1 rfl rfl ?_
  refine j_get hJ (q := 4) jf_X7_67 dX7_isItem_1 3 rfl rfl rfl ?_
  refine j_iconst hJ (q := 5) dX7_isItem_4 rfl ki_1 ?_
  refine j_isub hJ (q := 6) dX7_isItem_5 rfl (pk_sub (by omega)) ?_
  refine j_istore_n hJ (q := 7) (lvs' := [(2, .int (nI (A 21 - 1))), (0, .ref ht), (1, .ref h)]) dX7_isItem_6 rfl (by decide) rfl rfl ?_
  refine j_aload_n hJ (q := 8) dX7_isItem_7 rfl 1 rfl rfl ?_
  refine j_get hJ (q := 11) jf_X7_39 dX7_isItem_8 0 rfl rfl rfl ?_
  have c1 : 2 = 2 := by omega
  rcases c1 with c1
  · skip
    refine jn_tableIn hJ (q := 78) (off := 67) (k := 2) c1 dX7_isItem_11 (by decide) (by decide) (by decide) (by decide) ?_
    refine j_aload_n hJ (q := 79) dX7_isItem_78 rfl 1 rfl rfl ?_
    refine j_iconst hJ (q := 80) dX7_isItem_79 rfl ki_0 ?_
    refine j_iconst hJ (q := 81) dX7_isItem_80 rfl ki_0 ?_
    refine j_iload_n hJ (q := 82) dX7_isItem_81 rfl 0 rfl rfl ?_
    refine j_vW hJ (q := 85) (rest := []) (As := [.int (nI 0), .int (nI 0), .int (nI (A 21 - 1))]) (wr := [cO h q (A 21) (A 5) (A 6) (A 7) (A 8) (A 0), (q 0, ia Z 12 (ni K)), (q 1, ia Z 12 (ni P)), (q 2, ia Z 6 (ni kd)), (q 3, ia Z 6 (ni am)), (q 4, ia Z 6 (ni st)), (q 5, ia Z 6 (ni rg))]) jl_X7_72 (c_X7_isNumber Z ht bt tt L By fi nb 2 Td 0 0 (A 21 - 1) (by omega) hby (by omega) (by decide) (by omega) (by omega)) 0 rfl rfl dX7_isItem_82 rfl (by decide) (Nat.le_of_ble_eq_true rfl) [0, 1, 2] [3, 4, 5, 6, 7, 8, 9] rfl rfl rfl rfl (by decide) rfl (fun rv wv hp => ?_)
    obtain ⟨nz2, rfl, rfl, f3⟩ := hp
    refine j_world hJ (ws' := [(ht, .inr (5, [.int (nI L), .ref bt, .int (nI (tkK By L (nx By L fi))), .int (nI (nx By L fi)), .int (nI ((nx By L fi) + tkL By L (nx By L fi))), .int nz2, .int (nI 2), .ref tt])), (bt, ba Z 150 (ni By)), (tt, ia Z 3 (upd Td 0 nz2)), cO h q (A 21) (A 5) (A 6) (A 7) (A 8) (A 0), (q 0, ia Z 12 (ni K)), (q 1, ia Z 12 (ni P)), (q 2, ia Z 6 (ni kd)), (q 3, ia Z 6 (ni am)), (q 4, ia Z 6 (ni st)), (q 5, ia Z 6 (ni rg))]) [7, 8, 9, 0, 1, 2, 3, 4, 5, 6] rfl rfl ?_
    show J 85 [(2, .int (nI (A 21 - 1))), (0, .ref ht), (1, .ref h)] [.int (bI (decide (num By L (nx By L fi) 0 (A 21 - 1))))] [(ht, .inr (5, [.int (nI L), .ref bt, .int (nI (tkK By L (nx By L fi))), .int (nI (nx By L fi)), .int (nI ((nx By L fi) + tkL By L (nx By L fi))), .int nz2, .int (nI 2), .ref tt])), (bt, ba Z 150 (ni By)), (tt, ia Z 3 (upd Td 0 nz2)), cO h q (A 21) (A 5) (A 6) (A 7) (A 8) (A 0), (q 0, ia Z 12 (ni K)), (q 1, ia Z 12 (ni P)), (q 2, ia Z 6 (ni kd)), (q 3, ia Z 6 (ni am)), (q 4, ia Z 6 (ni st)), (q 5, ia Z 6 (ni rg))] 0 0
    have hv1 := f3
    refine jp_if_eq hJ (q := 88) (tgt := 120) dX7_isItem_85 (by decide) rfl (fun c4 => ?_) (fun c4 => ?_)
    · skip
      refine j_iconst hJ (q := 121) dX7_isItem_120 rfl ki_0 ?_
      have hF : (thF By L fi A).1 = false ∧ (thF By L fi A).2.1 = nx By L fi := by simp only [thF]; rw [if_neg (by assumption)]; exact ⟨rfl, rfl⟩
      exact hE.1 _ _ _ _ _ _ _ rfl rfl dX7_isItem_121 (Nat.le_refl _) (Nat.le_refl _) (Or.inr (⟨(upd Td 0 nz2), nz2, (by rintro ⟨z1, z2⟩; rw [hF.2] at z2; rw [hF.1] at z1; first | exact absurd z2 (by assumption) | cases z1), congrArg (fun z => some (Value.int (nI z))) (by rfl), by rw [hF.2]⟩))
    · skip
      refine j_aload_n hJ (q := 89) dX7_isItem_88 rfl 1 rfl rfl ?_
      refine j_iconst hJ (q := 90) dX7_isItem_89 rfl ki_1 ?_
      refine j_iconst hJ (q := 91) dX7_isItem_90 rfl ki_0 ?_
      refine j_iconst hJ (q := 92) dX7_isItem_91 rfl ki_5 ?_
      refine j_vW hJ (q := 95) (rest := []) (As := [.int (nI 1), .int (nI 0), .int (nI 5)]) (wr := [cO h q (A 21) (A 5) (A 6) (A 7) (A 8) (A 0), (q 0, ia Z 12 (ni K)), (q 1, ia Z 12 (ni P)), (q 2, ia Z 6 (ni kd)), (q 3, ia Z 6 (ni am)), (q 4, ia Z 6 (ni st)), (q 5, ia Z 6 (ni rg))]) jl_X7_72 (c_X7_isNumber Z ht bt tt L By (nx By L fi) nz2 2 (upd Td 0 nz2) 1 0 5 (by omega) hby (by omega) (by decide) (by omega) (by omega)) 0 rfl rfl dX7_isItem_92 rfl (by decide) (Nat.le_of_ble_eq_true rfl) [0, 1, 2] [3, 4, 5, 6, 7, 8, 9] rfl rfl rfl rfl (by decide) rfl (fun rv wv hp => ?_)
      obtain ⟨nz5, rfl, rfl, f6⟩ := hp
      refine j_world hJ (ws' := [(ht, .inr (5, [.int (nI L), .ref bt, .int (nI (tkK By L (nx By L (nx By L fi)))), .int (nI (nx By L (nx By L fi))), .int (nI ((nx By L (nx By L fi)) + tkL By L (nx By L (nx By L fi)))), .int nz5, .int (nI 2), .ref tt])), (bt, ba Z 150 (ni By)), (tt, ia Z 3 (upd (upd Td 0 nz2) 1 nz5)), cO h q (A 21) (A 5) (A 6) (A 7) (A 8) (A 0), (q 0, ia Z 12 (ni K)), (q 1, ia Z 12 (ni P)), (q 2, ia Z 6 (ni kd)), (q 3, ia Z 6 (ni am)), (q 4, ia Z 6 (ni st)), (q 5, ia Z 6 (ni rg))]) [7, 8, 9, 0, 1, 2, 3, 4, 5, 6] rfl rfl ?_
      show J 95 [(2, .int (nI (A 21 - 1))), (0, .ref ht), (1, .ref h)] [.int (bI (decide (num By L (nx By L (nx By L fi)) 0 5)))] [(ht, .inr (5, [.int (nI L), .ref bt, .int (nI (tkK By L (nx By L (nx By L fi)))), .int (nI (nx By L (nx By L fi))), .int (nI ((nx By L (nx By L fi)) + tkL By L (nx By L (nx By L fi)))), .int nz5, .int (nI 2), .ref tt])), (bt, ba Z 150 (ni By)), (tt, ia Z 3 (upd (upd Td 0 nz2) 1 nz5)), cO h q (A 21) (A 5) (A 6) (A 7) (A 8) (A 0), (q 0, ia Z 12 (ni K)), (q 1, ia Z 12 (ni P)), (q 2, ia Z 6 (ni kd)), (q 3, ia Z 6 (ni am)), (q 4, ia Z 6 (ni st)), (q 5, ia Z 6 (ni rg))] 0 0
      have hv2 := f6
      refine jp_if_eq hJ (q := 98) (tgt := 120) dX7_isItem_95 (by decide) rfl (fun c7 => ?_) (fun c7 => ?_)
      · skip
        refine j_iconst hJ (q := 121) dX7_isItem_120 rfl ki_0 ?_
        have hF : (thF By L fi A).1 = false ∧ (thF By L fi A).2.1 = nx By L (nx By L fi) := by simp only [thF]; rw [if_pos (by assumption), if_neg (by assumption)]; exact ⟨rfl, rfl⟩
        exact hE.1 _ _ _ _ _ _ _ rfl rfl dX7_isItem_121 (Nat.le_refl _) (Nat.le_refl _) (Or.inr (⟨(upd (upd Td 0 nz2) 1 nz5), nz5, (by rintro ⟨z1, z2⟩; rw [hF.2] at z2; rw [hF.1] at z1; first | exact absurd z2 (by assumption) | cases z1), congrArg (fun z => some (Value.int (nI z))) (by rfl), by rw [hF.2]⟩))
      · skip
        refine j_aload_n hJ (q := 99) dX7_isItem_98 rfl 1 rfl rfl ?_
        refine j_iconst hJ (q := 100) dX7_isItem_99 rfl ki_2 ?_
        refine j_iconst hJ (q := 101) dX7_isItem_100 rfl ki_0 ?_
        refine j_bipush hJ (q := 103) dX7_isItem_101 rfl kb_7 ?_
        refine j_vW hJ (q := 106) (rest := []) (As := [.int (nI 2), .int (nI 0), .int (nI 7)]) (wr := [cO h q (A 21) (A 5) (A 6) (A 7) (A 8) (A 0), (q 0, ia Z 12 (ni K)), (q 1, ia Z 12 (ni P)), (q 2, ia Z 6 (ni kd)), (q 3, ia Z 6 (ni am)), (q 4, ia Z 6 (ni st)), (q 5, ia Z 6 (ni rg))]) jl_X7_72 (c_X7_isNumber Z ht bt tt L By (nx By L (nx By L fi)) nz5 2 (upd (upd Td 0 nz2) 1 nz5) 2 0 7 (by omega) hby (by omega) (by decide) (by omega) (by omega)) 0 rfl rfl dX7_isItem_103 rfl (by decide) (Nat.le_of_ble_eq_true rfl) [0, 1, 2] [3, 4, 5, 6, 7, 8, 9] rfl rfl rfl rfl (by decide) rfl (fun rv wv hp => ?_)
        obtain ⟨nz8, rfl, rfl, f9⟩ := hp
        refine j_world hJ (ws' := [(ht, .inr (5, [.int (nI L), .ref bt, .int (nI (tkK By L (nx By L (nx By L (nx By L fi))))), .int (nI (nx By L (nx By L (nx By L fi)))), .int (nI ((nx By L (nx By L (nx By L fi))) + tkL By L (nx By L (nx By L (nx By L fi))))), .int nz8, .int (nI 2), .ref tt])), (bt, ba Z 150 (ni By)), (tt, ia Z 3 (upd (upd (upd Td 0 nz2) 1 nz5) 2 nz8)), cO h q (A 21) (A 5) (A 6) (A 7) (A 8) (A 0), (q 0, ia Z 12 (ni K)), (q 1, ia Z 12 (ni P)), (q 2, ia Z 6 (ni kd)), (q 3, ia Z 6 (ni am)), (q 4, ia Z 6 (ni st)), (q 5, ia Z 6 (ni rg))]) [7, 8, 9, 0, 1, 2, 3, 4, 5, 6] rfl rfl ?_
        show J 106 [(2, .int (nI (A 21 - 1))), (0, .ref ht), (1, .ref h)] [.int (bI (decide (num By L (nx By L (nx By L (nx By L fi))) 0 7)))] [(ht, .inr (5, [.int (nI L), .ref bt, .int (nI (tkK By L (nx By L (nx By L (nx By L fi))))), .int (nI (nx By L (nx By L (nx By L fi)))), .int (nI ((nx By L (nx By L (nx By L fi))) + tkL By L (nx By L (nx By L (nx By L fi))))), .int nz8, .int (nI 2), .ref tt])), (bt, ba Z 150 (ni By)), (tt, ia Z 3 (upd (upd (upd Td 0 nz2) 1 nz5) 2 nz8)), cO h q (A 21) (A 5) (A 6) (A 7) (A 8) (A 0), (q 0, ia Z 12 (ni K)), (q 1, ia Z 12 (ni P)), (q 2, ia Z 6 (ni kd)), (q 3, ia Z 6 (ni am)), (q 4, ia Z 6 (ni st)), (q 5, ia Z 6 (ni rg))] 0 0
        have hv3 := f9
        refine jp_if_eq hJ (q := 109) (tgt := 120) dX7_isItem_106 (by decide) rfl (fun c10 => ?_) (fun c10 => ?_)
        · skip
          refine j_iconst hJ (q := 121) dX7_isItem_120 rfl ki_0 ?_
          have hF : (thF By L fi A).1 = false ∧ (thF By L fi A).2.1 = nx By L (nx By L (nx By L fi)) := by simp only [thF]; rw [if_pos (by assumption), if_pos (by assumption), if_neg (by assumption)]; exact ⟨rfl, rfl⟩
          exact hE.1 _ _ _ _ _ _ _ rfl rfl dX7_isItem_121 (Nat.le_refl _) (Nat.le_refl _) (Or.inr (⟨(upd (upd (upd Td 0 nz2) 1 nz5) 2 nz8), nz8, (by rintro ⟨z1, z2⟩; rw [hF.2] at z2; rw [hF.1] at z1; first | exact absurd z2 (by assumption) | cases z1), congrArg (fun z => some (Value.int (nI z))) (by rfl), by rw [hF.2]⟩))
        · skip
          refine j_aload_n hJ (q := 110) dX7_isItem_109 rfl 1 rfl rfl ?_
          refine j_vW hJ (q := 113) (rest := []) (As := []) (wr := [(tt, ia Z 3 (upd (upd (upd Td 0 nz2) 1 nz5) 2 nz8)), cO h q (A 21) (A 5) (A 6) (A 7) (A 8) (A 0), (q 0, ia Z 12 (ni K)), (q 1, ia Z 12 (ni P)), (q 2, ia Z 6 (ni kd)), (q 3, ia Z 6 (ni am)), (q 4, ia Z 6 (ni st)), (q 5, ia Z 6 (ni rg))]) jl_X7_76 (c_X7_isStop Z ht bt tt L By (nx By L (nx By L (nx By L fi))) nz8 2 (by omega) hby (by omega)) 0 rfl rfl dX7_isItem_110 rfl (by decide) (Nat.le_of_ble_eq_true rfl) [0, 1] [2, 3, 4, 5, 6, 7, 8, 9] rfl rfl rfl rfl (by decide) rfl (fun rv wv hp => ?_)
          obtain ⟨nz11, rfl, rfl⟩ := hp
          refine j_world hJ (ws' := [(ht, .inr (5, [.int (nI L), .ref bt, .int (nI (tkK By L (nx By L (nx By L (nx By L (nx By L fi)))))), .int (nI (nx By L (nx By L (nx By L (nx By L fi))))), .int (nI ((nx By L (nx By L (nx By L (nx By L fi)))) + tkL By L (nx By L (nx By L (nx By L (nx By L fi)))))), .int nz11, .int (nI 2), .ref tt])), (bt, ba Z 150 (ni By)), (tt, ia Z 3 (upd (upd (upd Td 0 nz2) 1 nz5) 2 nz8)), cO h q (A 21) (A 5) (A 6) (A 7) (A 8) (A 0), (q 0, ia Z 12 (ni K)), (q 1, ia Z 12 (ni P)), (q 2, ia Z 6 (ni kd)), (q 3, ia Z 6 (ni am)), (q 4, ia Z 6 (ni st)), (q 5, ia Z 6 (ni rg))]) [8, 9, 0, 1, 2, 3, 4, 5, 6, 7] rfl rfl ?_
          show J 113 [(2, .int (nI (A 21 - 1))), (0, .ref ht), (1, .ref h)] [.int (bI (decide (tkK By L (nx By L (nx By L (nx By L (nx By L fi)))) = 3)))] [(ht, .inr (5, [.int (nI L), .ref bt, .int (nI (tkK By L (nx By L (nx By L (nx By L (nx By L fi)))))), .int (nI (nx By L (nx By L (nx By L (nx By L fi))))), .int (nI ((nx By L (nx By L (nx By L (nx By L fi)))) + tkL By L (nx By L (nx By L (nx By L (nx By L fi)))))), .int nz11, .int (nI 2), .ref tt])), (bt, ba Z 150 (ni By)), (tt, ia Z 3 (upd (upd (upd Td 0 nz2) 1 nz5) 2 nz8)), cO h q (A 21) (A 5) (A 6) (A 7) (A 8) (A 0), (q 0, ia Z 12 (ni K)), (q 1, ia Z 12 (ni P)), (q 2, ia Z 6 (ni kd)), (q 3, ia Z 6 (ni am)), (q 4, ia Z 6 (ni st)), (q 5, ia Z 6 (ni rg))] 0 0
          refine jp_if_eq hJ (q := 116) (tgt := 120) dX7_isItem_113 (by decide) rfl (fun c12 => ?_) (fun c12 => ?_)
          · skip
            refine j_iconst hJ (q := 121) dX7_isItem_120 rfl ki_0 ?_
            have hF : (thF By L fi A).1 = true ∧ (thF By L fi A).2.1 = nx By L (nx By L (nx By L (nx By L fi))) := by simp only [thF]; rw [if_pos (by assumption), if_pos (by assumption), if_pos (by assumption)]; exact ⟨rfl, rfl⟩
            exact hE.1 _ _ _ _ _ _ _ rfl rfl dX7_isItem_121 (Nat.le_refl _) (Nat.le_refl _) (Or.inr (⟨(upd (upd (upd Td 0 nz2) 1 nz5) 2 nz8), nz11, (by rintro ⟨z1, z2⟩; rw [hF.2] at z2; rw [hF.1] at z1; first | exact absurd z2 (by assumption) | cases z1), congrArg (fun z => some (Value.int (nI z))) (by rfl), by rw [hF.2]⟩))
          · skip
            refine j_iconst hJ (q := 117) dX7_isItem_116 rfl ki_1 ?_
            refine j_goto hJ (q := 121) dX7_isItem_117 (by decide) ?_
            have hF : (thF By L fi A).1 = true ∧ (thF By L fi A).2.1 = nx By L (nx By L (nx By L (nx By L fi))) := by simp only [thF]; rw [if_pos (by assumption), if_pos (by assumption), if_pos (by assumption)]; exact ⟨rfl, rfl⟩
            exact hE.1 _ _ _ _ _ _ _ rfl rfl dX7_isItem_121 (Nat.le_refl _) (Nat.le_refl _) (Or.inl (⟨(upd (upd (upd Td 0 nz2) 1 nz5) 2 nz8), nz11, (⟨hF.1, by rw [hF.2]; assumption⟩), congrArg (fun z => some (Value.int (nI z))) (by rfl), by rw [hF.2], (show _ = _ from by rfl).trans (hv1 (by assumption : num By L (nx By L fi) _ _).1), (show _ = _ from by rfl).trans (hv2 (by assumption : num By L (nx By L (nx By L fi)) _ _).1), (show _ = _ from by rfl).trans (hv3 (by assumption : num By L (nx By L (nx By L (nx By L fi))) _ _).1)⟩))

set_option maxHeartbeats 4000000 in
set_option maxRecDepth 100000 in
theorem c_X7_isItem4 (Z : jZ) (ht : Nat) (bt : Nat) (tt : Nat) (L : Nat) (By : Nat → Nat) (fi : Nat) (nb : Int32) (Td : Nat → Int32) (h : Nat) (q : Nat → Nat) (A : Nat → Nat) (K : Nat → Nat) (P : Nat → Nat) (kd : Nat → Nat) (am : Nat → Nat) (st : Nat → Nat) (rg : Nat → Nat) (hL : L ≤ 150) (hby : ∀ j, By j < 128) (hf : fi ≤ L) (hw : wf A) (hR : rR A K P kd am st rg) : CT Z yX7_isItem cX7_isItem 3 ((some FieldType.boolean)) 4 0 0 [.ref ht, .ref h] [(ht, .inr (5, [.int (nI L), .ref bt, .int (nI (tkK By L fi)), .int (nI fi), .int (nI (fi + tkL By L fi)), .int nb, .int (nI 4), .ref tt])), (bt, ba Z 150 (ni By)), (tt, ia Z 3 Td), cO h q (A 21) (A 5) (A 6) (A 7) (A 8) (A 0), (q 0, ia Z 12 (ni K)), (q 1, ia Z 12 (ni P)), (q 2, ia Z 6 (ni kd)), (q 3, ia Z 6 (ni am)), (q 4, ia Z 6 (ni st)), (q 5, ia Z 6 (ni rg))] (fun rr ww => (∃ Tz : Nat → Int32, ∃ nz : Int32, ((tgF By L fi A).1 = true ∧ tkK By L (tgF By L fi A).2.1 = 3) ∧ rr = some (.int (nI 1)) ∧ ww = [(ht, .inr (5, [.int (nI L), .ref bt, .int (nI (tkK By L ((tgF By L fi A).2.1))), .int (nI ((tgF By L fi A).2.1)), .int (nI (((tgF By L fi A).2.1) + tkL By L ((tgF By L fi A).2.1))), .int nz, .int (nI 4), .ref tt])), (bt, ba Z 150 (ni By)), (tt, ia Z 3 Tz), cO h q (A 21) (A 5) (A 6) (A 7) (A 8) (A 0), (q 0, ia Z 12 (ni K)), (q 1, ia Z 12 (ni P)), (q 2, ia Z 6 (ni kd)), (q 3, ia Z 6 (ni am)), (q 4, ia Z 6 (ni st)), (q 5, ia Z 6 (ni rg))] ∧ Tz 0 = nI (tkV By L (nx By L fi))) ∨ (∃ Tz : Nat → Int32, ∃ nz : Int32, (¬ ((tgF By L fi A).1 = true ∧ tkK By L (tgF By L fi A).2.1 = 3)) ∧ rr = some (.int (nI 0)) ∧ ww = [(ht, .inr (5, [.int (nI L), .ref bt, .int (nI (tkK By L ((tgF By L fi A).2.1))), .int (nI ((tgF By L fi A).2.1)), .int (nI (((tgF By L fi A).2.1) + tkL By L ((tgF By L fi A).2.1))), .int nz, .int (nI 4), .ref tt])), (bt, ba Z 150 (ni By)), (tt, ia Z 3 Tz), cO h q (A 21) (A 5) (A 6) (A 7) (A 8) (A 0), (q 0, ia Z 12 (ni K)), (q 1, ia Z 12 (ni P)), (q 2, ia Z 6 (ni kd)), (q 3, ia Z 6 (ni am)), (q 4, ia Z 6 (ni st)), (q 5, ia Z 6 (ni rg))])) := by
  refine CT.of RX7 false rfl (fun h => by cases h) (by decide +kernel) (Nat.le_of_ble_eq_true rfl) ?_
  intro J hJ hE
  show J 0 [(0, .ref ht), (1, .ref h)] [] [(ht, .inr (5, [.int (nI L), .ref bt, .int (nI (tkK By L fi)), .int (nI fi), .int (nI (fi + tkL By L fi)), .int nb, .int (nI 4), .ref tt])), (bt, ba Z 150 (ni By)), (tt, ia Z 3 Td), cO h q (A 21) (A 5) (A 6) (A 7) (A 8) (A 0), (q 0, ia Z 12 (ni K)), (q 1, ia Z 12 (ni P)), (q 2, ia Z 6 (ni kd)), (q 3, ia Z 6 (ni am)), (q 4, ia Z 6 (ni st)), (q 5, ia Z 6 (ni rg))] 0 0
  obtain ⟨⟨w1, w2, w3, w4, w5, w6⟩, hb, wr, wh, wd⟩ := id hw
  have hn1 := nx_in (By := By) (L := L) (p := fi) hf
  have hn2 := nx_in (By := By) (L := L) (p := nx By L fi) hn1.2
  have hn3 := nx_in (By := By) (L := L) (p := nx By L (nx By L fi)) hn2.2
  have hn4 := nx_in (By := By) (L := L) (p := nx By L (nx By L (nx By L fi))) hn3.2
  refine j_aload_n hJ (q := 1) dX7_isItem_0 rfl 1 rfl rfl ?_
  refine j_get hJ (q := 4) jf_X7_67 dX7_isItem_1 3 rfl rfl rfl ?_
  refine j_iconst hJ (q := 5) dX7_isItem_4 rfl ki_1 ?_
  refine j_isub hJ (q := 6) dX7_isItem_5 rfl (pk_sub (by omega)) ?_
  refine j_istore_n hJ (q := 7) (lvs' := [(2, .int (nI (A 21 - 1))), (0, .ref ht), (1, .ref h)]) dX7_isItem_6 rfl (by decide) rfl rfl ?_
  refine j_aload_n hJ (q := 8) dX7_isItem_7 rfl 1 rfl rfl ?_
  refine j_get hJ (q := 11) jf_X7_39 dX7_isItem_8 0 rfl rfl rfl ?_
  have c1 : 4 = 4 := by omega
  rcases c1 with c1
  · skip
    refine jn_tableIn hJ (q := 189) (off := 178) (k := 4) c1 dX7_isItem_11 (by decide) (by decide) (by decide) (by decide) ?_
    refine j_aload_n hJ (q := 190) dX7_isItem_189 rfl 1 rfl rfl ?_
    refine j_iconst hJ (q := 191) dX7_isItem_190 rfl ki_0 ?_
    refine j_iconst hJ (q := 192) dX7_isItem_191 rfl ki_0 ?_
    refine j_bipush hJ (q := 194) dX7_isItem_192 rfl kb_20 ?_
    refine j_vW hJ (q := 197) (rest := []) (As := [.int (nI 0), .int (nI 0), .int (nI 20)]) (wr := [cO h q (A 21) (A 5) (A 6) (A 7) (A 8) (A 0), (q 0, ia Z 12 (ni K)), (q 1, ia Z 12 (ni P)), (q 2, ia Z 6 (ni kd)), (q 3, ia Z 6 (ni am)), (q 4, ia Z 6 (ni st)), (q 5, ia Z 6 (ni rg))]) jl_X7_72 (c_X7_isNumber Z ht bt tt L By fi nb 4 Td 0 0 20 (by omega) hby (by omega) (by decide) (by omega) (by omega)) 0 rfl rfl dX7_isItem_194 rfl (by decide) (Nat.le_of_ble_eq_true rfl) [0, 1, 2] [3, 4, 5, 6, 7, 8, 9] rfl rfl rfl rfl (by decide) rfl (fun rv wv hp => ?_)
    obtain ⟨nz2, rfl, rfl, f3⟩ := hp
    refine j_world hJ (ws' := [(ht, .inr (5, [.int (nI L), .ref bt, .int (nI (tkK By L (nx By L fi))), .int (nI (nx By L fi)), .int (nI ((nx By L fi) + tkL By L (nx By L fi))), .int nz2, .int (nI 4), .ref tt])), (bt, ba Z 150 (ni By)), (tt, ia Z 3 (upd Td 0 nz2)), cO h q (A 21) (A 5) (A 6) (A 7) (A 8) (A 0), (q 0, ia Z 12 (ni K)), (q 1, ia Z 12 (ni P)), (q 2, ia Z 6 (ni kd)), (q 3, ia Z 6 (ni am)), (q 4, ia Z 6 (ni st)), (q 5, ia Z 6 (ni rg))]) [7, 8, 9, 0, 1, 2, 3, 4, 5, 6] rfl rfl ?_
    show J 197 [(2, .int (nI (A 21 - 1))), (0, .ref ht), (1, .ref h)] [.int (bI (decide (num By L (nx By L fi) 0 20)))] [(ht, .inr (5, [.int (nI L), .ref bt, .int (nI (tkK By L (nx By L fi))), .int (nI (nx By L fi)), .int (nI ((nx By L fi) + tkL By L (nx By L fi))), .int nz2, .int (nI 4), .ref tt])), (bt, ba Z 150 (ni By)), (tt, ia Z 3 (upd Td 0 nz2)), cO h q (A 21) (A 5) (A 6) (A 7) (A 8) (A 0), (q 0, ia Z 12 (ni K)), (q 1, ia Z 12 (ni P)), (q 2, ia Z 6 (ni kd)), (q 3, ia Z 6 (ni am)), (q 4, ia Z 6 (ni st)), (q 5, ia Z 6 (ni rg))] 0 0
    have hv1 := f3
    refine jp_if_eq hJ (q := 200) (tgt := 211) dX7_isItem_197 (by decide) rfl (fun c4 => ?_) (fun c4 => ?_)
    · skip
      refine j_iconst hJ (q := 212) dX7_isItem_211 rfl ki_0 ?_
      have hF : (tgF By L fi A).1 = false ∧ (tgF By L fi A).2.1 = nx By L fi := by simp only [tgF]; rw [if_neg (by assumption)]; exact ⟨rfl, rfl⟩
      exact hE.1 _ _ _ _ _ _ _ rfl rfl dX7_isItem_212 (Nat.le_refl _) (Nat.le_refl _) (Or.inr (⟨(upd Td 0 nz2), nz2, (by rintro ⟨z1, z2⟩; rw [hF.2] at z2; rw [hF.1] at z1; first | exact absurd z2 (by assumption) | cases z1), congrArg (fun z => some (Value.int (nI z))) (by rfl), by rw [hF.2]⟩))
    · skip
      refine j_aload_n hJ (q := 201) dX7_isItem_200 rfl 1 rfl rfl ?_
      refine j_vW hJ (q := 204) (rest := []) (As := []) (wr := [(tt, ia Z 3 (upd Td 0 nz2)), cO h q (A 21) (A 5) (A 6) (A 7) (A 8) (A 0), (q 0, ia Z 12 (ni K)), (q 1, ia Z 12 (ni P)), (q 2, ia Z 6 (ni kd)), (q 3, ia Z 6 (ni am)), (q 4, ia Z 6 (ni st)), (q 5, ia Z 6 (ni rg))]) jl_X7_76 (c_X7_isStop Z ht bt tt L By (nx By L fi) nz2 4 (by omega) hby (by omega)) 0 rfl rfl dX7_isItem_201 rfl (by decide) (Nat.le_of_ble_eq_true rfl) [0, 1] [2, 3, 4, 5, 6, 7, 8, 9] rfl rfl rfl rfl (by decide) rfl (fun rv wv hp => ?_)
      obtain ⟨nz5, rfl, rfl⟩ := hp
      refine j_world hJ (ws' := [(ht, .inr (5, [.int (nI L), .ref bt, .int (nI (tkK By L (nx By L (nx By L fi)))), .int (nI (nx By L (nx By L fi))), .int (nI ((nx By L (nx By L fi)) + tkL By L (nx By L (nx By L fi)))), .int nz5, .int (nI 4), .ref tt])), (bt, ba Z 150 (ni By)), (tt, ia Z 3 (upd Td 0 nz2)), cO h q (A 21) (A 5) (A 6) (A 7) (A 8) (A 0), (q 0, ia Z 12 (ni K)), (q 1, ia Z 12 (ni P)), (q 2, ia Z 6 (ni kd)), (q 3, ia Z 6 (ni am)), (q 4, ia Z 6 (ni st)), (q 5, ia Z 6 (ni rg))]) [8, 9, 0, 1, 2, 3, 4, 5, 6, 7] rfl rfl ?_
      show J 204 [(2, .int (nI (A 21 - 1))), (0, .ref ht), (1, .ref h)] [.int (bI (decide (tkK By L (nx By L (nx By L fi)) = 3)))] [(ht, .inr (5, [.int (nI L), .ref bt, .int (nI (tkK By L (nx By L (nx By L fi)))), .int (nI (nx By L (nx By L fi))), .int (nI ((nx By L (nx By L fi)) + tkL By L (nx By L (nx By L fi)))), .int nz5, .int (nI 4), .ref tt])), (bt, ba Z 150 (ni By)), (tt, ia Z 3 (upd Td 0 nz2)), cO h q (A 21) (A 5) (A 6) (A 7) (A 8) (A 0), (q 0, ia Z 12 (ni K)), (q 1, ia Z 12 (ni P)), (q 2, ia Z 6 (ni kd)), (q 3, ia Z 6 (ni am)), (q 4, ia Z 6 (ni st)), (q 5, ia Z 6 (ni rg))] 0 0
      refine jp_if_eq hJ (q := 207) (tgt := 211) dX7_isItem_204 (by decide) rfl (fun c6 => ?_) (fun c6 => ?_)
      · skip
        refine j_iconst hJ (q := 212) dX7_isItem_211 rfl ki_0 ?_
        have hF : (tgF By L fi A).1 = true ∧ (tgF By L fi A).2.1 = nx By L (nx By L fi) := by simp only [tgF]; rw [if_pos (by assumption)]; exact ⟨rfl, rfl⟩
        exact hE.1 _ _ _ _ _ _ _ rfl rfl dX7_isItem_212 (Nat.le_refl _) (Nat.le_refl _) (Or.inr (⟨(upd Td 0 nz2), nz5, (by rintro ⟨z1, z2⟩; rw [hF.2] at z2; rw [hF.1] at z1; first | exact absurd z2 (by assumption) | cases z1), congrArg (fun z => some (Value.int (nI z))) (by rfl), by rw [hF.2]⟩))
      · skip
        refine j_iconst hJ (q := 208) dX7_isItem_207 rfl ki_1 ?_
        refine j_goto hJ (q := 212) dX7_isItem_208 (by decide) ?_
        have hF : (tgF By L fi A).1 = true ∧ (tgF By L fi A).2.1 = nx By L (nx By L fi) := by simp only [tgF]; rw [if_pos (by assumption)]; exact ⟨rfl, rfl⟩
        exact hE.1 _ _ _ _ _ _ _ rfl rfl dX7_isItem_212 (Nat.le_refl _) (Nat.le_refl _) (Or.inl (⟨(upd Td 0 nz2), nz5, (⟨hF.1, by rw [hF.2]; assumption⟩), congrArg (fun z => some (Value.int (nI z))) (by rfl), by rw [hF.2], (show _ = _ from by rfl).trans (hv1 (by assumption : num By L (nx By L fi) _ _).1)⟩))

set_option maxHeartbeats 4000000 in
set_option maxRecDepth 100000 in
theorem c_X7_isItem5 (Z : jZ) (ht : Nat) (bt : Nat) (tt : Nat) (L : Nat) (By : Nat → Nat) (fi : Nat) (nb : Int32) (Td : Nat → Int32) (h : Nat) (q : Nat → Nat) (A : Nat → Nat) (K : Nat → Nat) (P : Nat → Nat) (kd : Nat → Nat) (am : Nat → Nat) (st : Nat → Nat) (rg : Nat → Nat) (hL : L ≤ 150) (hby : ∀ j, By j < 128) (hf : fi ≤ L) (hw : wf A) (hR : rR A K P kd am st rg) : CT Z yX7_isItem cX7_isItem 3 ((some FieldType.boolean)) 4 0 0 [.ref ht, .ref h] [(ht, .inr (5, [.int (nI L), .ref bt, .int (nI (tkK By L fi)), .int (nI fi), .int (nI (fi + tkL By L fi)), .int nb, .int (nI 5), .ref tt])), (bt, ba Z 150 (ni By)), (tt, ia Z 3 Td), cO h q (A 21) (A 5) (A 6) (A 7) (A 8) (A 0), (q 0, ia Z 12 (ni K)), (q 1, ia Z 12 (ni P)), (q 2, ia Z 6 (ni kd)), (q 3, ia Z 6 (ni am)), (q 4, ia Z 6 (ni st)), (q 5, ia Z 6 (ni rg))] (fun rr ww => (∃ Tz : Nat → Int32, ∃ nz : Int32, ((toF By L fi A).1 = true ∧ tkK By L (toF By L fi A).2.1 = 3) ∧ rr = some (.int (nI 1)) ∧ ww = [(ht, .inr (5, [.int (nI L), .ref bt, .int (nI (tkK By L ((toF By L fi A).2.1))), .int (nI ((toF By L fi A).2.1)), .int (nI (((toF By L fi A).2.1) + tkL By L ((toF By L fi A).2.1))), .int nz, .int (nI 5), .ref tt])), (bt, ba Z 150 (ni By)), (tt, ia Z 3 Tz), cO h q (A 21) (A 5) (A 6) (A 7) (A 8) (A 0), (q 0, ia Z 12 (ni K)), (q 1, ia Z 12 (ni P)), (q 2, ia Z 6 (ni kd)), (q 3, ia Z 6 (ni am)), (q 4, ia Z 6 (ni st)), (q 5, ia Z 6 (ni rg))] ∧ Tz 0 = nI (tkV By L (nx By L fi))) ∨ (∃ Tz : Nat → Int32, ∃ nz : Int32, (¬ ((toF By L fi A).1 = true ∧ tkK By L (toF By L fi A).2.1 = 3)) ∧ rr = some (.int (nI 0)) ∧ ww = [(ht, .inr (5, [.int (nI L), .ref bt, .int (nI (tkK By L ((toF By L fi A).2.1))), .int (nI ((toF By L fi A).2.1)), .int (nI (((toF By L fi A).2.1) + tkL By L ((toF By L fi A).2.1))), .int nz, .int (nI 5), .ref tt])), (bt, ba Z 150 (ni By)), (tt, ia Z 3 Tz), cO h q (A 21) (A 5) (A 6) (A 7) (A 8) (A 0), (q 0, ia Z 12 (ni K)), (q 1, ia Z 12 (ni P)), (q 2, ia Z 6 (ni kd)), (q 3, ia Z 6 (ni am)), (q 4, ia Z 6 (ni st)), (q 5, ia Z 6 (ni rg))])) := by
  refine CT.of RX7 false rfl (fun h => by cases h) (by decide +kernel) (Nat.le_of_ble_eq_true rfl) ?_
  intro J hJ hE
  show J 0 [(0, .ref ht), (1, .ref h)] [] [(ht, .inr (5, [.int (nI L), .ref bt, .int (nI (tkK By L fi)), .int (nI fi), .int (nI (fi + tkL By L fi)), .int nb, .int (nI 5), .ref tt])), (bt, ba Z 150 (ni By)), (tt, ia Z 3 Td), cO h q (A 21) (A 5) (A 6) (A 7) (A 8) (A 0), (q 0, ia Z 12 (ni K)), (q 1, ia Z 12 (ni P)), (q 2, ia Z 6 (ni kd)), (q 3, ia Z 6 (ni am)), (q 4, ia Z 6 (ni st)), (q 5, ia Z 6 (ni rg))] 0 0
  obtain ⟨⟨w1, w2, w3, w4, w5, w6⟩, hb, wr, wh, wd⟩ := id hw
  have hn1 := nx_in (By := By) (L := L) (p := fi) hf
  have hn2 := nx_in (By := By) (L := L) (p := nx By L fi) hn1.2
  have hn3 := nx_in (By := By) (L := L) (p := nx By L (nx By L fi)) hn2.2
  have hn4 := nx_in (By := By) (L := L) (p := nx By L (nx By L (nx By L fi))) hn3.2
  refine j_aload_n hJ (q := 1) dX7_isItem_0 rfl 1 rfl rfl ?_
  refine j_get hJ (q := 4) jf_X7_67 dX7_isItem_1 3 rfl rfl rfl ?_
  refine j_iconst hJ (q := 5) dX7_isItem_4 rfl ki_1 ?_
  refine j_isub hJ (q := 6) dX7_isItem_5 rfl (pk_sub (by omega)) ?_
  refine j_istore_n hJ (q := 7) (lvs' := [(2, .int (nI (A 21 - 1))), (0, .ref ht), (1, .ref h)]) dX7_isItem_6 rfl (by decide) rfl rfl ?_
  refine j_aload_n hJ (q := 8) dX7_isItem_7 rfl 1 rfl rfl ?_
  refine j_get hJ (q := 11) jf_X7_39 dX7_isItem_8 0 rfl rfl rfl ?_
  have c1 : 5 = 5 := by omega
  rcases c1 with c1
  · skip
    refine jn_tableIn hJ (q := 213) (off := 202) (k := 5) c1 dX7_isItem_11 (by decide) (by decide) (by decide) (by decide) ?_
    refine j_aload_n hJ (q := 214) dX7_isItem_213 rfl 1 rfl rfl ?_
    refine j_iconst hJ (q := 215) dX7_isItem_214 rfl ki_0 ?_
    refine j_iconst hJ (q := 216) dX7_isItem_215 rfl ki_1 ?_
    refine j_bipush hJ (q := 218) dX7_isItem_216 rfl kb_99 ?_
    refine j_vW hJ (q := 221) (rest := []) (As := [.int (nI 0), .int (nI 1), .int (nI 99)]) (wr := [cO h q (A 21) (A 5) (A 6) (A 7) (A 8) (A 0), (q 0, ia Z 12 (ni K)), (q 1, ia Z 12 (ni P)), (q 2, ia Z 6 (ni kd)), (q 3, ia Z 6 (ni am)), (q 4, ia Z 6 (ni st)), (q 5, ia Z 6 (ni rg))]) jl_X7_72 (c_X7_isNumber Z ht bt tt L By fi nb 5 Td 0 1 99 (by omega) hby (by omega) (by decide) (by omega) (by omega)) 0 rfl rfl dX7_isItem_218 rfl (by decide) (Nat.le_of_ble_eq_true rfl) [0, 1, 2] [3, 4, 5, 6, 7, 8, 9] rfl rfl rfl rfl (by decide) rfl (fun rv wv hp => ?_)
    obtain ⟨nz2, rfl, rfl, f3⟩ := hp
    refine j_world hJ (ws' := [(ht, .inr (5, [.int (nI L), .ref bt, .int (nI (tkK By L (nx By L fi))), .int (nI (nx By L fi)), .int (nI ((nx By L fi) + tkL By L (nx By L fi))), .int nz2, .int (nI 5), .ref tt])), (bt, ba Z 150 (ni By)), (tt, ia Z 3 (upd Td 0 nz2)), cO h q (A 21) (A 5) (A 6) (A 7) (A 8) (A 0), (q 0, ia Z 12 (ni K)), (q 1, ia Z 12 (ni P)), (q 2, ia Z 6 (ni kd)), (q 3, ia Z 6 (ni am)), (q 4, ia Z 6 (ni st)), (q 5, ia Z 6 (ni rg))]) [7, 8, 9, 0, 1, 2, 3, 4, 5, 6] rfl rfl ?_
    show J 221 [(2, .int (nI (A 21 - 1))), (0, .ref ht), (1, .ref h)] [.int (bI (decide (num By L (nx By L fi) 1 99)))] [(ht, .inr (5, [.int (nI L), .ref bt, .int (nI (tkK By L (nx By L fi))), .int (nI (nx By L fi)), .int (nI ((nx By L fi) + tkL By L (nx By L fi))), .int nz2, .int (nI 5), .ref tt])), (bt, ba Z 150 (ni By)), (tt, ia Z 3 (upd Td 0 nz2)), cO h q (A 21) (A 5) (A 6) (A 7) (A 8) (A 0), (q 0, ia Z 12 (ni K)), (q 1, ia Z 12 (ni P)), (q 2, ia Z 6 (ni kd)), (q 3, ia Z 6 (ni am)), (q 4, ia Z 6 (ni st)), (q 5, ia Z 6 (ni rg))] 0 0
    have hv1 := f3
    refine jp_if_eq hJ (q := 224) (tgt := 235) dX7_isItem_221 (by decide) rfl (fun c4 => ?_) (fun c4 => ?_)
    · skip
      refine j_iconst hJ (q := 236) dX7_isItem_235 rfl ki_0 ?_
      have hF : (toF By L fi A).1 = false ∧ (toF By L fi A).2.1 = nx By L fi := by simp only [toF]; rw [if_neg (by assumption)]; exact ⟨rfl, rfl⟩
      exact hE.1 _ _ _ _ _ _ _ rfl rfl dX7_isItem_236 (Nat.le_refl _) (Nat.le_refl _) (Or.inr (⟨(upd Td 0 nz2), nz2, (by rintro ⟨z1, z2⟩; rw [hF.2] at z2; rw [hF.1] at z1; first | exact absurd z2 (by assumption) | cases z1), congrArg (fun z => some (Value.int (nI z))) (by rfl), by rw [hF.2]⟩))
    · skip
      refine j_aload_n hJ (q := 225) dX7_isItem_224 rfl 1 rfl rfl ?_
      refine j_vW hJ (q := 228) (rest := []) (As := []) (wr := [(tt, ia Z 3 (upd Td 0 nz2)), cO h q (A 21) (A 5) (A 6) (A 7) (A 8) (A 0), (q 0, ia Z 12 (ni K)), (q 1, ia Z 12 (ni P)), (q 2, ia Z 6 (ni kd)), (q 3, ia Z 6 (ni am)), (q 4, ia Z 6 (ni st)), (q 5, ia Z 6 (ni rg))]) jl_X7_76 (c_X7_isStop Z ht bt tt L By (nx By L fi) nz2 5 (by omega) hby (by omega)) 0 rfl rfl dX7_isItem_225 rfl (by decide) (Nat.le_of_ble_eq_true rfl) [0, 1] [2, 3, 4, 5, 6, 7, 8, 9] rfl rfl rfl rfl (by decide) rfl (fun rv wv hp => ?_)
      obtain ⟨nz5, rfl, rfl⟩ := hp
      refine j_world hJ (ws' := [(ht, .inr (5, [.int (nI L), .ref bt, .int (nI (tkK By L (nx By L (nx By L fi)))), .int (nI (nx By L (nx By L fi))), .int (nI ((nx By L (nx By L fi)) + tkL By L (nx By L (nx By L fi)))), .int nz5, .int (nI 5), .ref tt])), (bt, ba Z 150 (ni By)), (tt, ia Z 3 (upd Td 0 nz2)), cO h q (A 21) (A 5) (A 6) (A 7) (A 8) (A 0), (q 0, ia Z 12 (ni K)), (q 1, ia Z 12 (ni P)), (q 2, ia Z 6 (ni kd)), (q 3, ia Z 6 (ni am)), (q 4, ia Z 6 (ni st)), (q 5, ia Z 6 (ni rg))]) [8, 9, 0, 1, 2, 3, 4, 5, 6, 7] rfl rfl ?_
      show J 228 [(2, .int (nI (A 21 - 1))), (0, .ref ht), (1, .ref h)] [.int (bI (decide (tkK By L (nx By L (nx By L fi)) = 3)))] [(ht, .inr (5, [.int (nI L), .ref bt, .int (nI (tkK By L (nx By L (nx By L fi)))), .int (nI (nx By L (nx By L fi))), .int (nI ((nx By L (nx By L fi)) + tkL By L (nx By L (nx By L fi)))), .int nz5, .int (nI 5), .ref tt])), (bt, ba Z 150 (ni By)), (tt, ia Z 3 (upd Td 0 nz2)), cO h q (A 21) (A 5) (A 6) (A 7) (A 8) (A 0), (q 0, ia Z 12 (ni K)), (q 1, ia Z 12 (ni P)), (q 2, ia Z 6 (ni kd)), (q 3, ia Z 6 (ni am)), (q 4, ia Z 6 (ni st)), (q 5, ia Z 6 (ni rg))] 0 0
      refine jp_if_eq hJ (q := 231) (tgt := 235) dX7_isItem_228 (by decide) rfl (fun c6 => ?_) (fun c6 => ?_)
      · skip
        refine j_iconst hJ (q := 236) dX7_isItem_235 rfl ki_0 ?_
        have hF : (toF By L fi A).1 = true ∧ (toF By L fi A).2.1 = nx By L (nx By L fi) := by simp only [toF]; rw [if_pos (by assumption)]; exact ⟨rfl, rfl⟩
        exact hE.1 _ _ _ _ _ _ _ rfl rfl dX7_isItem_236 (Nat.le_refl _) (Nat.le_refl _) (Or.inr (⟨(upd Td 0 nz2), nz5, (by rintro ⟨z1, z2⟩; rw [hF.2] at z2; rw [hF.1] at z1; first | exact absurd z2 (by assumption) | cases z1), congrArg (fun z => some (Value.int (nI z))) (by rfl), by rw [hF.2]⟩))
      · skip
        refine j_iconst hJ (q := 232) dX7_isItem_231 rfl ki_1 ?_
        refine j_goto hJ (q := 236) dX7_isItem_232 (by decide) ?_
        have hF : (toF By L fi A).1 = true ∧ (toF By L fi A).2.1 = nx By L (nx By L fi) := by simp only [toF]; rw [if_pos (by assumption)]; exact ⟨rfl, rfl⟩
        exact hE.1 _ _ _ _ _ _ _ rfl rfl dX7_isItem_236 (Nat.le_refl _) (Nat.le_refl _) (Or.inl (⟨(upd Td 0 nz2), nz5, (⟨hF.1, by rw [hF.2]; assumption⟩), congrArg (fun z => some (Value.int (nI z))) (by rfl), by rw [hF.2], (show _ = _ from by rfl).trans (hv1 (by assumption : num By L (nx By L fi) _ _).1)⟩))

set_option maxHeartbeats 4000000 in
set_option maxRecDepth 100000 in
theorem c_X7_isItem3 (Z : jZ) (ht : Nat) (bt : Nat) (tt : Nat) (L : Nat) (By : Nat → Nat) (fi : Nat) (nb : Int32) (Td : Nat → Int32) (h : Nat) (q : Nat → Nat) (A : Nat → Nat) (K : Nat → Nat) (P : Nat → Nat) (kd : Nat → Nat) (am : Nat → Nat) (st : Nat → Nat) (rg : Nat → Nat) (hL : L ≤ 150) (hby : ∀ j, By j < 128) (hf : fi ≤ L) (hw : wf A) (hR : rR A K P kd am st rg) : CT Z yX7_isItem cX7_isItem 3 ((some FieldType.boolean)) 4 0 0 [.ref ht, .ref h] [(ht, .inr (5, [.int (nI L), .ref bt, .int (nI (tkK By L fi)), .int (nI fi), .int (nI (fi + tkL By L fi)), .int nb, .int (nI 3), .ref tt])), (bt, ba Z 150 (ni By)), (tt, ia Z 3 Td), cO h q (A 21) (A 5) (A 6) (A 7) (A 8) (A 0), (q 0, ia Z 12 (ni K)), (q 1, ia Z 12 (ni P)), (q 2, ia Z 6 (ni kd)), (q 3, ia Z 6 (ni am)), (q 4, ia Z 6 (ni st)), (q 5, ia Z 6 (ni rg))] (fun rr ww => (∃ Tz : Nat → Int32, ∃ nz : Int32, ((trF By L fi A).1 = true ∧ tkK By L (trF By L fi A).2.1 = 3) ∧ rr = some (.int (nI 1)) ∧ ww = [(ht, .inr (5, [.int (nI L), .ref bt, .int (nI (tkK By L ((trF By L fi A).2.1))), .int (nI ((trF By L fi A).2.1)), .int (nI (((trF By L fi A).2.1) + tkL By L ((trF By L fi A).2.1))), .int nz, .int (nI 3), .ref tt])), (bt, ba Z 150 (ni By)), (tt, ia Z 3 Tz), cO h q (A 21) (A 5) (A 6) (A 7) (A 8) (A 0), (q 0, ia Z 12 (ni K)), (q 1, ia Z 12 (ni P)), (q 2, ia Z 6 (ni kd)), (q 3, ia Z 6 (ni am)), (q 4, ia Z 6 (ni st)), (q 5, ia Z 6 (ni rg))] ∧ Tz 0 = nI (tkV By L (nx By L fi)) ∧ Tz 1 = nI (tkV By L (nx By L (nx By L fi))) ∧ Tz 2 = nI (tkV By L (nx By L (nx By L (nx By L fi)))) ∧ (A 0 < 6 ∧ tkV By L (nx By L fi) ≤ 5 ∧ tkV By L (nx By L (nx By L fi)) ≤ 9 ∧ tkV By L (nx By L (nx By L (nx By L fi))) < A 21 ∧ who A (tkV By L (nx By L (nx By L (nx By L fi)))) = none)) ∨ (∃ Tz : Nat → Int32, ∃ nz : Int32, (¬ ((trF By L fi A).1 = true ∧ tkK By L (trF By L fi A).2.1 = 3)) ∧ rr = some (.int (nI 0)) ∧ ww = [(ht, .inr (5, [.int (nI L), .ref bt, .int (nI (tkK By L ((trF By L fi A).2.1))), .int (nI ((trF By L fi A).2.1)), .int (nI (((trF By L fi A).2.1) + tkL By L ((trF By L fi A).2.1))), .int nz, .int (nI 3), .ref tt])), (bt, ba Z 150 (ni By)), (tt, ia Z 3 Tz), cO h q (A 21) (A 5) (A 6) (A 7) (A 8) (A 0), (q 0, ia Z 12 (ni K)), (q 1, ia Z 12 (ni P)), (q 2, ia Z 6 (ni kd)), (q 3, ia Z 6 (ni am)), (q 4, ia Z 6 (ni st)), (q 5, ia Z 6 (ni rg))])) := by
  refine CT.of RX7 false rfl (fun h => by cases h) (by decide +kernel) (Nat.le_of_ble_eq_true rfl) ?_
  intro J hJ hE
  show J 0 [(0, .ref ht), (1, .ref h)] [] [(ht, .inr (5, [.int (nI L), .ref bt, .int (nI (tkK By L fi)), .int (nI fi), .int (nI (fi + tkL By L fi)), .int nb, .int (nI 3), .ref tt])), (bt, ba Z 150 (ni By)), (tt, ia Z 3 Td), cO h q (A 21) (A 5) (A 6) (A 7) (A 8) (A 0), (q 0, ia Z 12 (ni K)), (q 1, ia Z 12 (ni P)), (q 2, ia Z 6 (ni kd)), (q 3, ia Z 6 (ni am)), (q 4, ia Z 6 (ni st)), (q 5, ia Z 6 (ni rg))] 0 0
  obtain ⟨⟨w1, w2, w3, w4, w5, w6⟩, hb, wr, wh, wd⟩ := id hw
  have hn1 := nx_in (By := By) (L := L) (p := fi) hf
  have hn2 := nx_in (By := By) (L := L) (p := nx By L fi) hn1.2
  have hn3 := nx_in (By := By) (L := L) (p := nx By L (nx By L fi)) hn2.2
  have hn4 := nx_in (By := By) (L := L) (p := nx By L (nx By L (nx By L fi))) hn3.2
  refine j_aload_n hJ (q := 1) dX7_isItem_0 rfl 1 rfl rfl ?_
  refine j_get hJ (q := 4) jf_X7_67 dX7_isItem_1 3 rfl rfl rfl ?_
  refine j_iconst hJ (q := 5) dX7_isItem_4 rfl ki_1 ?_
  refine j_isub hJ (q := 6) dX7_isItem_5 rfl (pk_sub (by omega)) ?_
  refine j_istore_n hJ (q := 7) (lvs' := [(2, .int (nI (A 21 - 1))), (0, .ref ht), (1, .ref h)]) dX7_isItem_6 rfl (by decide) rfl rfl ?_
  refine j_aload_n hJ (q := 8) dX7_isItem_7 rfl 1 rfl rfl ?_
  refine j_get hJ (q := 11) jf_X7_39 dX7_isItem_8 0 rfl rfl rfl ?_
  have c1 : 3 = 3 := by omega
  rcases c1 with c1
  · skip
    refine jn_tableIn hJ (q := 122) (off := 111) (k := 3) c1 dX7_isItem_11 (by decide) (by decide) (by decide) (by decide) ?_
    refine j_aload_n hJ (q := 123) dX7_isItem_122 rfl 2 rfl rfl ?_
    refine j_get hJ (q := 126) jf_X7_80 dX7_isItem_123 3 rfl rfl rfl ?_
    refine j_bipush hJ (q := 128) dX7_isItem_126 rfl kb_6 ?_
    refine jn_icmp_ge hJ (q := 131) (tgt := 187) dX7_isItem_128 (by decide) rfl (by omega) (by omega) (fun c2 => ?_) (fun c2 => ?_)
    · skip
      refine j_iconst hJ (q := 188) dX7_isItem_187 rfl ki_0 ?_
      have hF : (trF By L fi A).1 = false ∧ (trF By L fi A).2.1 = fi := by simp only [trF]; rw [if_pos (by omega)]; exact ⟨rfl, rfl⟩
      exact hE.1 _ _ _ _ _ _ _ rfl rfl dX7_isItem_188 (Nat.le_refl _) (Nat.le_refl _) (Or.inr (⟨Td, nb, (by rintro ⟨z1, z2⟩; rw [hF.2] at z2; rw [hF.1] at z1; first | exact absurd z2 (by assumption) | cases z1), congrArg (fun z => some (Value.int (nI z))) (by rfl), by rw [hF.2]⟩))
    · skip
      refine j_aload_n hJ (q := 132) dX7_isItem_131 rfl 1 rfl rfl ?_
      refine j_iconst hJ (q := 133) dX7_isItem_132 rfl ki_0 ?_
      refine j_iconst hJ (q := 134) dX7_isItem_133 rfl ki_0 ?_
      refine j_iconst hJ (q := 135) dX7_isItem_134 rfl ki_5 ?_
      refine j_vW hJ (q := 138) (rest := []) (As := [.int (nI 0), .int (nI 0), .int (nI 5)]) (wr := [cO h q (A 21) (A 5) (A 6) (A 7) (A 8) (A 0), (q 0, ia Z 12 (ni K)), (q 1, ia Z 12 (ni P)), (q 2, ia Z 6 (ni kd)), (q 3, ia Z 6 (ni am)), (q 4, ia Z 6 (ni st)), (q 5, ia Z 6 (ni rg))]) jl_X7_72 (c_X7_isNumber Z ht bt tt L By fi nb 3 Td 0 0 5 (by omega) hby (by omega) (by decide) (by omega) (by omega)) 0 rfl rfl dX7_isItem_135 rfl (by decide) (Nat.le_of_ble_eq_true rfl) [0, 1, 2] [3, 4, 5, 6, 7, 8, 9] rfl rfl rfl rfl (by decide) rfl (fun rv wv hp => ?_)
      obtain ⟨nz3, rfl, rfl, f4⟩ := hp
      refine j_world hJ (ws' := [(ht, .inr (5, [.int (nI L), .ref bt, .int (nI (tkK By L (nx By L fi))), .int (nI (nx By L fi)), .int (nI ((nx By L fi) + tkL By L (nx By L fi))), .int nz3, .int (nI 3), .ref tt])), (bt, ba Z 150 (ni By)), (tt, ia Z 3 (upd Td 0 nz3)), cO h q (A 21) (A 5) (A 6) (A 7) (A 8) (A 0), (q 0, ia Z 12 (ni K)), (q 1, ia Z 12 (ni P)), (q 2, ia Z 6 (ni kd)), (q 3, ia Z 6 (ni am)), (q 4, ia Z 6 (ni st)), (q 5, ia Z 6 (ni rg))]) [7, 8, 9, 0, 1, 2, 3, 4, 5, 6] rfl rfl ?_
      show J 138 [(2, .int (nI (A 21 - 1))), (0, .ref ht), (1, .ref h)] [.int (bI (decide (num By L (nx By L fi) 0 5)))] [(ht, .inr (5, [.int (nI L), .ref bt, .int (nI (tkK By L (nx By L fi))), .int (nI (nx By L fi)), .int (nI ((nx By L fi) + tkL By L (nx By L fi))), .int nz3, .int (nI 3), .ref tt])), (bt, ba Z 150 (ni By)), (tt, ia Z 3 (upd Td 0 nz3)), cO h q (A 21) (A 5) (A 6) (A 7) (A 8) (A 0), (q 0, ia Z 12 (ni K)), (q 1, ia Z 12 (ni P)), (q 2, ia Z 6 (ni kd)), (q 3, ia Z 6 (ni am)), (q 4, ia Z 6 (ni st)), (q 5, ia Z 6 (ni rg))] 0 0
      have hv1 := f4
      refine jp_if_eq hJ (q := 141) (tgt := 187) dX7_isItem_138 (by decide) rfl (fun c5 => ?_) (fun c5 => ?_)
      · skip
        refine j_iconst hJ (q := 188) dX7_isItem_187 rfl ki_0 ?_
        have hF : (trF By L fi A).1 = false ∧ (trF By L fi A).2.1 = nx By L fi := by simp only [trF]; rw [if_neg (by omega), if_neg (by assumption)]; exact ⟨rfl, rfl⟩
        exact hE.1 _ _ _ _ _ _ _ rfl rfl dX7_isItem_188 (Nat.le_refl _) (Nat.le_refl _) (Or.inr (⟨(upd Td 0 nz3), nz3, (by rintro ⟨z1, z2⟩; rw [hF.2] at z2; rw [hF.1] at z1; first | exact absurd z2 (by assumption) | cases z1), congrArg (fun z => some (Value.int (nI z))) (by rfl), by rw [hF.2]⟩))
      · skip
        refine j_aload_n hJ (q := 142) dX7_isItem_141 rfl 1 rfl rfl ?_
        refine j_iconst hJ (q := 143) dX7_isItem_142 rfl ki_1 ?_
        refine j_iconst hJ (q := 144) dX7_isItem_143 rfl ki_1 ?_
        refine j_bipush hJ (q := 146) dX7_isItem_144 rfl kb_9 ?_
        refine j_vW hJ (q := 149) (rest := []) (As := [.int (nI 1), .int (nI 1), .int (nI 9)]) (wr := [cO h q (A 21) (A 5) (A 6) (A 7) (A 8) (A 0), (q 0, ia Z 12 (ni K)), (q 1, ia Z 12 (ni P)), (q 2, ia Z 6 (ni kd)), (q 3, ia Z 6 (ni am)), (q 4, ia Z 6 (ni st)), (q 5, ia Z 6 (ni rg))]) jl_X7_72 (c_X7_isNumber Z ht bt tt L By (nx By L fi) nz3 3 (upd Td 0 nz3) 1 1 9 (by omega) hby (by omega) (by decide) (by omega) (by omega)) 0 rfl rfl dX7_isItem_146 rfl (by decide) (Nat.le_of_ble_eq_true rfl) [0, 1, 2] [3, 4, 5, 6, 7, 8, 9] rfl rfl rfl rfl (by decide) rfl (fun rv wv hp => ?_)
        obtain ⟨nz6, rfl, rfl, f7⟩ := hp
        refine j_world hJ (ws' := [(ht, .inr (5, [.int (nI L), .ref bt, .int (nI (tkK By L (nx By L (nx By L fi)))), .int (nI (nx By L (nx By L fi))), .int (nI ((nx By L (nx By L fi)) + tkL By L (nx By L (nx By L fi)))), .int nz6, .int (nI 3), .ref tt])), (bt, ba Z 150 (ni By)), (tt, ia Z 3 (upd (upd Td 0 nz3) 1 nz6)), cO h q (A 21) (A 5) (A 6) (A 7) (A 8) (A 0), (q 0, ia Z 12 (ni K)), (q 1, ia Z 12 (ni P)), (q 2, ia Z 6 (ni kd)), (q 3, ia Z 6 (ni am)), (q 4, ia Z 6 (ni st)), (q 5, ia Z 6 (ni rg))]) [7, 8, 9, 0, 1, 2, 3, 4, 5, 6] rfl rfl ?_
        show J 149 [(2, .int (nI (A 21 - 1))), (0, .ref ht), (1, .ref h)] [.int (bI (decide (num By L (nx By L (nx By L fi)) 1 9)))] [(ht, .inr (5, [.int (nI L), .ref bt, .int (nI (tkK By L (nx By L (nx By L fi)))), .int (nI (nx By L (nx By L fi))), .int (nI ((nx By L (nx By L fi)) + tkL By L (nx By L (nx By L fi)))), .int nz6, .int (nI 3), .ref tt])), (bt, ba Z 150 (ni By)), (tt, ia Z 3 (upd (upd Td 0 nz3) 1 nz6)), cO h q (A 21) (A 5) (A 6) (A 7) (A 8) (A 0), (q 0, ia Z 12 (ni K)), (q 1, ia Z 12 (ni P)), (q 2, ia Z 6 (ni kd)), (q 3, ia Z 6 (ni am)), (q 4, ia Z 6 (ni st)), (q 5, ia Z 6 (ni rg))] 0 0
        have hv2 := f7
        refine jp_if_eq hJ (q := 152) (tgt := 187) dX7_isItem_149 (by decide) rfl (fun c8 => ?_) (fun c8 => ?_)
        · skip
          refine j_iconst hJ (q := 188) dX7_isItem_187 rfl ki_0 ?_
          have hF : (trF By L fi A).1 = false ∧ (trF By L fi A).2.1 = nx By L (nx By L fi) := by simp only [trF]; rw [if_neg (by omega), if_pos (by assumption), if_neg (by assumption)]; exact ⟨rfl, rfl⟩
          exact hE.1 _ _ _ _ _ _ _ rfl rfl dX7_isItem_188 (Nat.le_refl _) (Nat.le_refl _) (Or.inr (⟨(upd (upd Td 0 nz3) 1 nz6), nz6, (by rintro ⟨z1, z2⟩; rw [hF.2] at z2; rw [hF.1] at z1; first | exact absurd z2 (by assumption) | cases z1), congrArg (fun z => some (Value.int (nI z))) (by rfl), by rw [hF.2]⟩))
        · skip
          refine j_aload_n hJ (q := 153) dX7_isItem_152 rfl 1 rfl rfl ?_
          refine j_iconst hJ (q := 154) dX7_isItem_153 rfl ki_2 ?_
          refine j_iconst hJ (q := 155) dX7_isItem_154 rfl ki_0 ?_
          refine j_iload_n hJ (q := 156) dX7_isItem_155 rfl 0 rfl rfl ?_
          refine j_vW hJ (q := 159) (rest := []) (As := [.int (nI 2), .int (nI 0), .int (nI (A 21 - 1))]) (wr := [cO h q (A 21) (A 5) (A 6) (A 7) (A 8) (A 0), (q 0, ia Z 12 (ni K)), (q 1, ia Z 12 (ni P)), (q 2, ia Z 6 (ni kd)), (q 3, ia Z 6 (ni am)), (q 4, ia Z 6 (ni st)), (q 5, ia Z 6 (ni rg))]) jl_X7_72 (c_X7_isNumber Z ht bt tt L By (nx By L (nx By L fi)) nz6 3 (upd (upd Td 0 nz3) 1 nz6) 2 0 (A 21 - 1) (by omega) hby (by omega) (by decide) (by omega) (by omega)) 0 rfl rfl dX7_isItem_156 rfl (by decide) (Nat.le_of_ble_eq_true rfl) [0, 1, 2] [3, 4, 5, 6, 7, 8, 9] rfl rfl rfl rfl (by decide) rfl (fun rv wv hp => ?_)
          obtain ⟨nz9, rfl, rfl, f10⟩ := hp
          refine j_world hJ (ws' := [(ht, .inr (5, [.int (nI L), .ref bt, .int (nI (tkK By L (nx By L (nx By L (nx By L fi))))), .int (nI (nx By L (nx By L (nx By L fi)))), .int (nI ((nx By L (nx By L (nx By L fi))) + tkL By L (nx By L (nx By L (nx By L fi))))), .int nz9, .int (nI 3), .ref tt])), (bt, ba Z 150 (ni By)), (tt, ia Z 3 (upd (upd (upd Td 0 nz3) 1 nz6) 2 nz9)), cO h q (A 21) (A 5) (A 6) (A 7) (A 8) (A 0), (q 0, ia Z 12 (ni K)), (q 1, ia Z 12 (ni P)), (q 2, ia Z 6 (ni kd)), (q 3, ia Z 6 (ni am)), (q 4, ia Z 6 (ni st)), (q 5, ia Z 6 (ni rg))]) [7, 8, 9, 0, 1, 2, 3, 4, 5, 6] rfl rfl ?_
          show J 159 [(2, .int (nI (A 21 - 1))), (0, .ref ht), (1, .ref h)] [.int (bI (decide (num By L (nx By L (nx By L (nx By L fi))) 0 (A 21 - 1))))] [(ht, .inr (5, [.int (nI L), .ref bt, .int (nI (tkK By L (nx By L (nx By L (nx By L fi))))), .int (nI (nx By L (nx By L (nx By L fi)))), .int (nI ((nx By L (nx By L (nx By L fi))) + tkL By L (nx By L (nx By L (nx By L fi))))), .int nz9, .int (nI 3), .ref tt])), (bt, ba Z 150 (ni By)), (tt, ia Z 3 (upd (upd (upd Td 0 nz3) 1 nz6) 2 nz9)), cO h q (A 21) (A 5) (A 6) (A 7) (A 8) (A 0), (q 0, ia Z 12 (ni K)), (q 1, ia Z 12 (ni P)), (q 2, ia Z 6 (ni kd)), (q 3, ia Z 6 (ni am)), (q 4, ia Z 6 (ni st)), (q 5, ia Z 6 (ni rg))] 0 0
          have hv3 := f10
          refine jp_if_eq hJ (q := 162) (tgt := 187) dX7_isItem_159 (by decide) rfl (fun c11 => ?_) (fun c11 => ?_)
          · skip
            refine j_iconst hJ (q := 188) dX7_isItem_187 rfl ki_0 ?_
            have hF : (trF By L fi A).1 = false ∧ (trF By L fi A).2.1 = nx By L (nx By L (nx By L fi)) := by simp only [trF]; rw [if_neg (by omega), if_pos (by assumption), if_pos (by assumption), if_neg (fun z => absurd z.2 (by assumption))]; exact ⟨rfl, rfl⟩
            exact hE.1 _ _ _ _ _ _ _ rfl rfl dX7_isItem_188 (Nat.le_refl _) (Nat.le_refl _) (Or.inr (⟨(upd (upd (upd Td 0 nz3) 1 nz6) 2 nz9), nz9, (by rintro ⟨z1, z2⟩; rw [hF.2] at z2; rw [hF.1] at z1; first | exact absurd z2 (by assumption) | cases z1), congrArg (fun z => some (Value.int (nI z))) (by rfl), by rw [hF.2]⟩))
          · skip
            refine j_aload_n hJ (q := 163) dX7_isItem_162 rfl 2 rfl rfl ?_
            refine j_aload_n hJ (q := 164) dX7_isItem_163 rfl 1 rfl rfl ?_
            refine j_get hJ (q := 167) jf_X7_15 dX7_isItem_164 0 rfl rfl rfl ?_
            refine j_iconst hJ (q := 168) dX7_isItem_167 rfl ki_2 ?_
            refine j_ialdN hJ (q := 169) dX7_isItem_168 2 rfl (by decide) (by decide) rfl rfl ?_
            have hq3 := (by assumption : num By L (nx By L (nx By L (nx By L fi))) _ _)
            refine j_top (show (upd (upd (upd Td 0 nz3) 1 nz6) 2 nz9) 2 = nI (tkV By L (nx By L (nx By L (nx By L fi)))) from hv3 hq3.1) ?_
            refine j_vR hJ (q := 172) (rest := []) (As := [.int (nI (tkV By L (nx By L (nx By L (nx By L fi)))))]) jl_X7_83 (c_X4_whoIsOn Z h q A K P kd am st rg (tkV By L (nx By L (nx By L (nx By L fi)))) hw hR (by omega)) 3 rfl rfl dX7_isItem_169 rfl (by decide) (Nat.le_of_ble_eq_true rfl) [3, 4, 5, 6, 7, 8, 9] rfl rfl (fun rv hp => ?_)
            obtain rfl := hp
            show J 172 [(2, .int (nI (A 21 - 1))), (0, .ref ht), (1, .ref h)] [.int (oI (who A (tkV By L (nx By L (nx By L (nx By L fi))))))] [(ht, .inr (5, [.int (nI L), .ref bt, .int (nI (tkK By L (nx By L (nx By L (nx By L fi))))), .int (nI (nx By L (nx By L (nx By L fi)))), .int (nI ((nx By L (nx By L (nx By L fi))) + tkL By L (nx By L (nx By L (nx By L fi))))), .int nz9, .int (nI 3), .ref tt])), (bt, ba Z 150 (ni By)), (tt, ia Z 3 (upd (upd (upd Td 0 nz3) 1 nz6) 2 nz9)), cO h q (A 21) (A 5) (A 6) (A 7) (A 8) (A 0), (q 0, ia Z 12 (ni K)), (q 1, ia Z 12 (ni P)), (q 2, ia Z 6 (ni kd)), (q 3, ia Z 6 (ni am)), (q 4, ia Z 6 (ni st)), (q 5, ia Z 6 (ni rg))] 0 0
            refine j_caseo (fun o12 => ?_) (fun i13 o12 => ?_)
            · skip
              refine j_iconst hJ (q := 173) dX7_isItem_172 rfl ki_m1 ?_
              refine jz_icmp_ne hJ (q := 176) (tgt := 187) dX7_isItem_173 (by decide) rfl rfl rfl (by omega) (by omega) (fun c14 => ?_) (fun c14 => ?_)
              · skip
                exfalso; omega
              · skip
                refine j_aload_n hJ (q := 177) dX7_isItem_176 rfl 1 rfl rfl ?_
                refine j_vW hJ (q := 180) (rest := []) (As := []) (wr := [(tt, ia Z 3 (upd (upd (upd Td 0 nz3) 1 nz6) 2 nz9)), cO h q (A 21) (A 5) (A 6) (A 7) (A 8) (A 0), (q 0, ia Z 12 (ni K)), (q 1, ia Z 12 (ni P)), (q 2, ia Z 6 (ni kd)), (q 3, ia Z 6 (ni am)), (q 4, ia Z 6 (ni st)), (q 5, ia Z 6 (ni rg))]) jl_X7_76 (c_X7_isStop Z ht bt tt L By (nx By L (nx By L (nx By L fi))) nz9 3 (by omega) hby (by omega)) 0 rfl rfl dX7_isItem_177 rfl (by decide) (Nat.le_of_ble_eq_true rfl) [0, 1] [2, 3, 4, 5, 6, 7, 8, 9] rfl rfl rfl rfl (by decide) rfl (fun rv wv hp => ?_)
                obtain ⟨nz15, rfl, rfl⟩ := hp
                refine j_world hJ (ws' := [(ht, .inr (5, [.int (nI L), .ref bt, .int (nI (tkK By L (nx By L (nx By L (nx By L (nx By L fi)))))), .int (nI (nx By L (nx By L (nx By L (nx By L fi))))), .int (nI ((nx By L (nx By L (nx By L (nx By L fi)))) + tkL By L (nx By L (nx By L (nx By L (nx By L fi)))))), .int nz15, .int (nI 3), .ref tt])), (bt, ba Z 150 (ni By)), (tt, ia Z 3 (upd (upd (upd Td 0 nz3) 1 nz6) 2 nz9)), cO h q (A 21) (A 5) (A 6) (A 7) (A 8) (A 0), (q 0, ia Z 12 (ni K)), (q 1, ia Z 12 (ni P)), (q 2, ia Z 6 (ni kd)), (q 3, ia Z 6 (ni am)), (q 4, ia Z 6 (ni st)), (q 5, ia Z 6 (ni rg))]) [8, 9, 0, 1, 2, 3, 4, 5, 6, 7] rfl rfl ?_
                show J 180 [(2, .int (nI (A 21 - 1))), (0, .ref ht), (1, .ref h)] [.int (bI (decide (tkK By L (nx By L (nx By L (nx By L (nx By L fi)))) = 3)))] [(ht, .inr (5, [.int (nI L), .ref bt, .int (nI (tkK By L (nx By L (nx By L (nx By L (nx By L fi)))))), .int (nI (nx By L (nx By L (nx By L (nx By L fi))))), .int (nI ((nx By L (nx By L (nx By L (nx By L fi)))) + tkL By L (nx By L (nx By L (nx By L (nx By L fi)))))), .int nz15, .int (nI 3), .ref tt])), (bt, ba Z 150 (ni By)), (tt, ia Z 3 (upd (upd (upd Td 0 nz3) 1 nz6) 2 nz9)), cO h q (A 21) (A 5) (A 6) (A 7) (A 8) (A 0), (q 0, ia Z 12 (ni K)), (q 1, ia Z 12 (ni P)), (q 2, ia Z 6 (ni kd)), (q 3, ia Z 6 (ni am)), (q 4, ia Z 6 (ni st)), (q 5, ia Z 6 (ni rg))] 0 0
                refine jp_if_eq hJ (q := 183) (tgt := 187) dX7_isItem_180 (by decide) rfl (fun c16 => ?_) (fun c16 => ?_)
                · skip
                  refine j_iconst hJ (q := 188) dX7_isItem_187 rfl ki_0 ?_
                  have hF : (trF By L fi A).1 = true ∧ (trF By L fi A).2.1 = nx By L (nx By L (nx By L (nx By L fi))) := by simp only [trF]; rw [if_neg (by omega), if_pos (by assumption), if_pos (by assumption), if_pos ⟨o12, by assumption⟩]; exact ⟨rfl, rfl⟩
                  exact hE.1 _ _ _ _ _ _ _ rfl rfl dX7_isItem_188 (Nat.le_refl _) (Nat.le_refl _) (Or.inr (⟨(upd (upd (upd Td 0 nz3) 1 nz6) 2 nz9), nz15, (by rintro ⟨z1, z2⟩; rw [hF.2] at z2; rw [hF.1] at z1; first | exact absurd z2 (by assumption) | cases z1), congrArg (fun z => some (Value.int (nI z))) (by rfl), by rw [hF.2]⟩))
                · skip
                  refine j_iconst hJ (q := 184) dX7_isItem_183 rfl ki_1 ?_
                  refine j_goto hJ (q := 188) dX7_isItem_184 (by decide) ?_
                  have hF : (trF By L fi A).1 = true ∧ (trF By L fi A).2.1 = nx By L (nx By L (nx By L (nx By L fi))) := by simp only [trF]; rw [if_neg (by omega), if_pos (by assumption), if_pos (by assumption), if_pos ⟨o12, by assumption⟩]; exact ⟨rfl, rfl⟩
                  exact hE.1 _ _ _ _ _ _ _ rfl rfl dX7_isItem_188 (Nat.le_refl _) (Nat.le_refl _) (Or.inl (⟨(upd (upd (upd Td 0 nz3) 1 nz6) 2 nz9), nz15, (⟨hF.1, by rw [hF.2]; assumption⟩), congrArg (fun z => some (Value.int (nI z))) (by rfl), by rw [hF.2], (show _ = _ from by rfl).trans (hv1 (by assumption : num By L (nx By L fi) _ _).1), (show _ = _ from by rfl).trans (hv2 (by assumption : num By L (nx By L (nx By L fi)) _ _).1), (show _ = _ from by rfl).trans (hv3 (by assumption : num By L (nx By L (nx By L (nx By L fi))) _ _).1), ⟨by omega, (by assumption : num By L (nx By L fi) _ _).2.2, (by assumption : num By L (nx By L (nx By L fi)) _ _).2.2, by have := (by assumption : num By L (nx By L (nx By L (nx By L fi))) _ _).2.2; omega, o12⟩⟩))
            · skip
              have hi6 := (who_some o12).1
              refine j_iconst hJ (q := 173) dX7_isItem_172 rfl ki_m1 ?_
              refine jz_icmp_ne hJ (q := 176) (tgt := 187) dX7_isItem_173 (by decide) rfl (zI_nat i13).symm rfl (by omega) (by omega) (fun c17 => ?_) (fun c17 => ?_)
              · skip
                refine j_iconst hJ (q := 188) dX7_isItem_187 rfl ki_0 ?_
                have hF : (trF By L fi A).1 = false ∧ (trF By L fi A).2.1 = nx By L (nx By L (nx By L fi)) := by simp only [trF]; rw [if_neg (by omega), if_pos (by assumption), if_pos (by assumption), if_neg (fun z => by rw [o12] at z; cases z.1)]; exact ⟨rfl, rfl⟩
                exact hE.1 _ _ _ _ _ _ _ rfl rfl dX7_isItem_188 (Nat.le_refl _) (Nat.le_refl _) (Or.inr (⟨(upd (upd (upd Td 0 nz3) 1 nz6) 2 nz9), nz9, (by rintro ⟨z1, z2⟩; rw [hF.2] at z2; rw [hF.1] at z1; first | exact absurd z2 (by assumption) | cases z1), congrArg (fun z => some (Value.int (nI z))) (by rfl), by rw [hF.2]⟩))
              · skip
                exfalso; omega

set_option maxHeartbeats 4000000 in
set_option maxRecDepth 100000 in
theorem c_X7_isItem0 (Z : jZ) (ht : Nat) (bt : Nat) (tt : Nat) (L : Nat) (By : Nat → Nat) (fi : Nat) (nb : Int32) (Td : Nat → Int32) (h : Nat) (q : Nat → Nat) (n : Nat) (an : Nat) (sp : Nat) (ri : Nat) (ti : Nat) (rd : Nat) (K : Nat → Nat) (P : Nat → Nat) (kd : Nat → Nat) (am : Nat → Nat) (st : Nat → Nat) (rg : Nat → Nat) (hL : L ≤ 150) (hby : ∀ j, By j < 128) (hf : fi ≤ L) : CT Z yX7_isItem cX7_isItem 3 ((some FieldType.boolean)) 4 0 0 [.ref ht, .ref h] [(ht, .inr (5, [.int (nI L), .ref bt, .int (nI (tkK By L fi)), .int (nI fi), .int (nI (fi + tkL By L fi)), .int nb, .int (nI 0), .ref tt])), (bt, ba Z 150 (ni By)), (tt, ia Z 3 Td), cO h q n an sp ri ti rd, (q 0, ia Z 12 (ni K)), (q 1, ia Z 12 (ni P)), (q 2, ia Z 6 (ni kd)), (q 3, ia Z 6 (ni am)), (q 4, ia Z 6 (ni st)), (q 5, ia Z 6 (ni rg))] (fun rr ww => rr = some (.int (nI 0)) ∧ ww = [(ht, .inr (5, [.int (nI L), .ref bt, .int (nI (tkK By L fi)), .int (nI fi), .int (nI (fi + tkL By L fi)), .int nb, .int (nI 0), .ref tt])), (bt, ba Z 150 (ni By)), (tt, ia Z 3 Td), cO h q n an sp ri ti rd, (q 0, ia Z 12 (ni K)), (q 1, ia Z 12 (ni P)), (q 2, ia Z 6 (ni kd)), (q 3, ia Z 6 (ni am)), (q 4, ia Z 6 (ni st)), (q 5, ia Z 6 (ni rg))]) := by
  refine CT.of RX7 false rfl (fun h => by cases h) (by decide +kernel) (Nat.le_of_ble_eq_true rfl) ?_
  intro J hJ hE
  show J 0 [(0, .ref ht), (1, .ref h)] [] [(ht, .inr (5, [.int (nI L), .ref bt, .int (nI (tkK By L fi)), .int (nI fi), .int (nI (fi + tkL By L fi)), .int nb, .int (nI 0), .ref tt])), (bt, ba Z 150 (ni By)), (tt, ia Z 3 Td), cO h q n an sp ri ti rd, (q 0, ia Z 12 (ni K)), (q 1, ia Z 12 (ni P)), (q 2, ia Z 6 (ni kd)), (q 3, ia Z 6 (ni am)), (q 4, ia Z 6 (ni st)), (q 5, ia Z 6 (ni rg))] 0 0
  refine j_aload_n hJ (q := 1) dX7_isItem_0 rfl 1 rfl rfl ?_
  refine j_get hJ (q := 4) jf_X7_67 dX7_isItem_1 3 rfl rfl rfl ?_
  refine j_iconst hJ (q := 5) dX7_isItem_4 rfl ki_1 ?_
  refine j_isub hJ (q := 6) dX7_isItem_5 rfl (zI_sub (zI_nat n).symm (zI_nat 1).symm) ?_
  refine j_istore_n hJ (q := 7) (lvs' := [(2, .int (zI ((n : Int) - (1 : Int)))), (0, .ref ht), (1, .ref h)]) dX7_isItem_6 rfl (by decide) rfl rfl ?_
  refine j_aload_n hJ (q := 8) dX7_isItem_7 rfl 1 rfl rfl ?_
  refine j_get hJ (q := 11) jf_X7_39 dX7_isItem_8 0 rfl rfl rfl ?_
  have c1 : 0 = 0 := by omega
  rcases c1 with c1
  · skip
    refine jn_tableOut hJ (q := 237) (k := 0) c1 dX7_isItem_11 (by decide) (by decide) ?_
    refine j_iconst hJ (q := 238) dX7_isItem_237 rfl ki_0 ?_
    exact hE.1 _ _ _ _ _ _ _ rfl rfl dX7_isItem_238 (Nat.le_refl _) (Nat.le_refl _) (⟨congrArg (fun z => some (Value.int (nI z))) (by rfl), rfl⟩)

set_option maxHeartbeats 4000000 in
set_option maxRecDepth 100000 in
theorem c_X7_isItem1 (Z : jZ) (ht : Nat) (bt : Nat) (tt : Nat) (L : Nat) (By : Nat → Nat) (fi : Nat) (nb : Int32) (Td : Nat → Int32) (h : Nat) (q : Nat → Nat) (n : Nat) (an : Nat) (sp : Nat) (ri : Nat) (ti : Nat) (rd : Nat) (K : Nat → Nat) (P : Nat → Nat) (kd : Nat → Nat) (am : Nat → Nat) (st : Nat → Nat) (rg : Nat → Nat) (hL : L ≤ 150) (hby : ∀ j, By j < 128) (hf : fi ≤ L) : CT Z yX7_isItem cX7_isItem 3 ((some FieldType.boolean)) 4 0 0 [.ref ht, .ref h] [(ht, .inr (5, [.int (nI L), .ref bt, .int (nI (tkK By L fi)), .int (nI fi), .int (nI (fi + tkL By L fi)), .int nb, .int (nI 1), .ref tt])), (bt, ba Z 150 (ni By)), (tt, ia Z 3 Td), cO h q n an sp ri ti rd, (q 0, ia Z 12 (ni K)), (q 1, ia Z 12 (ni P)), (q 2, ia Z 6 (ni kd)), (q 3, ia Z 6 (ni am)), (q 4, ia Z 6 (ni st)), (q 5, ia Z 6 (ni rg))] (fun rr ww => (∃ Tz : Nat → Int32, ∃ nz : Int32, (num By L (nx By L fi) 4 12 ∧ num By L (nx By L (nx By L fi)) 0 3 ∧ tkK By L (nx By L (nx By L (nx By L fi))) = 3) ∧ rr = some (.int (nI 1)) ∧ ww = [(ht, .inr (5, [.int (nI L), .ref bt, .int (nI (tkK By L (nx By L (nx By L (nx By L fi))))), .int (nI (nx By L (nx By L (nx By L fi)))), .int (nI ((nx By L (nx By L (nx By L fi))) + tkL By L (nx By L (nx By L (nx By L fi))))), .int nz, .int (nI 1), .ref tt])), (bt, ba Z 150 (ni By)), (tt, ia Z 3 Tz), cO h q n an sp ri ti rd, (q 0, ia Z 12 (ni K)), (q 1, ia Z 12 (ni P)), (q 2, ia Z 6 (ni kd)), (q 3, ia Z 6 (ni am)), (q 4, ia Z 6 (ni st)), (q 5, ia Z 6 (ni rg))] ∧ Tz 0 = nI (tkV By L (nx By L fi)) ∧ Tz 1 = nI (tkV By L (nx By L (nx By L fi)))) ∨ (∃ Tz : Nat → Int32, ∃ nz : Int32, (¬ (num By L (nx By L fi) 4 12 ∧ num By L (nx By L (nx By L fi)) 0 3 ∧ tkK By L (nx By L (nx By L (nx By L fi))) = 3)) ∧ rr = some (.int (nI 0)) ∧ ww = [(ht, .inr (5, [.int (nI L), .ref bt, .int (nI (tkK By L (if num By L (nx By L fi) 4 12 then if num By L (nx By L (nx By L fi)) 0 3 then nx By L (nx By L (nx By L fi)) else nx By L (nx By L fi) else nx By L fi))), .int (nI (if num By L (nx By L fi) 4 12 then if num By L (nx By L (nx By L fi)) 0 3 then nx By L (nx By L (nx By L fi)) else nx By L (nx By L fi) else nx By L fi)), .int (nI ((if num By L (nx By L fi) 4 12 then if num By L (nx By L (nx By L fi)) 0 3 then nx By L (nx By L (nx By L fi)) else nx By L (nx By L fi) else nx By L fi) + tkL By L (if num By L (nx By L fi) 4 12 then if num By L (nx By L (nx By L fi)) 0 3 then nx By L (nx By L (nx By L fi)) else nx By L (nx By L fi) else nx By L fi))), .int nz, .int (nI 1), .ref tt])), (bt, ba Z 150 (ni By)), (tt, ia Z 3 Tz), cO h q n an sp ri ti rd, (q 0, ia Z 12 (ni K)), (q 1, ia Z 12 (ni P)), (q 2, ia Z 6 (ni kd)), (q 3, ia Z 6 (ni am)), (q 4, ia Z 6 (ni st)), (q 5, ia Z 6 (ni rg))])) := by
  refine CT.of RX7 false rfl (fun h => by cases h) (by decide +kernel) (Nat.le_of_ble_eq_true rfl) ?_
  intro J hJ hE
  show J 0 [(0, .ref ht), (1, .ref h)] [] [(ht, .inr (5, [.int (nI L), .ref bt, .int (nI (tkK By L fi)), .int (nI fi), .int (nI (fi + tkL By L fi)), .int nb, .int (nI 1), .ref tt])), (bt, ba Z 150 (ni By)), (tt, ia Z 3 Td), cO h q n an sp ri ti rd, (q 0, ia Z 12 (ni K)), (q 1, ia Z 12 (ni P)), (q 2, ia Z 6 (ni kd)), (q 3, ia Z 6 (ni am)), (q 4, ia Z 6 (ni st)), (q 5, ia Z 6 (ni rg))] 0 0
  have hn1 := nx_in (By := By) (L := L) (p := fi) hf
  have hn2 := nx_in (By := By) (L := L) (p := nx By L fi) hn1.2
  have hn3 := nx_in (By := By) (L := L) (p := nx By L (nx By L fi)) hn2.2
  have hn4 := nx_in (By := By) (L := L) (p := nx By L (nx By L (nx By L fi))) hn3.2
  refine j_aload_n hJ (q := 1) dX7_isItem_0 rfl 1 rfl rfl ?_
  refine j_get hJ (q := 4) jf_X7_67 dX7_isItem_1 3 rfl rfl rfl ?_
  refine j_iconst hJ (q := 5) dX7_isItem_4 rfl ki_1 ?_
  refine j_isub hJ (q := 6) dX7_isItem_5 rfl (zI_sub (zI_nat n).symm (zI_nat 1).symm) ?_
  refine j_istore_n hJ (q := 7) (lvs' := [(2, .int (zI ((n : Int) - (1 : Int)))), (0, .ref ht), (1, .ref h)]) dX7_isItem_6 rfl (by decide) rfl rfl ?_
  refine j_aload_n hJ (q := 8) dX7_isItem_7 rfl 1 rfl rfl ?_
  refine j_get hJ (q := 11) jf_X7_39 dX7_isItem_8 0 rfl rfl rfl ?_
  have c1 : 1 = 1 := by omega
  rcases c1 with c1
  · skip
    refine jn_tableIn hJ (q := 44) (off := 33) (k := 1) c1 dX7_isItem_11 (by decide) (by decide) (by decide) (by decide) ?_
    refine j_aload_n hJ (q := 45) dX7_isItem_44 rfl 1 rfl rfl ?_
    refine j_iconst hJ (q := 46) dX7_isItem_45 rfl ki_0 ?_
    refine j_iconst hJ (q := 47) dX7_isItem_46 rfl ki_4 ?_
    refine j_bipush hJ (q := 49) dX7_isItem_47 rfl kb_12 ?_
    refine j_vW hJ (q := 52) (rest := []) (As := [.int (nI 0), .int (nI 4), .int (nI 12)]) (wr := [cO h q n an sp ri ti rd, (q 0, ia Z 12 (ni K)), (q 1, ia Z 12 (ni P)), (q 2, ia Z 6 (ni kd)), (q 3, ia Z 6 (ni am)), (q 4, ia Z 6 (ni st)), (q 5, ia Z 6 (ni rg))]) jl_X7_72 (c_X7_isNumber Z ht bt tt L By fi nb 1 Td 0 4 12 (by omega) hby (by omega) (by decide) (by omega) (by omega)) 0 rfl rfl dX7_isItem_49 rfl (by decide) (Nat.le_of_ble_eq_true rfl) [0, 1, 2] [3, 4, 5, 6, 7, 8, 9] rfl rfl rfl rfl (by decide) rfl (fun rv wv hp => ?_)
    obtain ⟨nz2, rfl, rfl, f3⟩ := hp
    refine j_world hJ (ws' := [(ht, .inr (5, [.int (nI L), .ref bt, .int (nI (tkK By L (nx By L fi))), .int (nI (nx By L fi)), .int (nI ((nx By L fi) + tkL By L (nx By L fi))), .int nz2, .int (nI 1), .ref tt])), (bt, ba Z 150 (ni By)), (tt, ia Z 3 (upd Td 0 nz2)), cO h q n an sp ri ti rd, (q 0, ia Z 12 (ni K)), (q 1, ia Z 12 (ni P)), (q 2, ia Z 6 (ni kd)), (q 3, ia Z 6 (ni am)), (q 4, ia Z 6 (ni st)), (q 5, ia Z 6 (ni rg))]) [7, 8, 9, 0, 1, 2, 3, 4, 5, 6] rfl rfl ?_
    show J 52 [(2, .int (zI ((n : Int) - (1 : Int)))), (0, .ref ht), (1, .ref h)] [.int (bI (decide (num By L (nx By L fi) 4 12)))] [(ht, .inr (5, [.int (nI L), .ref bt, .int (nI (tkK By L (nx By L fi))), .int (nI (nx By L fi)), .int (nI ((nx By L fi) + tkL By L (nx By L fi))), .int nz2, .int (nI 1), .ref tt])), (bt, ba Z 150 (ni By)), (tt, ia Z 3 (upd Td 0 nz2)), cO h q n an sp ri ti rd, (q 0, ia Z 12 (ni K)), (q 1, ia Z 12 (ni P)), (q 2, ia Z 6 (ni kd)), (q 3, ia Z 6 (ni am)), (q 4, ia Z 6 (ni st)), (q 5, ia Z 6 (ni rg))] 0 0
    have hv1 := f3
    refine jp_if_eq hJ (q := 55) (tgt := 76) dX7_isItem_52 (by decide) rfl (fun c4 => ?_) (fun c4 => ?_)
    · skip
      refine j_iconst hJ (q := 77) dX7_isItem_76 rfl ki_0 ?_
      exact hE.1 _ _ _ _ _ _ _ rfl rfl dX7_isItem_77 (Nat.le_refl _) (Nat.le_refl _) (Or.inr (⟨(upd Td 0 nz2), nz2, (by rintro ⟨z1, z2, z3⟩; first | exact absurd z1 (by assumption) | exact absurd z2 (by assumption) | exact absurd z3 (by assumption)), congrArg (fun z => some (Value.int (nI z))) (by rfl), by rw [if_neg (by assumption)]⟩))
    · skip
      refine j_aload_n hJ (q := 56) dX7_isItem_55 rfl 1 rfl rfl ?_
      refine j_iconst hJ (q := 57) dX7_isItem_56 rfl ki_1 ?_
      refine j_iconst hJ (q := 58) dX7_isItem_57 rfl ki_0 ?_
      refine j_iconst hJ (q := 59) dX7_isItem_58 rfl ki_3 ?_
      refine j_vW hJ (q := 62) (rest := []) (As := [.int (nI 1), .int (nI 0), .int (nI 3)]) (wr := [cO h q n an sp ri ti rd, (q 0, ia Z 12 (ni K)), (q 1, ia Z 12 (ni P)), (q 2, ia Z 6 (ni kd)), (q 3, ia Z 6 (ni am)), (q 4, ia Z 6 (ni st)), (q 5, ia Z 6 (ni rg))]) jl_X7_72 (c_X7_isNumber Z ht bt tt L By (nx By L fi) nz2 1 (upd Td 0 nz2) 1 0 3 (by omega) hby (by omega) (by decide) (by omega) (by omega)) 0 rfl rfl dX7_isItem_59 rfl (by decide) (Nat.le_of_ble_eq_true rfl) [0, 1, 2] [3, 4, 5, 6, 7, 8, 9] rfl rfl rfl rfl (by decide) rfl (fun rv wv hp => ?_)
      obtain ⟨nz5, rfl, rfl, f6⟩ := hp
      refine j_world hJ (ws' := [(ht, .inr (5, [.int (nI L), .ref bt, .int (nI (tkK By L (nx By L (nx By L fi)))), .int (nI (nx By L (nx By L fi))), .int (nI ((nx By L (nx By L fi)) + tkL By L (nx By L (nx By L fi)))), .int nz5, .int (nI 1), .ref tt])), (bt, ba Z 150 (ni By)), (tt, ia Z 3 (upd (upd Td 0 nz2) 1 nz5)), cO h q n an sp ri ti rd, (q 0, ia Z 12 (ni K)), (q 1, ia Z 12 (ni P)), (q 2, ia Z 6 (ni kd)), (q 3, ia Z 6 (ni am)), (q 4, ia Z 6 (ni st)), (q 5, ia Z 6 (ni rg))]) [7, 8, 9, 0, 1, 2, 3, 4, 5, 6] rfl rfl ?_
      show J 62 [(2, .int (zI ((n : Int) - (1 : Int)))), (0, .ref ht), (1, .ref h)] [.int (bI (decide (num By L (nx By L (nx By L fi)) 0 3)))] [(ht, .inr (5, [.int (nI L), .ref bt, .int (nI (tkK By L (nx By L (nx By L fi)))), .int (nI (nx By L (nx By L fi))), .int (nI ((nx By L (nx By L fi)) + tkL By L (nx By L (nx By L fi)))), .int nz5, .int (nI 1), .ref tt])), (bt, ba Z 150 (ni By)), (tt, ia Z 3 (upd (upd Td 0 nz2) 1 nz5)), cO h q n an sp ri ti rd, (q 0, ia Z 12 (ni K)), (q 1, ia Z 12 (ni P)), (q 2, ia Z 6 (ni kd)), (q 3, ia Z 6 (ni am)), (q 4, ia Z 6 (ni st)), (q 5, ia Z 6 (ni rg))] 0 0
      have hv2 := f6
      refine jp_if_eq hJ (q := 65) (tgt := 76) dX7_isItem_62 (by decide) rfl (fun c7 => ?_) (fun c7 => ?_)
      · skip
        refine j_iconst hJ (q := 77) dX7_isItem_76 rfl ki_0 ?_
        exact hE.1 _ _ _ _ _ _ _ rfl rfl dX7_isItem_77 (Nat.le_refl _) (Nat.le_refl _) (Or.inr (⟨(upd (upd Td 0 nz2) 1 nz5), nz5, (by rintro ⟨z1, z2, z3⟩; first | exact absurd z1 (by assumption) | exact absurd z2 (by assumption) | exact absurd z3 (by assumption)), congrArg (fun z => some (Value.int (nI z))) (by rfl), by rw [if_pos (by assumption), if_neg (by assumption)]⟩))
      · skip
        refine j_aload_n hJ (q := 66) dX7_isItem_65 rfl 1 rfl rfl ?_
        refine j_vW hJ (q := 69) (rest := []) (As := []) (wr := [(tt, ia Z 3 (upd (upd Td 0 nz2) 1 nz5)), cO h q n an sp ri ti rd, (q 0, ia Z 12 (ni K)), (q 1, ia Z 12 (ni P)), (q 2, ia Z 6 (ni kd)), (q 3, ia Z 6 (ni am)), (q 4, ia Z 6 (ni st)), (q 5, ia Z 6 (ni rg))]) jl_X7_76 (c_X7_isStop Z ht bt tt L By (nx By L (nx By L fi)) nz5 1 (by omega) hby (by omega)) 0 rfl rfl dX7_isItem_66 rfl (by decide) (Nat.le_of_ble_eq_true rfl) [0, 1] [2, 3, 4, 5, 6, 7, 8, 9] rfl rfl rfl rfl (by decide) rfl (fun rv wv hp => ?_)
        obtain ⟨nz8, rfl, rfl⟩ := hp
        refine j_world hJ (ws' := [(ht, .inr (5, [.int (nI L), .ref bt, .int (nI (tkK By L (nx By L (nx By L (nx By L fi))))), .int (nI (nx By L (nx By L (nx By L fi)))), .int (nI ((nx By L (nx By L (nx By L fi))) + tkL By L (nx By L (nx By L (nx By L fi))))), .int nz8, .int (nI 1), .ref tt])), (bt, ba Z 150 (ni By)), (tt, ia Z 3 (upd (upd Td 0 nz2) 1 nz5)), cO h q n an sp ri ti rd, (q 0, ia Z 12 (ni K)), (q 1, ia Z 12 (ni P)), (q 2, ia Z 6 (ni kd)), (q 3, ia Z 6 (ni am)), (q 4, ia Z 6 (ni st)), (q 5, ia Z 6 (ni rg))]) [8, 9, 0, 1, 2, 3, 4, 5, 6, 7] rfl rfl ?_
        show J 69 [(2, .int (zI ((n : Int) - (1 : Int)))), (0, .ref ht), (1, .ref h)] [.int (bI (decide (tkK By L (nx By L (nx By L (nx By L fi))) = 3)))] [(ht, .inr (5, [.int (nI L), .ref bt, .int (nI (tkK By L (nx By L (nx By L (nx By L fi))))), .int (nI (nx By L (nx By L (nx By L fi)))), .int (nI ((nx By L (nx By L (nx By L fi))) + tkL By L (nx By L (nx By L (nx By L fi))))), .int nz8, .int (nI 1), .ref tt])), (bt, ba Z 150 (ni By)), (tt, ia Z 3 (upd (upd Td 0 nz2) 1 nz5)), cO h q n an sp ri ti rd, (q 0, ia Z 12 (ni K)), (q 1, ia Z 12 (ni P)), (q 2, ia Z 6 (ni kd)), (q 3, ia Z 6 (ni am)), (q 4, ia Z 6 (ni st)), (q 5, ia Z 6 (ni rg))] 0 0
        refine jp_if_eq hJ (q := 72) (tgt := 76) dX7_isItem_69 (by decide) rfl (fun c9 => ?_) (fun c9 => ?_)
        · skip
          refine j_iconst hJ (q := 77) dX7_isItem_76 rfl ki_0 ?_
          exact hE.1 _ _ _ _ _ _ _ rfl rfl dX7_isItem_77 (Nat.le_refl _) (Nat.le_refl _) (Or.inr (⟨(upd (upd Td 0 nz2) 1 nz5), nz8, (by rintro ⟨z1, z2, z3⟩; first | exact absurd z1 (by assumption) | exact absurd z2 (by assumption) | exact absurd z3 (by assumption)), congrArg (fun z => some (Value.int (nI z))) (by rfl), by rw [if_pos (by assumption), if_pos (by assumption)]⟩))
        · skip
          refine j_iconst hJ (q := 73) dX7_isItem_72 rfl ki_1 ?_
          refine j_goto hJ (q := 77) dX7_isItem_73 (by decide) ?_
          exact hE.1 _ _ _ _ _ _ _ rfl rfl dX7_isItem_77 (Nat.le_refl _) (Nat.le_refl _) (Or.inl (⟨(upd (upd Td 0 nz2) 1 nz5), nz8, (⟨by assumption, by assumption, by assumption⟩), congrArg (fun z => some (Value.int (nI z))) (by rfl), rfl, (show _ = _ from by rfl).trans (hv1 (by assumption : num By L (nx By L fi) _ _).1), (show _ = _ from by rfl).trans (hv2 (by assumption : num By L (nx By L (nx By L fi)) _ _).1)⟩))
