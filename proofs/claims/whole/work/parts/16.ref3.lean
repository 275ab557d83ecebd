set_option maxHeartbeats 4000000 in
set_option maxRecDepth 100000 in
theorem c_X9_takenBy (Z : jZ) (h : Nat) (q : Nat → Nat) (ab : Int) (be : Int) (bl : Nat) (ta : Nat) (tl : Nat) (tk : Nat) (va : Nat) (A : Nat → Nat) (Hd : Nat → Nat) (i : Nat) (m : Nat) (code : Nat) (hw : wf A) (hi : i < 100) (hm : m ≤ 6) (hc : code < 4096) (ht : A 8 + m < 90000) : CT Z yX9_takenBy cX9_takenBy 6 ((some FieldType.int)) 5 0 0 [.ref h, .int (nI i), .int (nI m), .int (nI code)] [mO h q ab be bl ta tl tk va, (q 0, ia Z 266 (ni A)), (q 4, ia Z 58 (ni Hd))] (fun rr ww => ∃ Hx : Nat → Nat, rr = some (.int (nI (tkb i code m A))) ∧ ww = [mO h q ab be bl ta tl tk va, (q 0, ia Z 266 (ni A)), (q 4, ia Z 58 (ni Hx))]) := by
  refine CT.of RX9 false rfl (fun h => by cases h) (by decide +kernel) (Nat.le_of_ble_eq_true rfl) ?_
  intro J hJ hE
  show J 0 [(0, .ref h), (1, .int (nI i)), (2, .int (nI m)), (3, .int (nI code))] [] [mO h q ab be bl ta tl tk va, (q 0, ia Z 266 (ni A)), (q 4, ia Z 58 (ni Hd))] 0 0
  refine j_iconst hJ (q := 1) dX9_takenBy_0 rfl ki_0 ?_
  refine j_istore hJ (q := 3) (lvs' := [(4, .int (nI 0)), (0, .ref h), (1, .int (nI i)), (2, .int (nI m)), (3, .int (nI code))]) dX9_takenBy_1 (by decide) rfl rfl ?_
  refine j_aload_n hJ (q := 4) dX9_takenBy_3 rfl 1 rfl rfl ?_
  refine j_vW hJ (q := 7) (rest := []) (As := []) (wr := []) jl_X9_139 (c_X9_layHand Z h q ab be bl ta tl tk va A Hd ) 0 rfl rfl dX9_takenBy_4 rfl (by decide) (Nat.le_of_ble_eq_true rfl) [0, 1, 2] [] rfl rfl rfl rfl (by decide) rfl (fun rv wv hp => ?_)
  obtain ⟨rfl, rfl⟩ := hp
  show J 7 [(4, .int (nI 0)), (0, .ref h), (1, .int (nI i)), (2, .int (nI m)), (3, .int (nI code))] [] [mO h q ab be bl ta tl tk va, (q 0, ia Z 266 (ni A)), (q 4, ia Z 58 (ni A))] 0 0
  refine j_iload_n hJ (q := 8) dX9_takenBy_7 rfl 3 rfl rfl ?_
  refine j_iconst hJ (q := 9) dX9_takenBy_8 rfl ki_1 ?_
  refine j_isub hJ (q := 10) dX9_takenBy_9 rfl (zI_sub (zI_nat m).symm (zI_nat 1).symm) ?_
  refine j_istore hJ (q := 12) (lvs' := [(5, .int (zI ((m : Int) - (1 : Int)))), (4, .int (nI 0)), (0, .ref h), (1, .int (nI i)), (2, .int (nI m)), (3, .int (nI code))]) dX9_takenBy_10 (by decide) rfl rfl ?_
  have L_12 : ∀ (fu_12 : Nat) (B : Nat → Nat) (c : Nat) (k : Int), (k + 1).toNat < fu_12 → (-1 ≤ k ∧ k < m) → (c + tkb i code (k + 1).toNat B = tkb i code m A) → (wf B) → (B 8 + (k + 1).toNat < 90000) → J 12 [(0, .ref h), (1, .int (nI i)), (2, .int (nI m)), (3, .int (nI code)), (4, .int (nI c)), (5, .int (zI k))] [] [mO h q ab be bl ta tl tk va, (q 0, ia Z 266 (ni A)), (q 4, ia Z 58 (ni B))] 0 0 := by
    intro fu_12
    induction fu_12 with
    | zero => intro B c k hm; exact absurd hm (Nat.not_lt_zero _)
    | succ fu_12 ih_12 =>
      intro B c k hm_12 hk hB hwB hBt
      refine j_iload hJ (q := 14) dX9_takenBy_12 5 rfl rfl ?_
      refine jz_if_lt hJ (q := 17) (tgt := 60) dX9_takenBy_14 (by decide) rfl rfl (by omega) (fun c1 => ?_) (fun c1 => ?_)
      · skip
        refine j_iload hJ (q := 62) dX9_takenBy_60 4 rfl rfl ?_
        exact hE.1 _ _ _ _ _ _ _ rfl rfl dX9_takenBy_62 (Nat.le_refl _) (Nat.le_refl _) (⟨B, congrArg (fun z => some (Value.int (nI z))) (by rw [← hB, show (k + 1).toNat = 0 by omega]; simp only [tkb, Nat.add_zero]), rfl⟩)
      · skip
        obtain ⟨kk, rfl⟩ : ∃ z : Nat, k = (z : Int) := ⟨k.toNat, by omega⟩
        refine j_eql (lvs' := [(0, .ref h), (1, .int (nI i)), (2, .int (nI m)), (3, .int (nI code)), (4, .int (nI c)), (5, .int (nI kk))]) (by rw [zI_nat]) ?_
        refine j_aload_n hJ (q := 18) dX9_takenBy_17 rfl 0 rfl rfl ?_
        refine j_get hJ (q := 21) jf_X9_27 dX9_takenBy_18 0 rfl rfl rfl ?_
        refine j_bipush hJ (q := 23) dX9_takenBy_21 rfl kb_6 ?_
        refine j_iload_n hJ (q := 24) dX9_takenBy_23 rfl 3 rfl rfl ?_
        refine j_iconst hJ (q := 25) dX9_takenBy_24 rfl ki_2 ?_
        refine j_iload hJ (q := 27) dX9_takenBy_25 5 rfl rfl ?_
        refine j_imul hJ (q := 28) dX9_takenBy_27 rfl (pk_mul _ _) ?_
        refine j_ishr hJ (q := 29) dX9_takenBy_28 rfl (nI_shr (by omega) (by omega)) ?_
        refine j_iconst hJ (q := 30) dX9_takenBy_29 rfl ki_3 ?_
        have hdv : code / 2 ^ (2 * kk) ≤ code := Nat.div_le_self _ _
        refine j_iand hJ (q := 31) dX9_takenBy_30 rfl (nI_and3 (by omega)) ?_
        refine j_iastN hJ (q := 32) (ws' := [mO h q ab be bl ta tl tk va, (q 0, ia Z 266 (ni A)), (q 4, ia Z 58 (ni (va_up B 6 ((code / 2 ^ (2 * kk)) % 4))))]) dX9_takenBy_31 2 rfl (by decide) (by decide) (ni_up _ _ _) rfl rfl ?_
        refine j_iload hJ (q := 34) dX9_takenBy_32 4 rfl rfl ?_
        refine j_aload_n hJ (q := 35) dX9_takenBy_34 rfl 0 rfl rfl ?_
        refine j_get hJ (q := 38) jf_X9_27 dX9_takenBy_35 0 rfl rfl rfl ?_
        refine j_iconst hJ (q := 39) dX9_takenBy_38 rfl ki_0 ?_
        refine j_sW hJ (q := 42) (rest := [.int (nI c)]) (As := [.ref (q 4), .int (bI false)]) (wr := [mO h q ab be bl ta tl tk va, (q 0, ia Z 266 (ni A))]) jl_X9_116 (c_X9_goTick Z (q 4) 58 (va_up B 6 ((code / 2 ^ (2 * kk)) % 4)) false (by omega) (wf_speed hwB (by omega)) (by simp only [va_up]; rw [if_neg (by decide)]; omega)) dX9_takenBy_39 rfl (by decide) (Nat.le_of_ble_eq_true rfl) [2] [0, 1] rfl rfl rfl rfl (by decide) rfl (fun rv wv hp => ?_)
        obtain ⟨rfl, rfl⟩ := hp
        show J 42 [(0, .ref h), (1, .int (nI i)), (2, .int (nI m)), (3, .int (nI code)), (4, .int (nI c)), (5, .int (nI kk))] [.int (oI ((goT (va_up B 6 ((code / 2 ^ (2 * kk)) % 4)) false).1)), .int (nI c)] [mO h q ab be bl ta tl tk va, (q 0, ia Z 266 (ni A)), ((q 4), ia Z 58 (ni ((goT (va_up B 6 ((code / 2 ^ (2 * kk)) % 4)) false).2)))] 0 0
        refine j_caseo (fun o2 => ?_) (fun i3 o2 => ?_)
        · skip
          refine j_iload_n hJ (q := 43) dX9_takenBy_42 rfl 1 rfl rfl ?_
          refine jz_icmp_ne hJ (q := 46) (tgt := 50) dX9_takenBy_43 (by decide) rfl rfl (zI_nat i).symm (by omega) (by omega) (fun c4 => ?_) (fun c4 => ?_)
          · skip
            refine j_iconst hJ (q := 51) dX9_takenBy_50 rfl ki_0 ?_
            refine j_iadd hJ (q := 52) dX9_takenBy_51 rfl (nI_add _ _) ?_
            refine j_istore hJ (q := 54) (lvs' := [(4, .int (nI (c + 0))), (0, .ref h), (1, .int (nI i)), (2, .int (nI m)), (3, .int (nI code)), (5, .int (nI kk))]) dX9_takenBy_52 (by decide) rfl rfl ?_
            refine j_iinc hJ (q := 57) (lvs' := [(5, .int (zI ((kk : Int) + (-1)))), (4, .int (nI (c + 0))), (0, .ref h), (1, .int (nI i)), (2, .int (nI m)), (3, .int (nI code))]) dX9_takenBy_54 5 rfl (zI_add (zI_nat kk).symm rfl) (by decide) rfl rfl ?_
            refine j_goto hJ (q := 12) dX9_takenBy_57 (by decide) ?_
            refine j_locals hJ [2, 3, 4, 5, 1, 0] rfl ?_
            exact ih_12 ((goT (va_up B 6 ((code / 2 ^ (2 * kk)) % 4)) false).2) (c + 0) ((kk : Int) + (-1)) (by omega) (by omega) (by rw [← hB, show ((kk : Int) + 1).toNat = kk + 1 by omega, show ((kk : Int) + (-1) + 1).toNat = kk by omega]; simp only [tkb]; split <;> simp_all <;> omega) (wf_goT false (wf_speed hwB (by omega)) (by simp only [va_up]; rw [if_neg (by decide)]; omega)) (by rw [goT_8]; simp only [va_up]; rw [if_neg (by decide)]; omega)
          · skip
            exfalso; omega
        · skip
          have hlt := goT_lt o2
          have hl6 := hwB.1.2.2.2.2.2
          have hl7 : va_up B 6 (code / 2 ^ (2 * kk) % 4) 0 = B 0 := by simp [va_up]
          refine j_iload_n hJ (q := 43) dX9_takenBy_42 rfl 1 rfl rfl ?_
          refine jn_icmp_ne hJ (q := 46) (tgt := 50) dX9_takenBy_43 (by decide) rfl (by omega) (by omega) (fun c5 => ?_) (fun c5 => ?_)
          · skip
            refine j_iconst hJ (q := 51) dX9_takenBy_50 rfl ki_0 ?_
            refine j_iadd hJ (q := 52) dX9_takenBy_51 rfl (nI_add _ _) ?_
            refine j_istore hJ (q := 54) (lvs' := [(4, .int (nI (c + 0))), (0, .ref h), (1, .int (nI i)), (2, .int (nI m)), (3, .int (nI code)), (5, .int (nI kk))]) dX9_takenBy_52 (by decide) rfl rfl ?_
            refine j_iinc hJ (q := 57) (lvs' := [(5, .int (zI ((kk : Int) + (-1)))), (4, .int (nI (c + 0))), (0, .ref h), (1, .int (nI i)), (2, .int (nI m)), (3, .int (nI code))]) dX9_takenBy_54 5 rfl (zI_add (zI_nat kk).symm rfl) (by decide) rfl rfl ?_
            refine j_goto hJ (q := 12) dX9_takenBy_57 (by decide) ?_
            refine j_locals hJ [2, 3, 4, 5, 1, 0] rfl ?_
            exact ih_12 ((goT (va_up B 6 ((code / 2 ^ (2 * kk)) % 4)) false).2) (c + 0) ((kk : Int) + (-1)) (by omega) (by omega) (by rw [← hB, show ((kk : Int) + 1).toNat = kk + 1 by omega, show ((kk : Int) + (-1) + 1).toNat = kk by omega]; simp only [tkb]; split <;> simp_all <;> omega) (wf_goT false (wf_speed hwB (by omega)) (by simp only [va_up]; rw [if_neg (by decide)]; omega)) (by rw [goT_8]; simp only [va_up]; rw [if_neg (by decide)]; omega)
          · skip
            refine j_iconst hJ (q := 47) dX9_takenBy_46 rfl ki_1 ?_
            refine j_goto hJ (q := 51) dX9_takenBy_47 (by decide) ?_
            refine j_iadd hJ (q := 52) dX9_takenBy_51 rfl (nI_add _ _) ?_
            refine j_istore hJ (q := 54) (lvs' := [(4, .int (nI (c + 1))), (0, .ref h), (1, .int (nI i)), (2, .int (nI m)), (3, .int (nI code)), (5, .int (nI kk))]) dX9_takenBy_52 (by decide) rfl rfl ?_
            refine j_iinc hJ (q := 57) (lvs' := [(5, .int (zI ((kk : Int) + (-1)))), (4, .int (nI (c + 1))), (0, .ref h), (1, .int (nI i)), (2, .int (nI m)), (3, .int (nI code))]) dX9_takenBy_54 5 rfl (zI_add (zI_nat kk).symm rfl) (by decide) rfl rfl ?_
            refine j_goto hJ (q := 12) dX9_takenBy_57 (by decide) ?_
            refine j_locals hJ [2, 3, 4, 5, 1, 0] rfl ?_
            exact ih_12 ((goT (va_up B 6 ((code / 2 ^ (2 * kk)) % 4)) false).2) (c + 1) ((kk : Int) + (-1)) (by omega) (by omega) (by rw [← hB, show ((kk : Int) + 1).toNat = kk + 1 by omega, show ((kk : Int) + (-1) + 1).toNat = kk by omega]; simp only [tkb]; split <;> simp_all <;> omega) (wf_goT false (wf_speed hwB (by omega)) (by simp only [va_up]; rw [if_neg (by decide)]; omega)) (by rw [goT_8]; simp only [va_up]; rw [if_neg (by decide)]; omega)
  refine j_locals hJ [2, 3, 4, 5, 1, 0] rfl ?_
  exact L_12 (((((m : Int) - (1 : Int)) + 1).toNat) + 1) A 0 ((m : Int) - (1 : Int)) (Nat.lt_succ_self _) (by omega) (by rw [Nat.zero_add]; congr 1; omega) hw (by omega)

set_option maxHeartbeats 4000000 in
set_option maxRecDepth 100000 in
theorem c_X9_mostAlike (Z : jZ) (h : Nat) (q : Nat → Nat) (ab : Int) (be : Int) (bl : Nat) (ta : Nat) (tl : Nat) (tk : Nat) (va : Nat) (Tl : Nat → Nat) (st : Nat) (h1 : st < 2147483648) (hb : ∀ j, Tl j < 100000) : CR Z yX9_mostAlike cX9_mostAlike 6 ((some FieldType.int)) 2 [.ref h, .int (nI st)] [mO h q ab be bl ta tl tk va, (q 5, ia Z 8 (ni Tl))] (fun rr => rr = some (.int (nI (topN Tl st 8)))) := by
  refine CR.of RX9 rfl (by decide +kernel) (Nat.le_of_ble_eq_true rfl) ?_
  intro J hJ hE
  show J 0 [(0, .ref h), (1, .int (nI st))] [] [mO h q ab be bl ta tl tk va, (q 5, ia Z 8 (ni Tl))] 0 0
  refine j_iconst hJ (q := 1) dX9_mostAlike_0 rfl ki_0 ?_
  refine j_istore_n hJ (q := 2) (lvs' := [(2, .int (nI 0)), (0, .ref h), (1, .int (nI st))]) dX9_mostAlike_1 rfl (by decide) rfl rfl ?_
  refine j_iconst hJ (q := 3) dX9_mostAlike_2 rfl ki_0 ?_
  refine j_istore_n hJ (q := 4) (lvs' := [(3, .int (nI 0)), (2, .int (nI 0)), (0, .ref h), (1, .int (nI st))]) dX9_mostAlike_3 rfl (by decide) rfl rfl ?_
  have L_4 : ∀ (fu_4 : Nat) (top : Nat) (a : Nat), 8 - a < fu_4 → (a ≤ 8) → (top = topN Tl st a) → J 4 [(0, .ref h), (1, .int (nI st)), (2, .int (nI top)), (3, .int (nI a))] [] [mO h q ab be bl ta tl tk va, (q 5, ia Z 8 (ni Tl))] 0 0 := by
    intro fu_4
    induction fu_4 with
    | zero => intro top a hm; exact absurd hm (Nat.not_lt_zero _)
    | succ fu_4 ih_4 =>
      intro top a hm_4 ha htop
      have htl := topN_le Tl st a
      refine j_iload_n hJ (q := 5) dX9_mostAlike_4 rfl 3 rfl rfl ?_
      refine j_bipush hJ (q := 7) dX9_mostAlike_5 rfl kb_8 ?_
      refine jn_icmp_ge hJ (q := 10) (tgt := 91) dX9_mostAlike_7 (by decide) rfl (by omega) (by omega) (fun c1 => ?_) (fun c1 => ?_)
      · skip
        refine j_iload_n hJ (q := 92) dX9_mostAlike_91 rfl 2 rfl rfl ?_
        exact hE.1 _ _ _ _ _ _ _ rfl rfl dX9_mostAlike_92 (Nat.le_refl _) (Nat.le_refl _) (congrArg (fun z => some (Value.int (nI z))) (by rw [htop, show a = 8 by omega]))
      · skip
        refine j_iconst hJ (q := 11) dX9_mostAlike_10 rfl ki_0 ?_
        refine j_istore hJ (q := 13) (lvs' := [(4, .int (nI 0)), (0, .ref h), (1, .int (nI st)), (2, .int (nI top)), (3, .int (nI a))]) dX9_mostAlike_11 (by decide) rfl rfl ?_
        refine j_iconst hJ (q := 14) dX9_mostAlike_13 rfl ki_0 ?_
        refine j_istore hJ (q := 16) (lvs' := [(5, .int (nI 0)), (4, .int (nI 0)), (0, .ref h), (1, .int (nI st)), (2, .int (nI top)), (3, .int (nI a))]) dX9_mostAlike_14 (by decide) rfl rfl ?_
        have L_16 : ∀ (fu_16 : Nat) (l : Nat) (b : Nat), 8 - b < fu_16 → (b ≤ 8) → (l = likeN Tl st a b) → (b = 0 ∨ st / 2 ^ a % 2 = 1) → J 16 [(0, .ref h), (1, .int (nI st)), (2, .int (nI top)), (3, .int (nI a)), (4, .int (nI l)), (5, .int (nI b))] [] [mO h q ab be bl ta tl tk va, (q 5, ia Z 8 (ni Tl))] 0 0 := by
          intro fu_16
          induction fu_16 with
          | zero => intro l b hm; exact absurd hm (Nat.not_lt_zero _)
          | succ fu_16 ih_16 =>
            intro l b hm_16 hbb hl hz
            have hll := likeN_le Tl st a b
            refine j_iload hJ (q := 18) dX9_mostAlike_16 5 rfl rfl ?_
            refine j_bipush hJ (q := 20) dX9_mostAlike_18 rfl kb_8 ?_
            refine jn_icmp_ge hJ (q := 23) (tgt := 72) dX9_mostAlike_20 (by decide) rfl (by omega) (by omega) (fun c2 => ?_) (fun c2 => ?_)
            · skip
              have hlike : like Tl st a = l := like_of hl hz (by omega)
              refine j_iload hJ (q := 74) dX9_mostAlike_72 4 rfl rfl ?_
              refine j_iload_n hJ (q := 75) dX9_mostAlike_74 rfl 2 rfl rfl ?_
              refine jn_icmp_le hJ (q := 78) (tgt := 83) dX9_mostAlike_75 (by decide) rfl (by omega) (by omega) (fun c3 => ?_) (fun c3 => ?_)
              · skip
                refine j_iload_n hJ (q := 84) dX9_mostAlike_83 rfl 2 rfl rfl ?_
                refine j_istore_n hJ (q := 85) (lvs' := [(2, .int (nI top)), (0, .ref h), (1, .int (nI st)), (3, .int (nI a)), (4, .int (nI l)), (5, .int (nI b))]) dX9_mostAlike_84 rfl (by decide) rfl rfl ?_
                refine j_iinc hJ (q := 88) (lvs' := [(3, .int (nI (a + 1))), (2, .int (nI top)), (0, .ref h), (1, .int (nI st)), (4, .int (nI l)), (5, .int (nI b))]) dX9_mostAlike_85 3 rfl (by rw [show Int32.ofInt 1 = nI 1 from by decide +kernel]; exact nI_add _ _) (by decide) rfl rfl ?_
                refine j_goto hJ (q := 4) dX9_mostAlike_88 (by decide) ?_
                refine j_locals hJ [2, 3, 1, 0] rfl ?_
                exact ih_4 top (a + 1) (by omega) (by omega) (by simp only [topN]; rw [hlike, ← htop]; split <;> omega)
              · skip
                refine j_iload hJ (q := 80) dX9_mostAlike_78 4 rfl rfl ?_
                refine j_goto hJ (q := 84) dX9_mostAlike_80 (by decide) ?_
                refine j_istore_n hJ (q := 85) (lvs' := [(2, .int (nI l)), (0, .ref h), (1, .int (nI st)), (3, .int (nI a)), (4, .int (nI l)), (5, .int (nI b))]) dX9_mostAlike_84 rfl (by decide) rfl rfl ?_
                refine j_iinc hJ (q := 88) (lvs' := [(3, .int (nI (a + 1))), (2, .int (nI l)), (0, .ref h), (1, .int (nI st)), (4, .int (nI l)), (5, .int (nI b))]) dX9_mostAlike_85 3 rfl (by rw [show Int32.ofInt 1 = nI 1 from by decide +kernel]; exact nI_add _ _) (by decide) rfl rfl ?_
                refine j_goto hJ (q := 4) dX9_mostAlike_88 (by decide) ?_
                refine j_locals hJ [2, 3, 1, 0] rfl ?_
                exact ih_4 l (a + 1) (by omega) (by omega) (by simp only [topN]; rw [hlike, ← htop]; split <;> omega)
            · skip
              refine j_iload_n hJ (q := 24) dX9_mostAlike_23 rfl 1 rfl rfl ?_
              refine j_iload_n hJ (q := 25) dX9_mostAlike_24 rfl 3 rfl rfl ?_
              refine j_sR hJ (q := 28) (rest := []) (As := [.int (nI st), .int (nI a)]) jl_X9_157 (c_X9_has Z st a (by omega) (by omega)) dX9_mostAlike_25 rfl (by decide) (Nat.le_of_ble_eq_true rfl) [] rfl rfl (fun rv hp => ?_)
              obtain rfl := hp
              show J 28 [(0, .ref h), (1, .int (nI st)), (2, .int (nI top)), (3, .int (nI a)), (4, .int (nI l)), (5, .int (nI b))] [.int (bI (decide (st / 2 ^ a % 2 = 1)))] [mO h q ab be bl ta tl tk va, (q 5, ia Z 8 (ni Tl))] 0 0
              refine jp_if_eq hJ (q := 31) (tgt := 72) dX9_mostAlike_28 (by decide) rfl (fun c4 => ?_) (fun c4 => ?_)
              · skip
                have hlike : like Tl st a = l := like_of hl hz (by omega)
                refine j_iload hJ (q := 74) dX9_mostAlike_72 4 rfl rfl ?_
                refine j_iload_n hJ (q := 75) dX9_mostAlike_74 rfl 2 rfl rfl ?_
                refine jn_icmp_le hJ (q := 78) (tgt := 83) dX9_mostAlike_75 (by decide) rfl (by omega) (by omega) (fun c5 => ?_) (fun c5 => ?_)
                · skip
                  refine j_iload_n hJ (q := 84) dX9_mostAlike_83 rfl 2 rfl rfl ?_
                  refine j_istore_n hJ (q := 85) (lvs' := [(2, .int (nI top)), (0, .ref h), (1, .int (nI st)), (3, .int (nI a)), (4, .int (nI l)), (5, .int (nI b))]) dX9_mostAlike_84 rfl (by decide) rfl rfl ?_
                  refine j_iinc hJ (q := 88) (lvs' := [(3, .int (nI (a + 1))), (2, .int (nI top)), (0, .ref h), (1, .int (nI st)), (4, .int (nI l)), (5, .int (nI b))]) dX9_mostAlike_85 3 rfl (by rw [show Int32.ofInt 1 = nI 1 from by decide +kernel]; exact nI_add _ _) (by decide) rfl rfl ?_
                  refine j_goto hJ (q := 4) dX9_mostAlike_88 (by decide) ?_
                  refine j_locals hJ [2, 3, 1, 0] rfl ?_
                  exact ih_4 top (a + 1) (by omega) (by omega) (by simp only [topN]; rw [hlike, ← htop]; split <;> omega)
                · skip
                  refine j_iload hJ (q := 80) dX9_mostAlike_78 4 rfl rfl ?_
                  refine j_goto hJ (q := 84) dX9_mostAlike_80 (by decide) ?_
                  refine j_istore_n hJ (q := 85) (lvs' := [(2, .int (nI l)), (0, .ref h), (1, .int (nI st)), (3, .int (nI a)), (4, .int (nI l)), (5, .int (nI b))]) dX9_mostAlike_84 rfl (by decide) rfl rfl ?_
                  refine j_iinc hJ (q := 88) (lvs' := [(3, .int (nI (a + 1))), (2, .int (nI l)), (0, .ref h), (1, .int (nI st)), (4, .int (nI l)), (5, .int (nI b))]) dX9_mostAlike_85 3 rfl (by rw [show Int32.ofInt 1 = nI 1 from by decide +kernel]; exact nI_add _ _) (by decide) rfl rfl ?_
                  refine j_goto hJ (q := 4) dX9_mostAlike_88 (by decide) ?_
                  refine j_locals hJ [2, 3, 1, 0] rfl ?_
                  exact ih_4 l (a + 1) (by omega) (by omega) (by simp only [topN]; rw [hlike, ← htop]; split <;> omega)
              · skip
                refine j_iload hJ (q := 33) dX9_mostAlike_31 4 rfl rfl ?_
                refine j_iload_n hJ (q := 34) dX9_mostAlike_33 rfl 1 rfl rfl ?_
                refine j_iload hJ (q := 36) dX9_mostAlike_34 5 rfl rfl ?_
                refine j_sR hJ (q := 39) (rest := [.int (nI l)]) (As := [.int (nI st), .int (nI b)]) jl_X9_157 (c_X9_has Z st b (by omega) (by omega)) dX9_mostAlike_36 rfl (by decide) (Nat.le_of_ble_eq_true rfl) [] rfl rfl (fun rv hp => ?_)
                obtain rfl := hp
                show J 39 [(0, .ref h), (1, .int (nI st)), (2, .int (nI top)), (3, .int (nI a)), (4, .int (nI l)), (5, .int (nI b))] [.int (bI (decide (st / 2 ^ b % 2 = 1))), .int (nI l)] [mO h q ab be bl ta tl tk va, (q 5, ia Z 8 (ni Tl))] 0 0
                refine jp_if_eq hJ (q := 42) (tgt := 62) dX9_mostAlike_39 (by decide) rfl (fun c6 => ?_) (fun c6 => ?_)
                · skip
                  refine j_iconst hJ (q := 63) dX9_mostAlike_62 rfl ki_0 ?_
                  refine j_iadd hJ (q := 64) dX9_mostAlike_63 rfl (nI_add _ _) ?_
                  refine j_istore hJ (q := 66) (lvs' := [(4, .int (nI (l + 0))), (0, .ref h), (1, .int (nI st)), (2, .int (nI top)), (3, .int (nI a)), (5, .int (nI b))]) dX9_mostAlike_64 (by decide) rfl rfl ?_
                  refine j_iinc hJ (q := 69) (lvs' := [(5, .int (nI (b + 1))), (4, .int (nI (l + 0))), (0, .ref h), (1, .int (nI st)), (2, .int (nI top)), (3, .int (nI a))]) dX9_mostAlike_66 5 rfl (by rw [show Int32.ofInt 1 = nI 1 from by decide +kernel]; exact nI_add _ _) (by decide) rfl rfl ?_
                  refine j_goto hJ (q := 16) dX9_mostAlike_69 (by decide) ?_
                  refine j_locals hJ [2, 3, 4, 5, 1, 0] rfl ?_
                  exact ih_16 (l + 0) (b + 1) (by omega) (by omega) (by simp only [likeN]; split <;> omega) (by omega)
                · skip
                  refine j_aload_n hJ (q := 43) dX9_mostAlike_42 rfl 0 rfl rfl ?_
                  refine j_get hJ (q := 46) jf_X9_30 dX9_mostAlike_43 0 rfl rfl rfl ?_
                  refine j_iload_n hJ (q := 47) dX9_mostAlike_46 rfl 3 rfl rfl ?_
                  refine j_ialdN hJ (q := 48) (z := nI (Tl a)) dX9_mostAlike_47 1 rfl (by omega) (by decide) rfl rfl ?_
                  have b7 := hb a
                  refine j_aload_n hJ (q := 49) dX9_mostAlike_48 rfl 0 rfl rfl ?_
                  refine j_get hJ (q := 52) jf_X9_30 dX9_mostAlike_49 0 rfl rfl rfl ?_
                  refine j_iload hJ (q := 54) dX9_mostAlike_52 5 rfl rfl ?_
                  refine j_ialdN hJ (q := 55) (z := nI (Tl b)) dX9_mostAlike_54 1 rfl (by omega) (by decide) rfl rfl ?_
                  have b8 := hb b
                  refine jn_icmp_ne hJ (q := 58) (tgt := 62) dX9_mostAlike_55 (by decide) rfl (by omega) (by omega) (fun c9 => ?_) (fun c9 => ?_)
                  · skip
                    refine j_iconst hJ (q := 63) dX9_mostAlike_62 rfl ki_0 ?_
                    refine j_iadd hJ (q := 64) dX9_mostAlike_63 rfl (nI_add _ _) ?_
                    refine j_istore hJ (q := 66) (lvs' := [(4, .int (nI (l + 0))), (0, .ref h), (1, .int (nI st)), (2, .int (nI top)), (3, .int (nI a)), (5, .int (nI b))]) dX9_mostAlike_64 (by decide) rfl rfl ?_
                    refine j_iinc hJ (q := 69) (lvs' := [(5, .int (nI (b + 1))), (4, .int (nI (l + 0))), (0, .ref h), (1, .int (nI st)), (2, .int (nI top)), (3, .int (nI a))]) dX9_mostAlike_66 5 rfl (by rw [show Int32.ofInt 1 = nI 1 from by decide +kernel]; exact nI_add _ _) (by decide) rfl rfl ?_
                    refine j_goto hJ (q := 16) dX9_mostAlike_69 (by decide) ?_
                    refine j_locals hJ [2, 3, 4, 5, 1, 0] rfl ?_
                    exact ih_16 (l + 0) (b + 1) (by omega) (by omega) (by simp only [likeN]; split <;> omega) (by omega)
                  · skip
                    refine j_iconst hJ (q := 59) dX9_mostAlike_58 rfl ki_1 ?_
                    refine j_goto hJ (q := 63) dX9_mostAlike_59 (by decide) ?_
                    refine j_iadd hJ (q := 64) dX9_mostAlike_63 rfl (nI_add _ _) ?_
                    refine j_istore hJ (q := 66) (lvs' := [(4, .int (nI (l + 1))), (0, .ref h), (1, .int (nI st)), (2, .int (nI top)), (3, .int (nI a)), (5, .int (nI b))]) dX9_mostAlike_64 (by decide) rfl rfl ?_
                    refine j_iinc hJ (q := 69) (lvs' := [(5, .int (nI (b + 1))), (4, .int (nI (l + 1))), (0, .ref h), (1, .int (nI st)), (2, .int (nI top)), (3, .int (nI a))]) dX9_mostAlike_66 5 rfl (by rw [show Int32.ofInt 1 = nI 1 from by decide +kernel]; exact nI_add _ _) (by decide) rfl rfl ?_
                    refine j_goto hJ (q := 16) dX9_mostAlike_69 (by decide) ?_
                    refine j_locals hJ [2, 3, 4, 5, 1, 0] rfl ?_
                    exact ih_16 (l + 1) (b + 1) (by omega) (by omega) (by simp only [likeN]; split <;> omega) (by omega)
        refine j_locals hJ [2, 3, 4, 5, 1, 0] rfl ?_
        exact L_16 ((8 - 0) + 1) 0 0 (Nat.lt_succ_self _) (by omega) rfl (by omega)
  refine j_locals hJ [2, 3, 1, 0] rfl ?_
  exact L_4 ((8 - 0) + 1) 0 0 (Nat.lt_succ_self _) (by omega) rfl

set_option maxHeartbeats 4000000 in
set_option maxRecDepth 100000 in
theorem c_X9_phasesOf (Z : jZ) (h : Nat) (q : Nat → Nat) (ab : Int) (be : Int) (bl : Nat) (ta : Nat) (tl : Nat) (tk : Nat) (va : Nat) (A : Nat → Nat) (s : Nat) (hs : s < 12) (hb : ∀ j, A j < 100000) (h1 : A 1 ≤ 5) (h2 : A (34 + s) ≤ 5) (hr : ∀ k, k < A 1 → A (58 + 4 * k + 2) ≤ 3) : CR Z yX9_phasesOf cX9_phasesOf 7 ((some FieldType.int)) 2 [.ref h, .int (nI s)] [mO h q ab be bl ta tl tk va, (q 0, ia Z 266 (ni A))] (fun rr => rr = some (.int (nI (phs A s)))) := by
  refine CR.of RX9 rfl (by decide +kernel) (Nat.le_of_ble_eq_true rfl) ?_
  intro J hJ hE
  show J 0 [(0, .ref h), (1, .int (nI s))] [] [mO h q ab be bl ta tl tk va, (q 0, ia Z 266 (ni A))] 0 0
  refine j_iconst hJ (q := 1) dX9_phasesOf_0 rfl ki_0 ?_
  refine j_istore_n hJ (q := 2) (lvs' := [(2, .int (nI 0)), (0, .ref h), (1, .int (nI s))]) dX9_phasesOf_1 rfl (by decide) rfl rfl ?_
  refine j_iconst hJ (q := 3) dX9_phasesOf_2 rfl ki_0 ?_
  refine j_istore_n hJ (q := 4) (lvs' := [(3, .int (nI 0)), (2, .int (nI 0)), (0, .ref h), (1, .int (nI s))]) dX9_phasesOf_3 rfl (by decide) rfl rfl ?_
  have L_4 : ∀ (fu_4 : Nat) (set : Nat) (p : Nat), 8 - p < fu_4 → (p ≤ 8) → (set = orN (fun p => okN A s p (A 1)) p) → J 4 [(0, .ref h), (1, .int (nI s)), (2, .int (nI set)), (3, .int (nI p))] [] [mO h q ab be bl ta tl tk va, (q 0, ia Z 266 (ni A))] 0 0 := by
    intro fu_4
    induction fu_4 with
    | zero => intro set p hm; exact absurd hm (Nat.not_lt_zero _)
    | succ fu_4 ih_4 =>
      intro set p hm_4 hp hset
      have hsl := orN_lt8 (fun p => okN A s p (A 1)) hp
      refine j_iload_n hJ (q := 5) dX9_phasesOf_4 rfl 3 rfl rfl ?_
      refine j_bipush hJ (q := 7) dX9_phasesOf_5 rfl kb_8 ?_
      refine jn_icmp_ge hJ (q := 10) (tgt := 129) dX9_phasesOf_7 (by decide) rfl (by omega) (by omega) (fun c1 => ?_) (fun c1 => ?_)
      · skip
        refine j_iload_n hJ (q := 130) dX9_phasesOf_129 rfl 2 rfl rfl ?_
        exact hE.1 _ _ _ _ _ _ _ rfl rfl dX9_phasesOf_130 (Nat.le_refl _) (Nat.le_refl _) (congrArg (fun z => some (Value.int (nI z))) (by rw [hset, show p = 8 by omega]; rfl))
      · skip
        refine j_iconst hJ (q := 11) dX9_phasesOf_10 rfl ki_1 ?_
        refine j_istore hJ (q := 13) (lvs' := [(4, .int (nI 1)), (0, .ref h), (1, .int (nI s)), (2, .int (nI set)), (3, .int (nI p))]) dX9_phasesOf_11 (by decide) rfl rfl ?_
        refine j_iconst hJ (q := 14) dX9_phasesOf_13 rfl ki_0 ?_
        refine j_istore hJ (q := 16) (lvs' := [(5, .int (nI 0)), (4, .int (nI 1)), (0, .ref h), (1, .int (nI s)), (2, .int (nI set)), (3, .int (nI p))]) dX9_phasesOf_14 (by decide) rfl rfl ?_
        have L_16 : ∀ (fu_16 : Nat) (t : Bool) (k : Nat), A 1 - k < fu_16 → (k ≤ A 1) → (t = okN A s p k) → J 16 [(0, .ref h), (1, .int (nI s)), (2, .int (nI set)), (3, .int (nI p)), (4, .int (bI t)), (5, .int (nI k))] [] [mO h q ab be bl ta tl tk va, (q 0, ia Z 266 (ni A))] 0 0 := by
          intro fu_16
          induction fu_16 with
          | zero => intro t k hm; exact absurd hm (Nat.not_lt_zero _)
          | succ fu_16 ih_16 =>
            intro t k hm_16 hk htt
            refine j_iload hJ (q := 18) dX9_phasesOf_16 5 rfl rfl ?_
            refine j_aload_n hJ (q := 19) dX9_phasesOf_18 rfl 0 rfl rfl ?_
            refine j_get hJ (q := 22) jf_X9_7 dX9_phasesOf_19 0 rfl rfl rfl ?_
            refine j_iconst hJ (q := 23) dX9_phasesOf_22 rfl ki_1 ?_
            refine j_ialdN hJ (q := 24) (z := nI (A 1)) dX9_phasesOf_23 1 rfl (by decide) (by decide) rfl rfl ?_
            have b2 := hb 1
            refine jn_icmp_ge hJ (q := 27) (tgt := 108) dX9_phasesOf_24 (by decide) rfl (by omega) (by omega) (fun c3 => ?_) (fun c3 => ?_)
            · skip
              have htt2 : t = okN A s p (A 1) := by rw [htt, show k = A 1 by omega]
              refine j_iload_n hJ (q := 109) dX9_phasesOf_108 rfl 2 rfl rfl ?_
              refine j_iload hJ (q := 111) dX9_phasesOf_109 4 rfl rfl ?_
              refine jb_if_eq hJ (q := 114) (tgt := 120) dX9_phasesOf_111 (by decide) rfl (fun c4 => ?_) (fun c4 => ?_)
              · skip
                refine j_iconst hJ (q := 121) dX9_phasesOf_120 rfl ki_0 ?_
                refine j_ior hJ (q := 122) dX9_phasesOf_121 rfl (nI_or _ _) ?_
                refine j_istore_n hJ (q := 123) (lvs' := [(2, .int (nI (set ||| 0))), (0, .ref h), (1, .int (nI s)), (3, .int (nI p)), (4, .int (bI t)), (5, .int (nI k))]) dX9_phasesOf_122 rfl (by decide) rfl rfl ?_
                refine j_iinc hJ (q := 126) (lvs' := [(3, .int (nI (p + 1))), (2, .int (nI (set ||| 0))), (0, .ref h), (1, .int (nI s)), (4, .int (bI t)), (5, .int (nI k))]) dX9_phasesOf_123 3 rfl (by rw [show Int32.ofInt 1 = nI 1 from by decide +kernel]; exact nI_add _ _) (by decide) rfl rfl ?_
                refine j_goto hJ (q := 4) dX9_phasesOf_126 (by decide) ?_
                refine j_locals hJ [2, 3, 1, 0] rfl ?_
                exact ih_4 (set ||| 0) (p + 1) (by omega) (by omega) (by simp only [orN]; rw [← hset]; simp_all)
              · skip
                refine j_iconst hJ (q := 115) dX9_phasesOf_114 rfl ki_1 ?_
                refine j_iload_n hJ (q := 116) dX9_phasesOf_115 rfl 3 rfl rfl ?_
                refine j_ishl hJ (q := 117) dX9_phasesOf_116 rfl (nI_shl (by omega) (by have := pow_le8 (p := p) (by omega); omega)) ?_
                refine j_goto hJ (q := 121) dX9_phasesOf_117 (by decide) ?_
                refine j_ior hJ (q := 122) dX9_phasesOf_121 rfl (nI_or _ _) ?_
                refine j_istore_n hJ (q := 123) (lvs' := [(2, .int (nI (set ||| (1 * 2 ^ p)))), (0, .ref h), (1, .int (nI s)), (3, .int (nI p)), (4, .int (bI t)), (5, .int (nI k))]) dX9_phasesOf_122 rfl (by decide) rfl rfl ?_
                refine j_iinc hJ (q := 126) (lvs' := [(3, .int (nI (p + 1))), (2, .int (nI (set ||| (1 * 2 ^ p)))), (0, .ref h), (1, .int (nI s)), (4, .int (bI t)), (5, .int (nI k))]) dX9_phasesOf_123 3 rfl (by rw [show Int32.ofInt 1 = nI 1 from by decide +kernel]; exact nI_add _ _) (by decide) rfl rfl ?_
                refine j_goto hJ (q := 4) dX9_phasesOf_126 (by decide) ?_
                refine j_locals hJ [2, 3, 1, 0] rfl ?_
                exact ih_4 (set ||| (1 * 2 ^ p)) (p + 1) (by omega) (by omega) (by simp only [orN]; rw [← hset]; simp_all)
            · skip
              refine j_bipush hJ (q := 29) dX9_phasesOf_27 rfl kb_58 ?_
              refine j_iconst hJ (q := 30) dX9_phasesOf_29 rfl ki_4 ?_
              refine j_iload hJ (q := 32) dX9_phasesOf_30 5 rfl rfl ?_
              refine j_imul hJ (q := 33) dX9_phasesOf_32 rfl (pk_mul _ _) ?_
              refine j_iadd hJ (q := 34) dX9_phasesOf_33 rfl (nI_add _ _) ?_
              refine j_istore hJ (q := 36) (lvs' := [(6, .int (nI (58 + (4 * k)))), (0, .ref h), (1, .int (nI s)), (2, .int (nI set)), (3, .int (nI p)), (4, .int (bI t)), (5, .int (nI k))]) dX9_phasesOf_34 (by decide) rfl rfl ?_
              refine j_iload hJ (q := 38) dX9_phasesOf_36 5 rfl rfl ?_
              refine jb_if_eq hJ (q := 41) (tgt := 99) dX9_phasesOf_38 (by decide) rfl (fun c5 => ?_) (fun c5 => ?_)
              · skip
                refine j_iconst hJ (q := 100) dX9_phasesOf_99 rfl ki_0 ?_
                refine j_istore hJ (q := 102) (lvs' := [(4, .int (nI 0)), (6, .int (nI (58 + (4 * k)))), (0, .ref h), (1, .int (nI s)), (2, .int (nI set)), (3, .int (nI p)), (5, .int (nI k))]) dX9_phasesOf_100 (by decide) rfl rfl ?_
                refine j_iinc hJ (q := 105) (lvs' := [(5, .int (nI (k + 1))), (4, .int (nI 0)), (6, .int (nI (58 + (4 * k)))), (0, .ref h), (1, .int (nI s)), (2, .int (nI set)), (3, .int (nI p))]) dX9_phasesOf_102 6 rfl (by rw [show Int32.ofInt 1 = nI 1 from by decide +kernel]; exact nI_add _ _) (by decide) rfl rfl ?_
                refine j_goto hJ (q := 16) dX9_phasesOf_105 (by decide) ?_
                refine j_locals hJ [3, 4, 5, 6, 1, 0] rfl ?_
                exact ih_16 false (k + 1) (by omega) (by omega) (by simp only [okN]; rw [← htt]; simp_all)
              · skip
                refine j_aload_n hJ (q := 42) dX9_phasesOf_41 rfl 1 rfl rfl ?_
                refine j_get hJ (q := 45) jf_X9_7 dX9_phasesOf_42 0 rfl rfl rfl ?_
                refine j_iload hJ (q := 47) dX9_phasesOf_45 0 rfl rfl ?_
                refine j_ialdN hJ (q := 48) (z := nI (A (58 + (4 * k)))) dX9_phasesOf_47 1 rfl (by omega) (by decide) rfl rfl ?_
                have b6 := hb (58 + (4 * k))
                refine j_iload_n hJ (q := 49) dX9_phasesOf_48 rfl 2 rfl rfl ?_
                refine jn_icmp_ne hJ (q := 52) (tgt := 95) dX9_phasesOf_49 (by decide) rfl (by omega) (by omega) (fun c7 => ?_) (fun c7 => ?_)
                · skip
                  refine j_iconst hJ (q := 96) dX9_phasesOf_95 rfl ki_1 ?_
                  refine j_goto hJ (q := 100) dX9_phasesOf_96 (by decide) ?_
                  refine j_istore hJ (q := 102) (lvs' := [(4, .int (nI 1)), (6, .int (nI (58 + (4 * k)))), (0, .ref h), (1, .int (nI s)), (2, .int (nI set)), (3, .int (nI p)), (5, .int (nI k))]) dX9_phasesOf_100 (by decide) rfl rfl ?_
                  refine j_iinc hJ (q := 105) (lvs' := [(5, .int (nI (k + 1))), (4, .int (nI 1)), (6, .int (nI (58 + (4 * k)))), (0, .ref h), (1, .int (nI s)), (2, .int (nI set)), (3, .int (nI p))]) dX9_phasesOf_102 6 rfl (by rw [show Int32.ofInt 1 = nI 1 from by decide +kernel]; exact nI_add _ _) (by decide) rfl rfl ?_
                  refine j_goto hJ (q := 16) dX9_phasesOf_105 (by decide) ?_
                  refine j_locals hJ [3, 4, 5, 6, 1, 0] rfl ?_
                  exact ih_16 true (k + 1) (by omega) (by omega) (by simp only [okN]; rw [← htt]; simp_all)
                · skip
                  refine j_aload_n hJ (q := 53) dX9_phasesOf_52 rfl 1 rfl rfl ?_
                  refine j_get hJ (q := 56) jf_X9_7 dX9_phasesOf_53 0 rfl rfl rfl ?_
                  refine j_bipush hJ (q := 58) dX9_phasesOf_56 rfl kb_34 ?_
                  refine j_iload_n hJ (q := 59) dX9_phasesOf_58 rfl 2 rfl rfl ?_
                  refine j_iadd hJ (q := 60) dX9_phasesOf_59 rfl (nI_add _ _) ?_
                  refine j_ialdN hJ (q := 61) (z := nI (A (34 + s))) dX9_phasesOf_60 1 rfl (by omega) (by decide) rfl rfl ?_
                  have b8 := hb (34 + s)
                  refine j_iload_n hJ (q := 62) dX9_phasesOf_61 rfl 4 rfl rfl ?_
                  refine j_aload_n hJ (q := 63) dX9_phasesOf_62 rfl 1 rfl rfl ?_
                  refine j_get hJ (q := 66) jf_X9_7 dX9_phasesOf_63 0 rfl rfl rfl ?_
                  refine j_iload hJ (q := 68) dX9_phasesOf_66 0 rfl rfl ?_
                  refine j_iconst hJ (q := 69) dX9_phasesOf_68 rfl ki_1 ?_
                  refine j_iadd hJ (q := 70) dX9_phasesOf_69 rfl (nI_add _ _) ?_
                  refine j_ialdN hJ (q := 71) (z := nI (A (58 + (4 * k) + 1))) dX9_phasesOf_70 1 rfl (by omega) (by decide) rfl rfl ?_
                  have b9 := hb (58 + (4 * k) + 1)
                  refine j_aload_n hJ (q := 72) dX9_phasesOf_71 rfl 1 rfl rfl ?_
                  refine j_get hJ (q := 75) jf_X9_7 dX9_phasesOf_72 0 rfl rfl rfl ?_
                  refine j_iload hJ (q := 77) dX9_phasesOf_75 0 rfl rfl ?_
                  refine j_iconst hJ (q := 78) dX9_phasesOf_77 rfl ki_2 ?_
                  refine j_iadd hJ (q := 79) dX9_phasesOf_78 rfl (nI_add _ _) ?_
                  refine j_ialdN hJ (q := 80) (z := nI (A (58 + (4 * k) + 2))) dX9_phasesOf_79 1 rfl (by omega) (by decide) rfl rfl ?_
                  have b10 := hb (58 + (4 * k) + 2)
                  refine j_sR hJ (q := 83) (rest := []) (As := [.int (nI (A (34 + s))), .int (nI p), .int (nI (A (58 + (4 * k) + 1))), .int (nI (A (58 + (4 * k) + 2)))]) jl_X9_103 (c_X9_highAs Z (A (34 + s)) p (A (58 + (4 * k) + 1)) (A (58 + (4 * k) + 2)) (by omega) (by omega) (by omega) (hr k (by omega))) dX9_phasesOf_80 rfl (by decide) (Nat.le_of_ble_eq_true rfl) [] rfl rfl (fun rv hp => ?_)
                  obtain rfl := hp
                  show J 83 [(6, .int (nI (58 + (4 * k)))), (0, .ref h), (1, .int (nI s)), (2, .int (nI set)), (3, .int (nI p)), (4, .int (bI t)), (5, .int (nI k))] [.int (nI (hgh (A (34 + s)) p (A (58 + (4 * k) + 1)) (A (58 + (4 * k) + 2))))] [mO h q ab be bl ta tl tk va, (q 0, ia Z 266 (ni A))] 0 0
                  have hgl : hgh (A (34 + s)) p (A (58 + 4 * k + 1)) (A (58 + 4 * k + 2)) ≤ 10 := hgh_le (hr k (by omega))
                  refine j_aload_n hJ (q := 84) dX9_phasesOf_83 rfl 1 rfl rfl ?_
                  refine j_get hJ (q := 87) jf_X9_7 dX9_phasesOf_84 0 rfl rfl rfl ?_
                  refine j_iload hJ (q := 89) dX9_phasesOf_87 0 rfl rfl ?_
                  refine j_iconst hJ (q := 90) dX9_phasesOf_89 rfl ki_3 ?_
                  refine j_iadd hJ (q := 91) dX9_phasesOf_90 rfl (nI_add _ _) ?_
                  refine j_ialdN hJ (q := 92) (z := nI (A (58 + (4 * k) + 3))) dX9_phasesOf_91 1 rfl (by omega) (by decide) rfl rfl ?_
                  have b11 := hb (58 + (4 * k) + 3)
                  refine jn_icmp_ne hJ (q := 95) (tgt := 99) dX9_phasesOf_92 (by decide) rfl (by omega) (by omega) (fun c12 => ?_) (fun c12 => ?_)
                  · skip
                    refine j_iconst hJ (q := 100) dX9_phasesOf_99 rfl ki_0 ?_
                    refine j_istore hJ (q := 102) (lvs' := [(4, .int (nI 0)), (6, .int (nI (58 + (4 * k)))), (0, .ref h), (1, .int (nI s)), (2, .int (nI set)), (3, .int (nI p)), (5, .int (nI k))]) dX9_phasesOf_100 (by decide) rfl rfl ?_
                    refine j_iinc hJ (q := 105) (lvs' := [(5, .int (nI (k + 1))), (4, .int (nI 0)), (6, .int (nI (58 + (4 * k)))), (0, .ref h), (1, .int (nI s)), (2, .int (nI set)), (3, .int (nI p))]) dX9_phasesOf_102 6 rfl (by rw [show Int32.ofInt 1 = nI 1 from by decide +kernel]; exact nI_add _ _) (by decide) rfl rfl ?_
                    refine j_goto hJ (q := 16) dX9_phasesOf_105 (by decide) ?_
                    refine j_locals hJ [3, 4, 5, 6, 1, 0] rfl ?_
                    exact ih_16 false (k + 1) (by omega) (by omega) (by simp only [okN]; rw [← htt]; simp_all)
                  · skip
                    refine j_iconst hJ (q := 96) dX9_phasesOf_95 rfl ki_1 ?_
                    refine j_goto hJ (q := 100) dX9_phasesOf_96 (by decide) ?_
                    refine j_istore hJ (q := 102) (lvs' := [(4, .int (nI 1)), (6, .int (nI (58 + (4 * k)))), (0, .ref h), (1, .int (nI s)), (2, .int (nI set)), (3, .int (nI p)), (5, .int (nI k))]) dX9_phasesOf_100 (by decide) rfl rfl ?_
                    refine j_iinc hJ (q := 105) (lvs' := [(5, .int (nI (k + 1))), (4, .int (nI 1)), (6, .int (nI (58 + (4 * k)))), (0, .ref h), (1, .int (nI s)), (2, .int (nI set)), (3, .int (nI p))]) dX9_phasesOf_102 6 rfl (by rw [show Int32.ofInt 1 = nI 1 from by decide +kernel]; exact nI_add _ _) (by decide) rfl rfl ?_
                    refine j_goto hJ (q := 16) dX9_phasesOf_105 (by decide) ?_
                    refine j_locals hJ [3, 4, 5, 6, 1, 0] rfl ?_
                    exact ih_16 true (k + 1) (by omega) (by omega) (by simp only [okN]; rw [← htt]; simp_all)
        refine j_locals hJ [2, 3, 4, 5, 1, 0] rfl ?_
        exact L_16 ((A 1 - 0) + 1) true 0 (Nat.lt_succ_self _) (by omega) rfl
  refine j_locals hJ [2, 3, 1, 0] rfl ?_
  exact L_4 ((8 - 0) + 1) 0 0 (Nat.lt_succ_self _) (by omega) rfl

set_option maxHeartbeats 4000000 in
set_option maxRecDepth 100000 in
theorem c_X9_kindsBy (Z : jZ) (h : Nat) (q : Nat → Nat) (ab : Int) (be : Int) (bl : Nat) (ta : Nat) (tl : Nat) (tk : Nat) (va : Nat) (A : Nat → Nat) (u : Nat) (fr : Nat) (m : Nat) (isN : Bool) (hu : u < 100) (hb : ∀ j, A j < 100000) (hm : m ≤ 6) (hf : fr ≤ 108) (hr : ∀ k, k < m → (isN = true → A (fr + 5 * k + 3) ≤ 3) ∧ (isN = false → A (fr + 5 * k + 1) ≤ 9 ∧ A (fr + 5 * k + 2) ≤ 15)) : CR Z yX9_kindsBy cX9_kindsBy 11 ((some FieldType.int)) 2 [.ref h, .int (nI u), .int (nI fr), .int (nI m), .int (bI isN)] [mO h q ab be bl ta tl tk va, (q 0, ia Z 266 (ni A))] (fun rr => rr = some (.int (nI (kds A u fr m isN)))) := by
  refine CR.of RX9 rfl (by decide +kernel) (Nat.le_of_ble_eq_true rfl) ?_
  intro J hJ hE
  show J 0 [(0, .ref h), (1, .int (nI u)), (2, .int (nI fr)), (3, .int (nI m)), (4, .int (bI isN))] [] [mO h q ab be bl ta tl tk va, (q 0, ia Z 266 (ni A))] 0 0
  refine j_iconst hJ (q := 1) dX9_kindsBy_0 rfl ki_0 ?_
  refine j_istore hJ (q := 3) (lvs' := [(5, .int (nI 0)), (0, .ref h), (1, .int (nI u)), (2, .int (nI fr)), (3, .int (nI m)), (4, .int (bI isN))]) dX9_kindsBy_1 (by decide) rfl rfl ?_
  refine j_iconst hJ (q := 4) dX9_kindsBy_3 rfl ki_0 ?_
  refine j_istore hJ (q := 6) (lvs' := [(6, .int (nI 0)), (5, .int (nI 0)), (0, .ref h), (1, .int (nI u)), (2, .int (nI fr)), (3, .int (nI m)), (4, .int (bI isN))]) dX9_kindsBy_4 (by decide) rfl rfl ?_
  have L_6 : ∀ (fu_6 : Nat) (set : Nat) (kd : Nat), 6 - kd < fu_6 → (kd ≤ 6) → (set = orN (fun kd => kkN A u fr isN kd m) kd) → J 6 [(0, .ref h), (1, .int (nI u)), (2, .int (nI fr)), (3, .int (nI m)), (4, .int (bI isN)), (5, .int (nI set)), (6, .int (nI kd))] [] [mO h q ab be bl ta tl tk va, (q 0, ia Z 266 (ni A))] 0 0 := by
    intro fu_6
    induction fu_6 with
    | zero => intro set kd hm; exact absurd hm (Nat.not_lt_zero _)
    | succ fu_6 ih_6 =>
      intro set kd hm_6 hp hset
      have hsl := orN_lt8 (fun kd => kkN A u fr isN kd m) (Nat.le_trans hp (by decide))
      refine j_iload hJ (q := 8) dX9_kindsBy_6 6 rfl rfl ?_
      refine j_bipush hJ (q := 10) dX9_kindsBy_8 rfl kb_6 ?_
      refine jn_icmp_ge hJ (q := 13) (tgt := 174) dX9_kindsBy_10 (by decide) rfl (by omega) (by omega) (fun c1 => ?_) (fun c1 => ?_)
      · skip
        refine j_iload hJ (q := 176) dX9_kindsBy_174 5 rfl rfl ?_
        exact hE.1 _ _ _ _ _ _ _ rfl rfl dX9_kindsBy_176 (Nat.le_refl _) (Nat.le_refl _) (congrArg (fun z => some (Value.int (nI z))) (by rw [hset, show kd = 6 by omega]; rfl))
      · skip
        refine j_iconst hJ (q := 14) dX9_kindsBy_13 rfl ki_1 ?_
        refine j_istore hJ (q := 16) (lvs' := [(7, .int (nI 1)), (0, .ref h), (1, .int (nI u)), (2, .int (nI fr)), (3, .int (nI m)), (4, .int (bI isN)), (5, .int (nI set)), (6, .int (nI kd))]) dX9_kindsBy_14 (by decide) rfl rfl ?_
        refine j_iconst hJ (q := 17) dX9_kindsBy_16 rfl ki_0 ?_
        refine j_istore hJ (q := 19) (lvs' := [(8, .int (nI 0)), (7, .int (nI 1)), (0, .ref h), (1, .int (nI u)), (2, .int (nI fr)), (3, .int (nI m)), (4, .int (bI isN)), (5, .int (nI set)), (6, .int (nI kd))]) dX9_kindsBy_17 (by decide) rfl rfl ?_
        have L_19 : ∀ (fu_19 : Nat) (t : Bool) (k : Nat), m - k < fu_19 → (k ≤ m) → (t = kkN A u fr isN kd k) → J 19 [(0, .ref h), (1, .int (nI u)), (2, .int (nI fr)), (3, .int (nI m)), (4, .int (bI isN)), (5, .int (nI set)), (6, .int (nI kd)), (7, .int (bI t)), (8, .int (nI k))] [] [mO h q ab be bl ta tl tk va, (q 0, ia Z 266 (ni A))] 0 0 := by
          intro fu_19
          induction fu_19 with
          | zero => intro t k hm; exact absurd hm (Nat.not_lt_zero _)
          | succ fu_19 ih_19 =>
            intro t k hm_19 hk htt
            have hrk := hr k
            refine j_iload hJ (q := 21) dX9_kindsBy_19 8 rfl rfl ?_
            refine j_iload_n hJ (q := 22) dX9_kindsBy_21 rfl 3 rfl rfl ?_
            refine jn_icmp_ge hJ (q := 25) (tgt := 150) dX9_kindsBy_22 (by decide) rfl (by omega) (by omega) (fun c2 => ?_) (fun c2 => ?_)
            · skip
              have htt2 : t = kkN A u fr isN kd m := by rw [htt, show k = m by omega]
              refine j_iload hJ (q := 152) dX9_kindsBy_150 5 rfl rfl ?_
              refine j_iload hJ (q := 154) dX9_kindsBy_152 7 rfl rfl ?_
              refine jb_if_eq hJ (q := 157) (tgt := 164) dX9_kindsBy_154 (by decide) rfl (fun c3 => ?_) (fun c3 => ?_)
              · skip
                refine j_iconst hJ (q := 165) dX9_kindsBy_164 rfl ki_0 ?_
                refine j_ior hJ (q := 166) dX9_kindsBy_165 rfl (nI_or _ _) ?_
                refine j_istore hJ (q := 168) (lvs' := [(5, .int (nI (set ||| 0))), (0, .ref h), (1, .int (nI u)), (2, .int (nI fr)), (3, .int (nI m)), (4, .int (bI isN)), (6, .int (nI kd)), (7, .int (bI t)), (8, .int (nI k))]) dX9_kindsBy_166 (by decide) rfl rfl ?_
                refine j_iinc hJ (q := 171) (lvs' := [(6, .int (nI (kd + 1))), (5, .int (nI (set ||| 0))), (0, .ref h), (1, .int (nI u)), (2, .int (nI fr)), (3, .int (nI m)), (4, .int (bI isN)), (7, .int (bI t)), (8, .int (nI k))]) dX9_kindsBy_168 6 rfl (by rw [show Int32.ofInt 1 = nI 1 from by decide +kernel]; exact nI_add _ _) (by decide) rfl rfl ?_
                refine j_goto hJ (q := 6) dX9_kindsBy_171 (by decide) ?_
                refine j_locals hJ [2, 3, 4, 5, 6, 1, 0] rfl ?_
                exact ih_6 (set ||| 0) (kd + 1) (by omega) (by omega) (by simp only [orN]; rw [← hset]; simp_all)
              · skip
                refine j_iconst hJ (q := 158) dX9_kindsBy_157 rfl ki_1 ?_
                refine j_iload hJ (q := 160) dX9_kindsBy_158 6 rfl rfl ?_
                refine j_ishl hJ (q := 161) dX9_kindsBy_160 rfl (nI_shl (by omega) (by have := pow_le8 (p := kd) (by omega); omega)) ?_
                refine j_goto hJ (q := 165) dX9_kindsBy_161 (by decide) ?_
                refine j_ior hJ (q := 166) dX9_kindsBy_165 rfl (nI_or _ _) ?_
                refine j_istore hJ (q := 168) (lvs' := [(5, .int (nI (set ||| (1 * 2 ^ kd)))), (0, .ref h), (1, .int (nI u)), (2, .int (nI fr)), (3, .int (nI m)), (4, .int (bI isN)), (6, .int (nI kd)), (7, .int (bI t)), (8, .int (nI k))]) dX9_kindsBy_166 (by decide) rfl rfl ?_
                refine j_iinc hJ (q := 171) (lvs' := [(6, .int (nI (kd + 1))), (5, .int (nI (set ||| (1 * 2 ^ kd)))), (0, .ref h), (1, .int (nI u)), (2, .int (nI fr)), (3, .int (nI m)), (4, .int (bI isN)), (7, .int (bI t)), (8, .int (nI k))]) dX9_kindsBy_168 6 rfl (by rw [show Int32.ofInt 1 = nI 1 from by decide +kernel]; exact nI_add _ _) (by decide) rfl rfl ?_
                refine j_goto hJ (q := 6) dX9_kindsBy_171 (by decide) ?_
                refine j_locals hJ [2, 3, 4, 5, 6, 1, 0] rfl ?_
                exact ih_6 (set ||| (1 * 2 ^ kd)) (kd + 1) (by omega) (by omega) (by simp only [orN]; rw [← hset]; simp_all)
            · skip
              refine j_iload_n hJ (q := 26) dX9_kindsBy_25 rfl 2 rfl rfl ?_
              refine j_iconst hJ (q := 27) dX9_kindsBy_26 rfl ki_5 ?_
              refine j_iload hJ (q := 29) dX9_kindsBy_27 8 rfl rfl ?_
              refine j_imul hJ (q := 30) dX9_kindsBy_29 rfl (pk_mul _ _) ?_
              refine j_iadd hJ (q := 31) dX9_kindsBy_30 rfl (nI_add _ _) ?_
              refine j_istore hJ (q := 33) (lvs' := [(9, .int (nI (fr + (5 * k)))), (0, .ref h), (1, .int (nI u)), (2, .int (nI fr)), (3, .int (nI m)), (4, .int (bI isN)), (5, .int (nI set)), (6, .int (nI kd)), (7, .int (bI t)), (8, .int (nI k))]) dX9_kindsBy_31 (by decide) rfl rfl ?_
              refine j_iload hJ (q := 35) dX9_kindsBy_33 5 rfl rfl ?_
              refine jb_if_eq hJ (q := 38) (tgt := 73) dX9_kindsBy_35 (by decide) rfl (fun c4 => ?_) (fun c4 => ?_)
              · skip
                refine j_iload hJ (q := 75) dX9_kindsBy_73 7 rfl rfl ?_
                refine j_aload_n hJ (q := 76) dX9_kindsBy_75 rfl 1 rfl rfl ?_
                refine j_get hJ (q := 79) jf_X9_7 dX9_kindsBy_76 0 rfl rfl rfl ?_
                refine j_iload hJ (q := 81) dX9_kindsBy_79 0 rfl rfl ?_
                refine j_iconst hJ (q := 82) dX9_kindsBy_81 rfl ki_1 ?_
                refine j_iadd hJ (q := 83) dX9_kindsBy_82 rfl (nI_add _ _) ?_
                refine j_ialdN hJ (q := 84) (z := nI (A (fr + (5 * k) + 1))) dX9_kindsBy_83 1 rfl (by omega) (by decide) rfl rfl ?_
                have b5 := hb (fr + (5 * k) + 1)
                refine j_aload_n hJ (q := 85) dX9_kindsBy_84 rfl 1 rfl rfl ?_
                refine j_get hJ (q := 88) jf_X9_7 dX9_kindsBy_85 0 rfl rfl rfl ?_
                refine j_iload hJ (q := 90) dX9_kindsBy_88 0 rfl rfl ?_
                refine j_iconst hJ (q := 91) dX9_kindsBy_90 rfl ki_2 ?_
                refine j_iadd hJ (q := 92) dX9_kindsBy_91 rfl (nI_add _ _) ?_
                refine j_ialdN hJ (q := 93) (z := nI (A (fr + (5 * k) + 2))) dX9_kindsBy_92 1 rfl (by omega) (by decide) rfl rfl ?_
                have b6 := hb (fr + (5 * k) + 2)
                refine j_aload_n hJ (q := 94) dX9_kindsBy_93 rfl 1 rfl rfl ?_
                refine j_get hJ (q := 97) jf_X9_7 dX9_kindsBy_94 0 rfl rfl rfl ?_
                refine j_iload hJ (q := 99) dX9_kindsBy_97 0 rfl rfl ?_
                refine j_iconst hJ (q := 100) dX9_kindsBy_99 rfl ki_3 ?_
                refine j_iadd hJ (q := 101) dX9_kindsBy_100 rfl (nI_add _ _) ?_
                refine j_ialdN hJ (q := 102) (z := nI (A (fr + (5 * k) + 3))) dX9_kindsBy_101 1 rfl (by omega) (by decide) rfl rfl ?_
                have b7 := hb (fr + (5 * k) + 3)
                refine j_sR hJ (q := 105) (rest := []) (As := [.int (nI kd), .int (nI (A (fr + (5 * k) + 1))), .int (nI (A (fr + (5 * k) + 2))), .int (nI (A (fr + (5 * k) + 3)))]) jl_X9_110 (c_X9_reachAs Z kd (A (fr + (5 * k) + 1)) (A (fr + (5 * k) + 2)) (A (fr + (5 * k) + 3)) (by omega) (by have := (hrk (by omega)).2 (by assumption); omega) (by have := (hrk (by omega)).2 (by assumption); omega) (by omega)) dX9_kindsBy_102 rfl (by decide) (Nat.le_of_ble_eq_true rfl) [] rfl rfl (fun rv hp => ?_)
                obtain rfl := hp
                show J 105 [(9, .int (nI (fr + (5 * k)))), (0, .ref h), (1, .int (nI u)), (2, .int (nI fr)), (3, .int (nI m)), (4, .int (bI isN)), (5, .int (nI set)), (6, .int (nI kd)), (7, .int (bI t)), (8, .int (nI k))] [.int (nI (rch kd (A (fr + (5 * k) + 1)) (A (fr + (5 * k) + 2)) (A (fr + (5 * k) + 3))))] [mO h q ab be bl ta tl tk va, (q 0, ia Z 266 (ni A))] 0 0
                have hgl : rch kd (A (fr + 5 * k + 1)) (A (fr + 5 * k + 2)) (A (fr + 5 * k + 3)) ≤ 60 := by have := (hrk (by omega)).2 (by assumption); exact rch_le this.1 this.2
                refine j_istore hJ (q := 107) (lvs' := [(10, .int (nI (rch kd (A (fr + (5 * k) + 1)) (A (fr + (5 * k) + 2)) (A (fr + (5 * k) + 3))))), (9, .int (nI (fr + (5 * k)))), (0, .ref h), (1, .int (nI u)), (2, .int (nI fr)), (3, .int (nI m)), (4, .int (bI isN)), (5, .int (nI set)), (6, .int (nI kd)), (7, .int (bI t)), (8, .int (nI k))]) dX9_kindsBy_105 (by decide) rfl rfl ?_
                refine j_iload hJ (q := 109) dX9_kindsBy_107 9 rfl rfl ?_
                refine jb_if_eq hJ (q := 112) (tgt := 141) dX9_kindsBy_109 (by decide) rfl (fun c8 => ?_) (fun c8 => ?_)
                · skip
                  refine j_iconst hJ (q := 142) dX9_kindsBy_141 rfl ki_0 ?_
                  refine j_istore hJ (q := 144) (lvs' := [(7, .int (nI 0)), (10, .int (nI (rch kd (A (fr + (5 * k) + 1)) (A (fr + (5 * k) + 2)) (A (fr + (5 * k) + 3))))), (9, .int (nI (fr + (5 * k)))), (0, .ref h), (1, .int (nI u)), (2, .int (nI fr)), (3, .int (nI m)), (4, .int (bI isN)), (5, .int (nI set)), (6, .int (nI kd)), (8, .int (nI k))]) dX9_kindsBy_142 (by decide) rfl rfl ?_
                  refine j_iinc hJ (q := 147) (lvs' := [(8, .int (nI (k + 1))), (7, .int (nI 0)), (10, .int (nI (rch kd (A (fr + (5 * k) + 1)) (A (fr + (5 * k) + 2)) (A (fr + (5 * k) + 3))))), (9, .int (nI (fr + (5 * k)))), (0, .ref h), (1, .int (nI u)), (2, .int (nI fr)), (3, .int (nI m)), (4, .int (bI isN)), (5, .int (nI set)), (6, .int (nI kd))]) dX9_kindsBy_144 10 rfl (by rw [show Int32.ofInt 1 = nI 1 from by decide +kernel]; exact nI_add _ _) (by decide) rfl rfl ?_
                  refine j_goto hJ (q := 19) dX9_kindsBy_147 (by decide) ?_
                  refine j_locals hJ [4, 5, 6, 7, 8, 9, 10, 1, 0] rfl ?_
                  exact ih_19 false (k + 1) (by omega) (by omega) (by simp only [kkN]; rw [← htt]; simp_all [rowv])
                · skip
                  refine j_aload_n hJ (q := 113) dX9_kindsBy_112 rfl 2 rfl rfl ?_
                  refine j_get hJ (q := 116) jf_X9_7 dX9_kindsBy_113 0 rfl rfl rfl ?_
                  refine j_iload hJ (q := 118) dX9_kindsBy_116 1 rfl rfl ?_
                  refine j_ialdN hJ (q := 119) (z := nI (A (fr + (5 * k)))) dX9_kindsBy_118 1 rfl (by omega) (by decide) rfl rfl ?_
                  have b9 := hb (fr + (5 * k))
                  refine j_iload_n hJ (q := 120) dX9_kindsBy_119 rfl 3 rfl rfl ?_
                  refine jn_icmp_ne hJ (q := 123) (tgt := 137) dX9_kindsBy_120 (by decide) rfl (by omega) (by omega) (fun c10 => ?_) (fun c10 => ?_)
                  · skip
                    refine j_iconst hJ (q := 138) dX9_kindsBy_137 rfl ki_1 ?_
                    refine j_goto hJ (q := 142) dX9_kindsBy_138 (by decide) ?_
                    refine j_istore hJ (q := 144) (lvs' := [(7, .int (nI 1)), (10, .int (nI (rch kd (A (fr + (5 * k) + 1)) (A (fr + (5 * k) + 2)) (A (fr + (5 * k) + 3))))), (9, .int (nI (fr + (5 * k)))), (0, .ref h), (1, .int (nI u)), (2, .int (nI fr)), (3, .int (nI m)), (4, .int (bI isN)), (5, .int (nI set)), (6, .int (nI kd)), (8, .int (nI k))]) dX9_kindsBy_142 (by decide) rfl rfl ?_
                    refine j_iinc hJ (q := 147) (lvs' := [(8, .int (nI (k + 1))), (7, .int (nI 1)), (10, .int (nI (rch kd (A (fr + (5 * k) + 1)) (A (fr + (5 * k) + 2)) (A (fr + (5 * k) + 3))))), (9, .int (nI (fr + (5 * k)))), (0, .ref h), (1, .int (nI u)), (2, .int (nI fr)), (3, .int (nI m)), (4, .int (bI isN)), (5, .int (nI set)), (6, .int (nI kd))]) dX9_kindsBy_144 10 rfl (by rw [show Int32.ofInt 1 = nI 1 from by decide +kernel]; exact nI_add _ _) (by decide) rfl rfl ?_
                    refine j_goto hJ (q := 19) dX9_kindsBy_147 (by decide) ?_
                    refine j_locals hJ [4, 5, 6, 7, 8, 9, 10, 1, 0] rfl ?_
                    exact ih_19 true (k + 1) (by omega) (by omega) (by simp only [kkN]; rw [← htt]; simp_all [rowv])
                  · skip
                    refine j_iload hJ (q := 125) dX9_kindsBy_123 0 rfl rfl ?_
                    refine j_aload_n hJ (q := 126) dX9_kindsBy_125 rfl 2 rfl rfl ?_
                    refine j_get hJ (q := 129) jf_X9_7 dX9_kindsBy_126 0 rfl rfl rfl ?_
                    refine j_iload hJ (q := 131) dX9_kindsBy_129 1 rfl rfl ?_
                    refine j_iconst hJ (q := 132) dX9_kindsBy_131 rfl ki_4 ?_
                    refine j_iadd hJ (q := 133) dX9_kindsBy_132 rfl (nI_add _ _) ?_
                    refine j_ialdN hJ (q := 134) (z := nI (A (fr + (5 * k) + 4))) dX9_kindsBy_133 1 rfl (by omega) (by decide) rfl rfl ?_
                    have b11 := hb (fr + (5 * k) + 4)
                    refine jn_icmp_ne hJ (q := 137) (tgt := 141) dX9_kindsBy_134 (by decide) rfl (by omega) (by omega) (fun c12 => ?_) (fun c12 => ?_)
                    · skip
                      refine j_iconst hJ (q := 142) dX9_kindsBy_141 rfl ki_0 ?_
                      refine j_istore hJ (q := 144) (lvs' := [(7, .int (nI 0)), (10, .int (nI (rch kd (A (fr + (5 * k) + 1)) (A (fr + (5 * k) + 2)) (A (fr + (5 * k) + 3))))), (9, .int (nI (fr + (5 * k)))), (0, .ref h), (1, .int (nI u)), (2, .int (nI fr)), (3, .int (nI m)), (4, .int (bI isN)), (5, .int (nI set)), (6, .int (nI kd)), (8, .int (nI k))]) dX9_kindsBy_142 (by decide) rfl rfl ?_
                      refine j_iinc hJ (q := 147) (lvs' := [(8, .int (nI (k + 1))), (7, .int (nI 0)), (10, .int (nI (rch kd (A (fr + (5 * k) + 1)) (A (fr + (5 * k) + 2)) (A (fr + (5 * k) + 3))))), (9, .int (nI (fr + (5 * k)))), (0, .ref h), (1, .int (nI u)), (2, .int (nI fr)), (3, .int (nI m)), (4, .int (bI isN)), (5, .int (nI set)), (6, .int (nI kd))]) dX9_kindsBy_144 10 rfl (by rw [show Int32.ofInt 1 = nI 1 from by decide +kernel]; exact nI_add _ _) (by decide) rfl rfl ?_
                      refine j_goto hJ (q := 19) dX9_kindsBy_147 (by decide) ?_
                      refine j_locals hJ [4, 5, 6, 7, 8, 9, 10, 1, 0] rfl ?_
                      exact ih_19 false (k + 1) (by omega) (by omega) (by simp only [kkN]; rw [← htt]; simp_all [rowv])
                    · skip
                      refine j_iconst hJ (q := 138) dX9_kindsBy_137 rfl ki_1 ?_
                      refine j_goto hJ (q := 142) dX9_kindsBy_138 (by decide) ?_
                      refine j_istore hJ (q := 144) (lvs' := [(7, .int (nI 1)), (10, .int (nI (rch kd (A (fr + (5 * k) + 1)) (A (fr + (5 * k) + 2)) (A (fr + (5 * k) + 3))))), (9, .int (nI (fr + (5 * k)))), (0, .ref h), (1, .int (nI u)), (2, .int (nI fr)), (3, .int (nI m)), (4, .int (bI isN)), (5, .int (nI set)), (6, .int (nI kd)), (8, .int (nI k))]) dX9_kindsBy_142 (by decide) rfl rfl ?_
                      refine j_iinc hJ (q := 147) (lvs' := [(8, .int (nI (k + 1))), (7, .int (nI 1)), (10, .int (nI (rch kd (A (fr + (5 * k) + 1)) (A (fr + (5 * k) + 2)) (A (fr + (5 * k) + 3))))), (9, .int (nI (fr + (5 * k)))), (0, .ref h), (1, .int (nI u)), (2, .int (nI fr)), (3, .int (nI m)), (4, .int (bI isN)), (5, .int (nI set)), (6, .int (nI kd))]) dX9_kindsBy_144 10 rfl (by rw [show Int32.ofInt 1 = nI 1 from by decide +kernel]; exact nI_add _ _) (by decide) rfl rfl ?_
                      refine j_goto hJ (q := 19) dX9_kindsBy_147 (by decide) ?_
                      refine j_locals hJ [4, 5, 6, 7, 8, 9, 10, 1, 0] rfl ?_
                      exact ih_19 true (k + 1) (by omega) (by omega) (by simp only [kkN]; rw [← htt]; simp_all [rowv])
              · skip
                refine j_iload hJ (q := 40) dX9_kindsBy_38 7 rfl rfl ?_
                refine j_aload_n hJ (q := 41) dX9_kindsBy_40 rfl 1 rfl rfl ?_
                refine j_get hJ (q := 44) jf_X9_7 dX9_kindsBy_41 0 rfl rfl rfl ?_
                refine j_iload hJ (q := 46) dX9_kindsBy_44 0 rfl rfl ?_
                refine j_iconst hJ (q := 47) dX9_kindsBy_46 rfl ki_1 ?_
                refine j_iadd hJ (q := 48) dX9_kindsBy_47 rfl (nI_add _ _) ?_
                refine j_ialdN hJ (q := 49) (z := nI (A (fr + (5 * k) + 1))) dX9_kindsBy_48 1 rfl (by omega) (by decide) rfl rfl ?_
                have b13 := hb (fr + (5 * k) + 1)
                refine j_aload_n hJ (q := 50) dX9_kindsBy_49 rfl 1 rfl rfl ?_
                refine j_get hJ (q := 53) jf_X9_7 dX9_kindsBy_50 0 rfl rfl rfl ?_
                refine j_iload hJ (q := 55) dX9_kindsBy_53 0 rfl rfl ?_
                refine j_iconst hJ (q := 56) dX9_kindsBy_55 rfl ki_2 ?_
                refine j_iadd hJ (q := 57) dX9_kindsBy_56 rfl (nI_add _ _) ?_
                refine j_ialdN hJ (q := 58) (z := nI (A (fr + (5 * k) + 2))) dX9_kindsBy_57 1 rfl (by omega) (by decide) rfl rfl ?_
                have b14 := hb (fr + (5 * k) + 2)
                refine j_aload_n hJ (q := 59) dX9_kindsBy_58 rfl 1 rfl rfl ?_
                refine j_get hJ (q := 62) jf_X9_7 dX9_kindsBy_59 0 rfl rfl rfl ?_
                refine j_iload hJ (q := 64) dX9_kindsBy_62 0 rfl rfl ?_
                refine j_iconst hJ (q := 65) dX9_kindsBy_64 rfl ki_3 ?_
                refine j_iadd hJ (q := 66) dX9_kindsBy_65 rfl (nI_add _ _) ?_
                refine j_ialdN hJ (q := 67) (z := nI (A (fr + (5 * k) + 3))) dX9_kindsBy_66 1 rfl (by omega) (by decide) rfl rfl ?_
                have b15 := hb (fr + (5 * k) + 3)
                refine j_sR hJ (q := 70) (rest := []) (As := [.int (nI kd), .int (nI (A (fr + (5 * k) + 1))), .int (nI (A (fr + (5 * k) + 2))), .int (nI (A (fr + (5 * k) + 3)))]) jl_X9_103 (c_X9_highAs Z kd (A (fr + (5 * k) + 1)) (A (fr + (5 * k) + 2)) (A (fr + (5 * k) + 3)) (by omega) (by omega) (by omega) ((hrk (by omega)).1 (by assumption))) dX9_kindsBy_67 rfl (by decide) (Nat.le_of_ble_eq_true rfl) [] rfl rfl (fun rv hp => ?_)
                obtain rfl := hp
                show J 70 [(9, .int (nI (fr + (5 * k)))), (0, .ref h), (1, .int (nI u)), (2, .int (nI fr)), (3, .int (nI m)), (4, .int (bI isN)), (5, .int (nI set)), (6, .int (nI kd)), (7, .int (bI t)), (8, .int (nI k))] [.int (nI (hgh kd (A (fr + (5 * k) + 1)) (A (fr + (5 * k) + 2)) (A (fr + (5 * k) + 3))))] [mO h q ab be bl ta tl tk va, (q 0, ia Z 266 (ni A))] 0 0
                have hgl : hgh kd (A (fr + 5 * k + 1)) (A (fr + 5 * k + 2)) (A (fr + 5 * k + 3)) ≤ 10 := hgh_le ((hrk (by omega)).1 (by assumption))
                refine j_goto hJ (q := 105) dX9_kindsBy_70 (by decide) ?_
                refine j_istore hJ (q := 107) (lvs' := [(10, .int (nI (hgh kd (A (fr + (5 * k) + 1)) (A (fr + (5 * k) + 2)) (A (fr + (5 * k) + 3))))), (9, .int (nI (fr + (5 * k)))), (0, .ref h), (1, .int (nI u)), (2, .int (nI fr)), (3, .int (nI m)), (4, .int (bI isN)), (5, .int (nI set)), (6, .int (nI kd)), (7, .int (bI t)), (8, .int (nI k))]) dX9_kindsBy_105 (by decide) rfl rfl ?_
                refine j_iload hJ (q := 109) dX9_kindsBy_107 9 rfl rfl ?_
                refine jb_if_eq hJ (q := 112) (tgt := 141) dX9_kindsBy_109 (by decide) rfl (fun c16 => ?_) (fun c16 => ?_)
                · skip
                  refine j_iconst hJ (q := 142) dX9_kindsBy_141 rfl ki_0 ?_
                  refine j_istore hJ (q := 144) (lvs' := [(7, .int (nI 0)), (10, .int (nI (hgh kd (A (fr + (5 * k) + 1)) (A (fr + (5 * k) + 2)) (A (fr + (5 * k) + 3))))), (9, .int (nI (fr + (5 * k)))), (0, .ref h), (1, .int (nI u)), (2, .int (nI fr)), (3, .int (nI m)), (4, .int (bI isN)), (5, .int (nI set)), (6, .int (nI kd)), (8, .int (nI k))]) dX9_kindsBy_142 (by decide) rfl rfl ?_
                  refine j_iinc hJ (q := 147) (lvs' := [(8, .int (nI (k + 1))), (7, .int (nI 0)), (10, .int (nI (hgh kd (A (fr + (5 * k) + 1)) (A (fr + (5 * k) + 2)) (A (fr + (5 * k) + 3))))), (9, .int (nI (fr + (5 * k)))), (0, .ref h), (1, .int (nI u)), (2, .int (nI fr)), (3, .int (nI m)), (4, .int (bI isN)), (5, .int (nI set)), (6, .int (nI kd))]) dX9_kindsBy_144 10 rfl (by rw [show Int32.ofInt 1 = nI 1 from by decide +kernel]; exact nI_add _ _) (by decide) rfl rfl ?_
                  refine j_goto hJ (q := 19) dX9_kindsBy_147 (by decide) ?_
                  refine j_locals hJ [4, 5, 6, 7, 8, 9, 10, 1, 0] rfl ?_
                  exact ih_19 false (k + 1) (by omega) (by omega) (by simp only [kkN]; rw [← htt]; simp_all [rowv])
                · skip
                  refine j_aload_n hJ (q := 113) dX9_kindsBy_112 rfl 2 rfl rfl ?_
                  refine j_get hJ (q := 116) jf_X9_7 dX9_kindsBy_113 0 rfl rfl rfl ?_
                  refine j_iload hJ (q := 118) dX9_kindsBy_116 1 rfl rfl ?_
                  refine j_ialdN hJ (q := 119) (z := nI (A (fr + (5 * k)))) dX9_kindsBy_118 1 rfl (by omega) (by decide) rfl rfl ?_
                  have b17 := hb (fr + (5 * k))
                  refine j_iload_n hJ (q := 120) dX9_kindsBy_119 rfl 3 rfl rfl ?_
                  refine jn_icmp_ne hJ (q := 123) (tgt := 137) dX9_kindsBy_120 (by decide) rfl (by omega) (by omega) (fun c18 => ?_) (fun c18 => ?_)
                  · skip
                    refine j_iconst hJ (q := 138) dX9_kindsBy_137 rfl ki_1 ?_
                    refine j_goto hJ (q := 142) dX9_kindsBy_138 (by decide) ?_
                    refine j_istore hJ (q := 144) (lvs' := [(7, .int (nI 1)), (10, .int (nI (hgh kd (A (fr + (5 * k) + 1)) (A (fr + (5 * k) + 2)) (A (fr + (5 * k) + 3))))), (9, .int (nI (fr + (5 * k)))), (0, .ref h), (1, .int (nI u)), (2, .int (nI fr)), (3, .int (nI m)), (4, .int (bI isN)), (5, .int (nI set)), (6, .int (nI kd)), (8, .int (nI k))]) dX9_kindsBy_142 (by decide) rfl rfl ?_
                    refine j_iinc hJ (q := 147) (lvs' := [(8, .int (nI (k + 1))), (7, .int (nI 1)), (10, .int (nI (hgh kd (A (fr + (5 * k) + 1)) (A (fr + (5 * k) + 2)) (A (fr + (5 * k) + 3))))), (9, .int (nI (fr + (5 * k)))), (0, .ref h), (1, .int (nI u)), (2, .int (nI fr)), (3, .int (nI m)), (4, .int (bI isN)), (5, .int (nI set)), (6, .int (nI kd))]) dX9_kindsBy_144 10 rfl (by rw [show Int32.ofInt 1 = nI 1 from by decide +kernel]; exact nI_add _ _) (by decide) rfl rfl ?_
                    refine j_goto hJ (q := 19) dX9_kindsBy_147 (by decide) ?_
                    refine j_locals hJ [4, 5, 6, 7, 8, 9, 10, 1, 0] rfl ?_
                    exact ih_19 true (k + 1) (by omega) (by omega) (by simp only [kkN]; rw [← htt]; simp_all [rowv])
                  · skip
                    refine j_iload hJ (q := 125) dX9_kindsBy_123 0 rfl rfl ?_
                    refine j_aload_n hJ (q := 126) dX9_kindsBy_125 rfl 2 rfl rfl ?_
                    refine j_get hJ (q := 129) jf_X9_7 dX9_kindsBy_126 0 rfl rfl rfl ?_
                    refine j_iload hJ (q := 131) dX9_kindsBy_129 1 rfl rfl ?_
                    refine j_iconst hJ (q := 132) dX9_kindsBy_131 rfl ki_4 ?_
                    refine j_iadd hJ (q := 133) dX9_kindsBy_132 rfl (nI_add _ _) ?_
                    refine j_ialdN hJ (q := 134) (z := nI (A (fr + (5 * k) + 4))) dX9_kindsBy_133 1 rfl (by omega) (by decide) rfl rfl ?_
                    have b19 := hb (fr + (5 * k) + 4)
                    refine jn_icmp_ne hJ (q := 137) (tgt := 141) dX9_kindsBy_134 (by decide) rfl (by omega) (by omega) (fun c20 => ?_) (fun c20 => ?_)
                    · skip
                      refine j_iconst hJ (q := 142) dX9_kindsBy_141 rfl ki_0 ?_
                      refine j_istore hJ (q := 144) (lvs' := [(7, .int (nI 0)), (10, .int (nI (hgh kd (A (fr + (5 * k) + 1)) (A (fr + (5 * k) + 2)) (A (fr + (5 * k) + 3))))), (9, .int (nI (fr + (5 * k)))), (0, .ref h), (1, .int (nI u)), (2, .int (nI fr)), (3, .int (nI m)), (4, .int (bI isN)), (5, .int (nI set)), (6, .int (nI kd)), (8, .int (nI k))]) dX9_kindsBy_142 (by decide) rfl rfl ?_
                      refine j_iinc hJ (q := 147) (lvs' := [(8, .int (nI (k + 1))), (7, .int (nI 0)), (10, .int (nI (hgh kd (A (fr + (5 * k) + 1)) (A (fr + (5 * k) + 2)) (A (fr + (5 * k) + 3))))), (9, .int (nI (fr + (5 * k)))), (0, .ref h), (1, .int (nI u)), (2, .int (nI fr)), (3, .int (nI m)), (4, .int (bI isN)), (5, .int (nI set)), (6, .int (nI kd))]) dX9_kindsBy_144 10 rfl (by rw [show Int32.ofInt 1 = nI 1 from by decide +kernel]; exact nI_add _ _) (by decide) rfl rfl ?_
                      refine j_goto hJ (q := 19) dX9_kindsBy_147 (by decide) ?_
                      refine j_locals hJ [4, 5, 6, 7, 8, 9, 10, 1, 0] rfl ?_
                      exact ih_19 false (k + 1) (by omega) (by omega) (by simp only [kkN]; rw [← htt]; simp_all [rowv])
                    · skip
                      refine j_iconst hJ (q := 138) dX9_kindsBy_137 rfl ki_1 ?_
                      refine j_goto hJ (q := 142) dX9_kindsBy_138 (by decide) ?_
                      refine j_istore hJ (q := 144) (lvs' := [(7, .int (nI 1)), (10, .int (nI (hgh kd (A (fr + (5 * k) + 1)) (A (fr + (5 * k) + 2)) (A (fr + (5 * k) + 3))))), (9, .int (nI (fr + (5 * k)))), (0, .ref h), (1, .int (nI u)), (2, .int (nI fr)), (3, .int (nI m)), (4, .int (bI isN)), (5, .int (nI set)), (6, .int (nI kd)), (8, .int (nI k))]) dX9_kindsBy_142 (by decide) rfl rfl ?_
                      refine j_iinc hJ (q := 147) (lvs' := [(8, .int (nI (k + 1))), (7, .int (nI 1)), (10, .int (nI (hgh kd (A (fr + (5 * k) + 1)) (A (fr + (5 * k) + 2)) (A (fr + (5 * k) + 3))))), (9, .int (nI (fr + (5 * k)))), (0, .ref h), (1, .int (nI u)), (2, .int (nI fr)), (3, .int (nI m)), (4, .int (bI isN)), (5, .int (nI set)), (6, .int (nI kd))]) dX9_kindsBy_144 10 rfl (by rw [show Int32.ofInt 1 = nI 1 from by decide +kernel]; exact nI_add _ _) (by decide) rfl rfl ?_
                      refine j_goto hJ (q := 19) dX9_kindsBy_147 (by decide) ?_
                      refine j_locals hJ [4, 5, 6, 7, 8, 9, 10, 1, 0] rfl ?_
                      exact ih_19 true (k + 1) (by omega) (by omega) (by simp only [kkN]; rw [← htt]; simp_all [rowv])
        refine j_locals hJ [2, 3, 4, 5, 6, 7, 8, 1, 0] rfl ?_
        exact L_19 ((m - 0) + 1) true 0 (Nat.lt_succ_self _) (by omega) rfl
  refine j_locals hJ [2, 3, 4, 5, 6, 1, 0] rfl ?_
  exact L_6 ((6 - 0) + 1) 0 0 (Nat.lt_succ_self _) (by omega) rfl

set_option maxHeartbeats 4000000 in
set_option maxRecDepth 100000 in
theorem c_X9_kindsOfHorse (Z : jZ) (h : Nat) (q : Nat → Nat) (ab : Int) (be : Int) (bl : Nat) (ta : Nat) (tl : Nat) (tk : Nat) (va : Nat) (A : Nat → Nat) (s : Nat) (hu : s < 100) (hb : ∀ j, A j < 100000) (hm : A 2 ≤ 6) (hr : ∀ k, k < A 2 → A (78 + 5 * k + 3) ≤ 3) : CR Z yX9_kindsOfHorse cX9_kindsOfHorse 2 ((some FieldType.int)) 3 [.ref h, .int (nI s)] [mO h q ab be bl ta tl tk va, (q 0, ia Z 266 (ni A))] (fun rr => rr = some (.int (nI (kds A s 78 (A 2) true)))) := by
  refine CR.of RX9 rfl (by decide +kernel) (Nat.le_of_ble_eq_true rfl) ?_
  intro J hJ hE
  show J 0 [(0, .ref h), (1, .int (nI s))] [] [mO h q ab be bl ta tl tk va, (q 0, ia Z 266 (ni A))] 0 0
  refine j_aload_n hJ (q := 1) dX9_kindsOfHorse_0 rfl 0 rfl rfl ?_
  refine j_iload_n hJ (q := 2) dX9_kindsOfHorse_1 rfl 1 rfl rfl ?_
  refine j_bipush hJ (q := 4) dX9_kindsOfHorse_2 rfl kb_78 ?_
  refine j_aload_n hJ (q := 5) dX9_kindsOfHorse_4 rfl 0 rfl rfl ?_
  refine j_get hJ (q := 8) jf_X9_7 dX9_kindsOfHorse_5 0 rfl rfl rfl ?_
  refine j_iconst hJ (q := 9) dX9_kindsOfHorse_8 rfl ki_2 ?_
  refine j_ialdN hJ (q := 10) (z := nI (A 2)) dX9_kindsOfHorse_9 1 rfl (by decide) (by decide) rfl rfl ?_
  refine j_iconst hJ (q := 11) dX9_kindsOfHorse_10 rfl ki_1 ?_
  refine j_vR hJ (q := 14) (rest := []) (As := [.int (nI s), .int (nI 78), .int (nI (A 2)), .int (bI true)]) jl_X9_171 (c_X9_kindsBy Z h q ab be bl ta tl tk va A s 78 (A 2) true (by omega) hb (by omega) (by omega) (fun k hk => ⟨fun _ => hr k hk, fun h => (by cases h)⟩)) 0 rfl rfl dX9_kindsOfHorse_11 rfl (by decide) (Nat.le_of_ble_eq_true rfl) [0, 1] rfl rfl (fun rv hp => ?_)
  obtain rfl := hp
  show J 14 [(0, .ref h), (1, .int (nI s))] [.int (nI (kds A s 78 (A 2) true))] [mO h q ab be bl ta tl tk va, (q 0, ia Z 266 (ni A))] 0 0
  exact hE.1 _ _ _ _ _ _ _ rfl rfl dX9_kindsOfHorse_14 (Nat.le_refl _) (Nat.le_refl _) (congrArg (fun z => some (Value.int (nI z))) (by rfl))

set_option maxHeartbeats 4000000 in
set_option maxRecDepth 100000 in
theorem c_X9_kindsOfRider (Z : jZ) (h : Nat) (q : Nat → Nat) (ab : Int) (be : Int) (bl : Nat) (ta : Nat) (tl : Nat) (tk : Nat) (va : Nat) (A : Nat → Nat) (i : Nat) (hu : i < 100) (hb : ∀ j, A j < 100000) (hm : A 3 ≤ 6) (hr : ∀ k, k < A 3 → A (108 + 5 * k + 1) ≤ 9 ∧ A (108 + 5 * k + 2) ≤ 15) : CR Z yX9_kindsOfRider cX9_kindsOfRider 2 ((some FieldType.int)) 3 [.ref h, .int (nI i)] [mO h q ab be bl ta tl tk va, (q 0, ia Z 266 (ni A))] (fun rr => rr = some (.int (nI (kds A i 108 (A 3) false)))) := by
  refine CR.of RX9 rfl (by decide +kernel) (Nat.le_of_ble_eq_true rfl) ?_
  intro J hJ hE
  show J 0 [(0, .ref h), (1, .int (nI i))] [] [mO h q ab be bl ta tl tk va, (q 0, ia Z 266 (ni A))] 0 0
  refine j_aload_n hJ (q := 1) dX9_kindsOfRider_0 rfl 0 rfl rfl ?_
  refine j_iload_n hJ (q := 2) dX9_kindsOfRider_1 rfl 1 rfl rfl ?_
  refine j_bipush hJ (q := 4) dX9_kindsOfRider_2 rfl kb_108 ?_
  refine j_aload_n hJ (q := 5) dX9_kindsOfRider_4 rfl 0 rfl rfl ?_
  refine j_get hJ (q := 8) jf_X9_7 dX9_kindsOfRider_5 0 rfl rfl rfl ?_
  refine j_iconst hJ (q := 9) dX9_kindsOfRider_8 rfl ki_3 ?_
  refine j_ialdN hJ (q := 10) (z := nI (A 3)) dX9_kindsOfRider_9 1 rfl (by decide) (by decide) rfl rfl ?_
  refine j_iconst hJ (q := 11) dX9_kindsOfRider_10 rfl ki_0 ?_
  refine j_vR hJ (q := 14) (rest := []) (As := [.int (nI i), .int (nI 108), .int (nI (A 3)), .int (bI false)]) jl_X9_171 (c_X9_kindsBy Z h q ab be bl ta tl tk va A i 108 (A 3) false (by omega) hb (by omega) (by omega) (fun k hk => ⟨fun h => (by cases h), fun _ => hr k hk⟩)) 0 rfl rfl dX9_kindsOfRider_11 rfl (by decide) (Nat.le_of_ble_eq_true rfl) [0, 1] rfl rfl (fun rv hp => ?_)
  obtain rfl := hp
  show J 14 [(0, .ref h), (1, .int (nI i))] [.int (nI (kds A i 108 (A 3) false))] [mO h q ab be bl ta tl tk va, (q 0, ia Z 266 (ni A))] 0 0
  exact hE.1 _ _ _ _ _ _ _ rfl rfl dX9_kindsOfRider_14 (Nat.le_refl _) (Nat.le_refl _) (congrArg (fun z => some (Value.int (nI z))) (by rfl))

set_option maxHeartbeats 4000000 in
set_option maxRecDepth 100000 in
theorem c_X9_layFive (Z : jZ) (h : Nat) (q : Nat → Nat) (ab : Int) (be : Int) (bl : Nat) (ta : Nat) (tl : Nat) (tk : Nat) (va : Nat) (A : Nat → Nat) (t : Nat) (a : Nat) (b : Nat) (c : Nat) (d : Nat) (e : Nat) (ht : t < 200) : CT Z yX9_layFive cX9_layFive 7 (none) 1 0 0 [.ref h, .int (nI t), .int (nI a), .int (nI b), .int (nI c), .int (nI d), .int (nI e)] [mO h q ab be bl ta tl tk va, (q 0, ia Z 266 (ni A))] (fun rr ww => rr = none ∧ ww = [mO h q ab be bl ta tl tk va, (q 0, ia Z 266 (ni (lay5 A t a b c d e)))]) := by
  refine CT.of RX9 false rfl (fun h => by cases h) (by decide +kernel) (Nat.le_of_ble_eq_true rfl) ?_
  intro J hJ hE
  show J 0 [(0, .ref h), (1, .int (nI t)), (2, .int (nI a)), (3, .int (nI b)), (4, .int (nI c)), (5, .int (nI d)), (6, .int (nI e))] [] [mO h q ab be bl ta tl tk va, (q 0, ia Z 266 (ni A))] 0 0
  refine j_aload_n hJ (q := 1) dX9_layFive_0 rfl 0 rfl rfl ?_
  refine j_get hJ (q := 4) jf_X9_7 dX9_layFive_1 0 rfl rfl rfl ?_
  refine j_iload_n hJ (q := 5) dX9_layFive_4 rfl 1 rfl rfl ?_
  refine j_iload_n hJ (q := 6) dX9_layFive_5 rfl 2 rfl rfl ?_
  refine j_iastN hJ (q := 7) (ws' := [mO h q ab be bl ta tl tk va, (q 0, ia Z 266 (ni (va_up A t a)))]) dX9_layFive_6 1 rfl (by omega) (by decide) (ni_up _ _ _) rfl rfl ?_
  refine j_aload_n hJ (q := 8) dX9_layFive_7 rfl 0 rfl rfl ?_
  refine j_get hJ (q := 11) jf_X9_7 dX9_layFive_8 0 rfl rfl rfl ?_
  refine j_iload_n hJ (q := 12) dX9_layFive_11 rfl 1 rfl rfl ?_
  refine j_iconst hJ (q := 13) dX9_layFive_12 rfl ki_1 ?_
  refine j_iadd hJ (q := 14) dX9_layFive_13 rfl (nI_add _ _) ?_
  refine j_iload_n hJ (q := 15) dX9_layFive_14 rfl 3 rfl rfl ?_
  refine j_iastN hJ (q := 16) (ws' := [mO h q ab be bl ta tl tk va, (q 0, ia Z 266 (ni (va_up (va_up A t a) (t + 1) b)))]) dX9_layFive_15 1 rfl (by omega) (by decide) (ni_up _ _ _) rfl rfl ?_
  refine j_aload_n hJ (q := 17) dX9_layFive_16 rfl 0 rfl rfl ?_
  refine j_get hJ (q := 20) jf_X9_7 dX9_layFive_17 0 rfl rfl rfl ?_
  refine j_iload_n hJ (q := 21) dX9_layFive_20 rfl 1 rfl rfl ?_
  refine j_iconst hJ (q := 22) dX9_layFive_21 rfl ki_2 ?_
  refine j_iadd hJ (q := 23) dX9_layFive_22 rfl (nI_add _ _) ?_
  refine j_iload hJ (q := 25) dX9_layFive_23 4 rfl rfl ?_
  refine j_iastN hJ (q := 26) (ws' := [mO h q ab be bl ta tl tk va, (q 0, ia Z 266 (ni (va_up (va_up (va_up A t a) (t + 1) b) (t + 2) c)))]) dX9_layFive_25 1 rfl (by omega) (by decide) (ni_up _ _ _) rfl rfl ?_
  refine j_aload_n hJ (q := 27) dX9_layFive_26 rfl 0 rfl rfl ?_
  refine j_get hJ (q := 30) jf_X9_7 dX9_layFive_27 0 rfl rfl rfl ?_
  refine j_iload_n hJ (q := 31) dX9_layFive_30 rfl 1 rfl rfl ?_
  refine j_iconst hJ (q := 32) dX9_layFive_31 rfl ki_3 ?_
  refine j_iadd hJ (q := 33) dX9_layFive_32 rfl (nI_add _ _) ?_
  refine j_iload hJ (q := 35) dX9_layFive_33 5 rfl rfl ?_
  refine j_iastN hJ (q := 36) (ws' := [mO h q ab be bl ta tl tk va, (q 0, ia Z 266 (ni (va_up (va_up (va_up (va_up A t a) (t + 1) b) (t + 2) c) (t + 3) d)))]) dX9_layFive_35 1 rfl (by omega) (by decide) (ni_up _ _ _) rfl rfl ?_
  refine j_aload_n hJ (q := 37) dX9_layFive_36 rfl 0 rfl rfl ?_
  refine j_get hJ (q := 40) jf_X9_7 dX9_layFive_37 0 rfl rfl rfl ?_
  refine j_iload_n hJ (q := 41) dX9_layFive_40 rfl 1 rfl rfl ?_
  refine j_iconst hJ (q := 42) dX9_layFive_41 rfl ki_4 ?_
  refine j_iadd hJ (q := 43) dX9_layFive_42 rfl (nI_add _ _) ?_
  refine j_iload hJ (q := 45) dX9_layFive_43 6 rfl rfl ?_
  refine j_iastN hJ (q := 46) (ws' := [mO h q ab be bl ta tl tk va, (q 0, ia Z 266 (ni (va_up (va_up (va_up (va_up (va_up A t a) (t + 1) b) (t + 2) c) (t + 3) d) (t + 4) e)))]) dX9_layFive_45 1 rfl (by omega) (by decide) (ni_up _ _ _) rfl rfl ?_
  exact hE.2.2 _ _ _ _ _ rfl dX9_layFive_46 (Nat.le_refl _) (Nat.le_refl _) (⟨rfl, rfl⟩)

set_option maxHeartbeats 4000000 in
set_option maxRecDepth 100000 in
theorem c_X9_getsBy (Z : jZ) (h : Nat) (q : Nat → Nat) (ab : Int) (be : Int) (bl : Nat) (ta : Nat) (tl : Nat) (tk : Nat) (va : Nat) (Ts : Nat → Nat) (w : Nat) (o : Nat) (b : Nat) (hw : w ≤ 1) (ho : o < 1000) (hb2 : b ≤ 6) (hb : ∀ j, Ts j < 1000) : CR Z yX9_getsBy cX9_getsBy 4 ((some FieldType.int)) 1 [.ref h, .int (nI w), .int (nI o), .int (nI b)] [mO h q ab be bl ta tl tk va, (q 6, ia Z 8 (ni Ts))] (fun rr => rr = some (.int (zI (gts Ts w o b)))) := by
  refine CR.of RX9 rfl (by decide +kernel) (Nat.le_of_ble_eq_true rfl) ?_
  intro J hJ hE
  show J 0 [(0, .ref h), (1, .int (nI w)), (2, .int (nI o)), (3, .int (nI b))] [] [mO h q ab be bl ta tl tk va, (q 6, ia Z 8 (ni Ts))] 0 0
  refine j_iconst hJ (q := 1) dX9_getsBy_0 rfl ki_2 ?_
  refine j_aload_n hJ (q := 2) dX9_getsBy_1 rfl 0 rfl rfl ?_
  refine j_get hJ (q := 5) jf_X9_33 dX9_getsBy_2 0 rfl rfl rfl ?_
  refine j_iconst hJ (q := 6) dX9_getsBy_5 rfl ki_4 ?_
  refine j_iload_n hJ (q := 7) dX9_getsBy_6 rfl 1 rfl rfl ?_
  refine j_imul hJ (q := 8) dX9_getsBy_7 rfl (pk_mul _ _) ?_
  refine j_iload_n hJ (q := 9) dX9_getsBy_8 rfl 3 rfl rfl ?_
  refine j_iconst hJ (q := 10) dX9_getsBy_9 rfl ki_2 ?_
  refine j_idiv hJ (q := 11) dX9_getsBy_10 rfl (nI_ne0 (by omega) (by omega)) (pk_div (by omega) (by omega) (by omega)) ?_
  refine j_iadd hJ (q := 12) dX9_getsBy_11 rfl (nI_add _ _) ?_
  refine j_ialdN hJ (q := 13) (z := nI (Ts (4 * w + (b / 2)))) dX9_getsBy_12 1 rfl (by omega) (by decide) rfl rfl ?_
  have b1 := hb (4 * w + (b / 2))
  refine j_imul hJ (q := 14) dX9_getsBy_13 rfl (pk_mul _ _) ?_
  refine j_iload_n hJ (q := 15) dX9_getsBy_14 rfl 2 rfl rfl ?_
  refine j_isub hJ (q := 16) dX9_getsBy_15 rfl (zI_sub (zI_nat (2 * (Ts (4 * w + (b / 2))))).symm (zI_nat o).symm) ?_
  exact hE.1 _ _ _ _ _ _ _ rfl rfl dX9_getsBy_16 (Nat.le_refl _) (Nat.le_refl _) (congrArg (fun z => some (Value.int (zI z))) (by rfl))

set_option maxHeartbeats 4000000 in
set_option maxRecDepth 100000 in
theorem c_X9_rests (Z : jZ) (h : Nat) (q : Nat → Nat) (ab : Int) (be : Int) (bl : Nat) (ta : Nat) (tl : Nat) (tk : Nat) (va : Nat) (Ts : Nat → Nat) (i : Nat) (j : Nat) (hi : i ≤ 3) (hj : j ≤ 3) (hb : ∀ j, Ts j < 1000) : CR Z yX9_rests cX9_rests 5 ((some FieldType.boolean)) 2 [.ref h, .int (nI i), .int (nI j)] [mO h q ab be bl ta tl tk va, (q 6, ia Z 8 (ni Ts))] (fun rr => rr = some (.int (bI (rstN Ts i j 4)))) := by
  refine CR.of RX9 rfl (by decide +kernel) (Nat.le_of_ble_eq_true rfl) ?_
  intro J hJ hE
  show J 0 [(0, .ref h), (1, .int (nI i)), (2, .int (nI j))] [] [mO h q ab be bl ta tl tk va, (q 6, ia Z 8 (ni Ts))] 0 0
  refine j_iconst hJ (q := 1) dX9_rests_0 rfl ki_1 ?_
  refine j_istore_n hJ (q := 2) (lvs' := [(3, .int (nI 1)), (0, .ref h), (1, .int (nI i)), (2, .int (nI j))]) dX9_rests_1 rfl (by decide) rfl rfl ?_
  refine j_iconst hJ (q := 3) dX9_rests_2 rfl ki_0 ?_
  refine j_istore hJ (q := 5) (lvs' := [(4, .int (nI 0)), (3, .int (nI 1)), (0, .ref h), (1, .int (nI i)), (2, .int (nI j))]) dX9_rests_3 (by decide) rfl rfl ?_
  have L_5 : ∀ (fu_5 : Nat) (t : Bool) (k : Nat), 4 - k < fu_5 → (k ≤ 4) → (t = rstN Ts i j k) → J 5 [(0, .ref h), (1, .int (nI i)), (2, .int (nI j)), (3, .int (bI t)), (4, .int (nI k))] [] [mO h q ab be bl ta tl tk va, (q 6, ia Z 8 (ni Ts))] 0 0 := by
    intro fu_5
    induction fu_5 with
    | zero => intro t k hm; exact absurd hm (Nat.not_lt_zero _)
    | succ fu_5 ih_5 =>
      intro t k hm_5 hk htt
      have g1 := hb (4 * 0 + (k + j) / 2)
      have g2 := hb (4 * 0 + (i + j) / 2)
      have g3 := hb (4 * 1 + (i + k) / 2)
      have g4 := hb (4 * 1 + (i + j) / 2)
      have q1 : gts Ts 0 k (k + j) = ((2 * Ts (4 * 0 + (k + j) / 2) : Nat) : Int) - (k : Int) := rfl
      have q2 : gts Ts 0 i (i + j) = ((2 * Ts (4 * 0 + (i + j) / 2) : Nat) : Int) - (i : Int) := rfl
      have q3 : gts Ts 1 k (i + k) = ((2 * Ts (4 * 1 + (i + k) / 2) : Nat) : Int) - (k : Int) := rfl
      have q4 : gts Ts 1 j (i + j) = ((2 * Ts (4 * 1 + (i + j) / 2) : Nat) : Int) - (j : Int) := rfl
      refine j_iload hJ (q := 7) dX9_rests_5 4 rfl rfl ?_
      refine j_iconst hJ (q := 8) dX9_rests_7 rfl ki_4 ?_
      refine jn_icmp_ge hJ (q := 11) (tgt := 73) dX9_rests_8 (by decide) rfl (by omega) (by omega) (fun c1 => ?_) (fun c1 => ?_)
      · skip
        refine j_iload_n hJ (q := 74) dX9_rests_73 rfl 3 rfl rfl ?_
        exact hE.1 _ _ _ _ _ _ _ rfl (bI_nar _) dX9_rests_74 (Nat.le_refl _) (Nat.le_refl _) (congrArg (fun z => some (Value.int (bI z))) (show t = rstN Ts i j 4 by rw [htt, show k = 4 by omega]))
      · skip
        refine j_iload_n hJ (q := 12) dX9_rests_11 rfl 3 rfl rfl ?_
        refine jb_if_eq hJ (q := 15) (tgt := 65) dX9_rests_12 (by decide) rfl (fun c2 => ?_) (fun c2 => ?_)
        · skip
          refine j_iconst hJ (q := 66) dX9_rests_65 rfl ki_0 ?_
          refine j_istore_n hJ (q := 67) (lvs' := [(3, .int (nI 0)), (0, .ref h), (1, .int (nI i)), (2, .int (nI j)), (4, .int (nI k))]) dX9_rests_66 rfl (by decide) rfl rfl ?_
          refine j_iinc hJ (q := 70) (lvs' := [(4, .int (nI (k + 1))), (3, .int (nI 0)), (0, .ref h), (1, .int (nI i)), (2, .int (nI j))]) dX9_rests_67 4 rfl (by rw [show Int32.ofInt 1 = nI 1 from by decide +kernel]; exact nI_add _ _) (by decide) rfl rfl ?_
          refine j_goto hJ (q := 5) dX9_rests_70 (by decide) ?_
          refine j_locals hJ [2, 3, 4, 1, 0] rfl ?_
          exact ih_5 false (k + 1) (by omega) (by omega) (by simp only [rstN]; rw [← htt]; simp_all <;> omega)
        · skip
          refine j_aload_n hJ (q := 16) dX9_rests_15 rfl 0 rfl rfl ?_
          refine j_iconst hJ (q := 17) dX9_rests_16 rfl ki_0 ?_
          refine j_iload hJ (q := 19) dX9_rests_17 4 rfl rfl ?_
          refine j_iload hJ (q := 21) dX9_rests_19 4 rfl rfl ?_
          refine j_iload_n hJ (q := 22) dX9_rests_21 rfl 2 rfl rfl ?_
          refine j_iadd hJ (q := 23) dX9_rests_22 rfl (nI_add _ _) ?_
          refine j_vR hJ (q := 26) (rest := []) (As := [.int (nI 0), .int (nI k), .int (nI (k + j))]) jl_X9_181 (c_X9_getsBy Z h q ab be bl ta tl tk va Ts 0 k (k + j) (by omega) (by omega) (by omega) hb) 0 rfl rfl dX9_rests_23 rfl (by decide) (Nat.le_of_ble_eq_true rfl) [0, 1] rfl rfl (fun rv hp => ?_)
          obtain rfl := hp
          show J 26 [(0, .ref h), (1, .int (nI i)), (2, .int (nI j)), (3, .int (bI t)), (4, .int (nI k))] [.int (zI (gts Ts 0 k (k + j)))] [mO h q ab be bl ta tl tk va, (q 6, ia Z 8 (ni Ts))] 0 0
          refine j_aload_n hJ (q := 27) dX9_rests_26 rfl 0 rfl rfl ?_
          refine j_iconst hJ (q := 28) dX9_rests_27 rfl ki_0 ?_
          refine j_iload_n hJ (q := 29) dX9_rests_28 rfl 1 rfl rfl ?_
          refine j_iload_n hJ (q := 30) dX9_rests_29 rfl 1 rfl rfl ?_
          refine j_iload_n hJ (q := 31) dX9_rests_30 rfl 2 rfl rfl ?_
          refine j_iadd hJ (q := 32) dX9_rests_31 rfl (nI_add _ _) ?_
          refine j_vR hJ (q := 35) (rest := [.int (zI (gts Ts 0 k (k + j)))]) (As := [.int (nI 0), .int (nI i), .int (nI (i + j))]) jl_X9_181 (c_X9_getsBy Z h q ab be bl ta tl tk va Ts 0 i (i + j) (by omega) (by omega) (by omega) hb) 0 rfl rfl dX9_rests_32 rfl (by decide) (Nat.le_of_ble_eq_true rfl) [0, 1] rfl rfl (fun rv hp => ?_)
          obtain rfl := hp
          show J 35 [(0, .ref h), (1, .int (nI i)), (2, .int (nI j)), (3, .int (bI t)), (4, .int (nI k))] [.int (zI (gts Ts 0 i (i + j))), .int (zI (gts Ts 0 k (k + j)))] [mO h q ab be bl ta tl tk va, (q 6, ia Z 8 (ni Ts))] 0 0
          refine jz_icmp_gt hJ (q := 38) (tgt := 65) dX9_rests_35 (by decide) rfl rfl rfl (by omega) (by omega) (fun c3 => ?_) (fun c3 => ?_)
          · skip
            refine j_iconst hJ (q := 66) dX9_rests_65 rfl ki_0 ?_
            refine j_istore_n hJ (q := 67) (lvs' := [(3, .int (nI 0)), (0, .ref h), (1, .int (nI i)), (2, .int (nI j)), (4, .int (nI k))]) dX9_rests_66 rfl (by decide) rfl rfl ?_
            refine j_iinc hJ (q := 70) (lvs' := [(4, .int (nI (k + 1))), (3, .int (nI 0)), (0, .ref h), (1, .int (nI i)), (2, .int (nI j))]) dX9_rests_67 4 rfl (by rw [show Int32.ofInt 1 = nI 1 from by decide +kernel]; exact nI_add _ _) (by decide) rfl rfl ?_
            refine j_goto hJ (q := 5) dX9_rests_70 (by decide) ?_
            refine j_locals hJ [2, 3, 4, 1, 0] rfl ?_
            exact ih_5 false (k + 1) (by omega) (by omega) (by simp only [rstN]; rw [← htt]; simp_all <;> omega)
          · skip
            refine j_aload_n hJ (q := 39) dX9_rests_38 rfl 0 rfl rfl ?_
            refine j_iconst hJ (q := 40) dX9_rests_39 rfl ki_1 ?_
            refine j_iload hJ (q := 42) dX9_rests_40 4 rfl rfl ?_
            refine j_iload_n hJ (q := 43) dX9_rests_42 rfl 1 rfl rfl ?_
            refine j_iload hJ (q := 45) dX9_rests_43 4 rfl rfl ?_
            refine j_iadd hJ (q := 46) dX9_rests_45 rfl (nI_add _ _) ?_
            refine j_vR hJ (q := 49) (rest := []) (As := [.int (nI 1), .int (nI k), .int (nI (i + k))]) jl_X9_181 (c_X9_getsBy Z h q ab be bl ta tl tk va Ts 1 k (i + k) (by omega) (by omega) (by omega) hb) 0 rfl rfl dX9_rests_46 rfl (by decide) (Nat.le_of_ble_eq_true rfl) [0, 1] rfl rfl (fun rv hp => ?_)
            obtain rfl := hp
            show J 49 [(0, .ref h), (1, .int (nI i)), (2, .int (nI j)), (3, .int (bI t)), (4, .int (nI k))] [.int (zI (gts Ts 1 k (i + k)))] [mO h q ab be bl ta tl tk va, (q 6, ia Z 8 (ni Ts))] 0 0
            refine j_aload_n hJ (q := 50) dX9_rests_49 rfl 0 rfl rfl ?_
            refine j_iconst hJ (q := 51) dX9_rests_50 rfl ki_1 ?_
            refine j_iload_n hJ (q := 52) dX9_rests_51 rfl 2 rfl rfl ?_
            refine j_iload_n hJ (q := 53) dX9_rests_52 rfl 1 rfl rfl ?_
            refine j_iload_n hJ (q := 54) dX9_rests_53 rfl 2 rfl rfl ?_
            refine j_iadd hJ (q := 55) dX9_rests_54 rfl (nI_add _ _) ?_
            refine j_vR hJ (q := 58) (rest := [.int (zI (gts Ts 1 k (i + k)))]) (As := [.int (nI 1), .int (nI j), .int (nI (i + j))]) jl_X9_181 (c_X9_getsBy Z h q ab be bl ta tl tk va Ts 1 j (i + j) (by omega) (by omega) (by omega) hb) 0 rfl rfl dX9_rests_55 rfl (by decide) (Nat.le_of_ble_eq_true rfl) [0, 1] rfl rfl (fun rv hp => ?_)
            obtain rfl := hp
            show J 58 [(0, .ref h), (1, .int (nI i)), (2, .int (nI j)), (3, .int (bI t)), (4, .int (nI k))] [.int (zI (gts Ts 1 j (i + j))), .int (zI (gts Ts 1 k (i + k)))] [mO h q ab be bl ta tl tk va, (q 6, ia Z 8 (ni Ts))] 0 0
            refine jz_icmp_gt hJ (q := 61) (tgt := 65) dX9_rests_58 (by decide) rfl rfl rfl (by omega) (by omega) (fun c4 => ?_) (fun c4 => ?_)
            · skip
              refine j_iconst hJ (q := 66) dX9_rests_65 rfl ki_0 ?_
              refine j_istore_n hJ (q := 67) (lvs' := [(3, .int (nI 0)), (0, .ref h), (1, .int (nI i)), (2, .int (nI j)), (4, .int (nI k))]) dX9_rests_66 rfl (by decide) rfl rfl ?_
              refine j_iinc hJ (q := 70) (lvs' := [(4, .int (nI (k + 1))), (3, .int (nI 0)), (0, .ref h), (1, .int (nI i)), (2, .int (nI j))]) dX9_rests_67 4 rfl (by rw [show Int32.ofInt 1 = nI 1 from by decide +kernel]; exact nI_add _ _) (by decide) rfl rfl ?_
              refine j_goto hJ (q := 5) dX9_rests_70 (by decide) ?_
              refine j_locals hJ [2, 3, 4, 1, 0] rfl ?_
              exact ih_5 false (k + 1) (by omega) (by omega) (by simp only [rstN]; rw [← htt]; simp_all <;> omega)
            · skip
              refine j_iconst hJ (q := 62) dX9_rests_61 rfl ki_1 ?_
              refine j_goto hJ (q := 66) dX9_rests_62 (by decide) ?_
              refine j_istore_n hJ (q := 67) (lvs' := [(3, .int (nI 1)), (0, .ref h), (1, .int (nI i)), (2, .int (nI j)), (4, .int (nI k))]) dX9_rests_66 rfl (by decide) rfl rfl ?_
              refine j_iinc hJ (q := 70) (lvs' := [(4, .int (nI (k + 1))), (3, .int (nI 1)), (0, .ref h), (1, .int (nI i)), (2, .int (nI j))]) dX9_rests_67 4 rfl (by rw [show Int32.ofInt 1 = nI 1 from by decide +kernel]; exact nI_add _ _) (by decide) rfl rfl ?_
              refine j_goto hJ (q := 5) dX9_rests_70 (by decide) ?_
              refine j_locals hJ [2, 3, 4, 1, 0] rfl ?_
              exact ih_5 true (k + 1) (by omega) (by omega) (by simp only [rstN]; rw [← htt]; simp_all <;> omega)
  refine j_locals hJ [2, 3, 4, 1, 0] rfl ?_
  exact L_5 ((4 - 0) + 1) true 0 (Nat.lt_succ_self _) (by omega) rfl

set_option maxHeartbeats 4000000 in
set_option maxRecDepth 100000 in
theorem c_X9_counted (Z : jZ) (h : Nat) (q : Nat → Nat) (ab : Int) (be : Int) (bl : Nat) (ta : Nat) (tl : Nat) (tk : Nat) (va : Nat) (A : Nat → Nat) (w : Nat) (hw : w ≤ 11) (hb : ∀ j, A j < 100000) (h0 : A 0 ≤ 6) : CR Z yX9_counted cX9_counted 4 ((some FieldType.int)) 2 [.ref h, .int (nI w)] [mO h q ab be bl ta tl tk va, (q 0, ia Z 266 (ni A))] (fun rr => rr = some (.int (nI (cnt A bl w)))) := by
  refine CR.of RX9 rfl (by decide +kernel) (Nat.le_of_ble_eq_true rfl) ?_
  intro J hJ hE
  show J 0 [(0, .ref h), (1, .int (nI w))] [] [mO h q ab be bl ta tl tk va, (q 0, ia Z 266 (ni A))] 0 0
  refine j_iconst hJ (q := 1) dX9_counted_0 rfl ki_0 ?_
  refine j_istore_n hJ (q := 2) (lvs' := [(2, .int (nI 0)), (0, .ref h), (1, .int (nI w))]) dX9_counted_1 rfl (by decide) rfl rfl ?_
  refine j_iconst hJ (q := 3) dX9_counted_2 rfl ki_0 ?_
  refine j_istore_n hJ (q := 4) (lvs' := [(3, .int (nI 0)), (2, .int (nI 0)), (0, .ref h), (1, .int (nI w))]) dX9_counted_3 rfl (by decide) rfl rfl ?_
  have L_4 : ∀ (fu_4 : Nat) (s : Nat) (i : Nat), A 0 - i < fu_4 → (i ≤ A 0) → (s = sumR A i) → J 4 [(0, .ref h), (1, .int (nI w)), (2, .int (nI s)), (3, .int (nI i))] [] [mO h q ab be bl ta tl tk va, (q 0, ia Z 266 (ni A))] 0 0 := by
    intro fu_4
    induction fu_4 with
    | zero => intro s i hm; exact absurd hm (Nat.not_lt_zero _)
    | succ fu_4 ih_4 =>
      intro s i hm_4 hi hs
      refine j_iload_n hJ (q := 5) dX9_counted_4 rfl 3 rfl rfl ?_
      refine j_aload_n hJ (q := 6) dX9_counted_5 rfl 0 rfl rfl ?_
      refine j_vR hJ (q := 9) (rest := [.int (nI i)]) (As := []) jl_X9_49 (c_X9_many Z h q ab be bl ta tl tk va A ) 0 rfl rfl dX9_counted_6 rfl (by decide) (Nat.le_of_ble_eq_true rfl) [0, 1] rfl rfl (fun rv hp => ?_)
      obtain rfl := hp
      show J 9 [(0, .ref h), (1, .int (nI w)), (2, .int (nI s)), (3, .int (nI i))] [.int (nI (A 0)), .int (nI i)] [mO h q ab be bl ta tl tk va, (q 0, ia Z 266 (ni A))] 0 0
      refine jn_icmp_ge hJ (q := 12) (tgt := 30) dX9_counted_9 (by decide) rfl (by omega) (by omega) (fun c1 => ?_) (fun c1 => ?_)
      · skip
        refine j_iload_n hJ (q := 31) dX9_counted_30 rfl 1 rfl rfl ?_
        have c2 : w = 0 ∨ w = 1 ∨ w = 2 ∨ w = 3 ∨ w = 4 ∨ w = 5 ∨ w = 6 ∨ w = 7 ∨ w = 8 ∨ w = 9 ∨ w = 10 ∨ w = 11 := by omega
        rcases c2 with c2 | c2 | c2 | c2 | c2 | c2 | c2 | c2 | c2 | c2 | c2 | c2
        · skip
          refine jn_tableIn hJ (q := 92) (off := 61) (k := 0) c2 dX9_counted_31 (by decide) (by decide) (by decide) (by decide) ?_
          refine j_aload_n hJ (q := 93) dX9_counted_92 rfl 0 rfl rfl ?_
          refine j_get hJ (q := 96) jf_X9_7 dX9_counted_93 0 rfl rfl rfl ?_
          refine j_bipush hJ (q := 98) dX9_counted_96 rfl kb_21 ?_
          refine j_ialdN hJ (q := 99) (z := nI (A 21)) dX9_counted_98 1 rfl (by decide) (by decide) rfl rfl ?_
          have b3 := hb 21
          exact hE.1 _ _ _ _ _ _ _ rfl rfl dX9_counted_99 (Nat.le_refl _) (Nat.le_refl _) (congrArg (fun z => some (Value.int (nI z))) (by first | (simp only [cnt]; simp [*]; done) | (rw [hs, show i = A 0 by omega]; simp [cnt, *])))
        · skip
          refine jn_tableIn hJ (q := 100) (off := 69) (k := 1) c2 dX9_counted_31 (by decide) (by decide) (by decide) (by decide) ?_
          refine j_aload_n hJ (q := 101) dX9_counted_100 rfl 0 rfl rfl ?_
          refine j_vR hJ (q := 104) (rest := []) (As := []) jl_X9_49 (c_X9_many Z h q ab be bl ta tl tk va A ) 0 rfl rfl dX9_counted_101 rfl (by decide) (Nat.le_of_ble_eq_true rfl) [0, 1] rfl rfl (fun rv hp => ?_)
          obtain rfl := hp
          show J 104 [(0, .ref h), (1, .int (nI w)), (2, .int (nI s)), (3, .int (nI i))] [.int (nI (A 0))] [mO h q ab be bl ta tl tk va, (q 0, ia Z 266 (ni A))] 0 0
          exact hE.1 _ _ _ _ _ _ _ rfl rfl dX9_counted_104 (Nat.le_refl _) (Nat.le_refl _) (congrArg (fun z => some (Value.int (nI z))) (by first | (simp only [cnt]; simp [*]; done) | (rw [hs, show i = A 0 by omega]; simp [cnt, *])))
        · skip
          refine jn_tableIn hJ (q := 105) (off := 74) (k := 2) c2 dX9_counted_31 (by decide) (by decide) (by decide) (by decide) ?_
          refine j_aload_n hJ (q := 106) dX9_counted_105 rfl 0 rfl rfl ?_
          refine j_get hJ (q := 109) jf_X9_7 dX9_counted_106 0 rfl rfl rfl ?_
          refine j_iconst hJ (q := 110) dX9_counted_109 rfl ki_5 ?_
          refine j_ialdN hJ (q := 111) (z := nI (A 5)) dX9_counted_110 1 rfl (by decide) (by decide) rfl rfl ?_
          have b4 := hb 5
          exact hE.1 _ _ _ _ _ _ _ rfl rfl dX9_counted_111 (Nat.le_refl _) (Nat.le_refl _) (congrArg (fun z => some (Value.int (nI z))) (by first | (simp only [cnt]; simp [*]; done) | (rw [hs, show i = A 0 by omega]; simp [cnt, *])))
        · skip
          refine jn_tableIn hJ (q := 112) (off := 81) (k := 3) c2 dX9_counted_31 (by decide) (by decide) (by decide) (by decide) ?_
          refine j_aload_n hJ (q := 113) dX9_counted_112 rfl 0 rfl rfl ?_
          refine j_get hJ (q := 116) jf_X9_7 dX9_counted_113 0 rfl rfl rfl ?_
          refine j_bipush hJ (q := 118) dX9_counted_116 rfl kb_6 ?_
          refine j_ialdN hJ (q := 119) (z := nI (A 6)) dX9_counted_118 1 rfl (by decide) (by decide) rfl rfl ?_
          have b5 := hb 6
          exact hE.1 _ _ _ _ _ _ _ rfl rfl dX9_counted_119 (Nat.le_refl _) (Nat.le_refl _) (congrArg (fun z => some (Value.int (nI z))) (by first | (simp only [cnt]; simp [*]; done) | (rw [hs, show i = A 0 by omega]; simp [cnt, *])))
        · skip
          refine jn_tableIn hJ (q := 120) (off := 89) (k := 4) c2 dX9_counted_31 (by decide) (by decide) (by decide) (by decide) ?_
          refine j_aload_n hJ (q := 121) dX9_counted_120 rfl 0 rfl rfl ?_
          refine j_get hJ (q := 124) jf_X9_7 dX9_counted_121 0 rfl rfl rfl ?_
          refine j_bipush hJ (q := 126) dX9_counted_124 rfl kb_7 ?_
          refine j_ialdN hJ (q := 127) (z := nI (A 7)) dX9_counted_126 1 rfl (by decide) (by decide) rfl rfl ?_
          have b6 := hb 7
          exact hE.1 _ _ _ _ _ _ _ rfl rfl dX9_counted_127 (Nat.le_refl _) (Nat.le_refl _) (congrArg (fun z => some (Value.int (nI z))) (by first | (simp only [cnt]; simp [*]; done) | (rw [hs, show i = A 0 by omega]; simp [cnt, *])))
        · skip
          refine jn_tableIn hJ (q := 128) (off := 97) (k := 5) c2 dX9_counted_31 (by decide) (by decide) (by decide) (by decide) ?_
          refine j_aload_n hJ (q := 129) dX9_counted_128 rfl 0 rfl rfl ?_
          refine j_get hJ (q := 132) jf_X9_7 dX9_counted_129 0 rfl rfl rfl ?_
          refine j_bipush hJ (q := 134) dX9_counted_132 rfl kb_8 ?_
          refine j_ialdN hJ (q := 135) (z := nI (A 8)) dX9_counted_134 1 rfl (by decide) (by decide) rfl rfl ?_
          have b7 := hb 8
          exact hE.1 _ _ _ _ _ _ _ rfl rfl dX9_counted_135 (Nat.le_refl _) (Nat.le_refl _) (congrArg (fun z => some (Value.int (nI z))) (by first | (simp only [cnt]; simp [*]; done) | (rw [hs, show i = A 0 by omega]; simp [cnt, *])))
        · skip
          refine jn_tableIn hJ (q := 136) (off := 105) (k := 6) c2 dX9_counted_31 (by decide) (by decide) (by decide) (by decide) ?_
          refine j_iload_n hJ (q := 137) dX9_counted_136 rfl 2 rfl rfl ?_
          exact hE.1 _ _ _ _ _ _ _ rfl rfl dX9_counted_137 (Nat.le_refl _) (Nat.le_refl _) (congrArg (fun z => some (Value.int (nI z))) (by first | (simp only [cnt]; simp [*]; done) | (rw [hs, show i = A 0 by omega]; simp [cnt, *])))
        · skip
          refine jn_tableIn hJ (q := 143) (off := 112) (k := 7) c2 dX9_counted_31 (by decide) (by decide) (by decide) (by decide) ?_
          refine j_aload_n hJ (q := 144) dX9_counted_143 rfl 0 rfl rfl ?_
          refine j_get hJ (q := 147) jf_X9_7 dX9_counted_144 0 rfl rfl rfl ?_
          refine j_iconst hJ (q := 148) dX9_counted_147 rfl ki_1 ?_
          refine j_iload_n hJ (q := 149) dX9_counted_148 rfl 1 rfl rfl ?_
          refine j_iadd hJ (q := 150) dX9_counted_149 rfl (nI_add _ _) ?_
          refine j_bipush hJ (q := 152) dX9_counted_150 rfl kb_7 ?_
          refine j_isub hJ (q := 153) dX9_counted_152 rfl (pk_sub (by omega)) ?_
          refine j_ialdN hJ (q := 154) (z := nI (A (1 + w - 7))) dX9_counted_153 1 rfl (by omega) (by decide) rfl rfl ?_
          have b8 := hb (1 + w - 7)
          exact hE.1 _ _ _ _ _ _ _ rfl rfl dX9_counted_154 (Nat.le_refl _) (Nat.le_refl _) (congrArg (fun z => some (Value.int (nI z))) (by first | (simp only [cnt]; simp [*]; done) | (rw [hs, show i = A 0 by omega]; simp [cnt, *])))
        · skip
          refine jn_tableIn hJ (q := 143) (off := 112) (k := 8) c2 dX9_counted_31 (by decide) (by decide) (by decide) (by decide) ?_
          refine j_aload_n hJ (q := 144) dX9_counted_143 rfl 0 rfl rfl ?_
          refine j_get hJ (q := 147) jf_X9_7 dX9_counted_144 0 rfl rfl rfl ?_
          refine j_iconst hJ (q := 148) dX9_counted_147 rfl ki_1 ?_
          refine j_iload_n hJ (q := 149) dX9_counted_148 rfl 1 rfl rfl ?_
          refine j_iadd hJ (q := 150) dX9_counted_149 rfl (nI_add _ _) ?_
          refine j_bipush hJ (q := 152) dX9_counted_150 rfl kb_7 ?_
          refine j_isub hJ (q := 153) dX9_counted_152 rfl (pk_sub (by omega)) ?_
          refine j_ialdN hJ (q := 154) (z := nI (A (1 + w - 7))) dX9_counted_153 1 rfl (by omega) (by decide) rfl rfl ?_
          have b9 := hb (1 + w - 7)
          exact hE.1 _ _ _ _ _ _ _ rfl rfl dX9_counted_154 (Nat.le_refl _) (Nat.le_refl _) (congrArg (fun z => some (Value.int (nI z))) (by first | (simp only [cnt]; simp [*]; done) | (rw [hs, show i = A 0 by omega]; simp [cnt, *])))
        · skip
          refine jn_tableIn hJ (q := 143) (off := 112) (k := 9) c2 dX9_counted_31 (by decide) (by decide) (by decide) (by decide) ?_
          refine j_aload_n hJ (q := 144) dX9_counted_143 rfl 0 rfl rfl ?_
          refine j_get hJ (q := 147) jf_X9_7 dX9_counted_144 0 rfl rfl rfl ?_
          refine j_iconst hJ (q := 148) dX9_counted_147 rfl ki_1 ?_
          refine j_iload_n hJ (q := 149) dX9_counted_148 rfl 1 rfl rfl ?_
          refine j_iadd hJ (q := 150) dX9_counted_149 rfl (nI_add _ _) ?_
          refine j_bipush hJ (q := 152) dX9_counted_150 rfl kb_7 ?_
          refine j_isub hJ (q := 153) dX9_counted_152 rfl (pk_sub (by omega)) ?_
          refine j_ialdN hJ (q := 154) (z := nI (A (1 + w - 7))) dX9_counted_153 1 rfl (by omega) (by decide) rfl rfl ?_
          have b10 := hb (1 + w - 7)
          exact hE.1 _ _ _ _ _ _ _ rfl rfl dX9_counted_154 (Nat.le_refl _) (Nat.le_refl _) (congrArg (fun z => some (Value.int (nI z))) (by first | (simp only [cnt]; simp [*]; done) | (rw [hs, show i = A 0 by omega]; simp [cnt, *])))
        · skip
          refine jn_tableIn hJ (q := 143) (off := 112) (k := 10) c2 dX9_counted_31 (by decide) (by decide) (by decide) (by decide) ?_
          refine j_aload_n hJ (q := 144) dX9_counted_143 rfl 0 rfl rfl ?_
          refine j_get hJ (q := 147) jf_X9_7 dX9_counted_144 0 rfl rfl rfl ?_
          refine j_iconst hJ (q := 148) dX9_counted_147 rfl ki_1 ?_
          refine j_iload_n hJ (q := 149) dX9_counted_148 rfl 1 rfl rfl ?_
          refine j_iadd hJ (q := 150) dX9_counted_149 rfl (nI_add _ _) ?_
          refine j_bipush hJ (q := 152) dX9_counted_150 rfl kb_7 ?_
          refine j_isub hJ (q := 153) dX9_counted_152 rfl (pk_sub (by omega)) ?_
          refine j_ialdN hJ (q := 154) (z := nI (A (1 + w - 7))) dX9_counted_153 1 rfl (by omega) (by decide) rfl rfl ?_
          have b11 := hb (1 + w - 7)
          exact hE.1 _ _ _ _ _ _ _ rfl rfl dX9_counted_154 (Nat.le_refl _) (Nat.le_refl _) (congrArg (fun z => some (Value.int (nI z))) (by first | (simp only [cnt]; simp [*]; done) | (rw [hs, show i = A 0 by omega]; simp [cnt, *])))
        · skip
          refine jn_tableIn hJ (q := 138) (off := 107) (k := 11) c2 dX9_counted_31 (by decide) (by decide) (by decide) (by decide) ?_
          refine j_aload_n hJ (q := 139) dX9_counted_138 rfl 0 rfl rfl ?_
          refine j_get hJ (q := 142) jf_X9_208 dX9_counted_139 0 rfl rfl rfl ?_
          exact hE.1 _ _ _ _ _ _ _ rfl rfl dX9_counted_142 (Nat.le_refl _) (Nat.le_refl _) (congrArg (fun z => some (Value.int (nI z))) (by first | (simp only [cnt]; simp [*]; done) | (rw [hs, show i = A 0 by omega]; simp [cnt, *])))
      · skip
        refine j_iload_n hJ (q := 13) dX9_counted_12 rfl 2 rfl rfl ?_
        refine j_aload_n hJ (q := 14) dX9_counted_13 rfl 0 rfl rfl ?_
        refine j_get hJ (q := 17) jf_X9_7 dX9_counted_14 0 rfl rfl rfl ?_
        refine j_bipush hJ (q := 19) dX9_counted_17 rfl kb_9 ?_
        refine j_iload_n hJ (q := 20) dX9_counted_19 rfl 3 rfl rfl ?_
        refine j_iadd hJ (q := 21) dX9_counted_20 rfl (nI_add _ _) ?_
        refine j_ialdN hJ (q := 22) (z := nI (A (9 + i))) dX9_counted_21 1 rfl (by omega) (by decide) rfl rfl ?_
        have b12 := hb (9 + i)
        refine j_iadd hJ (q := 23) dX9_counted_22 rfl (nI_add _ _) ?_
        refine j_istore_n hJ (q := 24) (lvs' := [(2, .int (nI (s + (A (9 + i))))), (0, .ref h), (1, .int (nI w)), (3, .int (nI i))]) dX9_counted_23 rfl (by decide) rfl rfl ?_
        refine j_iinc hJ (q := 27) (lvs' := [(3, .int (nI (i + 1))), (2, .int (nI (s + (A (9 + i))))), (0, .ref h), (1, .int (nI w))]) dX9_counted_24 3 rfl (by rw [show Int32.ofInt 1 = nI 1 from by decide +kernel]; exact nI_add _ _) (by decide) rfl rfl ?_
        refine j_goto hJ (q := 4) dX9_counted_27 (by decide) ?_
        refine j_locals hJ [2, 3, 1, 0] rfl ?_
        exact ih_4 (s + (A (9 + i))) (i + 1) (by omega) (by omega) (by simp only [sumR]; omega)
  refine j_locals hJ [2, 3, 1, 0] rfl ?_
  exact L_4 ((A 0 - 0) + 1) 0 0 (Nat.lt_succ_self _) (by omega) rfl

set_option maxHeartbeats 4000000 in
set_option maxRecDepth 100000 in
theorem c_X9_sums (Z : jZ) (h : Nat) (q : Nat → Nat) (ab : Int) (be : Int) (bl : Nat) (ta : Nat) (tl : Nat) (tk : Nat) (va : Nat) (A : Nat → Nat) (h0 : Int) (fr : Nat) (m : Nat) (hb : ∀ j, A j < 100000) (hf : fr ≤ 108 ∧ m ≤ 30) : CR Z yX9_sums cX9_sums 8 ((some FieldType.long)) 1 [.ref h, .long (zL h0), .int (nI fr), .int (nI m)] [mO h q ab be bl ta tl tk va, (q 0, ia Z 266 (ni A))] (fun rr => rr = some (.long (zL (smN A fr h0 m)))) := by
  refine CR.of RX9 rfl (by decide +kernel) (Nat.le_of_ble_eq_true rfl) ?_
  intro J hJ hE
  show J 0 [(0, .ref h), (1, .long (zL h0)), (3, .int (nI fr)), (4, .int (nI m))] [] [mO h q ab be bl ta tl tk va, (q 0, ia Z 266 (ni A))] 0 0
  refine j_lload_n hJ (q := 1) dX9_sums_0 rfl 1 rfl rfl ?_
  refine j_lstore hJ (q := 3) (lvs' := [(5, .long (zL h0)), (0, .ref h), (1, .long (zL h0)), (3, .int (nI fr)), (4, .int (nI m))]) dX9_sums_1 (by decide) rfl rfl ?_
  refine j_iconst hJ (q := 4) dX9_sums_3 rfl ki_0 ?_
  refine j_istore hJ (q := 6) (lvs' := [(7, .int (nI 0)), (5, .long (zL h0)), (0, .ref h), (1, .long (zL h0)), (3, .int (nI fr)), (4, .int (nI m))]) dX9_sums_4 (by decide) rfl rfl ?_
  have L_6 : ∀ (fu_6 : Nat) (t : Int) (k : Nat), m - k < fu_6 → (k ≤ m) → (t = smN A fr h0 k) → J 6 [(0, .ref h), (1, .long (zL h0)), (3, .int (nI fr)), (4, .int (nI m)), (5, .long (zL t)), (7, .int (nI k))] [] [mO h q ab be bl ta tl tk va, (q 0, ia Z 266 (ni A))] 0 0 := by
    intro fu_6
    induction fu_6 with
    | zero => intro t k hm; exact absurd hm (Nat.not_lt_zero _)
    | succ fu_6 ih_6 =>
      intro t k hm_6 hk htt
      refine j_iload hJ (q := 8) dX9_sums_6 5 rfl rfl ?_
      refine j_iload hJ (q := 10) dX9_sums_8 3 rfl rfl ?_
      refine jn_icmp_ge hJ (q := 13) (tgt := 38) dX9_sums_10 (by decide) rfl (by omega) (by omega) (fun c1 => ?_) (fun c1 => ?_)
      · skip
        refine j_lload hJ (q := 40) dX9_sums_38 4 rfl rfl ?_
        exact hE.2.1 _ _ _ _ _ _ rfl dX9_sums_40 (Nat.le_refl _) (Nat.le_refl _) (congrArg (fun z => some (Value.long (zL z))) (by rw [htt, show k = m by omega]))
      · skip
        refine j_ldc2 hJ (q := 16) (v' := zL 31) dX9_sums_13 tm_1184 rfl rfl ?_
        refine j_lload hJ (q := 18) dX9_sums_16 4 rfl rfl ?_
        refine j_lmul hJ (q := 19) dX9_sums_18 rfl (zL_mul _ _) ?_
        refine j_aload_n hJ (q := 20) dX9_sums_19 rfl 0 rfl rfl ?_
        refine j_get hJ (q := 23) jf_X9_7 dX9_sums_20 0 rfl rfl rfl ?_
        refine j_iload_n hJ (q := 24) dX9_sums_23 rfl 2 rfl rfl ?_
        refine j_iload hJ (q := 26) dX9_sums_24 5 rfl rfl ?_
        refine j_iadd hJ (q := 27) dX9_sums_26 rfl (nI_add _ _) ?_
        refine j_ialdN hJ (q := 28) (z := nI (A (fr + k))) dX9_sums_27 1 rfl (by omega) (by decide) rfl rfl ?_
        have b2 := hb (fr + k)
        refine j_i2l hJ (q := 29) dX9_sums_28 rfl (zL_i _ (zI_nat (A (fr + k))).symm (by omega)) ?_
        refine j_ladd hJ (q := 30) dX9_sums_29 rfl (zL_add _ _) ?_
        refine j_lstore hJ (q := 32) (lvs' := [(5, .long (zL (31 * t + ((A (fr + k)) : Int)))), (0, .ref h), (1, .long (zL h0)), (3, .int (nI fr)), (4, .int (nI m)), (7, .int (nI k))]) dX9_sums_30 (by decide) rfl rfl ?_
        refine j_iinc hJ (q := 35) (lvs' := [(7, .int (nI (k + 1))), (5, .long (zL (31 * t + ((A (fr + k)) : Int)))), (0, .ref h), (1, .long (zL h0)), (3, .int (nI fr)), (4, .int (nI m))]) dX9_sums_32 5 rfl (by rw [show Int32.ofInt 1 = nI 1 from by decide +kernel]; exact nI_add _ _) (by decide) rfl rfl ?_
        refine j_goto hJ (q := 6) dX9_sums_35 (by decide) ?_
        refine j_locals hJ [2, 3, 4, 5, 1, 0] rfl ?_
        exact ih_6 (31 * t + ((A (fr + k)) : Int)) (k + 1) (by omega) (by omega) (by simp only [smN]; rw [htt])
  refine j_locals hJ [2, 3, 4, 5, 1, 0] rfl ?_
  exact L_6 ((m - 0) + 1) h0 0 (Nat.lt_succ_self _) (by omega) rfl

set_option maxHeartbeats 4000000 in
set_option maxRecDepth 100000 in
theorem c_X9_fraction (Z : jZ) (h : Nat) (q : Nat → Nat) (ab : Int) (be : Int) (bl : Nat) (ta : Nat) (tl : Nat) (tk : Nat) (va : Nat) (o : Int) (u : Int) (ho : 0 ≤ o ∧ o < 1000000000) (hu : 0 < u ∧ u < 1000000000) : CT Z yX9_fraction cX9_fraction 11 (none) 1 0 0 [.ref h, .long (zL o), .long (zL u)] [mO h q ab be bl ta tl tk va] (fun rr ww => rr = none ∧ ww = [mO h q (o / (Int.gcd o u : Int)) (u / (Int.gcd o u : Int)) bl ta tl tk va]) := by
  refine CT.of RX9 false rfl (fun h => by cases h) (by decide +kernel) (Nat.le_of_ble_eq_true rfl) ?_
  intro J hJ hE
  show J 0 [(0, .ref h), (1, .long (zL o)), (3, .long (zL u))] [] [mO h q ab be bl ta tl tk va] 0 0
  refine j_lload_n hJ (q := 1) dX9_fraction_0 rfl 1 rfl rfl ?_
  refine j_lstore hJ (q := 3) (lvs' := [(5, .long (zL o)), (0, .ref h), (1, .long (zL o)), (3, .long (zL u))]) dX9_fraction_1 (by decide) rfl rfl ?_
  refine j_lload_n hJ (q := 4) dX9_fraction_3 rfl 3 rfl rfl ?_
  refine j_lstore hJ (q := 6) (lvs' := [(7, .long (zL u)), (5, .long (zL o)), (0, .ref h), (1, .long (zL o)), (3, .long (zL u))]) dX9_fraction_4 (by decide) rfl rfl ?_
  have L_6 : ∀ (fu_6 : Nat) (a : Int) (b : Int), b.toNat < fu_6 → (0 ≤ a ∧ a < 1000000000) → (0 ≤ b ∧ b < 1000000000) → (Int.gcd a b = Int.gcd o u) → (0 < a ∨ 0 < b) → J 6 [(0, .ref h), (1, .long (zL o)), (3, .long (zL u)), (5, .long (zL a)), (7, .long (zL b))] [] [mO h q ab be bl ta tl tk va] 0 0 := by
    intro fu_6
    induction fu_6 with
    | zero => intro a b hm; exact absurd hm (Nat.not_lt_zero _)
    | succ fu_6 ih_6 =>
      intro a b hm_6 ha hb hg hp
      refine j_lload hJ (q := 8) dX9_fraction_6 4 rfl rfl ?_
      refine j_lconst hJ (q := 9) (v := zL 0) dX9_fraction_8 rfl rfl ?_
      refine j_lcmp hJ (q := 10) dX9_fraction_9 rfl (zI_cmp (by omega) (by omega)) ?_
      refine jc_if_eq hJ (q := 13) (tgt := 31) dX9_fraction_10 (by decide) rfl (fun (c1 : b = 0) => ?_) (fun (c1 : ¬ b = 0) => ?_)
      · skip
        have hb0 : b = 0 := by omega
        subst hb0
        have hga : (Int.gcd o u : Int) = a := by rw [← hg, Int.gcd_zero_right]; omega
        refine j_aload_n hJ (q := 32) dX9_fraction_31 rfl 0 rfl rfl ?_
        refine j_lload_n hJ (q := 33) dX9_fraction_32 rfl 1 rfl rfl ?_
        refine j_lload hJ (q := 35) dX9_fraction_33 3 rfl rfl ?_
        refine j_ldiv hJ (q := 36) dX9_fraction_35 rfl (zL_ne0 (by omega) (by omega)) (zL_div (by omega) (by omega) (by omega)) ?_
        refine j_put hJ (q := 39) (ws' := [mO h q (o / a) be bl ta tl tk va]) jp_X9_187 dX9_fraction_36 0 rfl rfl rfl (Nat.le_of_ble_eq_true rfl) rfl rfl ?_
        refine j_aload_n hJ (q := 40) dX9_fraction_39 rfl 0 rfl rfl ?_
        refine j_lload_n hJ (q := 41) dX9_fraction_40 rfl 2 rfl rfl ?_
        refine j_lload hJ (q := 43) dX9_fraction_41 3 rfl rfl ?_
        refine j_ldiv hJ (q := 44) dX9_fraction_43 rfl (zL_ne0 (by omega) (by omega)) (zL_div (by omega) (by omega) (by omega)) ?_
        refine j_put hJ (q := 47) (ws' := [mO h q (o / a) (u / a) bl ta tl tk va]) jp_X9_23 dX9_fraction_44 0 rfl rfl rfl (Nat.le_of_ble_eq_true rfl) rfl rfl ?_
        exact hE.2.2 _ _ _ _ _ rfl dX9_fraction_47 (Nat.le_refl _) (Nat.le_refl _) (⟨rfl, by rw [hga]⟩)
      · skip
        refine j_lload hJ (q := 15) dX9_fraction_13 3 rfl rfl ?_
        refine j_lload hJ (q := 17) dX9_fraction_15 4 rfl rfl ?_
        refine j_lrem hJ (q := 18) dX9_fraction_17 rfl (zL_ne0 (by omega) (by omega)) (zL_rem (by omega) (by omega) (by omega)) ?_
        refine j_lstore hJ (q := 20) (lvs' := [(9, .long (zL (a % b))), (0, .ref h), (1, .long (zL o)), (3, .long (zL u)), (5, .long (zL a)), (7, .long (zL b))]) dX9_fraction_18 (by decide) rfl rfl ?_
        refine j_lload hJ (q := 22) dX9_fraction_20 5 rfl rfl ?_
        refine j_lstore hJ (q := 24) (lvs' := [(5, .long (zL b)), (9, .long (zL (a % b))), (0, .ref h), (1, .long (zL o)), (3, .long (zL u)), (7, .long (zL b))]) dX9_fraction_22 (by decide) rfl rfl ?_
        refine j_lload hJ (q := 26) dX9_fraction_24 1 rfl rfl ?_
        refine j_lstore hJ (q := 28) (lvs' := [(7, .long (zL (a % b))), (5, .long (zL b)), (9, .long (zL (a % b))), (0, .ref h), (1, .long (zL o)), (3, .long (zL u))]) dX9_fraction_26 (by decide) rfl rfl ?_
        refine j_goto hJ (q := 6) dX9_fraction_28 (by decide) ?_
        refine j_locals hJ [3, 4, 5, 1, 0] rfl ?_
        exact ih_6 b (a % b) (by have h1 := Int.emod_nonneg a (show b ≠ 0 by omega); have h2 := Int.emod_lt_of_pos a (show 0 < b by omega); omega) (by omega) (by have h1 := Int.emod_nonneg a (show b ≠ 0 by omega); have h2 := Int.emod_lt_of_pos a (show 0 < b by omega); omega) (by rw [← hg]; exact gcd_step ha.1 hb.1) (by omega)
  refine j_locals hJ [2, 3, 4, 1, 0] rfl ?_
  exact L_6 (u.toNat + 1) o u (Nat.lt_succ_self _) (by omega) (by omega) rfl (by omega)
