set_option maxHeartbeats 4000000 in
set_option maxRecDepth 100000 in
theorem c_X4_looksLike (Z : jZ) (h : Nat) (q : Nat → Nat) (A : Nat → Nat) (K : Nat → Nat) (P : Nat → Nat) (kd : Nat → Nat) (am : Nat → Nat) (st : Nat → Nat) (rg : Nat → Nat) (h2 : Nat) (q2 : Nat → Nat) (B : Nat → Nat) (K2 : Nat → Nat) (P2 : Nat → Nat) (kd2 : Nat → Nat) (am2 : Nat → Nat) (st2 : Nat → Nat) (rg2 : Nat → Nat) (hw : wf A) (hR : rR A K P kd am st rg) (hw2 : wf B) (hR2 : rR B K2 P2 kd2 am2 st2 rg2) (h0 : A 0 = B 0) : CR Z yX4_looksLike cX4_looksLike 3 ((some FieldType.boolean)) 1 [.ref h, .ref h2] [cO h q (A 21) (A 5) (A 6) (A 7) (A 8) (A 0), (q 0, ia Z 12 (ni K)), (q 1, ia Z 12 (ni P)), (q 2, ia Z 6 (ni kd)), (q 3, ia Z 6 (ni am)), (q 4, ia Z 6 (ni st)), (q 5, ia Z 6 (ni rg)), cO h2 q2 (B 21) (B 5) (B 6) (B 7) (B 8) (B 0), (q2 0, ia Z 12 (ni K2)), (q2 1, ia Z 12 (ni P2)), (q2 2, ia Z 6 (ni kd2)), (q2 3, ia Z 6 (ni am2)), (q2 4, ia Z 6 (ni st2)), (q2 5, ia Z 6 (ni rg2))] (fun rr => rr = some (.int (bI (decide (A 5 = B 5 ∧ A 8 % 8 = B 8 % 8) && rgN B A (A 0))))) := by
  refine CR.of RX4 rfl (by decide +kernel) (Nat.le_of_ble_eq_true rfl) ?_
  intro J hJ hE
  show J 0 [(0, .ref h), (1, .ref h2)] [] [cO h q (A 21) (A 5) (A 6) (A 7) (A 8) (A 0), (q 0, ia Z 12 (ni K)), (q 1, ia Z 12 (ni P)), (q 2, ia Z 6 (ni kd)), (q 3, ia Z 6 (ni am)), (q 4, ia Z 6 (ni st)), (q 5, ia Z 6 (ni rg)), cO h2 q2 (B 21) (B 5) (B 6) (B 7) (B 8) (B 0), (q2 0, ia Z 12 (ni K2)), (q2 1, ia Z 12 (ni P2)), (q2 2, ia Z 6 (ni kd2)), (q2 3, ia Z 6 (ni am2)), (q2 4, ia Z 6 (ni st2)), (q2 5, ia Z 6 (ni rg2))] 0 0
  obtain ⟨⟨w1, w2, w3, w4, w5, w6⟩, hb, wr, wh, wd⟩ := id hw
  have hb2 := hw2.2.1
  have b8 := hb 8
  have c8 := hb2 8
  have b5 := hb 5
  have c5 := hb2 5
  refine j_aload_n hJ (q := 1) dX4_looksLike_0 rfl 0 rfl rfl ?_
  refine j_get hJ (q := 4) jf_X4_38 dX4_looksLike_1 0 rfl rfl rfl ?_
  refine j_aload_n hJ (q := 5) dX4_looksLike_4 rfl 1 rfl rfl ?_
  refine j_get hJ (q := 8) jf_X4_38 dX4_looksLike_5 7 rfl rfl rfl ?_
  refine jn_icmp_ne hJ (q := 11) (tgt := 28) dX4_looksLike_8 (by decide) rfl (by omega) (by omega) (fun c1 => ?_) (fun c1 => ?_)
  · skip
    refine j_iconst hJ (q := 29) dX4_looksLike_28 rfl ki_0 ?_
    exact hE.1 _ _ _ _ _ _ _ rfl rfl dX4_looksLike_29 (Nat.le_refl _) (Nat.le_refl _) (congrArg (fun z => some (Value.int (bI z))) (show false = (decide (A 5 = B 5 ∧ A 8 % 8 = B 8 % 8) && rgN B A (A 0)) by rw [decide_eq_false (by omega)]; rfl))
  · skip
    refine j_aload_n hJ (q := 12) dX4_looksLike_11 rfl 0 rfl rfl ?_
    refine j_get hJ (q := 15) jf_X4_47 dX4_looksLike_12 0 rfl rfl rfl ?_
    refine j_bipush hJ (q := 17) dX4_looksLike_15 rfl kb_8 ?_
    refine j_irem hJ (q := 18) dX4_looksLike_17 rfl (nI_ne0 (by omega) (by omega)) (pk_rem (by omega) (by omega) (by omega)) ?_
    refine j_aload_n hJ (q := 19) dX4_looksLike_18 rfl 1 rfl rfl ?_
    refine j_get hJ (q := 22) jf_X4_47 dX4_looksLike_19 7 rfl rfl rfl ?_
    refine j_bipush hJ (q := 24) dX4_looksLike_22 rfl kb_8 ?_
    refine j_irem hJ (q := 25) dX4_looksLike_24 rfl (nI_ne0 (by omega) (by omega)) (pk_rem (by omega) (by omega) (by omega)) ?_
    refine jn_icmp_eq hJ (q := 28) (tgt := 30) dX4_looksLike_25 (by decide) rfl (by omega) (by omega) (fun c2 => ?_) (fun c2 => ?_)
    · skip
      refine j_iconst hJ (q := 31) dX4_looksLike_30 rfl ki_0 ?_
      refine j_istore_n hJ (q := 32) (lvs' := [(2, .int (nI 0)), (0, .ref h), (1, .ref h2)]) dX4_looksLike_31 rfl (by decide) rfl rfl ?_
      have L_32 : ∀ (fu_32 : Nat) (i : Nat), A 0 - i < fu_32 → (i ≤ A 0) → (∀ j, j < i → A (9 + j) = B (9 + j)) → J 32 [(0, .ref h), (1, .ref h2), (2, .int (nI i))] [] [cO h q (A 21) (A 5) (A 6) (A 7) (A 8) (A 0), (q 0, ia Z 12 (ni K)), (q 1, ia Z 12 (ni P)), (q 2, ia Z 6 (ni kd)), (q 3, ia Z 6 (ni am)), (q 4, ia Z 6 (ni st)), (q 5, ia Z 6 (ni rg)), cO h2 q2 (B 21) (B 5) (B 6) (B 7) (B 8) (B 0), (q2 0, ia Z 12 (ni K2)), (q2 1, ia Z 12 (ni P2)), (q2 2, ia Z 6 (ni kd2)), (q2 3, ia Z 6 (ni am2)), (q2 4, ia Z 6 (ni st2)), (q2 5, ia Z 6 (ni rg2))] 0 0 := by
        intro fu_32
        induction fu_32 with
        | zero => intro i hm; exact absurd hm (Nat.not_lt_zero _)
        | succ fu_32 ih_32 =>
          intro i hm_32 hi hn
          refine j_iload_n hJ (q := 33) dX4_looksLike_32 rfl 2 rfl rfl ?_
          refine j_aload_n hJ (q := 34) dX4_looksLike_33 rfl 0 rfl rfl ?_
          refine j_get hJ (q := 37) jf_X4_50 dX4_looksLike_34 0 rfl rfl rfl ?_
          refine jn_icmp_ge hJ (q := 40) (tgt := 63) dX4_looksLike_37 (by decide) rfl (by omega) (by omega) (fun c3 => ?_) (fun c3 => ?_)
          · skip
            refine j_iconst hJ (q := 64) dX4_looksLike_63 rfl ki_1 ?_
            exact hE.1 _ _ _ _ _ _ _ rfl rfl dX4_looksLike_64 (Nat.le_refl _) (Nat.le_refl _) (congrArg (fun z => some (Value.int (bI z))) (show true = (decide (A 5 = B 5 ∧ A 8 % 8 = B 8 % 8) && rgN B A (A 0)) by rw [rgN_t (A 0) (fun j hj => hn j (by omega)), decide_eq_true (by omega)]; rfl))
          · skip
            refine j_aload_n hJ (q := 41) dX4_looksLike_40 rfl 0 rfl rfl ?_
            refine j_get hJ (q := 44) jf_X4_27 dX4_looksLike_41 0 rfl rfl rfl ?_
            refine j_iload_n hJ (q := 45) dX4_looksLike_44 rfl 2 rfl rfl ?_
            refine j_ialdN hJ (q := 46) (z := nI (rg i)) dX4_looksLike_45 6 rfl (by omega) (by decide) rfl rfl ?_
            refine j_top (congrArg nI (rR_r hR (i := i) (by omega))) ?_
            have b4 := hb (9 + i)
            refine j_aload_n hJ (q := 47) dX4_looksLike_46 rfl 1 rfl rfl ?_
            refine j_get hJ (q := 50) jf_X4_27 dX4_looksLike_47 7 rfl rfl rfl ?_
            refine j_iload_n hJ (q := 51) dX4_looksLike_50 rfl 2 rfl rfl ?_
            refine j_ialdN hJ (q := 52) (z := nI (rg2 i)) dX4_looksLike_51 13 rfl (by omega) (by decide) rfl rfl ?_
            refine j_top (congrArg nI (rR_r hR2 (i := i) (by omega))) ?_
            have b5 := hb2 (9 + i)
            refine jn_icmp_eq hJ (q := 55) (tgt := 57) dX4_looksLike_52 (by decide) rfl (by omega) (by omega) (fun c6 => ?_) (fun c6 => ?_)
            · skip
              refine j_iinc hJ (q := 60) (lvs' := [(2, .int (nI (i + 1))), (0, .ref h), (1, .ref h2)]) dX4_looksLike_57 2 rfl (by rw [show Int32.ofInt 1 = nI 1 from by decide +kernel]; exact nI_add _ _) (by decide) rfl rfl ?_
              refine j_goto hJ (q := 32) dX4_looksLike_60 (by decide) ?_
              refine j_locals hJ [1, 2, 0] rfl ?_
              exact ih_32 (i + 1) (by omega) (by omega) (fun j hj => (Nat.lt_or_ge j i).elim (hn j) (fun h2 => by rw [show j = i by omega]; assumption))
            · skip
              refine j_iconst hJ (q := 56) dX4_looksLike_55 rfl ki_0 ?_
              exact hE.1 _ _ _ _ _ _ _ rfl rfl dX4_looksLike_56 (Nat.le_refl _) (Nat.le_refl _) (congrArg (fun z => some (Value.int (bI z))) (show false = (decide (A 5 = B 5 ∧ A 8 % 8 = B 8 % 8) && rgN B A (A 0)) by rw [rgN_f (i := i) (by assumption) (A 0) (by omega), Bool.and_false]))
      refine j_locals hJ [1, 2, 0] rfl ?_
      exact L_32 ((A 0 - 0) + 1) 0 (Nat.lt_succ_self _) (by omega) (fun j hj => absurd hj (Nat.not_lt_zero _))
    · skip
      refine j_iconst hJ (q := 29) dX4_looksLike_28 rfl ki_0 ?_
      exact hE.1 _ _ _ _ _ _ _ rfl rfl dX4_looksLike_29 (Nat.le_refl _) (Nat.le_refl _) (congrArg (fun z => some (Value.int (bI z))) (show false = (decide (A 5 = B 5 ∧ A 8 % 8 = B 8 % 8) && rgN B A (A 0)) by rw [decide_eq_false (by omega)]; rfl))

set_option maxHeartbeats 4000000 in
set_option maxRecDepth 100000 in
theorem c_X4_putHorse (Z : jZ) (h : Nat) (q : Nat → Nat) (A : Nat → Nat) (K : Nat → Nat) (P : Nat → Nat) (kd : Nat → Nat) (am : Nat → Nat) (st : Nat → Nat) (rg : Nat → Nat) (s : Nat) (k : Nat) (p : Nat) (h1 : s < 12) : CT Z yX4_putHorse cX4_putHorse 4 (none) 1 0 0 [.ref h, .int (nI s), .int (nI k), .int (nI p)] [cO h q (A 21) (A 5) (A 6) (A 7) (A 8) (A 0), (q 0, ia Z 12 (ni K)), (q 1, ia Z 12 (ni P)), (q 2, ia Z 6 (ni kd)), (q 3, ia Z 6 (ni am)), (q 4, ia Z 6 (ni st)), (q 5, ia Z 6 (ni rg))] (fun rr ww => rr = none ∧ ww = [cO h q (A 21) (A 5) (A 6) (A 7) (A 8) (A 0), (q 0, ia Z 12 (ni (va_up K s k))), (q 1, ia Z 12 (ni (va_up P s p))), (q 2, ia Z 6 (ni kd)), (q 3, ia Z 6 (ni am)), (q 4, ia Z 6 (ni st)), (q 5, ia Z 6 (ni rg))]) := by
  refine CT.of RX4 false rfl (fun h => by cases h) (by decide +kernel) (Nat.le_of_ble_eq_true rfl) ?_
  intro J hJ hE
  show J 0 [(0, .ref h), (1, .int (nI s)), (2, .int (nI k)), (3, .int (nI p))] [] [cO h q (A 21) (A 5) (A 6) (A 7) (A 8) (A 0), (q 0, ia Z 12 (ni K)), (q 1, ia Z 12 (ni P)), (q 2, ia Z 6 (ni kd)), (q 3, ia Z 6 (ni am)), (q 4, ia Z 6 (ni st)), (q 5, ia Z 6 (ni rg))] 0 0
  refine j_aload_n hJ (q := 1) dX4_putHorse_0 rfl 0 rfl rfl ?_
  refine j_get hJ (q := 4) jf_X4_9 dX4_putHorse_1 0 rfl rfl rfl ?_
  refine j_iload_n hJ (q := 5) dX4_putHorse_4 rfl 1 rfl rfl ?_
  refine j_iload_n hJ (q := 6) dX4_putHorse_5 rfl 2 rfl rfl ?_
  refine j_iastN hJ (q := 7) (ws' := [cO h q (A 21) (A 5) (A 6) (A 7) (A 8) (A 0), (q 0, ia Z 12 (ni (va_up K s k))), (q 1, ia Z 12 (ni P)), (q 2, ia Z 6 (ni kd)), (q 3, ia Z 6 (ni am)), (q 4, ia Z 6 (ni st)), (q 5, ia Z 6 (ni rg))]) dX4_putHorse_6 1 rfl (by omega) (by decide) (ni_up _ _ _) rfl rfl ?_
  refine j_aload_n hJ (q := 8) dX4_putHorse_7 rfl 0 rfl rfl ?_
  refine j_get hJ (q := 11) jf_X4_15 dX4_putHorse_8 0 rfl rfl rfl ?_
  refine j_iload_n hJ (q := 12) dX4_putHorse_11 rfl 1 rfl rfl ?_
  refine j_iload_n hJ (q := 13) dX4_putHorse_12 rfl 3 rfl rfl ?_
  refine j_iastN hJ (q := 14) (ws' := [cO h q (A 21) (A 5) (A 6) (A 7) (A 8) (A 0), (q 0, ia Z 12 (ni (va_up K s k))), (q 1, ia Z 12 (ni (va_up P s p))), (q 2, ia Z 6 (ni kd)), (q 3, ia Z 6 (ni am)), (q 4, ia Z 6 (ni st)), (q 5, ia Z 6 (ni rg))]) dX4_putHorse_13 2 rfl (by omega) (by decide) (ni_up _ _ _) rfl rfl ?_
  exact hE.2.2 _ _ _ _ _ rfl dX4_putHorse_14 (Nat.le_refl _) (Nat.le_refl _) (⟨rfl, rfl⟩)

set_option maxHeartbeats 4000000 in
set_option maxRecDepth 100000 in
theorem c_X4_putHorseZ (Z : jZ) (h : Nat) (q : Nat → Nat) (n : Nat) (an : Nat) (sp : Nat) (ri : Nat) (ti : Nat) (rd : Nat) (K : Nat → Nat) (P : Nat → Nat) (kd : Nat → Nat) (am : Nat → Nat) (st : Nat → Nat) (rg : Nat → Nat) (s : Nat) (k : Nat) (p : Nat) (h1 : s < 12) : CT Z yX4_putHorse cX4_putHorse 4 (none) 1 0 0 [.ref h, .int (nI s), .int (nI k), .int (nI p)] [cO h q n an sp ri ti rd, (q 0, ia Z 12 (ni K)), (q 1, ia Z 12 (ni P)), (q 2, ia Z 6 (ni kd)), (q 3, ia Z 6 (ni am)), (q 4, ia Z 6 (ni st)), (q 5, ia Z 6 (ni rg))] (fun rr ww => rr = none ∧ ww = [cO h q n an sp ri ti rd, (q 0, ia Z 12 (ni (va_up K s k))), (q 1, ia Z 12 (ni (va_up P s p))), (q 2, ia Z 6 (ni kd)), (q 3, ia Z 6 (ni am)), (q 4, ia Z 6 (ni st)), (q 5, ia Z 6 (ni rg))]) := by
  refine CT.of RX4 false rfl (fun h => by cases h) (by decide +kernel) (Nat.le_of_ble_eq_true rfl) ?_
  intro J hJ hE
  show J 0 [(0, .ref h), (1, .int (nI s)), (2, .int (nI k)), (3, .int (nI p))] [] [cO h q n an sp ri ti rd, (q 0, ia Z 12 (ni K)), (q 1, ia Z 12 (ni P)), (q 2, ia Z 6 (ni kd)), (q 3, ia Z 6 (ni am)), (q 4, ia Z 6 (ni st)), (q 5, ia Z 6 (ni rg))] 0 0
  refine j_aload_n hJ (q := 1) dX4_putHorse_0 rfl 0 rfl rfl ?_
  refine j_get hJ (q := 4) jf_X4_9 dX4_putHorse_1 0 rfl rfl rfl ?_
  refine j_iload_n hJ (q := 5) dX4_putHorse_4 rfl 1 rfl rfl ?_
  refine j_iload_n hJ (q := 6) dX4_putHorse_5 rfl 2 rfl rfl ?_
  refine j_iastN hJ (q := 7) (ws' := [cO h q n an sp ri ti rd, (q 0, ia Z 12 (ni (va_up K s k))), (q 1, ia Z 12 (ni P)), (q 2, ia Z 6 (ni kd)), (q 3, ia Z 6 (ni am)), (q 4, ia Z 6 (ni st)), (q 5, ia Z 6 (ni rg))]) dX4_putHorse_6 1 rfl (by omega) (by decide) (ni_up _ _ _) rfl rfl ?_
  refine j_aload_n hJ (q := 8) dX4_putHorse_7 rfl 0 rfl rfl ?_
  refine j_get hJ (q := 11) jf_X4_15 dX4_putHorse_8 0 rfl rfl rfl ?_
  refine j_iload_n hJ (q := 12) dX4_putHorse_11 rfl 1 rfl rfl ?_
  refine j_iload_n hJ (q := 13) dX4_putHorse_12 rfl 3 rfl rfl ?_
  refine j_iastN hJ (q := 14) (ws' := [cO h q n an sp ri ti rd, (q 0, ia Z 12 (ni (va_up K s k))), (q 1, ia Z 12 (ni (va_up P s p))), (q 2, ia Z 6 (ni kd)), (q 3, ia Z 6 (ni am)), (q 4, ia Z 6 (ni st)), (q 5, ia Z 6 (ni rg))]) dX4_putHorse_13 2 rfl (by omega) (by decide) (ni_up _ _ _) rfl rfl ?_
  exact hE.2.2 _ _ _ _ _ rfl dX4_putHorse_14 (Nat.le_refl _) (Nat.le_refl _) (⟨rfl, rfl⟩)

set_option maxHeartbeats 4000000 in
set_option maxRecDepth 100000 in
theorem c_X4_start (Z : jZ) (h : Nat) (q : Nat → Nat) (n : Nat) (an : Nat) (sp : Nat) (ri : Nat) (ti : Nat) (rd : Nat) (K : Nat → Nat) (P : Nat → Nat) (kd : Nat → Nat) (am : Nat → Nat) (st : Nat → Nat) (rg : Nat → Nat) (m : Nat) (v : Nat)  : CT Z yX4_start cX4_start 4 (none) 2 0 0 [.ref h, .int (nI m), .int (nI v)] [cO h q n an sp ri ti rd, (q 0, ia Z 12 (ni K)), (q 1, ia Z 12 (ni P)), (q 2, ia Z 6 (ni kd)), (q 3, ia Z 6 (ni am)), (q 4, ia Z 6 (ni st)), (q 5, ia Z 6 (ni rg))] (fun rr ww => ∃ Kz : Nat → Nat, ∃ Pz : Nat → Nat, rr = none ∧ ww = [cO h q m 0 v 8 0 0, (q 0, ia Z 12 (ni Kz)), (q 1, ia Z 12 (ni Pz)), (q 2, ia Z 6 (ni kd)), (q 3, ia Z 6 (ni am)), (q 4, ia Z 6 (ni st)), (q 5, ia Z 6 (ni rg))] ∧ (∀ j, j < 12 → Kz j = 0 ∧ Pz j = 0)) := by
  refine CT.of RX4 false rfl (fun h => by cases h) (by decide +kernel) (Nat.le_of_ble_eq_true rfl) ?_
  intro J hJ hE
  show J 0 [(0, .ref h), (1, .int (nI m)), (2, .int (nI v))] [] [cO h q n an sp ri ti rd, (q 0, ia Z 12 (ni K)), (q 1, ia Z 12 (ni P)), (q 2, ia Z 6 (ni kd)), (q 3, ia Z 6 (ni am)), (q 4, ia Z 6 (ni st)), (q 5, ia Z 6 (ni rg))] 0 0
  refine j_aload_n hJ (q := 1) dX4_start_0 rfl 0 rfl rfl ?_
  refine j_iload_n hJ (q := 2) dX4_start_1 rfl 1 rfl rfl ?_
  refine j_put hJ (q := 5) (ws' := [cO h q m an sp ri ti rd, (q 0, ia Z 12 (ni K)), (q 1, ia Z 12 (ni P)), (q 2, ia Z 6 (ni kd)), (q 3, ia Z 6 (ni am)), (q 4, ia Z 6 (ni st)), (q 5, ia Z 6 (ni rg))]) jp_X4_34 dX4_start_2 0 rfl rfl rfl (Nat.le_of_ble_eq_true rfl) rfl rfl ?_
  refine j_aload_n hJ (q := 6) dX4_start_5 rfl 0 rfl rfl ?_
  refine j_iconst hJ (q := 7) dX4_start_6 rfl ki_0 ?_
  refine j_put hJ (q := 10) (ws' := [cO h q m 0 sp ri ti rd, (q 0, ia Z 12 (ni K)), (q 1, ia Z 12 (ni P)), (q 2, ia Z 6 (ni kd)), (q 3, ia Z 6 (ni am)), (q 4, ia Z 6 (ni st)), (q 5, ia Z 6 (ni rg))]) jp_X4_38 dX4_start_7 0 rfl rfl rfl (Nat.le_of_ble_eq_true rfl) rfl rfl ?_
  refine j_aload_n hJ (q := 11) dX4_start_10 rfl 0 rfl rfl ?_
  refine j_iload_n hJ (q := 12) dX4_start_11 rfl 2 rfl rfl ?_
  refine j_put hJ (q := 15) (ws' := [cO h q m 0 v ri ti rd, (q 0, ia Z 12 (ni K)), (q 1, ia Z 12 (ni P)), (q 2, ia Z 6 (ni kd)), (q 3, ia Z 6 (ni am)), (q 4, ia Z 6 (ni st)), (q 5, ia Z 6 (ni rg))]) jp_X4_41 dX4_start_12 0 rfl rfl rfl (Nat.le_of_ble_eq_true rfl) rfl rfl ?_
  refine j_aload_n hJ (q := 16) dX4_start_15 rfl 0 rfl rfl ?_
  refine j_bipush hJ (q := 18) dX4_start_16 rfl kb_8 ?_
  refine j_put hJ (q := 21) (ws' := [cO h q m 0 v 8 ti rd, (q 0, ia Z 12 (ni K)), (q 1, ia Z 12 (ni P)), (q 2, ia Z 6 (ni kd)), (q 3, ia Z 6 (ni am)), (q 4, ia Z 6 (ni st)), (q 5, ia Z 6 (ni rg))]) jp_X4_44 dX4_start_18 0 rfl rfl rfl (Nat.le_of_ble_eq_true rfl) rfl rfl ?_
  refine j_aload_n hJ (q := 22) dX4_start_21 rfl 0 rfl rfl ?_
  refine j_iconst hJ (q := 23) dX4_start_22 rfl ki_0 ?_
  refine j_put hJ (q := 26) (ws' := [cO h q m 0 v 8 0 rd, (q 0, ia Z 12 (ni K)), (q 1, ia Z 12 (ni P)), (q 2, ia Z 6 (ni kd)), (q 3, ia Z 6 (ni am)), (q 4, ia Z 6 (ni st)), (q 5, ia Z 6 (ni rg))]) jp_X4_47 dX4_start_23 0 rfl rfl rfl (Nat.le_of_ble_eq_true rfl) rfl rfl ?_
  refine j_aload_n hJ (q := 27) dX4_start_26 rfl 0 rfl rfl ?_
  refine j_iconst hJ (q := 28) dX4_start_27 rfl ki_0 ?_
  refine j_put hJ (q := 31) (ws' := [cO h q m 0 v 8 0 0, (q 0, ia Z 12 (ni K)), (q 1, ia Z 12 (ni P)), (q 2, ia Z 6 (ni kd)), (q 3, ia Z 6 (ni am)), (q 4, ia Z 6 (ni st)), (q 5, ia Z 6 (ni rg))]) jp_X4_50 dX4_start_28 0 rfl rfl rfl (Nat.le_of_ble_eq_true rfl) rfl rfl ?_
  refine j_iconst hJ (q := 32) dX4_start_31 rfl ki_0 ?_
  refine j_istore_n hJ (q := 33) (lvs' := [(3, .int (nI 0)), (0, .ref h), (1, .int (nI m)), (2, .int (nI v))]) dX4_start_32 rfl (by decide) rfl rfl ?_
  have L_33 : ∀ (fu_33 : Nat) (B1 : Nat → Nat) (B2 : Nat → Nat) (s : Nat), 12 - s < fu_33 → (s ≤ 12) → (∀ j, j < s → B1 j = 0 ∧ B2 j = 0) → J 33 [(0, .ref h), (1, .int (nI m)), (2, .int (nI v)), (3, .int (nI s))] [] [cO h q m 0 v 8 0 0, (q 0, ia Z 12 (ni B1)), (q 1, ia Z 12 (ni B2)), (q 2, ia Z 6 (ni kd)), (q 3, ia Z 6 (ni am)), (q 4, ia Z 6 (ni st)), (q 5, ia Z 6 (ni rg))] 0 0 := by
    intro fu_33
    induction fu_33 with
    | zero => intro B1 B2 s hm; exact absurd hm (Nat.not_lt_zero _)
    | succ fu_33 ih_33 =>
      intro B1 B2 s hm_33 hs hz
      refine j_iload_n hJ (q := 34) dX4_start_33 rfl 3 rfl rfl ?_
      refine j_bipush hJ (q := 36) dX4_start_34 rfl kb_12 ?_
      refine jn_icmp_ge hJ (q := 39) (tgt := 52) dX4_start_36 (by decide) rfl (by omega) (by omega) (fun c1 => ?_) (fun c1 => ?_)
      · skip
        exact hE.2.2 _ _ _ _ _ rfl dX4_start_52 (Nat.le_refl _) (Nat.le_refl _) (⟨B1, B2, rfl, rfl, fun j hj => hz j (by omega)⟩)
      · skip
        refine j_aload_n hJ (q := 40) dX4_start_39 rfl 0 rfl rfl ?_
        refine j_iload_n hJ (q := 41) dX4_start_40 rfl 3 rfl rfl ?_
        refine j_iconst hJ (q := 42) dX4_start_41 rfl ki_0 ?_
        refine j_iconst hJ (q := 43) dX4_start_42 rfl ki_0 ?_
        refine j_vW hJ (q := 46) (rest := []) (As := [.int (nI s), .int (nI 0), .int (nI 0)]) (wr := []) jl_X4_53 (c_X4_putHorseZ Z h q m 0 v 8 0 0 B1 B2 kd am st rg s 0 0 (by omega)) 0 rfl rfl dX4_start_43 rfl (by decide) (Nat.le_of_ble_eq_true rfl) [0, 1, 2, 3, 4, 5, 6] [] rfl rfl rfl rfl (by decide) rfl (fun rv wv hp => ?_)
        obtain ⟨rfl, rfl⟩ := hp
        show J 46 [(0, .ref h), (1, .int (nI m)), (2, .int (nI v)), (3, .int (nI s))] [] [cO h q m 0 v 8 0 0, (q 0, ia Z 12 (ni (va_up B1 s 0))), (q 1, ia Z 12 (ni (va_up B2 s 0))), (q 2, ia Z 6 (ni kd)), (q 3, ia Z 6 (ni am)), (q 4, ia Z 6 (ni st)), (q 5, ia Z 6 (ni rg))] 0 0
        refine j_iinc hJ (q := 49) (lvs' := [(3, .int (nI (s + 1))), (0, .ref h), (1, .int (nI m)), (2, .int (nI v))]) dX4_start_46 3 rfl (by rw [show Int32.ofInt 1 = nI 1 from by decide +kernel]; exact nI_add _ _) (by decide) rfl rfl ?_
        refine j_goto hJ (q := 33) dX4_start_49 (by decide) ?_
        refine j_locals hJ [1, 2, 3, 0] rfl ?_
        exact ih_33 (va_up B1 s 0) (va_up B2 s 0) (s + 1) (by omega) (by omega) (fun j hj => by simp only [va_up]; by_cases h : j = s <;> simp only [h, if_true, if_false, and_self]; exact hz j (by omega))
  refine j_locals hJ [1, 2, 3, 0] rfl ?_
  exact L_33 ((12 - 0) + 1) K P 0 (Nat.lt_succ_self _) (by omega) (fun j hj => absurd hj (Nat.not_lt_zero _))

set_option maxHeartbeats 4000000 in
set_option maxRecDepth 100000 in
theorem c_X4_copyOf (Z : jZ) (h : Nat) (q : Nat → Nat) (n : Nat) (an : Nat) (sp : Nat) (ri : Nat) (ti : Nat) (rd : Nat) (K : Nat → Nat) (P : Nat → Nat) (kd : Nat → Nat) (am : Nat → Nat) (st : Nat → Nat) (rg : Nat → Nat) (h2 : Nat) (q2 : Nat → Nat) (A : Nat → Nat) (K2 : Nat → Nat) (P2 : Nat → Nat) (kd2 : Nat → Nat) (am2 : Nat → Nat) (st2 : Nat → Nat) (rg2 : Nat → Nat)  : CT Z yX4_copyOf cX4_copyOf 2 (none) 1 0 0 [.ref h, .ref h2] [cO h q n an sp ri ti rd, (q 0, ia Z 12 (ni K)), (q 1, ia Z 12 (ni P)), (q 2, ia Z 6 (ni kd)), (q 3, ia Z 6 (ni am)), (q 4, ia Z 6 (ni st)), (q 5, ia Z 6 (ni rg)), cO h2 q2 (A 21) (A 5) (A 6) (A 7) (A 8) (A 0), (q2 0, ia Z 12 (ni K2)), (q2 1, ia Z 12 (ni P2)), (q2 2, ia Z 6 (ni kd2)), (q2 3, ia Z 6 (ni am2)), (q2 4, ia Z 6 (ni st2)), (q2 5, ia Z 6 (ni rg2))] (fun rr ww => rr = none ∧ ww = [cO h q (A 21) (A 5) (A 6) (A 7) (A 8) (A 0), (q 0, ia Z 12 (ni K2)), (q 1, ia Z 12 (ni P2)), (q 2, ia Z 6 (ni kd2)), (q 3, ia Z 6 (ni am2)), (q 4, ia Z 6 (ni st2)), (q 5, ia Z 6 (ni rg2)), cO h2 q2 (A 21) (A 5) (A 6) (A 7) (A 8) (A 0), (q2 0, ia Z 12 (ni K2)), (q2 1, ia Z 12 (ni P2)), (q2 2, ia Z 6 (ni kd2)), (q2 3, ia Z 6 (ni am2)), (q2 4, ia Z 6 (ni st2)), (q2 5, ia Z 6 (ni rg2))]) := by
  refine CT.of RX4 false rfl (fun h => by cases h) (by decide +kernel) (Nat.le_of_ble_eq_true rfl) ?_
  intro J hJ hE
  show J 0 [(0, .ref h), (1, .ref h2)] [] [cO h q n an sp ri ti rd, (q 0, ia Z 12 (ni K)), (q 1, ia Z 12 (ni P)), (q 2, ia Z 6 (ni kd)), (q 3, ia Z 6 (ni am)), (q 4, ia Z 6 (ni st)), (q 5, ia Z 6 (ni rg)), cO h2 q2 (A 21) (A 5) (A 6) (A 7) (A 8) (A 0), (q2 0, ia Z 12 (ni K2)), (q2 1, ia Z 12 (ni P2)), (q2 2, ia Z 6 (ni kd2)), (q2 3, ia Z 6 (ni am2)), (q2 4, ia Z 6 (ni st2)), (q2 5, ia Z 6 (ni rg2))] 0 0
  refine j_aload_n hJ (q := 1) dX4_copyOf_0 rfl 0 rfl rfl ?_
  refine j_aload_n hJ (q := 2) dX4_copyOf_1 rfl 1 rfl rfl ?_
  refine j_get hJ (q := 5) jf_X4_34 dX4_copyOf_2 7 rfl rfl rfl ?_
  refine j_put hJ (q := 8) (ws' := [cO h q (A 21) an sp ri ti rd, (q 0, ia Z 12 (ni K)), (q 1, ia Z 12 (ni P)), (q 2, ia Z 6 (ni kd)), (q 3, ia Z 6 (ni am)), (q 4, ia Z 6 (ni st)), (q 5, ia Z 6 (ni rg)), cO h2 q2 (A 21) (A 5) (A 6) (A 7) (A 8) (A 0), (q2 0, ia Z 12 (ni K2)), (q2 1, ia Z 12 (ni P2)), (q2 2, ia Z 6 (ni kd2)), (q2 3, ia Z 6 (ni am2)), (q2 4, ia Z 6 (ni st2)), (q2 5, ia Z 6 (ni rg2))]) jp_X4_34 dX4_copyOf_5 0 rfl rfl rfl (Nat.le_of_ble_eq_true rfl) rfl rfl ?_
  refine j_aload_n hJ (q := 9) dX4_copyOf_8 rfl 0 rfl rfl ?_
  refine j_aload_n hJ (q := 10) dX4_copyOf_9 rfl 1 rfl rfl ?_
  refine j_get hJ (q := 13) jf_X4_38 dX4_copyOf_10 7 rfl rfl rfl ?_
  refine j_put hJ (q := 16) (ws' := [cO h q (A 21) (A 5) sp ri ti rd, (q 0, ia Z 12 (ni K)), (q 1, ia Z 12 (ni P)), (q 2, ia Z 6 (ni kd)), (q 3, ia Z 6 (ni am)), (q 4, ia Z 6 (ni st)), (q 5, ia Z 6 (ni rg)), cO h2 q2 (A 21) (A 5) (A 6) (A 7) (A 8) (A 0), (q2 0, ia Z 12 (ni K2)), (q2 1, ia Z 12 (ni P2)), (q2 2, ia Z 6 (ni kd2)), (q2 3, ia Z 6 (ni am2)), (q2 4, ia Z 6 (ni st2)), (q2 5, ia Z 6 (ni rg2))]) jp_X4_38 dX4_copyOf_13 0 rfl rfl rfl (Nat.le_of_ble_eq_true rfl) rfl rfl ?_
  refine j_aload_n hJ (q := 17) dX4_copyOf_16 rfl 0 rfl rfl ?_
  refine j_aload_n hJ (q := 18) dX4_copyOf_17 rfl 1 rfl rfl ?_
  refine j_get hJ (q := 21) jf_X4_41 dX4_copyOf_18 7 rfl rfl rfl ?_
  refine j_put hJ (q := 24) (ws' := [cO h q (A 21) (A 5) (A 6) ri ti rd, (q 0, ia Z 12 (ni K)), (q 1, ia Z 12 (ni P)), (q 2, ia Z 6 (ni kd)), (q 3, ia Z 6 (ni am)), (q 4, ia Z 6 (ni st)), (q 5, ia Z 6 (ni rg)), cO h2 q2 (A 21) (A 5) (A 6) (A 7) (A 8) (A 0), (q2 0, ia Z 12 (ni K2)), (q2 1, ia Z 12 (ni P2)), (q2 2, ia Z 6 (ni kd2)), (q2 3, ia Z 6 (ni am2)), (q2 4, ia Z 6 (ni st2)), (q2 5, ia Z 6 (ni rg2))]) jp_X4_41 dX4_copyOf_21 0 rfl rfl rfl (Nat.le_of_ble_eq_true rfl) rfl rfl ?_
  refine j_aload_n hJ (q := 25) dX4_copyOf_24 rfl 0 rfl rfl ?_
  refine j_aload_n hJ (q := 26) dX4_copyOf_25 rfl 1 rfl rfl ?_
  refine j_get hJ (q := 29) jf_X4_44 dX4_copyOf_26 7 rfl rfl rfl ?_
  refine j_put hJ (q := 32) (ws' := [cO h q (A 21) (A 5) (A 6) (A 7) ti rd, (q 0, ia Z 12 (ni K)), (q 1, ia Z 12 (ni P)), (q 2, ia Z 6 (ni kd)), (q 3, ia Z 6 (ni am)), (q 4, ia Z 6 (ni st)), (q 5, ia Z 6 (ni rg)), cO h2 q2 (A 21) (A 5) (A 6) (A 7) (A 8) (A 0), (q2 0, ia Z 12 (ni K2)), (q2 1, ia Z 12 (ni P2)), (q2 2, ia Z 6 (ni kd2)), (q2 3, ia Z 6 (ni am2)), (q2 4, ia Z 6 (ni st2)), (q2 5, ia Z 6 (ni rg2))]) jp_X4_44 dX4_copyOf_29 0 rfl rfl rfl (Nat.le_of_ble_eq_true rfl) rfl rfl ?_
  refine j_aload_n hJ (q := 33) dX4_copyOf_32 rfl 0 rfl rfl ?_
  refine j_aload_n hJ (q := 34) dX4_copyOf_33 rfl 1 rfl rfl ?_
  refine j_get hJ (q := 37) jf_X4_47 dX4_copyOf_34 7 rfl rfl rfl ?_
  refine j_put hJ (q := 40) (ws' := [cO h q (A 21) (A 5) (A 6) (A 7) (A 8) rd, (q 0, ia Z 12 (ni K)), (q 1, ia Z 12 (ni P)), (q 2, ia Z 6 (ni kd)), (q 3, ia Z 6 (ni am)), (q 4, ia Z 6 (ni st)), (q 5, ia Z 6 (ni rg)), cO h2 q2 (A 21) (A 5) (A 6) (A 7) (A 8) (A 0), (q2 0, ia Z 12 (ni K2)), (q2 1, ia Z 12 (ni P2)), (q2 2, ia Z 6 (ni kd2)), (q2 3, ia Z 6 (ni am2)), (q2 4, ia Z 6 (ni st2)), (q2 5, ia Z 6 (ni rg2))]) jp_X4_47 dX4_copyOf_37 0 rfl rfl rfl (Nat.le_of_ble_eq_true rfl) rfl rfl ?_
  refine j_aload_n hJ (q := 41) dX4_copyOf_40 rfl 0 rfl rfl ?_
  refine j_aload_n hJ (q := 42) dX4_copyOf_41 rfl 1 rfl rfl ?_
  refine j_get hJ (q := 45) jf_X4_50 dX4_copyOf_42 7 rfl rfl rfl ?_
  refine j_put hJ (q := 48) (ws' := [cO h q (A 21) (A 5) (A 6) (A 7) (A 8) (A 0), (q 0, ia Z 12 (ni K)), (q 1, ia Z 12 (ni P)), (q 2, ia Z 6 (ni kd)), (q 3, ia Z 6 (ni am)), (q 4, ia Z 6 (ni st)), (q 5, ia Z 6 (ni rg)), cO h2 q2 (A 21) (A 5) (A 6) (A 7) (A 8) (A 0), (q2 0, ia Z 12 (ni K2)), (q2 1, ia Z 12 (ni P2)), (q2 2, ia Z 6 (ni kd2)), (q2 3, ia Z 6 (ni am2)), (q2 4, ia Z 6 (ni st2)), (q2 5, ia Z 6 (ni rg2))]) jp_X4_50 dX4_copyOf_45 0 rfl rfl rfl (Nat.le_of_ble_eq_true rfl) rfl rfl ?_
  refine j_aload_n hJ (q := 49) dX4_copyOf_48 rfl 1 rfl rfl ?_
  refine j_get hJ (q := 52) jf_X4_9 dX4_copyOf_49 7 rfl rfl rfl ?_
  refine j_iconst hJ (q := 53) dX4_copyOf_52 rfl ki_0 ?_
  refine j_aload_n hJ (q := 54) dX4_copyOf_53 rfl 0 rfl rfl ?_
  refine j_get hJ (q := 57) jf_X4_9 dX4_copyOf_54 0 rfl rfl rfl ?_
  refine j_iconst hJ (q := 58) dX4_copyOf_57 rfl ki_0 ?_
  refine j_bipush hJ (q := 60) dX4_copyOf_58 rfl kb_12 ?_
  refine j_copyN hJ (q := 63) (n := 12) (sp := 0) (dp := 0) (f := K2) (g := K) (g' := K2) (ws' := [cO h q (A 21) (A 5) (A 6) (A 7) (A 8) (A 0), (q 0, ia Z 12 (ni K2)), (q 1, ia Z 12 (ni P)), (q 2, ia Z 6 (ni kd)), (q 3, ia Z 6 (ni am)), (q 4, ia Z 6 (ni st)), (q 5, ia Z 6 (ni rg)), cO h2 q2 (A 21) (A 5) (A 6) (A 7) (A 8) (A 0), (q2 0, ia Z 12 (ni K2)), (q2 1, ia Z 12 (ni P2)), (q2 2, ia Z 6 (ni kd2)), (q2 3, ia Z 6 (ni am2)), (q2 4, ia Z 6 (ni st2)), (q2 5, ia Z 6 (ni rg2))]) tm_468 dX4_copyOf_60 8 1 rfl rfl (by decide) (by decide) (by decide) (by decide) (by decide) (Nat.le_of_ble_eq_true rfl) (fun j hj => cpy_all hj) rfl rfl ?_
  refine j_aload_n hJ (q := 64) dX4_copyOf_63 rfl 1 rfl rfl ?_
  refine j_get hJ (q := 67) jf_X4_15 dX4_copyOf_64 7 rfl rfl rfl ?_
  refine j_iconst hJ (q := 68) dX4_copyOf_67 rfl ki_0 ?_
  refine j_aload_n hJ (q := 69) dX4_copyOf_68 rfl 0 rfl rfl ?_
  refine j_get hJ (q := 72) jf_X4_15 dX4_copyOf_69 0 rfl rfl rfl ?_
  refine j_iconst hJ (q := 73) dX4_copyOf_72 rfl ki_0 ?_
  refine j_bipush hJ (q := 75) dX4_copyOf_73 rfl kb_12 ?_
  refine j_copyN hJ (q := 78) (n := 12) (sp := 0) (dp := 0) (f := P2) (g := P) (g' := P2) (ws' := [cO h q (A 21) (A 5) (A 6) (A 7) (A 8) (A 0), (q 0, ia Z 12 (ni K2)), (q 1, ia Z 12 (ni P2)), (q 2, ia Z 6 (ni kd)), (q 3, ia Z 6 (ni am)), (q 4, ia Z 6 (ni st)), (q 5, ia Z 6 (ni rg)), cO h2 q2 (A 21) (A 5) (A 6) (A 7) (A 8) (A 0), (q2 0, ia Z 12 (ni K2)), (q2 1, ia Z 12 (ni P2)), (q2 2, ia Z 6 (ni kd2)), (q2 3, ia Z 6 (ni am2)), (q2 4, ia Z 6 (ni st2)), (q2 5, ia Z 6 (ni rg2))]) tm_468 dX4_copyOf_75 9 2 rfl rfl (by decide) (by decide) (by decide) (by decide) (by decide) (Nat.le_of_ble_eq_true rfl) (fun j hj => cpy_all hj) rfl rfl ?_
  refine j_aload_n hJ (q := 79) dX4_copyOf_78 rfl 1 rfl rfl ?_
  refine j_get hJ (q := 82) jf_X4_18 dX4_copyOf_79 7 rfl rfl rfl ?_
  refine j_iconst hJ (q := 83) dX4_copyOf_82 rfl ki_0 ?_
  refine j_aload_n hJ (q := 84) dX4_copyOf_83 rfl 0 rfl rfl ?_
  refine j_get hJ (q := 87) jf_X4_18 dX4_copyOf_84 0 rfl rfl rfl ?_
  refine j_iconst hJ (q := 88) dX4_copyOf_87 rfl ki_0 ?_
  refine j_bipush hJ (q := 90) dX4_copyOf_88 rfl kb_6 ?_
  refine j_copyN hJ (q := 93) (n := 6) (sp := 0) (dp := 0) (f := kd2) (g := kd) (g' := kd2) (ws' := [cO h q (A 21) (A 5) (A 6) (A 7) (A 8) (A 0), (q 0, ia Z 12 (ni K2)), (q 1, ia Z 12 (ni P2)), (q 2, ia Z 6 (ni kd2)), (q 3, ia Z 6 (ni am)), (q 4, ia Z 6 (ni st)), (q 5, ia Z 6 (ni rg)), cO h2 q2 (A 21) (A 5) (A 6) (A 7) (A 8) (A 0), (q2 0, ia Z 12 (ni K2)), (q2 1, ia Z 12 (ni P2)), (q2 2, ia Z 6 (ni kd2)), (q2 3, ia Z 6 (ni am2)), (q2 4, ia Z 6 (ni st2)), (q2 5, ia Z 6 (ni rg2))]) tm_468 dX4_copyOf_90 10 3 rfl rfl (by decide) (by decide) (by decide) (by decide) (by decide) (Nat.le_of_ble_eq_true rfl) (fun j hj => cpy_all hj) rfl rfl ?_
  refine j_aload_n hJ (q := 94) dX4_copyOf_93 rfl 1 rfl rfl ?_
  refine j_get hJ (q := 97) jf_X4_21 dX4_copyOf_94 7 rfl rfl rfl ?_
  refine j_iconst hJ (q := 98) dX4_copyOf_97 rfl ki_0 ?_
  refine j_aload_n hJ (q := 99) dX4_copyOf_98 rfl 0 rfl rfl ?_
  refine j_get hJ (q := 102) jf_X4_21 dX4_copyOf_99 0 rfl rfl rfl ?_
  refine j_iconst hJ (q := 103) dX4_copyOf_102 rfl ki_0 ?_
  refine j_bipush hJ (q := 105) dX4_copyOf_103 rfl kb_6 ?_
  refine j_copyN hJ (q := 108) (n := 6) (sp := 0) (dp := 0) (f := am2) (g := am) (g' := am2) (ws' := [cO h q (A 21) (A 5) (A 6) (A 7) (A 8) (A 0), (q 0, ia Z 12 (ni K2)), (q 1, ia Z 12 (ni P2)), (q 2, ia Z 6 (ni kd2)), (q 3, ia Z 6 (ni am2)), (q 4, ia Z 6 (ni st)), (q 5, ia Z 6 (ni rg)), cO h2 q2 (A 21) (A 5) (A 6) (A 7) (A 8) (A 0), (q2 0, ia Z 12 (ni K2)), (q2 1, ia Z 12 (ni P2)), (q2 2, ia Z 6 (ni kd2)), (q2 3, ia Z 6 (ni am2)), (q2 4, ia Z 6 (ni st2)), (q2 5, ia Z 6 (ni rg2))]) tm_468 dX4_copyOf_105 11 4 rfl rfl (by decide) (by decide) (by decide) (by decide) (by decide) (Nat.le_of_ble_eq_true rfl) (fun j hj => cpy_all hj) rfl rfl ?_
  refine j_aload_n hJ (q := 109) dX4_copyOf_108 rfl 1 rfl rfl ?_
  refine j_get hJ (q := 112) jf_X4_24 dX4_copyOf_109 7 rfl rfl rfl ?_
  refine j_iconst hJ (q := 113) dX4_copyOf_112 rfl ki_0 ?_
  refine j_aload_n hJ (q := 114) dX4_copyOf_113 rfl 0 rfl rfl ?_
  refine j_get hJ (q := 117) jf_X4_24 dX4_copyOf_114 0 rfl rfl rfl ?_
  refine j_iconst hJ (q := 118) dX4_copyOf_117 rfl ki_0 ?_
  refine j_bipush hJ (q := 120) dX4_copyOf_118 rfl kb_6 ?_
  refine j_copyN hJ (q := 123) (n := 6) (sp := 0) (dp := 0) (f := st2) (g := st) (g' := st2) (ws' := [cO h q (A 21) (A 5) (A 6) (A 7) (A 8) (A 0), (q 0, ia Z 12 (ni K2)), (q 1, ia Z 12 (ni P2)), (q 2, ia Z 6 (ni kd2)), (q 3, ia Z 6 (ni am2)), (q 4, ia Z 6 (ni st2)), (q 5, ia Z 6 (ni rg)), cO h2 q2 (A 21) (A 5) (A 6) (A 7) (A 8) (A 0), (q2 0, ia Z 12 (ni K2)), (q2 1, ia Z 12 (ni P2)), (q2 2, ia Z 6 (ni kd2)), (q2 3, ia Z 6 (ni am2)), (q2 4, ia Z 6 (ni st2)), (q2 5, ia Z 6 (ni rg2))]) tm_468 dX4_copyOf_120 12 5 rfl rfl (by decide) (by decide) (by decide) (by decide) (by decide) (Nat.le_of_ble_eq_true rfl) (fun j hj => cpy_all hj) rfl rfl ?_
  refine j_aload_n hJ (q := 124) dX4_copyOf_123 rfl 1 rfl rfl ?_
  refine j_get hJ (q := 127) jf_X4_27 dX4_copyOf_124 7 rfl rfl rfl ?_
  refine j_iconst hJ (q := 128) dX4_copyOf_127 rfl ki_0 ?_
  refine j_aload_n hJ (q := 129) dX4_copyOf_128 rfl 0 rfl rfl ?_
  refine j_get hJ (q := 132) jf_X4_27 dX4_copyOf_129 0 rfl rfl rfl ?_
  refine j_iconst hJ (q := 133) dX4_copyOf_132 rfl ki_0 ?_
  refine j_bipush hJ (q := 135) dX4_copyOf_133 rfl kb_6 ?_
  refine j_copyN hJ (q := 138) (n := 6) (sp := 0) (dp := 0) (f := rg2) (g := rg) (g' := rg2) (ws' := [cO h q (A 21) (A 5) (A 6) (A 7) (A 8) (A 0), (q 0, ia Z 12 (ni K2)), (q 1, ia Z 12 (ni P2)), (q 2, ia Z 6 (ni kd2)), (q 3, ia Z 6 (ni am2)), (q 4, ia Z 6 (ni st2)), (q 5, ia Z 6 (ni rg2)), cO h2 q2 (A 21) (A 5) (A 6) (A 7) (A 8) (A 0), (q2 0, ia Z 12 (ni K2)), (q2 1, ia Z 12 (ni P2)), (q2 2, ia Z 6 (ni kd2)), (q2 3, ia Z 6 (ni am2)), (q2 4, ia Z 6 (ni st2)), (q2 5, ia Z 6 (ni rg2))]) tm_468 dX4_copyOf_135 13 6 rfl rfl (by decide) (by decide) (by decide) (by decide) (by decide) (Nat.le_of_ble_eq_true rfl) (fun j hj => cpy_all hj) rfl rfl ?_
  exact hE.2.2 _ _ _ _ _ rfl dX4_copyOf_138 (Nat.le_refl _) (Nat.le_refl _) (⟨rfl, rfl⟩)

set_option maxHeartbeats 4000000 in
set_option maxRecDepth 100000 in
theorem c_X4_putRider (Z : jZ) (h : Nat) (q : Nat → Nat) (A : Nat → Nat) (K : Nat → Nat) (P : Nat → Nat) (kd : Nat → Nat) (am : Nat → Nat) (st : Nat → Nat) (rg : Nat → Nat) (k : Nat) (a : Nat) (s : Nat) (h0 : A 0 < 6) : CT Z yX4_putRider cX4_putRider 4 (none) 1 0 0 [.ref h, .int (nI k), .int (nI a), .int (nI s)] [cO h q (A 21) (A 5) (A 6) (A 7) (A 8) (A 0), (q 0, ia Z 12 (ni K)), (q 1, ia Z 12 (ni P)), (q 2, ia Z 6 (ni kd)), (q 3, ia Z 6 (ni am)), (q 4, ia Z 6 (ni st)), (q 5, ia Z 6 (ni rg))] (fun rr ww => rr = none ∧ ww = [cO h q (A 21) (A 5) (A 6) (A 7) (A 8) (A 0 + 1), (q 0, ia Z 12 (ni K)), (q 1, ia Z 12 (ni P)), (q 2, ia Z 6 (ni (va_up kd (A 0) k))), (q 3, ia Z 6 (ni (va_up am (A 0) a))), (q 4, ia Z 6 (ni (va_up st (A 0) s))), (q 5, ia Z 6 (ni (va_up rg (A 0) 0)))]) := by
  refine CT.of RX4 false rfl (fun h => by cases h) (by decide +kernel) (Nat.le_of_ble_eq_true rfl) ?_
  intro J hJ hE
  show J 0 [(0, .ref h), (1, .int (nI k)), (2, .int (nI a)), (3, .int (nI s))] [] [cO h q (A 21) (A 5) (A 6) (A 7) (A 8) (A 0), (q 0, ia Z 12 (ni K)), (q 1, ia Z 12 (ni P)), (q 2, ia Z 6 (ni kd)), (q 3, ia Z 6 (ni am)), (q 4, ia Z 6 (ni st)), (q 5, ia Z 6 (ni rg))] 0 0
  refine j_aload_n hJ (q := 1) dX4_putRider_0 rfl 0 rfl rfl ?_
  refine j_get hJ (q := 4) jf_X4_50 dX4_putRider_1 0 rfl rfl rfl ?_
  refine j_bipush hJ (q := 6) dX4_putRider_4 rfl kb_6 ?_
  refine jn_icmp_ge hJ (q := 9) (tgt := 59) dX4_putRider_6 (by decide) rfl (by omega) (by omega) (fun c1 => ?_) (fun c1 => ?_)
  · skip
    exfalso; omega
  · skip
    refine j_aload_n hJ (q := 10) dX4_putRider_9 rfl 0 rfl rfl ?_
    refine j_get hJ (q := 13) jf_X4_18 dX4_putRider_10 0 rfl rfl rfl ?_
    refine j_aload_n hJ (q := 14) dX4_putRider_13 rfl 0 rfl rfl ?_
    refine j_get hJ (q := 17) jf_X4_50 dX4_putRider_14 0 rfl rfl rfl ?_
    refine j_iload_n hJ (q := 18) dX4_putRider_17 rfl 1 rfl rfl ?_
    refine j_iastN hJ (q := 19) (ws' := [cO h q (A 21) (A 5) (A 6) (A 7) (A 8) (A 0), (q 0, ia Z 12 (ni K)), (q 1, ia Z 12 (ni P)), (q 2, ia Z 6 (ni (va_up kd (A 0) k))), (q 3, ia Z 6 (ni am)), (q 4, ia Z 6 (ni st)), (q 5, ia Z 6 (ni rg))]) dX4_putRider_18 3 rfl (by omega) (by decide) (ni_up _ _ _) rfl rfl ?_
    refine j_aload_n hJ (q := 20) dX4_putRider_19 rfl 0 rfl rfl ?_
    refine j_get hJ (q := 23) jf_X4_21 dX4_putRider_20 0 rfl rfl rfl ?_
    refine j_aload_n hJ (q := 24) dX4_putRider_23 rfl 0 rfl rfl ?_
    refine j_get hJ (q := 27) jf_X4_50 dX4_putRider_24 0 rfl rfl rfl ?_
    refine j_iload_n hJ (q := 28) dX4_putRider_27 rfl 2 rfl rfl ?_
    refine j_iastN hJ (q := 29) (ws' := [cO h q (A 21) (A 5) (A 6) (A 7) (A 8) (A 0), (q 0, ia Z 12 (ni K)), (q 1, ia Z 12 (ni P)), (q 2, ia Z 6 (ni (va_up kd (A 0) k))), (q 3, ia Z 6 (ni (va_up am (A 0) a))), (q 4, ia Z 6 (ni st)), (q 5, ia Z 6 (ni rg))]) dX4_putRider_28 4 rfl (by omega) (by decide) (ni_up _ _ _) rfl rfl ?_
    refine j_aload_n hJ (q := 30) dX4_putRider_29 rfl 0 rfl rfl ?_
    refine j_get hJ (q := 33) jf_X4_24 dX4_putRider_30 0 rfl rfl rfl ?_
    refine j_aload_n hJ (q := 34) dX4_putRider_33 rfl 0 rfl rfl ?_
    refine j_get hJ (q := 37) jf_X4_50 dX4_putRider_34 0 rfl rfl rfl ?_
    refine j_iload_n hJ (q := 38) dX4_putRider_37 rfl 3 rfl rfl ?_
    refine j_iastN hJ (q := 39) (ws' := [cO h q (A 21) (A 5) (A 6) (A 7) (A 8) (A 0), (q 0, ia Z 12 (ni K)), (q 1, ia Z 12 (ni P)), (q 2, ia Z 6 (ni (va_up kd (A 0) k))), (q 3, ia Z 6 (ni (va_up am (A 0) a))), (q 4, ia Z 6 (ni (va_up st (A 0) s))), (q 5, ia Z 6 (ni rg))]) dX4_putRider_38 5 rfl (by omega) (by decide) (ni_up _ _ _) rfl rfl ?_
    refine j_aload_n hJ (q := 40) dX4_putRider_39 rfl 0 rfl rfl ?_
    refine j_get hJ (q := 43) jf_X4_27 dX4_putRider_40 0 rfl rfl rfl ?_
    refine j_aload_n hJ (q := 44) dX4_putRider_43 rfl 0 rfl rfl ?_
    refine j_get hJ (q := 47) jf_X4_50 dX4_putRider_44 0 rfl rfl rfl ?_
    refine j_iconst hJ (q := 48) dX4_putRider_47 rfl ki_0 ?_
    refine j_iastN hJ (q := 49) (ws' := [cO h q (A 21) (A 5) (A 6) (A 7) (A 8) (A 0), (q 0, ia Z 12 (ni K)), (q 1, ia Z 12 (ni P)), (q 2, ia Z 6 (ni (va_up kd (A 0) k))), (q 3, ia Z 6 (ni (va_up am (A 0) a))), (q 4, ia Z 6 (ni (va_up st (A 0) s))), (q 5, ia Z 6 (ni (va_up rg (A 0) 0)))]) dX4_putRider_48 6 rfl (by omega) (by decide) (ni_up _ _ _) rfl rfl ?_
    refine j_aload_n hJ (q := 50) dX4_putRider_49 rfl 0 rfl rfl ?_
    refine j_dup hJ (q := 51) dX4_putRider_50 rfl rfl ?_
    refine j_get hJ (q := 54) jf_X4_50 dX4_putRider_51 0 rfl rfl rfl ?_
    refine j_iconst hJ (q := 55) dX4_putRider_54 rfl ki_1 ?_
    refine j_iadd hJ (q := 56) dX4_putRider_55 rfl (nI_add _ _) ?_
    refine j_put hJ (q := 59) (ws' := [cO h q (A 21) (A 5) (A 6) (A 7) (A 8) (A 0 + 1), (q 0, ia Z 12 (ni K)), (q 1, ia Z 12 (ni P)), (q 2, ia Z 6 (ni (va_up kd (A 0) k))), (q 3, ia Z 6 (ni (va_up am (A 0) a))), (q 4, ia Z 6 (ni (va_up st (A 0) s))), (q 5, ia Z 6 (ni (va_up rg (A 0) 0)))]) jp_X4_50 dX4_putRider_56 0 rfl rfl rfl (Nat.le_of_ble_eq_true rfl) rfl rfl ?_
    exact hE.2.2 _ _ _ _ _ rfl dX4_putRider_59 (Nat.le_refl _) (Nat.le_refl _) (⟨rfl, rfl⟩)

set_option maxHeartbeats 4000000 in
set_option maxRecDepth 100000 in
theorem c_X4_turn (Z : jZ) (h : Nat) (q : Nat → Nat) (A : Nat → Nat) (K : Nat → Nat) (P : Nat → Nat) (kd : Nat → Nat) (am : Nat → Nat) (st : Nat → Nat) (rg : Nat → Nat) (hw : wf A) : CT Z yX4_turn cX4_turn 1 (none) 2 0 0 [.ref h] [cO h q (A 21) (A 5) (A 6) (A 7) (A 8) (A 0), (q 0, ia Z 12 (ni K)), (q 1, ia Z 12 (ni P)), (q 2, ia Z 6 (ni kd)), (q 3, ia Z 6 (ni am)), (q 4, ia Z 6 (ni st)), (q 5, ia Z 6 (ni rg))] (fun rr ww => rr = none ∧ ww = [cO h q ((tick1 A) 21) ((tick1 A) 5) ((tick1 A) 6) ((tick1 A) 7) ((tick1 A) 8) ((tick1 A) 0), (q 0, ia Z 12 (ni K)), (q 1, ia Z 12 (ni P)), (q 2, ia Z 6 (ni kd)), (q 3, ia Z 6 (ni am)), (q 4, ia Z 6 (ni st)), (q 5, ia Z 6 (ni rg))]) := by
  refine CT.of RX4 false rfl (fun h => by cases h) (by decide +kernel) (Nat.le_of_ble_eq_true rfl) ?_
  intro J hJ hE
  show J 0 [(0, .ref h)] [] [cO h q (A 21) (A 5) (A 6) (A 7) (A 8) (A 0), (q 0, ia Z 12 (ni K)), (q 1, ia Z 12 (ni P)), (q 2, ia Z 6 (ni kd)), (q 3, ia Z 6 (ni am)), (q 4, ia Z 6 (ni st)), (q 5, ia Z 6 (ni rg))] 0 0
  obtain ⟨⟨w1, w2, w3, w4, w5, w6⟩, hb, wr, wh, wd⟩ := id hw
  have b5 := hb 5
  refine j_aload_n hJ (q := 1) dX4_turn_0 rfl 0 rfl rfl ?_
  refine j_dup hJ (q := 2) dX4_turn_1 rfl rfl ?_
  refine j_get hJ (q := 5) jf_X4_47 dX4_turn_2 0 rfl rfl rfl ?_
  refine j_iconst hJ (q := 6) dX4_turn_5 rfl ki_1 ?_
  refine j_iadd hJ (q := 7) dX4_turn_6 rfl (nI_add _ _) ?_
  refine j_put hJ (q := 10) (ws' := [cO h q (A 21) (A 5) (A 6) (A 7) (A 8 + 1) (A 0), (q 0, ia Z 12 (ni K)), (q 1, ia Z 12 (ni P)), (q 2, ia Z 6 (ni kd)), (q 3, ia Z 6 (ni am)), (q 4, ia Z 6 (ni st)), (q 5, ia Z 6 (ni rg))]) jp_X4_47 dX4_turn_7 0 rfl rfl rfl (Nat.le_of_ble_eq_true rfl) rfl rfl ?_
  refine j_aload_n hJ (q := 11) dX4_turn_10 rfl 0 rfl rfl ?_
  refine j_aload_n hJ (q := 12) dX4_turn_11 rfl 0 rfl rfl ?_
  refine j_aload_n hJ (q := 13) dX4_turn_12 rfl 0 rfl rfl ?_
  refine j_get hJ (q := 16) jf_X4_38 dX4_turn_13 0 rfl rfl rfl ?_
  refine j_aload_n hJ (q := 17) dX4_turn_16 rfl 0 rfl rfl ?_
  refine j_get hJ (q := 20) jf_X4_41 dX4_turn_17 0 rfl rfl rfl ?_
  refine j_iadd hJ (q := 21) dX4_turn_20 rfl (nI_add _ _) ?_
  refine j_vR hJ (q := 24) (rest := [.ref h]) (As := [.int (nI (A 5 + (A 6)))]) jl_X4_63 (c_X4_around Z h q (va_up A 8 (A 8 + 1)) (A 5 + (A 6)) (show 0 < A 21 ∧ A 21 < 100000 by omega) (by omega)) 0 rfl rfl dX4_turn_21 rfl (by decide) (Nat.le_of_ble_eq_true rfl) [0] rfl rfl (fun rv hp => ?_)
  obtain rfl := hp
  show J 24 [(0, .ref h)] [.int (nI ((A 5 + (A 6)) % (va_up A 8 (A 8 + 1)) 21)), .ref h] [cO h q (A 21) (A 5) (A 6) (A 7) (A 8 + 1) (A 0), (q 0, ia Z 12 (ni K)), (q 1, ia Z 12 (ni P)), (q 2, ia Z 6 (ni kd)), (q 3, ia Z 6 (ni am)), (q 4, ia Z 6 (ni st)), (q 5, ia Z 6 (ni rg))] 0 0
  refine j_put hJ (q := 27) (ws' := [cO h q (A 21) ((A 5 + (A 6)) % (va_up A 8 (A 8 + 1)) 21) (A 6) (A 7) (A 8 + 1) (A 0), (q 0, ia Z 12 (ni K)), (q 1, ia Z 12 (ni P)), (q 2, ia Z 6 (ni kd)), (q 3, ia Z 6 (ni am)), (q 4, ia Z 6 (ni st)), (q 5, ia Z 6 (ni rg))]) jp_X4_38 dX4_turn_24 0 rfl rfl rfl (Nat.le_of_ble_eq_true rfl) rfl rfl ?_
  exact hE.2.2 _ _ _ _ _ rfl dX4_turn_27 (Nat.le_refl _) (Nat.le_refl _) (⟨rfl, rfl⟩)

set_option maxHeartbeats 4000000 in
set_option maxRecDepth 100000 in
theorem c_X4_turnBack (Z : jZ) (h : Nat) (q : Nat → Nat) (A : Nat → Nat) (K : Nat → Nat) (P : Nat → Nat) (kd : Nat → Nat) (am : Nat → Nat) (st : Nat → Nat) (rg : Nat → Nat) (a : Nat) (h1 : 0 < A 8) : CT Z yX4_turnBack cX4_turnBack 2 (none) 1 0 0 [.ref h, .int (nI a)] [cO h q (A 21) (A 5) (A 6) (A 7) (A 8) (A 0), (q 0, ia Z 12 (ni K)), (q 1, ia Z 12 (ni P)), (q 2, ia Z 6 (ni kd)), (q 3, ia Z 6 (ni am)), (q 4, ia Z 6 (ni st)), (q 5, ia Z 6 (ni rg))] (fun rr ww => rr = none ∧ ww = [cO h q (A 21) a (A 6) (A 7) (A 8 - 1) (A 0), (q 0, ia Z 12 (ni K)), (q 1, ia Z 12 (ni P)), (q 2, ia Z 6 (ni kd)), (q 3, ia Z 6 (ni am)), (q 4, ia Z 6 (ni st)), (q 5, ia Z 6 (ni rg))]) := by
  refine CT.of RX4 false rfl (fun h => by cases h) (by decide +kernel) (Nat.le_of_ble_eq_true rfl) ?_
  intro J hJ hE
  show J 0 [(0, .ref h), (1, .int (nI a))] [] [cO h q (A 21) (A 5) (A 6) (A 7) (A 8) (A 0), (q 0, ia Z 12 (ni K)), (q 1, ia Z 12 (ni P)), (q 2, ia Z 6 (ni kd)), (q 3, ia Z 6 (ni am)), (q 4, ia Z 6 (ni st)), (q 5, ia Z 6 (ni rg))] 0 0
  refine j_aload_n hJ (q := 1) dX4_turnBack_0 rfl 0 rfl rfl ?_
  refine j_dup hJ (q := 2) dX4_turnBack_1 rfl rfl ?_
  refine j_get hJ (q := 5) jf_X4_47 dX4_turnBack_2 0 rfl rfl rfl ?_
  refine j_iconst hJ (q := 6) dX4_turnBack_5 rfl ki_1 ?_
  refine j_isub hJ (q := 7) dX4_turnBack_6 rfl (pk_sub (by omega)) ?_
  refine j_put hJ (q := 10) (ws' := [cO h q (A 21) (A 5) (A 6) (A 7) (A 8 - 1) (A 0), (q 0, ia Z 12 (ni K)), (q 1, ia Z 12 (ni P)), (q 2, ia Z 6 (ni kd)), (q 3, ia Z 6 (ni am)), (q 4, ia Z 6 (ni st)), (q 5, ia Z 6 (ni rg))]) jp_X4_47 dX4_turnBack_7 0 rfl rfl rfl (Nat.le_of_ble_eq_true rfl) rfl rfl ?_
  refine j_aload_n hJ (q := 11) dX4_turnBack_10 rfl 0 rfl rfl ?_
  refine j_iload_n hJ (q := 12) dX4_turnBack_11 rfl 1 rfl rfl ?_
  refine j_put hJ (q := 15) (ws' := [cO h q (A 21) a (A 6) (A 7) (A 8 - 1) (A 0), (q 0, ia Z 12 (ni K)), (q 1, ia Z 12 (ni P)), (q 2, ia Z 6 (ni kd)), (q 3, ia Z 6 (ni am)), (q 4, ia Z 6 (ni st)), (q 5, ia Z 6 (ni rg))]) jp_X4_38 dX4_turnBack_12 0 rfl rfl rfl (Nat.le_of_ble_eq_true rfl) rfl rfl ?_
  exact hE.2.2 _ _ _ _ _ rfl dX4_turnBack_15 (Nat.le_refl _) (Nat.le_refl _) (⟨rfl, rfl⟩)

set_option maxHeartbeats 4000000 in
set_option maxRecDepth 100000 in
theorem c_X4_giveBack (Z : jZ) (h : Nat) (q : Nat → Nat) (A : Nat → Nat) (K : Nat → Nat) (P : Nat → Nat) (kd : Nat → Nat) (am : Nat → Nat) (st : Nat → Nat) (rg : Nat → Nat) (i : Nat) (a : Nat) (b : Nat) (h1 : i < 6) : CT Z yX4_giveBack cX4_giveBack 4 (none) 1 0 0 [.ref h, .int (nI i), .int (nI a), .int (nI b)] [cO h q (A 21) (A 5) (A 6) (A 7) (A 8) (A 0), (q 0, ia Z 12 (ni K)), (q 1, ia Z 12 (ni P)), (q 2, ia Z 6 (ni kd)), (q 3, ia Z 6 (ni am)), (q 4, ia Z 6 (ni st)), (q 5, ia Z 6 (ni rg))] (fun rr ww => rr = none ∧ ww = [cO h q (A 21) (A 5) (A 6) b (A 8) (A 0), (q 0, ia Z 12 (ni K)), (q 1, ia Z 12 (ni P)), (q 2, ia Z 6 (ni kd)), (q 3, ia Z 6 (ni am)), (q 4, ia Z 6 (ni st)), (q 5, ia Z 6 (ni (va_up rg i a)))]) := by
  refine CT.of RX4 false rfl (fun h => by cases h) (by decide +kernel) (Nat.le_of_ble_eq_true rfl) ?_
  intro J hJ hE
  show J 0 [(0, .ref h), (1, .int (nI i)), (2, .int (nI a)), (3, .int (nI b))] [] [cO h q (A 21) (A 5) (A 6) (A 7) (A 8) (A 0), (q 0, ia Z 12 (ni K)), (q 1, ia Z 12 (ni P)), (q 2, ia Z 6 (ni kd)), (q 3, ia Z 6 (ni am)), (q 4, ia Z 6 (ni st)), (q 5, ia Z 6 (ni rg))] 0 0
  refine j_aload_n hJ (q := 1) dX4_giveBack_0 rfl 0 rfl rfl ?_
  refine j_get hJ (q := 4) jf_X4_27 dX4_giveBack_1 0 rfl rfl rfl ?_
  refine j_iload_n hJ (q := 5) dX4_giveBack_4 rfl 1 rfl rfl ?_
  refine j_iload_n hJ (q := 6) dX4_giveBack_5 rfl 2 rfl rfl ?_
  refine j_iastN hJ (q := 7) (ws' := [cO h q (A 21) (A 5) (A 6) (A 7) (A 8) (A 0), (q 0, ia Z 12 (ni K)), (q 1, ia Z 12 (ni P)), (q 2, ia Z 6 (ni kd)), (q 3, ia Z 6 (ni am)), (q 4, ia Z 6 (ni st)), (q 5, ia Z 6 (ni (va_up rg i a)))]) dX4_giveBack_6 6 rfl (by omega) (by decide) (ni_up _ _ _) rfl rfl ?_
  refine j_aload_n hJ (q := 8) dX4_giveBack_7 rfl 0 rfl rfl ?_
  refine j_iload_n hJ (q := 9) dX4_giveBack_8 rfl 3 rfl rfl ?_
  refine j_put hJ (q := 12) (ws' := [cO h q (A 21) (A 5) (A 6) b (A 8) (A 0), (q 0, ia Z 12 (ni K)), (q 1, ia Z 12 (ni P)), (q 2, ia Z 6 (ni kd)), (q 3, ia Z 6 (ni am)), (q 4, ia Z 6 (ni st)), (q 5, ia Z 6 (ni (va_up rg i a)))]) jp_X4_44 dX4_giveBack_9 0 rfl rfl rfl (Nat.le_of_ble_eq_true rfl) rfl rfl ?_
  exact hE.2.2 _ _ _ _ _ rfl dX4_giveBack_12 (Nat.le_refl _) (Nat.le_refl _) (⟨rfl, rfl⟩)

set_option maxHeartbeats 4000000 in
set_option maxRecDepth 100000 in
theorem c_X4_take (Z : jZ) (h : Nat) (q : Nat → Nat) (A : Nat → Nat) (K : Nat → Nat) (P : Nat → Nat) (kd : Nat → Nat) (am : Nat → Nat) (st : Nat → Nat) (rg : Nat → Nat) (i : Nat) (hw : wf A) (hR : rR A K P kd am st rg) (h1 : i < A 0) : CT Z yX4_take cX4_take 2 (none) 1 0 0 [.ref h, .int (nI i)] [cO h q (A 21) (A 5) (A 6) (A 7) (A 8) (A 0), (q 0, ia Z 12 (ni K)), (q 1, ia Z 12 (ni P)), (q 2, ia Z 6 (ni kd)), (q 3, ia Z 6 (ni am)), (q 4, ia Z 6 (ni st)), (q 5, ia Z 6 (ni rg))] (fun rr ww => ∃ rz : Nat → Nat, rr = none ∧ ww = [cO h q ((takeR A i) 21) ((takeR A i) 5) ((takeR A i) 6) ((takeR A i) 7) ((takeR A i) 8) ((takeR A i) 0), (q 0, ia Z 12 (ni K)), (q 1, ia Z 12 (ni P)), (q 2, ia Z 6 (ni kd)), (q 3, ia Z 6 (ni am)), (q 4, ia Z 6 (ni st)), (q 5, ia Z 6 (ni rz))] ∧ (rR (takeR A i) K P kd am st rz)) := by
  refine CT.of RX4 false rfl (fun h => by cases h) (by decide +kernel) (Nat.le_of_ble_eq_true rfl) ?_
  intro J hJ hE
  show J 0 [(0, .ref h), (1, .int (nI i))] [] [cO h q (A 21) (A 5) (A 6) (A 7) (A 8) (A 0), (q 0, ia Z 12 (ni K)), (q 1, ia Z 12 (ni P)), (q 2, ia Z 6 (ni kd)), (q 3, ia Z 6 (ni am)), (q 4, ia Z 6 (ni st)), (q 5, ia Z 6 (ni rg))] 0 0
  obtain ⟨⟨w1, w2, w3, w4, w5, w6⟩, hb, wr, wh, wd⟩ := id hw
  have hs := wr i h1
  refine j_aload_n hJ (q := 1) dX4_take_0 rfl 0 rfl rfl ?_
  refine j_get hJ (q := 4) jf_X4_27 dX4_take_1 0 rfl rfl rfl ?_
  refine j_iload_n hJ (q := 5) dX4_take_4 rfl 1 rfl rfl ?_
  refine j_aload_n hJ (q := 6) dX4_take_5 rfl 0 rfl rfl ?_
  refine j_get hJ (q := 9) jf_X4_27 dX4_take_6 0 rfl rfl rfl ?_
  refine j_iload_n hJ (q := 10) dX4_take_9 rfl 1 rfl rfl ?_
  refine j_ialdN hJ (q := 11) (z := nI (rg i)) dX4_take_10 6 rfl (by omega) (by decide) rfl rfl ?_
  refine j_top (congrArg nI (rR_r hR (i := i) (by omega))) ?_
  refine j_iconst hJ (q := 12) dX4_take_11 rfl ki_1 ?_
  refine j_iadd hJ (q := 13) dX4_take_12 rfl (nI_add _ _) ?_
  refine j_bipush hJ (q := 15) dX4_take_13 rfl kb_99 ?_
  refine j_min hJ (q := 18) (x := (A (9 + i) + 1)) (y := 99) tm_461 dX4_take_15 (by omega) (by omega) (by decide) (Nat.le_of_ble_eq_true rfl) (Nat.le_of_ble_eq_true rfl) (Nat.le_of_ble_eq_true rfl) rfl ?_
  refine j_iastN hJ (q := 19) (ws' := [cO h q (A 21) (A 5) (A 6) (A 7) (A 8) (A 0), (q 0, ia Z 12 (ni K)), (q 1, ia Z 12 (ni P)), (q 2, ia Z 6 (ni kd)), (q 3, ia Z 6 (ni am)), (q 4, ia Z 6 (ni st)), (q 5, ia Z 6 (ni (va_up rg i (if 99 < (A (9 + i) + 1) then 99 else A (9 + i) + 1))))]) dX4_take_18 6 rfl (by omega) (by decide) (ni_up _ _ _) rfl rfl ?_
  refine j_aload_n hJ (q := 20) dX4_take_19 rfl 0 rfl rfl ?_
  refine j_aload_n hJ (q := 21) dX4_take_20 rfl 0 rfl rfl ?_
  refine j_get hJ (q := 24) jf_X4_44 dX4_take_21 0 rfl rfl rfl ?_
  refine j_iconst hJ (q := 25) dX4_take_24 rfl ki_1 ?_
  refine j_iadd hJ (q := 26) dX4_take_25 rfl (nI_add _ _) ?_
  refine j_bipush hJ (q := 28) dX4_take_26 rfl kb_20 ?_
  refine j_min hJ (q := 31) (x := (A 7 + 1)) (y := 20) tm_461 dX4_take_28 (by omega) (by omega) (by decide) (Nat.le_of_ble_eq_true rfl) (Nat.le_of_ble_eq_true rfl) (Nat.le_of_ble_eq_true rfl) rfl ?_
  refine j_put hJ (q := 34) (ws' := [cO h q (A 21) (A 5) (A 6) (if 20 < (A 7 + 1) then 20 else A 7 + 1) (A 8) (A 0), (q 0, ia Z 12 (ni K)), (q 1, ia Z 12 (ni P)), (q 2, ia Z 6 (ni kd)), (q 3, ia Z 6 (ni am)), (q 4, ia Z 6 (ni st)), (q 5, ia Z 6 (ni (va_up rg i (if 99 < (A (9 + i) + 1) then 99 else A (9 + i) + 1))))]) jp_X4_44 dX4_take_31 0 rfl rfl rfl (Nat.le_of_ble_eq_true rfl) rfl rfl ?_
  have e7 : (if 20 < A 7 + 1 then 20 else A 7 + 1) = takeR A i 7 := by rw [takeR_7]; split <;> split <;> omega
  have e9 : (if 99 < A (9 + i) + 1 then 99 else A (9 + i) + 1) = takeR A i (9 + i) := by rw [takeR_9]; split <;> split <;> omega
  exact hE.2.2 _ _ _ _ _ rfl dX4_take_34 (Nat.le_refl _) (Nat.le_refl _) (⟨(va_up rg i (if 99 < (A (9 + i) + 1) then 99 else A (9 + i) + 1)), rfl, by rw [e7, takeR_ne A (j := 21) (by decide) (by omega), takeR_ne A (j := 5) (by decide) (by omega), takeR_ne A (j := 6) (by decide) (by omega), takeR_ne A (j := 8) (by decide) (by omega), takeR_ne A (j := 0) (by decide) (by omega)], rR_take hR h1 w6 w2 e9⟩)

set_option maxHeartbeats 4000000 in
set_option maxRecDepth 100000 in
theorem c_X4_whoReaches (Z : jZ) (h : Nat) (q : Nat → Nat) (A : Nat → Nat) (K : Nat → Nat) (P : Nat → Nat) (kd : Nat → Nat) (am : Nat → Nat) (st : Nat → Nat) (rg : Nat → Nat) (hw : wf A) (hR : rR A K P kd am st rg) : CR Z yX4_whoReaches cX4_whoReaches 2 ((some FieldType.int)) 3 [.ref h] [cO h q (A 21) (A 5) (A 6) (A 7) (A 8) (A 0), (q 0, ia Z 12 (ni K)), (q 1, ia Z 12 (ni P)), (q 2, ia Z 6 (ni kd)), (q 3, ia Z 6 (ni am)), (q 4, ia Z 6 (ni st)), (q 5, ia Z 6 (ni rg))] (fun rr => rr = some (.int (oI (rchr A)))) := by
  refine CR.of RX4 rfl (by decide +kernel) (Nat.le_of_ble_eq_true rfl) ?_
  intro J hJ hE
  show J 0 [(0, .ref h)] [] [cO h q (A 21) (A 5) (A 6) (A 7) (A 8) (A 0), (q 0, ia Z 12 (ni K)), (q 1, ia Z 12 (ni P)), (q 2, ia Z 6 (ni kd)), (q 3, ia Z 6 (ni am)), (q 4, ia Z 6 (ni st)), (q 5, ia Z 6 (ni rg))] 0 0
  obtain ⟨⟨w1, w2, w3, w4, w5, w6⟩, hb, wr, wh, wd⟩ := id hw
  refine j_aload_n hJ (q := 1) dX4_whoReaches_0 rfl 0 rfl rfl ?_
  refine j_aload_n hJ (q := 2) dX4_whoReaches_1 rfl 0 rfl rfl ?_
  refine j_aload_n hJ (q := 3) dX4_whoReaches_2 rfl 0 rfl rfl ?_
  refine j_get hJ (q := 6) jf_X4_34 dX4_whoReaches_3 0 rfl rfl rfl ?_
  refine j_aload_n hJ (q := 7) dX4_whoReaches_6 rfl 0 rfl rfl ?_
  refine j_get hJ (q := 10) jf_X4_38 dX4_whoReaches_7 0 rfl rfl rfl ?_
  refine j_isub hJ (q := 11) dX4_whoReaches_10 rfl (pk_sub (by omega)) ?_
  refine j_vR hJ (q := 14) (rest := [.ref h]) (As := [.int (nI (A 21 - (A 5)))]) jl_X4_63 (c_X4_around Z h q A (A 21 - (A 5)) (by omega) (by omega)) 0 rfl rfl dX4_whoReaches_11 rfl (by decide) (Nat.le_of_ble_eq_true rfl) [0] rfl rfl (fun rv hp => ?_)
  obtain rfl := hp
  show J 14 [(0, .ref h)] [.int (nI ((A 21 - (A 5)) % A 21)), .ref h] [cO h q (A 21) (A 5) (A 6) (A 7) (A 8) (A 0), (q 0, ia Z 12 (ni K)), (q 1, ia Z 12 (ni P)), (q 2, ia Z 6 (ni kd)), (q 3, ia Z 6 (ni am)), (q 4, ia Z 6 (ni st)), (q 5, ia Z 6 (ni rg))] 0 0
  have hm := Nat.mod_lt (A 21 - A 5) (show 0 < A 21 by omega)
  refine j_vR hJ (q := 17) (rest := []) (As := [.int (nI ((A 21 - (A 5)) % A 21))]) jl_X4_89 (c_X4_whoIsOn Z h q A K P kd am st rg ((A 21 - (A 5)) % A 21) hw hR (by omega)) 0 rfl rfl dX4_whoReaches_14 rfl (by decide) (Nat.le_of_ble_eq_true rfl) [0, 1, 2, 3, 4, 5, 6] rfl rfl (fun rv hp => ?_)
  obtain rfl := hp
  show J 17 [(0, .ref h)] [.int (oI (who A ((A 21 - (A 5)) % A 21)))] [cO h q (A 21) (A 5) (A 6) (A 7) (A 8) (A 0), (q 0, ia Z 12 (ni K)), (q 1, ia Z 12 (ni P)), (q 2, ia Z 6 (ni kd)), (q 3, ia Z 6 (ni am)), (q 4, ia Z 6 (ni st)), (q 5, ia Z 6 (ni rg))] 0 0
  refine j_caseo (fun o1 => ?_) (fun i2 o1 => ?_)
  · skip
    refine j_istore_n hJ (q := 18) (lvs' := [(1, .int (zI (-1))), (0, .ref h)]) dX4_whoReaches_17 rfl (by decide) rfl rfl ?_
    refine j_iload_n hJ (q := 19) dX4_whoReaches_18 rfl 0 rfl rfl ?_
    refine j_iconst hJ (q := 20) dX4_whoReaches_19 rfl ki_m1 ?_
    refine jz_icmp_eq hJ (q := 23) (tgt := 39) dX4_whoReaches_20 (by decide) rfl rfl rfl (by omega) (by omega) (fun c3 => ?_) (fun c3 => ?_)
    · skip
      refine j_iconst hJ (q := 40) dX4_whoReaches_39 rfl ki_m1 ?_
      exact hE.1 _ _ _ _ _ _ _ rfl rfl dX4_whoReaches_40 (Nat.le_refl _) (Nat.le_refl _) (congrArg (fun z => some (Value.int (oI z))) (show none = rchr A by first | exact (rchr_n0 o1).symm | exact (rchr_n1 o1 (by omega)).symm))
    · skip
      exfalso; omega
  · skip
    have hi := who_some o1
    refine j_istore_n hJ (q := 18) (lvs' := [(1, .int (nI i2)), (0, .ref h)]) dX4_whoReaches_17 rfl (by decide) rfl rfl ?_
    refine j_iload_n hJ (q := 19) dX4_whoReaches_18 rfl 0 rfl rfl ?_
    refine j_iconst hJ (q := 20) dX4_whoReaches_19 rfl ki_m1 ?_
    refine jz_icmp_eq hJ (q := 23) (tgt := 39) dX4_whoReaches_20 (by decide) rfl (zI_nat i2).symm rfl (by omega) (by omega) (fun c4 => ?_) (fun c4 => ?_)
    · skip
      exfalso; omega
    · skip
      refine j_aload_n hJ (q := 24) dX4_whoReaches_23 rfl 1 rfl rfl ?_
      refine j_iload_n hJ (q := 25) dX4_whoReaches_24 rfl 0 rfl rfl ?_
      refine j_vR hJ (q := 28) (rest := []) (As := [.int (nI i2)]) jl_X4_92 (c_X4_reachOf Z h q A K P kd am st rg i2 hw hR hi.1) 0 rfl rfl dX4_whoReaches_25 rfl (by decide) (Nat.le_of_ble_eq_true rfl) [0, 1, 2, 3, 4, 5, 6] rfl rfl (fun rv hp => ?_)
      obtain rfl := hp
      show J 28 [(1, .int (nI i2)), (0, .ref h)] [.int (nI (rchO A i2))] [cO h q (A 21) (A 5) (A 6) (A 7) (A 8) (A 0), (q 0, ia Z 12 (ni K)), (q 1, ia Z 12 (ni P)), (q 2, ia Z 6 (ni kd)), (q 3, ia Z 6 (ni am)), (q 4, ia Z 6 (ni st)), (q 5, ia Z 6 (ni rg))] 0 0
      have hro := rchO_le hw hi.1
      refine j_aload_n hJ (q := 29) dX4_whoReaches_28 rfl 1 rfl rfl ?_
      refine j_get hJ (q := 32) jf_X4_44 dX4_whoReaches_29 0 rfl rfl rfl ?_
      refine jn_icmp_lt hJ (q := 35) (tgt := 39) dX4_whoReaches_32 (by decide) rfl (by omega) (by omega) (fun c5 => ?_) (fun c5 => ?_)
      · skip
        refine j_iconst hJ (q := 40) dX4_whoReaches_39 rfl ki_m1 ?_
        exact hE.1 _ _ _ _ _ _ _ rfl rfl dX4_whoReaches_40 (Nat.le_refl _) (Nat.le_refl _) (congrArg (fun z => some (Value.int (oI z))) (show none = rchr A by first | exact (rchr_n0 o1).symm | exact (rchr_n1 o1 (by omega)).symm))
      · skip
        refine j_iload_n hJ (q := 36) dX4_whoReaches_35 rfl 0 rfl rfl ?_
        refine j_goto hJ (q := 40) dX4_whoReaches_36 (by decide) ?_
        exact hE.1 _ _ _ _ _ _ _ rfl rfl dX4_whoReaches_40 (Nat.le_refl _) (Nat.le_refl _) (congrArg (fun z => some (Value.int (oI z))) (show some i2 = rchr A by exact (rchr_s o1 (by omega)).symm))

set_option maxHeartbeats 4000000 in
set_option maxRecDepth 100000 in
theorem c_X4_step (Z : jZ) (h : Nat) (q : Nat → Nat) (A : Nat → Nat) (K : Nat → Nat) (P : Nat → Nat) (kd : Nat → Nat) (am : Nat → Nat) (st : Nat → Nat) (rg : Nat → Nat) (hw : wf A) (hR : rR A K P kd am st rg) (ht : A 8 + 1 < 100000) : CT Z yX4_step cX4_step 2 ((some FieldType.int)) 4 0 0 [.ref h] [cO h q (A 21) (A 5) (A 6) (A 7) (A 8) (A 0), (q 0, ia Z 12 (ni K)), (q 1, ia Z 12 (ni P)), (q 2, ia Z 6 (ni kd)), (q 3, ia Z 6 (ni am)), (q 4, ia Z 6 (ni st)), (q 5, ia Z 6 (ni rg))] (fun rr ww => ∃ rz : Nat → Nat, rr = some (.int (oI ((goT A false).1))) ∧ ww = [cO h q ((goT A false).2 21) ((goT A false).2 5) ((goT A false).2 6) ((goT A false).2 7) ((goT A false).2 8) ((goT A false).2 0), (q 0, ia Z 12 (ni K)), (q 1, ia Z 12 (ni P)), (q 2, ia Z 6 (ni kd)), (q 3, ia Z 6 (ni am)), (q 4, ia Z 6 (ni st)), (q 5, ia Z 6 (ni rz))] ∧ (rR ((goT A false).2) K P kd am st rz)) := by
  refine CT.of RX4 false rfl (fun h => by cases h) (by decide +kernel) (Nat.le_of_ble_eq_true rfl) ?_
  intro J hJ hE
  show J 0 [(0, .ref h)] [] [cO h q (A 21) (A 5) (A 6) (A 7) (A 8) (A 0), (q 0, ia Z 12 (ni K)), (q 1, ia Z 12 (ni P)), (q 2, ia Z 6 (ni kd)), (q 3, ia Z 6 (ni am)), (q 4, ia Z 6 (ni st)), (q 5, ia Z 6 (ni rg))] 0 0
  obtain ⟨⟨w1, w2, w3, w4, w5, w6⟩, hb, wr, wh, wd⟩ := id hw
  refine j_aload_n hJ (q := 1) dX4_step_0 rfl 0 rfl rfl ?_
  refine j_vW hJ (q := 4) (rest := []) (As := []) (wr := []) jl_X4_78 (c_X4_turn Z h q A K P kd am st rg hw) 0 rfl rfl dX4_step_1 rfl (by decide) (Nat.le_of_ble_eq_true rfl) [0, 1, 2, 3, 4, 5, 6] [] rfl rfl rfl rfl (by decide) rfl (fun rv wv hp => ?_)
  obtain ⟨rfl, rfl⟩ := hp
  show J 4 [(0, .ref h)] [] [cO h q ((tick1 A) 21) ((tick1 A) 5) ((tick1 A) 6) ((tick1 A) 7) ((tick1 A) 8) ((tick1 A) 0), (q 0, ia Z 12 (ni K)), (q 1, ia Z 12 (ni P)), (q 2, ia Z 6 (ni kd)), (q 3, ia Z 6 (ni am)), (q 4, ia Z 6 (ni st)), (q 5, ia Z 6 (ni rg))] 0 0
  have hwT := wf_tick1 hw ht
  have hRT := rR_tick hR w6 w2
  refine j_aload_n hJ (q := 5) dX4_step_4 rfl 0 rfl rfl ?_
  refine j_vR hJ (q := 8) (rest := []) (As := []) jl_X4_81 (c_X4_whoReaches Z h q (tick1 A) K P kd am st rg hwT hRT) 0 rfl rfl dX4_step_5 rfl (by decide) (Nat.le_of_ble_eq_true rfl) [0, 1, 2, 3, 4, 5, 6] rfl rfl (fun rv hp => ?_)
  obtain rfl := hp
  show J 8 [(0, .ref h)] [.int (oI (rchr (tick1 A)))] [cO h q ((tick1 A) 21) ((tick1 A) 5) ((tick1 A) 6) ((tick1 A) 7) ((tick1 A) 8) ((tick1 A) 0), (q 0, ia Z 12 (ni K)), (q 1, ia Z 12 (ni P)), (q 2, ia Z 6 (ni kd)), (q 3, ia Z 6 (ni am)), (q 4, ia Z 6 (ni st)), (q 5, ia Z 6 (ni rg))] 0 0
  refine j_caseo (fun o1 => ?_) (fun i2 o1 => ?_)
  · skip
    refine j_istore_n hJ (q := 9) (lvs' := [(1, .int (zI (-1))), (0, .ref h)]) dX4_step_8 rfl (by decide) rfl rfl ?_
    refine j_iload_n hJ (q := 10) dX4_step_9 rfl 0 rfl rfl ?_
    refine j_iconst hJ (q := 11) dX4_step_10 rfl ki_m1 ?_
    refine jz_icmp_eq hJ (q := 14) (tgt := 19) dX4_step_11 (by decide) rfl rfl rfl (by omega) (by omega) (fun c3 => ?_) (fun c3 => ?_)
    · skip
      refine j_iload_n hJ (q := 20) dX4_step_19 rfl 0 rfl rfl ?_
      have hg : goT A false = (none, tick1 A) := goT_n rfl (Or.inr o1)
      exact hE.1 _ _ _ _ _ _ _ rfl rfl dX4_step_20 (Nat.le_refl _) (Nat.le_refl _) (⟨rg, congrArg (fun z => some (Value.int (oI z))) (show none = (goT A false).1 by rw [hg]), by rw [hg], by rw [hg]; exact hRT⟩)
    · skip
      exfalso; omega
  · skip
    have hi := rchr_some o1
    have hi6 : tick1 A 0 = A 0 := rfl
    refine j_istore_n hJ (q := 9) (lvs' := [(1, .int (nI i2)), (0, .ref h)]) dX4_step_8 rfl (by decide) rfl rfl ?_
    refine j_iload_n hJ (q := 10) dX4_step_9 rfl 0 rfl rfl ?_
    refine j_iconst hJ (q := 11) dX4_step_10 rfl ki_m1 ?_
    refine jz_icmp_eq hJ (q := 14) (tgt := 19) dX4_step_11 (by decide) rfl (zI_nat i2).symm rfl (by omega) (by omega) (fun c4 => ?_) (fun c4 => ?_)
    · skip
      exfalso; omega
    · skip
      refine j_aload_n hJ (q := 15) dX4_step_14 rfl 1 rfl rfl ?_
      refine j_iload_n hJ (q := 16) dX4_step_15 rfl 0 rfl rfl ?_
      refine j_vW hJ (q := 19) (rest := []) (As := [.int (nI i2)]) (wr := []) jl_X4_85 (c_X4_take Z h q (tick1 A) K P kd am st rg i2 hwT hRT hi) 0 rfl rfl dX4_step_16 rfl (by decide) (Nat.le_of_ble_eq_true rfl) [0, 1, 2, 3, 4, 5, 6] [] rfl rfl rfl rfl (by decide) rfl (fun rv wv hp => ?_)
      obtain ⟨rz5, rfl, rfl, f6⟩ := hp
      show J 19 [(1, .int (nI i2)), (0, .ref h)] [] [cO h q ((takeR (tick1 A) i2) 21) ((takeR (tick1 A) i2) 5) ((takeR (tick1 A) i2) 6) ((takeR (tick1 A) i2) 7) ((takeR (tick1 A) i2) 8) ((takeR (tick1 A) i2) 0), (q 0, ia Z 12 (ni K)), (q 1, ia Z 12 (ni P)), (q 2, ia Z 6 (ni kd)), (q 3, ia Z 6 (ni am)), (q 4, ia Z 6 (ni st)), (q 5, ia Z 6 (ni rz5))] 0 0
      refine j_iload_n hJ (q := 20) dX4_step_19 rfl 0 rfl rfl ?_
      have hg : goT A false = (some i2, takeR (tick1 A) i2) := goT_s rfl rfl o1
      exact hE.1 _ _ _ _ _ _ _ rfl rfl dX4_step_20 (Nat.le_refl _) (Nat.le_refl _) (⟨rz5, congrArg (fun z => some (Value.int (oI z))) (show some i2 = (goT A false).1 by rw [hg]), by rw [hg], by rw [hg]; assumption⟩)
