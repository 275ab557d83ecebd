set_option maxHeartbeats 4000000 in
set_option maxRecDepth 100000 in
theorem c_X8_alikeBefore (Z : jZ) (h : Nat) (u : Nat → Nat) (ab : Int) (be : Int) (Rf : Nat → Nat) (Fo : Nat → Nat) (ft : Nat) (g : Nat) (h1 : ft < 256) (h2 : g < 8) (hFb : ∀ j, j ≤ g → Fo j < 100000) : CR Z yX8_alikeBefore cX8_alikeBefore 5 ((some FieldType.int)) 1 [.ref h, .int (nI ft), .int (nI g)] [xO h u ab be (Rf 0) (Rf 1) (Rf 2), (u 5, ia Z 8 (ni Fo))] (fun rr => rr = some (.int (nI (likeN Fo ft g g)))) := by
  refine CR.of RX8 rfl (by decide +kernel) (Nat.le_of_ble_eq_true rfl) ?_
  intro J hJ hE
  show J 0 [(0, .ref h), (1, .int (nI ft)), (2, .int (nI g))] [] [xO h u ab be (Rf 0) (Rf 1) (Rf 2), (u 5, ia Z 8 (ni Fo))] 0 0
  refine j_iconst hJ (q := 1) dX8_alikeBefore_0 rfl ki_0 ?_
  refine j_istore_n hJ (q := 2) (lvs' := [(3, .int (nI 0)), (0, .ref h), (1, .int (nI ft)), (2, .int (nI g))]) dX8_alikeBefore_1 rfl (by decide) rfl rfl ?_
  refine j_iconst hJ (q := 3) dX8_alikeBefore_2 rfl ki_0 ?_
  refine j_istore hJ (q := 5) (lvs' := [(4, .int (nI 0)), (3, .int (nI 0)), (0, .ref h), (1, .int (nI ft)), (2, .int (nI g))]) dX8_alikeBefore_3 (by decide) rfl rfl ?_
  have L_5 : ∀ (fu_5 : Nat) (al : Nat) (k : Nat), g - k < fu_5 → (k ≤ g) → (al = likeN Fo ft g k) → J 5 [(0, .ref h), (1, .int (nI ft)), (2, .int (nI g)), (3, .int (nI al)), (4, .int (nI k))] [] [xO h u ab be (Rf 0) (Rf 1) (Rf 2), (u 5, ia Z 8 (ni Fo))] 0 0 := by
    intro fu_5
    induction fu_5 with
    | zero => intro al k hm; exact absurd hm (Nat.not_lt_zero _)
    | succ fu_5 ih_5 =>
      intro al k hm_5 hk ha
      refine j_iload hJ (q := 7) dX8_alikeBefore_5 4 rfl rfl ?_
      refine j_iload_n hJ (q := 8) dX8_alikeBefore_7 rfl 2 rfl rfl ?_
      refine jn_icmp_ge hJ (q := 11) (tgt := 46) dX8_alikeBefore_8 (by decide) rfl (by omega) (by omega) (fun c1 => ?_) (fun c1 => ?_)
      · skip
        refine j_iload_n hJ (q := 47) dX8_alikeBefore_46 rfl 3 rfl rfl ?_
        exact hE.1 _ _ _ _ _ _ _ rfl rfl dX8_alikeBefore_47 (Nat.le_refl _) (Nat.le_refl _) (congrArg (fun z => some (Value.int (nI z))) (by rw [ha, show k = g by omega]))
      · skip
        refine j_iload_n hJ (q := 12) dX8_alikeBefore_11 rfl 1 rfl rfl ?_
        refine j_iload hJ (q := 14) dX8_alikeBefore_12 4 rfl rfl ?_
        have hdv := Nat.div_le_self ft (2 ^ k)
        refine j_ishr hJ (q := 15) dX8_alikeBefore_14 rfl (nI_shr (by omega) (by omega)) ?_
        refine j_iconst hJ (q := 16) dX8_alikeBefore_15 rfl ki_1 ?_
        refine j_iand hJ (q := 17) dX8_alikeBefore_16 rfl (nI_and1 (by omega)) ?_
        refine j_iconst hJ (q := 18) dX8_alikeBefore_17 rfl ki_1 ?_
        refine jn_icmp_ne hJ (q := 21) (tgt := 40) dX8_alikeBefore_18 (by decide) rfl (by omega) (by omega) (fun c2 => ?_) (fun c2 => ?_)
        · skip
          refine j_iinc hJ (q := 43) (lvs' := [(4, .int (nI (k + 1))), (0, .ref h), (1, .int (nI ft)), (2, .int (nI g)), (3, .int (nI al))]) dX8_alikeBefore_40 4 rfl (by rw [show Int32.ofInt 1 = nI 1 from by decide +kernel]; exact nI_add _ _) (by decide) rfl rfl ?_
          refine j_goto hJ (q := 5) dX8_alikeBefore_43 (by decide) ?_
          refine j_locals hJ [1, 2, 3, 4, 0] rfl ?_
          exact ih_5 al (k + 1) (by omega) (by omega) (by simp only [likeN]; rw [ha, if_neg (by omega), Nat.add_zero])
        · skip
          refine j_aload_n hJ (q := 22) dX8_alikeBefore_21 rfl 0 rfl rfl ?_
          refine j_get hJ (q := 25) jf_X8_48 dX8_alikeBefore_22 0 rfl rfl rfl ?_
          refine j_iload hJ (q := 27) dX8_alikeBefore_25 4 rfl rfl ?_
          refine j_ialdN hJ (q := 28) (z := nI (Fo k)) dX8_alikeBefore_27 1 rfl (by omega) (by decide) rfl rfl ?_
          have hq1 := hFb k (by omega)
          refine j_aload_n hJ (q := 29) dX8_alikeBefore_28 rfl 0 rfl rfl ?_
          refine j_get hJ (q := 32) jf_X8_48 dX8_alikeBefore_29 0 rfl rfl rfl ?_
          refine j_iload_n hJ (q := 33) dX8_alikeBefore_32 rfl 2 rfl rfl ?_
          refine j_ialdN hJ (q := 34) (z := nI (Fo g)) dX8_alikeBefore_33 1 rfl (by omega) (by decide) rfl rfl ?_
          have hq2 := hFb g (Nat.le_refl _)
          refine jn_icmp_ne hJ (q := 37) (tgt := 40) dX8_alikeBefore_34 (by decide) rfl (by omega) (by omega) (fun c3 => ?_) (fun c3 => ?_)
          · skip
            refine j_iinc hJ (q := 43) (lvs' := [(4, .int (nI (k + 1))), (0, .ref h), (1, .int (nI ft)), (2, .int (nI g)), (3, .int (nI al))]) dX8_alikeBefore_40 4 rfl (by rw [show Int32.ofInt 1 = nI 1 from by decide +kernel]; exact nI_add _ _) (by decide) rfl rfl ?_
            refine j_goto hJ (q := 5) dX8_alikeBefore_43 (by decide) ?_
            refine j_locals hJ [1, 2, 3, 4, 0] rfl ?_
            exact ih_5 al (k + 1) (by omega) (by omega) (by simp only [likeN]; rw [ha, if_neg (by omega), Nat.add_zero])
          · skip
            refine j_iinc hJ (q := 40) (lvs' := [(3, .int (nI (al + 1))), (0, .ref h), (1, .int (nI ft)), (2, .int (nI g)), (4, .int (nI k))]) dX8_alikeBefore_37 3 rfl (by rw [show Int32.ofInt 1 = nI 1 from by decide +kernel]; exact nI_add _ _) (by decide) rfl rfl ?_
            refine j_iinc hJ (q := 43) (lvs' := [(4, .int (nI (k + 1))), (3, .int (nI (al + 1))), (0, .ref h), (1, .int (nI ft)), (2, .int (nI g))]) dX8_alikeBefore_40 4 rfl (by rw [show Int32.ofInt 1 = nI 1 from by decide +kernel]; exact nI_add _ _) (by decide) rfl rfl ?_
            refine j_goto hJ (q := 5) dX8_alikeBefore_43 (by decide) ?_
            refine j_locals hJ [2, 3, 4, 1, 0] rfl ?_
            exact ih_5 (al + 1) (k + 1) (by omega) (by omega) (by simp only [likeN]; rw [ha, if_pos ⟨by assumption, by omega⟩])
  refine j_locals hJ [2, 3, 4, 1, 0] rfl ?_
  exact L_5 ((g - 0) + 1) 0 0 (Nat.lt_succ_self _) (by omega) rfl

set_option maxHeartbeats 4000000 in
set_option maxRecDepth 100000 in
theorem c_X8_foretell0 (Z : jZ) (h : Nat) (u : Nat → Nat) (ab : Int) (be : Int) (Rf : Nat → Nat) (s : Nat → Nat) (q : Nat → Nat) (A : Nat → Nat) (K : Nat → Nat) (P : Nat → Nat) (kd : Nat → Nat) (am : Nat → Nat) (st : Nat → Nat) (rg : Nat → Nat) (s1 : Nat) (g : Nat) (f1 : Nat) (f2 : Nat) (hg : wg A) (hR : rR A K P kd am st rg) (h1 : s1 < A 21) (h2 : g < 8) (h3 : f1 ≤ 10) (h4 : f2 ≤ 3) : CR Z yX8_foretell cX8_foretell 6 ((some FieldType.int)) 2 [.ref h, .int (nI 0), .int (nI s1), .int (nI g), .int (nI f1), .int (nI f2)] [xO h u ab be (Rf 0) (Rf 1) (Rf 2), (u 0, .inr (4, [.ref (s 0), .ref (s 1), .ref (s 3), .ref (s 5), .ref (s 7)])), cO (s 0) q (A 21) (A 5) (A 6) (A 7) (A 8) (A 0), (q 0, ia Z 12 (ni K)), (q 1, ia Z 12 (ni P)), (q 2, ia Z 6 (ni kd)), (q 3, ia Z 6 (ni am)), (q 4, ia Z 6 (ni st)), (q 5, ia Z 6 (ni rg))] (fun rr => rr = some (.int (nI (hgh (A (34 + s1)) g f1 f2)))) := by
  refine CR.of RX8 rfl (by decide +kernel) (Nat.le_of_ble_eq_true rfl) ?_
  intro J hJ hE
  show J 0 [(0, .ref h), (1, .int (nI 0)), (2, .int (nI s1)), (3, .int (nI g)), (4, .int (nI f1)), (5, .int (nI f2))] [] [xO h u ab be (Rf 0) (Rf 1) (Rf 2), (u 0, .inr (4, [.ref (s 0), .ref (s 1), .ref (s 3), .ref (s 5), .ref (s 7)])), cO (s 0) q (A 21) (A 5) (A 6) (A 7) (A 8) (A 0), (q 0, ia Z 12 (ni K)), (q 1, ia Z 12 (ni P)), (q 2, ia Z 6 (ni kd)), (q 3, ia Z 6 (ni am)), (q 4, ia Z 6 (ni st)), (q 5, ia Z 6 (ni rg))] 0 0
  obtain ⟨hw, ⟨g1, g2, g3, g4, g8⟩, hrs, hrn, hrm, hpst⟩ := id hg
  obtain ⟨⟨w1, w2, w3, w4, w5, w6⟩, hb, wr, wh, wd⟩ := id hw
  have hk5 := wh s1 (by omega)
  refine j_iload_n hJ (q := 1) dX8_foretell_0 rfl 1 rfl rfl ?_
  refine jn_lookup hJ (q := 28) (k := 0) (off := 27) dX8_foretell_1 (by decide) (by decide) (by decide) ?_
  refine j_aload_n hJ (q := 29) dX8_foretell_28 rfl 0 rfl rfl ?_
  refine j_get hJ (q := 32) jf_X8_10 dX8_foretell_29 0 rfl rfl rfl ?_
  refine j_get hJ (q := 35) jf_X8_66 dX8_foretell_32 1 rfl rfl rfl ?_
  refine j_get hJ (q := 38) jf_X8_84 dX8_foretell_35 2 rfl rfl rfl ?_
  refine j_iload_n hJ (q := 39) dX8_foretell_38 rfl 2 rfl rfl ?_
  refine j_ialdN hJ (q := 40) (z := nI (K s1)) dX8_foretell_39 3 rfl (by omega) (by decide) rfl rfl ?_
  refine j_top (congrArg nI (rR_K hR (i := s1) (by omega))) ?_
  have b1 := hb (34 + s1)
  refine j_iload hJ (q := 42) dX8_foretell_40 4 rfl rfl ?_
  refine j_iload_n hJ (q := 43) dX8_foretell_42 rfl 3 rfl rfl ?_
  refine j_iload hJ (q := 45) dX8_foretell_43 5 rfl rfl ?_
  refine j_sR hJ (q := 48) (rest := []) (As := [.int (nI (A (34 + s1))), .int (nI f1), .int (nI g), .int (nI f2)]) jl_X8_300 (c_X1_high Z (A (34 + s1)) f1 g f2 (by omega) (by omega) (by omega) (by omega)) dX8_foretell_45 rfl (by decide) (Nat.le_of_ble_eq_true rfl) [] rfl rfl (fun rv hp => ?_)
  obtain rfl := hp
  show J 48 [(0, .ref h), (1, .int (nI 0)), (2, .int (nI s1)), (3, .int (nI g)), (4, .int (nI f1)), (5, .int (nI f2))] [.int (nI (hgh (A (34 + s1)) g f1 f2))] [xO h u ab be (Rf 0) (Rf 1) (Rf 2), (u 0, .inr (4, [.ref (s 0), .ref (s 1), .ref (s 3), .ref (s 5), .ref (s 7)])), cO (s 0) q (A 21) (A 5) (A 6) (A 7) (A 8) (A 0), (q 0, ia Z 12 (ni K)), (q 1, ia Z 12 (ni P)), (q 2, ia Z 6 (ni kd)), (q 3, ia Z 6 (ni am)), (q 4, ia Z 6 (ni st)), (q 5, ia Z 6 (ni rg))] 0 0
  exact hE.1 _ _ _ _ _ _ _ rfl rfl dX8_foretell_48 (Nat.le_refl _) (Nat.le_refl _) (congrArg (fun z => some (Value.int (nI z))) (by rfl))

set_option maxHeartbeats 4000000 in
set_option maxRecDepth 100000 in
theorem c_X8_mostLeft0 (Z : jZ) (h : Nat) (u : Nat → Nat) (ab : Int) (be : Int) (Rf : Nat → Nat) (s : Nat → Nat) (q : Nat → Nat) (A : Nat → Nat) (K : Nat → Nat) (P : Nat → Nat) (kd : Nat → Nat) (am : Nat → Nat) (st : Nat → Nat) (rg : Nat → Nat) (Fo : Nat → Nat) (s1 : Nat) (ft : Nat) (f1 : Nat) (f2 : Nat) (hg : wg A) (hR : rR A K P kd am st rg) (h1 : s1 < A 21) (hft : ft < 256) (h3 : f1 ≤ 10) (h4 : f2 ≤ 3) : CT Z yX8_mostLeft cX8_mostLeft 8 ((some FieldType.int)) 3 0 0 [.ref h, .int (nI 0), .int (nI s1), .int (nI ft), .int (nI f1), .int (nI f2)] [xO h u ab be (Rf 0) (Rf 1) (Rf 2), (u 0, .inr (4, [.ref (s 0), .ref (s 1), .ref (s 3), .ref (s 5), .ref (s 7)])), cO (s 0) q (A 21) (A 5) (A 6) (A 7) (A 8) (A 0), (q 0, ia Z 12 (ni K)), (q 1, ia Z 12 (ni P)), (q 2, ia Z 6 (ni kd)), (q 3, ia Z 6 (ni am)), (q 4, ia Z 6 (ni st)), (q 5, ia Z 6 (ni rg)), (u 5, ia Z 8 (ni Fo))] (fun rr ww => ∃ Fx : Nat → Nat, rr = some (.int (nI (fTell A s1 ft f1 f2))) ∧ ww = [xO h u ab be (Rf 0) (Rf 1) (Rf 2), (u 0, .inr (4, [.ref (s 0), .ref (s 1), .ref (s 3), .ref (s 5), .ref (s 7)])), cO (s 0) q (A 21) (A 5) (A 6) (A 7) (A 8) (A 0), (q 0, ia Z 12 (ni K)), (q 1, ia Z 12 (ni P)), (q 2, ia Z 6 (ni kd)), (q 3, ia Z 6 (ni am)), (q 4, ia Z 6 (ni st)), (q 5, ia Z 6 (ni rg)), (u 5, ia Z 8 (ni Fx))]) := by
  refine CT.of RX8 false rfl (fun h => by cases h) (by decide +kernel) (Nat.le_of_ble_eq_true rfl) ?_
  intro J hJ hE
  show J 0 [(0, .ref h), (1, .int (nI 0)), (2, .int (nI s1)), (3, .int (nI ft)), (4, .int (nI f1)), (5, .int (nI f2))] [] [xO h u ab be (Rf 0) (Rf 1) (Rf 2), (u 0, .inr (4, [.ref (s 0), .ref (s 1), .ref (s 3), .ref (s 5), .ref (s 7)])), cO (s 0) q (A 21) (A 5) (A 6) (A 7) (A 8) (A 0), (q 0, ia Z 12 (ni K)), (q 1, ia Z 12 (ni P)), (q 2, ia Z 6 (ni kd)), (q 3, ia Z 6 (ni am)), (q 4, ia Z 6 (ni st)), (q 5, ia Z 6 (ni rg)), (u 5, ia Z 8 (ni Fo))] 0 0
  obtain ⟨hw, ⟨g1, g2, g3, g4, g8⟩, hrs, hrn, hrm, hpst⟩ := id hg
  obtain ⟨⟨w1, w2, w3, w4, w5, w6⟩, hb, wr, wh, wd⟩ := id hw
  have hk5 := wh s1 (by omega)
  refine j_iconst hJ (q := 1) dX8_mostLeft_0 rfl ki_0 ?_
  refine j_istore hJ (q := 3) (lvs' := [(6, .int (nI 0)), (0, .ref h), (1, .int (nI 0)), (2, .int (nI s1)), (3, .int (nI ft)), (4, .int (nI f1)), (5, .int (nI f2))]) dX8_mostLeft_1 (by decide) rfl rfl ?_
  refine j_iconst hJ (q := 4) dX8_mostLeft_3 rfl ki_0 ?_
  refine j_istore hJ (q := 6) (lvs' := [(7, .int (nI 0)), (6, .int (nI 0)), (0, .ref h), (1, .int (nI 0)), (2, .int (nI s1)), (3, .int (nI ft)), (4, .int (nI f1)), (5, .int (nI f2))]) dX8_mostLeft_4 (by decide) rfl rfl ?_
  have L_6 : ∀ (fu_6 : Nat) (Fb : Nat → Nat) (mo : Nat) (g : Nat), 8 - g < fu_6 → (g ≤ 8) → (∀ j, j < g → Fb j = (fun p => hgh (A (34 + s1)) p f1 f2) j) → (mo ≤ 8) → (mo = mxN (fun p => hgh (A (34 + s1)) p f1 f2) ft g) → J 6 [(0, .ref h), (1, .int (nI 0)), (2, .int (nI s1)), (3, .int (nI ft)), (4, .int (nI f1)), (5, .int (nI f2)), (6, .int (nI mo)), (7, .int (nI g))] [] [xO h u ab be (Rf 0) (Rf 1) (Rf 2), (u 0, .inr (4, [.ref (s 0), .ref (s 1), .ref (s 3), .ref (s 5), .ref (s 7)])), cO (s 0) q (A 21) (A 5) (A 6) (A 7) (A 8) (A 0), (q 0, ia Z 12 (ni K)), (q 1, ia Z 12 (ni P)), (q 2, ia Z 6 (ni kd)), (q 3, ia Z 6 (ni am)), (q 4, ia Z 6 (ni st)), (q 5, ia Z 6 (ni rg)), (u 5, ia Z 8 (ni Fb))] 0 0 := by
    intro fu_6
    induction fu_6 with
    | zero => intro Fb mo g hm; exact absurd hm (Nat.not_lt_zero _)
    | succ fu_6 ih_6 =>
      intro Fb mo g hm_6 hg1 hF hml hmo
      refine j_iload hJ (q := 8) dX8_mostLeft_6 7 rfl rfl ?_
      refine j_iload_n hJ (q := 9) dX8_mostLeft_8 rfl 1 rfl rfl ?_
      refine j_sR hJ (q := 12) (rest := [.int (nI g)]) (As := [.int (nI 0)]) jl_X8_287 (c_X8_howManyGuessed0 Z  ) dX8_mostLeft_9 rfl (by decide) (Nat.le_of_ble_eq_true rfl) [] rfl rfl (fun rv hp => ?_)
      obtain rfl := hp
      show J 12 [(0, .ref h), (1, .int (nI 0)), (2, .int (nI s1)), (3, .int (nI ft)), (4, .int (nI f1)), (5, .int (nI f2)), (6, .int (nI mo)), (7, .int (nI g))] [.int (nI 8), .int (nI g)] [xO h u ab be (Rf 0) (Rf 1) (Rf 2), (u 0, .inr (4, [.ref (s 0), .ref (s 1), .ref (s 3), .ref (s 5), .ref (s 7)])), cO (s 0) q (A 21) (A 5) (A 6) (A 7) (A 8) (A 0), (q 0, ia Z 12 (ni K)), (q 1, ia Z 12 (ni P)), (q 2, ia Z 6 (ni kd)), (q 3, ia Z 6 (ni am)), (q 4, ia Z 6 (ni st)), (q 5, ia Z 6 (ni rg)), (u 5, ia Z 8 (ni Fb))] 0 0
      refine jn_icmp_ge hJ (q := 15) (tgt := 66) dX8_mostLeft_12 (by decide) rfl (by omega) (by omega) (fun c1 => ?_) (fun c1 => ?_)
      · skip
        refine j_iload hJ (q := 68) dX8_mostLeft_66 6 rfl rfl ?_
        exact hE.1 _ _ _ _ _ _ _ rfl rfl dX8_mostLeft_68 (Nat.le_refl _) (Nat.le_refl _) (⟨Fb, congrArg (fun z => some (Value.int (nI z))) (by rw [hmo, show g = 8 by omega]; exact mxN_top), rfl⟩)
      · skip
        refine j_aload_n hJ (q := 16) dX8_mostLeft_15 rfl 0 rfl rfl ?_
        refine j_get hJ (q := 19) jf_X8_48 dX8_mostLeft_16 0 rfl rfl rfl ?_
        refine j_iload hJ (q := 21) dX8_mostLeft_19 7 rfl rfl ?_
        refine j_aload_n hJ (q := 22) dX8_mostLeft_21 rfl 0 rfl rfl ?_
        refine j_iload_n hJ (q := 23) dX8_mostLeft_22 rfl 1 rfl rfl ?_
        refine j_iload_n hJ (q := 24) dX8_mostLeft_23 rfl 2 rfl rfl ?_
        refine j_iload hJ (q := 26) dX8_mostLeft_24 7 rfl rfl ?_
        refine j_iload hJ (q := 28) dX8_mostLeft_26 4 rfl rfl ?_
        refine j_iload hJ (q := 30) dX8_mostLeft_28 5 rfl rfl ?_
        refine j_vR hJ (q := 33) (rest := [.int (nI g), .ref (u 5)]) (As := [.int (nI 0), .int (nI s1), .int (nI g), .int (nI f1), .int (nI f2)]) jl_X8_315 (c_X8_foretell0 Z h u ab be Rf s q A K P kd am st rg s1 g f1 f2 hg hR (by omega) (by omega) (by omega) (by omega)) 0 rfl rfl dX8_mostLeft_30 rfl (by decide) (Nat.le_of_ble_eq_true rfl) [0, 1, 2, 3, 4, 5, 6, 7, 8] rfl rfl (fun rv hp => ?_)
        obtain rfl := hp
        show J 33 [(0, .ref h), (1, .int (nI 0)), (2, .int (nI s1)), (3, .int (nI ft)), (4, .int (nI f1)), (5, .int (nI f2)), (6, .int (nI mo)), (7, .int (nI g))] [.int (nI (hgh (A (34 + s1)) g f1 f2)), .int (nI g), .ref (u 5)] [xO h u ab be (Rf 0) (Rf 1) (Rf 2), (u 0, .inr (4, [.ref (s 0), .ref (s 1), .ref (s 3), .ref (s 5), .ref (s 7)])), cO (s 0) q (A 21) (A 5) (A 6) (A 7) (A 8) (A 0), (q 0, ia Z 12 (ni K)), (q 1, ia Z 12 (ni P)), (q 2, ia Z 6 (ni kd)), (q 3, ia Z 6 (ni am)), (q 4, ia Z 6 (ni st)), (q 5, ia Z 6 (ni rg)), (u 5, ia Z 8 (ni Fb))] 0 0
        refine j_iastN hJ (q := 34) (ws' := [xO h u ab be (Rf 0) (Rf 1) (Rf 2), (u 0, .inr (4, [.ref (s 0), .ref (s 1), .ref (s 3), .ref (s 5), .ref (s 7)])), cO (s 0) q (A 21) (A 5) (A 6) (A 7) (A 8) (A 0), (q 0, ia Z 12 (ni K)), (q 1, ia Z 12 (ni P)), (q 2, ia Z 6 (ni kd)), (q 3, ia Z 6 (ni am)), (q 4, ia Z 6 (ni st)), (q 5, ia Z 6 (ni rg)), (u 5, ia Z 8 (ni (va_up Fb g (hgh (A (34 + s1)) g f1 f2))))]) dX8_mostLeft_33 9 rfl (by omega) (by decide) (ni_up _ _ _) rfl rfl ?_
        obtain ⟨C, e_C⟩ : ∃ z : Nat → Nat, z = va_up Fb g (hgh (A (34 + s1)) g f1 f2) := ⟨_, rfl⟩
        refine j_eqw (ws' := [xO h u ab be (Rf 0) (Rf 1) (Rf 2), (u 0, .inr (4, [.ref (s 0), .ref (s 1), .ref (s 3), .ref (s 5), .ref (s 7)])), cO (s 0) q (A 21) (A 5) (A 6) (A 7) (A 8) (A 0), (q 0, ia Z 12 (ni K)), (q 1, ia Z 12 (ni P)), (q 2, ia Z 6 (ni kd)), (q 3, ia Z 6 (ni am)), (q 4, ia Z 6 (ni st)), (q 5, ia Z 6 (ni rg)), (u 5, ia Z 8 (ni C))]) (by subst e_C; rfl) ?_
        have hC : ∀ j, j < g + 1 → C j = (fun p => hgh (A (34 + s1)) p f1 f2) j := fun j hj => by rw [e_C]; simp only [va_up]; by_cases hjg : j = g <;> simp only [hjg, if_true, if_false]; exact hF j (by omega)
        have hlk : likeN C ft g g = likeN (fun p => hgh (A (34 + s1)) p f1 f2) ft g g := likeN_ext (hC g (by omega)) g (fun b hb _ => hC b (by omega))
        have hll := likeN_le C ft g g
        have hdv := Nat.div_le_self ft (2 ^ g)
        refine j_iload_n hJ (q := 35) dX8_mostLeft_34 rfl 3 rfl rfl ?_
        refine j_iload hJ (q := 37) dX8_mostLeft_35 7 rfl rfl ?_
        refine j_ishr hJ (q := 38) dX8_mostLeft_37 rfl (nI_shr (by omega) (by omega)) ?_
        refine j_iconst hJ (q := 39) dX8_mostLeft_38 rfl ki_1 ?_
        refine j_iand hJ (q := 40) dX8_mostLeft_39 rfl (nI_and1 (by omega)) ?_
        refine j_iconst hJ (q := 41) dX8_mostLeft_40 rfl ki_1 ?_
        refine jn_icmp_ne hJ (q := 44) (tgt := 60) dX8_mostLeft_41 (by decide) rfl (by omega) (by omega) (fun c2 => ?_) (fun c2 => ?_)
        · skip
          refine j_iinc hJ (q := 63) (lvs' := [(7, .int (nI (g + 1))), (0, .ref h), (1, .int (nI 0)), (2, .int (nI s1)), (3, .int (nI ft)), (4, .int (nI f1)), (5, .int (nI f2)), (6, .int (nI mo))]) dX8_mostLeft_60 7 rfl (by rw [show Int32.ofInt 1 = nI 1 from by decide +kernel]; exact nI_add _ _) (by decide) rfl rfl ?_
          refine j_goto hJ (q := 6) dX8_mostLeft_63 (by decide) ?_
          refine j_locals hJ [1, 2, 3, 4, 5, 6, 7, 0] rfl ?_
          exact ih_6 C mo (g + 1) (by omega) (by omega) hC (by first | assumption | (split <;> omega)) (by simp only [mxN]; rw [if_neg (show ¬ ft / 2 ^ g % 2 = 1 by assumption), ← hmo])
        · skip
          refine j_iload hJ (q := 46) dX8_mostLeft_44 6 rfl rfl ?_
          refine j_iconst hJ (q := 47) dX8_mostLeft_46 rfl ki_1 ?_
          refine j_aload_n hJ (q := 48) dX8_mostLeft_47 rfl 0 rfl rfl ?_
          refine j_iload_n hJ (q := 49) dX8_mostLeft_48 rfl 3 rfl rfl ?_
          refine j_iload hJ (q := 51) dX8_mostLeft_49 7 rfl rfl ?_
          refine j_vR hJ (q := 54) (rest := [.int (nI 1), .int (nI mo)]) (As := [.int (nI ft), .int (nI g)]) jl_X8_318 (c_X8_alikeBefore Z h u ab be Rf C ft g (by omega) (by omega) (fun j hj => by rw [hC j (by omega)]; exact Nat.lt_of_le_of_lt (hgh_le h4) (by decide : 10 < 100000))) 0 rfl rfl dX8_mostLeft_51 rfl (by decide) (Nat.le_of_ble_eq_true rfl) [0, 9] rfl rfl (fun rv hp => ?_)
          obtain rfl := hp
          show J 54 [(0, .ref h), (1, .int (nI 0)), (2, .int (nI s1)), (3, .int (nI ft)), (4, .int (nI f1)), (5, .int (nI f2)), (6, .int (nI mo)), (7, .int (nI g))] [.int (nI (likeN C ft g g)), .int (nI 1), .int (nI mo)] [xO h u ab be (Rf 0) (Rf 1) (Rf 2), (u 0, .inr (4, [.ref (s 0), .ref (s 1), .ref (s 3), .ref (s 5), .ref (s 7)])), cO (s 0) q (A 21) (A 5) (A 6) (A 7) (A 8) (A 0), (q 0, ia Z 12 (ni K)), (q 1, ia Z 12 (ni P)), (q 2, ia Z 6 (ni kd)), (q 3, ia Z 6 (ni am)), (q 4, ia Z 6 (ni st)), (q 5, ia Z 6 (ni rg)), (u 5, ia Z 8 (ni C))] 0 0
          refine j_iadd hJ (q := 55) dX8_mostLeft_54 rfl (nI_add _ _) ?_
          refine j_max hJ (q := 58) (x := mo) (y := (1 + (likeN C ft g g))) tm_643 dX8_mostLeft_55 (by omega) (by omega) (by decide) (Nat.le_of_ble_eq_true rfl) (Nat.le_of_ble_eq_true rfl) (Nat.le_of_ble_eq_true rfl) rfl ?_
          refine j_istore hJ (q := 60) (lvs' := [(6, .int (nI (if mo < (1 + (likeN C ft g g)) then 1 + (likeN C ft g g) else mo))), (0, .ref h), (1, .int (nI 0)), (2, .int (nI s1)), (3, .int (nI ft)), (4, .int (nI f1)), (5, .int (nI f2)), (7, .int (nI g))]) dX8_mostLeft_58 (by decide) rfl rfl ?_
          refine j_iinc hJ (q := 63) (lvs' := [(7, .int (nI (g + 1))), (6, .int (nI (if mo < (1 + (likeN C ft g g)) then 1 + (likeN C ft g g) else mo))), (0, .ref h), (1, .int (nI 0)), (2, .int (nI s1)), (3, .int (nI ft)), (4, .int (nI f1)), (5, .int (nI f2))]) dX8_mostLeft_60 7 rfl (by rw [show Int32.ofInt 1 = nI 1 from by decide +kernel]; exact nI_add _ _) (by decide) rfl rfl ?_
          refine j_goto hJ (q := 6) dX8_mostLeft_63 (by decide) ?_
          refine j_locals hJ [2, 3, 4, 5, 6, 7, 1, 0] rfl ?_
          exact ih_6 C (if mo < (1 + (likeN C ft g g)) then 1 + (likeN C ft g g) else mo) (g + 1) (by omega) (by omega) hC (by first | assumption | (split <;> omega)) (by simp only [mxN]; rw [if_pos (show ft / 2 ^ g % 2 = 1 by assumption), ← hmo, ← hlk])
  refine j_locals hJ [2, 3, 4, 5, 6, 7, 1, 0] rfl ?_
  exact L_6 ((8 - 0) + 1) Fo 0 0 (Nat.lt_succ_self _) (by omega) (fun j hj => absurd hj (Nat.not_lt_zero _)) (by omega) rfl

set_option maxHeartbeats 4000000 in
set_option maxRecDepth 100000 in
theorem c_X8_bestLook0 (Z : jZ) (h : Nat) (u : Nat → Nat) (ab : Int) (be : Int) (Rf : Nat → Nat) (s : Nat → Nat) (q : Nat → Nat) (A : Nat → Nat) (K : Nat → Nat) (P : Nat → Nat) (kd : Nat → Nat) (am : Nat → Nat) (st : Nat → Nat) (rg : Nat → Nat) (Ro : Nat → Nat) (Sn : Nat → Nat) (Nt : Nat → Nat) (Mk : Nat → Nat) (Fo : Nat → Nat) (s1 : Nat) (hg : wg A) (hA : rA A K P kd am st rg Ro Sn Nt Mk) (h1 : s1 < A 21) : CT Z yX8_bestLook cX8_bestLook 11 ((some FieldType.int)) 5 0 0 [.ref h, .int (nI 0), .int (nI s1)] [xO h u ab be (Rf 0) (Rf 1) (Rf 2), (u 0, .inr (4, [.ref (s 0), .ref (s 1), .ref (s 3), .ref (s 5), .ref (s 7)])), cO (s 0) q (A 21) (A 5) (A 6) (A 7) (A 8) (A 0), (q 0, ia Z 12 (ni K)), (q 1, ia Z 12 (ni P)), (q 2, ia Z 6 (ni kd)), (q 3, ia Z 6 (ni am)), (q 4, ia Z 6 (ni st)), (q 5, ia Z 6 (ni rg)), (s 1, .inr (1, [.int (nI (A 4)), .ref (s 2)])), (s 2, ia Z 128 (ni Ro)), (s 3, .inr (3, [.int (nI (A 1)), .int (nI 4), .int (nI 5), .ref (s 4)])), (s 4, ia Z 30 (ni Sn)), (s 5, .inr (3, [.int (nI (A 2)), .int (nI 5), .int (nI 6), .ref (s 6)])), (s 6, ia Z 30 (ni Nt)), (s 7, .inr (3, [.int (nI (A 3)), .int (nI 5), .int (nI 6), .ref (s 8)])), (s 8, ia Z 30 (ni Mk)), (u 5, ia Z 8 (ni Fo))] (fun rr ww => ∃ Fx : Nat → Nat, rr = some (.int (zI (mnz (fTell A s1 (phs A s1)) 4 8 (phs A s1)))) ∧ ww = [xO h u ab be (Rf 0) (Rf 1) (Rf 2), (u 0, .inr (4, [.ref (s 0), .ref (s 1), .ref (s 3), .ref (s 5), .ref (s 7)])), cO (s 0) q (A 21) (A 5) (A 6) (A 7) (A 8) (A 0), (q 0, ia Z 12 (ni K)), (q 1, ia Z 12 (ni P)), (q 2, ia Z 6 (ni kd)), (q 3, ia Z 6 (ni am)), (q 4, ia Z 6 (ni st)), (q 5, ia Z 6 (ni rg)), (s 1, .inr (1, [.int (nI (A 4)), .ref (s 2)])), (s 2, ia Z 128 (ni Ro)), (s 3, .inr (3, [.int (nI (A 1)), .int (nI 4), .int (nI 5), .ref (s 4)])), (s 4, ia Z 30 (ni Sn)), (s 5, .inr (3, [.int (nI (A 2)), .int (nI 5), .int (nI 6), .ref (s 6)])), (s 6, ia Z 30 (ni Nt)), (s 7, .inr (3, [.int (nI (A 3)), .int (nI 5), .int (nI 6), .ref (s 8)])), (s 8, ia Z 30 (ni Mk)), (u 5, ia Z 8 (ni Fx))]) := by
  refine CT.of RX8 false rfl (fun h => by cases h) (by decide +kernel) (Nat.le_of_ble_eq_true rfl) ?_
  intro J hJ hE
  show J 0 [(0, .ref h), (1, .int (nI 0)), (2, .int (nI s1))] [] [xO h u ab be (Rf 0) (Rf 1) (Rf 2), (u 0, .inr (4, [.ref (s 0), .ref (s 1), .ref (s 3), .ref (s 5), .ref (s 7)])), cO (s 0) q (A 21) (A 5) (A 6) (A 7) (A 8) (A 0), (q 0, ia Z 12 (ni K)), (q 1, ia Z 12 (ni P)), (q 2, ia Z 6 (ni kd)), (q 3, ia Z 6 (ni am)), (q 4, ia Z 6 (ni st)), (q 5, ia Z 6 (ni rg)), (s 1, .inr (1, [.int (nI (A 4)), .ref (s 2)])), (s 2, ia Z 128 (ni Ro)), (s 3, .inr (3, [.int (nI (A 1)), .int (nI 4), .int (nI 5), .ref (s 4)])), (s 4, ia Z 30 (ni Sn)), (s 5, .inr (3, [.int (nI (A 2)), .int (nI 5), .int (nI 6), .ref (s 6)])), (s 6, ia Z 30 (ni Nt)), (s 7, .inr (3, [.int (nI (A 3)), .int (nI 5), .int (nI 6), .ref (s 8)])), (s 8, ia Z 30 (ni Mk)), (u 5, ia Z 8 (ni Fo))] 0 0
  obtain ⟨hw, ⟨g1, g2, g3, g4, g8⟩, hrs, hrn, hrm, hpst⟩ := id hg
  obtain ⟨⟨w1, w2, w3, w4, w5, w6⟩, hb, wr, wh, wd⟩ := id hw
  obtain ⟨hR, hX⟩ := id hA
  obtain ⟨hP, hSn, hNt, hMk⟩ := id hX
  refine j_aload_n hJ (q := 1) dX8_bestLook_0 rfl 0 rfl rfl ?_
  refine j_iload_n hJ (q := 2) dX8_bestLook_1 rfl 1 rfl rfl ?_
  refine j_iload_n hJ (q := 3) dX8_bestLook_2 rfl 2 rfl rfl ?_
  refine j_vR hJ (q := 6) (rest := []) (As := [.int (nI 0), .int (nI s1)]) jl_X8_211 (c_X8_thoseThatFit0 Z h u ab be Rf s q A K P kd am st rg Ro Sn Nt Mk s1 hg hA (by omega)) 0 rfl rfl dX8_bestLook_3 rfl (by decide) (Nat.le_of_ble_eq_true rfl) [0, 1, 2, 3, 4, 5, 6, 7, 8, 9, 10, 11, 12, 13, 14, 15, 16] rfl rfl (fun rv hp => ?_)
  obtain rfl := hp
  show J 6 [(0, .ref h), (1, .int (nI 0)), (2, .int (nI s1))] [.int (nI (phs A s1))] [xO h u ab be (Rf 0) (Rf 1) (Rf 2), (u 0, .inr (4, [.ref (s 0), .ref (s 1), .ref (s 3), .ref (s 5), .ref (s 7)])), cO (s 0) q (A 21) (A 5) (A 6) (A 7) (A 8) (A 0), (q 0, ia Z 12 (ni K)), (q 1, ia Z 12 (ni P)), (q 2, ia Z 6 (ni kd)), (q 3, ia Z 6 (ni am)), (q 4, ia Z 6 (ni st)), (q 5, ia Z 6 (ni rg)), (s 1, .inr (1, [.int (nI (A 4)), .ref (s 2)])), (s 2, ia Z 128 (ni Ro)), (s 3, .inr (3, [.int (nI (A 1)), .int (nI 4), .int (nI 5), .ref (s 4)])), (s 4, ia Z 30 (ni Sn)), (s 5, .inr (3, [.int (nI (A 2)), .int (nI 5), .int (nI 6), .ref (s 6)])), (s 6, ia Z 30 (ni Nt)), (s 7, .inr (3, [.int (nI (A 3)), .int (nI 5), .int (nI 6), .ref (s 8)])), (s 8, ia Z 30 (ni Mk)), (u 5, ia Z 8 (ni Fo))] 0 0
  obtain ⟨ft, e_ft⟩ : ∃ k, k = phs A s1 := ⟨_, rfl⟩
  refine j_top (congrArg nI e_ft.symm) ?_
  have hft : ft < 256 := by rw [e_ft]; exact phs_lt _ _
  refine j_istore_n hJ (q := 7) (lvs' := [(3, .int (nI ft)), (0, .ref h), (1, .int (nI 0)), (2, .int (nI s1))]) dX8_bestLook_6 rfl (by decide) rfl rfl ?_
  refine j_iload_n hJ (q := 8) dX8_bestLook_7 rfl 0 rfl rfl ?_
  refine jn_if_ne hJ (q := 11) (tgt := 13) dX8_bestLook_8 (by decide) rfl (by omega) (fun c1 => ?_) (fun c1 => ?_)
  · skip
    refine j_iload_n hJ (q := 14) dX8_bestLook_13 rfl 2 rfl rfl ?_
    refine j_iconst hJ (q := 15) dX8_bestLook_14 rfl ki_2 ?_
    refine jn_icmp_ne hJ (q := 18) (tgt := 23) dX8_bestLook_15 (by decide) rfl (by omega) (by omega) (fun c2 => ?_) (fun c2 => ?_)
    · skip
      refine j_bipush hJ (q := 25) dX8_bestLook_23 rfl kb_7 ?_
      refine j_istore hJ (q := 27) (lvs' := [(4, .int (nI 7)), (3, .int (nI ft)), (0, .ref h), (1, .int (nI 0)), (2, .int (nI s1))]) dX8_bestLook_25 (by decide) rfl rfl ?_
      refine j_iload_n hJ (q := 28) dX8_bestLook_27 rfl 3 rfl rfl ?_
      refine j_iconst hJ (q := 29) dX8_bestLook_28 rfl ki_2 ?_
      refine jn_icmp_ne hJ (q := 32) (tgt := 37) dX8_bestLook_29 (by decide) rfl (by omega) (by omega) (fun c3 => ?_) (fun c3 => ?_)
      · skip
        refine j_iconst hJ (q := 38) dX8_bestLook_37 rfl ki_3 ?_
        refine j_istore hJ (q := 40) (lvs' := [(5, .int (nI 3)), (4, .int (nI 7)), (3, .int (nI ft)), (0, .ref h), (1, .int (nI 0)), (2, .int (nI s1))]) dX8_bestLook_38 (by decide) rfl rfl ?_
        refine j_bipush hJ (q := 42) dX8_bestLook_40 rfl kb_9 ?_
        refine j_istore hJ (q := 44) (lvs' := [(6, .int (nI 9)), (5, .int (nI 3)), (4, .int (nI 7)), (3, .int (nI ft)), (0, .ref h), (1, .int (nI 0)), (2, .int (nI s1))]) dX8_bestLook_42 (by decide) rfl rfl ?_
        refine j_iconst hJ (q := 45) dX8_bestLook_44 rfl ki_m1 ?_
        refine j_istore hJ (q := 47) (lvs' := [(7, .int (zI (-1))), (6, .int (nI 9)), (5, .int (nI 3)), (4, .int (nI 7)), (3, .int (nI ft)), (0, .ref h), (1, .int (nI 0)), (2, .int (nI s1))]) dX8_bestLook_45 (by decide) rfl rfl ?_
        refine j_iconst hJ (q := 48) dX8_bestLook_47 rfl ki_0 ?_
        refine j_istore hJ (q := 50) (lvs' := [(8, .int (nI 0)), (7, .int (zI (-1))), (6, .int (nI 9)), (5, .int (nI 3)), (4, .int (nI 7)), (3, .int (nI ft)), (0, .ref h), (1, .int (nI 0)), (2, .int (nI s1))]) dX8_bestLook_48 (by decide) rfl rfl ?_
        have L_50 : ∀ (fu_50 : Nat) (Fb : Nat → Nat) (fw : Nat) (bs : Int) (t : Nat), 8 - t < fu_50 → (t ≤ 8) → (fw ≤ 9) → ((bs, fw) = cm9 (mnI (fTell A s1 ft) 4 t)) → J 50 [(0, .ref h), (1, .int (nI 0)), (2, .int (nI s1)), (3, .int (nI ft)), (4, .int (nI 7)), (5, .int (nI 3)), (6, .int (nI fw)), (7, .int (zI bs)), (8, .int (nI t))] [] [xO h u ab be (Rf 0) (Rf 1) (Rf 2), (u 0, .inr (4, [.ref (s 0), .ref (s 1), .ref (s 3), .ref (s 5), .ref (s 7)])), cO (s 0) q (A 21) (A 5) (A 6) (A 7) (A 8) (A 0), (q 0, ia Z 12 (ni K)), (q 1, ia Z 12 (ni P)), (q 2, ia Z 6 (ni kd)), (q 3, ia Z 6 (ni am)), (q 4, ia Z 6 (ni st)), (q 5, ia Z 6 (ni rg)), (s 1, .inr (1, [.int (nI (A 4)), .ref (s 2)])), (s 2, ia Z 128 (ni Ro)), (s 3, .inr (3, [.int (nI (A 1)), .int (nI 4), .int (nI 5), .ref (s 4)])), (s 4, ia Z 30 (ni Sn)), (s 5, .inr (3, [.int (nI (A 2)), .int (nI 5), .int (nI 6), .ref (s 6)])), (s 6, ia Z 30 (ni Nt)), (s 7, .inr (3, [.int (nI (A 3)), .int (nI 5), .int (nI 6), .ref (s 8)])), (s 8, ia Z 30 (ni Mk)), (u 5, ia Z 8 (ni Fb))] 0 0 := by
          intro fu_50
          induction fu_50 with
          | zero => intro Fb fw bs t hm; exact absurd hm (Nat.not_lt_zero _)
          | succ fu_50 ih_50 =>
            intro Fb fw bs t hm_50 ht hfw hbf
            refine j_iload hJ (q := 52) dX8_bestLook_50 8 rfl rfl ?_
            refine j_iload hJ (q := 54) dX8_bestLook_52 4 rfl rfl ?_
            refine jn_icmp_gt hJ (q := 57) (tgt := 113) dX8_bestLook_54 (by decide) rfl (by omega) (by omega) (fun c4 => ?_) (fun c4 => ?_)
            · skip
              refine j_iload hJ (q := 115) dX8_bestLook_113 7 rfl rfl ?_
              have hbz : bs = (mnI (fTell A s1 ft) 4 t).1 := congrArg Prod.fst hbf
              exact hE.1 _ _ _ _ _ _ _ rfl rfl dX8_bestLook_115 (Nat.le_refl _) (Nat.le_refl _) (⟨Fb, congrArg (fun z => some (Value.int (zI z))) (by rw [← e_ft]; unfold mnz; rw [if_neg (by omega), hbz, show t = 8 by omega]), rfl⟩)
            · skip
              refine j_iconst hJ (q := 58) dX8_bestLook_57 rfl ki_0 ?_
              refine j_istore hJ (q := 60) (lvs' := [(9, .int (nI 0)), (0, .ref h), (1, .int (nI 0)), (2, .int (nI s1)), (3, .int (nI ft)), (4, .int (nI 7)), (5, .int (nI 3)), (6, .int (nI fw)), (7, .int (zI bs)), (8, .int (nI t))]) dX8_bestLook_58 (by decide) rfl rfl ?_
              have L_60 : ∀ (fu_60 : Nat) (Fb : Nat → Nat) (fw : Nat) (bs : Int) (v : Nat), 4 - v < fu_60 → (v ≤ 4) → (fw ≤ 9) → ((bs, fw) = cm9 (mnJ (fTell A s1 ft t) t v (mnI (fTell A s1 ft) 4 t))) → J 60 [(0, .ref h), (1, .int (nI 0)), (2, .int (nI s1)), (3, .int (nI ft)), (4, .int (nI 7)), (5, .int (nI 3)), (6, .int (nI fw)), (7, .int (zI bs)), (8, .int (nI t)), (9, .int (nI v))] [] [xO h u ab be (Rf 0) (Rf 1) (Rf 2), (u 0, .inr (4, [.ref (s 0), .ref (s 1), .ref (s 3), .ref (s 5), .ref (s 7)])), cO (s 0) q (A 21) (A 5) (A 6) (A 7) (A 8) (A 0), (q 0, ia Z 12 (ni K)), (q 1, ia Z 12 (ni P)), (q 2, ia Z 6 (ni kd)), (q 3, ia Z 6 (ni am)), (q 4, ia Z 6 (ni st)), (q 5, ia Z 6 (ni rg)), (s 1, .inr (1, [.int (nI (A 4)), .ref (s 2)])), (s 2, ia Z 128 (ni Ro)), (s 3, .inr (3, [.int (nI (A 1)), .int (nI 4), .int (nI 5), .ref (s 4)])), (s 4, ia Z 30 (ni Sn)), (s 5, .inr (3, [.int (nI (A 2)), .int (nI 5), .int (nI 6), .ref (s 6)])), (s 6, ia Z 30 (ni Nt)), (s 7, .inr (3, [.int (nI (A 3)), .int (nI 5), .int (nI 6), .ref (s 8)])), (s 8, ia Z 30 (ni Mk)), (u 5, ia Z 8 (ni Fb))] 0 0 := by
                intro fu_60
                induction fu_60 with
                | zero => intro Fb fw bs v hm; exact absurd hm (Nat.not_lt_zero _)
                | succ fu_60 ih_60 =>
                  intro Fb fw bs v hm_60 hv hfw hbf
                  refine j_iload hJ (q := 62) dX8_bestLook_60 9 rfl rfl ?_
                  refine j_iload hJ (q := 64) dX8_bestLook_62 5 rfl rfl ?_
                  refine jn_icmp_gt hJ (q := 67) (tgt := 107) dX8_bestLook_64 (by decide) rfl (by omega) (by omega) (fun c5 => ?_) (fun c5 => ?_)
                  · skip
                    refine j_iinc hJ (q := 110) (lvs' := [(8, .int (nI (t + 1))), (0, .ref h), (1, .int (nI 0)), (2, .int (nI s1)), (3, .int (nI ft)), (4, .int (nI 7)), (5, .int (nI 3)), (6, .int (nI fw)), (7, .int (zI bs)), (9, .int (nI v))]) dX8_bestLook_107 8 rfl (by rw [show Int32.ofInt 1 = nI 1 from by decide +kernel]; exact nI_add _ _) (by decide) rfl rfl ?_
                    refine j_goto hJ (q := 50) dX8_bestLook_110 (by decide) ?_
                    refine j_locals hJ [1, 2, 3, 4, 5, 6, 7, 8, 0] rfl ?_
                    exact ih_50 Fb fw bs (t + 1) (by omega) (by omega) (by omega) (by rw [hbf, show v = 4 by omega]; rfl)
                  · skip
                    refine j_aload_n hJ (q := 68) dX8_bestLook_67 rfl 0 rfl rfl ?_
                    refine j_iload_n hJ (q := 69) dX8_bestLook_68 rfl 1 rfl rfl ?_
                    refine j_iload_n hJ (q := 70) dX8_bestLook_69 rfl 2 rfl rfl ?_
                    refine j_iload_n hJ (q := 71) dX8_bestLook_70 rfl 3 rfl rfl ?_
                    refine j_iload hJ (q := 73) dX8_bestLook_71 8 rfl rfl ?_
                    refine j_iload hJ (q := 75) dX8_bestLook_73 9 rfl rfl ?_
                    refine j_vW hJ (q := 78) (rest := []) (As := [.int (nI 0), .int (nI s1), .int (nI ft), .int (nI t), .int (nI v)]) (wr := [(s 1, .inr (1, [.int (nI (A 4)), .ref (s 2)])), (s 2, ia Z 128 (ni Ro)), (s 3, .inr (3, [.int (nI (A 1)), .int (nI 4), .int (nI 5), .ref (s 4)])), (s 4, ia Z 30 (ni Sn)), (s 5, .inr (3, [.int (nI (A 2)), .int (nI 5), .int (nI 6), .ref (s 6)])), (s 6, ia Z 30 (ni Nt)), (s 7, .inr (3, [.int (nI (A 3)), .int (nI 5), .int (nI 6), .ref (s 8)])), (s 8, ia Z 30 (ni Mk))]) jl_X8_311 (c_X8_mostLeft0 Z h u ab be Rf s q A K P kd am st rg Fb s1 ft t v hg hR h1 (by omega) (by omega) (by omega)) 0 rfl rfl dX8_bestLook_75 rfl (by decide) (Nat.le_of_ble_eq_true rfl) [0, 1, 2, 3, 4, 5, 6, 7, 8, 17] [9, 10, 11, 12, 13, 14, 15, 16] rfl rfl rfl rfl (by decide) rfl (fun rv wv hp => ?_)
                    obtain ⟨Fx6, rfl, rfl⟩ := hp
                    refine j_world hJ (ws' := [xO h u ab be (Rf 0) (Rf 1) (Rf 2), (u 0, .inr (4, [.ref (s 0), .ref (s 1), .ref (s 3), .ref (s 5), .ref (s 7)])), cO (s 0) q (A 21) (A 5) (A 6) (A 7) (A 8) (A 0), (q 0, ia Z 12 (ni K)), (q 1, ia Z 12 (ni P)), (q 2, ia Z 6 (ni kd)), (q 3, ia Z 6 (ni am)), (q 4, ia Z 6 (ni st)), (q 5, ia Z 6 (ni rg)), (s 1, .inr (1, [.int (nI (A 4)), .ref (s 2)])), (s 2, ia Z 128 (ni Ro)), (s 3, .inr (3, [.int (nI (A 1)), .int (nI 4), .int (nI 5), .ref (s 4)])), (s 4, ia Z 30 (ni Sn)), (s 5, .inr (3, [.int (nI (A 2)), .int (nI 5), .int (nI 6), .ref (s 6)])), (s 6, ia Z 30 (ni Nt)), (s 7, .inr (3, [.int (nI (A 3)), .int (nI 5), .int (nI 6), .ref (s 8)])), (s 8, ia Z 30 (ni Mk)), (u 5, ia Z 8 (ni Fx6))]) [8, 9, 10, 11, 12, 13, 14, 15, 16, 0, 1, 2, 3, 4, 5, 6, 7, 17] rfl rfl ?_
                    show J 78 [(0, .ref h), (1, .int (nI 0)), (2, .int (nI s1)), (3, .int (nI ft)), (4, .int (nI 7)), (5, .int (nI 3)), (6, .int (nI fw)), (7, .int (zI bs)), (8, .int (nI t)), (9, .int (nI v))] [.int (nI (fTell A s1 ft t v))] [xO h u ab be (Rf 0) (Rf 1) (Rf 2), (u 0, .inr (4, [.ref (s 0), .ref (s 1), .ref (s 3), .ref (s 5), .ref (s 7)])), cO (s 0) q (A 21) (A 5) (A 6) (A 7) (A 8) (A 0), (q 0, ia Z 12 (ni K)), (q 1, ia Z 12 (ni P)), (q 2, ia Z 6 (ni kd)), (q 3, ia Z 6 (ni am)), (q 4, ia Z 6 (ni st)), (q 5, ia Z 6 (ni rg)), (s 1, .inr (1, [.int (nI (A 4)), .ref (s 2)])), (s 2, ia Z 128 (ni Ro)), (s 3, .inr (3, [.int (nI (A 1)), .int (nI 4), .int (nI 5), .ref (s 4)])), (s 4, ia Z 30 (ni Sn)), (s 5, .inr (3, [.int (nI (A 2)), .int (nI 5), .int (nI 6), .ref (s 6)])), (s 6, ia Z 30 (ni Nt)), (s 7, .inr (3, [.int (nI (A 3)), .int (nI 5), .int (nI 6), .ref (s 8)])), (s 8, ia Z 30 (ni Mk)), (u 5, ia Z 8 (ni Fx6))] 0 0
                    have h8 : fTell A s1 ft t v ≤ 8 := topN_le _ _ 8
                    refine j_istore hJ (q := 80) (lvs' := [(10, .int (nI (fTell A s1 ft t v))), (0, .ref h), (1, .int (nI 0)), (2, .int (nI s1)), (3, .int (nI ft)), (4, .int (nI 7)), (5, .int (nI 3)), (6, .int (nI fw)), (7, .int (zI bs)), (8, .int (nI t)), (9, .int (nI v))]) dX8_bestLook_78 (by decide) rfl rfl ?_
                    refine j_iload hJ (q := 82) dX8_bestLook_80 0 rfl rfl ?_
                    refine j_iload hJ (q := 84) dX8_bestLook_82 7 rfl rfl ?_
                    refine jn_icmp_ge hJ (q := 87) (tgt := 101) dX8_bestLook_84 (by decide) rfl (by omega) (by omega) (fun c7 => ?_) (fun c7 => ?_)
                    · skip
                      refine j_iinc hJ (q := 104) (lvs' := [(9, .int (nI (v + 1))), (10, .int (nI (fTell A s1 ft t v))), (0, .ref h), (1, .int (nI 0)), (2, .int (nI s1)), (3, .int (nI ft)), (4, .int (nI 7)), (5, .int (nI 3)), (6, .int (nI fw)), (7, .int (zI bs)), (8, .int (nI t))]) dX8_bestLook_101 10 rfl (by rw [show Int32.ofInt 1 = nI 1 from by decide +kernel]; exact nI_add _ _) (by decide) rfl rfl ?_
                      refine j_goto hJ (q := 60) dX8_bestLook_104 (by decide) ?_
                      refine j_locals hJ [2, 3, 4, 5, 6, 7, 8, 9, 10, 0] rfl ?_
                      exact ih_60 Fx6 fw bs (v + 1) (by omega) (by omega) (by omega) (cm_no hbf h8 (by omega))
                    · skip
                      refine j_iload hJ (q := 89) dX8_bestLook_87 0 rfl rfl ?_
                      refine j_istore hJ (q := 91) (lvs' := [(6, .int (nI (fTell A s1 ft t v))), (10, .int (nI (fTell A s1 ft t v))), (0, .ref h), (1, .int (nI 0)), (2, .int (nI s1)), (3, .int (nI ft)), (4, .int (nI 7)), (5, .int (nI 3)), (7, .int (zI bs)), (8, .int (nI t)), (9, .int (nI v))]) dX8_bestLook_89 (by decide) rfl rfl ?_
                      refine j_bipush hJ (q := 93) dX8_bestLook_91 rfl kb_10 ?_
                      refine j_iload hJ (q := 95) dX8_bestLook_93 9 rfl rfl ?_
                      refine j_imul hJ (q := 96) dX8_bestLook_95 rfl (pk_mul _ _) ?_
                      refine j_iload hJ (q := 98) dX8_bestLook_96 10 rfl rfl ?_
                      refine j_iadd hJ (q := 99) dX8_bestLook_98 rfl (nI_add _ _) ?_
                      refine j_istore hJ (q := 101) (lvs' := [(7, .int (nI (10 * t + v))), (6, .int (nI (fTell A s1 ft t v))), (10, .int (nI (fTell A s1 ft t v))), (0, .ref h), (1, .int (nI 0)), (2, .int (nI s1)), (3, .int (nI ft)), (4, .int (nI 7)), (5, .int (nI 3)), (8, .int (nI t)), (9, .int (nI v))]) dX8_bestLook_99 (by decide) rfl rfl ?_
                      refine j_iinc hJ (q := 104) (lvs' := [(9, .int (nI (v + 1))), (7, .int (nI (10 * t + v))), (6, .int (nI (fTell A s1 ft t v))), (10, .int (nI (fTell A s1 ft t v))), (0, .ref h), (1, .int (nI 0)), (2, .int (nI s1)), (3, .int (nI ft)), (4, .int (nI 7)), (5, .int (nI 3)), (8, .int (nI t))]) dX8_bestLook_101 10 rfl (by rw [show Int32.ofInt 1 = nI 1 from by decide +kernel]; exact nI_add _ _) (by decide) rfl rfl ?_
                      refine j_goto hJ (q := 60) dX8_bestLook_104 (by decide) ?_
                      refine j_locals hJ [4, 5, 6, 7, 8, 9, 2, 1, 10, 0] rfl ?_
                      refine j_eql (lvs' := [(0, .ref h), (1, .int (nI 0)), (2, .int (nI s1)), (3, .int (nI ft)), (4, .int (nI 7)), (5, .int (nI 3)), (6, .int (nI (fTell A s1 ft t v))), (7, .int (zI ((10 * t + v : Nat) : Int))), (8, .int (nI t)), (9, .int (nI (v + 1)))]) (by simp only [zI_nat] <;> rfl) ?_
                      exact ih_60 Fx6 (fTell A s1 ft t v) ((10 * t + v : Nat) : Int) (v + 1) (by omega) (by omega) (by omega) (cm_go hbf h8 (by omega))
              refine j_locals hJ [1, 2, 3, 4, 5, 6, 7, 8, 9, 0] rfl ?_
              exact L_60 ((4 - 0) + 1) Fb fw bs 0 (Nat.lt_succ_self _) (by omega) (by omega) (by rw [hbf]; rfl)
        refine j_locals hJ [6, 7, 8, 5, 4, 3, 2, 1, 0] rfl ?_
        exact L_50 ((8 - 0) + 1) Fo 9 (-1) 0 (Nat.lt_succ_self _) (by omega) (by omega) rfl
      · skip
        exfalso; omega
    · skip
      exfalso; omega
  · skip
    refine j_iconst hJ (q := 12) dX8_bestLook_11 rfl ki_m1 ?_
    exact hE.1 _ _ _ _ _ _ _ rfl rfl dX8_bestLook_12 (Nat.le_refl _) (Nat.le_refl _) (⟨Fo, congrArg (fun z => some (Value.int (zI z))) (by rw [← e_ft]; unfold mnz; rw [if_pos (by omega)]), rfl⟩)

set_option maxHeartbeats 4000000 in
set_option maxRecDepth 100000 in
theorem c_X8_foretell1 (Z : jZ) (h : Nat) (u : Nat → Nat) (ab : Int) (be : Int) (Rf : Nat → Nat) (s : Nat → Nat) (q : Nat → Nat) (A : Nat → Nat) (K : Nat → Nat) (P : Nat → Nat) (kd : Nat → Nat) (am : Nat → Nat) (st : Nat → Nat) (rg : Nat → Nat) (s1 : Nat) (g : Nat) (f1 : Nat) (f2 : Nat) (hg : wg A) (hR : rR A K P kd am st rg) (h1 : s1 < A 21) (h2 : g < 6) (h3 : f1 ≤ 10) (h4 : f2 ≤ 3) : CR Z yX8_foretell cX8_foretell 6 ((some FieldType.int)) 2 [.ref h, .int (nI 1), .int (nI s1), .int (nI g), .int (nI f1), .int (nI f2)] [xO h u ab be (Rf 0) (Rf 1) (Rf 2), (u 0, .inr (4, [.ref (s 0), .ref (s 1), .ref (s 3), .ref (s 5), .ref (s 7)])), cO (s 0) q (A 21) (A 5) (A 6) (A 7) (A 8) (A 0), (q 0, ia Z 12 (ni K)), (q 1, ia Z 12 (ni P)), (q 2, ia Z 6 (ni kd)), (q 3, ia Z 6 (ni am)), (q 4, ia Z 6 (ni st)), (q 5, ia Z 6 (ni rg))] (fun rr => rr = some (.int (nI (hgh g (A (46 + s1)) f1 f2)))) := by
  refine CR.of RX8 rfl (by decide +kernel) (Nat.le_of_ble_eq_true rfl) ?_
  intro J hJ hE
  show J 0 [(0, .ref h), (1, .int (nI 1)), (2, .int (nI s1)), (3, .int (nI g)), (4, .int (nI f1)), (5, .int (nI f2))] [] [xO h u ab be (Rf 0) (Rf 1) (Rf 2), (u 0, .inr (4, [.ref (s 0), .ref (s 1), .ref (s 3), .ref (s 5), .ref (s 7)])), cO (s 0) q (A 21) (A 5) (A 6) (A 7) (A 8) (A 0), (q 0, ia Z 12 (ni K)), (q 1, ia Z 12 (ni P)), (q 2, ia Z 6 (ni kd)), (q 3, ia Z 6 (ni am)), (q 4, ia Z 6 (ni st)), (q 5, ia Z 6 (ni rg))] 0 0
  obtain ⟨hw, ⟨g1, g2, g3, g4, g8⟩, hrs, hrn, hrm, hpst⟩ := id hg
  obtain ⟨⟨w1, w2, w3, w4, w5, w6⟩, hb, wr, wh, wd⟩ := id hw
  have hk5 := wh s1 (by omega)
  refine j_iload_n hJ (q := 1) dX8_foretell_0 rfl 1 rfl rfl ?_
  refine jn_lookup hJ (q := 49) (k := 1) (off := 48) dX8_foretell_1 (by decide) (by decide) (by decide) ?_
  refine j_iload_n hJ (q := 50) dX8_foretell_49 rfl 3 rfl rfl ?_
  refine j_iload hJ (q := 52) dX8_foretell_50 4 rfl rfl ?_
  refine j_aload_n hJ (q := 53) dX8_foretell_52 rfl 0 rfl rfl ?_
  refine j_get hJ (q := 56) jf_X8_10 dX8_foretell_53 0 rfl rfl rfl ?_
  refine j_get hJ (q := 59) jf_X8_66 dX8_foretell_56 1 rfl rfl rfl ?_
  refine j_get hJ (q := 62) jf_X8_172 dX8_foretell_59 2 rfl rfl rfl ?_
  refine j_iload_n hJ (q := 63) dX8_foretell_62 rfl 2 rfl rfl ?_
  refine j_ialdN hJ (q := 64) (z := nI (P s1)) dX8_foretell_63 4 rfl (by omega) (by decide) rfl rfl ?_
  refine j_top (congrArg nI (rR_P hR (i := s1) (by omega))) ?_
  have b1 := hb (46 + s1)
  refine j_iload hJ (q := 66) dX8_foretell_64 5 rfl rfl ?_
  refine j_sR hJ (q := 69) (rest := []) (As := [.int (nI g), .int (nI f1), .int (nI (A (46 + s1))), .int (nI f2)]) jl_X8_300 (c_X1_high Z g f1 (A (46 + s1)) f2 (by omega) (by omega) (by omega) (by omega)) dX8_foretell_66 rfl (by decide) (Nat.le_of_ble_eq_true rfl) [] rfl rfl (fun rv hp => ?_)
  obtain rfl := hp
  show J 69 [(0, .ref h), (1, .int (nI 1)), (2, .int (nI s1)), (3, .int (nI g)), (4, .int (nI f1)), (5, .int (nI f2))] [.int (nI (hgh g (A (46 + s1)) f1 f2))] [xO h u ab be (Rf 0) (Rf 1) (Rf 2), (u 0, .inr (4, [.ref (s 0), .ref (s 1), .ref (s 3), .ref (s 5), .ref (s 7)])), cO (s 0) q (A 21) (A 5) (A 6) (A 7) (A 8) (A 0), (q 0, ia Z 12 (ni K)), (q 1, ia Z 12 (ni P)), (q 2, ia Z 6 (ni kd)), (q 3, ia Z 6 (ni am)), (q 4, ia Z 6 (ni st)), (q 5, ia Z 6 (ni rg))] 0 0
  exact hE.1 _ _ _ _ _ _ _ rfl rfl dX8_foretell_69 (Nat.le_refl _) (Nat.le_refl _) (congrArg (fun z => some (Value.int (nI z))) (by rfl))

set_option maxHeartbeats 4000000 in
set_option maxRecDepth 100000 in
theorem c_X8_mostLeft1 (Z : jZ) (h : Nat) (u : Nat → Nat) (ab : Int) (be : Int) (Rf : Nat → Nat) (s : Nat → Nat) (q : Nat → Nat) (A : Nat → Nat) (K : Nat → Nat) (P : Nat → Nat) (kd : Nat → Nat) (am : Nat → Nat) (st : Nat → Nat) (rg : Nat → Nat) (Fo : Nat → Nat) (s1 : Nat) (ft : Nat) (f1 : Nat) (f2 : Nat) (hg : wg A) (hR : rR A K P kd am st rg) (h1 : s1 < A 21) (hft : ft < 64) (h3 : f1 ≤ 10) (h4 : f2 ≤ 3) : CT Z yX8_mostLeft cX8_mostLeft 8 ((some FieldType.int)) 3 0 0 [.ref h, .int (nI 1), .int (nI s1), .int (nI ft), .int (nI f1), .int (nI f2)] [xO h u ab be (Rf 0) (Rf 1) (Rf 2), (u 0, .inr (4, [.ref (s 0), .ref (s 1), .ref (s 3), .ref (s 5), .ref (s 7)])), cO (s 0) q (A 21) (A 5) (A 6) (A 7) (A 8) (A 0), (q 0, ia Z 12 (ni K)), (q 1, ia Z 12 (ni P)), (q 2, ia Z 6 (ni kd)), (q 3, ia Z 6 (ni am)), (q 4, ia Z 6 (ni st)), (q 5, ia Z 6 (ni rg)), (u 5, ia Z 8 (ni Fo))] (fun rr ww => ∃ Fx : Nat → Nat, rr = some (.int (nI (fLook A s1 ft f1 f2))) ∧ ww = [xO h u ab be (Rf 0) (Rf 1) (Rf 2), (u 0, .inr (4, [.ref (s 0), .ref (s 1), .ref (s 3), .ref (s 5), .ref (s 7)])), cO (s 0) q (A 21) (A 5) (A 6) (A 7) (A 8) (A 0), (q 0, ia Z 12 (ni K)), (q 1, ia Z 12 (ni P)), (q 2, ia Z 6 (ni kd)), (q 3, ia Z 6 (ni am)), (q 4, ia Z 6 (ni st)), (q 5, ia Z 6 (ni rg)), (u 5, ia Z 8 (ni Fx))]) := by
  refine CT.of RX8 false rfl (fun h => by cases h) (by decide +kernel) (Nat.le_of_ble_eq_true rfl) ?_
  intro J hJ hE
  show J 0 [(0, .ref h), (1, .int (nI 1)), (2, .int (nI s1)), (3, .int (nI ft)), (4, .int (nI f1)), (5, .int (nI f2))] [] [xO h u ab be (Rf 0) (Rf 1) (Rf 2), (u 0, .inr (4, [.ref (s 0), .ref (s 1), .ref (s 3), .ref (s 5), .ref (s 7)])), cO (s 0) q (A 21) (A 5) (A 6) (A 7) (A 8) (A 0), (q 0, ia Z 12 (ni K)), (q 1, ia Z 12 (ni P)), (q 2, ia Z 6 (ni kd)), (q 3, ia Z 6 (ni am)), (q 4, ia Z 6 (ni st)), (q 5, ia Z 6 (ni rg)), (u 5, ia Z 8 (ni Fo))] 0 0
  obtain ⟨hw, ⟨g1, g2, g3, g4, g8⟩, hrs, hrn, hrm, hpst⟩ := id hg
  obtain ⟨⟨w1, w2, w3, w4, w5, w6⟩, hb, wr, wh, wd⟩ := id hw
  have hk5 := wh s1 (by omega)
  refine j_iconst hJ (q := 1) dX8_mostLeft_0 rfl ki_0 ?_
  refine j_istore hJ (q := 3) (lvs' := [(6, .int (nI 0)), (0, .ref h), (1, .int (nI 1)), (2, .int (nI s1)), (3, .int (nI ft)), (4, .int (nI f1)), (5, .int (nI f2))]) dX8_mostLeft_1 (by decide) rfl rfl ?_
  refine j_iconst hJ (q := 4) dX8_mostLeft_3 rfl ki_0 ?_
  refine j_istore hJ (q := 6) (lvs' := [(7, .int (nI 0)), (6, .int (nI 0)), (0, .ref h), (1, .int (nI 1)), (2, .int (nI s1)), (3, .int (nI ft)), (4, .int (nI f1)), (5, .int (nI f2))]) dX8_mostLeft_4 (by decide) rfl rfl ?_
  have L_6 : ∀ (fu_6 : Nat) (Fb : Nat → Nat) (mo : Nat) (g : Nat), 6 - g < fu_6 → (g ≤ 6) → (∀ j, j < g → Fb j = (fun p => hgh p (A (46 + s1)) f1 f2) j) → (mo ≤ 8) → (mo = mxN (fun p => hgh p (A (46 + s1)) f1 f2) ft g) → J 6 [(0, .ref h), (1, .int (nI 1)), (2, .int (nI s1)), (3, .int (nI ft)), (4, .int (nI f1)), (5, .int (nI f2)), (6, .int (nI mo)), (7, .int (nI g))] [] [xO h u ab be (Rf 0) (Rf 1) (Rf 2), (u 0, .inr (4, [.ref (s 0), .ref (s 1), .ref (s 3), .ref (s 5), .ref (s 7)])), cO (s 0) q (A 21) (A 5) (A 6) (A 7) (A 8) (A 0), (q 0, ia Z 12 (ni K)), (q 1, ia Z 12 (ni P)), (q 2, ia Z 6 (ni kd)), (q 3, ia Z 6 (ni am)), (q 4, ia Z 6 (ni st)), (q 5, ia Z 6 (ni rg)), (u 5, ia Z 8 (ni Fb))] 0 0 := by
    intro fu_6
    induction fu_6 with
    | zero => intro Fb mo g hm; exact absurd hm (Nat.not_lt_zero _)
    | succ fu_6 ih_6 =>
      intro Fb mo g hm_6 hg1 hF hml hmo
      refine j_iload hJ (q := 8) dX8_mostLeft_6 7 rfl rfl ?_
      refine j_iload_n hJ (q := 9) dX8_mostLeft_8 rfl 1 rfl rfl ?_
      refine j_sR hJ (q := 12) (rest := [.int (nI g)]) (As := [.int (nI 1)]) jl_X8_287 (c_X8_howManyGuessed1 Z  ) dX8_mostLeft_9 rfl (by decide) (Nat.le_of_ble_eq_true rfl) [] rfl rfl (fun rv hp => ?_)
      obtain rfl := hp
      show J 12 [(0, .ref h), (1, .int (nI 1)), (2, .int (nI s1)), (3, .int (nI ft)), (4, .int (nI f1)), (5, .int (nI f2)), (6, .int (nI mo)), (7, .int (nI g))] [.int (nI 6), .int (nI g)] [xO h u ab be (Rf 0) (Rf 1) (Rf 2), (u 0, .inr (4, [.ref (s 0), .ref (s 1), .ref (s 3), .ref (s 5), .ref (s 7)])), cO (s 0) q (A 21) (A 5) (A 6) (A 7) (A 8) (A 0), (q 0, ia Z 12 (ni K)), (q 1, ia Z 12 (ni P)), (q 2, ia Z 6 (ni kd)), (q 3, ia Z 6 (ni am)), (q 4, ia Z 6 (ni st)), (q 5, ia Z 6 (ni rg)), (u 5, ia Z 8 (ni Fb))] 0 0
      refine jn_icmp_ge hJ (q := 15) (tgt := 66) dX8_mostLeft_12 (by decide) rfl (by omega) (by omega) (fun c1 => ?_) (fun c1 => ?_)
      · skip
        refine j_iload hJ (q := 68) dX8_mostLeft_66 6 rfl rfl ?_
        exact hE.1 _ _ _ _ _ _ _ rfl rfl dX8_mostLeft_68 (Nat.le_refl _) (Nat.le_refl _) (⟨Fb, congrArg (fun z => some (Value.int (nI z))) (by rw [hmo, show g = 6 by omega]; exact (mxN_68 hft).trans mxN_top), rfl⟩)
      · skip
        refine j_aload_n hJ (q := 16) dX8_mostLeft_15 rfl 0 rfl rfl ?_
        refine j_get hJ (q := 19) jf_X8_48 dX8_mostLeft_16 0 rfl rfl rfl ?_
        refine j_iload hJ (q := 21) dX8_mostLeft_19 7 rfl rfl ?_
        refine j_aload_n hJ (q := 22) dX8_mostLeft_21 rfl 0 rfl rfl ?_
        refine j_iload_n hJ (q := 23) dX8_mostLeft_22 rfl 1 rfl rfl ?_
        refine j_iload_n hJ (q := 24) dX8_mostLeft_23 rfl 2 rfl rfl ?_
        refine j_iload hJ (q := 26) dX8_mostLeft_24 7 rfl rfl ?_
        refine j_iload hJ (q := 28) dX8_mostLeft_26 4 rfl rfl ?_
        refine j_iload hJ (q := 30) dX8_mostLeft_28 5 rfl rfl ?_
        refine j_vR hJ (q := 33) (rest := [.int (nI g), .ref (u 5)]) (As := [.int (nI 1), .int (nI s1), .int (nI g), .int (nI f1), .int (nI f2)]) jl_X8_315 (c_X8_foretell1 Z h u ab be Rf s q A K P kd am st rg s1 g f1 f2 hg hR (by omega) (by omega) (by omega) (by omega)) 0 rfl rfl dX8_mostLeft_30 rfl (by decide) (Nat.le_of_ble_eq_true rfl) [0, 1, 2, 3, 4, 5, 6, 7, 8] rfl rfl (fun rv hp => ?_)
        obtain rfl := hp
        show J 33 [(0, .ref h), (1, .int (nI 1)), (2, .int (nI s1)), (3, .int (nI ft)), (4, .int (nI f1)), (5, .int (nI f2)), (6, .int (nI mo)), (7, .int (nI g))] [.int (nI (hgh g (A (46 + s1)) f1 f2)), .int (nI g), .ref (u 5)] [xO h u ab be (Rf 0) (Rf 1) (Rf 2), (u 0, .inr (4, [.ref (s 0), .ref (s 1), .ref (s 3), .ref (s 5), .ref (s 7)])), cO (s 0) q (A 21) (A 5) (A 6) (A 7) (A 8) (A 0), (q 0, ia Z 12 (ni K)), (q 1, ia Z 12 (ni P)), (q 2, ia Z 6 (ni kd)), (q 3, ia Z 6 (ni am)), (q 4, ia Z 6 (ni st)), (q 5, ia Z 6 (ni rg)), (u 5, ia Z 8 (ni Fb))] 0 0
        refine j_iastN hJ (q := 34) (ws' := [xO h u ab be (Rf 0) (Rf 1) (Rf 2), (u 0, .inr (4, [.ref (s 0), .ref (s 1), .ref (s 3), .ref (s 5), .ref (s 7)])), cO (s 0) q (A 21) (A 5) (A 6) (A 7) (A 8) (A 0), (q 0, ia Z 12 (ni K)), (q 1, ia Z 12 (ni P)), (q 2, ia Z 6 (ni kd)), (q 3, ia Z 6 (ni am)), (q 4, ia Z 6 (ni st)), (q 5, ia Z 6 (ni rg)), (u 5, ia Z 8 (ni (va_up Fb g (hgh g (A (46 + s1)) f1 f2))))]) dX8_mostLeft_33 9 rfl (by omega) (by decide) (ni_up _ _ _) rfl rfl ?_
        obtain ⟨C, e_C⟩ : ∃ z : Nat → Nat, z = va_up Fb g (hgh g (A (46 + s1)) f1 f2) := ⟨_, rfl⟩
        refine j_eqw (ws' := [xO h u ab be (Rf 0) (Rf 1) (Rf 2), (u 0, .inr (4, [.ref (s 0), .ref (s 1), .ref (s 3), .ref (s 5), .ref (s 7)])), cO (s 0) q (A 21) (A 5) (A 6) (A 7) (A 8) (A 0), (q 0, ia Z 12 (ni K)), (q 1, ia Z 12 (ni P)), (q 2, ia Z 6 (ni kd)), (q 3, ia Z 6 (ni am)), (q 4, ia Z 6 (ni st)), (q 5, ia Z 6 (ni rg)), (u 5, ia Z 8 (ni C))]) (by subst e_C; rfl) ?_
        have hC : ∀ j, j < g + 1 → C j = (fun p => hgh p (A (46 + s1)) f1 f2) j := fun j hj => by rw [e_C]; simp only [va_up]; by_cases hjg : j = g <;> simp only [hjg, if_true, if_false]; exact hF j (by omega)
        have hlk : likeN C ft g g = likeN (fun p => hgh p (A (46 + s1)) f1 f2) ft g g := likeN_ext (hC g (by omega)) g (fun b hb _ => hC b (by omega))
        have hll := likeN_le C ft g g
        have hdv := Nat.div_le_self ft (2 ^ g)
        refine j_iload_n hJ (q := 35) dX8_mostLeft_34 rfl 3 rfl rfl ?_
        refine j_iload hJ (q := 37) dX8_mostLeft_35 7 rfl rfl ?_
        refine j_ishr hJ (q := 38) dX8_mostLeft_37 rfl (nI_shr (by omega) (by omega)) ?_
        refine j_iconst hJ (q := 39) dX8_mostLeft_38 rfl ki_1 ?_
        refine j_iand hJ (q := 40) dX8_mostLeft_39 rfl (nI_and1 (by omega)) ?_
        refine j_iconst hJ (q := 41) dX8_mostLeft_40 rfl ki_1 ?_
        refine jn_icmp_ne hJ (q := 44) (tgt := 60) dX8_mostLeft_41 (by decide) rfl (by omega) (by omega) (fun c2 => ?_) (fun c2 => ?_)
        · skip
          refine j_iinc hJ (q := 63) (lvs' := [(7, .int (nI (g + 1))), (0, .ref h), (1, .int (nI 1)), (2, .int (nI s1)), (3, .int (nI ft)), (4, .int (nI f1)), (5, .int (nI f2)), (6, .int (nI mo))]) dX8_mostLeft_60 7 rfl (by rw [show Int32.ofInt 1 = nI 1 from by decide +kernel]; exact nI_add _ _) (by decide) rfl rfl ?_
          refine j_goto hJ (q := 6) dX8_mostLeft_63 (by decide) ?_
          refine j_locals hJ [1, 2, 3, 4, 5, 6, 7, 0] rfl ?_
          exact ih_6 C mo (g + 1) (by omega) (by omega) hC (by first | assumption | (split <;> omega)) (by simp only [mxN]; rw [if_neg (show ¬ ft / 2 ^ g % 2 = 1 by assumption), ← hmo])
        · skip
          refine j_iload hJ (q := 46) dX8_mostLeft_44 6 rfl rfl ?_
          refine j_iconst hJ (q := 47) dX8_mostLeft_46 rfl ki_1 ?_
          refine j_aload_n hJ (q := 48) dX8_mostLeft_47 rfl 0 rfl rfl ?_
          refine j_iload_n hJ (q := 49) dX8_mostLeft_48 rfl 3 rfl rfl ?_
          refine j_iload hJ (q := 51) dX8_mostLeft_49 7 rfl rfl ?_
          refine j_vR hJ (q := 54) (rest := [.int (nI 1), .int (nI mo)]) (As := [.int (nI ft), .int (nI g)]) jl_X8_318 (c_X8_alikeBefore Z h u ab be Rf C ft g (by omega) (by omega) (fun j hj => by rw [hC j (by omega)]; exact Nat.lt_of_le_of_lt (hgh_le h4) (by decide : 10 < 100000))) 0 rfl rfl dX8_mostLeft_51 rfl (by decide) (Nat.le_of_ble_eq_true rfl) [0, 9] rfl rfl (fun rv hp => ?_)
          obtain rfl := hp
          show J 54 [(0, .ref h), (1, .int (nI 1)), (2, .int (nI s1)), (3, .int (nI ft)), (4, .int (nI f1)), (5, .int (nI f2)), (6, .int (nI mo)), (7, .int (nI g))] [.int (nI (likeN C ft g g)), .int (nI 1), .int (nI mo)] [xO h u ab be (Rf 0) (Rf 1) (Rf 2), (u 0, .inr (4, [.ref (s 0), .ref (s 1), .ref (s 3), .ref (s 5), .ref (s 7)])), cO (s 0) q (A 21) (A 5) (A 6) (A 7) (A 8) (A 0), (q 0, ia Z 12 (ni K)), (q 1, ia Z 12 (ni P)), (q 2, ia Z 6 (ni kd)), (q 3, ia Z 6 (ni am)), (q 4, ia Z 6 (ni st)), (q 5, ia Z 6 (ni rg)), (u 5, ia Z 8 (ni C))] 0 0
          refine j_iadd hJ (q := 55) dX8_mostLeft_54 rfl (nI_add _ _) ?_
          refine j_max hJ (q := 58) (x := mo) (y := (1 + (likeN C ft g g))) tm_643 dX8_mostLeft_55 (by omega) (by omega) (by decide) (Nat.le_of_ble_eq_true rfl) (Nat.le_of_ble_eq_true rfl) (Nat.le_of_ble_eq_true rfl) rfl ?_
          refine j_istore hJ (q := 60) (lvs' := [(6, .int (nI (if mo < (1 + (likeN C ft g g)) then 1 + (likeN C ft g g) else mo))), (0, .ref h), (1, .int (nI 1)), (2, .int (nI s1)), (3, .int (nI ft)), (4, .int (nI f1)), (5, .int (nI f2)), (7, .int (nI g))]) dX8_mostLeft_58 (by decide) rfl rfl ?_
          refine j_iinc hJ (q := 63) (lvs' := [(7, .int (nI (g + 1))), (6, .int (nI (if mo < (1 + (likeN C ft g g)) then 1 + (likeN C ft g g) else mo))), (0, .ref h), (1, .int (nI 1)), (2, .int (nI s1)), (3, .int (nI ft)), (4, .int (nI f1)), (5, .int (nI f2))]) dX8_mostLeft_60 7 rfl (by rw [show Int32.ofInt 1 = nI 1 from by decide +kernel]; exact nI_add _ _) (by decide) rfl rfl ?_
          refine j_goto hJ (q := 6) dX8_mostLeft_63 (by decide) ?_
          refine j_locals hJ [2, 3, 4, 5, 6, 7, 1, 0] rfl ?_
          exact ih_6 C (if mo < (1 + (likeN C ft g g)) then 1 + (likeN C ft g g) else mo) (g + 1) (by omega) (by omega) hC (by first | assumption | (split <;> omega)) (by simp only [mxN]; rw [if_pos (show ft / 2 ^ g % 2 = 1 by assumption), ← hmo, ← hlk])
  refine j_locals hJ [2, 3, 4, 5, 6, 7, 1, 0] rfl ?_
  exact L_6 ((6 - 0) + 1) Fo 0 0 (Nat.lt_succ_self _) (by omega) (fun j hj => absurd hj (Nat.not_lt_zero _)) (by omega) rfl

set_option maxHeartbeats 4000000 in
set_option maxRecDepth 100000 in
theorem c_X8_bestLook1 (Z : jZ) (h : Nat) (u : Nat → Nat) (ab : Int) (be : Int) (Rf : Nat → Nat) (s : Nat → Nat) (q : Nat → Nat) (A : Nat → Nat) (K : Nat → Nat) (P : Nat → Nat) (kd : Nat → Nat) (am : Nat → Nat) (st : Nat → Nat) (rg : Nat → Nat) (Ro : Nat → Nat) (Sn : Nat → Nat) (Nt : Nat → Nat) (Mk : Nat → Nat) (Fo : Nat → Nat) (s1 : Nat) (hg : wg A) (hA : rA A K P kd am st rg Ro Sn Nt Mk) (h1 : s1 < A 21) : CT Z yX8_bestLook cX8_bestLook 11 ((some FieldType.int)) 5 0 0 [.ref h, .int (nI 1), .int (nI s1)] [xO h u ab be (Rf 0) (Rf 1) (Rf 2), (u 0, .inr (4, [.ref (s 0), .ref (s 1), .ref (s 3), .ref (s 5), .ref (s 7)])), cO (s 0) q (A 21) (A 5) (A 6) (A 7) (A 8) (A 0), (q 0, ia Z 12 (ni K)), (q 1, ia Z 12 (ni P)), (q 2, ia Z 6 (ni kd)), (q 3, ia Z 6 (ni am)), (q 4, ia Z 6 (ni st)), (q 5, ia Z 6 (ni rg)), (s 1, .inr (1, [.int (nI (A 4)), .ref (s 2)])), (s 2, ia Z 128 (ni Ro)), (s 3, .inr (3, [.int (nI (A 1)), .int (nI 4), .int (nI 5), .ref (s 4)])), (s 4, ia Z 30 (ni Sn)), (s 5, .inr (3, [.int (nI (A 2)), .int (nI 5), .int (nI 6), .ref (s 6)])), (s 6, ia Z 30 (ni Nt)), (s 7, .inr (3, [.int (nI (A 3)), .int (nI 5), .int (nI 6), .ref (s 8)])), (s 8, ia Z 30 (ni Mk)), (u 5, ia Z 8 (ni Fo))] (fun rr ww => ∃ Fx : Nat → Nat, rr = some (.int (zI (mnz (fLook A s1 (kds A s1 78 (A 2) true)) 4 8 (kds A s1 78 (A 2) true)))) ∧ ww = [xO h u ab be (Rf 0) (Rf 1) (Rf 2), (u 0, .inr (4, [.ref (s 0), .ref (s 1), .ref (s 3), .ref (s 5), .ref (s 7)])), cO (s 0) q (A 21) (A 5) (A 6) (A 7) (A 8) (A 0), (q 0, ia Z 12 (ni K)), (q 1, ia Z 12 (ni P)), (q 2, ia Z 6 (ni kd)), (q 3, ia Z 6 (ni am)), (q 4, ia Z 6 (ni st)), (q 5, ia Z 6 (ni rg)), (s 1, .inr (1, [.int (nI (A 4)), .ref (s 2)])), (s 2, ia Z 128 (ni Ro)), (s 3, .inr (3, [.int (nI (A 1)), .int (nI 4), .int (nI 5), .ref (s 4)])), (s 4, ia Z 30 (ni Sn)), (s 5, .inr (3, [.int (nI (A 2)), .int (nI 5), .int (nI 6), .ref (s 6)])), (s 6, ia Z 30 (ni Nt)), (s 7, .inr (3, [.int (nI (A 3)), .int (nI 5), .int (nI 6), .ref (s 8)])), (s 8, ia Z 30 (ni Mk)), (u 5, ia Z 8 (ni Fx))]) := by
  refine CT.of RX8 false rfl (fun h => by cases h) (by decide +kernel) (Nat.le_of_ble_eq_true rfl) ?_
  intro J hJ hE
  show J 0 [(0, .ref h), (1, .int (nI 1)), (2, .int (nI s1))] [] [xO h u ab be (Rf 0) (Rf 1) (Rf 2), (u 0, .inr (4, [.ref (s 0), .ref (s 1), .ref (s 3), .ref (s 5), .ref (s 7)])), cO (s 0) q (A 21) (A 5) (A 6) (A 7) (A 8) (A 0), (q 0, ia Z 12 (ni K)), (q 1, ia Z 12 (ni P)), (q 2, ia Z 6 (ni kd)), (q 3, ia Z 6 (ni am)), (q 4, ia Z 6 (ni st)), (q 5, ia Z 6 (ni rg)), (s 1, .inr (1, [.int (nI (A 4)), .ref (s 2)])), (s 2, ia Z 128 (ni Ro)), (s 3, .inr (3, [.int (nI (A 1)), .int (nI 4), .int (nI 5), .ref (s 4)])), (s 4, ia Z 30 (ni Sn)), (s 5, .inr (3, [.int (nI (A 2)), .int (nI 5), .int (nI 6), .ref (s 6)])), (s 6, ia Z 30 (ni Nt)), (s 7, .inr (3, [.int (nI (A 3)), .int (nI 5), .int (nI 6), .ref (s 8)])), (s 8, ia Z 30 (ni Mk)), (u 5, ia Z 8 (ni Fo))] 0 0
  obtain ⟨hw, ⟨g1, g2, g3, g4, g8⟩, hrs, hrn, hrm, hpst⟩ := id hg
  obtain ⟨⟨w1, w2, w3, w4, w5, w6⟩, hb, wr, wh, wd⟩ := id hw
  obtain ⟨hR, hX⟩ := id hA
  obtain ⟨hP, hSn, hNt, hMk⟩ := id hX
  refine j_aload_n hJ (q := 1) dX8_bestLook_0 rfl 0 rfl rfl ?_
  refine j_iload_n hJ (q := 2) dX8_bestLook_1 rfl 1 rfl rfl ?_
  refine j_iload_n hJ (q := 3) dX8_bestLook_2 rfl 2 rfl rfl ?_
  refine j_vR hJ (q := 6) (rest := []) (As := [.int (nI 1), .int (nI s1)]) jl_X8_211 (c_X8_thoseThatFit1 Z h u ab be Rf s q A K P kd am st rg Ro Sn Nt Mk s1 hg hA (by omega)) 0 rfl rfl dX8_bestLook_3 rfl (by decide) (Nat.le_of_ble_eq_true rfl) [0, 1, 2, 3, 4, 5, 6, 7, 8, 9, 10, 11, 12, 13, 14, 15, 16] rfl rfl (fun rv hp => ?_)
  obtain rfl := hp
  show J 6 [(0, .ref h), (1, .int (nI 1)), (2, .int (nI s1))] [.int (nI (kds A s1 78 (A 2) true))] [xO h u ab be (Rf 0) (Rf 1) (Rf 2), (u 0, .inr (4, [.ref (s 0), .ref (s 1), .ref (s 3), .ref (s 5), .ref (s 7)])), cO (s 0) q (A 21) (A 5) (A 6) (A 7) (A 8) (A 0), (q 0, ia Z 12 (ni K)), (q 1, ia Z 12 (ni P)), (q 2, ia Z 6 (ni kd)), (q 3, ia Z 6 (ni am)), (q 4, ia Z 6 (ni st)), (q 5, ia Z 6 (ni rg)), (s 1, .inr (1, [.int (nI (A 4)), .ref (s 2)])), (s 2, ia Z 128 (ni Ro)), (s 3, .inr (3, [.int (nI (A 1)), .int (nI 4), .int (nI 5), .ref (s 4)])), (s 4, ia Z 30 (ni Sn)), (s 5, .inr (3, [.int (nI (A 2)), .int (nI 5), .int (nI 6), .ref (s 6)])), (s 6, ia Z 30 (ni Nt)), (s 7, .inr (3, [.int (nI (A 3)), .int (nI 5), .int (nI 6), .ref (s 8)])), (s 8, ia Z 30 (ni Mk)), (u 5, ia Z 8 (ni Fo))] 0 0
  obtain ⟨ft, e_ft⟩ : ∃ k, k = kds A s1 78 (A 2) true := ⟨_, rfl⟩
  refine j_top (congrArg nI e_ft.symm) ?_
  have hft : ft < 64 := by rw [e_ft]; exact kds_lt _ _ _ _ _
  refine j_istore_n hJ (q := 7) (lvs' := [(3, .int (nI ft)), (0, .ref h), (1, .int (nI 1)), (2, .int (nI s1))]) dX8_bestLook_6 rfl (by decide) rfl rfl ?_
  refine j_iload_n hJ (q := 8) dX8_bestLook_7 rfl 0 rfl rfl ?_
  refine jn_if_ne hJ (q := 11) (tgt := 13) dX8_bestLook_8 (by decide) rfl (by omega) (fun c1 => ?_) (fun c1 => ?_)
  · skip
    refine j_iload_n hJ (q := 14) dX8_bestLook_13 rfl 2 rfl rfl ?_
    refine j_iconst hJ (q := 15) dX8_bestLook_14 rfl ki_2 ?_
    refine jn_icmp_ne hJ (q := 18) (tgt := 23) dX8_bestLook_15 (by decide) rfl (by omega) (by omega) (fun c2 => ?_) (fun c2 => ?_)
    · skip
      refine j_bipush hJ (q := 25) dX8_bestLook_23 rfl kb_7 ?_
      refine j_istore hJ (q := 27) (lvs' := [(4, .int (nI 7)), (3, .int (nI ft)), (0, .ref h), (1, .int (nI 1)), (2, .int (nI s1))]) dX8_bestLook_25 (by decide) rfl rfl ?_
      refine j_iload_n hJ (q := 28) dX8_bestLook_27 rfl 3 rfl rfl ?_
      refine j_iconst hJ (q := 29) dX8_bestLook_28 rfl ki_2 ?_
      refine jn_icmp_ne hJ (q := 32) (tgt := 37) dX8_bestLook_29 (by decide) rfl (by omega) (by omega) (fun c3 => ?_) (fun c3 => ?_)
      · skip
        refine j_iconst hJ (q := 38) dX8_bestLook_37 rfl ki_3 ?_
        refine j_istore hJ (q := 40) (lvs' := [(5, .int (nI 3)), (4, .int (nI 7)), (3, .int (nI ft)), (0, .ref h), (1, .int (nI 1)), (2, .int (nI s1))]) dX8_bestLook_38 (by decide) rfl rfl ?_
        refine j_bipush hJ (q := 42) dX8_bestLook_40 rfl kb_9 ?_
        refine j_istore hJ (q := 44) (lvs' := [(6, .int (nI 9)), (5, .int (nI 3)), (4, .int (nI 7)), (3, .int (nI ft)), (0, .ref h), (1, .int (nI 1)), (2, .int (nI s1))]) dX8_bestLook_42 (by decide) rfl rfl ?_
        refine j_iconst hJ (q := 45) dX8_bestLook_44 rfl ki_m1 ?_
        refine j_istore hJ (q := 47) (lvs' := [(7, .int (zI (-1))), (6, .int (nI 9)), (5, .int (nI 3)), (4, .int (nI 7)), (3, .int (nI ft)), (0, .ref h), (1, .int (nI 1)), (2, .int (nI s1))]) dX8_bestLook_45 (by decide) rfl rfl ?_
        refine j_iconst hJ (q := 48) dX8_bestLook_47 rfl ki_0 ?_
        refine j_istore hJ (q := 50) (lvs' := [(8, .int (nI 0)), (7, .int (zI (-1))), (6, .int (nI 9)), (5, .int (nI 3)), (4, .int (nI 7)), (3, .int (nI ft)), (0, .ref h), (1, .int (nI 1)), (2, .int (nI s1))]) dX8_bestLook_48 (by decide) rfl rfl ?_
        have L_50 : ∀ (fu_50 : Nat) (Fb : Nat → Nat) (fw : Nat) (bs : Int) (t : Nat), 8 - t < fu_50 → (t ≤ 8) → (fw ≤ 9) → ((bs, fw) = cm9 (mnI (fLook A s1 ft) 4 t)) → J 50 [(0, .ref h), (1, .int (nI 1)), (2, .int (nI s1)), (3, .int (nI ft)), (4, .int (nI 7)), (5, .int (nI 3)), (6, .int (nI fw)), (7, .int (zI bs)), (8, .int (nI t))] [] [xO h u ab be (Rf 0) (Rf 1) (Rf 2), (u 0, .inr (4, [.ref (s 0), .ref (s 1), .ref (s 3), .ref (s 5), .ref (s 7)])), cO (s 0) q (A 21) (A 5) (A 6) (A 7) (A 8) (A 0), (q 0, ia Z 12 (ni K)), (q 1, ia Z 12 (ni P)), (q 2, ia Z 6 (ni kd)), (q 3, ia Z 6 (ni am)), (q 4, ia Z 6 (ni st)), (q 5, ia Z 6 (ni rg)), (s 1, .inr (1, [.int (nI (A 4)), .ref (s 2)])), (s 2, ia Z 128 (ni Ro)), (s 3, .inr (3, [.int (nI (A 1)), .int (nI 4), .int (nI 5), .ref (s 4)])), (s 4, ia Z 30 (ni Sn)), (s 5, .inr (3, [.int (nI (A 2)), .int (nI 5), .int (nI 6), .ref (s 6)])), (s 6, ia Z 30 (ni Nt)), (s 7, .inr (3, [.int (nI (A 3)), .int (nI 5), .int (nI 6), .ref (s 8)])), (s 8, ia Z 30 (ni Mk)), (u 5, ia Z 8 (ni Fb))] 0 0 := by
          intro fu_50
          induction fu_50 with
          | zero => intro Fb fw bs t hm; exact absurd hm (Nat.not_lt_zero _)
          | succ fu_50 ih_50 =>
            intro Fb fw bs t hm_50 ht hfw hbf
            refine j_iload hJ (q := 52) dX8_bestLook_50 8 rfl rfl ?_
            refine j_iload hJ (q := 54) dX8_bestLook_52 4 rfl rfl ?_
            refine jn_icmp_gt hJ (q := 57) (tgt := 113) dX8_bestLook_54 (by decide) rfl (by omega) (by omega) (fun c4 => ?_) (fun c4 => ?_)
            · skip
              refine j_iload hJ (q := 115) dX8_bestLook_113 7 rfl rfl ?_
              have hbz : bs = (mnI (fLook A s1 ft) 4 t).1 := congrArg Prod.fst hbf
              exact hE.1 _ _ _ _ _ _ _ rfl rfl dX8_bestLook_115 (Nat.le_refl _) (Nat.le_refl _) (⟨Fb, congrArg (fun z => some (Value.int (zI z))) (by rw [← e_ft]; unfold mnz; rw [if_neg (by omega), hbz, show t = 8 by omega]), rfl⟩)
            · skip
              refine j_iconst hJ (q := 58) dX8_bestLook_57 rfl ki_0 ?_
              refine j_istore hJ (q := 60) (lvs' := [(9, .int (nI 0)), (0, .ref h), (1, .int (nI 1)), (2, .int (nI s1)), (3, .int (nI ft)), (4, .int (nI 7)), (5, .int (nI 3)), (6, .int (nI fw)), (7, .int (zI bs)), (8, .int (nI t))]) dX8_bestLook_58 (by decide) rfl rfl ?_
              have L_60 : ∀ (fu_60 : Nat) (Fb : Nat → Nat) (fw : Nat) (bs : Int) (v : Nat), 4 - v < fu_60 → (v ≤ 4) → (fw ≤ 9) → ((bs, fw) = cm9 (mnJ (fLook A s1 ft t) t v (mnI (fLook A s1 ft) 4 t))) → J 60 [(0, .ref h), (1, .int (nI 1)), (2, .int (nI s1)), (3, .int (nI ft)), (4, .int (nI 7)), (5, .int (nI 3)), (6, .int (nI fw)), (7, .int (zI bs)), (8, .int (nI t)), (9, .int (nI v))] [] [xO h u ab be (Rf 0) (Rf 1) (Rf 2), (u 0, .inr (4, [.ref (s 0), .ref (s 1), .ref (s 3), .ref (s 5), .ref (s 7)])), cO (s 0) q (A 21) (A 5) (A 6) (A 7) (A 8) (A 0), (q 0, ia Z 12 (ni K)), (q 1, ia Z 12 (ni P)), (q 2, ia Z 6 (ni kd)), (q 3, ia Z 6 (ni am)), (q 4, ia Z 6 (ni st)), (q 5, ia Z 6 (ni rg)), (s 1, .inr (1, [.int (nI (A 4)), .ref (s 2)])), (s 2, ia Z 128 (ni Ro)), (s 3, .inr (3, [.int (nI (A 1)), .int (nI 4), .int (nI 5), .ref (s 4)])), (s 4, ia Z 30 (ni Sn)), (s 5, .inr (3, [.int (nI (A 2)), .int (nI 5), .int (nI 6), .ref (s 6)])), (s 6, ia Z 30 (ni Nt)), (s 7, .inr (3, [.int (nI (A 3)), .int (nI 5), .int (nI 6), .ref (s 8)])), (s 8, ia Z 30 (ni Mk)), (u 5, ia Z 8 (ni Fb))] 0 0 := by
                intro fu_60
                induction fu_60 with
                | zero => intro Fb fw bs v hm; exact absurd hm (Nat.not_lt_zero _)
                | succ fu_60 ih_60 =>
                  intro Fb fw bs v hm_60 hv hfw hbf
                  refine j_iload hJ (q := 62) dX8_bestLook_60 9 rfl rfl ?_
                  refine j_iload hJ (q := 64) dX8_bestLook_62 5 rfl rfl ?_
                  refine jn_icmp_gt hJ (q := 67) (tgt := 107) dX8_bestLook_64 (by decide) rfl (by omega) (by omega) (fun c5 => ?_) (fun c5 => ?_)
                  · skip
                    refine j_iinc hJ (q := 110) (lvs' := [(8, .int (nI (t + 1))), (0, .ref h), (1, .int (nI 1)), (2, .int (nI s1)), (3, .int (nI ft)), (4, .int (nI 7)), (5, .int (nI 3)), (6, .int (nI fw)), (7, .int (zI bs)), (9, .int (nI v))]) dX8_bestLook_107 8 rfl (by rw [show Int32.ofInt 1 = nI 1 from by decide +kernel]; exact nI_add _ _) (by decide) rfl rfl ?_
                    refine j_goto hJ (q := 50) dX8_bestLook_110 (by decide) ?_
                    refine j_locals hJ [1, 2, 3, 4, 5, 6, 7, 8, 0] rfl ?_
                    exact ih_50 Fb fw bs (t + 1) (by omega) (by omega) (by omega) (by rw [hbf, show v = 4 by omega]; rfl)
                  · skip
                    refine j_aload_n hJ (q := 68) dX8_bestLook_67 rfl 0 rfl rfl ?_
                    refine j_iload_n hJ (q := 69) dX8_bestLook_68 rfl 1 rfl rfl ?_
                    refine j_iload_n hJ (q := 70) dX8_bestLook_69 rfl 2 rfl rfl ?_
                    refine j_iload_n hJ (q := 71) dX8_bestLook_70 rfl 3 rfl rfl ?_
                    refine j_iload hJ (q := 73) dX8_bestLook_71 8 rfl rfl ?_
                    refine j_iload hJ (q := 75) dX8_bestLook_73 9 rfl rfl ?_
                    refine j_vW hJ (q := 78) (rest := []) (As := [.int (nI 1), .int (nI s1), .int (nI ft), .int (nI t), .int (nI v)]) (wr := [(s 1, .inr (1, [.int (nI (A 4)), .ref (s 2)])), (s 2, ia Z 128 (ni Ro)), (s 3, .inr (3, [.int (nI (A 1)), .int (nI 4), .int (nI 5), .ref (s 4)])), (s 4, ia Z 30 (ni Sn)), (s 5, .inr (3, [.int (nI (A 2)), .int (nI 5), .int (nI 6), .ref (s 6)])), (s 6, ia Z 30 (ni Nt)), (s 7, .inr (3, [.int (nI (A 3)), .int (nI 5), .int (nI 6), .ref (s 8)])), (s 8, ia Z 30 (ni Mk))]) jl_X8_311 (c_X8_mostLeft1 Z h u ab be Rf s q A K P kd am st rg Fb s1 ft t v hg hR h1 (by omega) (by omega) (by omega)) 0 rfl rfl dX8_bestLook_75 rfl (by decide) (Nat.le_of_ble_eq_true rfl) [0, 1, 2, 3, 4, 5, 6, 7, 8, 17] [9, 10, 11, 12, 13, 14, 15, 16] rfl rfl rfl rfl (by decide) rfl (fun rv wv hp => ?_)
                    obtain ⟨Fx6, rfl, rfl⟩ := hp
                    refine j_world hJ (ws' := [xO h u ab be (Rf 0) (Rf 1) (Rf 2), (u 0, .inr (4, [.ref (s 0), .ref (s 1), .ref (s 3), .ref (s 5), .ref (s 7)])), cO (s 0) q (A 21) (A 5) (A 6) (A 7) (A 8) (A 0), (q 0, ia Z 12 (ni K)), (q 1, ia Z 12 (ni P)), (q 2, ia Z 6 (ni kd)), (q 3, ia Z 6 (ni am)), (q 4, ia Z 6 (ni st)), (q 5, ia Z 6 (ni rg)), (s 1, .inr (1, [.int (nI (A 4)), .ref (s 2)])), (s 2, ia Z 128 (ni Ro)), (s 3, .inr (3, [.int (nI (A 1)), .int (nI 4), .int (nI 5), .ref (s 4)])), (s 4, ia Z 30 (ni Sn)), (s 5, .inr (3, [.int (nI (A 2)), .int (nI 5), .int (nI 6), .ref (s 6)])), (s 6, ia Z 30 (ni Nt)), (s 7, .inr (3, [.int (nI (A 3)), .int (nI 5), .int (nI 6), .ref (s 8)])), (s 8, ia Z 30 (ni Mk)), (u 5, ia Z 8 (ni Fx6))]) [8, 9, 10, 11, 12, 13, 14, 15, 16, 0, 1, 2, 3, 4, 5, 6, 7, 17] rfl rfl ?_
                    show J 78 [(0, .ref h), (1, .int (nI 1)), (2, .int (nI s1)), (3, .int (nI ft)), (4, .int (nI 7)), (5, .int (nI 3)), (6, .int (nI fw)), (7, .int (zI bs)), (8, .int (nI t)), (9, .int (nI v))] [.int (nI (fLook A s1 ft t v))] [xO h u ab be (Rf 0) (Rf 1) (Rf 2), (u 0, .inr (4, [.ref (s 0), .ref (s 1), .ref (s 3), .ref (s 5), .ref (s 7)])), cO (s 0) q (A 21) (A 5) (A 6) (A 7) (A 8) (A 0), (q 0, ia Z 12 (ni K)), (q 1, ia Z 12 (ni P)), (q 2, ia Z 6 (ni kd)), (q 3, ia Z 6 (ni am)), (q 4, ia Z 6 (ni st)), (q 5, ia Z 6 (ni rg)), (s 1, .inr (1, [.int (nI (A 4)), .ref (s 2)])), (s 2, ia Z 128 (ni Ro)), (s 3, .inr (3, [.int (nI (A 1)), .int (nI 4), .int (nI 5), .ref (s 4)])), (s 4, ia Z 30 (ni Sn)), (s 5, .inr (3, [.int (nI (A 2)), .int (nI 5), .int (nI 6), .ref (s 6)])), (s 6, ia Z 30 (ni Nt)), (s 7, .inr (3, [.int (nI (A 3)), .int (nI 5), .int (nI 6), .ref (s 8)])), (s 8, ia Z 30 (ni Mk)), (u 5, ia Z 8 (ni Fx6))] 0 0
                    have h8 : fLook A s1 ft t v ≤ 8 := topN_le _ _ 8
                    refine j_istore hJ (q := 80) (lvs' := [(10, .int (nI (fLook A s1 ft t v))), (0, .ref h), (1, .int (nI 1)), (2, .int (nI s1)), (3, .int (nI ft)), (4, .int (nI 7)), (5, .int (nI 3)), (6, .int (nI fw)), (7, .int (zI bs)), (8, .int (nI t)), (9, .int (nI v))]) dX8_bestLook_78 (by decide) rfl rfl ?_
                    refine j_iload hJ (q := 82) dX8_bestLook_80 0 rfl rfl ?_
                    refine j_iload hJ (q := 84) dX8_bestLook_82 7 rfl rfl ?_
                    refine jn_icmp_ge hJ (q := 87) (tgt := 101) dX8_bestLook_84 (by decide) rfl (by omega) (by omega) (fun c7 => ?_) (fun c7 => ?_)
                    · skip
                      refine j_iinc hJ (q := 104) (lvs' := [(9, .int (nI (v + 1))), (10, .int (nI (fLook A s1 ft t v))), (0, .ref h), (1, .int (nI 1)), (2, .int (nI s1)), (3, .int (nI ft)), (4, .int (nI 7)), (5, .int (nI 3)), (6, .int (nI fw)), (7, .int (zI bs)), (8, .int (nI t))]) dX8_bestLook_101 10 rfl (by rw [show Int32.ofInt 1 = nI 1 from by decide +kernel]; exact nI_add _ _) (by decide) rfl rfl ?_
                      refine j_goto hJ (q := 60) dX8_bestLook_104 (by decide) ?_
                      refine j_locals hJ [2, 3, 4, 5, 6, 7, 8, 9, 10, 0] rfl ?_
                      exact ih_60 Fx6 fw bs (v + 1) (by omega) (by omega) (by omega) (cm_no hbf h8 (by omega))
                    · skip
                      refine j_iload hJ (q := 89) dX8_bestLook_87 0 rfl rfl ?_
                      refine j_istore hJ (q := 91) (lvs' := [(6, .int (nI (fLook A s1 ft t v))), (10, .int (nI (fLook A s1 ft t v))), (0, .ref h), (1, .int (nI 1)), (2, .int (nI s1)), (3, .int (nI ft)), (4, .int (nI 7)), (5, .int (nI 3)), (7, .int (zI bs)), (8, .int (nI t)), (9, .int (nI v))]) dX8_bestLook_89 (by decide) rfl rfl ?_
                      refine j_bipush hJ (q := 93) dX8_bestLook_91 rfl kb_10 ?_
                      refine j_iload hJ (q := 95) dX8_bestLook_93 9 rfl rfl ?_
                      refine j_imul hJ (q := 96) dX8_bestLook_95 rfl (pk_mul _ _) ?_
                      refine j_iload hJ (q := 98) dX8_bestLook_96 10 rfl rfl ?_
                      refine j_iadd hJ (q := 99) dX8_bestLook_98 rfl (nI_add _ _) ?_
                      refine j_istore hJ (q := 101) (lvs' := [(7, .int (nI (10 * t + v))), (6, .int (nI (fLook A s1 ft t v))), (10, .int (nI (fLook A s1 ft t v))), (0, .ref h), (1, .int (nI 1)), (2, .int (nI s1)), (3, .int (nI ft)), (4, .int (nI 7)), (5, .int (nI 3)), (8, .int (nI t)), (9, .int (nI v))]) dX8_bestLook_99 (by decide) rfl rfl ?_
                      refine j_iinc hJ (q := 104) (lvs' := [(9, .int (nI (v + 1))), (7, .int (nI (10 * t + v))), (6, .int (nI (fLook A s1 ft t v))), (10, .int (nI (fLook A s1 ft t v))), (0, .ref h), (1, .int (nI 1)), (2, .int (nI s1)), (3, .int (nI ft)), (4, .int (nI 7)), (5, .int (nI 3)), (8, .int (nI t))]) dX8_bestLook_101 10 rfl (by rw [show Int32.ofInt 1 = nI 1 from by decide +kernel]; exact nI_add _ _) (by decide) rfl rfl ?_
                      refine j_goto hJ (q := 60) dX8_bestLook_104 (by decide) ?_
                      refine j_locals hJ [4, 5, 6, 7, 8, 9, 2, 1, 10, 0] rfl ?_
                      refine j_eql (lvs' := [(0, .ref h), (1, .int (nI 1)), (2, .int (nI s1)), (3, .int (nI ft)), (4, .int (nI 7)), (5, .int (nI 3)), (6, .int (nI (fLook A s1 ft t v))), (7, .int (zI ((10 * t + v : Nat) : Int))), (8, .int (nI t)), (9, .int (nI (v + 1)))]) (by simp only [zI_nat] <;> rfl) ?_
                      exact ih_60 Fx6 (fLook A s1 ft t v) ((10 * t + v : Nat) : Int) (v + 1) (by omega) (by omega) (by omega) (cm_go hbf h8 (by omega))
              refine j_locals hJ [1, 2, 3, 4, 5, 6, 7, 8, 9, 0] rfl ?_
              exact L_60 ((4 - 0) + 1) Fb fw bs 0 (Nat.lt_succ_self _) (by omega) (by omega) (by rw [hbf]; rfl)
        refine j_locals hJ [6, 7, 8, 5, 4, 3, 2, 1, 0] rfl ?_
        exact L_50 ((8 - 0) + 1) Fo 9 (-1) 0 (Nat.lt_succ_self _) (by omega) (by omega) rfl
      · skip
        exfalso; omega
    · skip
      exfalso; omega
  · skip
    refine j_iconst hJ (q := 12) dX8_bestLook_11 rfl ki_m1 ?_
    exact hE.1 _ _ _ _ _ _ _ rfl rfl dX8_bestLook_12 (Nat.le_refl _) (Nat.le_refl _) (⟨Fo, congrArg (fun z => some (Value.int (zI z))) (by rw [← e_ft]; unfold mnz; rw [if_pos (by omega)]), rfl⟩)

set_option maxHeartbeats 4000000 in
set_option maxRecDepth 100000 in
theorem c_X8_foretell2 (Z : jZ) (h : Nat) (u : Nat → Nat) (ab : Int) (be : Int) (Rf : Nat → Nat) (s : Nat → Nat) (q : Nat → Nat) (A : Nat → Nat) (K : Nat → Nat) (P : Nat → Nat) (kd : Nat → Nat) (am : Nat → Nat) (st : Nat → Nat) (rg : Nat → Nat) (s1 : Nat) (g : Nat) (f1 : Nat) (f2 : Nat) (hg : wg A) (hR : rR A K P kd am st rg) (h1 : s1 < A 0) (h2 : g < 6) (h3 : f1 ≤ 10) (h4 : f2 ≤ 9) : CR Z yX8_foretell cX8_foretell 6 ((some FieldType.int)) 2 [.ref h, .int (nI 2), .int (nI s1), .int (nI g), .int (nI f1), .int (nI f2)] [xO h u ab be (Rf 0) (Rf 1) (Rf 2), (u 0, .inr (4, [.ref (s 0), .ref (s 1), .ref (s 3), .ref (s 5), .ref (s 7)])), cO (s 0) q (A 21) (A 5) (A 6) (A 7) (A 8) (A 0), (q 0, ia Z 12 (ni K)), (q 1, ia Z 12 (ni P)), (q 2, ia Z 6 (ni kd)), (q 3, ia Z 6 (ni am)), (q 4, ia Z 6 (ni st)), (q 5, ia Z 6 (ni rg))] (fun rr => rr = some (.int (nI (rch g (A (28 + s1)) f1 f2)))) := by
  refine CR.of RX8 rfl (by decide +kernel) (Nat.le_of_ble_eq_true rfl) ?_
  intro J hJ hE
  show J 0 [(0, .ref h), (1, .int (nI 2)), (2, .int (nI s1)), (3, .int (nI g)), (4, .int (nI f1)), (5, .int (nI f2))] [] [xO h u ab be (Rf 0) (Rf 1) (Rf 2), (u 0, .inr (4, [.ref (s 0), .ref (s 1), .ref (s 3), .ref (s 5), .ref (s 7)])), cO (s 0) q (A 21) (A 5) (A 6) (A 7) (A 8) (A 0), (q 0, ia Z 12 (ni K)), (q 1, ia Z 12 (ni P)), (q 2, ia Z 6 (ni kd)), (q 3, ia Z 6 (ni am)), (q 4, ia Z 6 (ni st)), (q 5, ia Z 6 (ni rg))] 0 0
  obtain ⟨hw, ⟨g1, g2, g3, g4, g8⟩, hrs, hrn, hrm, hpst⟩ := id hg
  obtain ⟨⟨w1, w2, w3, w4, w5, w6⟩, hb, wr, wh, wd⟩ := id hw
  have hk5 := wr s1 h1
  refine j_iload_n hJ (q := 1) dX8_foretell_0 rfl 1 rfl rfl ?_
  refine jn_lookup hJ (q := 70) (k := 2) (off := 69) dX8_foretell_1 (by decide) (by decide) (by decide) ?_
  refine j_iload_n hJ (q := 71) dX8_foretell_70 rfl 3 rfl rfl ?_
  refine j_aload_n hJ (q := 72) dX8_foretell_71 rfl 0 rfl rfl ?_
  refine j_get hJ (q := 75) jf_X8_10 dX8_foretell_72 0 rfl rfl rfl ?_
  refine j_get hJ (q := 78) jf_X8_66 dX8_foretell_75 1 rfl rfl rfl ?_
  refine j_get hJ (q := 81) jf_X8_156 dX8_foretell_78 2 rfl rfl rfl ?_
  refine j_iload_n hJ (q := 82) dX8_foretell_81 rfl 2 rfl rfl ?_
  refine j_ialdN hJ (q := 83) (z := nI (am s1)) dX8_foretell_82 6 rfl (by omega) (by decide) rfl rfl ?_
  refine j_top (congrArg nI (rR_a hR (i := s1) (by omega))) ?_
  have b1 := hb (28 + s1)
  refine j_iload hJ (q := 85) dX8_foretell_83 4 rfl rfl ?_
  refine j_iload hJ (q := 87) dX8_foretell_85 5 rfl rfl ?_
  refine j_sR hJ (q := 90) (rest := []) (As := [.int (nI g), .int (nI (A (28 + s1))), .int (nI f1), .int (nI f2)]) jl_X8_306 (c_X0_reach Z g (A (28 + s1)) f1 f2 (by omega) (by omega) (by omega) (by omega)) dX8_foretell_87 rfl (by decide) (Nat.le_of_ble_eq_true rfl) [] rfl rfl (fun rv hp => ?_)
  obtain rfl := hp
  show J 90 [(0, .ref h), (1, .int (nI 2)), (2, .int (nI s1)), (3, .int (nI g)), (4, .int (nI f1)), (5, .int (nI f2))] [.int (nI (rch g (A (28 + s1)) f1 f2))] [xO h u ab be (Rf 0) (Rf 1) (Rf 2), (u 0, .inr (4, [.ref (s 0), .ref (s 1), .ref (s 3), .ref (s 5), .ref (s 7)])), cO (s 0) q (A 21) (A 5) (A 6) (A 7) (A 8) (A 0), (q 0, ia Z 12 (ni K)), (q 1, ia Z 12 (ni P)), (q 2, ia Z 6 (ni kd)), (q 3, ia Z 6 (ni am)), (q 4, ia Z 6 (ni st)), (q 5, ia Z 6 (ni rg))] 0 0
  exact hE.1 _ _ _ _ _ _ _ rfl rfl dX8_foretell_90 (Nat.le_refl _) (Nat.le_refl _) (congrArg (fun z => some (Value.int (nI z))) (by rfl))

set_option maxHeartbeats 4000000 in
set_option maxRecDepth 100000 in
theorem c_X8_mostLeft2 (Z : jZ) (h : Nat) (u : Nat → Nat) (ab : Int) (be : Int) (Rf : Nat → Nat) (s : Nat → Nat) (q : Nat → Nat) (A : Nat → Nat) (K : Nat → Nat) (P : Nat → Nat) (kd : Nat → Nat) (am : Nat → Nat) (st : Nat → Nat) (rg : Nat → Nat) (Fo : Nat → Nat) (s1 : Nat) (ft : Nat) (f1 : Nat) (f2 : Nat) (hg : wg A) (hR : rR A K P kd am st rg) (h1 : s1 < A 0) (hft : ft < 64) (h3 : f1 ≤ 10) (h4 : f2 ≤ 9) : CT Z yX8_mostLeft cX8_mostLeft 8 ((some FieldType.int)) 3 0 0 [.ref h, .int (nI 2), .int (nI s1), .int (nI ft), .int (nI f1), .int (nI f2)] [xO h u ab be (Rf 0) (Rf 1) (Rf 2), (u 0, .inr (4, [.ref (s 0), .ref (s 1), .ref (s 3), .ref (s 5), .ref (s 7)])), cO (s 0) q (A 21) (A 5) (A 6) (A 7) (A 8) (A 0), (q 0, ia Z 12 (ni K)), (q 1, ia Z 12 (ni P)), (q 2, ia Z 6 (ni kd)), (q 3, ia Z 6 (ni am)), (q 4, ia Z 6 (ni st)), (q 5, ia Z 6 (ni rg)), (u 5, ia Z 8 (ni Fo))] (fun rr ww => ∃ Fx : Nat → Nat, rr = some (.int (nI (fAsk A s1 ft f1 f2))) ∧ ww = [xO h u ab be (Rf 0) (Rf 1) (Rf 2), (u 0, .inr (4, [.ref (s 0), .ref (s 1), .ref (s 3), .ref (s 5), .ref (s 7)])), cO (s 0) q (A 21) (A 5) (A 6) (A 7) (A 8) (A 0), (q 0, ia Z 12 (ni K)), (q 1, ia Z 12 (ni P)), (q 2, ia Z 6 (ni kd)), (q 3, ia Z 6 (ni am)), (q 4, ia Z 6 (ni st)), (q 5, ia Z 6 (ni rg)), (u 5, ia Z 8 (ni Fx))]) := by
  refine CT.of RX8 false rfl (fun h => by cases h) (by decide +kernel) (Nat.le_of_ble_eq_true rfl) ?_
  intro J hJ hE
  show J 0 [(0, .ref h), (1, .int (nI 2)), (2, .int (nI s1)), (3, .int (nI ft)), (4, .int (nI f1)), (5, .int (nI f2))] [] [xO h u ab be (Rf 0) (Rf 1) (Rf 2), (u 0, .inr (4, [.ref (s 0), .ref (s 1), .ref (s 3), .ref (s 5), .ref (s 7)])), cO (s 0) q (A 21) (A 5) (A 6) (A 7) (A 8) (A 0), (q 0, ia Z 12 (ni K)), (q 1, ia Z 12 (ni P)), (q 2, ia Z 6 (ni kd)), (q 3, ia Z 6 (ni am)), (q 4, ia Z 6 (ni st)), (q 5, ia Z 6 (ni rg)), (u 5, ia Z 8 (ni Fo))] 0 0
  obtain ⟨hw, ⟨g1, g2, g3, g4, g8⟩, hrs, hrn, hrm, hpst⟩ := id hg
  obtain ⟨⟨w1, w2, w3, w4, w5, w6⟩, hb, wr, wh, wd⟩ := id hw
  have hk5 := wr s1 h1
  refine j_iconst hJ (q := 1) dX8_mostLeft_0 rfl ki_0 ?_
  refine j_istore hJ (q := 3) (lvs' := [(6, .int (nI 0)), (0, .ref h), (1, .int (nI 2)), (2, .int (nI s1)), (3, .int (nI ft)), (4, .int (nI f1)), (5, .int (nI f2))]) dX8_mostLeft_1 (by decide) rfl rfl ?_
  refine j_iconst hJ (q := 4) dX8_mostLeft_3 rfl ki_0 ?_
  refine j_istore hJ (q := 6) (lvs' := [(7, .int (nI 0)), (6, .int (nI 0)), (0, .ref h), (1, .int (nI 2)), (2, .int (nI s1)), (3, .int (nI ft)), (4, .int (nI f1)), (5, .int (nI f2))]) dX8_mostLeft_4 (by decide) rfl rfl ?_
  have L_6 : ∀ (fu_6 : Nat) (Fb : Nat → Nat) (mo : Nat) (g : Nat), 6 - g < fu_6 → (g ≤ 6) → (∀ j, j < g → Fb j = (fun p => rch p (A (28 + s1)) f1 f2) j) → (mo ≤ 8) → (mo = mxN (fun p => rch p (A (28 + s1)) f1 f2) ft g) → J 6 [(0, .ref h), (1, .int (nI 2)), (2, .int (nI s1)), (3, .int (nI ft)), (4, .int (nI f1)), (5, .int (nI f2)), (6, .int (nI mo)), (7, .int (nI g))] [] [xO h u ab be (Rf 0) (Rf 1) (Rf 2), (u 0, .inr (4, [.ref (s 0), .ref (s 1), .ref (s 3), .ref (s 5), .ref (s 7)])), cO (s 0) q (A 21) (A 5) (A 6) (A 7) (A 8) (A 0), (q 0, ia Z 12 (ni K)), (q 1, ia Z 12 (ni P)), (q 2, ia Z 6 (ni kd)), (q 3, ia Z 6 (ni am)), (q 4, ia Z 6 (ni st)), (q 5, ia Z 6 (ni rg)), (u 5, ia Z 8 (ni Fb))] 0 0 := by
    intro fu_6
    induction fu_6 with
    | zero => intro Fb mo g hm; exact absurd hm (Nat.not_lt_zero _)
    | succ fu_6 ih_6 =>
      intro Fb mo g hm_6 hg1 hF hml hmo
      refine j_iload hJ (q := 8) dX8_mostLeft_6 7 rfl rfl ?_
      refine j_iload_n hJ (q := 9) dX8_mostLeft_8 rfl 1 rfl rfl ?_
      refine j_sR hJ (q := 12) (rest := [.int (nI g)]) (As := [.int (nI 2)]) jl_X8_287 (c_X8_howManyGuessed2 Z  ) dX8_mostLeft_9 rfl (by decide) (Nat.le_of_ble_eq_true rfl) [] rfl rfl (fun rv hp => ?_)
      obtain rfl := hp
      show J 12 [(0, .ref h), (1, .int (nI 2)), (2, .int (nI s1)), (3, .int (nI ft)), (4, .int (nI f1)), (5, .int (nI f2)), (6, .int (nI mo)), (7, .int (nI g))] [.int (nI 6), .int (nI g)] [xO h u ab be (Rf 0) (Rf 1) (Rf 2), (u 0, .inr (4, [.ref (s 0), .ref (s 1), .ref (s 3), .ref (s 5), .ref (s 7)])), cO (s 0) q (A 21) (A 5) (A 6) (A 7) (A 8) (A 0), (q 0, ia Z 12 (ni K)), (q 1, ia Z 12 (ni P)), (q 2, ia Z 6 (ni kd)), (q 3, ia Z 6 (ni am)), (q 4, ia Z 6 (ni st)), (q 5, ia Z 6 (ni rg)), (u 5, ia Z 8 (ni Fb))] 0 0
      refine jn_icmp_ge hJ (q := 15) (tgt := 66) dX8_mostLeft_12 (by decide) rfl (by omega) (by omega) (fun c1 => ?_) (fun c1 => ?_)
      · skip
        refine j_iload hJ (q := 68) dX8_mostLeft_66 6 rfl rfl ?_
        exact hE.1 _ _ _ _ _ _ _ rfl rfl dX8_mostLeft_68 (Nat.le_refl _) (Nat.le_refl _) (⟨Fb, congrArg (fun z => some (Value.int (nI z))) (by rw [hmo, show g = 6 by omega]; exact (mxN_68 hft).trans mxN_top), rfl⟩)
      · skip
        refine j_aload_n hJ (q := 16) dX8_mostLeft_15 rfl 0 rfl rfl ?_
        refine j_get hJ (q := 19) jf_X8_48 dX8_mostLeft_16 0 rfl rfl rfl ?_
        refine j_iload hJ (q := 21) dX8_mostLeft_19 7 rfl rfl ?_
        refine j_aload_n hJ (q := 22) dX8_mostLeft_21 rfl 0 rfl rfl ?_
        refine j_iload_n hJ (q := 23) dX8_mostLeft_22 rfl 1 rfl rfl ?_
        refine j_iload_n hJ (q := 24) dX8_mostLeft_23 rfl 2 rfl rfl ?_
        refine j_iload hJ (q := 26) dX8_mostLeft_24 7 rfl rfl ?_
        refine j_iload hJ (q := 28) dX8_mostLeft_26 4 rfl rfl ?_
        refine j_iload hJ (q := 30) dX8_mostLeft_28 5 rfl rfl ?_
        refine j_vR hJ (q := 33) (rest := [.int (nI g), .ref (u 5)]) (As := [.int (nI 2), .int (nI s1), .int (nI g), .int (nI f1), .int (nI f2)]) jl_X8_315 (c_X8_foretell2 Z h u ab be Rf s q A K P kd am st rg s1 g f1 f2 hg hR (by omega) (by omega) (by omega) (by omega)) 0 rfl rfl dX8_mostLeft_30 rfl (by decide) (Nat.le_of_ble_eq_true rfl) [0, 1, 2, 3, 4, 5, 6, 7, 8] rfl rfl (fun rv hp => ?_)
        obtain rfl := hp
        show J 33 [(0, .ref h), (1, .int (nI 2)), (2, .int (nI s1)), (3, .int (nI ft)), (4, .int (nI f1)), (5, .int (nI f2)), (6, .int (nI mo)), (7, .int (nI g))] [.int (nI (rch g (A (28 + s1)) f1 f2)), .int (nI g), .ref (u 5)] [xO h u ab be (Rf 0) (Rf 1) (Rf 2), (u 0, .inr (4, [.ref (s 0), .ref (s 1), .ref (s 3), .ref (s 5), .ref (s 7)])), cO (s 0) q (A 21) (A 5) (A 6) (A 7) (A 8) (A 0), (q 0, ia Z 12 (ni K)), (q 1, ia Z 12 (ni P)), (q 2, ia Z 6 (ni kd)), (q 3, ia Z 6 (ni am)), (q 4, ia Z 6 (ni st)), (q 5, ia Z 6 (ni rg)), (u 5, ia Z 8 (ni Fb))] 0 0
        refine j_iastN hJ (q := 34) (ws' := [xO h u ab be (Rf 0) (Rf 1) (Rf 2), (u 0, .inr (4, [.ref (s 0), .ref (s 1), .ref (s 3), .ref (s 5), .ref (s 7)])), cO (s 0) q (A 21) (A 5) (A 6) (A 7) (A 8) (A 0), (q 0, ia Z 12 (ni K)), (q 1, ia Z 12 (ni P)), (q 2, ia Z 6 (ni kd)), (q 3, ia Z 6 (ni am)), (q 4, ia Z 6 (ni st)), (q 5, ia Z 6 (ni rg)), (u 5, ia Z 8 (ni (va_up Fb g (rch g (A (28 + s1)) f1 f2))))]) dX8_mostLeft_33 9 rfl (by omega) (by decide) (ni_up _ _ _) rfl rfl ?_
        obtain ⟨C, e_C⟩ : ∃ z : Nat → Nat, z = va_up Fb g (rch g (A (28 + s1)) f1 f2) := ⟨_, rfl⟩
        refine j_eqw (ws' := [xO h u ab be (Rf 0) (Rf 1) (Rf 2), (u 0, .inr (4, [.ref (s 0), .ref (s 1), .ref (s 3), .ref (s 5), .ref (s 7)])), cO (s 0) q (A 21) (A 5) (A 6) (A 7) (A 8) (A 0), (q 0, ia Z 12 (ni K)), (q 1, ia Z 12 (ni P)), (q 2, ia Z 6 (ni kd)), (q 3, ia Z 6 (ni am)), (q 4, ia Z 6 (ni st)), (q 5, ia Z 6 (ni rg)), (u 5, ia Z 8 (ni C))]) (by subst e_C; rfl) ?_
        have hC : ∀ j, j < g + 1 → C j = (fun p => rch p (A (28 + s1)) f1 f2) j := fun j hj => by rw [e_C]; simp only [va_up]; by_cases hjg : j = g <;> simp only [hjg, if_true, if_false]; exact hF j (by omega)
        have hlk : likeN C ft g g = likeN (fun p => rch p (A (28 + s1)) f1 f2) ft g g := likeN_ext (hC g (by omega)) g (fun b hb _ => hC b (by omega))
        have hll := likeN_le C ft g g
        have hdv := Nat.div_le_self ft (2 ^ g)
        refine j_iload_n hJ (q := 35) dX8_mostLeft_34 rfl 3 rfl rfl ?_
        refine j_iload hJ (q := 37) dX8_mostLeft_35 7 rfl rfl ?_
        refine j_ishr hJ (q := 38) dX8_mostLeft_37 rfl (nI_shr (by omega) (by omega)) ?_
        refine j_iconst hJ (q := 39) dX8_mostLeft_38 rfl ki_1 ?_
        refine j_iand hJ (q := 40) dX8_mostLeft_39 rfl (nI_and1 (by omega)) ?_
        refine j_iconst hJ (q := 41) dX8_mostLeft_40 rfl ki_1 ?_
        refine jn_icmp_ne hJ (q := 44) (tgt := 60) dX8_mostLeft_41 (by decide) rfl (by omega) (by omega) (fun c2 => ?_) (fun c2 => ?_)
        · skip
          refine j_iinc hJ (q := 63) (lvs' := [(7, .int (nI (g + 1))), (0, .ref h), (1, .int (nI 2)), (2, .int (nI s1)), (3, .int (nI ft)), (4, .int (nI f1)), (5, .int (nI f2)), (6, .int (nI mo))]) dX8_mostLeft_60 7 rfl (by rw [show Int32.ofInt 1 = nI 1 from by decide +kernel]; exact nI_add _ _) (by decide) rfl rfl ?_
          refine j_goto hJ (q := 6) dX8_mostLeft_63 (by decide) ?_
          refine j_locals hJ [1, 2, 3, 4, 5, 6, 7, 0] rfl ?_
          exact ih_6 C mo (g + 1) (by omega) (by omega) hC (by first | assumption | (split <;> omega)) (by simp only [mxN]; rw [if_neg (show ¬ ft / 2 ^ g % 2 = 1 by assumption), ← hmo])
        · skip
          refine j_iload hJ (q := 46) dX8_mostLeft_44 6 rfl rfl ?_
          refine j_iconst hJ (q := 47) dX8_mostLeft_46 rfl ki_1 ?_
          refine j_aload_n hJ (q := 48) dX8_mostLeft_47 rfl 0 rfl rfl ?_
          refine j_iload_n hJ (q := 49) dX8_mostLeft_48 rfl 3 rfl rfl ?_
          refine j_iload hJ (q := 51) dX8_mostLeft_49 7 rfl rfl ?_
          refine j_vR hJ (q := 54) (rest := [.int (nI 1), .int (nI mo)]) (As := [.int (nI ft), .int (nI g)]) jl_X8_318 (c_X8_alikeBefore Z h u ab be Rf C ft g (by omega) (by omega) (fun j hj => by rw [hC j (by omega)]; exact Nat.lt_of_le_of_lt (rch_le hk5.2.2.1 (by omega)) (by decide : 60 < 100000))) 0 rfl rfl dX8_mostLeft_51 rfl (by decide) (Nat.le_of_ble_eq_true rfl) [0, 9] rfl rfl (fun rv hp => ?_)
          obtain rfl := hp
          show J 54 [(0, .ref h), (1, .int (nI 2)), (2, .int (nI s1)), (3, .int (nI ft)), (4, .int (nI f1)), (5, .int (nI f2)), (6, .int (nI mo)), (7, .int (nI g))] [.int (nI (likeN C ft g g)), .int (nI 1), .int (nI mo)] [xO h u ab be (Rf 0) (Rf 1) (Rf 2), (u 0, .inr (4, [.ref (s 0), .ref (s 1), .ref (s 3), .ref (s 5), .ref (s 7)])), cO (s 0) q (A 21) (A 5) (A 6) (A 7) (A 8) (A 0), (q 0, ia Z 12 (ni K)), (q 1, ia Z 12 (ni P)), (q 2, ia Z 6 (ni kd)), (q 3, ia Z 6 (ni am)), (q 4, ia Z 6 (ni st)), (q 5, ia Z 6 (ni rg)), (u 5, ia Z 8 (ni C))] 0 0
          refine j_iadd hJ (q := 55) dX8_mostLeft_54 rfl (nI_add _ _) ?_
          refine j_max hJ (q := 58) (x := mo) (y := (1 + (likeN C ft g g))) tm_643 dX8_mostLeft_55 (by omega) (by omega) (by decide) (Nat.le_of_ble_eq_true rfl) (Nat.le_of_ble_eq_true rfl) (Nat.le_of_ble_eq_true rfl) rfl ?_
          refine j_istore hJ (q := 60) (lvs' := [(6, .int (nI (if mo < (1 + (likeN C ft g g)) then 1 + (likeN C ft g g) else mo))), (0, .ref h), (1, .int (nI 2)), (2, .int (nI s1)), (3, .int (nI ft)), (4, .int (nI f1)), (5, .int (nI f2)), (7, .int (nI g))]) dX8_mostLeft_58 (by decide) rfl rfl ?_
          refine j_iinc hJ (q := 63) (lvs' := [(7, .int (nI (g + 1))), (6, .int (nI (if mo < (1 + (likeN C ft g g)) then 1 + (likeN C ft g g) else mo))), (0, .ref h), (1, .int (nI 2)), (2, .int (nI s1)), (3, .int (nI ft)), (4, .int (nI f1)), (5, .int (nI f2))]) dX8_mostLeft_60 7 rfl (by rw [show Int32.ofInt 1 = nI 1 from by decide +kernel]; exact nI_add _ _) (by decide) rfl rfl ?_
          refine j_goto hJ (q := 6) dX8_mostLeft_63 (by decide) ?_
          refine j_locals hJ [2, 3, 4, 5, 6, 7, 1, 0] rfl ?_
          exact ih_6 C (if mo < (1 + (likeN C ft g g)) then 1 + (likeN C ft g g) else mo) (g + 1) (by omega) (by omega) hC (by first | assumption | (split <;> omega)) (by simp only [mxN]; rw [if_pos (show ft / 2 ^ g % 2 = 1 by assumption), ← hmo, ← hlk])
  refine j_locals hJ [2, 3, 4, 5, 6, 7, 1, 0] rfl ?_
  exact L_6 ((6 - 0) + 1) Fo 0 0 (Nat.lt_succ_self _) (by omega) (fun j hj => absurd hj (Nat.not_lt_zero _)) (by omega) rfl

set_option maxHeartbeats 4000000 in
set_option maxRecDepth 100000 in
theorem c_X8_bestLook2 (Z : jZ) (h : Nat) (u : Nat → Nat) (ab : Int) (be : Int) (Rf : Nat → Nat) (s : Nat → Nat) (q : Nat → Nat) (A : Nat → Nat) (K : Nat → Nat) (P : Nat → Nat) (kd : Nat → Nat) (am : Nat → Nat) (st : Nat → Nat) (rg : Nat → Nat) (Ro : Nat → Nat) (Sn : Nat → Nat) (Nt : Nat → Nat) (Mk : Nat → Nat) (Fo : Nat → Nat) (s1 : Nat) (hg : wg A) (hA : rA A K P kd am st rg Ro Sn Nt Mk) (h1 : s1 < A 0) : CT Z yX8_bestLook cX8_bestLook 11 ((some FieldType.int)) 5 0 0 [.ref h, .int (nI 2), .int (nI s1)] [xO h u ab be (Rf 0) (Rf 1) (Rf 2), (u 0, .inr (4, [.ref (s 0), .ref (s 1), .ref (s 3), .ref (s 5), .ref (s 7)])), cO (s 0) q (A 21) (A 5) (A 6) (A 7) (A 8) (A 0), (q 0, ia Z 12 (ni K)), (q 1, ia Z 12 (ni P)), (q 2, ia Z 6 (ni kd)), (q 3, ia Z 6 (ni am)), (q 4, ia Z 6 (ni st)), (q 5, ia Z 6 (ni rg)), (s 1, .inr (1, [.int (nI (A 4)), .ref (s 2)])), (s 2, ia Z 128 (ni Ro)), (s 3, .inr (3, [.int (nI (A 1)), .int (nI 4), .int (nI 5), .ref (s 4)])), (s 4, ia Z 30 (ni Sn)), (s 5, .inr (3, [.int (nI (A 2)), .int (nI 5), .int (nI 6), .ref (s 6)])), (s 6, ia Z 30 (ni Nt)), (s 7, .inr (3, [.int (nI (A 3)), .int (nI 5), .int (nI 6), .ref (s 8)])), (s 8, ia Z 30 (ni Mk)), (u 5, ia Z 8 (ni Fo))] (fun rr ww => ∃ Fx : Nat → Nat, rr = some (.int (zI (mnz (fAsk A s1 (kds A s1 108 (A 3) false)) 10 11 (kds A s1 108 (A 3) false)))) ∧ ww = [xO h u ab be (Rf 0) (Rf 1) (Rf 2), (u 0, .inr (4, [.ref (s 0), .ref (s 1), .ref (s 3), .ref (s 5), .ref (s 7)])), cO (s 0) q (A 21) (A 5) (A 6) (A 7) (A 8) (A 0), (q 0, ia Z 12 (ni K)), (q 1, ia Z 12 (ni P)), (q 2, ia Z 6 (ni kd)), (q 3, ia Z 6 (ni am)), (q 4, ia Z 6 (ni st)), (q 5, ia Z 6 (ni rg)), (s 1, .inr (1, [.int (nI (A 4)), .ref (s 2)])), (s 2, ia Z 128 (ni Ro)), (s 3, .inr (3, [.int (nI (A 1)), .int (nI 4), .int (nI 5), .ref (s 4)])), (s 4, ia Z 30 (ni Sn)), (s 5, .inr (3, [.int (nI (A 2)), .int (nI 5), .int (nI 6), .ref (s 6)])), (s 6, ia Z 30 (ni Nt)), (s 7, .inr (3, [.int (nI (A 3)), .int (nI 5), .int (nI 6), .ref (s 8)])), (s 8, ia Z 30 (ni Mk)), (u 5, ia Z 8 (ni Fx))]) := by
  refine CT.of RX8 false rfl (fun h => by cases h) (by decide +kernel) (Nat.le_of_ble_eq_true rfl) ?_
  intro J hJ hE
  show J 0 [(0, .ref h), (1, .int (nI 2)), (2, .int (nI s1))] [] [xO h u ab be (Rf 0) (Rf 1) (Rf 2), (u 0, .inr (4, [.ref (s 0), .ref (s 1), .ref (s 3), .ref (s 5), .ref (s 7)])), cO (s 0) q (A 21) (A 5) (A 6) (A 7) (A 8) (A 0), (q 0, ia Z 12 (ni K)), (q 1, ia Z 12 (ni P)), (q 2, ia Z 6 (ni kd)), (q 3, ia Z 6 (ni am)), (q 4, ia Z 6 (ni st)), (q 5, ia Z 6 (ni rg)), (s 1, .inr (1, [.int (nI (A 4)), .ref (s 2)])), (s 2, ia Z 128 (ni Ro)), (s 3, .inr (3, [.int (nI (A 1)), .int (nI 4), .int (nI 5), .ref (s 4)])), (s 4, ia Z 30 (ni Sn)), (s 5, .inr (3, [.int (nI (A 2)), .int (nI 5), .int (nI 6), .ref (s 6)])), (s 6, ia Z 30 (ni Nt)), (s 7, .inr (3, [.int (nI (A 3)), .int (nI 5), .int (nI 6), .ref (s 8)])), (s 8, ia Z 30 (ni Mk)), (u 5, ia Z 8 (ni Fo))] 0 0
  obtain ⟨hw, ⟨g1, g2, g3, g4, g8⟩, hrs, hrn, hrm, hpst⟩ := id hg
  obtain ⟨⟨w1, w2, w3, w4, w5, w6⟩, hb, wr, wh, wd⟩ := id hw
  obtain ⟨hR, hX⟩ := id hA
  obtain ⟨hP, hSn, hNt, hMk⟩ := id hX
  refine j_aload_n hJ (q := 1) dX8_bestLook_0 rfl 0 rfl rfl ?_
  refine j_iload_n hJ (q := 2) dX8_bestLook_1 rfl 1 rfl rfl ?_
  refine j_iload_n hJ (q := 3) dX8_bestLook_2 rfl 2 rfl rfl ?_
  refine j_vR hJ (q := 6) (rest := []) (As := [.int (nI 2), .int (nI s1)]) jl_X8_211 (c_X8_thoseThatFit2 Z h u ab be Rf s q A K P kd am st rg Ro Sn Nt Mk s1 hg hA (by omega)) 0 rfl rfl dX8_bestLook_3 rfl (by decide) (Nat.le_of_ble_eq_true rfl) [0, 1, 2, 3, 4, 5, 6, 7, 8, 9, 10, 11, 12, 13, 14, 15, 16] rfl rfl (fun rv hp => ?_)
  obtain rfl := hp
  show J 6 [(0, .ref h), (1, .int (nI 2)), (2, .int (nI s1))] [.int (nI (kds A s1 108 (A 3) false))] [xO h u ab be (Rf 0) (Rf 1) (Rf 2), (u 0, .inr (4, [.ref (s 0), .ref (s 1), .ref (s 3), .ref (s 5), .ref (s 7)])), cO (s 0) q (A 21) (A 5) (A 6) (A 7) (A 8) (A 0), (q 0, ia Z 12 (ni K)), (q 1, ia Z 12 (ni P)), (q 2, ia Z 6 (ni kd)), (q 3, ia Z 6 (ni am)), (q 4, ia Z 6 (ni st)), (q 5, ia Z 6 (ni rg)), (s 1, .inr (1, [.int (nI (A 4)), .ref (s 2)])), (s 2, ia Z 128 (ni Ro)), (s 3, .inr (3, [.int (nI (A 1)), .int (nI 4), .int (nI 5), .ref (s 4)])), (s 4, ia Z 30 (ni Sn)), (s 5, .inr (3, [.int (nI (A 2)), .int (nI 5), .int (nI 6), .ref (s 6)])), (s 6, ia Z 30 (ni Nt)), (s 7, .inr (3, [.int (nI (A 3)), .int (nI 5), .int (nI 6), .ref (s 8)])), (s 8, ia Z 30 (ni Mk)), (u 5, ia Z 8 (ni Fo))] 0 0
  obtain ⟨ft, e_ft⟩ : ∃ k, k = kds A s1 108 (A 3) false := ⟨_, rfl⟩
  refine j_top (congrArg nI e_ft.symm) ?_
  have hft : ft < 64 := by rw [e_ft]; exact kds_lt _ _ _ _ _
  refine j_istore_n hJ (q := 7) (lvs' := [(3, .int (nI ft)), (0, .ref h), (1, .int (nI 2)), (2, .int (nI s1))]) dX8_bestLook_6 rfl (by decide) rfl rfl ?_
  refine j_iload_n hJ (q := 8) dX8_bestLook_7 rfl 0 rfl rfl ?_
  refine jn_if_ne hJ (q := 11) (tgt := 13) dX8_bestLook_8 (by decide) rfl (by omega) (fun c1 => ?_) (fun c1 => ?_)
  · skip
    refine j_iload_n hJ (q := 14) dX8_bestLook_13 rfl 2 rfl rfl ?_
    refine j_iconst hJ (q := 15) dX8_bestLook_14 rfl ki_2 ?_
    refine jn_icmp_ne hJ (q := 18) (tgt := 23) dX8_bestLook_15 (by decide) rfl (by omega) (by omega) (fun c2 => ?_) (fun c2 => ?_)
    · skip
      exfalso; omega
    · skip
      refine j_bipush hJ (q := 20) dX8_bestLook_18 rfl kb_10 ?_
      refine j_goto hJ (q := 25) dX8_bestLook_20 (by decide) ?_
      refine j_istore hJ (q := 27) (lvs' := [(4, .int (nI 10)), (3, .int (nI ft)), (0, .ref h), (1, .int (nI 2)), (2, .int (nI s1))]) dX8_bestLook_25 (by decide) rfl rfl ?_
      refine j_iload_n hJ (q := 28) dX8_bestLook_27 rfl 3 rfl rfl ?_
      refine j_iconst hJ (q := 29) dX8_bestLook_28 rfl ki_2 ?_
      refine jn_icmp_ne hJ (q := 32) (tgt := 37) dX8_bestLook_29 (by decide) rfl (by omega) (by omega) (fun c3 => ?_) (fun c3 => ?_)
      · skip
        exfalso; omega
      · skip
        refine j_bipush hJ (q := 34) dX8_bestLook_32 rfl kb_9 ?_
        refine j_goto hJ (q := 38) dX8_bestLook_34 (by decide) ?_
        refine j_istore hJ (q := 40) (lvs' := [(5, .int (nI 9)), (4, .int (nI 10)), (3, .int (nI ft)), (0, .ref h), (1, .int (nI 2)), (2, .int (nI s1))]) dX8_bestLook_38 (by decide) rfl rfl ?_
        refine j_bipush hJ (q := 42) dX8_bestLook_40 rfl kb_9 ?_
        refine j_istore hJ (q := 44) (lvs' := [(6, .int (nI 9)), (5, .int (nI 9)), (4, .int (nI 10)), (3, .int (nI ft)), (0, .ref h), (1, .int (nI 2)), (2, .int (nI s1))]) dX8_bestLook_42 (by decide) rfl rfl ?_
        refine j_iconst hJ (q := 45) dX8_bestLook_44 rfl ki_m1 ?_
        refine j_istore hJ (q := 47) (lvs' := [(7, .int (zI (-1))), (6, .int (nI 9)), (5, .int (nI 9)), (4, .int (nI 10)), (3, .int (nI ft)), (0, .ref h), (1, .int (nI 2)), (2, .int (nI s1))]) dX8_bestLook_45 (by decide) rfl rfl ?_
        refine j_iconst hJ (q := 48) dX8_bestLook_47 rfl ki_0 ?_
        refine j_istore hJ (q := 50) (lvs' := [(8, .int (nI 0)), (7, .int (zI (-1))), (6, .int (nI 9)), (5, .int (nI 9)), (4, .int (nI 10)), (3, .int (nI ft)), (0, .ref h), (1, .int (nI 2)), (2, .int (nI s1))]) dX8_bestLook_48 (by decide) rfl rfl ?_
        have L_50 : ∀ (fu_50 : Nat) (Fb : Nat → Nat) (fw : Nat) (bs : Int) (t : Nat), 11 - t < fu_50 → (t ≤ 11) → (fw ≤ 9) → ((bs, fw) = cm9 (mnI (fAsk A s1 ft) 10 t)) → J 50 [(0, .ref h), (1, .int (nI 2)), (2, .int (nI s1)), (3, .int (nI ft)), (4, .int (nI 10)), (5, .int (nI 9)), (6, .int (nI fw)), (7, .int (zI bs)), (8, .int (nI t))] [] [xO h u ab be (Rf 0) (Rf 1) (Rf 2), (u 0, .inr (4, [.ref (s 0), .ref (s 1), .ref (s 3), .ref (s 5), .ref (s 7)])), cO (s 0) q (A 21) (A 5) (A 6) (A 7) (A 8) (A 0), (q 0, ia Z 12 (ni K)), (q 1, ia Z 12 (ni P)), (q 2, ia Z 6 (ni kd)), (q 3, ia Z 6 (ni am)), (q 4, ia Z 6 (ni st)), (q 5, ia Z 6 (ni rg)), (s 1, .inr (1, [.int (nI (A 4)), .ref (s 2)])), (s 2, ia Z 128 (ni Ro)), (s 3, .inr (3, [.int (nI (A 1)), .int (nI 4), .int (nI 5), .ref (s 4)])), (s 4, ia Z 30 (ni Sn)), (s 5, .inr (3, [.int (nI (A 2)), .int (nI 5), .int (nI 6), .ref (s 6)])), (s 6, ia Z 30 (ni Nt)), (s 7, .inr (3, [.int (nI (A 3)), .int (nI 5), .int (nI 6), .ref (s 8)])), (s 8, ia Z 30 (ni Mk)), (u 5, ia Z 8 (ni Fb))] 0 0 := by
          intro fu_50
          induction fu_50 with
          | zero => intro Fb fw bs t hm; exact absurd hm (Nat.not_lt_zero _)
          | succ fu_50 ih_50 =>
            intro Fb fw bs t hm_50 ht hfw hbf
            refine j_iload hJ (q := 52) dX8_bestLook_50 8 rfl rfl ?_
            refine j_iload hJ (q := 54) dX8_bestLook_52 4 rfl rfl ?_
            refine jn_icmp_gt hJ (q := 57) (tgt := 113) dX8_bestLook_54 (by decide) rfl (by omega) (by omega) (fun c4 => ?_) (fun c4 => ?_)
            · skip
              refine j_iload hJ (q := 115) dX8_bestLook_113 7 rfl rfl ?_
              have hbz : bs = (mnI (fAsk A s1 ft) 10 t).1 := congrArg Prod.fst hbf
              exact hE.1 _ _ _ _ _ _ _ rfl rfl dX8_bestLook_115 (Nat.le_refl _) (Nat.le_refl _) (⟨Fb, congrArg (fun z => some (Value.int (zI z))) (by rw [← e_ft]; unfold mnz; rw [if_neg (by omega), hbz, show t = 11 by omega]), rfl⟩)
            · skip
              refine j_iconst hJ (q := 58) dX8_bestLook_57 rfl ki_0 ?_
              refine j_istore hJ (q := 60) (lvs' := [(9, .int (nI 0)), (0, .ref h), (1, .int (nI 2)), (2, .int (nI s1)), (3, .int (nI ft)), (4, .int (nI 10)), (5, .int (nI 9)), (6, .int (nI fw)), (7, .int (zI bs)), (8, .int (nI t))]) dX8_bestLook_58 (by decide) rfl rfl ?_
              have L_60 : ∀ (fu_60 : Nat) (Fb : Nat → Nat) (fw : Nat) (bs : Int) (v : Nat), 10 - v < fu_60 → (v ≤ 10) → (fw ≤ 9) → ((bs, fw) = cm9 (mnJ (fAsk A s1 ft t) t v (mnI (fAsk A s1 ft) 10 t))) → J 60 [(0, .ref h), (1, .int (nI 2)), (2, .int (nI s1)), (3, .int (nI ft)), (4, .int (nI 10)), (5, .int (nI 9)), (6, .int (nI fw)), (7, .int (zI bs)), (8, .int (nI t)), (9, .int (nI v))] [] [xO h u ab be (Rf 0) (Rf 1) (Rf 2), (u 0, .inr (4, [.ref (s 0), .ref (s 1), .ref (s 3), .ref (s 5), .ref (s 7)])), cO (s 0) q (A 21) (A 5) (A 6) (A 7) (A 8) (A 0), (q 0, ia Z 12 (ni K)), (q 1, ia Z 12 (ni P)), (q 2, ia Z 6 (ni kd)), (q 3, ia Z 6 (ni am)), (q 4, ia Z 6 (ni st)), (q 5, ia Z 6 (ni rg)), (s 1, .inr (1, [.int (nI (A 4)), .ref (s 2)])), (s 2, ia Z 128 (ni Ro)), (s 3, .inr (3, [.int (nI (A 1)), .int (nI 4), .int (nI 5), .ref (s 4)])), (s 4, ia Z 30 (ni Sn)), (s 5, .inr (3, [.int (nI (A 2)), .int (nI 5), .int (nI 6), .ref (s 6)])), (s 6, ia Z 30 (ni Nt)), (s 7, .inr (3, [.int (nI (A 3)), .int (nI 5), .int (nI 6), .ref (s 8)])), (s 8, ia Z 30 (ni Mk)), (u 5, ia Z 8 (ni Fb))] 0 0 := by
                intro fu_60
                induction fu_60 with
                | zero => intro Fb fw bs v hm; exact absurd hm (Nat.not_lt_zero _)
                | succ fu_60 ih_60 =>
                  intro Fb fw bs v hm_60 hv hfw hbf
                  refine j_iload hJ (q := 62) dX8_bestLook_60 9 rfl rfl ?_
                  refine j_iload hJ (q := 64) dX8_bestLook_62 5 rfl rfl ?_
                  refine jn_icmp_gt hJ (q := 67) (tgt := 107) dX8_bestLook_64 (by decide) rfl (by omega) (by omega) (fun c5 => ?_) (fun c5 => ?_)
                  · skip
                    refine j_iinc hJ (q := 110) (lvs' := [(8, .int (nI (t + 1))), (0, .ref h), (1, .int (nI 2)), (2, .int (nI s1)), (3, .int (nI ft)), (4, .int (nI 10)), (5, .int (nI 9)), (6, .int (nI fw)), (7, .int (zI bs)), (9, .int (nI v))]) dX8_bestLook_107 8 rfl (by rw [show Int32.ofInt 1 = nI 1 from by decide +kernel]; exact nI_add _ _) (by decide) rfl rfl ?_
                    refine j_goto hJ (q := 50) dX8_bestLook_110 (by decide) ?_
                    refine j_locals hJ [1, 2, 3, 4, 5, 6, 7, 8, 0] rfl ?_
                    exact ih_50 Fb fw bs (t + 1) (by omega) (by omega) (by omega) (by rw [hbf, show v = 10 by omega]; rfl)
                  · skip
                    refine j_aload_n hJ (q := 68) dX8_bestLook_67 rfl 0 rfl rfl ?_
                    refine j_iload_n hJ (q := 69) dX8_bestLook_68 rfl 1 rfl rfl ?_
                    refine j_iload_n hJ (q := 70) dX8_bestLook_69 rfl 2 rfl rfl ?_
                    refine j_iload_n hJ (q := 71) dX8_bestLook_70 rfl 3 rfl rfl ?_
                    refine j_iload hJ (q := 73) dX8_bestLook_71 8 rfl rfl ?_
                    refine j_iload hJ (q := 75) dX8_bestLook_73 9 rfl rfl ?_
                    refine j_vW hJ (q := 78) (rest := []) (As := [.int (nI 2), .int (nI s1), .int (nI ft), .int (nI t), .int (nI v)]) (wr := [(s 1, .inr (1, [.int (nI (A 4)), .ref (s 2)])), (s 2, ia Z 128 (ni Ro)), (s 3, .inr (3, [.int (nI (A 1)), .int (nI 4), .int (nI 5), .ref (s 4)])), (s 4, ia Z 30 (ni Sn)), (s 5, .inr (3, [.int (nI (A 2)), .int (nI 5), .int (nI 6), .ref (s 6)])), (s 6, ia Z 30 (ni Nt)), (s 7, .inr (3, [.int (nI (A 3)), .int (nI 5), .int (nI 6), .ref (s 8)])), (s 8, ia Z 30 (ni Mk))]) jl_X8_311 (c_X8_mostLeft2 Z h u ab be Rf s q A K P kd am st rg Fb s1 ft t v hg hR h1 (by omega) (by omega) (by omega)) 0 rfl rfl dX8_bestLook_75 rfl (by decide) (Nat.le_of_ble_eq_true rfl) [0, 1, 2, 3, 4, 5, 6, 7, 8, 17] [9, 10, 11, 12, 13, 14, 15, 16] rfl rfl rfl rfl (by decide) rfl (fun rv wv hp => ?_)
                    obtain ⟨Fx6, rfl, rfl⟩ := hp
                    refine j_world hJ (ws' := [xO h u ab be (Rf 0) (Rf 1) (Rf 2), (u 0, .inr (4, [.ref (s 0), .ref (s 1), .ref (s 3), .ref (s 5), .ref (s 7)])), cO (s 0) q (A 21) (A 5) (A 6) (A 7) (A 8) (A 0), (q 0, ia Z 12 (ni K)), (q 1, ia Z 12 (ni P)), (q 2, ia Z 6 (ni kd)), (q 3, ia Z 6 (ni am)), (q 4, ia Z 6 (ni st)), (q 5, ia Z 6 (ni rg)), (s 1, .inr (1, [.int (nI (A 4)), .ref (s 2)])), (s 2, ia Z 128 (ni Ro)), (s 3, .inr (3, [.int (nI (A 1)), .int (nI 4), .int (nI 5), .ref (s 4)])), (s 4, ia Z 30 (ni Sn)), (s 5, .inr (3, [.int (nI (A 2)), .int (nI 5), .int (nI 6), .ref (s 6)])), (s 6, ia Z 30 (ni Nt)), (s 7, .inr (3, [.int (nI (A 3)), .int (nI 5), .int (nI 6), .ref (s 8)])), (s 8, ia Z 30 (ni Mk)), (u 5, ia Z 8 (ni Fx6))]) [8, 9, 10, 11, 12, 13, 14, 15, 16, 0, 1, 2, 3, 4, 5, 6, 7, 17] rfl rfl ?_
                    show J 78 [(0, .ref h), (1, .int (nI 2)), (2, .int (nI s1)), (3, .int (nI ft)), (4, .int (nI 10)), (5, .int (nI 9)), (6, .int (nI fw)), (7, .int (zI bs)), (8, .int (nI t)), (9, .int (nI v))] [.int (nI (fAsk A s1 ft t v))] [xO h u ab be (Rf 0) (Rf 1) (Rf 2), (u 0, .inr (4, [.ref (s 0), .ref (s 1), .ref (s 3), .ref (s 5), .ref (s 7)])), cO (s 0) q (A 21) (A 5) (A 6) (A 7) (A 8) (A 0), (q 0, ia Z 12 (ni K)), (q 1, ia Z 12 (ni P)), (q 2, ia Z 6 (ni kd)), (q 3, ia Z 6 (ni am)), (q 4, ia Z 6 (ni st)), (q 5, ia Z 6 (ni rg)), (s 1, .inr (1, [.int (nI (A 4)), .ref (s 2)])), (s 2, ia Z 128 (ni Ro)), (s 3, .inr (3, [.int (nI (A 1)), .int (nI 4), .int (nI 5), .ref (s 4)])), (s 4, ia Z 30 (ni Sn)), (s 5, .inr (3, [.int (nI (A 2)), .int (nI 5), .int (nI 6), .ref (s 6)])), (s 6, ia Z 30 (ni Nt)), (s 7, .inr (3, [.int (nI (A 3)), .int (nI 5), .int (nI 6), .ref (s 8)])), (s 8, ia Z 30 (ni Mk)), (u 5, ia Z 8 (ni Fx6))] 0 0
                    have h8 : fAsk A s1 ft t v ≤ 8 := topN_le _ _ 8
                    refine j_istore hJ (q := 80) (lvs' := [(10, .int (nI (fAsk A s1 ft t v))), (0, .ref h), (1, .int (nI 2)), (2, .int (nI s1)), (3, .int (nI ft)), (4, .int (nI 10)), (5, .int (nI 9)), (6, .int (nI fw)), (7, .int (zI bs)), (8, .int (nI t)), (9, .int (nI v))]) dX8_bestLook_78 (by decide) rfl rfl ?_
                    refine j_iload hJ (q := 82) dX8_bestLook_80 0 rfl rfl ?_
                    refine j_iload hJ (q := 84) dX8_bestLook_82 7 rfl rfl ?_
                    refine jn_icmp_ge hJ (q := 87) (tgt := 101) dX8_bestLook_84 (by decide) rfl (by omega) (by omega) (fun c7 => ?_) (fun c7 => ?_)
                    · skip
                      refine j_iinc hJ (q := 104) (lvs' := [(9, .int (nI (v + 1))), (10, .int (nI (fAsk A s1 ft t v))), (0, .ref h), (1, .int (nI 2)), (2, .int (nI s1)), (3, .int (nI ft)), (4, .int (nI 10)), (5, .int (nI 9)), (6, .int (nI fw)), (7, .int (zI bs)), (8, .int (nI t))]) dX8_bestLook_101 10 rfl (by rw [show Int32.ofInt 1 = nI 1 from by decide +kernel]; exact nI_add _ _) (by decide) rfl rfl ?_
                      refine j_goto hJ (q := 60) dX8_bestLook_104 (by decide) ?_
                      refine j_locals hJ [2, 3, 4, 5, 6, 7, 8, 9, 10, 0] rfl ?_
                      exact ih_60 Fx6 fw bs (v + 1) (by omega) (by omega) (by omega) (cm_no hbf h8 (by omega))
                    · skip
                      refine j_iload hJ (q := 89) dX8_bestLook_87 0 rfl rfl ?_
                      refine j_istore hJ (q := 91) (lvs' := [(6, .int (nI (fAsk A s1 ft t v))), (10, .int (nI (fAsk A s1 ft t v))), (0, .ref h), (1, .int (nI 2)), (2, .int (nI s1)), (3, .int (nI ft)), (4, .int (nI 10)), (5, .int (nI 9)), (7, .int (zI bs)), (8, .int (nI t)), (9, .int (nI v))]) dX8_bestLook_89 (by decide) rfl rfl ?_
                      refine j_bipush hJ (q := 93) dX8_bestLook_91 rfl kb_10 ?_
                      refine j_iload hJ (q := 95) dX8_bestLook_93 9 rfl rfl ?_
                      refine j_imul hJ (q := 96) dX8_bestLook_95 rfl (pk_mul _ _) ?_
                      refine j_iload hJ (q := 98) dX8_bestLook_96 10 rfl rfl ?_
                      refine j_iadd hJ (q := 99) dX8_bestLook_98 rfl (nI_add _ _) ?_
                      refine j_istore hJ (q := 101) (lvs' := [(7, .int (nI (10 * t + v))), (6, .int (nI (fAsk A s1 ft t v))), (10, .int (nI (fAsk A s1 ft t v))), (0, .ref h), (1, .int (nI 2)), (2, .int (nI s1)), (3, .int (nI ft)), (4, .int (nI 10)), (5, .int (nI 9)), (8, .int (nI t)), (9, .int (nI v))]) dX8_bestLook_99 (by decide) rfl rfl ?_
                      refine j_iinc hJ (q := 104) (lvs' := [(9, .int (nI (v + 1))), (7, .int (nI (10 * t + v))), (6, .int (nI (fAsk A s1 ft t v))), (10, .int (nI (fAsk A s1 ft t v))), (0, .ref h), (1, .int (nI 2)), (2, .int (nI s1)), (3, .int (nI ft)), (4, .int (nI 10)), (5, .int (nI 9)), (8, .int (nI t))]) dX8_bestLook_101 10 rfl (by rw [show Int32.ofInt 1 = nI 1 from by decide +kernel]; exact nI_add _ _) (by decide) rfl rfl ?_
                      refine j_goto hJ (q := 60) dX8_bestLook_104 (by decide) ?_
                      refine j_locals hJ [4, 5, 6, 7, 8, 9, 2, 1, 10, 0] rfl ?_
                      refine j_eql (lvs' := [(0, .ref h), (1, .int (nI 2)), (2, .int (nI s1)), (3, .int (nI ft)), (4, .int (nI 10)), (5, .int (nI 9)), (6, .int (nI (fAsk A s1 ft t v))), (7, .int (zI ((10 * t + v : Nat) : Int))), (8, .int (nI t)), (9, .int (nI (v + 1)))]) (by simp only [zI_nat] <;> rfl) ?_
                      exact ih_60 Fx6 (fAsk A s1 ft t v) ((10 * t + v : Nat) : Int) (v + 1) (by omega) (by omega) (by omega) (cm_go hbf h8 (by omega))
              refine j_locals hJ [1, 2, 3, 4, 5, 6, 7, 8, 9, 0] rfl ?_
              exact L_60 ((10 - 0) + 1) Fb fw bs 0 (Nat.lt_succ_self _) (by omega) (by omega) (by rw [hbf]; rfl)
        refine j_locals hJ [6, 7, 8, 5, 4, 3, 2, 1, 0] rfl ?_
        exact L_50 ((11 - 0) + 1) Fo 9 (-1) 0 (Nat.lt_succ_self _) (by omega) (by omega) rfl
  · skip
    refine j_iconst hJ (q := 12) dX8_bestLook_11 rfl ki_m1 ?_
    exact hE.1 _ _ _ _ _ _ _ rfl rfl dX8_bestLook_12 (Nat.le_refl _) (Nat.le_refl _) (⟨Fo, congrArg (fun z => some (Value.int (zI z))) (by rw [← e_ft]; unfold mnz; rw [if_pos (by omega)]), rfl⟩)

set_option maxHeartbeats 4000000 in
set_option maxRecDepth 100000 in
theorem c_X8_tell (Z : jZ) (h : Nat) (u : Nat → Nat) (ab : Int) (be : Int) (Rf : Nat → Nat) (s : Nat → Nat) (q : Nat → Nat) (A : Nat → Nat) (K : Nat → Nat) (P : Nat → Nat) (kd : Nat → Nat) (am : Nat → Nat) (st : Nat → Nat) (rg : Nat → Nat) (Ro : Nat → Nat) (Sn : Nat → Nat) (Nt : Nat → Nat) (Mk : Nat → Nat) (Fo : Nat → Nat) (a : Int32) (hg : wg A) (hA : rA A K P kd am st rg Ro Sn Nt Mk) : CT Z yX8_tell cX8_tell 2 ((some FieldType.int)) 6 0 0 [.ref h, .int a] [xO h u ab be (Rf 0) (Rf 1) (Rf 2), (u 0, .inr (4, [.ref (s 0), .ref (s 1), .ref (s 3), .ref (s 5), .ref (s 7)])), cO (s 0) q (A 21) (A 5) (A 6) (A 7) (A 8) (A 0), (q 0, ia Z 12 (ni K)), (q 1, ia Z 12 (ni P)), (q 2, ia Z 6 (ni kd)), (q 3, ia Z 6 (ni am)), (q 4, ia Z 6 (ni st)), (q 5, ia Z 6 (ni rg)), (s 1, .inr (1, [.int (nI (A 4)), .ref (s 2)])), (s 2, ia Z 128 (ni Ro)), (s 3, .inr (3, [.int (nI (A 1)), .int (nI 4), .int (nI 5), .ref (s 4)])), (s 4, ia Z 30 (ni Sn)), (s 5, .inr (3, [.int (nI (A 2)), .int (nI 5), .int (nI 6), .ref (s 6)])), (s 6, ia Z 30 (ni Nt)), (s 7, .inr (3, [.int (nI (A 3)), .int (nI 5), .int (nI 6), .ref (s 8)])), (s 8, ia Z 30 (ni Mk)), (u 5, ia Z 8 (ni Fo))] (fun rr ww => ∃ Fx : Nat → Nat, rr = some (.int (zI (z_tell A a))) ∧ ww = [xO h u ab be ((if isS A a then Rf else bmp Rf 0) 0) ((if isS A a then Rf else bmp Rf 0) 1) ((if isS A a then Rf else bmp Rf 0) 2), (u 0, .inr (4, [.ref (s 0), .ref (s 1), .ref (s 3), .ref (s 5), .ref (s 7)])), cO (s 0) q (A 21) (A 5) (A 6) (A 7) (A 8) (A 0), (q 0, ia Z 12 (ni K)), (q 1, ia Z 12 (ni P)), (q 2, ia Z 6 (ni kd)), (q 3, ia Z 6 (ni am)), (q 4, ia Z 6 (ni st)), (q 5, ia Z 6 (ni rg)), (s 1, .inr (1, [.int (nI (A 4)), .ref (s 2)])), (s 2, ia Z 128 (ni Ro)), (s 3, .inr (3, [.int (nI (A 1)), .int (nI 4), .int (nI 5), .ref (s 4)])), (s 4, ia Z 30 (ni Sn)), (s 5, .inr (3, [.int (nI (A 2)), .int (nI 5), .int (nI 6), .ref (s 6)])), (s 6, ia Z 30 (ni Nt)), (s 7, .inr (3, [.int (nI (A 3)), .int (nI 5), .int (nI 6), .ref (s 8)])), (s 8, ia Z 30 (ni Mk)), (u 5, ia Z 8 (ni Fx))]) := by
  refine CT.of RX8 false rfl (fun h => by cases h) (by decide +kernel) (Nat.le_of_ble_eq_true rfl) ?_
  intro J hJ hE
  show J 0 [(0, .ref h), (1, .int a)] [] [xO h u ab be (Rf 0) (Rf 1) (Rf 2), (u 0, .inr (4, [.ref (s 0), .ref (s 1), .ref (s 3), .ref (s 5), .ref (s 7)])), cO (s 0) q (A 21) (A 5) (A 6) (A 7) (A 8) (A 0), (q 0, ia Z 12 (ni K)), (q 1, ia Z 12 (ni P)), (q 2, ia Z 6 (ni kd)), (q 3, ia Z 6 (ni am)), (q 4, ia Z 6 (ni st)), (q 5, ia Z 6 (ni rg)), (s 1, .inr (1, [.int (nI (A 4)), .ref (s 2)])), (s 2, ia Z 128 (ni Ro)), (s 3, .inr (3, [.int (nI (A 1)), .int (nI 4), .int (nI 5), .ref (s 4)])), (s 4, ia Z 30 (ni Sn)), (s 5, .inr (3, [.int (nI (A 2)), .int (nI 5), .int (nI 6), .ref (s 6)])), (s 6, ia Z 30 (ni Nt)), (s 7, .inr (3, [.int (nI (A 3)), .int (nI 5), .int (nI 6), .ref (s 8)])), (s 8, ia Z 30 (ni Mk)), (u 5, ia Z 8 (ni Fo))] 0 0
  obtain ⟨hw, ⟨g1, g2, g3, g4, g8⟩, hrs, hrn, hrm, hpst⟩ := id hg
  obtain ⟨⟨w1, w2, w3, w4, w5, w6⟩, hb, wr, wh, wd⟩ := id hw
  obtain ⟨hR, hX⟩ := id hA
  obtain ⟨hP, hSn, hNt, hMk⟩ := id hX
  have hr_a := zI_rng a
  refine j_aload_n hJ (q := 1) dX8_tell_0 rfl 0 rfl rfl ?_
  refine j_iload_n hJ (q := 2) dX8_tell_1 rfl 1 rfl rfl ?_
  refine j_vR hJ (q := 5) (rest := []) (As := [.int a]) jl_X8_80 (c_X8_isSeat Z h u ab be Rf s q A K P kd am st rg a (by omega)) 0 rfl rfl dX8_tell_2 rfl (by decide) (Nat.le_of_ble_eq_true rfl) [0, 1, 2, 3, 4, 5, 6, 7, 8] rfl rfl (fun rv hp => ?_)
  obtain rfl := hp
  show J 5 [(0, .ref h), (1, .int a)] [.int (bI (decide (0 ≤ a.toInt ∧ a.toInt ≤ (A 21 : Int) - 1)))] [xO h u ab be (Rf 0) (Rf 1) (Rf 2), (u 0, .inr (4, [.ref (s 0), .ref (s 1), .ref (s 3), .ref (s 5), .ref (s 7)])), cO (s 0) q (A 21) (A 5) (A 6) (A 7) (A 8) (A 0), (q 0, ia Z 12 (ni K)), (q 1, ia Z 12 (ni P)), (q 2, ia Z 6 (ni kd)), (q 3, ia Z 6 (ni am)), (q 4, ia Z 6 (ni st)), (q 5, ia Z 6 (ni rg)), (s 1, .inr (1, [.int (nI (A 4)), .ref (s 2)])), (s 2, ia Z 128 (ni Ro)), (s 3, .inr (3, [.int (nI (A 1)), .int (nI 4), .int (nI 5), .ref (s 4)])), (s 4, ia Z 30 (ni Sn)), (s 5, .inr (3, [.int (nI (A 2)), .int (nI 5), .int (nI 6), .ref (s 6)])), (s 6, ia Z 30 (ni Nt)), (s 7, .inr (3, [.int (nI (A 3)), .int (nI 5), .int (nI 6), .ref (s 8)])), (s 8, ia Z 30 (ni Mk)), (u 5, ia Z 8 (ni Fo))] 0 0
  refine jp_if_eq hJ (q := 8) (tgt := 17) dX8_tell_5 (by decide) rfl (fun c1 => ?_) (fun c1 => ?_)
  · skip
    refine j_aload_n hJ (q := 18) dX8_tell_17 rfl 0 rfl rfl ?_
    refine j_vW hJ (q := 21) (rest := []) (As := []) (wr := [(u 0, .inr (4, [.ref (s 0), .ref (s 1), .ref (s 3), .ref (s 5), .ref (s 7)])), cO (s 0) q (A 21) (A 5) (A 6) (A 7) (A 8) (A 0), (q 0, ia Z 12 (ni K)), (q 1, ia Z 12 (ni P)), (q 2, ia Z 6 (ni kd)), (q 3, ia Z 6 (ni am)), (q 4, ia Z 6 (ni st)), (q 5, ia Z 6 (ni rg)), (s 1, .inr (1, [.int (nI (A 4)), .ref (s 2)])), (s 2, ia Z 128 (ni Ro)), (s 3, .inr (3, [.int (nI (A 1)), .int (nI 4), .int (nI 5), .ref (s 4)])), (s 4, ia Z 30 (ni Sn)), (s 5, .inr (3, [.int (nI (A 2)), .int (nI 5), .int (nI 6), .ref (s 6)])), (s 6, ia Z 30 (ni Nt)), (s 7, .inr (3, [.int (nI (A 3)), .int (nI 5), .int (nI 6), .ref (s 8)])), (s 8, ia Z 30 (ni Mk)), (u 5, ia Z 8 (ni Fo))]) jl_X8_62 (c_X8_bad Z h u ab be Rf ) 0 rfl rfl dX8_tell_18 rfl (by decide) (Nat.le_of_ble_eq_true rfl) [0] [1, 2, 3, 4, 5, 6, 7, 8, 9, 10, 11, 12, 13, 14, 15, 16, 17] rfl rfl rfl rfl (by decide) rfl (fun rv wv hp => ?_)
    obtain ⟨rfl, rfl⟩ := hp
    refine j_world hJ (ws' := [xO h u ab be ((bmp Rf 0) 0) ((bmp Rf 0) 1) ((bmp Rf 0) 2), (u 0, .inr (4, [.ref (s 0), .ref (s 1), .ref (s 3), .ref (s 5), .ref (s 7)])), cO (s 0) q (A 21) (A 5) (A 6) (A 7) (A 8) (A 0), (q 0, ia Z 12 (ni K)), (q 1, ia Z 12 (ni P)), (q 2, ia Z 6 (ni kd)), (q 3, ia Z 6 (ni am)), (q 4, ia Z 6 (ni st)), (q 5, ia Z 6 (ni rg)), (s 1, .inr (1, [.int (nI (A 4)), .ref (s 2)])), (s 2, ia Z 128 (ni Ro)), (s 3, .inr (3, [.int (nI (A 1)), .int (nI 4), .int (nI 5), .ref (s 4)])), (s 4, ia Z 30 (ni Sn)), (s 5, .inr (3, [.int (nI (A 2)), .int (nI 5), .int (nI 6), .ref (s 6)])), (s 6, ia Z 30 (ni Nt)), (s 7, .inr (3, [.int (nI (A 3)), .int (nI 5), .int (nI 6), .ref (s 8)])), (s 8, ia Z 30 (ni Mk)), (u 5, ia Z 8 (ni Fo))]) [17, 0, 1, 2, 3, 4, 5, 6, 7, 8, 9, 10, 11, 12, 13, 14, 15, 16] rfl rfl ?_
    show J 21 [(0, .ref h), (1, .int a)] [.int (zI (-2))] [xO h u ab be ((bmp Rf 0) 0) ((bmp Rf 0) 1) ((bmp Rf 0) 2), (u 0, .inr (4, [.ref (s 0), .ref (s 1), .ref (s 3), .ref (s 5), .ref (s 7)])), cO (s 0) q (A 21) (A 5) (A 6) (A 7) (A 8) (A 0), (q 0, ia Z 12 (ni K)), (q 1, ia Z 12 (ni P)), (q 2, ia Z 6 (ni kd)), (q 3, ia Z 6 (ni am)), (q 4, ia Z 6 (ni st)), (q 5, ia Z 6 (ni rg)), (s 1, .inr (1, [.int (nI (A 4)), .ref (s 2)])), (s 2, ia Z 128 (ni Ro)), (s 3, .inr (3, [.int (nI (A 1)), .int (nI 4), .int (nI 5), .ref (s 4)])), (s 4, ia Z 30 (ni Sn)), (s 5, .inr (3, [.int (nI (A 2)), .int (nI 5), .int (nI 6), .ref (s 6)])), (s 6, ia Z 30 (ni Nt)), (s 7, .inr (3, [.int (nI (A 3)), .int (nI 5), .int (nI 6), .ref (s 8)])), (s 8, ia Z 30 (ni Mk)), (u 5, ia Z 8 (ni Fo))] 0 0
    have hP0 : ¬ (isS A a) := by simp only [rgI, isS, isR, pNote, pMark, pFast, pLever, pHands, pSlip, pEven]; omega
    exact hE.1 _ _ _ _ _ _ _ rfl rfl dX8_tell_21 (Nat.le_refl _) (Nat.le_refl _) (⟨Fo, congrArg (fun z => some (Value.int (zI z))) (by simp only [z_tell, if_neg hP0]), by rw [if_neg hP0] <;> rfl⟩)
  · skip
    have hn_a := nt_cast (x := a) (by omega)
    refine j_eql (lvs' := [(0, .ref h), (1, .int (nI (nt a)))]) (by rw [← nt_eq (x := a) (by omega)]) ?_
    refine j_aload_n hJ (q := 9) dX8_tell_8 rfl 0 rfl rfl ?_
    refine j_iconst hJ (q := 10) dX8_tell_9 rfl ki_0 ?_
    refine j_iload_n hJ (q := 11) dX8_tell_10 rfl 1 rfl rfl ?_
    refine j_vW hJ (q := 14) (rest := []) (As := [.int (nI 0), .int (nI (nt a))]) (wr := []) jl_X8_214 (c_X8_bestLook0 Z h u ab be Rf s q A K P kd am st rg Ro Sn Nt Mk Fo (nt a) hg hA (by omega)) 0 rfl rfl dX8_tell_11 rfl (by decide) (Nat.le_of_ble_eq_true rfl) [0, 1, 2, 3, 4, 5, 6, 7, 8, 9, 10, 11, 12, 13, 14, 15, 16, 17] [] rfl rfl rfl rfl (by decide) rfl (fun rv wv hp => ?_)
    obtain ⟨Fx2, rfl, rfl⟩ := hp
    show J 14 [(0, .ref h), (1, .int (nI (nt a)))] [.int (zI (mnz (fTell A (nt a) (phs A (nt a))) 4 8 (phs A (nt a))))] [xO h u ab be (Rf 0) (Rf 1) (Rf 2), (u 0, .inr (4, [.ref (s 0), .ref (s 1), .ref (s 3), .ref (s 5), .ref (s 7)])), cO (s 0) q (A 21) (A 5) (A 6) (A 7) (A 8) (A 0), (q 0, ia Z 12 (ni K)), (q 1, ia Z 12 (ni P)), (q 2, ia Z 6 (ni kd)), (q 3, ia Z 6 (ni am)), (q 4, ia Z 6 (ni st)), (q 5, ia Z 6 (ni rg)), (s 1, .inr (1, [.int (nI (A 4)), .ref (s 2)])), (s 2, ia Z 128 (ni Ro)), (s 3, .inr (3, [.int (nI (A 1)), .int (nI 4), .int (nI 5), .ref (s 4)])), (s 4, ia Z 30 (ni Sn)), (s 5, .inr (3, [.int (nI (A 2)), .int (nI 5), .int (nI 6), .ref (s 6)])), (s 6, ia Z 30 (ni Nt)), (s 7, .inr (3, [.int (nI (A 3)), .int (nI 5), .int (nI 6), .ref (s 8)])), (s 8, ia Z 30 (ni Mk)), (u 5, ia Z 8 (ni Fx2))] 0 0
    refine j_goto hJ (q := 21) dX8_tell_14 (by decide) ?_
    have hP0 : isS A a := by simp only [rgI, isS, isR, pNote, pMark, pFast, pLever, pHands, pSlip, pEven]; omega
    exact hE.1 _ _ _ _ _ _ _ rfl rfl dX8_tell_21 (Nat.le_refl _) (Nat.le_refl _) (⟨Fx2, congrArg (fun z => some (Value.int (zI z))) (by simp only [z_tell, if_pos hP0]), by rw [if_pos hP0] <;> rfl⟩)

set_option maxHeartbeats 4000000 in
set_option maxRecDepth 100000 in
theorem c_X8_look (Z : jZ) (h : Nat) (u : Nat → Nat) (ab : Int) (be : Int) (Rf : Nat → Nat) (s : Nat → Nat) (q : Nat → Nat) (A : Nat → Nat) (K : Nat → Nat) (P : Nat → Nat) (kd : Nat → Nat) (am : Nat → Nat) (st : Nat → Nat) (rg : Nat → Nat) (Ro : Nat → Nat) (Sn : Nat → Nat) (Nt : Nat → Nat) (Mk : Nat → Nat) (Fo : Nat → Nat) (a : Int32) (hg : wg A) (hA : rA A K P kd am st rg Ro Sn Nt Mk) : CT Z yX8_look cX8_look 2 ((some FieldType.int)) 6 0 0 [.ref h, .int a] [xO h u ab be (Rf 0) (Rf 1) (Rf 2), (u 0, .inr (4, [.ref (s 0), .ref (s 1), .ref (s 3), .ref (s 5), .ref (s 7)])), cO (s 0) q (A 21) (A 5) (A 6) (A 7) (A 8) (A 0), (q 0, ia Z 12 (ni K)), (q 1, ia Z 12 (ni P)), (q 2, ia Z 6 (ni kd)), (q 3, ia Z 6 (ni am)), (q 4, ia Z 6 (ni st)), (q 5, ia Z 6 (ni rg)), (s 1, .inr (1, [.int (nI (A 4)), .ref (s 2)])), (s 2, ia Z 128 (ni Ro)), (s 3, .inr (3, [.int (nI (A 1)), .int (nI 4), .int (nI 5), .ref (s 4)])), (s 4, ia Z 30 (ni Sn)), (s 5, .inr (3, [.int (nI (A 2)), .int (nI 5), .int (nI 6), .ref (s 6)])), (s 6, ia Z 30 (ni Nt)), (s 7, .inr (3, [.int (nI (A 3)), .int (nI 5), .int (nI 6), .ref (s 8)])), (s 8, ia Z 30 (ni Mk)), (u 5, ia Z 8 (ni Fo))] (fun rr ww => ∃ Fx : Nat → Nat, rr = some (.int (zI (z_look A a))) ∧ ww = [xO h u ab be ((if isS A a then Rf else bmp Rf 0) 0) ((if isS A a then Rf else bmp Rf 0) 1) ((if isS A a then Rf else bmp Rf 0) 2), (u 0, .inr (4, [.ref (s 0), .ref (s 1), .ref (s 3), .ref (s 5), .ref (s 7)])), cO (s 0) q (A 21) (A 5) (A 6) (A 7) (A 8) (A 0), (q 0, ia Z 12 (ni K)), (q 1, ia Z 12 (ni P)), (q 2, ia Z 6 (ni kd)), (q 3, ia Z 6 (ni am)), (q 4, ia Z 6 (ni st)), (q 5, ia Z 6 (ni rg)), (s 1, .inr (1, [.int (nI (A 4)), .ref (s 2)])), (s 2, ia Z 128 (ni Ro)), (s 3, .inr (3, [.int (nI (A 1)), .int (nI 4), .int (nI 5), .ref (s 4)])), (s 4, ia Z 30 (ni Sn)), (s 5, .inr (3, [.int (nI (A 2)), .int (nI 5), .int (nI 6), .ref (s 6)])), (s 6, ia Z 30 (ni Nt)), (s 7, .inr (3, [.int (nI (A 3)), .int (nI 5), .int (nI 6), .ref (s 8)])), (s 8, ia Z 30 (ni Mk)), (u 5, ia Z 8 (ni Fx))]) := by
  refine CT.of RX8 false rfl (fun h => by cases h) (by decide +kernel) (Nat.le_of_ble_eq_true rfl) ?_
  intro J hJ hE
  show J 0 [(0, .ref h), (1, .int a)] [] [xO h u ab be (Rf 0) (Rf 1) (Rf 2), (u 0, .inr (4, [.ref (s 0), .ref (s 1), .ref (s 3), .ref (s 5), .ref (s 7)])), cO (s 0) q (A 21) (A 5) (A 6) (A 7) (A 8) (A 0), (q 0, ia Z 12 (ni K)), (q 1, ia Z 12 (ni P)), (q 2, ia Z 6 (ni kd)), (q 3, ia Z 6 (ni am)), (q 4, ia Z 6 (ni st)), (q 5, ia Z 6 (ni rg)), (s 1, .inr (1, [.int (nI (A 4)), .ref (s 2)])), (s 2, ia Z 128 (ni Ro)), (s 3, .inr (3, [.int (nI (A 1)), .int (nI 4), .int (nI 5), .ref (s 4)])), (s 4, ia Z 30 (ni Sn)), (s 5, .inr (3, [.int (nI (A 2)), .int (nI 5), .int (nI 6), .ref (s 6)])), (s 6, ia Z 30 (ni Nt)), (s 7, .inr (3, [.int (nI (A 3)), .int (nI 5), .int (nI 6), .ref (s 8)])), (s 8, ia Z 30 (ni Mk)), (u 5, ia Z 8 (ni Fo))] 0 0
  obtain ⟨hw, ⟨g1, g2, g3, g4, g8⟩, hrs, hrn, hrm, hpst⟩ := id hg
  obtain ⟨⟨w1, w2, w3, w4, w5, w6⟩, hb, wr, wh, wd⟩ := id hw
  obtain ⟨hR, hX⟩ := id hA
  obtain ⟨hP, hSn, hNt, hMk⟩ := id hX
  have hr_a := zI_rng a
  refine j_aload_n hJ (q := 1) dX8_look_0 rfl 0 rfl rfl ?_
  refine j_iload_n hJ (q := 2) dX8_look_1 rfl 1 rfl rfl ?_
  refine j_vR hJ (q := 5) (rest := []) (As := [.int a]) jl_X8_80 (c_X8_isSeat Z h u ab be Rf s q A K P kd am st rg a (by omega)) 0 rfl rfl dX8_look_2 rfl (by decide) (Nat.le_of_ble_eq_true rfl) [0, 1, 2, 3, 4, 5, 6, 7, 8] rfl rfl (fun rv hp => ?_)
  obtain rfl := hp
  show J 5 [(0, .ref h), (1, .int a)] [.int (bI (decide (0 ≤ a.toInt ∧ a.toInt ≤ (A 21 : Int) - 1)))] [xO h u ab be (Rf 0) (Rf 1) (Rf 2), (u 0, .inr (4, [.ref (s 0), .ref (s 1), .ref (s 3), .ref (s 5), .ref (s 7)])), cO (s 0) q (A 21) (A 5) (A 6) (A 7) (A 8) (A 0), (q 0, ia Z 12 (ni K)), (q 1, ia Z 12 (ni P)), (q 2, ia Z 6 (ni kd)), (q 3, ia Z 6 (ni am)), (q 4, ia Z 6 (ni st)), (q 5, ia Z 6 (ni rg)), (s 1, .inr (1, [.int (nI (A 4)), .ref (s 2)])), (s 2, ia Z 128 (ni Ro)), (s 3, .inr (3, [.int (nI (A 1)), .int (nI 4), .int (nI 5), .ref (s 4)])), (s 4, ia Z 30 (ni Sn)), (s 5, .inr (3, [.int (nI (A 2)), .int (nI 5), .int (nI 6), .ref (s 6)])), (s 6, ia Z 30 (ni Nt)), (s 7, .inr (3, [.int (nI (A 3)), .int (nI 5), .int (nI 6), .ref (s 8)])), (s 8, ia Z 30 (ni Mk)), (u 5, ia Z 8 (ni Fo))] 0 0
  refine jp_if_eq hJ (q := 8) (tgt := 17) dX8_look_5 (by decide) rfl (fun c1 => ?_) (fun c1 => ?_)
  · skip
    refine j_aload_n hJ (q := 18) dX8_look_17 rfl 0 rfl rfl ?_
    refine j_vW hJ (q := 21) (rest := []) (As := []) (wr := [(u 0, .inr (4, [.ref (s 0), .ref (s 1), .ref (s 3), .ref (s 5), .ref (s 7)])), cO (s 0) q (A 21) (A 5) (A 6) (A 7) (A 8) (A 0), (q 0, ia Z 12 (ni K)), (q 1, ia Z 12 (ni P)), (q 2, ia Z 6 (ni kd)), (q 3, ia Z 6 (ni am)), (q 4, ia Z 6 (ni st)), (q 5, ia Z 6 (ni rg)), (s 1, .inr (1, [.int (nI (A 4)), .ref (s 2)])), (s 2, ia Z 128 (ni Ro)), (s 3, .inr (3, [.int (nI (A 1)), .int (nI 4), .int (nI 5), .ref (s 4)])), (s 4, ia Z 30 (ni Sn)), (s 5, .inr (3, [.int (nI (A 2)), .int (nI 5), .int (nI 6), .ref (s 6)])), (s 6, ia Z 30 (ni Nt)), (s 7, .inr (3, [.int (nI (A 3)), .int (nI 5), .int (nI 6), .ref (s 8)])), (s 8, ia Z 30 (ni Mk)), (u 5, ia Z 8 (ni Fo))]) jl_X8_62 (c_X8_bad Z h u ab be Rf ) 0 rfl rfl dX8_look_18 rfl (by decide) (Nat.le_of_ble_eq_true rfl) [0] [1, 2, 3, 4, 5, 6, 7, 8, 9, 10, 11, 12, 13, 14, 15, 16, 17] rfl rfl rfl rfl (by decide) rfl (fun rv wv hp => ?_)
    obtain ⟨rfl, rfl⟩ := hp
    refine j_world hJ (ws' := [xO h u ab be ((bmp Rf 0) 0) ((bmp Rf 0) 1) ((bmp Rf 0) 2), (u 0, .inr (4, [.ref (s 0), .ref (s 1), .ref (s 3), .ref (s 5), .ref (s 7)])), cO (s 0) q (A 21) (A 5) (A 6) (A 7) (A 8) (A 0), (q 0, ia Z 12 (ni K)), (q 1, ia Z 12 (ni P)), (q 2, ia Z 6 (ni kd)), (q 3, ia Z 6 (ni am)), (q 4, ia Z 6 (ni st)), (q 5, ia Z 6 (ni rg)), (s 1, .inr (1, [.int (nI (A 4)), .ref (s 2)])), (s 2, ia Z 128 (ni Ro)), (s 3, .inr (3, [.int (nI (A 1)), .int (nI 4), .int (nI 5), .ref (s 4)])), (s 4, ia Z 30 (ni Sn)), (s 5, .inr (3, [.int (nI (A 2)), .int (nI 5), .int (nI 6), .ref (s 6)])), (s 6, ia Z 30 (ni Nt)), (s 7, .inr (3, [.int (nI (A 3)), .int (nI 5), .int (nI 6), .ref (s 8)])), (s 8, ia Z 30 (ni Mk)), (u 5, ia Z 8 (ni Fo))]) [17, 0, 1, 2, 3, 4, 5, 6, 7, 8, 9, 10, 11, 12, 13, 14, 15, 16] rfl rfl ?_
    show J 21 [(0, .ref h), (1, .int a)] [.int (zI (-2))] [xO h u ab be ((bmp Rf 0) 0) ((bmp Rf 0) 1) ((bmp Rf 0) 2), (u 0, .inr (4, [.ref (s 0), .ref (s 1), .ref (s 3), .ref (s 5), .ref (s 7)])), cO (s 0) q (A 21) (A 5) (A 6) (A 7) (A 8) (A 0), (q 0, ia Z 12 (ni K)), (q 1, ia Z 12 (ni P)), (q 2, ia Z 6 (ni kd)), (q 3, ia Z 6 (ni am)), (q 4, ia Z 6 (ni st)), (q 5, ia Z 6 (ni rg)), (s 1, .inr (1, [.int (nI (A 4)), .ref (s 2)])), (s 2, ia Z 128 (ni Ro)), (s 3, .inr (3, [.int (nI (A 1)), .int (nI 4), .int (nI 5), .ref (s 4)])), (s 4, ia Z 30 (ni Sn)), (s 5, .inr (3, [.int (nI (A 2)), .int (nI 5), .int (nI 6), .ref (s 6)])), (s 6, ia Z 30 (ni Nt)), (s 7, .inr (3, [.int (nI (A 3)), .int (nI 5), .int (nI 6), .ref (s 8)])), (s 8, ia Z 30 (ni Mk)), (u 5, ia Z 8 (ni Fo))] 0 0
    have hP0 : ¬ (isS A a) := by simp only [rgI, isS, isR, pNote, pMark, pFast, pLever, pHands, pSlip, pEven]; omega
    exact hE.1 _ _ _ _ _ _ _ rfl rfl dX8_look_21 (Nat.le_refl _) (Nat.le_refl _) (⟨Fo, congrArg (fun z => some (Value.int (zI z))) (by simp only [z_look, if_neg hP0]), by rw [if_neg hP0] <;> rfl⟩)
  · skip
    have hn_a := nt_cast (x := a) (by omega)
    refine j_eql (lvs' := [(0, .ref h), (1, .int (nI (nt a)))]) (by rw [← nt_eq (x := a) (by omega)]) ?_
    refine j_aload_n hJ (q := 9) dX8_look_8 rfl 0 rfl rfl ?_
    refine j_iconst hJ (q := 10) dX8_look_9 rfl ki_1 ?_
    refine j_iload_n hJ (q := 11) dX8_look_10 rfl 1 rfl rfl ?_
    refine j_vW hJ (q := 14) (rest := []) (As := [.int (nI 1), .int (nI (nt a))]) (wr := []) jl_X8_214 (c_X8_bestLook1 Z h u ab be Rf s q A K P kd am st rg Ro Sn Nt Mk Fo (nt a) hg hA (by omega)) 0 rfl rfl dX8_look_11 rfl (by decide) (Nat.le_of_ble_eq_true rfl) [0, 1, 2, 3, 4, 5, 6, 7, 8, 9, 10, 11, 12, 13, 14, 15, 16, 17] [] rfl rfl rfl rfl (by decide) rfl (fun rv wv hp => ?_)
    obtain ⟨Fx2, rfl, rfl⟩ := hp
    show J 14 [(0, .ref h), (1, .int (nI (nt a)))] [.int (zI (mnz (fLook A (nt a) (kds A (nt a) 78 (A 2) true)) 4 8 (kds A (nt a) 78 (A 2) true)))] [xO h u ab be (Rf 0) (Rf 1) (Rf 2), (u 0, .inr (4, [.ref (s 0), .ref (s 1), .ref (s 3), .ref (s 5), .ref (s 7)])), cO (s 0) q (A 21) (A 5) (A 6) (A 7) (A 8) (A 0), (q 0, ia Z 12 (ni K)), (q 1, ia Z 12 (ni P)), (q 2, ia Z 6 (ni kd)), (q 3, ia Z 6 (ni am)), (q 4, ia Z 6 (ni st)), (q 5, ia Z 6 (ni rg)), (s 1, .inr (1, [.int (nI (A 4)), .ref (s 2)])), (s 2, ia Z 128 (ni Ro)), (s 3, .inr (3, [.int (nI (A 1)), .int (nI 4), .int (nI 5), .ref (s 4)])), (s 4, ia Z 30 (ni Sn)), (s 5, .inr (3, [.int (nI (A 2)), .int (nI 5), .int (nI 6), .ref (s 6)])), (s 6, ia Z 30 (ni Nt)), (s 7, .inr (3, [.int (nI (A 3)), .int (nI 5), .int (nI 6), .ref (s 8)])), (s 8, ia Z 30 (ni Mk)), (u 5, ia Z 8 (ni Fx2))] 0 0
    refine j_goto hJ (q := 21) dX8_look_14 (by decide) ?_
    have hP0 : isS A a := by simp only [rgI, isS, isR, pNote, pMark, pFast, pLever, pHands, pSlip, pEven]; omega
    exact hE.1 _ _ _ _ _ _ _ rfl rfl dX8_look_21 (Nat.le_refl _) (Nat.le_refl _) (⟨Fx2, congrArg (fun z => some (Value.int (zI z))) (by simp only [z_look, if_pos hP0]), by rw [if_pos hP0] <;> rfl⟩)

set_option maxHeartbeats 4000000 in
set_option maxRecDepth 100000 in
theorem c_X8_ask (Z : jZ) (h : Nat) (u : Nat → Nat) (ab : Int) (be : Int) (Rf : Nat → Nat) (s : Nat → Nat) (q : Nat → Nat) (A : Nat → Nat) (K : Nat → Nat) (P : Nat → Nat) (kd : Nat → Nat) (am : Nat → Nat) (st : Nat → Nat) (rg : Nat → Nat) (Ro : Nat → Nat) (Sn : Nat → Nat) (Nt : Nat → Nat) (Mk : Nat → Nat) (Fo : Nat → Nat) (a : Int32) (hg : wg A) (hA : rA A K P kd am st rg Ro Sn Nt Mk) : CT Z yX8_ask cX8_ask 2 ((some FieldType.int)) 6 0 0 [.ref h, .int a] [xO h u ab be (Rf 0) (Rf 1) (Rf 2), (u 0, .inr (4, [.ref (s 0), .ref (s 1), .ref (s 3), .ref (s 5), .ref (s 7)])), cO (s 0) q (A 21) (A 5) (A 6) (A 7) (A 8) (A 0), (q 0, ia Z 12 (ni K)), (q 1, ia Z 12 (ni P)), (q 2, ia Z 6 (ni kd)), (q 3, ia Z 6 (ni am)), (q 4, ia Z 6 (ni st)), (q 5, ia Z 6 (ni rg)), (s 1, .inr (1, [.int (nI (A 4)), .ref (s 2)])), (s 2, ia Z 128 (ni Ro)), (s 3, .inr (3, [.int (nI (A 1)), .int (nI 4), .int (nI 5), .ref (s 4)])), (s 4, ia Z 30 (ni Sn)), (s 5, .inr (3, [.int (nI (A 2)), .int (nI 5), .int (nI 6), .ref (s 6)])), (s 6, ia Z 30 (ni Nt)), (s 7, .inr (3, [.int (nI (A 3)), .int (nI 5), .int (nI 6), .ref (s 8)])), (s 8, ia Z 30 (ni Mk)), (u 5, ia Z 8 (ni Fo))] (fun rr ww => ∃ Fx : Nat → Nat, rr = some (.int (zI (z_ask A a))) ∧ ww = [xO h u ab be ((if isR A a then Rf else bmp Rf 0) 0) ((if isR A a then Rf else bmp Rf 0) 1) ((if isR A a then Rf else bmp Rf 0) 2), (u 0, .inr (4, [.ref (s 0), .ref (s 1), .ref (s 3), .ref (s 5), .ref (s 7)])), cO (s 0) q (A 21) (A 5) (A 6) (A 7) (A 8) (A 0), (q 0, ia Z 12 (ni K)), (q 1, ia Z 12 (ni P)), (q 2, ia Z 6 (ni kd)), (q 3, ia Z 6 (ni am)), (q 4, ia Z 6 (ni st)), (q 5, ia Z 6 (ni rg)), (s 1, .inr (1, [.int (nI (A 4)), .ref (s 2)])), (s 2, ia Z 128 (ni Ro)), (s 3, .inr (3, [.int (nI (A 1)), .int (nI 4), .int (nI 5), .ref (s 4)])), (s 4, ia Z 30 (ni Sn)), (s 5, .inr (3, [.int (nI (A 2)), .int (nI 5), .int (nI 6), .ref (s 6)])), (s 6, ia Z 30 (ni Nt)), (s 7, .inr (3, [.int (nI (A 3)), .int (nI 5), .int (nI 6), .ref (s 8)])), (s 8, ia Z 30 (ni Mk)), (u 5, ia Z 8 (ni Fx))]) := by
  refine CT.of RX8 false rfl (fun h => by cases h) (by decide +kernel) (Nat.le_of_ble_eq_true rfl) ?_
  intro J hJ hE
  show J 0 [(0, .ref h), (1, .int a)] [] [xO h u ab be (Rf 0) (Rf 1) (Rf 2), (u 0, .inr (4, [.ref (s 0), .ref (s 1), .ref (s 3), .ref (s 5), .ref (s 7)])), cO (s 0) q (A 21) (A 5) (A 6) (A 7) (A 8) (A 0), (q 0, ia Z 12 (ni K)), (q 1, ia Z 12 (ni P)), (q 2, ia Z 6 (ni kd)), (q 3, ia Z 6 (ni am)), (q 4, ia Z 6 (ni st)), (q 5, ia Z 6 (ni rg)), (s 1, .inr (1, [.int (nI (A 4)), .ref (s 2)])), (s 2, ia Z 128 (ni Ro)), (s 3, .inr (3, [.int (nI (A 1)), .int (nI 4), .int (nI 5), .ref (s 4)])), (s 4, ia Z 30 (ni Sn)), (s 5, .inr (3, [.int (nI (A 2)), .int (nI 5), .int (nI 6), .ref (s 6)])), (s 6, ia Z 30 (ni Nt)), (s 7, .inr (3, [.int (nI (A 3)), .int (nI 5), .int (nI 6), .ref (s 8)])), (s 8, ia Z 30 (ni Mk)), (u 5, ia Z 8 (ni Fo))] 0 0
  obtain ⟨hw, ⟨g1, g2, g3, g4, g8⟩, hrs, hrn, hrm, hpst⟩ := id hg
  obtain ⟨⟨w1, w2, w3, w4, w5, w6⟩, hb, wr, wh, wd⟩ := id hw
  obtain ⟨hR, hX⟩ := id hA
  obtain ⟨hP, hSn, hNt, hMk⟩ := id hX
  have hr_a := zI_rng a
  refine j_aload_n hJ (q := 1) dX8_ask_0 rfl 0 rfl rfl ?_
  refine j_iload_n hJ (q := 2) dX8_ask_1 rfl 1 rfl rfl ?_
  refine j_vR hJ (q := 5) (rest := []) (As := [.int a]) jl_X8_141 (c_X8_isRider Z h u ab be Rf s q A K P kd am st rg a (by omega)) 0 rfl rfl dX8_ask_2 rfl (by decide) (Nat.le_of_ble_eq_true rfl) [0, 1, 2, 3, 4, 5, 6, 7, 8] rfl rfl (fun rv hp => ?_)
  obtain rfl := hp
  show J 5 [(0, .ref h), (1, .int a)] [.int (bI (decide (0 ≤ a.toInt ∧ a.toInt ≤ (A 0 : Int) - 1)))] [xO h u ab be (Rf 0) (Rf 1) (Rf 2), (u 0, .inr (4, [.ref (s 0), .ref (s 1), .ref (s 3), .ref (s 5), .ref (s 7)])), cO (s 0) q (A 21) (A 5) (A 6) (A 7) (A 8) (A 0), (q 0, ia Z 12 (ni K)), (q 1, ia Z 12 (ni P)), (q 2, ia Z 6 (ni kd)), (q 3, ia Z 6 (ni am)), (q 4, ia Z 6 (ni st)), (q 5, ia Z 6 (ni rg)), (s 1, .inr (1, [.int (nI (A 4)), .ref (s 2)])), (s 2, ia Z 128 (ni Ro)), (s 3, .inr (3, [.int (nI (A 1)), .int (nI 4), .int (nI 5), .ref (s 4)])), (s 4, ia Z 30 (ni Sn)), (s 5, .inr (3, [.int (nI (A 2)), .int (nI 5), .int (nI 6), .ref (s 6)])), (s 6, ia Z 30 (ni Nt)), (s 7, .inr (3, [.int (nI (A 3)), .int (nI 5), .int (nI 6), .ref (s 8)])), (s 8, ia Z 30 (ni Mk)), (u 5, ia Z 8 (ni Fo))] 0 0
  refine jp_if_eq hJ (q := 8) (tgt := 17) dX8_ask_5 (by decide) rfl (fun c1 => ?_) (fun c1 => ?_)
  · skip
    refine j_aload_n hJ (q := 18) dX8_ask_17 rfl 0 rfl rfl ?_
    refine j_vW hJ (q := 21) (rest := []) (As := []) (wr := [(u 0, .inr (4, [.ref (s 0), .ref (s 1), .ref (s 3), .ref (s 5), .ref (s 7)])), cO (s 0) q (A 21) (A 5) (A 6) (A 7) (A 8) (A 0), (q 0, ia Z 12 (ni K)), (q 1, ia Z 12 (ni P)), (q 2, ia Z 6 (ni kd)), (q 3, ia Z 6 (ni am)), (q 4, ia Z 6 (ni st)), (q 5, ia Z 6 (ni rg)), (s 1, .inr (1, [.int (nI (A 4)), .ref (s 2)])), (s 2, ia Z 128 (ni Ro)), (s 3, .inr (3, [.int (nI (A 1)), .int (nI 4), .int (nI 5), .ref (s 4)])), (s 4, ia Z 30 (ni Sn)), (s 5, .inr (3, [.int (nI (A 2)), .int (nI 5), .int (nI 6), .ref (s 6)])), (s 6, ia Z 30 (ni Nt)), (s 7, .inr (3, [.int (nI (A 3)), .int (nI 5), .int (nI 6), .ref (s 8)])), (s 8, ia Z 30 (ni Mk)), (u 5, ia Z 8 (ni Fo))]) jl_X8_62 (c_X8_bad Z h u ab be Rf ) 0 rfl rfl dX8_ask_18 rfl (by decide) (Nat.le_of_ble_eq_true rfl) [0] [1, 2, 3, 4, 5, 6, 7, 8, 9, 10, 11, 12, 13, 14, 15, 16, 17] rfl rfl rfl rfl (by decide) rfl (fun rv wv hp => ?_)
    obtain ⟨rfl, rfl⟩ := hp
    refine j_world hJ (ws' := [xO h u ab be ((bmp Rf 0) 0) ((bmp Rf 0) 1) ((bmp Rf 0) 2), (u 0, .inr (4, [.ref (s 0), .ref (s 1), .ref (s 3), .ref (s 5), .ref (s 7)])), cO (s 0) q (A 21) (A 5) (A 6) (A 7) (A 8) (A 0), (q 0, ia Z 12 (ni K)), (q 1, ia Z 12 (ni P)), (q 2, ia Z 6 (ni kd)), (q 3, ia Z 6 (ni am)), (q 4, ia Z 6 (ni st)), (q 5, ia Z 6 (ni rg)), (s 1, .inr (1, [.int (nI (A 4)), .ref (s 2)])), (s 2, ia Z 128 (ni Ro)), (s 3, .inr (3, [.int (nI (A 1)), .int (nI 4), .int (nI 5), .ref (s 4)])), (s 4, ia Z 30 (ni Sn)), (s 5, .inr (3, [.int (nI (A 2)), .int (nI 5), .int (nI 6), .ref (s 6)])), (s 6, ia Z 30 (ni Nt)), (s 7, .inr (3, [.int (nI (A 3)), .int (nI 5), .int (nI 6), .ref (s 8)])), (s 8, ia Z 30 (ni Mk)), (u 5, ia Z 8 (ni Fo))]) [17, 0, 1, 2, 3, 4, 5, 6, 7, 8, 9, 10, 11, 12, 13, 14, 15, 16] rfl rfl ?_
    show J 21 [(0, .ref h), (1, .int a)] [.int (zI (-2))] [xO h u ab be ((bmp Rf 0) 0) ((bmp Rf 0) 1) ((bmp Rf 0) 2), (u 0, .inr (4, [.ref (s 0), .ref (s 1), .ref (s 3), .ref (s 5), .ref (s 7)])), cO (s 0) q (A 21) (A 5) (A 6) (A 7) (A 8) (A 0), (q 0, ia Z 12 (ni K)), (q 1, ia Z 12 (ni P)), (q 2, ia Z 6 (ni kd)), (q 3, ia Z 6 (ni am)), (q 4, ia Z 6 (ni st)), (q 5, ia Z 6 (ni rg)), (s 1, .inr (1, [.int (nI (A 4)), .ref (s 2)])), (s 2, ia Z 128 (ni Ro)), (s 3, .inr (3, [.int (nI (A 1)), .int (nI 4), .int (nI 5), .ref (s 4)])), (s 4, ia Z 30 (ni Sn)), (s 5, .inr (3, [.int (nI (A 2)), .int (nI 5), .int (nI 6), .ref (s 6)])), (s 6, ia Z 30 (ni Nt)), (s 7, .inr (3, [.int (nI (A 3)), .int (nI 5), .int (nI 6), .ref (s 8)])), (s 8, ia Z 30 (ni Mk)), (u 5, ia Z 8 (ni Fo))] 0 0
    have hP0 : ¬ (isR A a) := by simp only [rgI, isS, isR, pNote, pMark, pFast, pLever, pHands, pSlip, pEven]; omega
    exact hE.1 _ _ _ _ _ _ _ rfl rfl dX8_ask_21 (Nat.le_refl _) (Nat.le_refl _) (⟨Fo, congrArg (fun z => some (Value.int (zI z))) (by simp only [z_ask, if_neg hP0]), by rw [if_neg hP0] <;> rfl⟩)
  · skip
    have hn_a := nt_cast (x := a) (by omega)
    refine j_eql (lvs' := [(0, .ref h), (1, .int (nI (nt a)))]) (by rw [← nt_eq (x := a) (by omega)]) ?_
    refine j_aload_n hJ (q := 9) dX8_ask_8 rfl 0 rfl rfl ?_
    refine j_iconst hJ (q := 10) dX8_ask_9 rfl ki_2 ?_
    refine j_iload_n hJ (q := 11) dX8_ask_10 rfl 1 rfl rfl ?_
    refine j_vW hJ (q := 14) (rest := []) (As := [.int (nI 2), .int (nI (nt a))]) (wr := []) jl_X8_214 (c_X8_bestLook2 Z h u ab be Rf s q A K P kd am st rg Ro Sn Nt Mk Fo (nt a) hg hA (by omega)) 0 rfl rfl dX8_ask_11 rfl (by decide) (Nat.le_of_ble_eq_true rfl) [0, 1, 2, 3, 4, 5, 6, 7, 8, 9, 10, 11, 12, 13, 14, 15, 16, 17] [] rfl rfl rfl rfl (by decide) rfl (fun rv wv hp => ?_)
    obtain ⟨Fx2, rfl, rfl⟩ := hp
    show J 14 [(0, .ref h), (1, .int (nI (nt a)))] [.int (zI (mnz (fAsk A (nt a) (kds A (nt a) 108 (A 3) false)) 10 11 (kds A (nt a) 108 (A 3) false)))] [xO h u ab be (Rf 0) (Rf 1) (Rf 2), (u 0, .inr (4, [.ref (s 0), .ref (s 1), .ref (s 3), .ref (s 5), .ref (s 7)])), cO (s 0) q (A 21) (A 5) (A 6) (A 7) (A 8) (A 0), (q 0, ia Z 12 (ni K)), (q 1, ia Z 12 (ni P)), (q 2, ia Z 6 (ni kd)), (q 3, ia Z 6 (ni am)), (q 4, ia Z 6 (ni st)), (q 5, ia Z 6 (ni rg)), (s 1, .inr (1, [.int (nI (A 4)), .ref (s 2)])), (s 2, ia Z 128 (ni Ro)), (s 3, .inr (3, [.int (nI (A 1)), .int (nI 4), .int (nI 5), .ref (s 4)])), (s 4, ia Z 30 (ni Sn)), (s 5, .inr (3, [.int (nI (A 2)), .int (nI 5), .int (nI 6), .ref (s 6)])), (s 6, ia Z 30 (ni Nt)), (s 7, .inr (3, [.int (nI (A 3)), .int (nI 5), .int (nI 6), .ref (s 8)])), (s 8, ia Z 30 (ni Mk)), (u 5, ia Z 8 (ni Fx2))] 0 0
    refine j_goto hJ (q := 21) dX8_ask_14 (by decide) ?_
    have hP0 : isR A a := by simp only [rgI, isS, isR, pNote, pMark, pFast, pLever, pHands, pSlip, pEven]; omega
    exact hE.1 _ _ _ _ _ _ _ rfl rfl dX8_ask_21 (Nat.le_refl _) (Nat.le_refl _) (⟨Fx2, congrArg (fun z => some (Value.int (zI z))) (by simp only [z_ask, if_pos hP0]), by rw [if_pos hP0] <;> rfl⟩)
