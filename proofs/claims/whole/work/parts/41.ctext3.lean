set_option maxHeartbeats 4000000 in
set_option maxRecDepth 100000 in
theorem c_X7_apply1 (Z : jZ) (ht : Nat) (tt : Nat) (L : Nat) (tk : Nat) (fi : Nat) (be : Nat) (nb : Int32) (bt : Nat) (Td : Nat → Int32) (h : Nat) (q : Nat → Nat) (n : Nat) (an : Nat) (sp : Nat) (ri : Nat) (ti : Nat) (rd : Nat) (K : Nat → Nat) (P : Nat → Nat) (kd : Nat → Nat) (am : Nat → Nat) (st : Nat → Nat) (rg : Nat → Nat) (a : Nat) (b : Nat) (hT0 : Td 0 = nI a) (hT1 : Td 1 = nI b) : CT Z yX7_apply cX7_apply 3 (none) 3 0 0 [.ref ht, .ref h] [(ht, .inr (5, [.int (nI L), .ref bt, .int (nI tk), .int (nI fi), .int (nI be), .int nb, .int (nI 1), .ref tt])), (tt, ia Z 3 Td), cO h q n an sp ri ti rd, (q 0, ia Z 12 (ni K)), (q 1, ia Z 12 (ni P)), (q 2, ia Z 6 (ni kd)), (q 3, ia Z 6 (ni am)), (q 4, ia Z 6 (ni st)), (q 5, ia Z 6 (ni rg))] (fun rr ww => ∃ Kz : Nat → Nat, ∃ Pz : Nat → Nat, rr = none ∧ ww = [(ht, .inr (5, [.int (nI L), .ref bt, .int (nI tk), .int (nI fi), .int (nI be), .int nb, .int (nI 1), .ref tt])), (tt, ia Z 3 Td), cO h q a 0 b 8 0 0, (q 0, ia Z 12 (ni Kz)), (q 1, ia Z 12 (ni Pz)), (q 2, ia Z 6 (ni kd)), (q 3, ia Z 6 (ni am)), (q 4, ia Z 6 (ni st)), (q 5, ia Z 6 (ni rg))] ∧ (∀ j, j < 12 → Kz j = 0 ∧ Pz j = 0)) := by
  refine CT.of RX7 false rfl (fun h => by cases h) (by decide +kernel) (Nat.le_of_ble_eq_true rfl) ?_
  intro J hJ hE
  show J 0 [(0, .ref ht), (1, .ref h)] [] [(ht, .inr (5, [.int (nI L), .ref bt, .int (nI tk), .int (nI fi), .int (nI be), .int nb, .int (nI 1), .ref tt])), (tt, ia Z 3 Td), cO h q n an sp ri ti rd, (q 0, ia Z 12 (ni K)), (q 1, ia Z 12 (ni P)), (q 2, ia Z 6 (ni kd)), (q 3, ia Z 6 (ni am)), (q 4, ia Z 6 (ni st)), (q 5, ia Z 6 (ni rg))] 0 0
  refine j_aload_n hJ (q := 1) dX7_apply_0 rfl 0 rfl rfl ?_
  refine j_get hJ (q := 4) jf_X7_39 dX7_apply_1 0 rfl rfl rfl ?_
  have c1 : 1 = 1 := by omega
  rcases c1 with c1
  · skip
    refine jn_tableIn hJ (q := 36) (off := 32) (k := 1) c1 dX7_apply_4 (by decide) (by decide) (by decide) (by decide) ?_
    refine j_aload_n hJ (q := 37) dX7_apply_36 rfl 1 rfl rfl ?_
    refine j_aload_n hJ (q := 38) dX7_apply_37 rfl 0 rfl rfl ?_
    refine j_get hJ (q := 41) jf_X7_15 dX7_apply_38 0 rfl rfl rfl ?_
    refine j_iconst hJ (q := 42) dX7_apply_41 rfl ki_0 ?_
    refine j_ialdN hJ (q := 43) dX7_apply_42 1 rfl (by decide) (by decide) rfl rfl ?_
    refine j_top hT0 ?_
    refine j_aload_n hJ (q := 44) dX7_apply_43 rfl 0 rfl rfl ?_
    refine j_get hJ (q := 47) jf_X7_15 dX7_apply_44 0 rfl rfl rfl ?_
    refine j_iconst hJ (q := 48) dX7_apply_47 rfl ki_1 ?_
    refine j_ialdN hJ (q := 49) dX7_apply_48 1 rfl (by decide) (by decide) rfl rfl ?_
    refine j_top hT1 ?_
    refine j_vW hJ (q := 52) (rest := []) (As := [.int (nI a), .int (nI b)]) (wr := [(ht, .inr (5, [.int (nI L), .ref bt, .int (nI tk), .int (nI fi), .int (nI be), .int nb, .int (nI 1), .ref tt])), (tt, ia Z 3 Td)]) jl_X7_87 (c_X4_start Z h q n an sp ri ti rd K P kd am st rg a b ) 2 rfl rfl dX7_apply_49 rfl (by decide) (Nat.le_of_ble_eq_true rfl) [2, 3, 4, 5, 6, 7, 8] [0, 1] rfl rfl rfl rfl (by decide) rfl (fun rv wv hp => ?_)
    obtain ⟨Kz2, Pz3, rfl, rfl, f4⟩ := hp
    show J 52 [(0, .ref ht), (1, .ref h)] [] [(ht, .inr (5, [.int (nI L), .ref bt, .int (nI tk), .int (nI fi), .int (nI be), .int nb, .int (nI 1), .ref tt])), (tt, ia Z 3 Td), cO h q a 0 b 8 0 0, (q 0, ia Z 12 (ni Kz2)), (q 1, ia Z 12 (ni Pz3)), (q 2, ia Z 6 (ni kd)), (q 3, ia Z 6 (ni am)), (q 4, ia Z 6 (ni st)), (q 5, ia Z 6 (ni rg))] 0 0
    refine j_goto hJ (q := 151) dX7_apply_52 (by decide) ?_
    exact hE.2.2 _ _ _ _ _ rfl dX7_apply_151 (Nat.le_refl _) (Nat.le_refl _) (⟨Kz2, Pz3, rfl, rfl, by assumption⟩)

set_option maxHeartbeats 4000000 in
set_option maxRecDepth 100000 in
theorem c_X7_apply2 (Z : jZ) (ht : Nat) (tt : Nat) (L : Nat) (tk : Nat) (fi : Nat) (be : Nat) (nb : Int32) (bt : Nat) (Td : Nat → Int32) (h : Nat) (q : Nat → Nat) (A : Nat → Nat) (K : Nat → Nat) (P : Nat → Nat) (kd : Nat → Nat) (am : Nat → Nat) (st : Nat → Nat) (rg : Nat → Nat) (a : Nat) (b : Nat) (c : Nat) (hw : wf A) (hR : rR A K P kd am st rg) (h1 : a < 12) (hT0 : Td 0 = nI a) (hT1 : Td 1 = nI b) (hT2 : Td 2 = nI c) : CT Z yX7_apply cX7_apply 3 (none) 3 0 0 [.ref ht, .ref h] [(ht, .inr (5, [.int (nI L), .ref bt, .int (nI tk), .int (nI fi), .int (nI be), .int nb, .int (nI 2), .ref tt])), (tt, ia Z 3 Td), cO h q (A 21) (A 5) (A 6) (A 7) (A 8) (A 0), (q 0, ia Z 12 (ni K)), (q 1, ia Z 12 (ni P)), (q 2, ia Z 6 (ni kd)), (q 3, ia Z 6 (ni am)), (q 4, ia Z 6 (ni st)), (q 5, ia Z 6 (ni rg))] (fun rr ww => ∃ Kz : Nat → Nat, ∃ Pz : Nat → Nat, rr = none ∧ ww = [(ht, .inr (5, [.int (nI L), .ref bt, .int (nI tk), .int (nI fi), .int (nI be), .int nb, .int (nI 2), .ref tt])), (tt, ia Z 3 Td), cO h q ((va_up (va_up A (34 + a) b) (46 + a) c) 21) ((va_up (va_up A (34 + a) b) (46 + a) c) 5) ((va_up (va_up A (34 + a) b) (46 + a) c) 6) ((va_up (va_up A (34 + a) b) (46 + a) c) 7) ((va_up (va_up A (34 + a) b) (46 + a) c) 8) ((va_up (va_up A (34 + a) b) (46 + a) c) 0), (q 0, ia Z 12 (ni Kz)), (q 1, ia Z 12 (ni Pz)), (q 2, ia Z 6 (ni kd)), (q 3, ia Z 6 (ni am)), (q 4, ia Z 6 (ni st)), (q 5, ia Z 6 (ni rg))] ∧ (rR (va_up (va_up A (34 + a) b) (46 + a) c) Kz Pz kd am st rg)) := by
  refine CT.of RX7 false rfl (fun h => by cases h) (by decide +kernel) (Nat.le_of_ble_eq_true rfl) ?_
  intro J hJ hE
  show J 0 [(0, .ref ht), (1, .ref h)] [] [(ht, .inr (5, [.int (nI L), .ref bt, .int (nI tk), .int (nI fi), .int (nI be), .int nb, .int (nI 2), .ref tt])), (tt, ia Z 3 Td), cO h q (A 21) (A 5) (A 6) (A 7) (A 8) (A 0), (q 0, ia Z 12 (ni K)), (q 1, ia Z 12 (ni P)), (q 2, ia Z 6 (ni kd)), (q 3, ia Z 6 (ni am)), (q 4, ia Z 6 (ni st)), (q 5, ia Z 6 (ni rg))] 0 0
  obtain ⟨⟨w1, w2, w3, w4, w5, w6⟩, hb, wr, wh, wd⟩ := id hw
  refine j_aload_n hJ (q := 1) dX7_apply_0 rfl 0 rfl rfl ?_
  refine j_get hJ (q := 4) jf_X7_39 dX7_apply_1 0 rfl rfl rfl ?_
  have c1 : 2 = 2 := by omega
  rcases c1 with c1
  · skip
    refine jn_tableIn hJ (q := 55) (off := 51) (k := 2) c1 dX7_apply_4 (by decide) (by decide) (by decide) (by decide) ?_
    refine j_aload_n hJ (q := 56) dX7_apply_55 rfl 1 rfl rfl ?_
    refine j_aload_n hJ (q := 57) dX7_apply_56 rfl 0 rfl rfl ?_
    refine j_get hJ (q := 60) jf_X7_15 dX7_apply_57 0 rfl rfl rfl ?_
    refine j_iconst hJ (q := 61) dX7_apply_60 rfl ki_0 ?_
    refine j_ialdN hJ (q := 62) dX7_apply_61 1 rfl (by decide) (by decide) rfl rfl ?_
    refine j_top hT0 ?_
    refine j_aload_n hJ (q := 63) dX7_apply_62 rfl 0 rfl rfl ?_
    refine j_get hJ (q := 66) jf_X7_15 dX7_apply_63 0 rfl rfl rfl ?_
    refine j_iconst hJ (q := 67) dX7_apply_66 rfl ki_1 ?_
    refine j_ialdN hJ (q := 68) dX7_apply_67 1 rfl (by decide) (by decide) rfl rfl ?_
    refine j_top hT1 ?_
    refine j_aload_n hJ (q := 69) dX7_apply_68 rfl 0 rfl rfl ?_
    refine j_get hJ (q := 72) jf_X7_15 dX7_apply_69 0 rfl rfl rfl ?_
    refine j_iconst hJ (q := 73) dX7_apply_72 rfl ki_2 ?_
    refine j_ialdN hJ (q := 74) dX7_apply_73 1 rfl (by decide) (by decide) rfl rfl ?_
    refine j_top hT2 ?_
    refine j_vW hJ (q := 77) (rest := []) (As := [.int (nI a), .int (nI b), .int (nI c)]) (wr := [(ht, .inr (5, [.int (nI L), .ref bt, .int (nI tk), .int (nI fi), .int (nI be), .int nb, .int (nI 2), .ref tt])), (tt, ia Z 3 Td)]) jl_X7_91 (c_X4_putHorse Z h q A K P kd am st rg a b c (by omega)) 2 rfl rfl dX7_apply_74 rfl (by decide) (Nat.le_of_ble_eq_true rfl) [2, 3, 4, 5, 6, 7, 8] [0, 1] rfl rfl rfl rfl (by decide) rfl (fun rv wv hp => ?_)
    obtain ⟨rfl, rfl⟩ := hp
    show J 77 [(0, .ref ht), (1, .ref h)] [] [(ht, .inr (5, [.int (nI L), .ref bt, .int (nI tk), .int (nI fi), .int (nI be), .int nb, .int (nI 2), .ref tt])), (tt, ia Z 3 Td), cO h q (A 21) (A 5) (A 6) (A 7) (A 8) (A 0), (q 0, ia Z 12 (ni (va_up K a b))), (q 1, ia Z 12 (ni (va_up P a c))), (q 2, ia Z 6 (ni kd)), (q 3, ia Z 6 (ni am)), (q 4, ia Z 6 (ni st)), (q 5, ia Z 6 (ni rg))] 0 0
    refine j_goto hJ (q := 151) dX7_apply_77 (by decide) ?_
    have es : ∀ j, j < 34 → (va_up (va_up A (34 + a) b) (46 + a) c) j = A j := fun j hj => by simp only [va_up]; rw [if_neg (by omega), if_neg (by omega)]
    exact hE.2.2 _ _ _ _ _ rfl dX7_apply_151 (Nat.le_refl _) (Nat.le_refl _) (⟨(va_up K a b), (va_up P a c), rfl, by rw [es 21 (by decide), es 5 (by decide), es 6 (by decide), es 7 (by decide), es 8 (by decide), es 0 (by decide)], rR_horse hR h1 w2 w6⟩)

set_option maxHeartbeats 4000000 in
set_option maxRecDepth 100000 in
theorem c_X7_apply3 (Z : jZ) (ht : Nat) (tt : Nat) (L : Nat) (tk : Nat) (fi : Nat) (be : Nat) (nb : Int32) (bt : Nat) (Td : Nat → Int32) (h : Nat) (q : Nat → Nat) (A : Nat → Nat) (K : Nat → Nat) (P : Nat → Nat) (kd : Nat → Nat) (am : Nat → Nat) (st : Nat → Nat) (rg : Nat → Nat) (a : Nat) (b : Nat) (c : Nat) (hw : wf A) (hR : rR A K P kd am st rg) (h0 : A 0 < 6) (hT0 : Td 0 = nI a) (hT1 : Td 1 = nI b) (hT2 : Td 2 = nI c) : CT Z yX7_apply cX7_apply 3 (none) 3 0 0 [.ref ht, .ref h] [(ht, .inr (5, [.int (nI L), .ref bt, .int (nI tk), .int (nI fi), .int (nI be), .int nb, .int (nI 3), .ref tt])), (tt, ia Z 3 Td), cO h q (A 21) (A 5) (A 6) (A 7) (A 8) (A 0), (q 0, ia Z 12 (ni K)), (q 1, ia Z 12 (ni P)), (q 2, ia Z 6 (ni kd)), (q 3, ia Z 6 (ni am)), (q 4, ia Z 6 (ni st)), (q 5, ia Z 6 (ni rg))] (fun rr ww => ∃ k2 : Nat → Nat, ∃ a2 : Nat → Nat, ∃ s2 : Nat → Nat, ∃ g2 : Nat → Nat, rr = none ∧ ww = [(ht, .inr (5, [.int (nI L), .ref bt, .int (nI tk), .int (nI fi), .int (nI be), .int nb, .int (nI 3), .ref tt])), (tt, ia Z 3 Td), cO h q ((layR A a b c) 21) ((layR A a b c) 5) ((layR A a b c) 6) ((layR A a b c) 7) ((layR A a b c) 8) ((layR A a b c) 0), (q 0, ia Z 12 (ni K)), (q 1, ia Z 12 (ni P)), (q 2, ia Z 6 (ni k2)), (q 3, ia Z 6 (ni a2)), (q 4, ia Z 6 (ni s2)), (q 5, ia Z 6 (ni g2))] ∧ (rR (layR A a b c) K P k2 a2 s2 g2)) := by
  refine CT.of RX7 false rfl (fun h => by cases h) (by decide +kernel) (Nat.le_of_ble_eq_true rfl) ?_
  intro J hJ hE
  show J 0 [(0, .ref ht), (1, .ref h)] [] [(ht, .inr (5, [.int (nI L), .ref bt, .int (nI tk), .int (nI fi), .int (nI be), .int nb, .int (nI 3), .ref tt])), (tt, ia Z 3 Td), cO h q (A 21) (A 5) (A 6) (A 7) (A 8) (A 0), (q 0, ia Z 12 (ni K)), (q 1, ia Z 12 (ni P)), (q 2, ia Z 6 (ni kd)), (q 3, ia Z 6 (ni am)), (q 4, ia Z 6 (ni st)), (q 5, ia Z 6 (ni rg))] 0 0
  obtain ⟨⟨w1, w2, w3, w4, w5, w6⟩, hb, wr, wh, wd⟩ := id hw
  refine j_aload_n hJ (q := 1) dX7_apply_0 rfl 0 rfl rfl ?_
  refine j_get hJ (q := 4) jf_X7_39 dX7_apply_1 0 rfl rfl rfl ?_
  have c1 : 3 = 3 := by omega
  rcases c1 with c1
  · skip
    refine jn_tableIn hJ (q := 80) (off := 76) (k := 3) c1 dX7_apply_4 (by decide) (by decide) (by decide) (by decide) ?_
    refine j_aload_n hJ (q := 81) dX7_apply_80 rfl 1 rfl rfl ?_
    refine j_aload_n hJ (q := 82) dX7_apply_81 rfl 0 rfl rfl ?_
    refine j_get hJ (q := 85) jf_X7_15 dX7_apply_82 0 rfl rfl rfl ?_
    refine j_iconst hJ (q := 86) dX7_apply_85 rfl ki_0 ?_
    refine j_ialdN hJ (q := 87) dX7_apply_86 1 rfl (by decide) (by decide) rfl rfl ?_
    refine j_top hT0 ?_
    refine j_aload_n hJ (q := 88) dX7_apply_87 rfl 0 rfl rfl ?_
    refine j_get hJ (q := 91) jf_X7_15 dX7_apply_88 0 rfl rfl rfl ?_
    refine j_iconst hJ (q := 92) dX7_apply_91 rfl ki_1 ?_
    refine j_ialdN hJ (q := 93) dX7_apply_92 1 rfl (by decide) (by decide) rfl rfl ?_
    refine j_top hT1 ?_
    refine j_aload_n hJ (q := 94) dX7_apply_93 rfl 0 rfl rfl ?_
    refine j_get hJ (q := 97) jf_X7_15 dX7_apply_94 0 rfl rfl rfl ?_
    refine j_iconst hJ (q := 98) dX7_apply_97 rfl ki_2 ?_
    refine j_ialdN hJ (q := 99) dX7_apply_98 1 rfl (by decide) (by decide) rfl rfl ?_
    refine j_top hT2 ?_
    refine j_vW hJ (q := 102) (rest := []) (As := [.int (nI a), .int (nI b), .int (nI c)]) (wr := [(ht, .inr (5, [.int (nI L), .ref bt, .int (nI tk), .int (nI fi), .int (nI be), .int nb, .int (nI 3), .ref tt])), (tt, ia Z 3 Td)]) jl_X7_95 (c_X4_putRider Z h q A K P kd am st rg a b c (by omega)) 2 rfl rfl dX7_apply_99 rfl (by decide) (Nat.le_of_ble_eq_true rfl) [2, 3, 4, 5, 6, 7, 8] [0, 1] rfl rfl rfl rfl (by decide) rfl (fun rv wv hp => ?_)
    obtain ⟨rfl, rfl⟩ := hp
    show J 102 [(0, .ref ht), (1, .ref h)] [] [(ht, .inr (5, [.int (nI L), .ref bt, .int (nI tk), .int (nI fi), .int (nI be), .int nb, .int (nI 3), .ref tt])), (tt, ia Z 3 Td), cO h q (A 21) (A 5) (A 6) (A 7) (A 8) (A 0 + 1), (q 0, ia Z 12 (ni K)), (q 1, ia Z 12 (ni P)), (q 2, ia Z 6 (ni (va_up kd (A 0) a))), (q 3, ia Z 6 (ni (va_up am (A 0) b))), (q 4, ia Z 6 (ni (va_up st (A 0) c))), (q 5, ia Z 6 (ni (va_up rg (A 0) 0)))] 0 0
    refine j_goto hJ (q := 151) dX7_apply_102 (by decide) ?_
    obtain ⟨e0, -, -, -, -, es⟩ := layR_at (A := A) (k := a) (a := b) (s := c) h0
    exact hE.2.2 _ _ _ _ _ rfl dX7_apply_151 (Nat.le_refl _) (Nat.le_refl _) (⟨(va_up kd (A 0) a), (va_up am (A 0) b), (va_up st (A 0) c), (va_up rg (A 0) 0), rfl, by rw [e0, es 21 (by decide) (by omega) (by omega) (by omega) (by omega), es 5 (by decide) (by omega) (by omega) (by omega) (by omega), es 6 (by decide) (by omega) (by omega) (by omega) (by omega), es 7 (by decide) (by omega) (by omega) (by omega) (by omega), es 8 (by decide) (by omega) (by omega) (by omega) (by omega)], rR_rider hR h0 w2⟩)

set_option maxHeartbeats 4000000 in
set_option maxRecDepth 100000 in
theorem c_X7_apply4 (Z : jZ) (ht : Nat) (tt : Nat) (L : Nat) (tk : Nat) (fi : Nat) (be : Nat) (nb : Int32) (bt : Nat) (Td : Nat → Int32) (h : Nat) (q : Nat → Nat) (A : Nat → Nat) (K : Nat → Nat) (P : Nat → Nat) (kd : Nat → Nat) (am : Nat → Nat) (st : Nat → Nat) (rg : Nat → Nat) (a : Nat) (hw : wf A) (hR : rR A K P kd am st rg) (hT0 : Td 0 = nI a) : CT Z yX7_apply cX7_apply 3 (none) 3 0 0 [.ref ht, .ref h] [(ht, .inr (5, [.int (nI L), .ref bt, .int (nI tk), .int (nI fi), .int (nI be), .int nb, .int (nI 4), .ref tt])), (tt, ia Z 3 Td), cO h q (A 21) (A 5) (A 6) (A 7) (A 8) (A 0), (q 0, ia Z 12 (ni K)), (q 1, ia Z 12 (ni P)), (q 2, ia Z 6 (ni kd)), (q 3, ia Z 6 (ni am)), (q 4, ia Z 6 (ni st)), (q 5, ia Z 6 (ni rg))] (fun rr ww => rr = none ∧ ww = [(ht, .inr (5, [.int (nI L), .ref bt, .int (nI tk), .int (nI fi), .int (nI be), .int nb, .int (nI 4), .ref tt])), (tt, ia Z 3 Td), cO h q ((va_up A 7 a) 21) ((va_up A 7 a) 5) ((va_up A 7 a) 6) ((va_up A 7 a) 7) ((va_up A 7 a) 8) ((va_up A 7 a) 0), (q 0, ia Z 12 (ni K)), (q 1, ia Z 12 (ni P)), (q 2, ia Z 6 (ni kd)), (q 3, ia Z 6 (ni am)), (q 4, ia Z 6 (ni st)), (q 5, ia Z 6 (ni rg))] ∧ (rR (va_up A 7 a) K P kd am st rg)) := by
  refine CT.of RX7 false rfl (fun h => by cases h) (by decide +kernel) (Nat.le_of_ble_eq_true rfl) ?_
  intro J hJ hE
  show J 0 [(0, .ref ht), (1, .ref h)] [] [(ht, .inr (5, [.int (nI L), .ref bt, .int (nI tk), .int (nI fi), .int (nI be), .int nb, .int (nI 4), .ref tt])), (tt, ia Z 3 Td), cO h q (A 21) (A 5) (A 6) (A 7) (A 8) (A 0), (q 0, ia Z 12 (ni K)), (q 1, ia Z 12 (ni P)), (q 2, ia Z 6 (ni kd)), (q 3, ia Z 6 (ni am)), (q 4, ia Z 6 (ni st)), (q 5, ia Z 6 (ni rg))] 0 0
  obtain ⟨⟨w1, w2, w3, w4, w5, w6⟩, hb, wr, wh, wd⟩ := id hw
  refine j_aload_n hJ (q := 1) dX7_apply_0 rfl 0 rfl rfl ?_
  refine j_get hJ (q := 4) jf_X7_39 dX7_apply_1 0 rfl rfl rfl ?_
  have c1 : 4 = 4 := by omega
  rcases c1 with c1
  · skip
    refine jn_tableIn hJ (q := 105) (off := 101) (k := 4) c1 dX7_apply_4 (by decide) (by decide) (by decide) (by decide) ?_
    refine j_aload_n hJ (q := 106) dX7_apply_105 rfl 1 rfl rfl ?_
    refine j_aload_n hJ (q := 107) dX7_apply_106 rfl 0 rfl rfl ?_
    refine j_get hJ (q := 110) jf_X7_15 dX7_apply_107 0 rfl rfl rfl ?_
    refine j_iconst hJ (q := 111) dX7_apply_110 rfl ki_0 ?_
    refine j_ialdN hJ (q := 112) dX7_apply_111 1 rfl (by decide) (by decide) rfl rfl ?_
    refine j_top hT0 ?_
    refine j_put hJ (q := 115) (ws' := [(ht, .inr (5, [.int (nI L), .ref bt, .int (nI tk), .int (nI fi), .int (nI be), .int nb, .int (nI 4), .ref tt])), (tt, ia Z 3 Td), cO h q (A 21) (A 5) (A 6) a (A 8) (A 0), (q 0, ia Z 12 (ni K)), (q 1, ia Z 12 (ni P)), (q 2, ia Z 6 (ni kd)), (q 3, ia Z 6 (ni am)), (q 4, ia Z 6 (ni st)), (q 5, ia Z 6 (ni rg))]) jp_X7_98 dX7_apply_112 2 rfl rfl rfl (Nat.le_of_ble_eq_true rfl) rfl rfl ?_
    refine j_goto hJ (q := 151) dX7_apply_115 (by decide) ?_
    exact hE.2.2 _ _ _ _ _ rfl dX7_apply_151 (Nat.le_refl _) (Nat.le_refl _) (⟨rfl, rfl, rR_ring hR w6 w2⟩)

set_option maxHeartbeats 4000000 in
set_option maxRecDepth 100000 in
theorem c_X7_apply5 (Z : jZ) (ht : Nat) (tt : Nat) (L : Nat) (tk : Nat) (fi : Nat) (be : Nat) (nb : Int32) (bt : Nat) (Td : Nat → Int32) (h : Nat) (q : Nat → Nat) (A : Nat → Nat) (K : Nat → Nat) (P : Nat → Nat) (kd : Nat → Nat) (am : Nat → Nat) (st : Nat → Nat) (rg : Nat → Nat) (a : Nat) (hw : wf A) (hR : rR A K P kd am st rg) (ha : a < 1000) (hT0 : Td 0 = nI a) : CT Z yX7_apply cX7_apply 3 (none) 5 0 0 [.ref ht, .ref h] [(ht, .inr (5, [.int (nI L), .ref bt, .int (nI tk), .int (nI fi), .int (nI be), .int nb, .int (nI 5), .ref tt])), (tt, ia Z 3 Td), cO h q (A 21) (A 5) (A 6) (A 7) (A 8) (A 0), (q 0, ia Z 12 (ni K)), (q 1, ia Z 12 (ni P)), (q 2, ia Z 6 (ni kd)), (q 3, ia Z 6 (ni am)), (q 4, ia Z 6 (ni st)), (q 5, ia Z 6 (ni rg))] (fun rr ww => ∃ rz : Nat → Nat, rr = none ∧ ww = [(ht, .inr (5, [.int (nI L), .ref bt, .int (nI tk), .int (nI fi), .int (nI be), .int nb, .int (nI 5), .ref tt])), (tt, ia Z 3 Td), cO h q ((goN a A) 21) ((goN a A) 5) ((goN a A) 6) ((goN a A) 7) ((goN a A) 8) ((goN a A) 0), (q 0, ia Z 12 (ni K)), (q 1, ia Z 12 (ni P)), (q 2, ia Z 6 (ni kd)), (q 3, ia Z 6 (ni am)), (q 4, ia Z 6 (ni st)), (q 5, ia Z 6 (ni rz))] ∧ (rR (goN a A) K P kd am st rz)) := by
  refine CT.of RX7 false rfl (fun h => by cases h) (by decide +kernel) (Nat.le_of_ble_eq_true rfl) ?_
  intro J hJ hE
  show J 0 [(0, .ref ht), (1, .ref h)] [] [(ht, .inr (5, [.int (nI L), .ref bt, .int (nI tk), .int (nI fi), .int (nI be), .int nb, .int (nI 5), .ref tt])), (tt, ia Z 3 Td), cO h q (A 21) (A 5) (A 6) (A 7) (A 8) (A 0), (q 0, ia Z 12 (ni K)), (q 1, ia Z 12 (ni P)), (q 2, ia Z 6 (ni kd)), (q 3, ia Z 6 (ni am)), (q 4, ia Z 6 (ni st)), (q 5, ia Z 6 (ni rg))] 0 0
  refine j_aload_n hJ (q := 1) dX7_apply_0 rfl 0 rfl rfl ?_
  refine j_get hJ (q := 4) jf_X7_39 dX7_apply_1 0 rfl rfl rfl ?_
  have c1 : 5 = 5 := by omega
  rcases c1 with c1
  · skip
    refine jn_tableOut hJ (q := 118) (k := 5) c1 dX7_apply_4 (by decide) (by decide) ?_
    refine j_iconst hJ (q := 119) dX7_apply_118 rfl ki_0 ?_
    refine j_istore_n hJ (q := 120) (lvs' := [(2, .int (nI 0)), (0, .ref ht), (1, .ref h)]) dX7_apply_119 rfl (by decide) rfl rfl ?_
    have L_120 : ∀ (fu_120 : Nat) (B : Nat → Nat) (rb : Nat → Nat) (k : Nat), a - k < fu_120 → (k ≤ a) → (wf B) → (rR B K P kd am st rb) → (goN (a - k) B = goN a A) → J 120 [(0, .ref ht), (1, .ref h), (2, .int (nI k))] [] [(ht, .inr (5, [.int (nI L), .ref bt, .int (nI tk), .int (nI fi), .int (nI be), .int nb, .int (nI 5), .ref tt])), (tt, ia Z 3 Td), cO h q (B 21) (B 5) (B 6) (B 7) (B 8) (B 0), (q 0, ia Z 12 (ni K)), (q 1, ia Z 12 (ni P)), (q 2, ia Z 6 (ni kd)), (q 3, ia Z 6 (ni am)), (q 4, ia Z 6 (ni st)), (q 5, ia Z 6 (ni rb))] 0 0 := by
      intro fu_120
      induction fu_120 with
      | zero => intro B rb k hm; exact absurd hm (Nat.not_lt_zero _)
      | succ fu_120 ih_120 =>
        intro B rb k hm_120 hk hwB hRB hg
        obtain ⟨⟨b1, b2, b3, b4, b5, b6⟩, hbb, -⟩ := id hwB
        have hb8 := hbb 8
        refine j_iload_n hJ (q := 121) dX7_apply_120 rfl 2 rfl rfl ?_
        refine j_aload_n hJ (q := 122) dX7_apply_121 rfl 0 rfl rfl ?_
        refine j_get hJ (q := 125) jf_X7_15 dX7_apply_122 0 rfl rfl rfl ?_
        refine j_iconst hJ (q := 126) dX7_apply_125 rfl ki_0 ?_
        refine j_ialdN hJ (q := 127) dX7_apply_126 1 rfl (by decide) (by decide) rfl rfl ?_
        refine j_top hT0 ?_
        refine jn_icmp_ge hJ (q := 130) (tgt := 151) dX7_apply_127 (by decide) rfl (by omega) (by omega) (fun c2 => ?_) (fun c2 => ?_)
        · skip
          have hz : B = goN a A := hg ▸ (by first | (rw [show a - k = 0 by omega]; rfl) | (rw [goN_out (by omega)]))
          exact hE.2.2 _ _ _ _ _ rfl dX7_apply_151 (Nat.le_refl _) (Nat.le_refl _) (⟨rb, rfl, by rw [← hz], hz ▸ hRB⟩)
        · skip
          refine j_aload_n hJ (q := 131) dX7_apply_130 rfl 1 rfl rfl ?_
          refine j_get hJ (q := 134) jf_X7_100 dX7_apply_131 2 rfl rfl rfl ?_
          refine j_sipush hJ (q := 137) dX7_apply_134 rfl ks_9999 ?_
          refine jn_icmp_ge hJ (q := 140) (tgt := 151) dX7_apply_137 (by decide) rfl (by omega) (by omega) (fun c3 => ?_) (fun c3 => ?_)
          · skip
            have hz : B = goN a A := hg ▸ (by first | (rw [show a - k = 0 by omega]; rfl) | (rw [goN_out (by omega)]))
            exact hE.2.2 _ _ _ _ _ rfl dX7_apply_151 (Nat.le_refl _) (Nat.le_refl _) (⟨rb, rfl, by rw [← hz], hz ▸ hRB⟩)
          · skip
            refine j_aload_n hJ (q := 141) dX7_apply_140 rfl 1 rfl rfl ?_
            refine j_vW hJ (q := 144) (rest := []) (As := []) (wr := [(ht, .inr (5, [.int (nI L), .ref bt, .int (nI tk), .int (nI fi), .int (nI be), .int nb, .int (nI 5), .ref tt])), (tt, ia Z 3 Td)]) jl_X7_103 (c_X4_step Z h q B K P kd am st rb hwB hRB (by omega)) 2 rfl rfl dX7_apply_141 rfl (by decide) (Nat.le_of_ble_eq_true rfl) [2, 3, 4, 5, 6, 7, 8] [0, 1] rfl rfl rfl rfl (by decide) rfl (fun rv wv hp => ?_)
            obtain ⟨rz4, rfl, rfl, f5⟩ := hp
            show J 144 [(0, .ref ht), (1, .ref h), (2, .int (nI k))] [.int (oI ((goT B false).1))] [(ht, .inr (5, [.int (nI L), .ref bt, .int (nI tk), .int (nI fi), .int (nI be), .int nb, .int (nI 5), .ref tt])), (tt, ia Z 3 Td), cO h q ((goT B false).2 21) ((goT B false).2 5) ((goT B false).2 6) ((goT B false).2 7) ((goT B false).2 8) ((goT B false).2 0), (q 0, ia Z 12 (ni K)), (q 1, ia Z 12 (ni P)), (q 2, ia Z 6 (ni kd)), (q 3, ia Z 6 (ni am)), (q 4, ia Z 6 (ni st)), (q 5, ia Z 6 (ni rz4))] 0 0
            refine j_pop hJ (q := 145) dX7_apply_144 rfl rfl ?_
            refine j_iinc hJ (q := 148) (lvs' := [(2, .int (nI (k + 1))), (0, .ref ht), (1, .ref h)]) dX7_apply_145 2 rfl (by rw [show Int32.ofInt 1 = nI 1 from by decide +kernel]; exact nI_add _ _) (by decide) rfl rfl ?_
            refine j_goto hJ (q := 120) dX7_apply_148 (by decide) ?_
            refine j_locals hJ [1, 2, 0] rfl ?_
            exact ih_120 ((goT B false).2) rz4 (k + 1) (by omega) (by omega) (wf_goT false hwB (by omega)) (by assumption) (goN_st hg (by omega) (by omega))
    refine j_locals hJ [1, 2, 0] rfl ?_
    exact L_120 ((a - 0) + 1) A rg 0 (Nat.lt_succ_self _) (by omega) hw hR rfl

set_option maxHeartbeats 4000000 in
set_option maxRecDepth 100000 in
theorem c_X7_tellRound (Z : jZ) (ht : Nat) (bt : Nat) (tt : Nat) (L : Nat) (By : Nat → Nat) (tk : Nat) (fi : Nat) (be : Nat) (nb : Int32) (im : Nat) (Td : Nat → Int32) (h : Nat) (q : Nat → Nat) (n : Nat) (an : Nat) (sp : Nat) (ri : Nat) (ti : Nat) (rd : Nat) (K : Nat → Nat) (P : Nat → Nat) (kd : Nat → Nat) (am : Nat → Nat) (st : Nat → Nat) (rg : Nat → Nat) (hL : L ≤ 150) (hby : ∀ j, By j < 128) : CT Z yX7_tellRound cX7_tellRound 3 ((some FieldType.int)) 7 0 0 [.ref ht, .ref h] [(ht, .inr (5, [.int (nI L), .ref bt, .int (nI tk), .int (nI fi), .int (nI be), .int nb, .int (nI im), .ref tt])), (bt, ba Z 150 (ni By)), (tt, ia Z 3 Td), cO h q n an sp ri ti rd, (q 0, ia Z 12 (ni K)), (q 1, ia Z 12 (ni P)), (q 2, ia Z 6 (ni kd)), (q 3, ia Z 6 (ni am)), (q 4, ia Z 6 (ni st)), (q 5, ia Z 6 (ni rg))] (fun rr ww => ∃ tkz : Nat, ∃ fiz : Nat, ∃ bez : Nat, ∃ nbz : Int32, ∃ imz : Nat, ∃ Tdz : Nat → Int32, ∃ nz : Nat, ∃ anz : Nat, ∃ spz : Nat, ∃ riz : Nat, ∃ tiz : Nat, ∃ rdz : Nat, ∃ Kz : Nat → Nat, ∃ Pz : Nat → Nat, ∃ kdz : Nat → Nat, ∃ amz : Nat → Nat, ∃ stz : Nat → Nat, ∃ rgz : Nat → Nat, rr = some (.int (zI (rdZ By L))) ∧ ww = [(ht, .inr (5, [.int (nI L), .ref bt, .int (nI tkz), .int (nI fiz), .int (nI bez), .int nbz, .int (nI imz), .ref tt])), (bt, ba Z 150 (ni By)), (tt, ia Z 3 Tdz), cO h q nz anz spz riz tiz rdz, (q 0, ia Z 12 (ni Kz)), (q 1, ia Z 12 (ni Pz)), (q 2, ia Z 6 (ni kdz)), (q 3, ia Z 6 (ni amz)), (q 4, ia Z 6 (ni stz)), (q 5, ia Z 6 (ni rgz))] ∧ ((rdR By L).1 = true → (nz = (rdR By L).2.2 21 ∧ anz = (rdR By L).2.2 5 ∧ spz = (rdR By L).2.2 6 ∧ riz = (rdR By L).2.2 7 ∧ tiz = (rdR By L).2.2 8 ∧ rdz = (rdR By L).2.2 0) ∧ wf (rdR By L).2.2 ∧ rR ((rdR By L).2.2) Kz Pz kdz amz stz rgz)) := by
  refine CT.of RX7 false rfl (fun h => by cases h) (by decide +kernel) (Nat.le_of_ble_eq_true rfl) ?_
  intro J hJ hE
  show J 0 [(0, .ref ht), (1, .ref h)] [] [(ht, .inr (5, [.int (nI L), .ref bt, .int (nI tk), .int (nI fi), .int (nI be), .int nb, .int (nI im), .ref tt])), (bt, ba Z 150 (ni By)), (tt, ia Z 3 Td), cO h q n an sp ri ti rd, (q 0, ia Z 12 (ni K)), (q 1, ia Z 12 (ni P)), (q 2, ia Z 6 (ni kd)), (q 3, ia Z 6 (ni am)), (q 4, ia Z 6 (ni st)), (q 5, ia Z 6 (ni rg))] 0 0
  refine j_aload_n hJ (q := 1) dX7_tellRound_0 rfl 0 rfl rfl ?_
  refine j_iconst hJ (q := 2) dX7_tellRound_1 rfl ki_0 ?_
  refine j_put hJ (q := 5) (ws' := [(ht, .inr (5, [.int (nI L), .ref bt, .int (nI tk), .int (nI fi), .int (nI 0), .int nb, .int (nI im), .ref tt])), (bt, ba Z 150 (ni By)), (tt, ia Z 3 Td), cO h q n an sp ri ti rd, (q 0, ia Z 12 (ni K)), (q 1, ia Z 12 (ni P)), (q 2, ia Z 6 (ni kd)), (q 3, ia Z 6 (ni am)), (q 4, ia Z 6 (ni st)), (q 5, ia Z 6 (ni rg))]) jp_X7_23 dX7_tellRound_2 0 rfl rfl rfl (Nat.le_of_ble_eq_true rfl) rfl rfl ?_
  refine j_aload_n hJ (q := 6) dX7_tellRound_5 rfl 0 rfl rfl ?_
  refine j_vW hJ (q := 9) (rest := []) (As := []) (wr := [(tt, ia Z 3 Td), cO h q n an sp ri ti rd, (q 0, ia Z 12 (ni K)), (q 1, ia Z 12 (ni P)), (q 2, ia Z 6 (ni kd)), (q 3, ia Z 6 (ni am)), (q 4, ia Z 6 (ni st)), (q 5, ia Z 6 (ni rg))]) jl_X7_26 (c_X7_next Z ht bt tt L By tk fi 0 nb im (by omega) hby (Nat.zero_le _)) 0 rfl rfl dX7_tellRound_6 rfl (by decide) (Nat.le_of_ble_eq_true rfl) [0, 1] [2, 3, 4, 5, 6, 7, 8, 9] rfl rfl rfl rfl (by decide) rfl (fun rv wv hp => ?_)
  obtain ⟨nz1, rfl, rfl, f2⟩ := hp
  refine j_world hJ (ws' := [(ht, .inr (5, [.int (nI L), .ref bt, .int (nI (tkK By L (sk By L 0))), .int (nI (sk By L 0)), .int (nI (sk By L 0 + tkL By L (sk By L 0))), .int nz1, .int (nI im), .ref tt])), (bt, ba Z 150 (ni By)), (tt, ia Z 3 Td), cO h q n an sp ri ti rd, (q 0, ia Z 12 (ni K)), (q 1, ia Z 12 (ni P)), (q 2, ia Z 6 (ni kd)), (q 3, ia Z 6 (ni am)), (q 4, ia Z 6 (ni st)), (q 5, ia Z 6 (ni rg))]) [8, 9, 0, 1, 2, 3, 4, 5, 6, 7] rfl rfl ?_
  show J 9 [(0, .ref ht), (1, .ref h)] [] [(ht, .inr (5, [.int (nI L), .ref bt, .int (nI (tkK By L (sk By L 0))), .int (nI (sk By L 0)), .int (nI (sk By L 0 + tkL By L (sk By L 0))), .int nz1, .int (nI im), .ref tt])), (bt, ba Z 150 (ni By)), (tt, ia Z 3 Td), cO h q n an sp ri ti rd, (q 0, ia Z 12 (ni K)), (q 1, ia Z 12 (ni P)), (q 2, ia Z 6 (ni kd)), (q 3, ia Z 6 (ni am)), (q 4, ia Z 6 (ni st)), (q 5, ia Z 6 (ni rg))] 0 0
  have hp0 := sk_in (By := By) (L := L) (f := 0) (Nat.zero_le _)
  have hk0 := tkK_le (By := By) (L := L) (p := sk By L 0)
  refine j_iconst hJ (q := 10) dX7_tellRound_9 rfl ki_0 ?_
  refine j_istore_n hJ (q := 11) (lvs' := [(2, .int (nI 0)), (0, .ref ht), (1, .ref h)]) dX7_tellRound_10 rfl (by decide) rfl rfl ?_
  refine j_iload_n hJ (q := 12) dX7_tellRound_11 rfl 0 rfl rfl ?_
  refine j_sipush hJ (q := 15) dX7_tellRound_12 rfl ks_150 ?_
  refine jn_icmp_gt hJ (q := 18) (tgt := 81) dX7_tellRound_15 (by decide) rfl (by omega) (by omega) (fun c3 => ?_) (fun c3 => ?_)
  · skip
    exfalso; omega
  · skip
    refine j_aload_n hJ (q := 19) dX7_tellRound_18 rfl 1 rfl rfl ?_
    refine j_get hJ (q := 22) jf_X7_29 dX7_tellRound_19 0 rfl rfl rfl ?_
    refine jn_if_ne hJ (q := 25) (tgt := 31) dX7_tellRound_22 (by decide) rfl (by omega) (fun c4 => ?_) (fun c4 => ?_)
    · skip
      refine j_aload_n hJ (q := 32) dX7_tellRound_31 rfl 1 rfl rfl ?_
      refine j_iload_n hJ (q := 33) dX7_tellRound_32 rfl 0 rfl rfl ?_
      refine jn_if_ne hJ (q := 36) (tgt := 43) dX7_tellRound_33 (by decide) rfl (by omega) (fun c5 => ?_) (fun c5 => ?_)
      · skip
        exfalso; omega
      · skip
        refine j_aload_n hJ (q := 37) dX7_tellRound_36 rfl 1 rfl rfl ?_
        refine j_vR hJ (q := 40) (rest := [.ref ht]) (As := []) jl_X7_32 (c_X7_firstItem Z ht bt tt L By (sk By L 0) nz1 im (by omega) hby hp0.2) 0 rfl rfl dX7_tellRound_37 rfl (by decide) (Nat.le_of_ble_eq_true rfl) [0, 1] rfl rfl (fun rv hp => ?_)
        rcases hp with ⟨a6, rfl⟩ | ⟨a7, rfl⟩
        · skip
          show J 40 [(2, .int (nI 0)), (0, .ref ht), (1, .ref h)] [.int (nI 1), .ref ht] [(ht, .inr (5, [.int (nI L), .ref bt, .int (nI (tkK By L (sk By L 0))), .int (nI (sk By L 0)), .int (nI (sk By L 0 + tkL By L (sk By L 0))), .int nz1, .int (nI im), .ref tt])), (bt, ba Z 150 (ni By)), (tt, ia Z 3 Td), cO h q n an sp ri ti rd, (q 0, ia Z 12 (ni K)), (q 1, ia Z 12 (ni P)), (q 2, ia Z 6 (ni kd)), (q 3, ia Z 6 (ni am)), (q 4, ia Z 6 (ni st)), (q 5, ia Z 6 (ni rg))] 0 0
          have hw0 := a6
          refine j_goto hJ (q := 47) dX7_tellRound_40 (by decide) ?_
          refine j_put hJ (q := 50) (ws' := [(ht, .inr (5, [.int (nI L), .ref bt, .int (nI (tkK By L (sk By L 0))), .int (nI (sk By L 0)), .int (nI (sk By L 0 + tkL By L (sk By L 0))), .int nz1, .int (nI 1), .ref tt])), (bt, ba Z 150 (ni By)), (tt, ia Z 3 Td), cO h q n an sp ri ti rd, (q 0, ia Z 12 (ni K)), (q 1, ia Z 12 (ni P)), (q 2, ia Z 6 (ni kd)), (q 3, ia Z 6 (ni am)), (q 4, ia Z 6 (ni st)), (q 5, ia Z 6 (ni rg))]) jp_X7_39 dX7_tellRound_47 0 rfl rfl rfl (Nat.le_of_ble_eq_true rfl) rfl rfl ?_
          refine j_aload_n hJ (q := 51) dX7_tellRound_50 rfl 1 rfl rfl ?_
          refine j_aload_n hJ (q := 52) dX7_tellRound_51 rfl 2 rfl rfl ?_
          refine j_vW hJ (q := 55) (rest := []) (As := [.ref h]) (wr := []) jl_X7_42 (c_X7_isItem1 Z ht bt tt L By (sk By L 0) nz1 Td h q n an sp ri ti rd K P kd am st rg (by omega) hby (by omega)) 0 rfl rfl dX7_tellRound_52 rfl (by decide) (Nat.le_of_ble_eq_true rfl) [0, 1, 2, 3, 4, 5, 6, 7, 8, 9] [] rfl rfl rfl rfl (by decide) rfl (fun rv wv hp => ?_)
          rcases hp with ⟨Tz8, nz9, a10, rfl, rfl, f11, f12⟩ | ⟨Tz13, nz14, a15, rfl, rfl⟩
          · skip
            show J 55 [(2, .int (nI 0)), (0, .ref ht), (1, .ref h)] [.int (nI 1)] [(ht, .inr (5, [.int (nI L), .ref bt, .int (nI (tkK By L (nx By L (nx By L (nx By L (sk By L 0)))))), .int (nI (nx By L (nx By L (nx By L (sk By L 0))))), .int (nI ((nx By L (nx By L (nx By L (sk By L 0)))) + tkL By L (nx By L (nx By L (nx By L (sk By L 0)))))), .int nz9, .int (nI 1), .ref tt])), (bt, ba Z 150 (ni By)), (tt, ia Z 3 Tz8), cO h q n an sp ri ti rd, (q 0, ia Z 12 (ni K)), (q 1, ia Z 12 (ni P)), (q 2, ia Z 6 (ni kd)), (q 3, ia Z 6 (ni am)), (q 4, ia Z 6 (ni st)), (q 5, ia Z 6 (ni rg))] 0 0
            have hc1 := a10
            have hT0 := f11
            have hT1 := f12
            have hn1 := nx_in (By := By) (L := L) (p := sk By L 0) hp0.2
            have hn2 := nx_in (By := By) (L := L) (p := nx By L (sk By L 0)) hn1.2
            have hn3 := nx_in (By := By) (L := L) (p := nx By L (nx By L (sk By L 0))) hn2.2
            have hn4 := nx_in (By := By) (L := L) (p := nx By L (nx By L (nx By L (sk By L 0)))) hn3.2
            have hg1 := nx_gt (By := By) (L := L) (p := nx By L (sk By L 0)) hn1.2 (by rw [hc1.1.1]; decide)
            refine jn_if_ne hJ (q := 58) (tgt := 66) dX7_tellRound_55 (by decide) rfl (by omega) (fun c16 => ?_) (fun c16 => ?_)
            · skip
              refine j_aload_n hJ (q := 67) dX7_tellRound_66 rfl 1 rfl rfl ?_
              refine j_aload_n hJ (q := 68) dX7_tellRound_67 rfl 2 rfl rfl ?_
              refine j_vW hJ (q := 71) (rest := []) (As := [.ref h]) (wr := [(bt, ba Z 150 (ni By))]) jl_X7_49 (c_X7_apply1 Z ht tt L (tkK By L (nx By L (nx By L (nx By L (sk By L 0))))) (nx By L (nx By L (nx By L (sk By L 0)))) ((nx By L (nx By L (nx By L (sk By L 0)))) + tkL By L (nx By L (nx By L (nx By L (sk By L 0))))) nz9 bt Tz8 h q n an sp ri ti rd K P kd am st rg (tkV By L (nx By L (sk By L 0))) (tkV By L (nx By L (nx By L (sk By L 0)))) hT0 hT1) 0 rfl rfl dX7_tellRound_68 rfl (by decide) (Nat.le_of_ble_eq_true rfl) [0, 2, 3, 4, 5, 6, 7, 8, 9] [1] rfl rfl rfl rfl (by decide) rfl (fun rv wv hp => ?_)
              obtain ⟨Kz17, Pz18, rfl, rfl, f19⟩ := hp
              refine j_world hJ (ws' := [(ht, .inr (5, [.int (nI L), .ref bt, .int (nI (tkK By L (nx By L (nx By L (nx By L (sk By L 0)))))), .int (nI (nx By L (nx By L (nx By L (sk By L 0))))), .int (nI ((nx By L (nx By L (nx By L (sk By L 0)))) + tkL By L (nx By L (nx By L (nx By L (sk By L 0)))))), .int nz9, .int (nI 1), .ref tt])), (bt, ba Z 150 (ni By)), (tt, ia Z 3 Tz8), cO h q (tkV By L (nx By L (sk By L 0))) 0 (tkV By L (nx By L (nx By L (sk By L 0)))) 8 0 0, (q 0, ia Z 12 (ni Kz17)), (q 1, ia Z 12 (ni Pz18)), (q 2, ia Z 6 (ni kd)), (q 3, ia Z 6 (ni am)), (q 4, ia Z 6 (ni st)), (q 5, ia Z 6 (ni rg))]) [1, 0, 2, 3, 4, 5, 6, 7, 8, 9] rfl rfl ?_
              show J 71 [(2, .int (nI 0)), (0, .ref ht), (1, .ref h)] [] [(ht, .inr (5, [.int (nI L), .ref bt, .int (nI (tkK By L (nx By L (nx By L (nx By L (sk By L 0)))))), .int (nI (nx By L (nx By L (nx By L (sk By L 0))))), .int (nI ((nx By L (nx By L (nx By L (sk By L 0)))) + tkL By L (nx By L (nx By L (nx By L (sk By L 0)))))), .int nz9, .int (nI 1), .ref tt])), (bt, ba Z 150 (ni By)), (tt, ia Z 3 Tz8), cO h q (tkV By L (nx By L (sk By L 0))) 0 (tkV By L (nx By L (nx By L (sk By L 0)))) 8 0 0, (q 0, ia Z 12 (ni Kz17)), (q 1, ia Z 12 (ni Pz18)), (q 2, ia Z 6 (ni kd)), (q 3, ia Z 6 (ni am)), (q 4, ia Z 6 (ni st)), (q 5, ia Z 6 (ni rg))] 0 0
              have hz0 := f19
              have hR1 := rR_beg (A := fun _ => 0) (n := tkV By L (nx By L (sk By L 0))) (v := tkV By L (nx By L (nx By L (sk By L 0)))) (kd := kd) (am := am) (st := st) (rg := rg) hc1.1.2.2 hz0
              refine j_aload_n hJ (q := 72) dX7_tellRound_71 rfl 1 rfl rfl ?_
              refine j_vW hJ (q := 75) (rest := []) (As := []) (wr := [(tt, ia Z 3 Tz8), cO h q (tkV By L (nx By L (sk By L 0))) 0 (tkV By L (nx By L (nx By L (sk By L 0)))) 8 0 0, (q 0, ia Z 12 (ni Kz17)), (q 1, ia Z 12 (ni Pz18)), (q 2, ia Z 6 (ni kd)), (q 3, ia Z 6 (ni am)), (q 4, ia Z 6 (ni st)), (q 5, ia Z 6 (ni rg))]) jl_X7_26 (c_X7_nextN Z ht bt tt L By (nx By L (nx By L (nx By L (sk By L 0)))) nz9 1 (by omega) hby (by omega)) 0 rfl rfl dX7_tellRound_72 rfl (by decide) (Nat.le_of_ble_eq_true rfl) [0, 1] [2, 3, 4, 5, 6, 7, 8, 9] rfl rfl rfl rfl (by decide) rfl (fun rv wv hp => ?_)
              obtain ⟨nz20, rfl, rfl, f21⟩ := hp
              refine j_world hJ (ws' := [(ht, .inr (5, [.int (nI L), .ref bt, .int (nI (tkK By L (nx By L (nx By L (nx By L (nx By L (sk By L 0))))))), .int (nI (nx By L (nx By L (nx By L (nx By L (sk By L 0)))))), .int (nI ((nx By L (nx By L (nx By L (nx By L (sk By L 0))))) + tkL By L (nx By L (nx By L (nx By L (nx By L (sk By L 0))))))), .int nz20, .int (nI 1), .ref tt])), (bt, ba Z 150 (ni By)), (tt, ia Z 3 Tz8), cO h q (tkV By L (nx By L (sk By L 0))) 0 (tkV By L (nx By L (nx By L (sk By L 0)))) 8 0 0, (q 0, ia Z 12 (ni Kz17)), (q 1, ia Z 12 (ni Pz18)), (q 2, ia Z 6 (ni kd)), (q 3, ia Z 6 (ni am)), (q 4, ia Z 6 (ni st)), (q 5, ia Z 6 (ni rg))]) [8, 9, 0, 1, 2, 3, 4, 5, 6, 7] rfl rfl ?_
              show J 75 [(2, .int (nI 0)), (0, .ref ht), (1, .ref h)] [] [(ht, .inr (5, [.int (nI L), .ref bt, .int (nI (tkK By L (nx By L (nx By L (nx By L (nx By L (sk By L 0))))))), .int (nI (nx By L (nx By L (nx By L (nx By L (sk By L 0)))))), .int (nI ((nx By L (nx By L (nx By L (nx By L (sk By L 0))))) + tkL By L (nx By L (nx By L (nx By L (nx By L (sk By L 0))))))), .int nz20, .int (nI 1), .ref tt])), (bt, ba Z 150 (ni By)), (tt, ia Z 3 Tz8), cO h q (tkV By L (nx By L (sk By L 0))) 0 (tkV By L (nx By L (nx By L (sk By L 0)))) 8 0 0, (q 0, ia Z 12 (ni Kz17)), (q 1, ia Z 12 (ni Pz18)), (q 2, ia Z 6 (ni kd)), (q 3, ia Z 6 (ni am)), (q 4, ia Z 6 (ni st)), (q 5, ia Z 6 (ni rg))] 0 0
              refine j_iinc hJ (q := 78) (lvs' := [(2, .int (nI (0 + 1))), (0, .ref ht), (1, .ref h)]) dX7_tellRound_75 0 rfl (by rw [show Int32.ofInt 1 = nI 1 from by decide +kernel]; exact nI_add _ _) (by decide) rfl rfl ?_
              refine j_goto hJ (q := 11) dX7_tellRound_78 (by decide) ?_
              have L_11 : ∀ (fu_11 : Nat) (B : Nat → Nat) (fl : Nat) (Kb : Nat → Nat) (Pb : Nat → Nat) (kb : Nat → Nat) (ab : Nat → Nat) (sb : Nat → Nat) (gb : Nat → Nat) (Tb : Nat → Int32) (p : Nat) (nn : Int32) (ii : Nat) (it : Nat), fl < fu_11 → (p ≤ L) → (L < fl + p) → (1 ≤ it ∧ it ≤ p) → (wf B) → (rR B Kb Pb kb ab sb gb) → (rdR By L = rdF By L fl p B it) → J 11 [(0, .ref ht), (1, .ref h), (2, .int (nI it))] [] [(ht, .inr (5, [.int (nI L), .ref bt, .int (nI (tkK By L p)), .int (nI p), .int (nI (p + tkL By L p)), .int nn, .int (nI ii), .ref tt])), (bt, ba Z 150 (ni By)), (tt, ia Z 3 Tb), cO h q (B 21) (B 5) (B 6) (B 7) (B 8) (B 0), (q 0, ia Z 12 (ni Kb)), (q 1, ia Z 12 (ni Pb)), (q 2, ia Z 6 (ni kb)), (q 3, ia Z 6 (ni ab)), (q 4, ia Z 6 (ni sb)), (q 5, ia Z 6 (ni gb))] 0 0 := by
                intro fu_11
                induction fu_11 with
                | zero => intro B fl Kb Pb kb ab sb gb Tb p nn ii it hm; exact absurd hm (Nat.not_lt_zero _)
                | succ fu_11 ih_11 =>
                  intro B fl Kb Pb kb ab sb gb Tb p nn ii it hm_11 hp hfl hit hwB hRB hR0
                  obtain ⟨⟨b1, b2, b3, b4, b5, b6⟩, hbb, -⟩ := id hwB
                  have hk4 := tkK_le (By := By) (L := L) (p := p)
                  refine j_iload_n hJ (q := 12) dX7_tellRound_11 rfl 2 rfl rfl ?_
                  refine j_sipush hJ (q := 15) dX7_tellRound_12 rfl ks_150 ?_
                  refine jn_icmp_gt hJ (q := 18) (tgt := 81) dX7_tellRound_15 (by decide) rfl (by omega) (by omega) (fun c22 => ?_) (fun c22 => ?_)
                  · skip
                    exfalso; omega
                  · skip
                    refine j_aload_n hJ (q := 19) dX7_tellRound_18 rfl 0 rfl rfl ?_
                    refine j_get hJ (q := 22) jf_X7_29 dX7_tellRound_19 0 rfl rfl rfl ?_
                    refine jn_if_ne hJ (q := 25) (tgt := 31) dX7_tellRound_22 (by decide) rfl (by omega) (fun c23 => ?_) (fun c23 => ?_)
                    · skip
                      refine j_aload_n hJ (q := 32) dX7_tellRound_31 rfl 0 rfl rfl ?_
                      refine j_iload_n hJ (q := 33) dX7_tellRound_32 rfl 2 rfl rfl ?_
                      refine jn_if_ne hJ (q := 36) (tgt := 43) dX7_tellRound_33 (by decide) rfl (by omega) (fun c24 => ?_) (fun c24 => ?_)
                      · skip
                        refine j_aload_n hJ (q := 44) dX7_tellRound_43 rfl 0 rfl rfl ?_
                        refine j_vR hJ (q := 47) (rest := [.ref ht]) (As := []) jl_X7_36 (c_X7_laterItem Z ht bt tt L By p nn ii (by omega) hby hp) 0 rfl rfl dX7_tellRound_44 rfl (by decide) (Nat.le_of_ble_eq_true rfl) [0, 1] rfl rfl (fun rv hp => ?_)
                        rcases hp with ⟨a25, rfl⟩ | ⟨a26, rfl⟩ | ⟨a27, rfl⟩ | ⟨a28, rfl⟩ | ⟨a29, rfl⟩
                        · skip
                          show J 47 [(0, .ref ht), (1, .ref h), (2, .int (nI it))] [.int (nI 2), .ref ht] [(ht, .inr (5, [.int (nI L), .ref bt, .int (nI (tkK By L p)), .int (nI p), .int (nI (p + tkL By L p)), .int nn, .int (nI ii), .ref tt])), (bt, ba Z 150 (ni By)), (tt, ia Z 3 Tb), cO h q (B 21) (B 5) (B 6) (B 7) (B 8) (B 0), (q 0, ia Z 12 (ni Kb)), (q 1, ia Z 12 (ni Pb)), (q 2, ia Z 6 (ni kb)), (q 3, ia Z 6 (ni ab)), (q 4, ia Z 6 (ni sb)), (q 5, ia Z 6 (ni gb))] 0 0
                          have htk : ¬ tkK By L p = 0 := by assumption
                          have hti : tiF By L p B = thF By L p B := by unfold tiF; rw [if_pos a25]
                          refine j_put hJ (q := 50) (ws' := [(ht, .inr (5, [.int (nI L), .ref bt, .int (nI (tkK By L p)), .int (nI p), .int (nI (p + tkL By L p)), .int nn, .int (nI 2), .ref tt])), (bt, ba Z 150 (ni By)), (tt, ia Z 3 Tb), cO h q (B 21) (B 5) (B 6) (B 7) (B 8) (B 0), (q 0, ia Z 12 (ni Kb)), (q 1, ia Z 12 (ni Pb)), (q 2, ia Z 6 (ni kb)), (q 3, ia Z 6 (ni ab)), (q 4, ia Z 6 (ni sb)), (q 5, ia Z 6 (ni gb))]) jp_X7_39 dX7_tellRound_47 0 rfl rfl rfl (Nat.le_of_ble_eq_true rfl) rfl rfl ?_
                          refine j_aload_n hJ (q := 51) dX7_tellRound_50 rfl 0 rfl rfl ?_
                          refine j_aload_n hJ (q := 52) dX7_tellRound_51 rfl 1 rfl rfl ?_
                          refine j_vW hJ (q := 55) (rest := []) (As := [.ref h]) (wr := []) jl_X7_42 (c_X7_isItem2 Z ht bt tt L By p nn Tb h q B Kb Pb kb ab sb gb (by omega) hby (by omega) hwB hRB) 0 rfl rfl dX7_tellRound_52 rfl (by decide) (Nat.le_of_ble_eq_true rfl) [0, 1, 2, 3, 4, 5, 6, 7, 8, 9] [] rfl rfl rfl rfl (by decide) rfl (fun rv wv hp => ?_)
                          rcases hp with ⟨Tz30, nz31, a32, rfl, rfl, f33, f34, f35⟩ | ⟨Tz36, nz37, a38, rfl, rfl⟩
                          · skip
                            show J 55 [(0, .ref ht), (1, .ref h), (2, .int (nI it))] [.int (nI 1)] [(ht, .inr (5, [.int (nI L), .ref bt, .int (nI (tkK By L ((thF By L p B).2.1))), .int (nI ((thF By L p B).2.1)), .int (nI (((thF By L p B).2.1) + tkL By L ((thF By L p B).2.1))), .int nz31, .int (nI 2), .ref tt])), (bt, ba Z 150 (ni By)), (tt, ia Z 3 Tz30), cO h q (B 21) (B 5) (B 6) (B 7) (B 8) (B 0), (q 0, ia Z 12 (ni Kb)), (q 1, ia Z 12 (ni Pb)), (q 2, ia Z 6 (ni kb)), (q 3, ia Z 6 (ni ab)), (q 4, ia Z 6 (ni sb)), (q 5, ia Z 6 (ni gb))] 0 0
                            have hy := a32
                            have hrow := thF_row (By := By) (L := L) (p := p) (An := B) hy.1
                            have hT0 := f33
                            have hT1 := f34
                            have hT2 := f35
                            have hpin := tiF_in (By := By) (L := L) (An := B) hp
                            rw [hti] at hpin
                            have hng := nx_gt (By := By) (L := L) (p := (thF By L p B).2.1) hpin.2 (by rw [hy.2]; decide)
                            have hnx := nx_in (By := By) (L := L) (p := (thF By L p B).2.1) hpin.2
                            have hwC := wf_tiF (By := By) (L := L) (p := p) hwB
                            rw [hti, hrow] at hwC
                            have hgo := rd_go hR0 htk (by omega) hti hy hrow
                            refine jn_if_ne hJ (q := 58) (tgt := 66) dX7_tellRound_55 (by decide) rfl (by omega) (fun c39 => ?_) (fun c39 => ?_)
                            · skip
                              refine j_aload_n hJ (q := 67) dX7_tellRound_66 rfl 0 rfl rfl ?_
                              refine j_aload_n hJ (q := 68) dX7_tellRound_67 rfl 1 rfl rfl ?_
                              refine j_vW hJ (q := 71) (rest := []) (As := [.ref h]) (wr := [(bt, ba Z 150 (ni By))]) jl_X7_49 (c_X7_apply2 Z ht tt L (tkK By L ((thF By L p B).2.1)) ((thF By L p B).2.1) (((thF By L p B).2.1) + tkL By L ((thF By L p B).2.1)) nz31 bt Tz30 h q B Kb Pb kb ab sb gb (tkV By L (nx By L p)) (tkV By L (nx By L (nx By L p))) (tkV By L (nx By L (nx By L (nx By L p)))) hwB hRB (by have := (th_ok hy.1).2.2; omega) hT0 hT1 hT2) 0 rfl rfl dX7_tellRound_68 rfl (by decide) (Nat.le_of_ble_eq_true rfl) [0, 2, 3, 4, 5, 6, 7, 8, 9] [1] rfl rfl rfl rfl (by decide) rfl (fun rv wv hp => ?_)
                              obtain ⟨Kz40, Pz41, rfl, rfl, f42⟩ := hp
                              refine j_world hJ (ws' := [(ht, .inr (5, [.int (nI L), .ref bt, .int (nI (tkK By L ((thF By L p B).2.1))), .int (nI ((thF By L p B).2.1)), .int (nI (((thF By L p B).2.1) + tkL By L ((thF By L p B).2.1))), .int nz31, .int (nI 2), .ref tt])), (bt, ba Z 150 (ni By)), (tt, ia Z 3 Tz30), cO h q ((va_up (va_up B (34 + (tkV By L (nx By L p))) (tkV By L (nx By L (nx By L p)))) (46 + (tkV By L (nx By L p))) (tkV By L (nx By L (nx By L (nx By L p))))) 21) ((va_up (va_up B (34 + (tkV By L (nx By L p))) (tkV By L (nx By L (nx By L p)))) (46 + (tkV By L (nx By L p))) (tkV By L (nx By L (nx By L (nx By L p))))) 5) ((va_up (va_up B (34 + (tkV By L (nx By L p))) (tkV By L (nx By L (nx By L p)))) (46 + (tkV By L (nx By L p))) (tkV By L (nx By L (nx By L (nx By L p))))) 6) ((va_up (va_up B (34 + (tkV By L (nx By L p))) (tkV By L (nx By L (nx By L p)))) (46 + (tkV By L (nx By L p))) (tkV By L (nx By L (nx By L (nx By L p))))) 7) ((va_up (va_up B (34 + (tkV By L (nx By L p))) (tkV By L (nx By L (nx By L p)))) (46 + (tkV By L (nx By L p))) (tkV By L (nx By L (nx By L (nx By L p))))) 8) ((va_up (va_up B (34 + (tkV By L (nx By L p))) (tkV By L (nx By L (nx By L p)))) (46 + (tkV By L (nx By L p))) (tkV By L (nx By L (nx By L (nx By L p))))) 0), (q 0, ia Z 12 (ni Kz40)), (q 1, ia Z 12 (ni Pz41)), (q 2, ia Z 6 (ni kb)), (q 3, ia Z 6 (ni ab)), (q 4, ia Z 6 (ni sb)), (q 5, ia Z 6 (ni gb))]) [1, 0, 2, 3, 4, 5, 6, 7, 8, 9] rfl rfl ?_
                              show J 71 [(0, .ref ht), (1, .ref h), (2, .int (nI it))] [] [(ht, .inr (5, [.int (nI L), .ref bt, .int (nI (tkK By L ((thF By L p B).2.1))), .int (nI ((thF By L p B).2.1)), .int (nI (((thF By L p B).2.1) + tkL By L ((thF By L p B).2.1))), .int nz31, .int (nI 2), .ref tt])), (bt, ba Z 150 (ni By)), (tt, ia Z 3 Tz30), cO h q ((va_up (va_up B (34 + (tkV By L (nx By L p))) (tkV By L (nx By L (nx By L p)))) (46 + (tkV By L (nx By L p))) (tkV By L (nx By L (nx By L (nx By L p))))) 21) ((va_up (va_up B (34 + (tkV By L (nx By L p))) (tkV By L (nx By L (nx By L p)))) (46 + (tkV By L (nx By L p))) (tkV By L (nx By L (nx By L (nx By L p))))) 5) ((va_up (va_up B (34 + (tkV By L (nx By L p))) (tkV By L (nx By L (nx By L p)))) (46 + (tkV By L (nx By L p))) (tkV By L (nx By L (nx By L (nx By L p))))) 6) ((va_up (va_up B (34 + (tkV By L (nx By L p))) (tkV By L (nx By L (nx By L p)))) (46 + (tkV By L (nx By L p))) (tkV By L (nx By L (nx By L (nx By L p))))) 7) ((va_up (va_up B (34 + (tkV By L (nx By L p))) (tkV By L (nx By L (nx By L p)))) (46 + (tkV By L (nx By L p))) (tkV By L (nx By L (nx By L (nx By L p))))) 8) ((va_up (va_up B (34 + (tkV By L (nx By L p))) (tkV By L (nx By L (nx By L p)))) (46 + (tkV By L (nx By L p))) (tkV By L (nx By L (nx By L (nx By L p))))) 0), (q 0, ia Z 12 (ni Kz40)), (q 1, ia Z 12 (ni Pz41)), (q 2, ia Z 6 (ni kb)), (q 3, ia Z 6 (ni ab)), (q 4, ia Z 6 (ni sb)), (q 5, ia Z 6 (ni gb))] 0 0
                              have hRC := f42
                              refine j_aload_n hJ (q := 72) dX7_tellRound_71 rfl 0 rfl rfl ?_
                              refine j_vW hJ (q := 75) (rest := []) (As := []) (wr := [(tt, ia Z 3 Tz30), cO h q ((va_up (va_up B (34 + (tkV By L (nx By L p))) (tkV By L (nx By L (nx By L p)))) (46 + (tkV By L (nx By L p))) (tkV By L (nx By L (nx By L (nx By L p))))) 21) ((va_up (va_up B (34 + (tkV By L (nx By L p))) (tkV By L (nx By L (nx By L p)))) (46 + (tkV By L (nx By L p))) (tkV By L (nx By L (nx By L (nx By L p))))) 5) ((va_up (va_up B (34 + (tkV By L (nx By L p))) (tkV By L (nx By L (nx By L p)))) (46 + (tkV By L (nx By L p))) (tkV By L (nx By L (nx By L (nx By L p))))) 6) ((va_up (va_up B (34 + (tkV By L (nx By L p))) (tkV By L (nx By L (nx By L p)))) (46 + (tkV By L (nx By L p))) (tkV By L (nx By L (nx By L (nx By L p))))) 7) ((va_up (va_up B (34 + (tkV By L (nx By L p))) (tkV By L (nx By L (nx By L p)))) (46 + (tkV By L (nx By L p))) (tkV By L (nx By L (nx By L (nx By L p))))) 8) ((va_up (va_up B (34 + (tkV By L (nx By L p))) (tkV By L (nx By L (nx By L p)))) (46 + (tkV By L (nx By L p))) (tkV By L (nx By L (nx By L (nx By L p))))) 0), (q 0, ia Z 12 (ni Kz40)), (q 1, ia Z 12 (ni Pz41)), (q 2, ia Z 6 (ni kb)), (q 3, ia Z 6 (ni ab)), (q 4, ia Z 6 (ni sb)), (q 5, ia Z 6 (ni gb))]) jl_X7_26 (c_X7_nextN Z ht bt tt L By ((thF By L p B).2.1) nz31 2 (by omega) hby (by omega)) 0 rfl rfl dX7_tellRound_72 rfl (by decide) (Nat.le_of_ble_eq_true rfl) [0, 1] [2, 3, 4, 5, 6, 7, 8, 9] rfl rfl rfl rfl (by decide) rfl (fun rv wv hp => ?_)
                              obtain ⟨nz43, rfl, rfl, f44⟩ := hp
                              refine j_world hJ (ws' := [(ht, .inr (5, [.int (nI L), .ref bt, .int (nI (tkK By L (nx By L ((thF By L p B).2.1)))), .int (nI (nx By L ((thF By L p B).2.1))), .int (nI ((nx By L ((thF By L p B).2.1)) + tkL By L (nx By L ((thF By L p B).2.1)))), .int nz43, .int (nI 2), .ref tt])), (bt, ba Z 150 (ni By)), (tt, ia Z 3 Tz30), cO h q ((va_up (va_up B (34 + (tkV By L (nx By L p))) (tkV By L (nx By L (nx By L p)))) (46 + (tkV By L (nx By L p))) (tkV By L (nx By L (nx By L (nx By L p))))) 21) ((va_up (va_up B (34 + (tkV By L (nx By L p))) (tkV By L (nx By L (nx By L p)))) (46 + (tkV By L (nx By L p))) (tkV By L (nx By L (nx By L (nx By L p))))) 5) ((va_up (va_up B (34 + (tkV By L (nx By L p))) (tkV By L (nx By L (nx By L p)))) (46 + (tkV By L (nx By L p))) (tkV By L (nx By L (nx By L (nx By L p))))) 6) ((va_up (va_up B (34 + (tkV By L (nx By L p))) (tkV By L (nx By L (nx By L p)))) (46 + (tkV By L (nx By L p))) (tkV By L (nx By L (nx By L (nx By L p))))) 7) ((va_up (va_up B (34 + (tkV By L (nx By L p))) (tkV By L (nx By L (nx By L p)))) (46 + (tkV By L (nx By L p))) (tkV By L (nx By L (nx By L (nx By L p))))) 8) ((va_up (va_up B (34 + (tkV By L (nx By L p))) (tkV By L (nx By L (nx By L p)))) (46 + (tkV By L (nx By L p))) (tkV By L (nx By L (nx By L (nx By L p))))) 0), (q 0, ia Z 12 (ni Kz40)), (q 1, ia Z 12 (ni Pz41)), (q 2, ia Z 6 (ni kb)), (q 3, ia Z 6 (ni ab)), (q 4, ia Z 6 (ni sb)), (q 5, ia Z 6 (ni gb))]) [8, 9, 0, 1, 2, 3, 4, 5, 6, 7] rfl rfl ?_
                              show J 75 [(0, .ref ht), (1, .ref h), (2, .int (nI it))] [] [(ht, .inr (5, [.int (nI L), .ref bt, .int (nI (tkK By L (nx By L ((thF By L p B).2.1)))), .int (nI (nx By L ((thF By L p B).2.1))), .int (nI ((nx By L ((thF By L p B).2.1)) + tkL By L (nx By L ((thF By L p B).2.1)))), .int nz43, .int (nI 2), .ref tt])), (bt, ba Z 150 (ni By)), (tt, ia Z 3 Tz30), cO h q ((va_up (va_up B (34 + (tkV By L (nx By L p))) (tkV By L (nx By L (nx By L p)))) (46 + (tkV By L (nx By L p))) (tkV By L (nx By L (nx By L (nx By L p))))) 21) ((va_up (va_up B (34 + (tkV By L (nx By L p))) (tkV By L (nx By L (nx By L p)))) (46 + (tkV By L (nx By L p))) (tkV By L (nx By L (nx By L (nx By L p))))) 5) ((va_up (va_up B (34 + (tkV By L (nx By L p))) (tkV By L (nx By L (nx By L p)))) (46 + (tkV By L (nx By L p))) (tkV By L (nx By L (nx By L (nx By L p))))) 6) ((va_up (va_up B (34 + (tkV By L (nx By L p))) (tkV By L (nx By L (nx By L p)))) (46 + (tkV By L (nx By L p))) (tkV By L (nx By L (nx By L (nx By L p))))) 7) ((va_up (va_up B (34 + (tkV By L (nx By L p))) (tkV By L (nx By L (nx By L p)))) (46 + (tkV By L (nx By L p))) (tkV By L (nx By L (nx By L (nx By L p))))) 8) ((va_up (va_up B (34 + (tkV By L (nx By L p))) (tkV By L (nx By L (nx By L p)))) (46 + (tkV By L (nx By L p))) (tkV By L (nx By L (nx By L (nx By L p))))) 0), (q 0, ia Z 12 (ni Kz40)), (q 1, ia Z 12 (ni Pz41)), (q 2, ia Z 6 (ni kb)), (q 3, ia Z 6 (ni ab)), (q 4, ia Z 6 (ni sb)), (q 5, ia Z 6 (ni gb))] 0 0
                              refine j_iinc hJ (q := 78) (lvs' := [(2, .int (nI (it + 1))), (0, .ref ht), (1, .ref h)]) dX7_tellRound_75 2 rfl (by rw [show Int32.ofInt 1 = nI 1 from by decide +kernel]; exact nI_add _ _) (by decide) rfl rfl ?_
                              refine j_goto hJ (q := 11) dX7_tellRound_78 (by decide) ?_
                              refine j_locals hJ [1, 2, 0] rfl ?_
                              exact ih_11 (va_up (va_up B (34 + (tkV By L (nx By L p))) (tkV By L (nx By L (nx By L p)))) (46 + (tkV By L (nx By L p))) (tkV By L (nx By L (nx By L (nx By L p))))) (fl - 1) Kz40 Pz41 kb ab sb gb Tz30 (nx By L ((thF By L p B).2.1)) nz43 2 (it + 1) (by omega) hnx.2 (by omega) (by omega) hwC hRC hgo
                            · skip
                              exfalso; omega
                          · skip
                            show J 55 [(0, .ref ht), (1, .ref h), (2, .int (nI it))] [.int (nI 0)] [(ht, .inr (5, [.int (nI L), .ref bt, .int (nI (tkK By L ((thF By L p B).2.1))), .int (nI ((thF By L p B).2.1)), .int (nI (((thF By L p B).2.1) + tkL By L ((thF By L p B).2.1))), .int nz37, .int (nI 2), .ref tt])), (bt, ba Z 150 (ni By)), (tt, ia Z 3 Tz36), cO h q (B 21) (B 5) (B 6) (B 7) (B 8) (B 0), (q 0, ia Z 12 (ni Kb)), (q 1, ia Z 12 (ni Pb)), (q 2, ia Z 6 (ni kb)), (q 3, ia Z 6 (ni ab)), (q 4, ia Z 6 (ni sb)), (q 5, ia Z 6 (ni gb))] 0 0
                            have hno := rd_fl hR0 htk (by omega) hti a38
                            refine jn_if_ne hJ (q := 58) (tgt := 66) dX7_tellRound_55 (by decide) rfl (by omega) (fun c45 => ?_) (fun c45 => ?_)
                            · skip
                              exfalso; omega
                            · skip
                              refine j_bipush hJ (q := 60) dX7_tellRound_58 rfl kb_m10 ?_
                              refine j_aload_n hJ (q := 61) dX7_tellRound_60 rfl 0 rfl rfl ?_
                              refine j_get hJ (q := 64) jf_X7_46 dX7_tellRound_61 0 rfl rfl rfl ?_
                              refine j_isub hJ (q := 65) dX7_tellRound_64 rfl (zI_sub rfl (zI_nat ((thF By L p B).2.1)).symm) ?_
                              exact hE.1 _ _ _ _ _ _ _ rfl rfl dX7_tellRound_65 (Nat.le_refl _) (Nat.le_refl _) (⟨(tkK By L ((thF By L p B).2.1)), ((thF By L p B).2.1), (((thF By L p B).2.1) + tkL By L ((thF By L p B).2.1)), nz37, 2, Tz36, (B 21), (B 5), (B 6), (B 7), (B 8), (B 0), Kb, Pb, kb, ab, sb, gb, congrArg (fun z => some (Value.int (zI z))) (by unfold rdZ; rw [hno.1, hno.2]; rfl), rfl, fun z => by rw [hno.1] at z; cases z⟩)
                        · skip
                          show J 47 [(0, .ref ht), (1, .ref h), (2, .int (nI it))] [.int (nI 3), .ref ht] [(ht, .inr (5, [.int (nI L), .ref bt, .int (nI (tkK By L p)), .int (nI p), .int (nI (p + tkL By L p)), .int nn, .int (nI ii), .ref tt])), (bt, ba Z 150 (ni By)), (tt, ia Z 3 Tb), cO h q (B 21) (B 5) (B 6) (B 7) (B 8) (B 0), (q 0, ia Z 12 (ni Kb)), (q 1, ia Z 12 (ni Pb)), (q 2, ia Z 6 (ni kb)), (q 3, ia Z 6 (ni ab)), (q 4, ia Z 6 (ni sb)), (q 5, ia Z 6 (ni gb))] 0 0
                          have htk : ¬ tkK By L p = 0 := by assumption
                          have hti : tiF By L p B = trF By L p B := by unfold tiF; rw [if_neg (by rw [a26.1]; decide), if_pos a26.2]
                          refine j_put hJ (q := 50) (ws' := [(ht, .inr (5, [.int (nI L), .ref bt, .int (nI (tkK By L p)), .int (nI p), .int (nI (p + tkL By L p)), .int nn, .int (nI 3), .ref tt])), (bt, ba Z 150 (ni By)), (tt, ia Z 3 Tb), cO h q (B 21) (B 5) (B 6) (B 7) (B 8) (B 0), (q 0, ia Z 12 (ni Kb)), (q 1, ia Z 12 (ni Pb)), (q 2, ia Z 6 (ni kb)), (q 3, ia Z 6 (ni ab)), (q 4, ia Z 6 (ni sb)), (q 5, ia Z 6 (ni gb))]) jp_X7_39 dX7_tellRound_47 0 rfl rfl rfl (Nat.le_of_ble_eq_true rfl) rfl rfl ?_
                          refine j_aload_n hJ (q := 51) dX7_tellRound_50 rfl 0 rfl rfl ?_
                          refine j_aload_n hJ (q := 52) dX7_tellRound_51 rfl 1 rfl rfl ?_
                          refine j_vW hJ (q := 55) (rest := []) (As := [.ref h]) (wr := []) jl_X7_42 (c_X7_isItem3 Z ht bt tt L By p nn Tb h q B Kb Pb kb ab sb gb (by omega) hby (by omega) hwB hRB) 0 rfl rfl dX7_tellRound_52 rfl (by decide) (Nat.le_of_ble_eq_true rfl) [0, 1, 2, 3, 4, 5, 6, 7, 8, 9] [] rfl rfl rfl rfl (by decide) rfl (fun rv wv hp => ?_)
                          rcases hp with ⟨Tz46, nz47, a48, rfl, rfl, f49, f50, f51, f52⟩ | ⟨Tz53, nz54, a55, rfl, rfl⟩
                          · skip
                            show J 55 [(0, .ref ht), (1, .ref h), (2, .int (nI it))] [.int (nI 1)] [(ht, .inr (5, [.int (nI L), .ref bt, .int (nI (tkK By L ((trF By L p B).2.1))), .int (nI ((trF By L p B).2.1)), .int (nI (((trF By L p B).2.1) + tkL By L ((trF By L p B).2.1))), .int nz47, .int (nI 3), .ref tt])), (bt, ba Z 150 (ni By)), (tt, ia Z 3 Tz46), cO h q (B 21) (B 5) (B 6) (B 7) (B 8) (B 0), (q 0, ia Z 12 (ni Kb)), (q 1, ia Z 12 (ni Pb)), (q 2, ia Z 6 (ni kb)), (q 3, ia Z 6 (ni ab)), (q 4, ia Z 6 (ni sb)), (q 5, ia Z 6 (ni gb))] 0 0
                            have hy := a48
                            have hrow := trF_row (By := By) (L := L) (p := p) (An := B) hy.1
                            have hT0 := f49
                            have hT1 := f50
                            have hT2 := f51
                            have hri := f52
                            have hpin := tiF_in (By := By) (L := L) (An := B) hp
                            rw [hti] at hpin
                            have hng := nx_gt (By := By) (L := L) (p := (trF By L p B).2.1) hpin.2 (by rw [hy.2]; decide)
                            have hnx := nx_in (By := By) (L := L) (p := (trF By L p B).2.1) hpin.2
                            have hwC := wf_tiF (By := By) (L := L) (p := p) hwB
                            rw [hti, hrow] at hwC
                            have hgo := rd_go hR0 htk (by omega) hti hy hrow
                            refine jn_if_ne hJ (q := 58) (tgt := 66) dX7_tellRound_55 (by decide) rfl (by omega) (fun c56 => ?_) (fun c56 => ?_)
                            · skip
                              refine j_aload_n hJ (q := 67) dX7_tellRound_66 rfl 0 rfl rfl ?_
                              refine j_aload_n hJ (q := 68) dX7_tellRound_67 rfl 1 rfl rfl ?_
                              refine j_vW hJ (q := 71) (rest := []) (As := [.ref h]) (wr := [(bt, ba Z 150 (ni By))]) jl_X7_49 (c_X7_apply3 Z ht tt L (tkK By L ((trF By L p B).2.1)) ((trF By L p B).2.1) (((trF By L p B).2.1) + tkL By L ((trF By L p B).2.1)) nz47 bt Tz46 h q B Kb Pb kb ab sb gb (tkV By L (nx By L p)) (tkV By L (nx By L (nx By L p))) (tkV By L (nx By L (nx By L (nx By L p)))) hwB hRB hri.1 hT0 hT1 hT2) 0 rfl rfl dX7_tellRound_68 rfl (by decide) (Nat.le_of_ble_eq_true rfl) [0, 2, 3, 4, 5, 6, 7, 8, 9] [1] rfl rfl rfl rfl (by decide) rfl (fun rv wv hp => ?_)
                              obtain ⟨k257, a258, s259, g260, rfl, rfl, f61⟩ := hp
                              refine j_world hJ (ws' := [(ht, .inr (5, [.int (nI L), .ref bt, .int (nI (tkK By L ((trF By L p B).2.1))), .int (nI ((trF By L p B).2.1)), .int (nI (((trF By L p B).2.1) + tkL By L ((trF By L p B).2.1))), .int nz47, .int (nI 3), .ref tt])), (bt, ba Z 150 (ni By)), (tt, ia Z 3 Tz46), cO h q ((layR B (tkV By L (nx By L p)) (tkV By L (nx By L (nx By L p))) (tkV By L (nx By L (nx By L (nx By L p))))) 21) ((layR B (tkV By L (nx By L p)) (tkV By L (nx By L (nx By L p))) (tkV By L (nx By L (nx By L (nx By L p))))) 5) ((layR B (tkV By L (nx By L p)) (tkV By L (nx By L (nx By L p))) (tkV By L (nx By L (nx By L (nx By L p))))) 6) ((layR B (tkV By L (nx By L p)) (tkV By L (nx By L (nx By L p))) (tkV By L (nx By L (nx By L (nx By L p))))) 7) ((layR B (tkV By L (nx By L p)) (tkV By L (nx By L (nx By L p))) (tkV By L (nx By L (nx By L (nx By L p))))) 8) ((layR B (tkV By L (nx By L p)) (tkV By L (nx By L (nx By L p))) (tkV By L (nx By L (nx By L (nx By L p))))) 0), (q 0, ia Z 12 (ni Kb)), (q 1, ia Z 12 (ni Pb)), (q 2, ia Z 6 (ni k257)), (q 3, ia Z 6 (ni a258)), (q 4, ia Z 6 (ni s259)), (q 5, ia Z 6 (ni g260))]) [1, 0, 2, 3, 4, 5, 6, 7, 8, 9] rfl rfl ?_
                              show J 71 [(0, .ref ht), (1, .ref h), (2, .int (nI it))] [] [(ht, .inr (5, [.int (nI L), .ref bt, .int (nI (tkK By L ((trF By L p B).2.1))), .int (nI ((trF By L p B).2.1)), .int (nI (((trF By L p B).2.1) + tkL By L ((trF By L p B).2.1))), .int nz47, .int (nI 3), .ref tt])), (bt, ba Z 150 (ni By)), (tt, ia Z 3 Tz46), cO h q ((layR B (tkV By L (nx By L p)) (tkV By L (nx By L (nx By L p))) (tkV By L (nx By L (nx By L (nx By L p))))) 21) ((layR B (tkV By L (nx By L p)) (tkV By L (nx By L (nx By L p))) (tkV By L (nx By L (nx By L (nx By L p))))) 5) ((layR B (tkV By L (nx By L p)) (tkV By L (nx By L (nx By L p))) (tkV By L (nx By L (nx By L (nx By L p))))) 6) ((layR B (tkV By L (nx By L p)) (tkV By L (nx By L (nx By L p))) (tkV By L (nx By L (nx By L (nx By L p))))) 7) ((layR B (tkV By L (nx By L p)) (tkV By L (nx By L (nx By L p))) (tkV By L (nx By L (nx By L (nx By L p))))) 8) ((layR B (tkV By L (nx By L p)) (tkV By L (nx By L (nx By L p))) (tkV By L (nx By L (nx By L (nx By L p))))) 0), (q 0, ia Z 12 (ni Kb)), (q 1, ia Z 12 (ni Pb)), (q 2, ia Z 6 (ni k257)), (q 3, ia Z 6 (ni a258)), (q 4, ia Z 6 (ni s259)), (q 5, ia Z 6 (ni g260))] 0 0
                              have hRC := f61
                              refine j_aload_n hJ (q := 72) dX7_tellRound_71 rfl 0 rfl rfl ?_
                              refine j_vW hJ (q := 75) (rest := []) (As := []) (wr := [(tt, ia Z 3 Tz46), cO h q ((layR B (tkV By L (nx By L p)) (tkV By L (nx By L (nx By L p))) (tkV By L (nx By L (nx By L (nx By L p))))) 21) ((layR B (tkV By L (nx By L p)) (tkV By L (nx By L (nx By L p))) (tkV By L (nx By L (nx By L (nx By L p))))) 5) ((layR B (tkV By L (nx By L p)) (tkV By L (nx By L (nx By L p))) (tkV By L (nx By L (nx By L (nx By L p))))) 6) ((layR B (tkV By L (nx By L p)) (tkV By L (nx By L (nx By L p))) (tkV By L (nx By L (nx By L (nx By L p))))) 7) ((layR B (tkV By L (nx By L p)) (tkV By L (nx By L (nx By L p))) (tkV By L (nx By L (nx By L (nx By L p))))) 8) ((layR B (tkV By L (nx By L p)) (tkV By L (nx By L (nx By L p))) (tkV By L (nx By L (nx By L (nx By L p))))) 0), (q 0, ia Z 12 (ni Kb)), (q 1, ia Z 12 (ni Pb)), (q 2, ia Z 6 (ni k257)), (q 3, ia Z 6 (ni a258)), (q 4, ia Z 6 (ni s259)), (q 5, ia Z 6 (ni g260))]) jl_X7_26 (c_X7_nextN Z ht bt tt L By ((trF By L p B).2.1) nz47 3 (by omega) hby (by omega)) 0 rfl rfl dX7_tellRound_72 rfl (by decide) (Nat.le_of_ble_eq_true rfl) [0, 1] [2, 3, 4, 5, 6, 7, 8, 9] rfl rfl rfl rfl (by decide) rfl (fun rv wv hp => ?_)
                              obtain ⟨nz62, rfl, rfl, f63⟩ := hp
                              refine j_world hJ (ws' := [(ht, .inr (5, [.int (nI L), .ref bt, .int (nI (tkK By L (nx By L ((trF By L p B).2.1)))), .int (nI (nx By L ((trF By L p B).2.1))), .int (nI ((nx By L ((trF By L p B).2.1)) + tkL By L (nx By L ((trF By L p B).2.1)))), .int nz62, .int (nI 3), .ref tt])), (bt, ba Z 150 (ni By)), (tt, ia Z 3 Tz46), cO h q ((layR B (tkV By L (nx By L p)) (tkV By L (nx By L (nx By L p))) (tkV By L (nx By L (nx By L (nx By L p))))) 21) ((layR B (tkV By L (nx By L p)) (tkV By L (nx By L (nx By L p))) (tkV By L (nx By L (nx By L (nx By L p))))) 5) ((layR B (tkV By L (nx By L p)) (tkV By L (nx By L (nx By L p))) (tkV By L (nx By L (nx By L (nx By L p))))) 6) ((layR B (tkV By L (nx By L p)) (tkV By L (nx By L (nx By L p))) (tkV By L (nx By L (nx By L (nx By L p))))) 7) ((layR B (tkV By L (nx By L p)) (tkV By L (nx By L (nx By L p))) (tkV By L (nx By L (nx By L (nx By L p))))) 8) ((layR B (tkV By L (nx By L p)) (tkV By L (nx By L (nx By L p))) (tkV By L (nx By L (nx By L (nx By L p))))) 0), (q 0, ia Z 12 (ni Kb)), (q 1, ia Z 12 (ni Pb)), (q 2, ia Z 6 (ni k257)), (q 3, ia Z 6 (ni a258)), (q 4, ia Z 6 (ni s259)), (q 5, ia Z 6 (ni g260))]) [8, 9, 0, 1, 2, 3, 4, 5, 6, 7] rfl rfl ?_
                              show J 75 [(0, .ref ht), (1, .ref h), (2, .int (nI it))] [] [(ht, .inr (5, [.int (nI L), .ref bt, .int (nI (tkK By L (nx By L ((trF By L p B).2.1)))), .int (nI (nx By L ((trF By L p B).2.1))), .int (nI ((nx By L ((trF By L p B).2.1)) + tkL By L (nx By L ((trF By L p B).2.1)))), .int nz62, .int (nI 3), .ref tt])), (bt, ba Z 150 (ni By)), (tt, ia Z 3 Tz46), cO h q ((layR B (tkV By L (nx By L p)) (tkV By L (nx By L (nx By L p))) (tkV By L (nx By L (nx By L (nx By L p))))) 21) ((layR B (tkV By L (nx By L p)) (tkV By L (nx By L (nx By L p))) (tkV By L (nx By L (nx By L (nx By L p))))) 5) ((layR B (tkV By L (nx By L p)) (tkV By L (nx By L (nx By L p))) (tkV By L (nx By L (nx By L (nx By L p))))) 6) ((layR B (tkV By L (nx By L p)) (tkV By L (nx By L (nx By L p))) (tkV By L (nx By L (nx By L (nx By L p))))) 7) ((layR B (tkV By L (nx By L p)) (tkV By L (nx By L (nx By L p))) (tkV By L (nx By L (nx By L (nx By L p))))) 8) ((layR B (tkV By L (nx By L p)) (tkV By L (nx By L (nx By L p))) (tkV By L (nx By L (nx By L (nx By L p))))) 0), (q 0, ia Z 12 (ni Kb)), (q 1, ia Z 12 (ni Pb)), (q 2, ia Z 6 (ni k257)), (q 3, ia Z 6 (ni a258)), (q 4, ia Z 6 (ni s259)), (q 5, ia Z 6 (ni g260))] 0 0
                              refine j_iinc hJ (q := 78) (lvs' := [(2, .int (nI (it + 1))), (0, .ref ht), (1, .ref h)]) dX7_tellRound_75 2 rfl (by rw [show Int32.ofInt 1 = nI 1 from by decide +kernel]; exact nI_add _ _) (by decide) rfl rfl ?_
                              refine j_goto hJ (q := 11) dX7_tellRound_78 (by decide) ?_
                              refine j_locals hJ [1, 2, 0] rfl ?_
                              exact ih_11 (layR B (tkV By L (nx By L p)) (tkV By L (nx By L (nx By L p))) (tkV By L (nx By L (nx By L (nx By L p))))) (fl - 1) Kb Pb k257 a258 s259 g260 Tz46 (nx By L ((trF By L p B).2.1)) nz62 3 (it + 1) (by omega) hnx.2 (by omega) (by omega) hwC hRC hgo
                            · skip
                              exfalso; omega
                          · skip
                            show J 55 [(0, .ref ht), (1, .ref h), (2, .int (nI it))] [.int (nI 0)] [(ht, .inr (5, [.int (nI L), .ref bt, .int (nI (tkK By L ((trF By L p B).2.1))), .int (nI ((trF By L p B).2.1)), .int (nI (((trF By L p B).2.1) + tkL By L ((trF By L p B).2.1))), .int nz54, .int (nI 3), .ref tt])), (bt, ba Z 150 (ni By)), (tt, ia Z 3 Tz53), cO h q (B 21) (B 5) (B 6) (B 7) (B 8) (B 0), (q 0, ia Z 12 (ni Kb)), (q 1, ia Z 12 (ni Pb)), (q 2, ia Z 6 (ni kb)), (q 3, ia Z 6 (ni ab)), (q 4, ia Z 6 (ni sb)), (q 5, ia Z 6 (ni gb))] 0 0
                            have hno := rd_fl hR0 htk (by omega) hti a55
                            refine jn_if_ne hJ (q := 58) (tgt := 66) dX7_tellRound_55 (by decide) rfl (by omega) (fun c64 => ?_) (fun c64 => ?_)
                            · skip
                              exfalso; omega
                            · skip
                              refine j_bipush hJ (q := 60) dX7_tellRound_58 rfl kb_m10 ?_
                              refine j_aload_n hJ (q := 61) dX7_tellRound_60 rfl 0 rfl rfl ?_
                              refine j_get hJ (q := 64) jf_X7_46 dX7_tellRound_61 0 rfl rfl rfl ?_
                              refine j_isub hJ (q := 65) dX7_tellRound_64 rfl (zI_sub rfl (zI_nat ((trF By L p B).2.1)).symm) ?_
                              exact hE.1 _ _ _ _ _ _ _ rfl rfl dX7_tellRound_65 (Nat.le_refl _) (Nat.le_refl _) (⟨(tkK By L ((trF By L p B).2.1)), ((trF By L p B).2.1), (((trF By L p B).2.1) + tkL By L ((trF By L p B).2.1)), nz54, 3, Tz53, (B 21), (B 5), (B 6), (B 7), (B 8), (B 0), Kb, Pb, kb, ab, sb, gb, congrArg (fun z => some (Value.int (zI z))) (by unfold rdZ; rw [hno.1, hno.2]; rfl), rfl, fun z => by rw [hno.1] at z; cases z⟩)
                        · skip
                          show J 47 [(0, .ref ht), (1, .ref h), (2, .int (nI it))] [.int (nI 4), .ref ht] [(ht, .inr (5, [.int (nI L), .ref bt, .int (nI (tkK By L p)), .int (nI p), .int (nI (p + tkL By L p)), .int nn, .int (nI ii), .ref tt])), (bt, ba Z 150 (ni By)), (tt, ia Z 3 Tb), cO h q (B 21) (B 5) (B 6) (B 7) (B 8) (B 0), (q 0, ia Z 12 (ni Kb)), (q 1, ia Z 12 (ni Pb)), (q 2, ia Z 6 (ni kb)), (q 3, ia Z 6 (ni ab)), (q 4, ia Z 6 (ni sb)), (q 5, ia Z 6 (ni gb))] 0 0
                          have htk : ¬ tkK By L p = 0 := by assumption
                          have hti : tiF By L p B = tgF By L p B := by unfold tiF; rw [if_neg (by rw [a27.1]; decide), if_neg (by rw [a27.2.1]; decide), if_pos a27.2.2]
                          refine j_put hJ (q := 50) (ws' := [(ht, .inr (5, [.int (nI L), .ref bt, .int (nI (tkK By L p)), .int (nI p), .int (nI (p + tkL By L p)), .int nn, .int (nI 4), .ref tt])), (bt, ba Z 150 (ni By)), (tt, ia Z 3 Tb), cO h q (B 21) (B 5) (B 6) (B 7) (B 8) (B 0), (q 0, ia Z 12 (ni Kb)), (q 1, ia Z 12 (ni Pb)), (q 2, ia Z 6 (ni kb)), (q 3, ia Z 6 (ni ab)), (q 4, ia Z 6 (ni sb)), (q 5, ia Z 6 (ni gb))]) jp_X7_39 dX7_tellRound_47 0 rfl rfl rfl (Nat.le_of_ble_eq_true rfl) rfl rfl ?_
                          refine j_aload_n hJ (q := 51) dX7_tellRound_50 rfl 0 rfl rfl ?_
                          refine j_aload_n hJ (q := 52) dX7_tellRound_51 rfl 1 rfl rfl ?_
                          refine j_vW hJ (q := 55) (rest := []) (As := [.ref h]) (wr := []) jl_X7_42 (c_X7_isItem4 Z ht bt tt L By p nn Tb h q B Kb Pb kb ab sb gb (by omega) hby (by omega) hwB hRB) 0 rfl rfl dX7_tellRound_52 rfl (by decide) (Nat.le_of_ble_eq_true rfl) [0, 1, 2, 3, 4, 5, 6, 7, 8, 9] [] rfl rfl rfl rfl (by decide) rfl (fun rv wv hp => ?_)
                          rcases hp with ⟨Tz65, nz66, a67, rfl, rfl, f68⟩ | ⟨Tz69, nz70, a71, rfl, rfl⟩
                          · skip
                            show J 55 [(0, .ref ht), (1, .ref h), (2, .int (nI it))] [.int (nI 1)] [(ht, .inr (5, [.int (nI L), .ref bt, .int (nI (tkK By L ((tgF By L p B).2.1))), .int (nI ((tgF By L p B).2.1)), .int (nI (((tgF By L p B).2.1) + tkL By L ((tgF By L p B).2.1))), .int nz66, .int (nI 4), .ref tt])), (bt, ba Z 150 (ni By)), (tt, ia Z 3 Tz65), cO h q (B 21) (B 5) (B 6) (B 7) (B 8) (B 0), (q 0, ia Z 12 (ni Kb)), (q 1, ia Z 12 (ni Pb)), (q 2, ia Z 6 (ni kb)), (q 3, ia Z 6 (ni ab)), (q 4, ia Z 6 (ni sb)), (q 5, ia Z 6 (ni gb))] 0 0
                            have hy := a67
                            have hrow := tgF_row (By := By) (L := L) (p := p) (An := B) hy.1
                            have hT0 := f68
                            have hpin := tiF_in (By := By) (L := L) (An := B) hp
                            rw [hti] at hpin
                            have hng := nx_gt (By := By) (L := L) (p := (tgF By L p B).2.1) hpin.2 (by rw [hy.2]; decide)
                            have hnx := nx_in (By := By) (L := L) (p := (tgF By L p B).2.1) hpin.2
                            have hwC := wf_tiF (By := By) (L := L) (p := p) hwB
                            rw [hti, hrow] at hwC
                            have hgo := rd_go hR0 htk (by omega) hti hy hrow
                            refine jn_if_ne hJ (q := 58) (tgt := 66) dX7_tellRound_55 (by decide) rfl (by omega) (fun c72 => ?_) (fun c72 => ?_)
                            · skip
                              refine j_aload_n hJ (q := 67) dX7_tellRound_66 rfl 0 rfl rfl ?_
                              refine j_aload_n hJ (q := 68) dX7_tellRound_67 rfl 1 rfl rfl ?_
                              refine j_vW hJ (q := 71) (rest := []) (As := [.ref h]) (wr := [(bt, ba Z 150 (ni By))]) jl_X7_49 (c_X7_apply4 Z ht tt L (tkK By L ((tgF By L p B).2.1)) ((tgF By L p B).2.1) (((tgF By L p B).2.1) + tkL By L ((tgF By L p B).2.1)) nz66 bt Tz65 h q B Kb Pb kb ab sb gb (tkV By L (nx By L p)) hwB hRB hT0) 0 rfl rfl dX7_tellRound_68 rfl (by decide) (Nat.le_of_ble_eq_true rfl) [0, 2, 3, 4, 5, 6, 7, 8, 9] [1] rfl rfl rfl rfl (by decide) rfl (fun rv wv hp => ?_)
                              obtain ⟨rfl, rfl, f73⟩ := hp
                              refine j_world hJ (ws' := [(ht, .inr (5, [.int (nI L), .ref bt, .int (nI (tkK By L ((tgF By L p B).2.1))), .int (nI ((tgF By L p B).2.1)), .int (nI (((tgF By L p B).2.1) + tkL By L ((tgF By L p B).2.1))), .int nz66, .int (nI 4), .ref tt])), (bt, ba Z 150 (ni By)), (tt, ia Z 3 Tz65), cO h q ((va_up B 7 (tkV By L (nx By L p))) 21) ((va_up B 7 (tkV By L (nx By L p))) 5) ((va_up B 7 (tkV By L (nx By L p))) 6) ((va_up B 7 (tkV By L (nx By L p))) 7) ((va_up B 7 (tkV By L (nx By L p))) 8) ((va_up B 7 (tkV By L (nx By L p))) 0), (q 0, ia Z 12 (ni Kb)), (q 1, ia Z 12 (ni Pb)), (q 2, ia Z 6 (ni kb)), (q 3, ia Z 6 (ni ab)), (q 4, ia Z 6 (ni sb)), (q 5, ia Z 6 (ni gb))]) [1, 0, 2, 3, 4, 5, 6, 7, 8, 9] rfl rfl ?_
                              show J 71 [(0, .ref ht), (1, .ref h), (2, .int (nI it))] [] [(ht, .inr (5, [.int (nI L), .ref bt, .int (nI (tkK By L ((tgF By L p B).2.1))), .int (nI ((tgF By L p B).2.1)), .int (nI (((tgF By L p B).2.1) + tkL By L ((tgF By L p B).2.1))), .int nz66, .int (nI 4), .ref tt])), (bt, ba Z 150 (ni By)), (tt, ia Z 3 Tz65), cO h q ((va_up B 7 (tkV By L (nx By L p))) 21) ((va_up B 7 (tkV By L (nx By L p))) 5) ((va_up B 7 (tkV By L (nx By L p))) 6) ((va_up B 7 (tkV By L (nx By L p))) 7) ((va_up B 7 (tkV By L (nx By L p))) 8) ((va_up B 7 (tkV By L (nx By L p))) 0), (q 0, ia Z 12 (ni Kb)), (q 1, ia Z 12 (ni Pb)), (q 2, ia Z 6 (ni kb)), (q 3, ia Z 6 (ni ab)), (q 4, ia Z 6 (ni sb)), (q 5, ia Z 6 (ni gb))] 0 0
                              have hRC := f73
                              refine j_aload_n hJ (q := 72) dX7_tellRound_71 rfl 0 rfl rfl ?_
                              refine j_vW hJ (q := 75) (rest := []) (As := []) (wr := [(tt, ia Z 3 Tz65), cO h q ((va_up B 7 (tkV By L (nx By L p))) 21) ((va_up B 7 (tkV By L (nx By L p))) 5) ((va_up B 7 (tkV By L (nx By L p))) 6) ((va_up B 7 (tkV By L (nx By L p))) 7) ((va_up B 7 (tkV By L (nx By L p))) 8) ((va_up B 7 (tkV By L (nx By L p))) 0), (q 0, ia Z 12 (ni Kb)), (q 1, ia Z 12 (ni Pb)), (q 2, ia Z 6 (ni kb)), (q 3, ia Z 6 (ni ab)), (q 4, ia Z 6 (ni sb)), (q 5, ia Z 6 (ni gb))]) jl_X7_26 (c_X7_nextN Z ht bt tt L By ((tgF By L p B).2.1) nz66 4 (by omega) hby (by omega)) 0 rfl rfl dX7_tellRound_72 rfl (by decide) (Nat.le_of_ble_eq_true rfl) [0, 1] [2, 3, 4, 5, 6, 7, 8, 9] rfl rfl rfl rfl (by decide) rfl (fun rv wv hp => ?_)
                              obtain ⟨nz74, rfl, rfl, f75⟩ := hp
                              refine j_world hJ (ws' := [(ht, .inr (5, [.int (nI L), .ref bt, .int (nI (tkK By L (nx By L ((tgF By L p B).2.1)))), .int (nI (nx By L ((tgF By L p B).2.1))), .int (nI ((nx By L ((tgF By L p B).2.1)) + tkL By L (nx By L ((tgF By L p B).2.1)))), .int nz74, .int (nI 4), .ref tt])), (bt, ba Z 150 (ni By)), (tt, ia Z 3 Tz65), cO h q ((va_up B 7 (tkV By L (nx By L p))) 21) ((va_up B 7 (tkV By L (nx By L p))) 5) ((va_up B 7 (tkV By L (nx By L p))) 6) ((va_up B 7 (tkV By L (nx By L p))) 7) ((va_up B 7 (tkV By L (nx By L p))) 8) ((va_up B 7 (tkV By L (nx By L p))) 0), (q 0, ia Z 12 (ni Kb)), (q 1, ia Z 12 (ni Pb)), (q 2, ia Z 6 (ni kb)), (q 3, ia Z 6 (ni ab)), (q 4, ia Z 6 (ni sb)), (q 5, ia Z 6 (ni gb))]) [8, 9, 0, 1, 2, 3, 4, 5, 6, 7] rfl rfl ?_
                              show J 75 [(0, .ref ht), (1, .ref h), (2, .int (nI it))] [] [(ht, .inr (5, [.int (nI L), .ref bt, .int (nI (tkK By L (nx By L ((tgF By L p B).2.1)))), .int (nI (nx By L ((tgF By L p B).2.1))), .int (nI ((nx By L ((tgF By L p B).2.1)) + tkL By L (nx By L ((tgF By L p B).2.1)))), .int nz74, .int (nI 4), .ref tt])), (bt, ba Z 150 (ni By)), (tt, ia Z 3 Tz65), cO h q ((va_up B 7 (tkV By L (nx By L p))) 21) ((va_up B 7 (tkV By L (nx By L p))) 5) ((va_up B 7 (tkV By L (nx By L p))) 6) ((va_up B 7 (tkV By L (nx By L p))) 7) ((va_up B 7 (tkV By L (nx By L p))) 8) ((va_up B 7 (tkV By L (nx By L p))) 0), (q 0, ia Z 12 (ni Kb)), (q 1, ia Z 12 (ni Pb)), (q 2, ia Z 6 (ni kb)), (q 3, ia Z 6 (ni ab)), (q 4, ia Z 6 (ni sb)), (q 5, ia Z 6 (ni gb))] 0 0
                              refine j_iinc hJ (q := 78) (lvs' := [(2, .int (nI (it + 1))), (0, .ref ht), (1, .ref h)]) dX7_tellRound_75 2 rfl (by rw [show Int32.ofInt 1 = nI 1 from by decide +kernel]; exact nI_add _ _) (by decide) rfl rfl ?_
                              refine j_goto hJ (q := 11) dX7_tellRound_78 (by decide) ?_
                              refine j_locals hJ [1, 2, 0] rfl ?_
                              exact ih_11 (va_up B 7 (tkV By L (nx By L p))) (fl - 1) Kb Pb kb ab sb gb Tz65 (nx By L ((tgF By L p B).2.1)) nz74 4 (it + 1) (by omega) hnx.2 (by omega) (by omega) hwC hRC hgo
                            · skip
                              exfalso; omega
                          · skip
                            show J 55 [(0, .ref ht), (1, .ref h), (2, .int (nI it))] [.int (nI 0)] [(ht, .inr (5, [.int (nI L), .ref bt, .int (nI (tkK By L ((tgF By L p B).2.1))), .int (nI ((tgF By L p B).2.1)), .int (nI (((tgF By L p B).2.1) + tkL By L ((tgF By L p B).2.1))), .int nz70, .int (nI 4), .ref tt])), (bt, ba Z 150 (ni By)), (tt, ia Z 3 Tz69), cO h q (B 21) (B 5) (B 6) (B 7) (B 8) (B 0), (q 0, ia Z 12 (ni Kb)), (q 1, ia Z 12 (ni Pb)), (q 2, ia Z 6 (ni kb)), (q 3, ia Z 6 (ni ab)), (q 4, ia Z 6 (ni sb)), (q 5, ia Z 6 (ni gb))] 0 0
                            have hno := rd_fl hR0 htk (by omega) hti a71
                            refine jn_if_ne hJ (q := 58) (tgt := 66) dX7_tellRound_55 (by decide) rfl (by omega) (fun c76 => ?_) (fun c76 => ?_)
                            · skip
                              exfalso; omega
                            · skip
                              refine j_bipush hJ (q := 60) dX7_tellRound_58 rfl kb_m10 ?_
                              refine j_aload_n hJ (q := 61) dX7_tellRound_60 rfl 0 rfl rfl ?_
                              refine j_get hJ (q := 64) jf_X7_46 dX7_tellRound_61 0 rfl rfl rfl ?_
                              refine j_isub hJ (q := 65) dX7_tellRound_64 rfl (zI_sub rfl (zI_nat ((tgF By L p B).2.1)).symm) ?_
                              exact hE.1 _ _ _ _ _ _ _ rfl rfl dX7_tellRound_65 (Nat.le_refl _) (Nat.le_refl _) (⟨(tkK By L ((tgF By L p B).2.1)), ((tgF By L p B).2.1), (((tgF By L p B).2.1) + tkL By L ((tgF By L p B).2.1)), nz70, 4, Tz69, (B 21), (B 5), (B 6), (B 7), (B 8), (B 0), Kb, Pb, kb, ab, sb, gb, congrArg (fun z => some (Value.int (zI z))) (by unfold rdZ; rw [hno.1, hno.2]; rfl), rfl, fun z => by rw [hno.1] at z; cases z⟩)
                        · skip
                          show J 47 [(0, .ref ht), (1, .ref h), (2, .int (nI it))] [.int (nI 5), .ref ht] [(ht, .inr (5, [.int (nI L), .ref bt, .int (nI (tkK By L p)), .int (nI p), .int (nI (p + tkL By L p)), .int nn, .int (nI ii), .ref tt])), (bt, ba Z 150 (ni By)), (tt, ia Z 3 Tb), cO h q (B 21) (B 5) (B 6) (B 7) (B 8) (B 0), (q 0, ia Z 12 (ni Kb)), (q 1, ia Z 12 (ni Pb)), (q 2, ia Z 6 (ni kb)), (q 3, ia Z 6 (ni ab)), (q 4, ia Z 6 (ni sb)), (q 5, ia Z 6 (ni gb))] 0 0
                          have htk : ¬ tkK By L p = 0 := by assumption
                          have hti : tiF By L p B = toF By L p B := by unfold tiF; rw [if_neg (by rw [a28.1]; decide), if_neg (by rw [a28.2.1]; decide), if_neg (by rw [a28.2.2.1]; decide), if_pos a28.2.2.2]
                          refine j_put hJ (q := 50) (ws' := [(ht, .inr (5, [.int (nI L), .ref bt, .int (nI (tkK By L p)), .int (nI p), .int (nI (p + tkL By L p)), .int nn, .int (nI 5), .ref tt])), (bt, ba Z 150 (ni By)), (tt, ia Z 3 Tb), cO h q (B 21) (B 5) (B 6) (B 7) (B 8) (B 0), (q 0, ia Z 12 (ni Kb)), (q 1, ia Z 12 (ni Pb)), (q 2, ia Z 6 (ni kb)), (q 3, ia Z 6 (ni ab)), (q 4, ia Z 6 (ni sb)), (q 5, ia Z 6 (ni gb))]) jp_X7_39 dX7_tellRound_47 0 rfl rfl rfl (Nat.le_of_ble_eq_true rfl) rfl rfl ?_
                          refine j_aload_n hJ (q := 51) dX7_tellRound_50 rfl 0 rfl rfl ?_
                          refine j_aload_n hJ (q := 52) dX7_tellRound_51 rfl 1 rfl rfl ?_
                          refine j_vW hJ (q := 55) (rest := []) (As := [.ref h]) (wr := []) jl_X7_42 (c_X7_isItem5 Z ht bt tt L By p nn Tb h q B Kb Pb kb ab sb gb (by omega) hby (by omega) hwB hRB) 0 rfl rfl dX7_tellRound_52 rfl (by decide) (Nat.le_of_ble_eq_true rfl) [0, 1, 2, 3, 4, 5, 6, 7, 8, 9] [] rfl rfl rfl rfl (by decide) rfl (fun rv wv hp => ?_)
                          rcases hp with ⟨Tz77, nz78, a79, rfl, rfl, f80⟩ | ⟨Tz81, nz82, a83, rfl, rfl⟩
                          · skip
                            show J 55 [(0, .ref ht), (1, .ref h), (2, .int (nI it))] [.int (nI 1)] [(ht, .inr (5, [.int (nI L), .ref bt, .int (nI (tkK By L ((toF By L p B).2.1))), .int (nI ((toF By L p B).2.1)), .int (nI (((toF By L p B).2.1) + tkL By L ((toF By L p B).2.1))), .int nz78, .int (nI 5), .ref tt])), (bt, ba Z 150 (ni By)), (tt, ia Z 3 Tz77), cO h q (B 21) (B 5) (B 6) (B 7) (B 8) (B 0), (q 0, ia Z 12 (ni Kb)), (q 1, ia Z 12 (ni Pb)), (q 2, ia Z 6 (ni kb)), (q 3, ia Z 6 (ni ab)), (q 4, ia Z 6 (ni sb)), (q 5, ia Z 6 (ni gb))] 0 0
                            have hy := a79
                            have hrow := toF_row (By := By) (L := L) (p := p) (An := B) hy.1
                            have hT0 := f80
                            have hpin := tiF_in (By := By) (L := L) (An := B) hp
                            rw [hti] at hpin
                            have hng := nx_gt (By := By) (L := L) (p := (toF By L p B).2.1) hpin.2 (by rw [hy.2]; decide)
                            have hnx := nx_in (By := By) (L := L) (p := (toF By L p B).2.1) hpin.2
                            have hwC := wf_tiF (By := By) (L := L) (p := p) hwB
                            rw [hti, hrow] at hwC
                            have hgo := rd_go hR0 htk (by omega) hti hy hrow
                            refine jn_if_ne hJ (q := 58) (tgt := 66) dX7_tellRound_55 (by decide) rfl (by omega) (fun c84 => ?_) (fun c84 => ?_)
                            · skip
                              refine j_aload_n hJ (q := 67) dX7_tellRound_66 rfl 0 rfl rfl ?_
                              refine j_aload_n hJ (q := 68) dX7_tellRound_67 rfl 1 rfl rfl ?_
                              refine j_vW hJ (q := 71) (rest := []) (As := [.ref h]) (wr := [(bt, ba Z 150 (ni By))]) jl_X7_49 (c_X7_apply5 Z ht tt L (tkK By L ((toF By L p B).2.1)) ((toF By L p B).2.1) (((toF By L p B).2.1) + tkL By L ((toF By L p B).2.1)) nz78 bt Tz77 h q B Kb Pb kb ab sb gb (tkV By L (nx By L p)) hwB hRB (by have := tkV_le (L := L) (a := nx By L p) hby; omega) hT0) 0 rfl rfl dX7_tellRound_68 rfl (by decide) (Nat.le_of_ble_eq_true rfl) [0, 2, 3, 4, 5, 6, 7, 8, 9] [1] rfl rfl rfl rfl (by decide) rfl (fun rv wv hp => ?_)
                              obtain ⟨rz85, rfl, rfl, f86⟩ := hp
                              refine j_world hJ (ws' := [(ht, .inr (5, [.int (nI L), .ref bt, .int (nI (tkK By L ((toF By L p B).2.1))), .int (nI ((toF By L p B).2.1)), .int (nI (((toF By L p B).2.1) + tkL By L ((toF By L p B).2.1))), .int nz78, .int (nI 5), .ref tt])), (bt, ba Z 150 (ni By)), (tt, ia Z 3 Tz77), cO h q ((goN (tkV By L (nx By L p)) B) 21) ((goN (tkV By L (nx By L p)) B) 5) ((goN (tkV By L (nx By L p)) B) 6) ((goN (tkV By L (nx By L p)) B) 7) ((goN (tkV By L (nx By L p)) B) 8) ((goN (tkV By L (nx By L p)) B) 0), (q 0, ia Z 12 (ni Kb)), (q 1, ia Z 12 (ni Pb)), (q 2, ia Z 6 (ni kb)), (q 3, ia Z 6 (ni ab)), (q 4, ia Z 6 (ni sb)), (q 5, ia Z 6 (ni rz85))]) [1, 0, 2, 3, 4, 5, 6, 7, 8, 9] rfl rfl ?_
                              show J 71 [(0, .ref ht), (1, .ref h), (2, .int (nI it))] [] [(ht, .inr (5, [.int (nI L), .ref bt, .int (nI (tkK By L ((toF By L p B).2.1))), .int (nI ((toF By L p B).2.1)), .int (nI (((toF By L p B).2.1) + tkL By L ((toF By L p B).2.1))), .int nz78, .int (nI 5), .ref tt])), (bt, ba Z 150 (ni By)), (tt, ia Z 3 Tz77), cO h q ((goN (tkV By L (nx By L p)) B) 21) ((goN (tkV By L (nx By L p)) B) 5) ((goN (tkV By L (nx By L p)) B) 6) ((goN (tkV By L (nx By L p)) B) 7) ((goN (tkV By L (nx By L p)) B) 8) ((goN (tkV By L (nx By L p)) B) 0), (q 0, ia Z 12 (ni Kb)), (q 1, ia Z 12 (ni Pb)), (q 2, ia Z 6 (ni kb)), (q 3, ia Z 6 (ni ab)), (q 4, ia Z 6 (ni sb)), (q 5, ia Z 6 (ni rz85))] 0 0
                              have hRC := f86
                              refine j_aload_n hJ (q := 72) dX7_tellRound_71 rfl 0 rfl rfl ?_
                              refine j_vW hJ (q := 75) (rest := []) (As := []) (wr := [(tt, ia Z 3 Tz77), cO h q ((goN (tkV By L (nx By L p)) B) 21) ((goN (tkV By L (nx By L p)) B) 5) ((goN (tkV By L (nx By L p)) B) 6) ((goN (tkV By L (nx By L p)) B) 7) ((goN (tkV By L (nx By L p)) B) 8) ((goN (tkV By L (nx By L p)) B) 0), (q 0, ia Z 12 (ni Kb)), (q 1, ia Z 12 (ni Pb)), (q 2, ia Z 6 (ni kb)), (q 3, ia Z 6 (ni ab)), (q 4, ia Z 6 (ni sb)), (q 5, ia Z 6 (ni rz85))]) jl_X7_26 (c_X7_nextN Z ht bt tt L By ((toF By L p B).2.1) nz78 5 (by omega) hby (by omega)) 0 rfl rfl dX7_tellRound_72 rfl (by decide) (Nat.le_of_ble_eq_true rfl) [0, 1] [2, 3, 4, 5, 6, 7, 8, 9] rfl rfl rfl rfl (by decide) rfl (fun rv wv hp => ?_)
                              obtain ⟨nz87, rfl, rfl, f88⟩ := hp
                              refine j_world hJ (ws' := [(ht, .inr (5, [.int (nI L), .ref bt, .int (nI (tkK By L (nx By L ((toF By L p B).2.1)))), .int (nI (nx By L ((toF By L p B).2.1))), .int (nI ((nx By L ((toF By L p B).2.1)) + tkL By L (nx By L ((toF By L p B).2.1)))), .int nz87, .int (nI 5), .ref tt])), (bt, ba Z 150 (ni By)), (tt, ia Z 3 Tz77), cO h q ((goN (tkV By L (nx By L p)) B) 21) ((goN (tkV By L (nx By L p)) B) 5) ((goN (tkV By L (nx By L p)) B) 6) ((goN (tkV By L (nx By L p)) B) 7) ((goN (tkV By L (nx By L p)) B) 8) ((goN (tkV By L (nx By L p)) B) 0), (q 0, ia Z 12 (ni Kb)), (q 1, ia Z 12 (ni Pb)), (q 2, ia Z 6 (ni kb)), (q 3, ia Z 6 (ni ab)), (q 4, ia Z 6 (ni sb)), (q 5, ia Z 6 (ni rz85))]) [8, 9, 0, 1, 2, 3, 4, 5, 6, 7] rfl rfl ?_
                              show J 75 [(0, .ref ht), (1, .ref h), (2, .int (nI it))] [] [(ht, .inr (5, [.int (nI L), .ref bt, .int (nI (tkK By L (nx By L ((toF By L p B).2.1)))), .int (nI (nx By L ((toF By L p B).2.1))), .int (nI ((nx By L ((toF By L p B).2.1)) + tkL By L (nx By L ((toF By L p B).2.1)))), .int nz87, .int (nI 5), .ref tt])), (bt, ba Z 150 (ni By)), (tt, ia Z 3 Tz77), cO h q ((goN (tkV By L (nx By L p)) B) 21) ((goN (tkV By L (nx By L p)) B) 5) ((goN (tkV By L (nx By L p)) B) 6) ((goN (tkV By L (nx By L p)) B) 7) ((goN (tkV By L (nx By L p)) B) 8) ((goN (tkV By L (nx By L p)) B) 0), (q 0, ia Z 12 (ni Kb)), (q 1, ia Z 12 (ni Pb)), (q 2, ia Z 6 (ni kb)), (q 3, ia Z 6 (ni ab)), (q 4, ia Z 6 (ni sb)), (q 5, ia Z 6 (ni rz85))] 0 0
                              refine j_iinc hJ (q := 78) (lvs' := [(2, .int (nI (it + 1))), (0, .ref ht), (1, .ref h)]) dX7_tellRound_75 2 rfl (by rw [show Int32.ofInt 1 = nI 1 from by decide +kernel]; exact nI_add _ _) (by decide) rfl rfl ?_
                              refine j_goto hJ (q := 11) dX7_tellRound_78 (by decide) ?_
                              refine j_locals hJ [1, 2, 0] rfl ?_
                              exact ih_11 (goN (tkV By L (nx By L p)) B) (fl - 1) Kb Pb kb ab sb rz85 Tz77 (nx By L ((toF By L p B).2.1)) nz87 5 (it + 1) (by omega) hnx.2 (by omega) (by omega) hwC hRC hgo
                            · skip
                              exfalso; omega
                          · skip
                            show J 55 [(0, .ref ht), (1, .ref h), (2, .int (nI it))] [.int (nI 0)] [(ht, .inr (5, [.int (nI L), .ref bt, .int (nI (tkK By L ((toF By L p B).2.1))), .int (nI ((toF By L p B).2.1)), .int (nI (((toF By L p B).2.1) + tkL By L ((toF By L p B).2.1))), .int nz82, .int (nI 5), .ref tt])), (bt, ba Z 150 (ni By)), (tt, ia Z 3 Tz81), cO h q (B 21) (B 5) (B 6) (B 7) (B 8) (B 0), (q 0, ia Z 12 (ni Kb)), (q 1, ia Z 12 (ni Pb)), (q 2, ia Z 6 (ni kb)), (q 3, ia Z 6 (ni ab)), (q 4, ia Z 6 (ni sb)), (q 5, ia Z 6 (ni gb))] 0 0
                            have hno := rd_fl hR0 htk (by omega) hti a83
                            refine jn_if_ne hJ (q := 58) (tgt := 66) dX7_tellRound_55 (by decide) rfl (by omega) (fun c89 => ?_) (fun c89 => ?_)
                            · skip
                              exfalso; omega
                            · skip
                              refine j_bipush hJ (q := 60) dX7_tellRound_58 rfl kb_m10 ?_
                              refine j_aload_n hJ (q := 61) dX7_tellRound_60 rfl 0 rfl rfl ?_
                              refine j_get hJ (q := 64) jf_X7_46 dX7_tellRound_61 0 rfl rfl rfl ?_
                              refine j_isub hJ (q := 65) dX7_tellRound_64 rfl (zI_sub rfl (zI_nat ((toF By L p B).2.1)).symm) ?_
                              exact hE.1 _ _ _ _ _ _ _ rfl rfl dX7_tellRound_65 (Nat.le_refl _) (Nat.le_refl _) (⟨(tkK By L ((toF By L p B).2.1)), ((toF By L p B).2.1), (((toF By L p B).2.1) + tkL By L ((toF By L p B).2.1)), nz82, 5, Tz81, (B 21), (B 5), (B 6), (B 7), (B 8), (B 0), Kb, Pb, kb, ab, sb, gb, congrArg (fun z => some (Value.int (zI z))) (by unfold rdZ; rw [hno.1, hno.2]; rfl), rfl, fun z => by rw [hno.1] at z; cases z⟩)
                        · skip
                          show J 47 [(0, .ref ht), (1, .ref h), (2, .int (nI it))] [.int (nI 0), .ref ht] [(ht, .inr (5, [.int (nI L), .ref bt, .int (nI (tkK By L p)), .int (nI p), .int (nI (p + tkL By L p)), .int nn, .int (nI ii), .ref tt])), (bt, ba Z 150 (ni By)), (tt, ia Z 3 Tb), cO h q (B 21) (B 5) (B 6) (B 7) (B 8) (B 0), (q 0, ia Z 12 (ni Kb)), (q 1, ia Z 12 (ni Pb)), (q 2, ia Z 6 (ni kb)), (q 3, ia Z 6 (ni ab)), (q 4, ia Z 6 (ni sb)), (q 5, ia Z 6 (ni gb))] 0 0
                          have htk : ¬ tkK By L p = 0 := by assumption
                          have hti : tiF By L p B = (false, p, B) := by unfold tiF; rw [if_neg (by rw [a29.1]; decide), if_neg (by rw [a29.2.1]; decide), if_neg (by rw [a29.2.2.1]; decide), if_neg (by rw [a29.2.2.2]; decide)]
                          refine j_put hJ (q := 50) (ws' := [(ht, .inr (5, [.int (nI L), .ref bt, .int (nI (tkK By L p)), .int (nI p), .int (nI (p + tkL By L p)), .int nn, .int (nI 0), .ref tt])), (bt, ba Z 150 (ni By)), (tt, ia Z 3 Tb), cO h q (B 21) (B 5) (B 6) (B 7) (B 8) (B 0), (q 0, ia Z 12 (ni Kb)), (q 1, ia Z 12 (ni Pb)), (q 2, ia Z 6 (ni kb)), (q 3, ia Z 6 (ni ab)), (q 4, ia Z 6 (ni sb)), (q 5, ia Z 6 (ni gb))]) jp_X7_39 dX7_tellRound_47 0 rfl rfl rfl (Nat.le_of_ble_eq_true rfl) rfl rfl ?_
                          refine j_aload_n hJ (q := 51) dX7_tellRound_50 rfl 0 rfl rfl ?_
                          refine j_aload_n hJ (q := 52) dX7_tellRound_51 rfl 1 rfl rfl ?_
                          refine j_vW hJ (q := 55) (rest := []) (As := [.ref h]) (wr := []) jl_X7_42 (c_X7_isItem0 Z ht bt tt L By p nn Tb h q (B 21) (B 5) (B 6) (B 7) (B 8) (B 0) Kb Pb kb ab sb gb (by omega) hby (by omega)) 0 rfl rfl dX7_tellRound_52 rfl (by decide) (Nat.le_of_ble_eq_true rfl) [0, 1, 2, 3, 4, 5, 6, 7, 8, 9] [] rfl rfl rfl rfl (by decide) rfl (fun rv wv hp => ?_)
                          obtain ⟨rfl, rfl⟩ := hp
                          show J 55 [(0, .ref ht), (1, .ref h), (2, .int (nI it))] [.int (nI 0)] [(ht, .inr (5, [.int (nI L), .ref bt, .int (nI (tkK By L p)), .int (nI p), .int (nI (p + tkL By L p)), .int nn, .int (nI 0), .ref tt])), (bt, ba Z 150 (ni By)), (tt, ia Z 3 Tb), cO h q (B 21) (B 5) (B 6) (B 7) (B 8) (B 0), (q 0, ia Z 12 (ni Kb)), (q 1, ia Z 12 (ni Pb)), (q 2, ia Z 6 (ni kb)), (q 3, ia Z 6 (ni ab)), (q 4, ia Z 6 (ni sb)), (q 5, ia Z 6 (ni gb))] 0 0
                          have hno := rd_fl hR0 htk (by omega) hti (fun z => by cases z.1)
                          refine jn_if_ne hJ (q := 58) (tgt := 66) dX7_tellRound_55 (by decide) rfl (by omega) (fun c90 => ?_) (fun c90 => ?_)
                          · skip
                            exfalso; omega
                          · skip
                            refine j_bipush hJ (q := 60) dX7_tellRound_58 rfl kb_m10 ?_
                            refine j_aload_n hJ (q := 61) dX7_tellRound_60 rfl 0 rfl rfl ?_
                            refine j_get hJ (q := 64) jf_X7_46 dX7_tellRound_61 0 rfl rfl rfl ?_
                            refine j_isub hJ (q := 65) dX7_tellRound_64 rfl (zI_sub rfl (zI_nat p).symm) ?_
                            exact hE.1 _ _ _ _ _ _ _ rfl rfl dX7_tellRound_65 (Nat.le_refl _) (Nat.le_refl _) (⟨(tkK By L p), p, (p + tkL By L p), nn, 0, Tb, (B 21), (B 5), (B 6), (B 7), (B 8), (B 0), Kb, Pb, kb, ab, sb, gb, congrArg (fun z => some (Value.int (zI z))) (by unfold rdZ; rw [hno.1, hno.2]; rfl), rfl, fun z => by rw [hno.1] at z; cases z⟩)
                      · skip
                        exfalso; omega
                    · skip
                      refine j_iload_n hJ (q := 26) dX7_tellRound_25 rfl 2 rfl rfl ?_
                      refine jz_if_le hJ (q := 29) (tgt := 31) dX7_tellRound_26 (by decide) rfl (zI_nat it).symm (by omega) (fun c91 => ?_) (fun c91 => ?_)
                      · skip
                        exfalso; omega
                      · skip
                        refine j_iload_n hJ (q := 30) dX7_tellRound_29 rfl 2 rfl rfl ?_
                        have hRR : rdR By L = (true, it, B) := rd_end hR0 (by omega) (by omega)
                        exact hE.1 _ _ _ _ _ _ _ rfl rfl dX7_tellRound_30 (Nat.le_refl _) (Nat.le_refl _) (⟨(tkK By L p), p, (p + tkL By L p), nn, ii, Tb, (B 21), (B 5), (B 6), (B 7), (B 8), (B 0), Kb, Pb, kb, ab, sb, gb, congrArg (fun z => some (Value.int z)) ((zI_nat _).symm.trans (congrArg zI (by unfold rdZ; rw [hRR]; rfl))), rfl, fun _ => by rw [hRR]; exact ⟨⟨rfl, rfl, rfl, rfl, rfl, rfl⟩, hwB, hRB⟩⟩)
              refine j_locals hJ [1, 2, 0] rfl ?_
              exact L_11 ((L + 1) + 1) (beg (fun _ => 0) (tkV By L (nx By L (sk By L 0))) (tkV By L (nx By L (nx By L (sk By L 0))))) (L + 1) Kz17 Pz18 kd am st rg Tz8 (nx By L (nx By L (nx By L (nx By L (sk By L 0))))) nz20 1 (0 + 1) (Nat.lt_succ_self _) hn4.2 (by omega) (by omega) (wf_beg (fun _ => by decide) hc1.1.2 hc1.2.1.2.2) hR1 (rd_1 hw0 hc1)
            · skip
              exfalso; omega
          · skip
            show J 55 [(2, .int (nI 0)), (0, .ref ht), (1, .ref h)] [.int (nI 0)] [(ht, .inr (5, [.int (nI L), .ref bt, .int (nI (tkK By L (if num By L (nx By L (sk By L 0)) 4 12 then if num By L (nx By L (nx By L (sk By L 0))) 0 3 then nx By L (nx By L (nx By L (sk By L 0))) else nx By L (nx By L (sk By L 0)) else nx By L (sk By L 0)))), .int (nI (if num By L (nx By L (sk By L 0)) 4 12 then if num By L (nx By L (nx By L (sk By L 0))) 0 3 then nx By L (nx By L (nx By L (sk By L 0))) else nx By L (nx By L (sk By L 0)) else nx By L (sk By L 0))), .int (nI ((if num By L (nx By L (sk By L 0)) 4 12 then if num By L (nx By L (nx By L (sk By L 0))) 0 3 then nx By L (nx By L (nx By L (sk By L 0))) else nx By L (nx By L (sk By L 0)) else nx By L (sk By L 0)) + tkL By L (if num By L (nx By L (sk By L 0)) 4 12 then if num By L (nx By L (nx By L (sk By L 0))) 0 3 then nx By L (nx By L (nx By L (sk By L 0))) else nx By L (nx By L (sk By L 0)) else nx By L (sk By L 0)))), .int nz14, .int (nI 1), .ref tt])), (bt, ba Z 150 (ni By)), (tt, ia Z 3 Tz13), cO h q n an sp ri ti rd, (q 0, ia Z 12 (ni K)), (q 1, ia Z 12 (ni P)), (q 2, ia Z 6 (ni kd)), (q 3, ia Z 6 (ni am)), (q 4, ia Z 6 (ni st)), (q 5, ia Z 6 (ni rg))] 0 0
            have hno := rd_f1 hw0 a15
            refine jn_if_ne hJ (q := 58) (tgt := 66) dX7_tellRound_55 (by decide) rfl (by omega) (fun c92 => ?_) (fun c92 => ?_)
            · skip
              exfalso; omega
            · skip
              refine j_bipush hJ (q := 60) dX7_tellRound_58 rfl kb_m10 ?_
              refine j_aload_n hJ (q := 61) dX7_tellRound_60 rfl 1 rfl rfl ?_
              refine j_get hJ (q := 64) jf_X7_46 dX7_tellRound_61 0 rfl rfl rfl ?_
              refine j_isub hJ (q := 65) dX7_tellRound_64 rfl (zI_sub rfl (zI_nat (if num By L (nx By L (sk By L 0)) 4 12 then if num By L (nx By L (nx By L (sk By L 0))) 0 3 then nx By L (nx By L (nx By L (sk By L 0))) else nx By L (nx By L (sk By L 0)) else nx By L (sk By L 0))).symm) ?_
              exact hE.1 _ _ _ _ _ _ _ rfl rfl dX7_tellRound_65 (Nat.le_refl _) (Nat.le_refl _) (⟨(tkK By L (if num By L (nx By L (sk By L 0)) 4 12 then if num By L (nx By L (nx By L (sk By L 0))) 0 3 then nx By L (nx By L (nx By L (sk By L 0))) else nx By L (nx By L (sk By L 0)) else nx By L (sk By L 0))), (if num By L (nx By L (sk By L 0)) 4 12 then if num By L (nx By L (nx By L (sk By L 0))) 0 3 then nx By L (nx By L (nx By L (sk By L 0))) else nx By L (nx By L (sk By L 0)) else nx By L (sk By L 0)), ((if num By L (nx By L (sk By L 0)) 4 12 then if num By L (nx By L (nx By L (sk By L 0))) 0 3 then nx By L (nx By L (nx By L (sk By L 0))) else nx By L (nx By L (sk By L 0)) else nx By L (sk By L 0)) + tkL By L (if num By L (nx By L (sk By L 0)) 4 12 then if num By L (nx By L (nx By L (sk By L 0))) 0 3 then nx By L (nx By L (nx By L (sk By L 0))) else nx By L (nx By L (sk By L 0)) else nx By L (sk By L 0))), nz14, 1, Tz13, n, an, sp, ri, ti, rd, K, P, kd, am, st, rg, congrArg (fun z => some (Value.int (zI z))) (by unfold rdZ; rw [hno.1, hno.2]; rfl), rfl, fun z => by rw [hno.1] at z; cases z⟩)
        · skip
          show J 40 [(2, .int (nI 0)), (0, .ref ht), (1, .ref h)] [.int (nI 0), .ref ht] [(ht, .inr (5, [.int (nI L), .ref bt, .int (nI (tkK By L (sk By L 0))), .int (nI (sk By L 0)), .int (nI (sk By L 0 + tkL By L (sk By L 0))), .int nz1, .int (nI im), .ref tt])), (bt, ba Z 150 (ni By)), (tt, ia Z 3 Td), cO h q n an sp ri ti rd, (q 0, ia Z 12 (ni K)), (q 1, ia Z 12 (ni P)), (q 2, ia Z 6 (ni kd)), (q 3, ia Z 6 (ni am)), (q 4, ia Z 6 (ni st)), (q 5, ia Z 6 (ni rg))] 0 0
          have hno := rd_f0 a7
          refine j_goto hJ (q := 47) dX7_tellRound_40 (by decide) ?_
          refine j_put hJ (q := 50) (ws' := [(ht, .inr (5, [.int (nI L), .ref bt, .int (nI (tkK By L (sk By L 0))), .int (nI (sk By L 0)), .int (nI (sk By L 0 + tkL By L (sk By L 0))), .int nz1, .int (nI 0), .ref tt])), (bt, ba Z 150 (ni By)), (tt, ia Z 3 Td), cO h q n an sp ri ti rd, (q 0, ia Z 12 (ni K)), (q 1, ia Z 12 (ni P)), (q 2, ia Z 6 (ni kd)), (q 3, ia Z 6 (ni am)), (q 4, ia Z 6 (ni st)), (q 5, ia Z 6 (ni rg))]) jp_X7_39 dX7_tellRound_47 0 rfl rfl rfl (Nat.le_of_ble_eq_true rfl) rfl rfl ?_
          refine j_aload_n hJ (q := 51) dX7_tellRound_50 rfl 1 rfl rfl ?_
          refine j_aload_n hJ (q := 52) dX7_tellRound_51 rfl 2 rfl rfl ?_
          refine j_vW hJ (q := 55) (rest := []) (As := [.ref h]) (wr := []) jl_X7_42 (c_X7_isItem0 Z ht bt tt L By (sk By L 0) nz1 Td h q n an sp ri ti rd K P kd am st rg (by omega) hby (by omega)) 0 rfl rfl dX7_tellRound_52 rfl (by decide) (Nat.le_of_ble_eq_true rfl) [0, 1, 2, 3, 4, 5, 6, 7, 8, 9] [] rfl rfl rfl rfl (by decide) rfl (fun rv wv hp => ?_)
          obtain ⟨rfl, rfl⟩ := hp
          show J 55 [(2, .int (nI 0)), (0, .ref ht), (1, .ref h)] [.int (nI 0)] [(ht, .inr (5, [.int (nI L), .ref bt, .int (nI (tkK By L (sk By L 0))), .int (nI (sk By L 0)), .int (nI ((sk By L 0) + tkL By L (sk By L 0))), .int nz1, .int (nI 0), .ref tt])), (bt, ba Z 150 (ni By)), (tt, ia Z 3 Td), cO h q n an sp ri ti rd, (q 0, ia Z 12 (ni K)), (q 1, ia Z 12 (ni P)), (q 2, ia Z 6 (ni kd)), (q 3, ia Z 6 (ni am)), (q 4, ia Z 6 (ni st)), (q 5, ia Z 6 (ni rg))] 0 0
          refine jn_if_ne hJ (q := 58) (tgt := 66) dX7_tellRound_55 (by decide) rfl (by omega) (fun c93 => ?_) (fun c93 => ?_)
          · skip
            exfalso; omega
          · skip
            refine j_bipush hJ (q := 60) dX7_tellRound_58 rfl kb_m10 ?_
            refine j_aload_n hJ (q := 61) dX7_tellRound_60 rfl 1 rfl rfl ?_
            refine j_get hJ (q := 64) jf_X7_46 dX7_tellRound_61 0 rfl rfl rfl ?_
            refine j_isub hJ (q := 65) dX7_tellRound_64 rfl (zI_sub rfl (zI_nat (sk By L 0)).symm) ?_
            exact hE.1 _ _ _ _ _ _ _ rfl rfl dX7_tellRound_65 (Nat.le_refl _) (Nat.le_refl _) (⟨(tkK By L (sk By L 0)), (sk By L 0), ((sk By L 0) + tkL By L (sk By L 0)), nz1, 0, Td, n, an, sp, ri, ti, rd, K, P, kd, am, st, rg, congrArg (fun z => some (Value.int (zI z))) (by unfold rdZ; rw [hno.1, hno.2]; rfl), rfl, fun z => by rw [hno.1] at z; cases z⟩)
    · skip
      refine j_iload_n hJ (q := 26) dX7_tellRound_25 rfl 0 rfl rfl ?_
      refine jz_if_le hJ (q := 29) (tgt := 31) dX7_tellRound_26 (by decide) rfl (zI_nat 0).symm (by omega) (fun c94 => ?_) (fun c94 => ?_)
      · skip
        refine j_aload_n hJ (q := 32) dX7_tellRound_31 rfl 1 rfl rfl ?_
        refine j_iload_n hJ (q := 33) dX7_tellRound_32 rfl 0 rfl rfl ?_
        refine jn_if_ne hJ (q := 36) (tgt := 43) dX7_tellRound_33 (by decide) rfl (by omega) (fun c95 => ?_) (fun c95 => ?_)
        · skip
          exfalso; omega
        · skip
          refine j_aload_n hJ (q := 37) dX7_tellRound_36 rfl 1 rfl rfl ?_
          refine j_vR hJ (q := 40) (rest := [.ref ht]) (As := []) jl_X7_32 (c_X7_firstItem Z ht bt tt L By (sk By L 0) nz1 im (by omega) hby hp0.2) 0 rfl rfl dX7_tellRound_37 rfl (by decide) (Nat.le_of_ble_eq_true rfl) [0, 1] rfl rfl (fun rv hp => ?_)
          rcases hp with ⟨a96, rfl⟩ | ⟨a97, rfl⟩
          · skip
            show J 40 [(2, .int (nI 0)), (0, .ref ht), (1, .ref h)] [.int (nI 1), .ref ht] [(ht, .inr (5, [.int (nI L), .ref bt, .int (nI (tkK By L (sk By L 0))), .int (nI (sk By L 0)), .int (nI (sk By L 0 + tkL By L (sk By L 0))), .int nz1, .int (nI im), .ref tt])), (bt, ba Z 150 (ni By)), (tt, ia Z 3 Td), cO h q n an sp ri ti rd, (q 0, ia Z 12 (ni K)), (q 1, ia Z 12 (ni P)), (q 2, ia Z 6 (ni kd)), (q 3, ia Z 6 (ni am)), (q 4, ia Z 6 (ni st)), (q 5, ia Z 6 (ni rg))] 0 0
            have hw0 := a96
            refine j_goto hJ (q := 47) dX7_tellRound_40 (by decide) ?_
            refine j_put hJ (q := 50) (ws' := [(ht, .inr (5, [.int (nI L), .ref bt, .int (nI (tkK By L (sk By L 0))), .int (nI (sk By L 0)), .int (nI (sk By L 0 + tkL By L (sk By L 0))), .int nz1, .int (nI 1), .ref tt])), (bt, ba Z 150 (ni By)), (tt, ia Z 3 Td), cO h q n an sp ri ti rd, (q 0, ia Z 12 (ni K)), (q 1, ia Z 12 (ni P)), (q 2, ia Z 6 (ni kd)), (q 3, ia Z 6 (ni am)), (q 4, ia Z 6 (ni st)), (q 5, ia Z 6 (ni rg))]) jp_X7_39 dX7_tellRound_47 0 rfl rfl rfl (Nat.le_of_ble_eq_true rfl) rfl rfl ?_
            refine j_aload_n hJ (q := 51) dX7_tellRound_50 rfl 1 rfl rfl ?_
            refine j_aload_n hJ (q := 52) dX7_tellRound_51 rfl 2 rfl rfl ?_
            refine j_vW hJ (q := 55) (rest := []) (As := [.ref h]) (wr := []) jl_X7_42 (c_X7_isItem1 Z ht bt tt L By (sk By L 0) nz1 Td h q n an sp ri ti rd K P kd am st rg (by omega) hby (by omega)) 0 rfl rfl dX7_tellRound_52 rfl (by decide) (Nat.le_of_ble_eq_true rfl) [0, 1, 2, 3, 4, 5, 6, 7, 8, 9] [] rfl rfl rfl rfl (by decide) rfl (fun rv wv hp => ?_)
            rcases hp with ⟨Tz98, nz99, a100, rfl, rfl, f101, f102⟩ | ⟨Tz103, nz104, a105, rfl, rfl⟩
            · skip
              show J 55 [(2, .int (nI 0)), (0, .ref ht), (1, .ref h)] [.int (nI 1)] [(ht, .inr (5, [.int (nI L), .ref bt, .int (nI (tkK By L (nx By L (nx By L (nx By L (sk By L 0)))))), .int (nI (nx By L (nx By L (nx By L (sk By L 0))))), .int (nI ((nx By L (nx By L (nx By L (sk By L 0)))) + tkL By L (nx By L (nx By L (nx By L (sk By L 0)))))), .int nz99, .int (nI 1), .ref tt])), (bt, ba Z 150 (ni By)), (tt, ia Z 3 Tz98), cO h q n an sp ri ti rd, (q 0, ia Z 12 (ni K)), (q 1, ia Z 12 (ni P)), (q 2, ia Z 6 (ni kd)), (q 3, ia Z 6 (ni am)), (q 4, ia Z 6 (ni st)), (q 5, ia Z 6 (ni rg))] 0 0
              have hc1 := a100
              have hT0 := f101
              have hT1 := f102
              have hn1 := nx_in (By := By) (L := L) (p := sk By L 0) hp0.2
              have hn2 := nx_in (By := By) (L := L) (p := nx By L (sk By L 0)) hn1.2
              have hn3 := nx_in (By := By) (L := L) (p := nx By L (nx By L (sk By L 0))) hn2.2
              have hn4 := nx_in (By := By) (L := L) (p := nx By L (nx By L (nx By L (sk By L 0)))) hn3.2
              have hg1 := nx_gt (By := By) (L := L) (p := nx By L (sk By L 0)) hn1.2 (by rw [hc1.1.1]; decide)
              refine jn_if_ne hJ (q := 58) (tgt := 66) dX7_tellRound_55 (by decide) rfl (by omega) (fun c106 => ?_) (fun c106 => ?_)
              · skip
                refine j_aload_n hJ (q := 67) dX7_tellRound_66 rfl 1 rfl rfl ?_
                refine j_aload_n hJ (q := 68) dX7_tellRound_67 rfl 2 rfl rfl ?_
                refine j_vW hJ (q := 71) (rest := []) (As := [.ref h]) (wr := [(bt, ba Z 150 (ni By))]) jl_X7_49 (c_X7_apply1 Z ht tt L (tkK By L (nx By L (nx By L (nx By L (sk By L 0))))) (nx By L (nx By L (nx By L (sk By L 0)))) ((nx By L (nx By L (nx By L (sk By L 0)))) + tkL By L (nx By L (nx By L (nx By L (sk By L 0))))) nz99 bt Tz98 h q n an sp ri ti rd K P kd am st rg (tkV By L (nx By L (sk By L 0))) (tkV By L (nx By L (nx By L (sk By L 0)))) hT0 hT1) 0 rfl rfl dX7_tellRound_68 rfl (by decide) (Nat.le_of_ble_eq_true rfl) [0, 2, 3, 4, 5, 6, 7, 8, 9] [1] rfl rfl rfl rfl (by decide) rfl (fun rv wv hp => ?_)
                obtain ⟨Kz107, Pz108, rfl, rfl, f109⟩ := hp
                refine j_world hJ (ws' := [(ht, .inr (5, [.int (nI L), .ref bt, .int (nI (tkK By L (nx By L (nx By L (nx By L (sk By L 0)))))), .int (nI (nx By L (nx By L (nx By L (sk By L 0))))), .int (nI ((nx By L (nx By L (nx By L (sk By L 0)))) + tkL By L (nx By L (nx By L (nx By L (sk By L 0)))))), .int nz99, .int (nI 1), .ref tt])), (bt, ba Z 150 (ni By)), (tt, ia Z 3 Tz98), cO h q (tkV By L (nx By L (sk By L 0))) 0 (tkV By L (nx By L (nx By L (sk By L 0)))) 8 0 0, (q 0, ia Z 12 (ni Kz107)), (q 1, ia Z 12 (ni Pz108)), (q 2, ia Z 6 (ni kd)), (q 3, ia Z 6 (ni am)), (q 4, ia Z 6 (ni st)), (q 5, ia Z 6 (ni rg))]) [1, 0, 2, 3, 4, 5, 6, 7, 8, 9] rfl rfl ?_
                show J 71 [(2, .int (nI 0)), (0, .ref ht), (1, .ref h)] [] [(ht, .inr (5, [.int (nI L), .ref bt, .int (nI (tkK By L (nx By L (nx By L (nx By L (sk By L 0)))))), .int (nI (nx By L (nx By L (nx By L (sk By L 0))))), .int (nI ((nx By L (nx By L (nx By L (sk By L 0)))) + tkL By L (nx By L (nx By L (nx By L (sk By L 0)))))), .int nz99, .int (nI 1), .ref tt])), (bt, ba Z 150 (ni By)), (tt, ia Z 3 Tz98), cO h q (tkV By L (nx By L (sk By L 0))) 0 (tkV By L (nx By L (nx By L (sk By L 0)))) 8 0 0, (q 0, ia Z 12 (ni Kz107)), (q 1, ia Z 12 (ni Pz108)), (q 2, ia Z 6 (ni kd)), (q 3, ia Z 6 (ni am)), (q 4, ia Z 6 (ni st)), (q 5, ia Z 6 (ni rg))] 0 0
                have hz0 := f109
                have hR1 := rR_beg (A := fun _ => 0) (n := tkV By L (nx By L (sk By L 0))) (v := tkV By L (nx By L (nx By L (sk By L 0)))) (kd := kd) (am := am) (st := st) (rg := rg) hc1.1.2.2 hz0
                refine j_aload_n hJ (q := 72) dX7_tellRound_71 rfl 1 rfl rfl ?_
                refine j_vW hJ (q := 75) (rest := []) (As := []) (wr := [(tt, ia Z 3 Tz98), cO h q (tkV By L (nx By L (sk By L 0))) 0 (tkV By L (nx By L (nx By L (sk By L 0)))) 8 0 0, (q 0, ia Z 12 (ni Kz107)), (q 1, ia Z 12 (ni Pz108)), (q 2, ia Z 6 (ni kd)), (q 3, ia Z 6 (ni am)), (q 4, ia Z 6 (ni st)), (q 5, ia Z 6 (ni rg))]) jl_X7_26 (c_X7_nextN Z ht bt tt L By (nx By L (nx By L (nx By L (sk By L 0)))) nz99 1 (by omega) hby (by omega)) 0 rfl rfl dX7_tellRound_72 rfl (by decide) (Nat.le_of_ble_eq_true rfl) [0, 1] [2, 3, 4, 5, 6, 7, 8, 9] rfl rfl rfl rfl (by decide) rfl (fun rv wv hp => ?_)
                obtain ⟨nz110, rfl, rfl, f111⟩ := hp
                refine j_world hJ (ws' := [(ht, .inr (5, [.int (nI L), .ref bt, .int (nI (tkK By L (nx By L (nx By L (nx By L (nx By L (sk By L 0))))))), .int (nI (nx By L (nx By L (nx By L (nx By L (sk By L 0)))))), .int (nI ((nx By L (nx By L (nx By L (nx By L (sk By L 0))))) + tkL By L (nx By L (nx By L (nx By L (nx By L (sk By L 0))))))), .int nz110, .int (nI 1), .ref tt])), (bt, ba Z 150 (ni By)), (tt, ia Z 3 Tz98), cO h q (tkV By L (nx By L (sk By L 0))) 0 (tkV By L (nx By L (nx By L (sk By L 0)))) 8 0 0, (q 0, ia Z 12 (ni Kz107)), (q 1, ia Z 12 (ni Pz108)), (q 2, ia Z 6 (ni kd)), (q 3, ia Z 6 (ni am)), (q 4, ia Z 6 (ni st)), (q 5, ia Z 6 (ni rg))]) [8, 9, 0, 1, 2, 3, 4, 5, 6, 7] rfl rfl ?_
                show J 75 [(2, .int (nI 0)), (0, .ref ht), (1, .ref h)] [] [(ht, .inr (5, [.int (nI L), .ref bt, .int (nI (tkK By L (nx By L (nx By L (nx By L (nx By L (sk By L 0))))))), .int (nI (nx By L (nx By L (nx By L (nx By L (sk By L 0)))))), .int (nI ((nx By L (nx By L (nx By L (nx By L (sk By L 0))))) + tkL By L (nx By L (nx By L (nx By L (nx By L (sk By L 0))))))), .int nz110, .int (nI 1), .ref tt])), (bt, ba Z 150 (ni By)), (tt, ia Z 3 Tz98), cO h q (tkV By L (nx By L (sk By L 0))) 0 (tkV By L (nx By L (nx By L (sk By L 0)))) 8 0 0, (q 0, ia Z 12 (ni Kz107)), (q 1, ia Z 12 (ni Pz108)), (q 2, ia Z 6 (ni kd)), (q 3, ia Z 6 (ni am)), (q 4, ia Z 6 (ni st)), (q 5, ia Z 6 (ni rg))] 0 0
                refine j_iinc hJ (q := 78) (lvs' := [(2, .int (nI (0 + 1))), (0, .ref ht), (1, .ref h)]) dX7_tellRound_75 0 rfl (by rw [show Int32.ofInt 1 = nI 1 from by decide +kernel]; exact nI_add _ _) (by decide) rfl rfl ?_
                refine j_goto hJ (q := 11) dX7_tellRound_78 (by decide) ?_
                have L_11 : ∀ (fu_11 : Nat) (B : Nat → Nat) (fl : Nat) (Kb : Nat → Nat) (Pb : Nat → Nat) (kb : Nat → Nat) (ab : Nat → Nat) (sb : Nat → Nat) (gb : Nat → Nat) (Tb : Nat → Int32) (p : Nat) (nn : Int32) (ii : Nat) (it : Nat), fl < fu_11 → (p ≤ L) → (L < fl + p) → (1 ≤ it ∧ it ≤ p) → (wf B) → (rR B Kb Pb kb ab sb gb) → (rdR By L = rdF By L fl p B it) → J 11 [(0, .ref ht), (1, .ref h), (2, .int (nI it))] [] [(ht, .inr (5, [.int (nI L), .ref bt, .int (nI (tkK By L p)), .int (nI p), .int (nI (p + tkL By L p)), .int nn, .int (nI ii), .ref tt])), (bt, ba Z 150 (ni By)), (tt, ia Z 3 Tb), cO h q (B 21) (B 5) (B 6) (B 7) (B 8) (B 0), (q 0, ia Z 12 (ni Kb)), (q 1, ia Z 12 (ni Pb)), (q 2, ia Z 6 (ni kb)), (q 3, ia Z 6 (ni ab)), (q 4, ia Z 6 (ni sb)), (q 5, ia Z 6 (ni gb))] 0 0 := by
                  intro fu_11
                  induction fu_11 with
                  | zero => intro B fl Kb Pb kb ab sb gb Tb p nn ii it hm; exact absurd hm (Nat.not_lt_zero _)
                  | succ fu_11 ih_11 =>
                    intro B fl Kb Pb kb ab sb gb Tb p nn ii it hm_11 hp hfl hit hwB hRB hR0
                    obtain ⟨⟨b1, b2, b3, b4, b5, b6⟩, hbb, -⟩ := id hwB
                    have hk4 := tkK_le (By := By) (L := L) (p := p)
                    refine j_iload_n hJ (q := 12) dX7_tellRound_11 rfl 2 rfl rfl ?_
                    refine j_sipush hJ (q := 15) dX7_tellRound_12 rfl ks_150 ?_
                    refine jn_icmp_gt hJ (q := 18) (tgt := 81) dX7_tellRound_15 (by decide) rfl (by omega) (by omega) (fun c112 => ?_) (fun c112 => ?_)
                    · skip
                      exfalso; omega
                    · skip
                      refine j_aload_n hJ (q := 19) dX7_tellRound_18 rfl 0 rfl rfl ?_
                      refine j_get hJ (q := 22) jf_X7_29 dX7_tellRound_19 0 rfl rfl rfl ?_
                      refine jn_if_ne hJ (q := 25) (tgt := 31) dX7_tellRound_22 (by decide) rfl (by omega) (fun c113 => ?_) (fun c113 => ?_)
                      · skip
                        refine j_aload_n hJ (q := 32) dX7_tellRound_31 rfl 0 rfl rfl ?_
                        refine j_iload_n hJ (q := 33) dX7_tellRound_32 rfl 2 rfl rfl ?_
                        refine jn_if_ne hJ (q := 36) (tgt := 43) dX7_tellRound_33 (by decide) rfl (by omega) (fun c114 => ?_) (fun c114 => ?_)
                        · skip
                          refine j_aload_n hJ (q := 44) dX7_tellRound_43 rfl 0 rfl rfl ?_
                          refine j_vR hJ (q := 47) (rest := [.ref ht]) (As := []) jl_X7_36 (c_X7_laterItem Z ht bt tt L By p nn ii (by omega) hby hp) 0 rfl rfl dX7_tellRound_44 rfl (by decide) (Nat.le_of_ble_eq_true rfl) [0, 1] rfl rfl (fun rv hp => ?_)
                          rcases hp with ⟨a115, rfl⟩ | ⟨a116, rfl⟩ | ⟨a117, rfl⟩ | ⟨a118, rfl⟩ | ⟨a119, rfl⟩
                          · skip
                            show J 47 [(0, .ref ht), (1, .ref h), (2, .int (nI it))] [.int (nI 2), .ref ht] [(ht, .inr (5, [.int (nI L), .ref bt, .int (nI (tkK By L p)), .int (nI p), .int (nI (p + tkL By L p)), .int nn, .int (nI ii), .ref tt])), (bt, ba Z 150 (ni By)), (tt, ia Z 3 Tb), cO h q (B 21) (B 5) (B 6) (B 7) (B 8) (B 0), (q 0, ia Z 12 (ni Kb)), (q 1, ia Z 12 (ni Pb)), (q 2, ia Z 6 (ni kb)), (q 3, ia Z 6 (ni ab)), (q 4, ia Z 6 (ni sb)), (q 5, ia Z 6 (ni gb))] 0 0
                            have htk : ¬ tkK By L p = 0 := by assumption
                            have hti : tiF By L p B = thF By L p B := by unfold tiF; rw [if_pos a115]
                            refine j_put hJ (q := 50) (ws' := [(ht, .inr (5, [.int (nI L), .ref bt, .int (nI (tkK By L p)), .int (nI p), .int (nI (p + tkL By L p)), .int nn, .int (nI 2), .ref tt])), (bt, ba Z 150 (ni By)), (tt, ia Z 3 Tb), cO h q (B 21) (B 5) (B 6) (B 7) (B 8) (B 0), (q 0, ia Z 12 (ni Kb)), (q 1, ia Z 12 (ni Pb)), (q 2, ia Z 6 (ni kb)), (q 3, ia Z 6 (ni ab)), (q 4, ia Z 6 (ni sb)), (q 5, ia Z 6 (ni gb))]) jp_X7_39 dX7_tellRound_47 0 rfl rfl rfl (Nat.le_of_ble_eq_true rfl) rfl rfl ?_
                            refine j_aload_n hJ (q := 51) dX7_tellRound_50 rfl 0 rfl rfl ?_
                            refine j_aload_n hJ (q := 52) dX7_tellRound_51 rfl 1 rfl rfl ?_
                            refine j_vW hJ (q := 55) (rest := []) (As := [.ref h]) (wr := []) jl_X7_42 (c_X7_isItem2 Z ht bt tt L By p nn Tb h q B Kb Pb kb ab sb gb (by omega) hby (by omega) hwB hRB) 0 rfl rfl dX7_tellRound_52 rfl (by decide) (Nat.le_of_ble_eq_true rfl) [0, 1, 2, 3, 4, 5, 6, 7, 8, 9] [] rfl rfl rfl rfl (by decide) rfl (fun rv wv hp => ?_)
                            rcases hp with ⟨Tz120, nz121, a122, rfl, rfl, f123, f124, f125⟩ | ⟨Tz126, nz127, a128, rfl, rfl⟩
                            · skip
                              show J 55 [(0, .ref ht), (1, .ref h), (2, .int (nI it))] [.int (nI 1)] [(ht, .inr (5, [.int (nI L), .ref bt, .int (nI (tkK By L ((thF By L p B).2.1))), .int (nI ((thF By L p B).2.1)), .int (nI (((thF By L p B).2.1) + tkL By L ((thF By L p B).2.1))), .int nz121, .int (nI 2), .ref tt])), (bt, ba Z 150 (ni By)), (tt, ia Z 3 Tz120), cO h q (B 21) (B 5) (B 6) (B 7) (B 8) (B 0), (q 0, ia Z 12 (ni Kb)), (q 1, ia Z 12 (ni Pb)), (q 2, ia Z 6 (ni kb)), (q 3, ia Z 6 (ni ab)), (q 4, ia Z 6 (ni sb)), (q 5, ia Z 6 (ni gb))] 0 0
                              have hy := a122
                              have hrow := thF_row (By := By) (L := L) (p := p) (An := B) hy.1
                              have hT0 := f123
                              have hT1 := f124
                              have hT2 := f125
                              have hpin := tiF_in (By := By) (L := L) (An := B) hp
                              rw [hti] at hpin
                              have hng := nx_gt (By := By) (L := L) (p := (thF By L p B).2.1) hpin.2 (by rw [hy.2]; decide)
                              have hnx := nx_in (By := By) (L := L) (p := (thF By L p B).2.1) hpin.2
                              have hwC := wf_tiF (By := By) (L := L) (p := p) hwB
                              rw [hti, hrow] at hwC
                              have hgo := rd_go hR0 htk (by omega) hti hy hrow
                              refine jn_if_ne hJ (q := 58) (tgt := 66) dX7_tellRound_55 (by decide) rfl (by omega) (fun c129 => ?_) (fun c129 => ?_)
                              · skip
                                refine j_aload_n hJ (q := 67) dX7_tellRound_66 rfl 0 rfl rfl ?_
                                refine j_aload_n hJ (q := 68) dX7_tellRound_67 rfl 1 rfl rfl ?_
                                refine j_vW hJ (q := 71) (rest := []) (As := [.ref h]) (wr := [(bt, ba Z 150 (ni By))]) jl_X7_49 (c_X7_apply2 Z ht tt L (tkK By L ((thF By L p B).2.1)) ((thF By L p B).2.1) (((thF By L p B).2.1) + tkL By L ((thF By L p B).2.1)) nz121 bt Tz120 h q B Kb Pb kb ab sb gb (tkV By L (nx By L p)) (tkV By L (nx By L (nx By L p))) (tkV By L (nx By L (nx By L (nx By L p)))) hwB hRB (by have := (th_ok hy.1).2.2; omega) hT0 hT1 hT2) 0 rfl rfl dX7_tellRound_68 rfl (by decide) (Nat.le_of_ble_eq_true rfl) [0, 2, 3, 4, 5, 6, 7, 8, 9] [1] rfl rfl rfl rfl (by decide) rfl (fun rv wv hp => ?_)
                                obtain ⟨Kz130, Pz131, rfl, rfl, f132⟩ := hp
                                refine j_world hJ (ws' := [(ht, .inr (5, [.int (nI L), .ref bt, .int (nI (tkK By L ((thF By L p B).2.1))), .int (nI ((thF By L p B).2.1)), .int (nI (((thF By L p B).2.1) + tkL By L ((thF By L p B).2.1))), .int nz121, .int (nI 2), .ref tt])), (bt, ba Z 150 (ni By)), (tt, ia Z 3 Tz120), cO h q ((va_up (va_up B (34 + (tkV By L (nx By L p))) (tkV By L (nx By L (nx By L p)))) (46 + (tkV By L (nx By L p))) (tkV By L (nx By L (nx By L (nx By L p))))) 21) ((va_up (va_up B (34 + (tkV By L (nx By L p))) (tkV By L (nx By L (nx By L p)))) (46 + (tkV By L (nx By L p))) (tkV By L (nx By L (nx By L (nx By L p))))) 5) ((va_up (va_up B (34 + (tkV By L (nx By L p))) (tkV By L (nx By L (nx By L p)))) (46 + (tkV By L (nx By L p))) (tkV By L (nx By L (nx By L (nx By L p))))) 6) ((va_up (va_up B (34 + (tkV By L (nx By L p))) (tkV By L (nx By L (nx By L p)))) (46 + (tkV By L (nx By L p))) (tkV By L (nx By L (nx By L (nx By L p))))) 7) ((va_up (va_up B (34 + (tkV By L (nx By L p))) (tkV By L (nx By L (nx By L p)))) (46 + (tkV By L (nx By L p))) (tkV By L (nx By L (nx By L (nx By L p))))) 8) ((va_up (va_up B (34 + (tkV By L (nx By L p))) (tkV By L (nx By L (nx By L p)))) (46 + (tkV By L (nx By L p))) (tkV By L (nx By L (nx By L (nx By L p))))) 0), (q 0, ia Z 12 (ni Kz130)), (q 1, ia Z 12 (ni Pz131)), (q 2, ia Z 6 (ni kb)), (q 3, ia Z 6 (ni ab)), (q 4, ia Z 6 (ni sb)), (q 5, ia Z 6 (ni gb))]) [1, 0, 2, 3, 4, 5, 6, 7, 8, 9] rfl rfl ?_
                                show J 71 [(0, .ref ht), (1, .ref h), (2, .int (nI it))] [] [(ht, .inr (5, [.int (nI L), .ref bt, .int (nI (tkK By L ((thF By L p B).2.1))), .int (nI ((thF By L p B).2.1)), .int (nI (((thF By L p B).2.1) + tkL By L ((thF By L p B).2.1))), .int nz121, .int (nI 2), .ref tt])), (bt, ba Z 150 (ni By)), (tt, ia Z 3 Tz120), cO h q ((va_up (va_up B (34 + (tkV By L (nx By L p))) (tkV By L (nx By L (nx By L p)))) (46 + (tkV By L (nx By L p))) (tkV By L (nx By L (nx By L (nx By L p))))) 21) ((va_up (va_up B (34 + (tkV By L (nx By L p))) (tkV By L (nx By L (nx By L p)))) (46 + (tkV By L (nx By L p))) (tkV By L (nx By L (nx By L (nx By L p))))) 5) ((va_up (va_up B (34 + (tkV By L (nx By L p))) (tkV By L (nx By L (nx By L p)))) (46 + (tkV By L (nx By L p))) (tkV By L (nx By L (nx By L (nx By L p))))) 6) ((va_up (va_up B (34 + (tkV By L (nx By L p))) (tkV By L (nx By L (nx By L p)))) (46 + (tkV By L (nx By L p))) (tkV By L (nx By L (nx By L (nx By L p))))) 7) ((va_up (va_up B (34 + (tkV By L (nx By L p))) (tkV By L (nx By L (nx By L p)))) (46 + (tkV By L (nx By L p))) (tkV By L (nx By L (nx By L (nx By L p))))) 8) ((va_up (va_up B (34 + (tkV By L (nx By L p))) (tkV By L (nx By L (nx By L p)))) (46 + (tkV By L (nx By L p))) (tkV By L (nx By L (nx By L (nx By L p))))) 0), (q 0, ia Z 12 (ni Kz130)), (q 1, ia Z 12 (ni Pz131)), (q 2, ia Z 6 (ni kb)), (q 3, ia Z 6 (ni ab)), (q 4, ia Z 6 (ni sb)), (q 5, ia Z 6 (ni gb))] 0 0
                                have hRC := f132
                                refine j_aload_n hJ (q := 72) dX7_tellRound_71 rfl 0 rfl rfl ?_
                                refine j_vW hJ (q := 75) (rest := []) (As := []) (wr := [(tt, ia Z 3 Tz120), cO h q ((va_up (va_up B (34 + (tkV By L (nx By L p))) (tkV By L (nx By L (nx By L p)))) (46 + (tkV By L (nx By L p))) (tkV By L (nx By L (nx By L (nx By L p))))) 21) ((va_up (va_up B (34 + (tkV By L (nx By L p))) (tkV By L (nx By L (nx By L p)))) (46 + (tkV By L (nx By L p))) (tkV By L (nx By L (nx By L (nx By L p))))) 5) ((va_up (va_up B (34 + (tkV By L (nx By L p))) (tkV By L (nx By L (nx By L p)))) (46 + (tkV By L (nx By L p))) (tkV By L (nx By L (nx By L (nx By L p))))) 6) ((va_up (va_up B (34 + (tkV By L (nx By L p))) (tkV By L (nx By L (nx By L p)))) (46 + (tkV By L (nx By L p))) (tkV By L (nx By L (nx By L (nx By L p))))) 7) ((va_up (va_up B (34 + (tkV By L (nx By L p))) (tkV By L (nx By L (nx By L p)))) (46 + (tkV By L (nx By L p))) (tkV By L (nx By L (nx By L (nx By L p))))) 8) ((va_up (va_up B (34 + (tkV By L (nx By L p))) (tkV By L (nx By L (nx By L p)))) (46 + (tkV By L (nx By L p))) (tkV By L (nx By L (nx By L (nx By L p))))) 0), (q 0, ia Z 12 (ni Kz130)), (q 1, ia Z 12 (ni Pz131)), (q 2, ia Z 6 (ni kb)), (q 3, ia Z 6 (ni ab)), (q 4, ia Z 6 (ni sb)), (q 5, ia Z 6 (ni gb))]) jl_X7_26 (c_X7_nextN Z ht bt tt L By ((thF By L p B).2.1) nz121 2 (by omega) hby (by omega)) 0 rfl rfl dX7_tellRound_72 rfl (by decide) (Nat.le_of_ble_eq_true rfl) [0, 1] [2, 3, 4, 5, 6, 7, 8, 9] rfl rfl rfl rfl (by decide) rfl (fun rv wv hp => ?_)
                                obtain ⟨nz133, rfl, rfl, f134⟩ := hp
                                refine j_world hJ (ws' := [(ht, .inr (5, [.int (nI L), .ref bt, .int (nI (tkK By L (nx By L ((thF By L p B).2.1)))), .int (nI (nx By L ((thF By L p B).2.1))), .int (nI ((nx By L ((thF By L p B).2.1)) + tkL By L (nx By L ((thF By L p B).2.1)))), .int nz133, .int (nI 2), .ref tt])), (bt, ba Z 150 (ni By)), (tt, ia Z 3 Tz120), cO h q ((va_up (va_up B (34 + (tkV By L (nx By L p))) (tkV By L (nx By L (nx By L p)))) (46 + (tkV By L (nx By L p))) (tkV By L (nx By L (nx By L (nx By L p))))) 21) ((va_up (va_up B (34 + (tkV By L (nx By L p))) (tkV By L (nx By L (nx By L p)))) (46 + (tkV By L (nx By L p))) (tkV By L (nx By L (nx By L (nx By L p))))) 5) ((va_up (va_up B (34 + (tkV By L (nx By L p))) (tkV By L (nx By L (nx By L p)))) (46 + (tkV By L (nx By L p))) (tkV By L (nx By L (nx By L (nx By L p))))) 6) ((va_up (va_up B (34 + (tkV By L (nx By L p))) (tkV By L (nx By L (nx By L p)))) (46 + (tkV By L (nx By L p))) (tkV By L (nx By L (nx By L (nx By L p))))) 7) ((va_up (va_up B (34 + (tkV By L (nx By L p))) (tkV By L (nx By L (nx By L p)))) (46 + (tkV By L (nx By L p))) (tkV By L (nx By L (nx By L (nx By L p))))) 8) ((va_up (va_up B (34 + (tkV By L (nx By L p))) (tkV By L (nx By L (nx By L p)))) (46 + (tkV By L (nx By L p))) (tkV By L (nx By L (nx By L (nx By L p))))) 0), (q 0, ia Z 12 (ni Kz130)), (q 1, ia Z 12 (ni Pz131)), (q 2, ia Z 6 (ni kb)), (q 3, ia Z 6 (ni ab)), (q 4, ia Z 6 (ni sb)), (q 5, ia Z 6 (ni gb))]) [8, 9, 0, 1, 2, 3, 4, 5, 6, 7] rfl rfl ?_
                                show J 75 [(0, .ref ht), (1, .ref h), (2, .int (nI it))] [] [(ht, .inr (5, [.int (nI L), .ref bt, .int (nI (tkK By L (nx By L ((thF By L p B).2.1)))), .int (nI (nx By L ((thF By L p B).2.1))), .int (nI ((nx By L ((thF By L p B).2.1)) + tkL By L (nx By L ((thF By L p B).2.1)))), .int nz133, .int (nI 2), .ref tt])), (bt, ba Z 150 (ni By)), (tt, ia Z 3 Tz120), cO h q ((va_up (va_up B (34 + (tkV By L (nx By L p))) (tkV By L (nx By L (nx By L p)))) (46 + (tkV By L (nx By L p))) (tkV By L (nx By L (nx By L (nx By L p))))) 21) ((va_up (va_up B (34 + (tkV By L (nx By L p))) (tkV By L (nx By L (nx By L p)))) (46 + (tkV By L (nx By L p))) (tkV By L (nx By L (nx By L (nx By L p))))) 5) ((va_up (va_up B (34 + (tkV By L (nx By L p))) (tkV By L (nx By L (nx By L p)))) (46 + (tkV By L (nx By L p))) (tkV By L (nx By L (nx By L (nx By L p))))) 6) ((va_up (va_up B (34 + (tkV By L (nx By L p))) (tkV By L (nx By L (nx By L p)))) (46 + (tkV By L (nx By L p))) (tkV By L (nx By L (nx By L (nx By L p))))) 7) ((va_up (va_up B (34 + (tkV By L (nx By L p))) (tkV By L (nx By L (nx By L p)))) (46 + (tkV By L (nx By L p))) (tkV By L (nx By L (nx By L (nx By L p))))) 8) ((va_up (va_up B (34 + (tkV By L (nx By L p))) (tkV By L (nx By L (nx By L p)))) (46 + (tkV By L (nx By L p))) (tkV By L (nx By L (nx By L (nx By L p))))) 0), (q 0, ia Z 12 (ni Kz130)), (q 1, ia Z 12 (ni Pz131)), (q 2, ia Z 6 (ni kb)), (q 3, ia Z 6 (ni ab)), (q 4, ia Z 6 (ni sb)), (q 5, ia Z 6 (ni gb))] 0 0
                                refine j_iinc hJ (q := 78) (lvs' := [(2, .int (nI (it + 1))), (0, .ref ht), (1, .ref h)]) dX7_tellRound_75 2 rfl (by rw [show Int32.ofInt 1 = nI 1 from by decide +kernel]; exact nI_add _ _) (by decide) rfl rfl ?_
                                refine j_goto hJ (q := 11) dX7_tellRound_78 (by decide) ?_
                                refine j_locals hJ [1, 2, 0] rfl ?_
                                exact ih_11 (va_up (va_up B (34 + (tkV By L (nx By L p))) (tkV By L (nx By L (nx By L p)))) (46 + (tkV By L (nx By L p))) (tkV By L (nx By L (nx By L (nx By L p))))) (fl - 1) Kz130 Pz131 kb ab sb gb Tz120 (nx By L ((thF By L p B).2.1)) nz133 2 (it + 1) (by omega) hnx.2 (by omega) (by omega) hwC hRC hgo
                              · skip
                                exfalso; omega
                            · skip
                              show J 55 [(0, .ref ht), (1, .ref h), (2, .int (nI it))] [.int (nI 0)] [(ht, .inr (5, [.int (nI L), .ref bt, .int (nI (tkK By L ((thF By L p B).2.1))), .int (nI ((thF By L p B).2.1)), .int (nI (((thF By L p B).2.1) + tkL By L ((thF By L p B).2.1))), .int nz127, .int (nI 2), .ref tt])), (bt, ba Z 150 (ni By)), (tt, ia Z 3 Tz126), cO h q (B 21) (B 5) (B 6) (B 7) (B 8) (B 0), (q 0, ia Z 12 (ni Kb)), (q 1, ia Z 12 (ni Pb)), (q 2, ia Z 6 (ni kb)), (q 3, ia Z 6 (ni ab)), (q 4, ia Z 6 (ni sb)), (q 5, ia Z 6 (ni gb))] 0 0
                              have hno := rd_fl hR0 htk (by omega) hti a128
                              refine jn_if_ne hJ (q := 58) (tgt := 66) dX7_tellRound_55 (by decide) rfl (by omega) (fun c135 => ?_) (fun c135 => ?_)
                              · skip
                                exfalso; omega
                              · skip
                                refine j_bipush hJ (q := 60) dX7_tellRound_58 rfl kb_m10 ?_
                                refine j_aload_n hJ (q := 61) dX7_tellRound_60 rfl 0 rfl rfl ?_
                                refine j_get hJ (q := 64) jf_X7_46 dX7_tellRound_61 0 rfl rfl rfl ?_
                                refine j_isub hJ (q := 65) dX7_tellRound_64 rfl (zI_sub rfl (zI_nat ((thF By L p B).2.1)).symm) ?_
                                exact hE.1 _ _ _ _ _ _ _ rfl rfl dX7_tellRound_65 (Nat.le_refl _) (Nat.le_refl _) (⟨(tkK By L ((thF By L p B).2.1)), ((thF By L p B).2.1), (((thF By L p B).2.1) + tkL By L ((thF By L p B).2.1)), nz127, 2, Tz126, (B 21), (B 5), (B 6), (B 7), (B 8), (B 0), Kb, Pb, kb, ab, sb, gb, congrArg (fun z => some (Value.int (zI z))) (by unfold rdZ; rw [hno.1, hno.2]; rfl), rfl, fun z => by rw [hno.1] at z; cases z⟩)
                          · skip
                            show J 47 [(0, .ref ht), (1, .ref h), (2, .int (nI it))] [.int (nI 3), .ref ht] [(ht, .inr (5, [.int (nI L), .ref bt, .int (nI (tkK By L p)), .int (nI p), .int (nI (p + tkL By L p)), .int nn, .int (nI ii), .ref tt])), (bt, ba Z 150 (ni By)), (tt, ia Z 3 Tb), cO h q (B 21) (B 5) (B 6) (B 7) (B 8) (B 0), (q 0, ia Z 12 (ni Kb)), (q 1, ia Z 12 (ni Pb)), (q 2, ia Z 6 (ni kb)), (q 3, ia Z 6 (ni ab)), (q 4, ia Z 6 (ni sb)), (q 5, ia Z 6 (ni gb))] 0 0
                            have htk : ¬ tkK By L p = 0 := by assumption
                            have hti : tiF By L p B = trF By L p B := by unfold tiF; rw [if_neg (by rw [a116.1]; decide), if_pos a116.2]
                            refine j_put hJ (q := 50) (ws' := [(ht, .inr (5, [.int (nI L), .ref bt, .int (nI (tkK By L p)), .int (nI p), .int (nI (p + tkL By L p)), .int nn, .int (nI 3), .ref tt])), (bt, ba Z 150 (ni By)), (tt, ia Z 3 Tb), cO h q (B 21) (B 5) (B 6) (B 7) (B 8) (B 0), (q 0, ia Z 12 (ni Kb)), (q 1, ia Z 12 (ni Pb)), (q 2, ia Z 6 (ni kb)), (q 3, ia Z 6 (ni ab)), (q 4, ia Z 6 (ni sb)), (q 5, ia Z 6 (ni gb))]) jp_X7_39 dX7_tellRound_47 0 rfl rfl rfl (Nat.le_of_ble_eq_true rfl) rfl rfl ?_
                            refine j_aload_n hJ (q := 51) dX7_tellRound_50 rfl 0 rfl rfl ?_
                            refine j_aload_n hJ (q := 52) dX7_tellRound_51 rfl 1 rfl rfl ?_
                            refine j_vW hJ (q := 55) (rest := []) (As := [.ref h]) (wr := []) jl_X7_42 (c_X7_isItem3 Z ht bt tt L By p nn Tb h q B Kb Pb kb ab sb gb (by omega) hby (by omega) hwB hRB) 0 rfl rfl dX7_tellRound_52 rfl (by decide) (Nat.le_of_ble_eq_true rfl) [0, 1, 2, 3, 4, 5, 6, 7, 8, 9] [] rfl rfl rfl rfl (by decide) rfl (fun rv wv hp => ?_)
                            rcases hp with ⟨Tz136, nz137, a138, rfl, rfl, f139, f140, f141, f142⟩ | ⟨Tz143, nz144, a145, rfl, rfl⟩
                            · skip
                              show J 55 [(0, .ref ht), (1, .ref h), (2, .int (nI it))] [.int (nI 1)] [(ht, .inr (5, [.int (nI L), .ref bt, .int (nI (tkK By L ((trF By L p B).2.1))), .int (nI ((trF By L p B).2.1)), .int (nI (((trF By L p B).2.1) + tkL By L ((trF By L p B).2.1))), .int nz137, .int (nI 3), .ref tt])), (bt, ba Z 150 (ni By)), (tt, ia Z 3 Tz136), cO h q (B 21) (B 5) (B 6) (B 7) (B 8) (B 0), (q 0, ia Z 12 (ni Kb)), (q 1, ia Z 12 (ni Pb)), (q 2, ia Z 6 (ni kb)), (q 3, ia Z 6 (ni ab)), (q 4, ia Z 6 (ni sb)), (q 5, ia Z 6 (ni gb))] 0 0
                              have hy := a138
                              have hrow := trF_row (By := By) (L := L) (p := p) (An := B) hy.1
                              have hT0 := f139
                              have hT1 := f140
                              have hT2 := f141
                              have hri := f142
                              have hpin := tiF_in (By := By) (L := L) (An := B) hp
                              rw [hti] at hpin
                              have hng := nx_gt (By := By) (L := L) (p := (trF By L p B).2.1) hpin.2 (by rw [hy.2]; decide)
                              have hnx := nx_in (By := By) (L := L) (p := (trF By L p B).2.1) hpin.2
                              have hwC := wf_tiF (By := By) (L := L) (p := p) hwB
                              rw [hti, hrow] at hwC
                              have hgo := rd_go hR0 htk (by omega) hti hy hrow
                              refine jn_if_ne hJ (q := 58) (tgt := 66) dX7_tellRound_55 (by decide) rfl (by omega) (fun c146 => ?_) (fun c146 => ?_)
                              · skip
                                refine j_aload_n hJ (q := 67) dX7_tellRound_66 rfl 0 rfl rfl ?_
                                refine j_aload_n hJ (q := 68) dX7_tellRound_67 rfl 1 rfl rfl ?_
                                refine j_vW hJ (q := 71) (rest := []) (As := [.ref h]) (wr := [(bt, ba Z 150 (ni By))]) jl_X7_49 (c_X7_apply3 Z ht tt L (tkK By L ((trF By L p B).2.1)) ((trF By L p B).2.1) (((trF By L p B).2.1) + tkL By L ((trF By L p B).2.1)) nz137 bt Tz136 h q B Kb Pb kb ab sb gb (tkV By L (nx By L p)) (tkV By L (nx By L (nx By L p))) (tkV By L (nx By L (nx By L (nx By L p)))) hwB hRB hri.1 hT0 hT1 hT2) 0 rfl rfl dX7_tellRound_68 rfl (by decide) (Nat.le_of_ble_eq_true rfl) [0, 2, 3, 4, 5, 6, 7, 8, 9] [1] rfl rfl rfl rfl (by decide) rfl (fun rv wv hp => ?_)
                                obtain ⟨k2147, a2148, s2149, g2150, rfl, rfl, f151⟩ := hp
                                refine j_world hJ (ws' := [(ht, .inr (5, [.int (nI L), .ref bt, .int (nI (tkK By L ((trF By L p B).2.1))), .int (nI ((trF By L p B).2.1)), .int (nI (((trF By L p B).2.1) + tkL By L ((trF By L p B).2.1))), .int nz137, .int (nI 3), .ref tt])), (bt, ba Z 150 (ni By)), (tt, ia Z 3 Tz136), cO h q ((layR B (tkV By L (nx By L p)) (tkV By L (nx By L (nx By L p))) (tkV By L (nx By L (nx By L (nx By L p))))) 21) ((layR B (tkV By L (nx By L p)) (tkV By L (nx By L (nx By L p))) (tkV By L (nx By L (nx By L (nx By L p))))) 5) ((layR B (tkV By L (nx By L p)) (tkV By L (nx By L (nx By L p))) (tkV By L (nx By L (nx By L (nx By L p))))) 6) ((layR B (tkV By L (nx By L p)) (tkV By L (nx By L (nx By L p))) (tkV By L (nx By L (nx By L (nx By L p))))) 7) ((layR B (tkV By L (nx By L p)) (tkV By L (nx By L (nx By L p))) (tkV By L (nx By L (nx By L (nx By L p))))) 8) ((layR B (tkV By L (nx By L p)) (tkV By L (nx By L (nx By L p))) (tkV By L (nx By L (nx By L (nx By L p))))) 0), (q 0, ia Z 12 (ni Kb)), (q 1, ia Z 12 (ni Pb)), (q 2, ia Z 6 (ni k2147)), (q 3, ia Z 6 (ni a2148)), (q 4, ia Z 6 (ni s2149)), (q 5, ia Z 6 (ni g2150))]) [1, 0, 2, 3, 4, 5, 6, 7, 8, 9] rfl rfl ?_
                                show J 71 [(0, .ref ht), (1, .ref h), (2, .int (nI it))] [] [(ht, .inr (5, [.int (nI L), .ref bt, .int (nI (tkK By L ((trF By L p B).2.1))), .int (nI ((trF By L p B).2.1)), .int (nI (((trF By L p B).2.1) + tkL By L ((trF By L p B).2.1))), .int nz137, .int (nI 3), .ref tt])), (bt, ba Z 150 (ni By)), (tt, ia Z 3 Tz136), cO h q ((layR B (tkV By L (nx By L p)) (tkV By L (nx By L (nx By L p))) (tkV By L (nx By L (nx By L (nx By L p))))) 21) ((layR B (tkV By L (nx By L p)) (tkV By L (nx By L (nx By L p))) (tkV By L (nx By L (nx By L (nx By L p))))) 5) ((layR B (tkV By L (nx By L p)) (tkV By L (nx By L (nx By L p))) (tkV By L (nx By L (nx By L (nx By L p))))) 6) ((layR B (tkV By L (nx By L p)) (tkV By L (nx By L (nx By L p))) (tkV By L (nx By L (nx By L (nx By L p))))) 7) ((layR B (tkV By L (nx By L p)) (tkV By L (nx By L (nx By L p))) (tkV By L (nx By L (nx By L (nx By L p))))) 8) ((layR B (tkV By L (nx By L p)) (tkV By L (nx By L (nx By L p))) (tkV By L (nx By L (nx By L (nx By L p))))) 0), (q 0, ia Z 12 (ni Kb)), (q 1, ia Z 12 (ni Pb)), (q 2, ia Z 6 (ni k2147)), (q 3, ia Z 6 (ni a2148)), (q 4, ia Z 6 (ni s2149)), (q 5, ia Z 6 (ni g2150))] 0 0
                                have hRC := f151
                                refine j_aload_n hJ (q := 72) dX7_tellRound_71 rfl 0 rfl rfl ?_
                                refine j_vW hJ (q := 75) (rest := []) (As := []) (wr := [(tt, ia Z 3 Tz136), cO h q ((layR B (tkV By L (nx By L p)) (tkV By L (nx By L (nx By L p))) (tkV By L (nx By L (nx By L (nx By L p))))) 21) ((layR B (tkV By L (nx By L p)) (tkV By L (nx By L (nx By L p))) (tkV By L (nx By L (nx By L (nx By L p))))) 5) ((layR B (tkV By L (nx By L p)) (tkV By L (nx By L (nx By L p))) (tkV By L (nx By L (nx By L (nx By L p))))) 6) ((layR B (tkV By L (nx By L p)) (tkV By L (nx By L (nx By L p))) (tkV By L (nx By L (nx By L (nx By L p))))) 7) ((layR B (tkV By L (nx By L p)) (tkV By L (nx By L (nx By L p))) (tkV By L (nx By L (nx By L (nx By L p))))) 8) ((layR B (tkV By L (nx By L p)) (tkV By L (nx By L (nx By L p))) (tkV By L (nx By L (nx By L (nx By L p))))) 0), (q 0, ia Z 12 (ni Kb)), (q 1, ia Z 12 (ni Pb)), (q 2, ia Z 6 (ni k2147)), (q 3, ia Z 6 (ni a2148)), (q 4, ia Z 6 (ni s2149)), (q 5, ia Z 6 (ni g2150))]) jl_X7_26 (c_X7_nextN Z ht bt tt L By ((trF By L p B).2.1) nz137 3 (by omega) hby (by omega)) 0 rfl rfl dX7_tellRound_72 rfl (by decide) (Nat.le_of_ble_eq_true rfl) [0, 1] [2, 3, 4, 5, 6, 7, 8, 9] rfl rfl rfl rfl (by decide) rfl (fun rv wv hp => ?_)
                                obtain ⟨nz152, rfl, rfl, f153⟩ := hp
                                refine j_world hJ (ws' := [(ht, .inr (5, [.int (nI L), .ref bt, .int (nI (tkK By L (nx By L ((trF By L p B).2.1)))), .int (nI (nx By L ((trF By L p B).2.1))), .int (nI ((nx By L ((trF By L p B).2.1)) + tkL By L (nx By L ((trF By L p B).2.1)))), .int nz152, .int (nI 3), .ref tt])), (bt, ba Z 150 (ni By)), (tt, ia Z 3 Tz136), cO h q ((layR B (tkV By L (nx By L p)) (tkV By L (nx By L (nx By L p))) (tkV By L (nx By L (nx By L (nx By L p))))) 21) ((layR B (tkV By L (nx By L p)) (tkV By L (nx By L (nx By L p))) (tkV By L (nx By L (nx By L (nx By L p))))) 5) ((layR B (tkV By L (nx By L p)) (tkV By L (nx By L (nx By L p))) (tkV By L (nx By L (nx By L (nx By L p))))) 6) ((layR B (tkV By L (nx By L p)) (tkV By L (nx By L (nx By L p))) (tkV By L (nx By L (nx By L (nx By L p))))) 7) ((layR B (tkV By L (nx By L p)) (tkV By L (nx By L (nx By L p))) (tkV By L (nx By L (nx By L (nx By L p))))) 8) ((layR B (tkV By L (nx By L p)) (tkV By L (nx By L (nx By L p))) (tkV By L (nx By L (nx By L (nx By L p))))) 0), (q 0, ia Z 12 (ni Kb)), (q 1, ia Z 12 (ni Pb)), (q 2, ia Z 6 (ni k2147)), (q 3, ia Z 6 (ni a2148)), (q 4, ia Z 6 (ni s2149)), (q 5, ia Z 6 (ni g2150))]) [8, 9, 0, 1, 2, 3, 4, 5, 6, 7] rfl rfl ?_
                                show J 75 [(0, .ref ht), (1, .ref h), (2, .int (nI it))] [] [(ht, .inr (5, [.int (nI L), .ref bt, .int (nI (tkK By L (nx By L ((trF By L p B).2.1)))), .int (nI (nx By L ((trF By L p B).2.1))), .int (nI ((nx By L ((trF By L p B).2.1)) + tkL By L (nx By L ((trF By L p B).2.1)))), .int nz152, .int (nI 3), .ref tt])), (bt, ba Z 150 (ni By)), (tt, ia Z 3 Tz136), cO h q ((layR B (tkV By L (nx By L p)) (tkV By L (nx By L (nx By L p))) (tkV By L (nx By L (nx By L (nx By L p))))) 21) ((layR B (tkV By L (nx By L p)) (tkV By L (nx By L (nx By L p))) (tkV By L (nx By L (nx By L (nx By L p))))) 5) ((layR B (tkV By L (nx By L p)) (tkV By L (nx By L (nx By L p))) (tkV By L (nx By L (nx By L (nx By L p))))) 6) ((layR B (tkV By L (nx By L p)) (tkV By L (nx By L (nx By L p))) (tkV By L (nx By L (nx By L (nx By L p))))) 7) ((layR B (tkV By L (nx By L p)) (tkV By L (nx By L (nx By L p))) (tkV By L (nx By L (nx By L (nx By L p))))) 8) ((layR B (tkV By L (nx By L p)) (tkV By L (nx By L (nx By L p))) (tkV By L (nx By L (nx By L (nx By L p))))) 0), (q 0, ia Z 12 (ni Kb)), (q 1, ia Z 12 (ni Pb)), (q 2, ia Z 6 (ni k2147)), (q 3, ia Z 6 (ni a2148)), (q 4, ia Z 6 (ni s2149)), (q 5, ia Z 6 (ni g2150))] 0 0
                                refine j_iinc hJ (q := 78) (lvs' := [(2, .int (nI (it + 1))), (0, .ref ht), (1, .ref h)]) dX7_tellRound_75 2 rfl (by rw [show Int32.ofInt 1 = nI 1 from by decide +kernel]; exact nI_add _ _) (by decide) rfl rfl ?_
                                refine j_goto hJ (q := 11) dX7_tellRound_78 (by decide) ?_
                                refine j_locals hJ [1, 2, 0] rfl ?_
                                exact ih_11 (layR B (tkV By L (nx By L p)) (tkV By L (nx By L (nx By L p))) (tkV By L (nx By L (nx By L (nx By L p))))) (fl - 1) Kb Pb k2147 a2148 s2149 g2150 Tz136 (nx By L ((trF By L p B).2.1)) nz152 3 (it + 1) (by omega) hnx.2 (by omega) (by omega) hwC hRC hgo
                              · skip
                                exfalso; omega
                            · skip
                              show J 55 [(0, .ref ht), (1, .ref h), (2, .int (nI it))] [.int (nI 0)] [(ht, .inr (5, [.int (nI L), .ref bt, .int (nI (tkK By L ((trF By L p B).2.1))), .int (nI ((trF By L p B).2.1)), .int (nI (((trF By L p B).2.1) + tkL By L ((trF By L p B).2.1))), .int nz144, .int (nI 3), .ref tt])), (bt, ba Z 150 (ni By)), (tt, ia Z 3 Tz143), cO h q (B 21) (B 5) (B 6) (B 7) (B 8) (B 0), (q 0, ia Z 12 (ni Kb)), (q 1, ia Z 12 (ni Pb)), (q 2, ia Z 6 (ni kb)), (q 3, ia Z 6 (ni ab)), (q 4, ia Z 6 (ni sb)), (q 5, ia Z 6 (ni gb))] 0 0
                              have hno := rd_fl hR0 htk (by omega) hti a145
                              refine jn_if_ne hJ (q := 58) (tgt := 66) dX7_tellRound_55 (by decide) rfl (by omega) (fun c154 => ?_) (fun c154 => ?_)
                              · skip
                                exfalso; omega
                              · skip
                                refine j_bipush hJ (q := 60) dX7_tellRound_58 rfl kb_m10 ?_
                                refine j_aload_n hJ (q := 61) dX7_tellRound_60 rfl 0 rfl rfl ?_
                                refine j_get hJ (q := 64) jf_X7_46 dX7_tellRound_61 0 rfl rfl rfl ?_
                                refine j_isub hJ (q := 65) dX7_tellRound_64 rfl (zI_sub rfl (zI_nat ((trF By L p B).2.1)).symm) ?_
                                exact hE.1 _ _ _ _ _ _ _ rfl rfl dX7_tellRound_65 (Nat.le_refl _) (Nat.le_refl _) (⟨(tkK By L ((trF By L p B).2.1)), ((trF By L p B).2.1), (((trF By L p B).2.1) + tkL By L ((trF By L p B).2.1)), nz144, 3, Tz143, (B 21), (B 5), (B 6), (B 7), (B 8), (B 0), Kb, Pb, kb, ab, sb, gb, congrArg (fun z => some (Value.int (zI z))) (by unfold rdZ; rw [hno.1, hno.2]; rfl), rfl, fun z => by rw [hno.1] at z; cases z⟩)
                          · skip
                            show J 47 [(0, .ref ht), (1, .ref h), (2, .int (nI it))] [.int (nI 4), .ref ht] [(ht, .inr (5, [.int (nI L), .ref bt, .int (nI (tkK By L p)), .int (nI p), .int (nI (p + tkL By L p)), .int nn, .int (nI ii), .ref tt])), (bt, ba Z 150 (ni By)), (tt, ia Z 3 Tb), cO h q (B 21) (B 5) (B 6) (B 7) (B 8) (B 0), (q 0, ia Z 12 (ni Kb)), (q 1, ia Z 12 (ni Pb)), (q 2, ia Z 6 (ni kb)), (q 3, ia Z 6 (ni ab)), (q 4, ia Z 6 (ni sb)), (q 5, ia Z 6 (ni gb))] 0 0
                            have htk : ¬ tkK By L p = 0 := by assumption
                            have hti : tiF By L p B = tgF By L p B := by unfold tiF; rw [if_neg (by rw [a117.1]; decide), if_neg (by rw [a117.2.1]; decide), if_pos a117.2.2]
                            refine j_put hJ (q := 50) (ws' := [(ht, .inr (5, [.int (nI L), .ref bt, .int (nI (tkK By L p)), .int (nI p), .int (nI (p + tkL By L p)), .int nn, .int (nI 4), .ref tt])), (bt, ba Z 150 (ni By)), (tt, ia Z 3 Tb), cO h q (B 21) (B 5) (B 6) (B 7) (B 8) (B 0), (q 0, ia Z 12 (ni Kb)), (q 1, ia Z 12 (ni Pb)), (q 2, ia Z 6 (ni kb)), (q 3, ia Z 6 (ni ab)), (q 4, ia Z 6 (ni sb)), (q 5, ia Z 6 (ni gb))]) jp_X7_39 dX7_tellRound_47 0 rfl rfl rfl (Nat.le_of_ble_eq_true rfl) rfl rfl ?_
                            refine j_aload_n hJ (q := 51) dX7_tellRound_50 rfl 0 rfl rfl ?_
                            refine j_aload_n hJ (q := 52) dX7_tellRound_51 rfl 1 rfl rfl ?_
                            refine j_vW hJ (q := 55) (rest := []) (As := [.ref h]) (wr := []) jl_X7_42 (c_X7_isItem4 Z ht bt tt L By p nn Tb h q B Kb Pb kb ab sb gb (by omega) hby (by omega) hwB hRB) 0 rfl rfl dX7_tellRound_52 rfl (by decide) (Nat.le_of_ble_eq_true rfl) [0, 1, 2, 3, 4, 5, 6, 7, 8, 9] [] rfl rfl rfl rfl (by decide) rfl (fun rv wv hp => ?_)
                            rcases hp with ⟨Tz155, nz156, a157, rfl, rfl, f158⟩ | ⟨Tz159, nz160, a161, rfl, rfl⟩
                            · skip
                              show J 55 [(0, .ref ht), (1, .ref h), (2, .int (nI it))] [.int (nI 1)] [(ht, .inr (5, [.int (nI L), .ref bt, .int (nI (tkK By L ((tgF By L p B).2.1))), .int (nI ((tgF By L p B).2.1)), .int (nI (((tgF By L p B).2.1) + tkL By L ((tgF By L p B).2.1))), .int nz156, .int (nI 4), .ref tt])), (bt, ba Z 150 (ni By)), (tt, ia Z 3 Tz155), cO h q (B 21) (B 5) (B 6) (B 7) (B 8) (B 0), (q 0, ia Z 12 (ni Kb)), (q 1, ia Z 12 (ni Pb)), (q 2, ia Z 6 (ni kb)), (q 3, ia Z 6 (ni ab)), (q 4, ia Z 6 (ni sb)), (q 5, ia Z 6 (ni gb))] 0 0
                              have hy := a157
                              have hrow := tgF_row (By := By) (L := L) (p := p) (An := B) hy.1
                              have hT0 := f158
                              have hpin := tiF_in (By := By) (L := L) (An := B) hp
                              rw [hti] at hpin
                              have hng := nx_gt (By := By) (L := L) (p := (tgF By L p B).2.1) hpin.2 (by rw [hy.2]; decide)
                              have hnx := nx_in (By := By) (L := L) (p := (tgF By L p B).2.1) hpin.2
                              have hwC := wf_tiF (By := By) (L := L) (p := p) hwB
                              rw [hti, hrow] at hwC
                              have hgo := rd_go hR0 htk (by omega) hti hy hrow
                              refine jn_if_ne hJ (q := 58) (tgt := 66) dX7_tellRound_55 (by decide) rfl (by omega) (fun c162 => ?_) (fun c162 => ?_)
                              · skip
                                refine j_aload_n hJ (q := 67) dX7_tellRound_66 rfl 0 rfl rfl ?_
                                refine j_aload_n hJ (q := 68) dX7_tellRound_67 rfl 1 rfl rfl ?_
                                refine j_vW hJ (q := 71) (rest := []) (As := [.ref h]) (wr := [(bt, ba Z 150 (ni By))]) jl_X7_49 (c_X7_apply4 Z ht tt L (tkK By L ((tgF By L p B).2.1)) ((tgF By L p B).2.1) (((tgF By L p B).2.1) + tkL By L ((tgF By L p B).2.1)) nz156 bt Tz155 h q B Kb Pb kb ab sb gb (tkV By L (nx By L p)) hwB hRB hT0) 0 rfl rfl dX7_tellRound_68 rfl (by decide) (Nat.le_of_ble_eq_true rfl) [0, 2, 3, 4, 5, 6, 7, 8, 9] [1] rfl rfl rfl rfl (by decide) rfl (fun rv wv hp => ?_)
                                obtain ⟨rfl, rfl, f163⟩ := hp
                                refine j_world hJ (ws' := [(ht, .inr (5, [.int (nI L), .ref bt, .int (nI (tkK By L ((tgF By L p B).2.1))), .int (nI ((tgF By L p B).2.1)), .int (nI (((tgF By L p B).2.1) + tkL By L ((tgF By L p B).2.1))), .int nz156, .int (nI 4), .ref tt])), (bt, ba Z 150 (ni By)), (tt, ia Z 3 Tz155), cO h q ((va_up B 7 (tkV By L (nx By L p))) 21) ((va_up B 7 (tkV By L (nx By L p))) 5) ((va_up B 7 (tkV By L (nx By L p))) 6) ((va_up B 7 (tkV By L (nx By L p))) 7) ((va_up B 7 (tkV By L (nx By L p))) 8) ((va_up B 7 (tkV By L (nx By L p))) 0), (q 0, ia Z 12 (ni Kb)), (q 1, ia Z 12 (ni Pb)), (q 2, ia Z 6 (ni kb)), (q 3, ia Z 6 (ni ab)), (q 4, ia Z 6 (ni sb)), (q 5, ia Z 6 (ni gb))]) [1, 0, 2, 3, 4, 5, 6, 7, 8, 9] rfl rfl ?_
                                show J 71 [(0, .ref ht), (1, .ref h), (2, .int (nI it))] [] [(ht, .inr (5, [.int (nI L), .ref bt, .int (nI (tkK By L ((tgF By L p B).2.1))), .int (nI ((tgF By L p B).2.1)), .int (nI (((tgF By L p B).2.1) + tkL By L ((tgF By L p B).2.1))), .int nz156, .int (nI 4), .ref tt])), (bt, ba Z 150 (ni By)), (tt, ia Z 3 Tz155), cO h q ((va_up B 7 (tkV By L (nx By L p))) 21) ((va_up B 7 (tkV By L (nx By L p))) 5) ((va_up B 7 (tkV By L (nx By L p))) 6) ((va_up B 7 (tkV By L (nx By L p))) 7) ((va_up B 7 (tkV By L (nx By L p))) 8) ((va_up B 7 (tkV By L (nx By L p))) 0), (q 0, ia Z 12 (ni Kb)), (q 1, ia Z 12 (ni Pb)), (q 2, ia Z 6 (ni kb)), (q 3, ia Z 6 (ni ab)), (q 4, ia Z 6 (ni sb)), (q 5, ia Z 6 (ni gb))] 0 0
                                have hRC := f163
                                refine j_aload_n hJ (q := 72) dX7_tellRound_71 rfl 0 rfl rfl ?_
                                refine j_vW hJ (q := 75) (rest := []) (As := []) (wr := [(tt, ia Z 3 Tz155), cO h q ((va_up B 7 (tkV By L (nx By L p))) 21) ((va_up B 7 (tkV By L (nx By L p))) 5) ((va_up B 7 (tkV By L (nx By L p))) 6) ((va_up B 7 (tkV By L (nx By L p))) 7) ((va_up B 7 (tkV By L (nx By L p))) 8) ((va_up B 7 (tkV By L (nx By L p))) 0), (q 0, ia Z 12 (ni Kb)), (q 1, ia Z 12 (ni Pb)), (q 2, ia Z 6 (ni kb)), (q 3, ia Z 6 (ni ab)), (q 4, ia Z 6 (ni sb)), (q 5, ia Z 6 (ni gb))]) jl_X7_26 (c_X7_nextN Z ht bt tt L By ((tgF By L p B).2.1) nz156 4 (by omega) hby (by omega)) 0 rfl rfl dX7_tellRound_72 rfl (by decide) (Nat.le_of_ble_eq_true rfl) [0, 1] [2, 3, 4, 5, 6, 7, 8, 9] rfl rfl rfl rfl (by decide) rfl (fun rv wv hp => ?_)
                                obtain ⟨nz164, rfl, rfl, f165⟩ := hp
                                refine j_world hJ (ws' := [(ht, .inr (5, [.int (nI L), .ref bt, .int (nI (tkK By L (nx By L ((tgF By L p B).2.1)))), .int (nI (nx By L ((tgF By L p B).2.1))), .int (nI ((nx By L ((tgF By L p B).2.1)) + tkL By L (nx By L ((tgF By L p B).2.1)))), .int nz164, .int (nI 4), .ref tt])), (bt, ba Z 150 (ni By)), (tt, ia Z 3 Tz155), cO h q ((va_up B 7 (tkV By L (nx By L p))) 21) ((va_up B 7 (tkV By L (nx By L p))) 5) ((va_up B 7 (tkV By L (nx By L p))) 6) ((va_up B 7 (tkV By L (nx By L p))) 7) ((va_up B 7 (tkV By L (nx By L p))) 8) ((va_up B 7 (tkV By L (nx By L p))) 0), (q 0, ia Z 12 (ni Kb)), (q 1, ia Z 12 (ni Pb)), (q 2, ia Z 6 (ni kb)), (q 3, ia Z 6 (ni ab)), (q 4, ia Z 6 (ni sb)), (q 5, ia Z 6 (ni gb))]) [8, 9, 0, 1, 2, 3, 4, 5, 6, 7] rfl rfl ?_
                                show J 75 [(0, .ref ht), (1, .ref h), (2, .int (nI it))] [] [(ht, .inr (5, [.int (nI L), .ref bt, .int (nI (tkK By L (nx By L ((tgF By L p B).2.1)))), .int (nI (nx By L ((tgF By L p B).2.1))), .int (nI ((nx By L ((tgF By L p B).2.1)) + tkL By L (nx By L ((tgF By L p B).2.1)))), .int nz164, .int (nI 4), .ref tt])), (bt, ba Z 150 (ni By)), (tt, ia Z 3 Tz155), cO h q ((va_up B 7 (tkV By L (nx By L p))) 21) ((va_up B 7 (tkV By L (nx By L p))) 5) ((va_up B 7 (tkV By L (nx By L p))) 6) ((va_up B 7 (tkV By L (nx By L p))) 7) ((va_up B 7 (tkV By L (nx By L p))) 8) ((va_up B 7 (tkV By L (nx By L p))) 0), (q 0, ia Z 12 (ni Kb)), (q 1, ia Z 12 (ni Pb)), (q 2, ia Z 6 (ni kb)), (q 3, ia Z 6 (ni ab)), (q 4, ia Z 6 (ni sb)), (q 5, ia Z 6 (ni gb))] 0 0
                                refine j_iinc hJ (q := 78) (lvs' := [(2, .int (nI (it + 1))), (0, .ref ht), (1, .ref h)]) dX7_tellRound_75 2 rfl (by rw [show Int32.ofInt 1 = nI 1 from by decide +kernel]; exact nI_add _ _) (by decide) rfl rfl ?_
                                refine j_goto hJ (q := 11) dX7_tellRound_78 (by decide) ?_
                                refine j_locals hJ [1, 2, 0] rfl ?_
                                exact ih_11 (va_up B 7 (tkV By L (nx By L p))) (fl - 1) Kb Pb kb ab sb gb Tz155 (nx By L ((tgF By L p B).2.1)) nz164 4 (it + 1) (by omega) hnx.2 (by omega) (by omega) hwC hRC hgo
                              · skip
                                exfalso; omega
                            · skip
                              show J 55 [(0, .ref ht), (1, .ref h), (2, .int (nI it))] [.int (nI 0)] [(ht, .inr (5, [.int (nI L), .ref bt, .int (nI (tkK By L ((tgF By L p B).2.1))), .int (nI ((tgF By L p B).2.1)), .int (nI (((tgF By L p B).2.1) + tkL By L ((tgF By L p B).2.1))), .int nz160, .int (nI 4), .ref tt])), (bt, ba Z 150 (ni By)), (tt, ia Z 3 Tz159), cO h q (B 21) (B 5) (B 6) (B 7) (B 8) (B 0), (q 0, ia Z 12 (ni Kb)), (q 1, ia Z 12 (ni Pb)), (q 2, ia Z 6 (ni kb)), (q 3, ia Z 6 (ni ab)), (q 4, ia Z 6 (ni sb)), (q 5, ia Z 6 (ni gb))] 0 0
                              have hno := rd_fl hR0 htk (by omega) hti a161
                              refine jn_if_ne hJ (q := 58) (tgt := 66) dX7_tellRound_55 (by decide) rfl (by omega) (fun c166 => ?_) (fun c166 => ?_)
                              · skip
                                exfalso; omega
                              · skip
                                refine j_bipush hJ (q := 60) dX7_tellRound_58 rfl kb_m10 ?_
                                refine j_aload_n hJ (q := 61) dX7_tellRound_60 rfl 0 rfl rfl ?_
                                refine j_get hJ (q := 64) jf_X7_46 dX7_tellRound_61 0 rfl rfl rfl ?_
                                refine j_isub hJ (q := 65) dX7_tellRound_64 rfl (zI_sub rfl (zI_nat ((tgF By L p B).2.1)).symm) ?_
                                exact hE.1 _ _ _ _ _ _ _ rfl rfl dX7_tellRound_65 (Nat.le_refl _) (Nat.le_refl _) (⟨(tkK By L ((tgF By L p B).2.1)), ((tgF By L p B).2.1), (((tgF By L p B).2.1) + tkL By L ((tgF By L p B).2.1)), nz160, 4, Tz159, (B 21), (B 5), (B 6), (B 7), (B 8), (B 0), Kb, Pb, kb, ab, sb, gb, congrArg (fun z => some (Value.int (zI z))) (by unfold rdZ; rw [hno.1, hno.2]; rfl), rfl, fun z => by rw [hno.1] at z; cases z⟩)
                          · skip
                            show J 47 [(0, .ref ht), (1, .ref h), (2, .int (nI it))] [.int (nI 5), .ref ht] [(ht, .inr (5, [.int (nI L), .ref bt, .int (nI (tkK By L p)), .int (nI p), .int (nI (p + tkL By L p)), .int nn, .int (nI ii), .ref tt])), (bt, ba Z 150 (ni By)), (tt, ia Z 3 Tb), cO h q (B 21) (B 5) (B 6) (B 7) (B 8) (B 0), (q 0, ia Z 12 (ni Kb)), (q 1, ia Z 12 (ni Pb)), (q 2, ia Z 6 (ni kb)), (q 3, ia Z 6 (ni ab)), (q 4, ia Z 6 (ni sb)), (q 5, ia Z 6 (ni gb))] 0 0
                            have htk : ¬ tkK By L p = 0 := by assumption
                            have hti : tiF By L p B = toF By L p B := by unfold tiF; rw [if_neg (by rw [a118.1]; decide), if_neg (by rw [a118.2.1]; decide), if_neg (by rw [a118.2.2.1]; decide), if_pos a118.2.2.2]
                            refine j_put hJ (q := 50) (ws' := [(ht, .inr (5, [.int (nI L), .ref bt, .int (nI (tkK By L p)), .int (nI p), .int (nI (p + tkL By L p)), .int nn, .int (nI 5), .ref tt])), (bt, ba Z 150 (ni By)), (tt, ia Z 3 Tb), cO h q (B 21) (B 5) (B 6) (B 7) (B 8) (B 0), (q 0, ia Z 12 (ni Kb)), (q 1, ia Z 12 (ni Pb)), (q 2, ia Z 6 (ni kb)), (q 3, ia Z 6 (ni ab)), (q 4, ia Z 6 (ni sb)), (q 5, ia Z 6 (ni gb))]) jp_X7_39 dX7_tellRound_47 0 rfl rfl rfl (Nat.le_of_ble_eq_true rfl) rfl rfl ?_
                            refine j_aload_n hJ (q := 51) dX7_tellRound_50 rfl 0 rfl rfl ?_
                            refine j_aload_n hJ (q := 52) dX7_tellRound_51 rfl 1 rfl rfl ?_
                            refine j_vW hJ (q := 55) (rest := []) (As := [.ref h]) (wr := []) jl_X7_42 (c_X7_isItem5 Z ht bt tt L By p nn Tb h q B Kb Pb kb ab sb gb (by omega) hby (by omega) hwB hRB) 0 rfl rfl dX7_tellRound_52 rfl (by decide) (Nat.le_of_ble_eq_true rfl) [0, 1, 2, 3, 4, 5, 6, 7, 8, 9] [] rfl rfl rfl rfl (by decide) rfl (fun rv wv hp => ?_)
                            rcases hp with ⟨Tz167, nz168, a169, rfl, rfl, f170⟩ | ⟨Tz171, nz172, a173, rfl, rfl⟩
                            · skip
                              show J 55 [(0, .ref ht), (1, .ref h), (2, .int (nI it))] [.int (nI 1)] [(ht, .inr (5, [.int (nI L), .ref bt, .int (nI (tkK By L ((toF By L p B).2.1))), .int (nI ((toF By L p B).2.1)), .int (nI (((toF By L p B).2.1) + tkL By L ((toF By L p B).2.1))), .int nz168, .int (nI 5), .ref tt])), (bt, ba Z 150 (ni By)), (tt, ia Z 3 Tz167), cO h q (B 21) (B 5) (B 6) (B 7) (B 8) (B 0), (q 0, ia Z 12 (ni Kb)), (q 1, ia Z 12 (ni Pb)), (q 2, ia Z 6 (ni kb)), (q 3, ia Z 6 (ni ab)), (q 4, ia Z 6 (ni sb)), (q 5, ia Z 6 (ni gb))] 0 0
                              have hy := a169
                              have hrow := toF_row (By := By) (L := L) (p := p) (An := B) hy.1
                              have hT0 := f170
                              have hpin := tiF_in (By := By) (L := L) (An := B) hp
                              rw [hti] at hpin
                              have hng := nx_gt (By := By) (L := L) (p := (toF By L p B).2.1) hpin.2 (by rw [hy.2]; decide)
                              have hnx := nx_in (By := By) (L := L) (p := (toF By L p B).2.1) hpin.2
                              have hwC := wf_tiF (By := By) (L := L) (p := p) hwB
                              rw [hti, hrow] at hwC
                              have hgo := rd_go hR0 htk (by omega) hti hy hrow
                              refine jn_if_ne hJ (q := 58) (tgt := 66) dX7_tellRound_55 (by decide) rfl (by omega) (fun c174 => ?_) (fun c174 => ?_)
                              · skip
                                refine j_aload_n hJ (q := 67) dX7_tellRound_66 rfl 0 rfl rfl ?_
                                refine j_aload_n hJ (q := 68) dX7_tellRound_67 rfl 1 rfl rfl ?_
                                refine j_vW hJ (q := 71) (rest := []) (As := [.ref h]) (wr := [(bt, ba Z 150 (ni By))]) jl_X7_49 (c_X7_apply5 Z ht tt L (tkK By L ((toF By L p B).2.1)) ((toF By L p B).2.1) (((toF By L p B).2.1) + tkL By L ((toF By L p B).2.1)) nz168 bt Tz167 h q B Kb Pb kb ab sb gb (tkV By L (nx By L p)) hwB hRB (by have := tkV_le (L := L) (a := nx By L p) hby; omega) hT0) 0 rfl rfl dX7_tellRound_68 rfl (by decide) (Nat.le_of_ble_eq_true rfl) [0, 2, 3, 4, 5, 6, 7, 8, 9] [1] rfl rfl rfl rfl (by decide) rfl (fun rv wv hp => ?_)
                                obtain ⟨rz175, rfl, rfl, f176⟩ := hp
                                refine j_world hJ (ws' := [(ht, .inr (5, [.int (nI L), .ref bt, .int (nI (tkK By L ((toF By L p B).2.1))), .int (nI ((toF By L p B).2.1)), .int (nI (((toF By L p B).2.1) + tkL By L ((toF By L p B).2.1))), .int nz168, .int (nI 5), .ref tt])), (bt, ba Z 150 (ni By)), (tt, ia Z 3 Tz167), cO h q ((goN (tkV By L (nx By L p)) B) 21) ((goN (tkV By L (nx By L p)) B) 5) ((goN (tkV By L (nx By L p)) B) 6) ((goN (tkV By L (nx By L p)) B) 7) ((goN (tkV By L (nx By L p)) B) 8) ((goN (tkV By L (nx By L p)) B) 0), (q 0, ia Z 12 (ni Kb)), (q 1, ia Z 12 (ni Pb)), (q 2, ia Z 6 (ni kb)), (q 3, ia Z 6 (ni ab)), (q 4, ia Z 6 (ni sb)), (q 5, ia Z 6 (ni rz175))]) [1, 0, 2, 3, 4, 5, 6, 7, 8, 9] rfl rfl ?_
                                show J 71 [(0, .ref ht), (1, .ref h), (2, .int (nI it))] [] [(ht, .inr (5, [.int (nI L), .ref bt, .int (nI (tkK By L ((toF By L p B).2.1))), .int (nI ((toF By L p B).2.1)), .int (nI (((toF By L p B).2.1) + tkL By L ((toF By L p B).2.1))), .int nz168, .int (nI 5), .ref tt])), (bt, ba Z 150 (ni By)), (tt, ia Z 3 Tz167), cO h q ((goN (tkV By L (nx By L p)) B) 21) ((goN (tkV By L (nx By L p)) B) 5) ((goN (tkV By L (nx By L p)) B) 6) ((goN (tkV By L (nx By L p)) B) 7) ((goN (tkV By L (nx By L p)) B) 8) ((goN (tkV By L (nx By L p)) B) 0), (q 0, ia Z 12 (ni Kb)), (q 1, ia Z 12 (ni Pb)), (q 2, ia Z 6 (ni kb)), (q 3, ia Z 6 (ni ab)), (q 4, ia Z 6 (ni sb)), (q 5, ia Z 6 (ni rz175))] 0 0
                                have hRC := f176
                                refine j_aload_n hJ (q := 72) dX7_tellRound_71 rfl 0 rfl rfl ?_
                                refine j_vW hJ (q := 75) (rest := []) (As := []) (wr := [(tt, ia Z 3 Tz167), cO h q ((goN (tkV By L (nx By L p)) B) 21) ((goN (tkV By L (nx By L p)) B) 5) ((goN (tkV By L (nx By L p)) B) 6) ((goN (tkV By L (nx By L p)) B) 7) ((goN (tkV By L (nx By L p)) B) 8) ((goN (tkV By L (nx By L p)) B) 0), (q 0, ia Z 12 (ni Kb)), (q 1, ia Z 12 (ni Pb)), (q 2, ia Z 6 (ni kb)), (q 3, ia Z 6 (ni ab)), (q 4, ia Z 6 (ni sb)), (q 5, ia Z 6 (ni rz175))]) jl_X7_26 (c_X7_nextN Z ht bt tt L By ((toF By L p B).2.1) nz168 5 (by omega) hby (by omega)) 0 rfl rfl dX7_tellRound_72 rfl (by decide) (Nat.le_of_ble_eq_true rfl) [0, 1] [2, 3, 4, 5, 6, 7, 8, 9] rfl rfl rfl rfl (by decide) rfl (fun rv wv hp => ?_)
                                obtain ⟨nz177, rfl, rfl, f178⟩ := hp
                                refine j_world hJ (ws' := [(ht, .inr (5, [.int (nI L), .ref bt, .int (nI (tkK By L (nx By L ((toF By L p B).2.1)))), .int (nI (nx By L ((toF By L p B).2.1))), .int (nI ((nx By L ((toF By L p B).2.1)) + tkL By L (nx By L ((toF By L p B).2.1)))), .int nz177, .int (nI 5), .ref tt])), (bt, ba Z 150 (ni By)), (tt, ia Z 3 Tz167), cO h q ((goN (tkV By L (nx By L p)) B) 21) ((goN (tkV By L (nx By L p)) B) 5) ((goN (tkV By L (nx By L p)) B) 6) ((goN (tkV By L (nx By L p)) B) 7) ((goN (tkV By L (nx By L p)) B) 8) ((goN (tkV By L (nx By L p)) B) 0), (q 0, ia Z 12 (ni Kb)), (q 1, ia Z 12 (ni Pb)), (q 2, ia Z 6 (ni kb)), (q 3, ia Z 6 (ni ab)), (q 4, ia Z 6 (ni sb)), (q 5, ia Z 6 (ni rz175))]) [8, 9, 0, 1, 2, 3, 4, 5, 6, 7] rfl rfl ?_
                                show J 75 [(0, .ref ht), (1, .ref h), (2, .int (nI it))] [] [(ht, .inr (5, [.int (nI L), .ref bt, .int (nI (tkK By L (nx By L ((toF By L p B).2.1)))), .int (nI (nx By L ((toF By L p B).2.1))), .int (nI ((nx By L ((toF By L p B).2.1)) + tkL By L (nx By L ((toF By L p B).2.1)))), .int nz177, .int (nI 5), .ref tt])), (bt, ba Z 150 (ni By)), (tt, ia Z 3 Tz167), cO h q ((goN (tkV By L (nx By L p)) B) 21) ((goN (tkV By L (nx By L p)) B) 5) ((goN (tkV By L (nx By L p)) B) 6) ((goN (tkV By L (nx By L p)) B) 7) ((goN (tkV By L (nx By L p)) B) 8) ((goN (tkV By L (nx By L p)) B) 0), (q 0, ia Z 12 (ni Kb)), (q 1, ia Z 12 (ni Pb)), (q 2, ia Z 6 (ni kb)), (q 3, ia Z 6 (ni ab)), (q 4, ia Z 6 (ni sb)), (q 5, ia Z 6 (ni rz175))] 0 0
                                refine j_iinc hJ (q := 78) (lvs' := [(2, .int (nI (it + 1))), (0, .ref ht), (1, .ref h)]) dX7_tellRound_75 2 rfl (by rw [show Int32.ofInt 1 = nI 1 from by decide +kernel]; exact nI_add _ _) (by decide) rfl rfl ?_
                                refine j_goto hJ (q := 11) dX7_tellRound_78 (by decide) ?_
                                refine j_locals hJ [1, 2, 0] rfl ?_
                                exact ih_11 (goN (tkV By L (nx By L p)) B) (fl - 1) Kb Pb kb ab sb rz175 Tz167 (nx By L ((toF By L p B).2.1)) nz177 5 (it + 1) (by omega) hnx.2 (by omega) (by omega) hwC hRC hgo
                              · skip
                                exfalso; omega
                            · skip
                              show J 55 [(0, .ref ht), (1, .ref h), (2, .int (nI it))] [.int (nI 0)] [(ht, .inr (5, [.int (nI L), .ref bt, .int (nI (tkK By L ((toF By L p B).2.1))), .int (nI ((toF By L p B).2.1)), .int (nI (((toF By L p B).2.1) + tkL By L ((toF By L p B).2.1))), .int nz172, .int (nI 5), .ref tt])), (bt, ba Z 150 (ni By)), (tt, ia Z 3 Tz171), cO h q (B 21) (B 5) (B 6) (B 7) (B 8) (B 0), (q 0, ia Z 12 (ni Kb)), (q 1, ia Z 12 (ni Pb)), (q 2, ia Z 6 (ni kb)), (q 3, ia Z 6 (ni ab)), (q 4, ia Z 6 (ni sb)), (q 5, ia Z 6 (ni gb))] 0 0
                              have hno := rd_fl hR0 htk (by omega) hti a173
                              refine jn_if_ne hJ (q := 58) (tgt := 66) dX7_tellRound_55 (by decide) rfl (by omega) (fun c179 => ?_) (fun c179 => ?_)
                              · skip
                                exfalso; omega
                              · skip
                                refine j_bipush hJ (q := 60) dX7_tellRound_58 rfl kb_m10 ?_
                                refine j_aload_n hJ (q := 61) dX7_tellRound_60 rfl 0 rfl rfl ?_
                                refine j_get hJ (q := 64) jf_X7_46 dX7_tellRound_61 0 rfl rfl rfl ?_
                                refine j_isub hJ (q := 65) dX7_tellRound_64 rfl (zI_sub rfl (zI_nat ((toF By L p B).2.1)).symm) ?_
                                exact hE.1 _ _ _ _ _ _ _ rfl rfl dX7_tellRound_65 (Nat.le_refl _) (Nat.le_refl _) (⟨(tkK By L ((toF By L p B).2.1)), ((toF By L p B).2.1), (((toF By L p B).2.1) + tkL By L ((toF By L p B).2.1)), nz172, 5, Tz171, (B 21), (B 5), (B 6), (B 7), (B 8), (B 0), Kb, Pb, kb, ab, sb, gb, congrArg (fun z => some (Value.int (zI z))) (by unfold rdZ; rw [hno.1, hno.2]; rfl), rfl, fun z => by rw [hno.1] at z; cases z⟩)
                          · skip
                            show J 47 [(0, .ref ht), (1, .ref h), (2, .int (nI it))] [.int (nI 0), .ref ht] [(ht, .inr (5, [.int (nI L), .ref bt, .int (nI (tkK By L p)), .int (nI p), .int (nI (p + tkL By L p)), .int nn, .int (nI ii), .ref tt])), (bt, ba Z 150 (ni By)), (tt, ia Z 3 Tb), cO h q (B 21) (B 5) (B 6) (B 7) (B 8) (B 0), (q 0, ia Z 12 (ni Kb)), (q 1, ia Z 12 (ni Pb)), (q 2, ia Z 6 (ni kb)), (q 3, ia Z 6 (ni ab)), (q 4, ia Z 6 (ni sb)), (q 5, ia Z 6 (ni gb))] 0 0
                            have htk : ¬ tkK By L p = 0 := by assumption
                            have hti : tiF By L p B = (false, p, B) := by unfold tiF; rw [if_neg (by rw [a119.1]; decide), if_neg (by rw [a119.2.1]; decide), if_neg (by rw [a119.2.2.1]; decide), if_neg (by rw [a119.2.2.2]; decide)]
                            refine j_put hJ (q := 50) (ws' := [(ht, .inr (5, [.int (nI L), .ref bt, .int (nI (tkK By L p)), .int (nI p), .int (nI (p + tkL By L p)), .int nn, .int (nI 0), .ref tt])), (bt, ba Z 150 (ni By)), (tt, ia Z 3 Tb), cO h q (B 21) (B 5) (B 6) (B 7) (B 8) (B 0), (q 0, ia Z 12 (ni Kb)), (q 1, ia Z 12 (ni Pb)), (q 2, ia Z 6 (ni kb)), (q 3, ia Z 6 (ni ab)), (q 4, ia Z 6 (ni sb)), (q 5, ia Z 6 (ni gb))]) jp_X7_39 dX7_tellRound_47 0 rfl rfl rfl (Nat.le_of_ble_eq_true rfl) rfl rfl ?_
                            refine j_aload_n hJ (q := 51) dX7_tellRound_50 rfl 0 rfl rfl ?_
                            refine j_aload_n hJ (q := 52) dX7_tellRound_51 rfl 1 rfl rfl ?_
                            refine j_vW hJ (q := 55) (rest := []) (As := [.ref h]) (wr := []) jl_X7_42 (c_X7_isItem0 Z ht bt tt L By p nn Tb h q (B 21) (B 5) (B 6) (B 7) (B 8) (B 0) Kb Pb kb ab sb gb (by omega) hby (by omega)) 0 rfl rfl dX7_tellRound_52 rfl (by decide) (Nat.le_of_ble_eq_true rfl) [0, 1, 2, 3, 4, 5, 6, 7, 8, 9] [] rfl rfl rfl rfl (by decide) rfl (fun rv wv hp => ?_)
                            obtain ⟨rfl, rfl⟩ := hp
                            show J 55 [(0, .ref ht), (1, .ref h), (2, .int (nI it))] [.int (nI 0)] [(ht, .inr (5, [.int (nI L), .ref bt, .int (nI (tkK By L p)), .int (nI p), .int (nI (p + tkL By L p)), .int nn, .int (nI 0), .ref tt])), (bt, ba Z 150 (ni By)), (tt, ia Z 3 Tb), cO h q (B 21) (B 5) (B 6) (B 7) (B 8) (B 0), (q 0, ia Z 12 (ni Kb)), (q 1, ia Z 12 (ni Pb)), (q 2, ia Z 6 (ni kb)), (q 3, ia Z 6 (ni ab)), (q 4, ia Z 6 (ni sb)), (q 5, ia Z 6 (ni gb))] 0 0
                            have hno := rd_fl hR0 htk (by omega) hti (fun z => by cases z.1)
                            refine jn_if_ne hJ (q := 58) (tgt := 66) dX7_tellRound_55 (by decide) rfl (by omega) (fun c180 => ?_) (fun c180 => ?_)
                            · skip
                              exfalso; omega
                            · skip
                              refine j_bipush hJ (q := 60) dX7_tellRound_58 rfl kb_m10 ?_
                              refine j_aload_n hJ (q := 61) dX7_tellRound_60 rfl 0 rfl rfl ?_
                              refine j_get hJ (q := 64) jf_X7_46 dX7_tellRound_61 0 rfl rfl rfl ?_
                              refine j_isub hJ (q := 65) dX7_tellRound_64 rfl (zI_sub rfl (zI_nat p).symm) ?_
                              exact hE.1 _ _ _ _ _ _ _ rfl rfl dX7_tellRound_65 (Nat.le_refl _) (Nat.le_refl _) (⟨(tkK By L p), p, (p + tkL By L p), nn, 0, Tb, (B 21), (B 5), (B 6), (B 7), (B 8), (B 0), Kb, Pb, kb, ab, sb, gb, congrArg (fun z => some (Value.int (zI z))) (by unfold rdZ; rw [hno.1, hno.2]; rfl), rfl, fun z => by rw [hno.1] at z; cases z⟩)
                        · skip
                          exfalso; omega
                      · skip
                        refine j_iload_n hJ (q := 26) dX7_tellRound_25 rfl 2 rfl rfl ?_
                        refine jz_if_le hJ (q := 29) (tgt := 31) dX7_tellRound_26 (by decide) rfl (zI_nat it).symm (by omega) (fun c181 => ?_) (fun c181 => ?_)
                        · skip
                          exfalso; omega
                        · skip
                          refine j_iload_n hJ (q := 30) dX7_tellRound_29 rfl 2 rfl rfl ?_
                          have hRR : rdR By L = (true, it, B) := rd_end hR0 (by omega) (by omega)
                          exact hE.1 _ _ _ _ _ _ _ rfl rfl dX7_tellRound_30 (Nat.le_refl _) (Nat.le_refl _) (⟨(tkK By L p), p, (p + tkL By L p), nn, ii, Tb, (B 21), (B 5), (B 6), (B 7), (B 8), (B 0), Kb, Pb, kb, ab, sb, gb, congrArg (fun z => some (Value.int z)) ((zI_nat _).symm.trans (congrArg zI (by unfold rdZ; rw [hRR]; rfl))), rfl, fun _ => by rw [hRR]; exact ⟨⟨rfl, rfl, rfl, rfl, rfl, rfl⟩, hwB, hRB⟩⟩)
                refine j_locals hJ [1, 2, 0] rfl ?_
                exact L_11 ((L + 1) + 1) (beg (fun _ => 0) (tkV By L (nx By L (sk By L 0))) (tkV By L (nx By L (nx By L (sk By L 0))))) (L + 1) Kz107 Pz108 kd am st rg Tz98 (nx By L (nx By L (nx By L (nx By L (sk By L 0))))) nz110 1 (0 + 1) (Nat.lt_succ_self _) hn4.2 (by omega) (by omega) (wf_beg (fun _ => by decide) hc1.1.2 hc1.2.1.2.2) hR1 (rd_1 hw0 hc1)
              · skip
                exfalso; omega
            · skip
              show J 55 [(2, .int (nI 0)), (0, .ref ht), (1, .ref h)] [.int (nI 0)] [(ht, .inr (5, [.int (nI L), .ref bt, .int (nI (tkK By L (if num By L (nx By L (sk By L 0)) 4 12 then if num By L (nx By L (nx By L (sk By L 0))) 0 3 then nx By L (nx By L (nx By L (sk By L 0))) else nx By L (nx By L (sk By L 0)) else nx By L (sk By L 0)))), .int (nI (if num By L (nx By L (sk By L 0)) 4 12 then if num By L (nx By L (nx By L (sk By L 0))) 0 3 then nx By L (nx By L (nx By L (sk By L 0))) else nx By L (nx By L (sk By L 0)) else nx By L (sk By L 0))), .int (nI ((if num By L (nx By L (sk By L 0)) 4 12 then if num By L (nx By L (nx By L (sk By L 0))) 0 3 then nx By L (nx By L (nx By L (sk By L 0))) else nx By L (nx By L (sk By L 0)) else nx By L (sk By L 0)) + tkL By L (if num By L (nx By L (sk By L 0)) 4 12 then if num By L (nx By L (nx By L (sk By L 0))) 0 3 then nx By L (nx By L (nx By L (sk By L 0))) else nx By L (nx By L (sk By L 0)) else nx By L (sk By L 0)))), .int nz104, .int (nI 1), .ref tt])), (bt, ba Z 150 (ni By)), (tt, ia Z 3 Tz103), cO h q n an sp ri ti rd, (q 0, ia Z 12 (ni K)), (q 1, ia Z 12 (ni P)), (q 2, ia Z 6 (ni kd)), (q 3, ia Z 6 (ni am)), (q 4, ia Z 6 (ni st)), (q 5, ia Z 6 (ni rg))] 0 0
              have hno := rd_f1 hw0 a105
              refine jn_if_ne hJ (q := 58) (tgt := 66) dX7_tellRound_55 (by decide) rfl (by omega) (fun c182 => ?_) (fun c182 => ?_)
              · skip
                exfalso; omega
              · skip
                refine j_bipush hJ (q := 60) dX7_tellRound_58 rfl kb_m10 ?_
                refine j_aload_n hJ (q := 61) dX7_tellRound_60 rfl 1 rfl rfl ?_
                refine j_get hJ (q := 64) jf_X7_46 dX7_tellRound_61 0 rfl rfl rfl ?_
                refine j_isub hJ (q := 65) dX7_tellRound_64 rfl (zI_sub rfl (zI_nat (if num By L (nx By L (sk By L 0)) 4 12 then if num By L (nx By L (nx By L (sk By L 0))) 0 3 then nx By L (nx By L (nx By L (sk By L 0))) else nx By L (nx By L (sk By L 0)) else nx By L (sk By L 0))).symm) ?_
                exact hE.1 _ _ _ _ _ _ _ rfl rfl dX7_tellRound_65 (Nat.le_refl _) (Nat.le_refl _) (⟨(tkK By L (if num By L (nx By L (sk By L 0)) 4 12 then if num By L (nx By L (nx By L (sk By L 0))) 0 3 then nx By L (nx By L (nx By L (sk By L 0))) else nx By L (nx By L (sk By L 0)) else nx By L (sk By L 0))), (if num By L (nx By L (sk By L 0)) 4 12 then if num By L (nx By L (nx By L (sk By L 0))) 0 3 then nx By L (nx By L (nx By L (sk By L 0))) else nx By L (nx By L (sk By L 0)) else nx By L (sk By L 0)), ((if num By L (nx By L (sk By L 0)) 4 12 then if num By L (nx By L (nx By L (sk By L 0))) 0 3 then nx By L (nx By L (nx By L (sk By L 0))) else nx By L (nx By L (sk By L 0)) else nx By L (sk By L 0)) + tkL By L (if num By L (nx By L (sk By L 0)) 4 12 then if num By L (nx By L (nx By L (sk By L 0))) 0 3 then nx By L (nx By L (nx By L (sk By L 0))) else nx By L (nx By L (sk By L 0)) else nx By L (sk By L 0))), nz104, 1, Tz103, n, an, sp, ri, ti, rd, K, P, kd, am, st, rg, congrArg (fun z => some (Value.int (zI z))) (by unfold rdZ; rw [hno.1, hno.2]; rfl), rfl, fun z => by rw [hno.1] at z; cases z⟩)
          · skip
            show J 40 [(2, .int (nI 0)), (0, .ref ht), (1, .ref h)] [.int (nI 0), .ref ht] [(ht, .inr (5, [.int (nI L), .ref bt, .int (nI (tkK By L (sk By L 0))), .int (nI (sk By L 0)), .int (nI (sk By L 0 + tkL By L (sk By L 0))), .int nz1, .int (nI im), .ref tt])), (bt, ba Z 150 (ni By)), (tt, ia Z 3 Td), cO h q n an sp ri ti rd, (q 0, ia Z 12 (ni K)), (q 1, ia Z 12 (ni P)), (q 2, ia Z 6 (ni kd)), (q 3, ia Z 6 (ni am)), (q 4, ia Z 6 (ni st)), (q 5, ia Z 6 (ni rg))] 0 0
            have hno := rd_f0 a97
            refine j_goto hJ (q := 47) dX7_tellRound_40 (by decide) ?_
            refine j_put hJ (q := 50) (ws' := [(ht, .inr (5, [.int (nI L), .ref bt, .int (nI (tkK By L (sk By L 0))), .int (nI (sk By L 0)), .int (nI (sk By L 0 + tkL By L (sk By L 0))), .int nz1, .int (nI 0), .ref tt])), (bt, ba Z 150 (ni By)), (tt, ia Z 3 Td), cO h q n an sp ri ti rd, (q 0, ia Z 12 (ni K)), (q 1, ia Z 12 (ni P)), (q 2, ia Z 6 (ni kd)), (q 3, ia Z 6 (ni am)), (q 4, ia Z 6 (ni st)), (q 5, ia Z 6 (ni rg))]) jp_X7_39 dX7_tellRound_47 0 rfl rfl rfl (Nat.le_of_ble_eq_true rfl) rfl rfl ?_
            refine j_aload_n hJ (q := 51) dX7_tellRound_50 rfl 1 rfl rfl ?_
            refine j_aload_n hJ (q := 52) dX7_tellRound_51 rfl 2 rfl rfl ?_
            refine j_vW hJ (q := 55) (rest := []) (As := [.ref h]) (wr := []) jl_X7_42 (c_X7_isItem0 Z ht bt tt L By (sk By L 0) nz1 Td h q n an sp ri ti rd K P kd am st rg (by omega) hby (by omega)) 0 rfl rfl dX7_tellRound_52 rfl (by decide) (Nat.le_of_ble_eq_true rfl) [0, 1, 2, 3, 4, 5, 6, 7, 8, 9] [] rfl rfl rfl rfl (by decide) rfl (fun rv wv hp => ?_)
            obtain ⟨rfl, rfl⟩ := hp
            show J 55 [(2, .int (nI 0)), (0, .ref ht), (1, .ref h)] [.int (nI 0)] [(ht, .inr (5, [.int (nI L), .ref bt, .int (nI (tkK By L (sk By L 0))), .int (nI (sk By L 0)), .int (nI ((sk By L 0) + tkL By L (sk By L 0))), .int nz1, .int (nI 0), .ref tt])), (bt, ba Z 150 (ni By)), (tt, ia Z 3 Td), cO h q n an sp ri ti rd, (q 0, ia Z 12 (ni K)), (q 1, ia Z 12 (ni P)), (q 2, ia Z 6 (ni kd)), (q 3, ia Z 6 (ni am)), (q 4, ia Z 6 (ni st)), (q 5, ia Z 6 (ni rg))] 0 0
            refine jn_if_ne hJ (q := 58) (tgt := 66) dX7_tellRound_55 (by decide) rfl (by omega) (fun c183 => ?_) (fun c183 => ?_)
            · skip
              exfalso; omega
            · skip
              refine j_bipush hJ (q := 60) dX7_tellRound_58 rfl kb_m10 ?_
              refine j_aload_n hJ (q := 61) dX7_tellRound_60 rfl 1 rfl rfl ?_
              refine j_get hJ (q := 64) jf_X7_46 dX7_tellRound_61 0 rfl rfl rfl ?_
              refine j_isub hJ (q := 65) dX7_tellRound_64 rfl (zI_sub rfl (zI_nat (sk By L 0)).symm) ?_
              exact hE.1 _ _ _ _ _ _ _ rfl rfl dX7_tellRound_65 (Nat.le_refl _) (Nat.le_refl _) (⟨(tkK By L (sk By L 0)), (sk By L 0), ((sk By L 0) + tkL By L (sk By L 0)), nz1, 0, Td, n, an, sp, ri, ti, rd, K, P, kd, am, st, rg, congrArg (fun z => some (Value.int (zI z))) (by unfold rdZ; rw [hno.1, hno.2]; rfl), rfl, fun z => by rw [hno.1] at z; cases z⟩)
      · skip
        exfalso; omega
