set_option maxHeartbeats 4000000 in
set_option maxRecDepth 100000 in
theorem c_X8_takenIf0 (Z : jZ) (h : Nat) (u : Nat → Nat) (ab : Int) (be : Int) (Rf : Nat → Nat) (s : Nat → Nat) (q : Nat → Nat) (A : Nat → Nat) (K : Nat → Nat) (P : Nat → Nat) (kd : Nat → Nat) (am : Nat → Nat) (st : Nat → Nat) (rg : Nat → Nat) (qt : Nat → Nat) (t1 : Nat) (t2 : Nat) (t3 : Nat) (t4 : Nat) (t5 : Nat) (t6 : Nat) (Kt : Nat → Nat) (Pt : Nat → Nat) (kt : Nat → Nat) (mt : Nat → Nat) (stt : Nat → Nat) (gt : Nat → Nat) (c : Nat) (i : Nat) (m : Nat) (hg : wg A) (hR : rR A K P kd am st rg) (h1 : i < A 0) (h2 : c < 4) (h3 : m ≤ 60) : CT Z yX8_takenIf cX8_takenIf 7 ((some FieldType.int)) 6 0 0 [.ref h, .int (nI 0), .int (nI c), .int (nI i), .int (nI m)] [xO h u ab be (Rf 0) (Rf 1) (Rf 2), (u 0, .inr (4, [.ref (s 0), .ref (s 1), .ref (s 3), .ref (s 5), .ref (s 7)])), cO (s 0) q (A 21) (A 5) (A 6) (A 7) (A 8) (A 0), (q 0, ia Z 12 (ni K)), (q 1, ia Z 12 (ni P)), (q 2, ia Z 6 (ni kd)), (q 3, ia Z 6 (ni am)), (q 4, ia Z 6 (ni st)), (q 5, ia Z 6 (ni rg)), cO (u 3) qt t1 t2 t3 t4 t5 t6, (qt 0, ia Z 12 (ni Kt)), (qt 1, ia Z 12 (ni Pt)), (qt 2, ia Z 6 (ni kt)), (qt 3, ia Z 6 (ni mt)), (qt 4, ia Z 6 (ni stt)), (qt 5, ia Z 6 (ni gt))] (fun rr ww => ∃ y1 : Nat, ∃ y2 : Nat, ∃ y3 : Nat, ∃ y4 : Nat, ∃ y5 : Nat, ∃ y6 : Nat, ∃ Kx : Nat → Nat, ∃ Px : Nat → Nat, ∃ kx : Nat → Nat, ∃ mx : Nat → Nat, ∃ sx : Nat → Nat, ∃ gx : Nat → Nat, rr = some (.int (zI (fFast A i m c))) ∧ ww = [xO h u ab be (Rf 0) (Rf 1) (Rf 2), (u 0, .inr (4, [.ref (s 0), .ref (s 1), .ref (s 3), .ref (s 5), .ref (s 7)])), cO (s 0) q (A 21) (A 5) (A 6) (A 7) (A 8) (A 0), (q 0, ia Z 12 (ni K)), (q 1, ia Z 12 (ni P)), (q 2, ia Z 6 (ni kd)), (q 3, ia Z 6 (ni am)), (q 4, ia Z 6 (ni st)), (q 5, ia Z 6 (ni rg)), cO (u 3) qt y1 y2 y3 y4 y5 y6, (qt 0, ia Z 12 (ni Kx)), (qt 1, ia Z 12 (ni Px)), (qt 2, ia Z 6 (ni kx)), (qt 3, ia Z 6 (ni mx)), (qt 4, ia Z 6 (ni sx)), (qt 5, ia Z 6 (ni gx))]) := by
  refine CT.of RX8 false rfl (fun h => by cases h) (by decide +kernel) (Nat.le_of_ble_eq_true rfl) ?_
  intro J hJ hE
  show J 0 [(0, .ref h), (1, .int (nI 0)), (2, .int (nI c)), (3, .int (nI i)), (4, .int (nI m))] [] [xO h u ab be (Rf 0) (Rf 1) (Rf 2), (u 0, .inr (4, [.ref (s 0), .ref (s 1), .ref (s 3), .ref (s 5), .ref (s 7)])), cO (s 0) q (A 21) (A 5) (A 6) (A 7) (A 8) (A 0), (q 0, ia Z 12 (ni K)), (q 1, ia Z 12 (ni P)), (q 2, ia Z 6 (ni kd)), (q 3, ia Z 6 (ni am)), (q 4, ia Z 6 (ni st)), (q 5, ia Z 6 (ni rg)), cO (u 3) qt t1 t2 t3 t4 t5 t6, (qt 0, ia Z 12 (ni Kt)), (qt 1, ia Z 12 (ni Pt)), (qt 2, ia Z 6 (ni kt)), (qt 3, ia Z 6 (ni mt)), (qt 4, ia Z 6 (ni stt)), (qt 5, ia Z 6 (ni gt))] 0 0
  obtain ⟨hw, ⟨g1, g2, g3, g4, g8⟩, hrs, hrn, hrm, hpst⟩ := id hg
  obtain ⟨⟨w1, w2, w3, w4, w5, w6⟩, hb, wr, wh, wd⟩ := id hw
  refine j_aload_n hJ (q := 1) dX8_takenIf_0 rfl 0 rfl rfl ?_
  refine j_get hJ (q := 4) jf_X8_37 dX8_takenIf_1 0 rfl rfl rfl ?_
  refine j_aload_n hJ (q := 5) dX8_takenIf_4 rfl 0 rfl rfl ?_
  refine j_get hJ (q := 8) jf_X8_10 dX8_takenIf_5 0 rfl rfl rfl ?_
  refine j_get hJ (q := 11) jf_X8_66 dX8_takenIf_8 1 rfl rfl rfl ?_
  refine j_vW hJ (q := 14) (rest := []) (As := [.ref (s 0)]) (wr := [xO h u ab be (Rf 0) (Rf 1) (Rf 2), (u 0, .inr (4, [.ref (s 0), .ref (s 1), .ref (s 3), .ref (s 5), .ref (s 7)]))]) jl_X8_122 (c_X4_copyOf Z (u 3) qt t1 t2 t3 t4 t5 t6 Kt Pt kt mt stt gt (s 0) q A K P kd am st rg ) 9 rfl rfl dX8_takenIf_11 rfl (by decide) (Nat.le_of_ble_eq_true rfl) [9, 10, 11, 12, 13, 14, 15, 2, 3, 4, 5, 6, 7, 8] [0, 1] rfl rfl rfl rfl (by decide) rfl (fun rv wv hp => ?_)
  obtain ⟨rfl, rfl⟩ := hp
  refine j_world hJ (ws' := [xO h u ab be (Rf 0) (Rf 1) (Rf 2), (u 0, .inr (4, [.ref (s 0), .ref (s 1), .ref (s 3), .ref (s 5), .ref (s 7)])), cO (s 0) q (A 21) (A 5) (A 6) (A 7) (A 8) (A 0), (q 0, ia Z 12 (ni K)), (q 1, ia Z 12 (ni P)), (q 2, ia Z 6 (ni kd)), (q 3, ia Z 6 (ni am)), (q 4, ia Z 6 (ni st)), (q 5, ia Z 6 (ni rg)), cO (u 3) qt (A 21) (A 5) (A 6) (A 7) (A 8) (A 0), (qt 0, ia Z 12 (ni K)), (qt 1, ia Z 12 (ni P)), (qt 2, ia Z 6 (ni kd)), (qt 3, ia Z 6 (ni am)), (qt 4, ia Z 6 (ni st)), (qt 5, ia Z 6 (ni rg))]) [0, 1, 9, 10, 11, 12, 13, 14, 15, 2, 3, 4, 5, 6, 7, 8] rfl rfl ?_
  show J 14 [(0, .ref h), (1, .int (nI 0)), (2, .int (nI c)), (3, .int (nI i)), (4, .int (nI m))] [] [xO h u ab be (Rf 0) (Rf 1) (Rf 2), (u 0, .inr (4, [.ref (s 0), .ref (s 1), .ref (s 3), .ref (s 5), .ref (s 7)])), cO (s 0) q (A 21) (A 5) (A 6) (A 7) (A 8) (A 0), (q 0, ia Z 12 (ni K)), (q 1, ia Z 12 (ni P)), (q 2, ia Z 6 (ni kd)), (q 3, ia Z 6 (ni am)), (q 4, ia Z 6 (ni st)), (q 5, ia Z 6 (ni rg)), cO (u 3) qt (A 21) (A 5) (A 6) (A 7) (A 8) (A 0), (qt 0, ia Z 12 (ni K)), (qt 1, ia Z 12 (ni P)), (qt 2, ia Z 6 (ni kd)), (qt 3, ia Z 6 (ni am)), (qt 4, ia Z 6 (ni st)), (qt 5, ia Z 6 (ni rg))] 0 0
  refine j_iload_n hJ (q := 15) dX8_takenIf_14 rfl 1 rfl rfl ?_
  refine jn_if_eq hJ (q := 18) (tgt := 55) dX8_takenIf_15 (by decide) rfl (by omega) (fun c1 => ?_) (fun c1 => ?_)
  · skip
    refine j_aload_n hJ (q := 56) dX8_takenIf_55 rfl 0 rfl rfl ?_
    refine j_get hJ (q := 59) jf_X8_37 dX8_takenIf_56 0 rfl rfl rfl ?_
    refine j_iload_n hJ (q := 60) dX8_takenIf_59 rfl 2 rfl rfl ?_
    refine j_put hJ (q := 63) (ws' := [xO h u ab be (Rf 0) (Rf 1) (Rf 2), (u 0, .inr (4, [.ref (s 0), .ref (s 1), .ref (s 3), .ref (s 5), .ref (s 7)])), cO (s 0) q (A 21) (A 5) (A 6) (A 7) (A 8) (A 0), (q 0, ia Z 12 (ni K)), (q 1, ia Z 12 (ni P)), (q 2, ia Z 6 (ni kd)), (q 3, ia Z 6 (ni am)), (q 4, ia Z 6 (ni st)), (q 5, ia Z 6 (ni rg)), cO (u 3) qt (A 21) (A 5) c (A 7) (A 8) (A 0), (qt 0, ia Z 12 (ni K)), (qt 1, ia Z 12 (ni P)), (qt 2, ia Z 6 (ni kd)), (qt 3, ia Z 6 (ni am)), (qt 4, ia Z 6 (ni st)), (qt 5, ia Z 6 (ni rg))]) jp_X8_138 dX8_takenIf_60 9 rfl rfl rfl (Nat.le_of_ble_eq_true rfl) rfl rfl ?_
    refine j_eqw (ws' := [xO h u ab be (Rf 0) (Rf 1) (Rf 2), (u 0, .inr (4, [.ref (s 0), .ref (s 1), .ref (s 3), .ref (s 5), .ref (s 7)])), cO (s 0) q (A 21) (A 5) (A 6) (A 7) (A 8) (A 0), (q 0, ia Z 12 (ni K)), (q 1, ia Z 12 (ni P)), (q 2, ia Z 6 (ni kd)), (q 3, ia Z 6 (ni am)), (q 4, ia Z 6 (ni st)), (q 5, ia Z 6 (ni rg)), cO (u 3) qt ((va_up A 6 c) 21) ((va_up A 6 c) 5) ((va_up A 6 c) 6) ((va_up A 6 c) 7) ((va_up A 6 c) 8) ((va_up A 6 c) 0), (qt 0, ia Z 12 (ni K)), (qt 1, ia Z 12 (ni P)), (qt 2, ia Z 6 (ni kd)), (qt 3, ia Z 6 (ni am)), (qt 4, ia Z 6 (ni st)), (qt 5, ia Z 6 (ni rg))]) rfl ?_
    have hw0 : wf (va_up A 6 c) := wf_speed hw (by omega)
    have hR0 : rR (va_up A 6 c) K P kd am st rg := rR_speed hR w6 w2
    refine j_iconst hJ (q := 64) dX8_takenIf_63 rfl ki_0 ?_
    refine j_istore hJ (q := 66) (lvs' := [(5, .int (nI 0)), (0, .ref h), (1, .int (nI 0)), (2, .int (nI c)), (3, .int (nI i)), (4, .int (nI m))]) dX8_takenIf_64 (by decide) rfl rfl ?_
    refine j_iconst hJ (q := 67) dX8_takenIf_66 rfl ki_0 ?_
    refine j_istore hJ (q := 69) (lvs' := [(6, .int (nI 0)), (5, .int (nI 0)), (0, .ref h), (1, .int (nI 0)), (2, .int (nI c)), (3, .int (nI i)), (4, .int (nI m))]) dX8_takenIf_67 (by decide) rfl rfl ?_
    have L_69 : ∀ (fu_69 : Nat) (B : Nat → Nat) (rb : Nat → Nat) (tn : Nat) (k : Nat), m - k < fu_69 → (k ≤ m ∧ tn ≤ k) → (wf B) → (rR B K P kd am st rb) → (tn + tkn i (m - k) B = tkn i m (va_up A 6 c)) → (B 8 + (m - k) < 90000) → J 69 [(0, .ref h), (1, .int (nI 0)), (2, .int (nI c)), (3, .int (nI i)), (4, .int (nI m)), (5, .int (nI tn)), (6, .int (nI k))] [] [xO h u ab be (Rf 0) (Rf 1) (Rf 2), (u 0, .inr (4, [.ref (s 0), .ref (s 1), .ref (s 3), .ref (s 5), .ref (s 7)])), cO (s 0) q (A 21) (A 5) (A 6) (A 7) (A 8) (A 0), (q 0, ia Z 12 (ni K)), (q 1, ia Z 12 (ni P)), (q 2, ia Z 6 (ni kd)), (q 3, ia Z 6 (ni am)), (q 4, ia Z 6 (ni st)), (q 5, ia Z 6 (ni rg)), cO (u 3) qt (B 21) (B 5) (B 6) (B 7) (B 8) (B 0), (qt 0, ia Z 12 (ni K)), (qt 1, ia Z 12 (ni P)), (qt 2, ia Z 6 (ni kd)), (qt 3, ia Z 6 (ni am)), (qt 4, ia Z 6 (ni st)), (qt 5, ia Z 6 (ni rb))] 0 0 := by
      intro fu_69
      induction fu_69 with
      | zero => intro B rb tn k hm; exact absurd hm (Nat.not_lt_zero _)
      | succ fu_69 ih_69 =>
        intro B rb tn k hm_69 hk hwB hRB hS hBt
        refine j_iload hJ (q := 71) dX8_takenIf_69 6 rfl rfl ?_
        refine j_iload hJ (q := 73) dX8_takenIf_71 4 rfl rfl ?_
        refine jn_icmp_ge hJ (q := 76) (tgt := 96) dX8_takenIf_73 (by decide) rfl (by omega) (by omega) (fun c2 => ?_) (fun c2 => ?_)
        · skip
          refine j_iload hJ (q := 98) dX8_takenIf_96 5 rfl rfl ?_
          exact hE.1 _ _ _ _ _ _ _ rfl rfl dX8_takenIf_98 (Nat.le_refl _) (Nat.le_refl _) (⟨(B 21), (B 5), (B 6), (B 7), (B 8), (B 0), K, P, kd, am, st, rb, congrArg (fun z => some (Value.int z)) ((zI_nat _).symm.trans (congrArg zI (by show (_ : Int) = ((tkn i m (va_up A 6 c) : Nat) : Int); rw [← hS, show m - k = 0 by omega]; rfl))), rfl⟩)
        · skip
          refine j_aload_n hJ (q := 77) dX8_takenIf_76 rfl 0 rfl rfl ?_
          refine j_get hJ (q := 80) jf_X8_37 dX8_takenIf_77 0 rfl rfl rfl ?_
          refine j_vW hJ (q := 83) (rest := []) (As := []) (wr := [xO h u ab be (Rf 0) (Rf 1) (Rf 2), (u 0, .inr (4, [.ref (s 0), .ref (s 1), .ref (s 3), .ref (s 5), .ref (s 7)])), cO (s 0) q (A 21) (A 5) (A 6) (A 7) (A 8) (A 0), (q 0, ia Z 12 (ni K)), (q 1, ia Z 12 (ni P)), (q 2, ia Z 6 (ni kd)), (q 3, ia Z 6 (ni am)), (q 4, ia Z 6 (ni st)), (q 5, ia Z 6 (ni rg))]) jl_X8_132 (c_X4_step Z (u 3) qt B K P kd am st rb hwB hRB (by omega)) 9 rfl rfl dX8_takenIf_80 rfl (by decide) (Nat.le_of_ble_eq_true rfl) [9, 10, 11, 12, 13, 14, 15] [0, 1, 2, 3, 4, 5, 6, 7, 8] rfl rfl rfl rfl (by decide) rfl (fun rv wv hp => ?_)
          obtain ⟨rz3, rfl, rfl, f4⟩ := hp
          show J 83 [(0, .ref h), (1, .int (nI 0)), (2, .int (nI c)), (3, .int (nI i)), (4, .int (nI m)), (5, .int (nI tn)), (6, .int (nI k))] [.int (oI ((goT B false).1))] [xO h u ab be (Rf 0) (Rf 1) (Rf 2), (u 0, .inr (4, [.ref (s 0), .ref (s 1), .ref (s 3), .ref (s 5), .ref (s 7)])), cO (s 0) q (A 21) (A 5) (A 6) (A 7) (A 8) (A 0), (q 0, ia Z 12 (ni K)), (q 1, ia Z 12 (ni P)), (q 2, ia Z 6 (ni kd)), (q 3, ia Z 6 (ni am)), (q 4, ia Z 6 (ni st)), (q 5, ia Z 6 (ni rg)), cO (u 3) qt ((goT B false).2 21) ((goT B false).2 5) ((goT B false).2 6) ((goT B false).2 7) ((goT B false).2 8) ((goT B false).2 0), (qt 0, ia Z 12 (ni K)), (qt 1, ia Z 12 (ni P)), (qt 2, ia Z 6 (ni kd)), (qt 3, ia Z 6 (ni am)), (qt 4, ia Z 6 (ni st)), (qt 5, ia Z 6 (ni rz3))] 0 0
          refine j_caseo (fun o5 => ?_) (fun i6 o5 => ?_)
          · skip
            refine j_iload_n hJ (q := 84) dX8_takenIf_83 rfl 3 rfl rfl ?_
            refine jz_icmp_ne hJ (q := 87) (tgt := 90) dX8_takenIf_84 (by decide) rfl rfl (zI_nat i).symm (by omega) (by omega) (fun c7 => ?_) (fun c7 => ?_)
            · skip
              refine j_iinc hJ (q := 93) (lvs' := [(6, .int (nI (k + 1))), (0, .ref h), (1, .int (nI 0)), (2, .int (nI c)), (3, .int (nI i)), (4, .int (nI m)), (5, .int (nI tn))]) dX8_takenIf_90 6 rfl (by rw [show Int32.ofInt 1 = nI 1 from by decide +kernel]; exact nI_add _ _) (by decide) rfl rfl ?_
              refine j_goto hJ (q := 69) dX8_takenIf_93 (by decide) ?_
              refine j_locals hJ [1, 2, 3, 4, 5, 6, 0] rfl ?_
              exact ih_69 ((goT B false).2) rz3 tn (k + 1) (by omega) (by omega) (wf_goT false hwB (by omega)) (by assumption) (by rw [← hS, show m - k = (m - (k + 1)) + 1 by omega]; simp only [tkn]; split <;> simp_all <;> omega) (by rw [goT_8]; omega)
            · skip
              exfalso; omega
          · skip
            have hlt := goT_lt o5
            have hl6 := hwB.1.2.2.2.2.2
            refine j_iload_n hJ (q := 84) dX8_takenIf_83 rfl 3 rfl rfl ?_
            refine jn_icmp_ne hJ (q := 87) (tgt := 90) dX8_takenIf_84 (by decide) rfl (by omega) (by omega) (fun c8 => ?_) (fun c8 => ?_)
            · skip
              refine j_iinc hJ (q := 93) (lvs' := [(6, .int (nI (k + 1))), (0, .ref h), (1, .int (nI 0)), (2, .int (nI c)), (3, .int (nI i)), (4, .int (nI m)), (5, .int (nI tn))]) dX8_takenIf_90 6 rfl (by rw [show Int32.ofInt 1 = nI 1 from by decide +kernel]; exact nI_add _ _) (by decide) rfl rfl ?_
              refine j_goto hJ (q := 69) dX8_takenIf_93 (by decide) ?_
              refine j_locals hJ [1, 2, 3, 4, 5, 6, 0] rfl ?_
              exact ih_69 ((goT B false).2) rz3 tn (k + 1) (by omega) (by omega) (wf_goT false hwB (by omega)) (by assumption) (by rw [← hS, show m - k = (m - (k + 1)) + 1 by omega]; simp only [tkn]; split <;> simp_all <;> omega) (by rw [goT_8]; omega)
            · skip
              refine j_iinc hJ (q := 90) (lvs' := [(5, .int (nI (tn + 1))), (0, .ref h), (1, .int (nI 0)), (2, .int (nI c)), (3, .int (nI i)), (4, .int (nI m)), (6, .int (nI k))]) dX8_takenIf_87 5 rfl (by rw [show Int32.ofInt 1 = nI 1 from by decide +kernel]; exact nI_add _ _) (by decide) rfl rfl ?_
              refine j_iinc hJ (q := 93) (lvs' := [(6, .int (nI (k + 1))), (5, .int (nI (tn + 1))), (0, .ref h), (1, .int (nI 0)), (2, .int (nI c)), (3, .int (nI i)), (4, .int (nI m))]) dX8_takenIf_90 6 rfl (by rw [show Int32.ofInt 1 = nI 1 from by decide +kernel]; exact nI_add _ _) (by decide) rfl rfl ?_
              refine j_goto hJ (q := 69) dX8_takenIf_93 (by decide) ?_
              refine j_locals hJ [2, 3, 4, 5, 6, 1, 0] rfl ?_
              exact ih_69 ((goT B false).2) rz3 (tn + 1) (k + 1) (by omega) (by omega) (wf_goT false hwB (by omega)) (by assumption) (by rw [← hS, show m - k = (m - (k + 1)) + 1 by omega]; simp only [tkn]; split <;> simp_all <;> omega) (by rw [goT_8]; omega)
    refine j_locals hJ [2, 3, 4, 5, 6, 1, 0] rfl ?_
    exact L_69 ((m - 0) + 1) (va_up A 6 c) rg 0 0 (Nat.lt_succ_self _) (by omega) hw0 hR0 (by rw [Nat.zero_add]; rfl) (by show A 8 + _ < 90000; omega)
  · skip
    exfalso; omega

set_option maxHeartbeats 4000000 in
set_option maxRecDepth 100000 in
theorem c_X8_choose0 (Z : jZ) (h : Nat) (u : Nat → Nat) (ab : Int) (be : Int) (Rf : Nat → Nat) (s : Nat → Nat) (q : Nat → Nat) (A : Nat → Nat) (K : Nat → Nat) (P : Nat → Nat) (kd : Nat → Nat) (am : Nat → Nat) (st : Nat → Nat) (rg : Nat → Nat) (qt : Nat → Nat) (t1 : Nat) (t2 : Nat) (t3 : Nat) (t4 : Nat) (t5 : Nat) (t6 : Nat) (Kt : Nat → Nat) (Pt : Nat → Nat) (kt : Nat → Nat) (mt : Nat → Nat) (stt : Nat → Nat) (gt : Nat → Nat) (a : Int32) (b : Int32) (c : Int32) (hg : wg A) (hR : rR A K P kd am st rg) : CT Z yX8_choose cX8_choose 10 ((some FieldType.int)) 7 0 0 [.ref h, .int (nI 0), .int a, .int b, .int c] [xO h u ab be (Rf 0) (Rf 1) (Rf 2), (u 0, .inr (4, [.ref (s 0), .ref (s 1), .ref (s 3), .ref (s 5), .ref (s 7)])), cO (s 0) q (A 21) (A 5) (A 6) (A 7) (A 8) (A 0), (q 0, ia Z 12 (ni K)), (q 1, ia Z 12 (ni P)), (q 2, ia Z 6 (ni kd)), (q 3, ia Z 6 (ni am)), (q 4, ia Z 6 (ni st)), (q 5, ia Z 6 (ni rg)), cO (u 3) qt t1 t2 t3 t4 t5 t6, (qt 0, ia Z 12 (ni Kt)), (qt 1, ia Z 12 (ni Pt)), (qt 2, ia Z 6 (ni kt)), (qt 3, ia Z 6 (ni mt)), (qt 4, ia Z 6 (ni stt)), (qt 5, ia Z 6 (ni gt))] (fun rr ww => ∃ y1 : Nat, ∃ y2 : Nat, ∃ y3 : Nat, ∃ y4 : Nat, ∃ y5 : Nat, ∃ y6 : Nat, ∃ Kx : Nat → Nat, ∃ Px : Nat → Nat, ∃ kx : Nat → Nat, ∃ mx : Nat → Nat, ∃ sx : Nat → Nat, ∃ gx : Nat → Nat, rr = some (.int (zI (z_fast A a b c))) ∧ ww = [xO h u ab be ((if pFast A a b c then Rf else bmp Rf 0) 0) ((if pFast A a b c then Rf else bmp Rf 0) 1) ((if pFast A a b c then Rf else bmp Rf 0) 2), (u 0, .inr (4, [.ref (s 0), .ref (s 1), .ref (s 3), .ref (s 5), .ref (s 7)])), cO (s 0) q (A 21) (A 5) (A 6) (A 7) (A 8) (A 0), (q 0, ia Z 12 (ni K)), (q 1, ia Z 12 (ni P)), (q 2, ia Z 6 (ni kd)), (q 3, ia Z 6 (ni am)), (q 4, ia Z 6 (ni st)), (q 5, ia Z 6 (ni rg)), cO (u 3) qt y1 y2 y3 y4 y5 y6, (qt 0, ia Z 12 (ni Kx)), (qt 1, ia Z 12 (ni Px)), (qt 2, ia Z 6 (ni kx)), (qt 3, ia Z 6 (ni mx)), (qt 4, ia Z 6 (ni sx)), (qt 5, ia Z 6 (ni gx))]) := by
  refine CT.of RX8 false rfl (fun h => by cases h) (by decide +kernel) (Nat.le_of_ble_eq_true rfl) ?_
  intro J hJ hE
  show J 0 [(0, .ref h), (1, .int (nI 0)), (2, .int a), (3, .int b), (4, .int c)] [] [xO h u ab be (Rf 0) (Rf 1) (Rf 2), (u 0, .inr (4, [.ref (s 0), .ref (s 1), .ref (s 3), .ref (s 5), .ref (s 7)])), cO (s 0) q (A 21) (A 5) (A 6) (A 7) (A 8) (A 0), (q 0, ia Z 12 (ni K)), (q 1, ia Z 12 (ni P)), (q 2, ia Z 6 (ni kd)), (q 3, ia Z 6 (ni am)), (q 4, ia Z 6 (ni st)), (q 5, ia Z 6 (ni rg)), cO (u 3) qt t1 t2 t3 t4 t5 t6, (qt 0, ia Z 12 (ni Kt)), (qt 1, ia Z 12 (ni Pt)), (qt 2, ia Z 6 (ni kt)), (qt 3, ia Z 6 (ni mt)), (qt 4, ia Z 6 (ni stt)), (qt 5, ia Z 6 (ni gt))] 0 0
  obtain ⟨hw, ⟨g1, g2, g3, g4, g8⟩, hrs, hrn, hrm, hpst⟩ := id hg
  obtain ⟨⟨w1, w2, w3, w4, w5, w6⟩, hb, wr, wh, wd⟩ := id hw
  have hr_a := zI_rng a
  have hr_b := zI_rng b
  have hr_c := zI_rng c
  refine j_aload_n hJ (q := 1) dX8_choose_0 rfl 0 rfl rfl ?_
  refine j_iload_n hJ (q := 2) dX8_choose_1 rfl 2 rfl rfl ?_
  refine j_vR hJ (q := 5) (rest := []) (As := [.int a]) jl_X8_141 (c_X8_isRider Z h u ab be Rf s q A K P kd am st rg a (by omega)) 0 rfl rfl dX8_choose_2 rfl (by decide) (Nat.le_of_ble_eq_true rfl) [0, 1, 2, 3, 4, 5, 6, 7, 8] rfl rfl (fun rv hp => ?_)
  obtain rfl := hp
  show J 5 [(0, .ref h), (1, .int (nI 0)), (2, .int a), (3, .int b), (4, .int c)] [.int (bI (decide (0 ≤ a.toInt ∧ a.toInt ≤ (A 0 : Int) - 1)))] [xO h u ab be (Rf 0) (Rf 1) (Rf 2), (u 0, .inr (4, [.ref (s 0), .ref (s 1), .ref (s 3), .ref (s 5), .ref (s 7)])), cO (s 0) q (A 21) (A 5) (A 6) (A 7) (A 8) (A 0), (q 0, ia Z 12 (ni K)), (q 1, ia Z 12 (ni P)), (q 2, ia Z 6 (ni kd)), (q 3, ia Z 6 (ni am)), (q 4, ia Z 6 (ni st)), (q 5, ia Z 6 (ni rg)), cO (u 3) qt t1 t2 t3 t4 t5 t6, (qt 0, ia Z 12 (ni Kt)), (qt 1, ia Z 12 (ni Pt)), (qt 2, ia Z 6 (ni kt)), (qt 3, ia Z 6 (ni mt)), (qt 4, ia Z 6 (ni stt)), (qt 5, ia Z 6 (ni gt))] 0 0
  refine jp_if_eq hJ (q := 8) (tgt := 28) dX8_choose_5 (by decide) rfl (fun c1 => ?_) (fun c1 => ?_)
  · skip
    refine j_aload_n hJ (q := 29) dX8_choose_28 rfl 0 rfl rfl ?_
    refine j_vW hJ (q := 32) (rest := []) (As := []) (wr := [(u 0, .inr (4, [.ref (s 0), .ref (s 1), .ref (s 3), .ref (s 5), .ref (s 7)])), cO (s 0) q (A 21) (A 5) (A 6) (A 7) (A 8) (A 0), (q 0, ia Z 12 (ni K)), (q 1, ia Z 12 (ni P)), (q 2, ia Z 6 (ni kd)), (q 3, ia Z 6 (ni am)), (q 4, ia Z 6 (ni st)), (q 5, ia Z 6 (ni rg)), cO (u 3) qt t1 t2 t3 t4 t5 t6, (qt 0, ia Z 12 (ni Kt)), (qt 1, ia Z 12 (ni Pt)), (qt 2, ia Z 6 (ni kt)), (qt 3, ia Z 6 (ni mt)), (qt 4, ia Z 6 (ni stt)), (qt 5, ia Z 6 (ni gt))]) jl_X8_62 (c_X8_bad Z h u ab be Rf ) 0 rfl rfl dX8_choose_29 rfl (by decide) (Nat.le_of_ble_eq_true rfl) [0] [1, 2, 3, 4, 5, 6, 7, 8, 9, 10, 11, 12, 13, 14, 15] rfl rfl rfl rfl (by decide) rfl (fun rv wv hp => ?_)
    obtain ⟨rfl, rfl⟩ := hp
    refine j_world hJ (ws' := [xO h u ab be ((bmp Rf 0) 0) ((bmp Rf 0) 1) ((bmp Rf 0) 2), (u 0, .inr (4, [.ref (s 0), .ref (s 1), .ref (s 3), .ref (s 5), .ref (s 7)])), cO (s 0) q (A 21) (A 5) (A 6) (A 7) (A 8) (A 0), (q 0, ia Z 12 (ni K)), (q 1, ia Z 12 (ni P)), (q 2, ia Z 6 (ni kd)), (q 3, ia Z 6 (ni am)), (q 4, ia Z 6 (ni st)), (q 5, ia Z 6 (ni rg)), cO (u 3) qt t1 t2 t3 t4 t5 t6, (qt 0, ia Z 12 (ni Kt)), (qt 1, ia Z 12 (ni Pt)), (qt 2, ia Z 6 (ni kt)), (qt 3, ia Z 6 (ni mt)), (qt 4, ia Z 6 (ni stt)), (qt 5, ia Z 6 (ni gt))]) [15, 0, 1, 2, 3, 4, 5, 6, 7, 8, 9, 10, 11, 12, 13, 14] rfl rfl ?_
    show J 32 [(0, .ref h), (1, .int (nI 0)), (2, .int a), (3, .int b), (4, .int c)] [.int (zI (-2))] [xO h u ab be ((bmp Rf 0) 0) ((bmp Rf 0) 1) ((bmp Rf 0) 2), (u 0, .inr (4, [.ref (s 0), .ref (s 1), .ref (s 3), .ref (s 5), .ref (s 7)])), cO (s 0) q (A 21) (A 5) (A 6) (A 7) (A 8) (A 0), (q 0, ia Z 12 (ni K)), (q 1, ia Z 12 (ni P)), (q 2, ia Z 6 (ni kd)), (q 3, ia Z 6 (ni am)), (q 4, ia Z 6 (ni st)), (q 5, ia Z 6 (ni rg)), cO (u 3) qt t1 t2 t3 t4 t5 t6, (qt 0, ia Z 12 (ni Kt)), (qt 1, ia Z 12 (ni Pt)), (qt 2, ia Z 6 (ni kt)), (qt 3, ia Z 6 (ni mt)), (qt 4, ia Z 6 (ni stt)), (qt 5, ia Z 6 (ni gt))] 0 0
    have hP0 : ¬ pFast A a b c := by simp only [rgI, isS, isR, pNote, pMark, pFast, pLever, pHands, pSlip, pEven]; omega
    exact hE.1 _ _ _ _ _ _ _ rfl rfl dX8_choose_32 (Nat.le_refl _) (Nat.le_refl _) (⟨t1, t2, t3, t4, t5, t6, Kt, Pt, kt, mt, stt, gt, congrArg (fun z => some (Value.int (zI z))) (by simp only [z_fast, if_neg hP0]), by rw [if_neg hP0] <;> rfl⟩)
  · skip
    refine j_iload_n hJ (q := 9) dX8_choose_8 rfl 3 rfl rfl ?_
    refine j_iconst hJ (q := 10) dX8_choose_9 rfl ki_1 ?_
    refine j_bipush hJ (q := 12) dX8_choose_10 rfl kb_60 ?_
    refine j_sR hJ (q := 15) (rest := []) (As := [.int b, .int (zI 1), .int (zI 60)]) jl_X8_58 (c_X8_within Z b 1 60 (by omega) (by omega)) dX8_choose_12 rfl (by decide) (Nat.le_of_ble_eq_true rfl) [] rfl rfl (fun rv hp => ?_)
    obtain rfl := hp
    show J 15 [(0, .ref h), (1, .int (nI 0)), (2, .int a), (3, .int b), (4, .int c)] [.int (bI (decide (1 ≤ b.toInt ∧ b.toInt ≤ 60)))] [xO h u ab be (Rf 0) (Rf 1) (Rf 2), (u 0, .inr (4, [.ref (s 0), .ref (s 1), .ref (s 3), .ref (s 5), .ref (s 7)])), cO (s 0) q (A 21) (A 5) (A 6) (A 7) (A 8) (A 0), (q 0, ia Z 12 (ni K)), (q 1, ia Z 12 (ni P)), (q 2, ia Z 6 (ni kd)), (q 3, ia Z 6 (ni am)), (q 4, ia Z 6 (ni st)), (q 5, ia Z 6 (ni rg)), cO (u 3) qt t1 t2 t3 t4 t5 t6, (qt 0, ia Z 12 (ni Kt)), (qt 1, ia Z 12 (ni Pt)), (qt 2, ia Z 6 (ni kt)), (qt 3, ia Z 6 (ni mt)), (qt 4, ia Z 6 (ni stt)), (qt 5, ia Z 6 (ni gt))] 0 0
    refine jp_if_eq hJ (q := 18) (tgt := 28) dX8_choose_15 (by decide) rfl (fun c2 => ?_) (fun c2 => ?_)
    · skip
      refine j_aload_n hJ (q := 29) dX8_choose_28 rfl 0 rfl rfl ?_
      refine j_vW hJ (q := 32) (rest := []) (As := []) (wr := [(u 0, .inr (4, [.ref (s 0), .ref (s 1), .ref (s 3), .ref (s 5), .ref (s 7)])), cO (s 0) q (A 21) (A 5) (A 6) (A 7) (A 8) (A 0), (q 0, ia Z 12 (ni K)), (q 1, ia Z 12 (ni P)), (q 2, ia Z 6 (ni kd)), (q 3, ia Z 6 (ni am)), (q 4, ia Z 6 (ni st)), (q 5, ia Z 6 (ni rg)), cO (u 3) qt t1 t2 t3 t4 t5 t6, (qt 0, ia Z 12 (ni Kt)), (qt 1, ia Z 12 (ni Pt)), (qt 2, ia Z 6 (ni kt)), (qt 3, ia Z 6 (ni mt)), (qt 4, ia Z 6 (ni stt)), (qt 5, ia Z 6 (ni gt))]) jl_X8_62 (c_X8_bad Z h u ab be Rf ) 0 rfl rfl dX8_choose_29 rfl (by decide) (Nat.le_of_ble_eq_true rfl) [0] [1, 2, 3, 4, 5, 6, 7, 8, 9, 10, 11, 12, 13, 14, 15] rfl rfl rfl rfl (by decide) rfl (fun rv wv hp => ?_)
      obtain ⟨rfl, rfl⟩ := hp
      refine j_world hJ (ws' := [xO h u ab be ((bmp Rf 0) 0) ((bmp Rf 0) 1) ((bmp Rf 0) 2), (u 0, .inr (4, [.ref (s 0), .ref (s 1), .ref (s 3), .ref (s 5), .ref (s 7)])), cO (s 0) q (A 21) (A 5) (A 6) (A 7) (A 8) (A 0), (q 0, ia Z 12 (ni K)), (q 1, ia Z 12 (ni P)), (q 2, ia Z 6 (ni kd)), (q 3, ia Z 6 (ni am)), (q 4, ia Z 6 (ni st)), (q 5, ia Z 6 (ni rg)), cO (u 3) qt t1 t2 t3 t4 t5 t6, (qt 0, ia Z 12 (ni Kt)), (qt 1, ia Z 12 (ni Pt)), (qt 2, ia Z 6 (ni kt)), (qt 3, ia Z 6 (ni mt)), (qt 4, ia Z 6 (ni stt)), (qt 5, ia Z 6 (ni gt))]) [15, 0, 1, 2, 3, 4, 5, 6, 7, 8, 9, 10, 11, 12, 13, 14] rfl rfl ?_
      show J 32 [(0, .ref h), (1, .int (nI 0)), (2, .int a), (3, .int b), (4, .int c)] [.int (zI (-2))] [xO h u ab be ((bmp Rf 0) 0) ((bmp Rf 0) 1) ((bmp Rf 0) 2), (u 0, .inr (4, [.ref (s 0), .ref (s 1), .ref (s 3), .ref (s 5), .ref (s 7)])), cO (s 0) q (A 21) (A 5) (A 6) (A 7) (A 8) (A 0), (q 0, ia Z 12 (ni K)), (q 1, ia Z 12 (ni P)), (q 2, ia Z 6 (ni kd)), (q 3, ia Z 6 (ni am)), (q 4, ia Z 6 (ni st)), (q 5, ia Z 6 (ni rg)), cO (u 3) qt t1 t2 t3 t4 t5 t6, (qt 0, ia Z 12 (ni Kt)), (qt 1, ia Z 12 (ni Pt)), (qt 2, ia Z 6 (ni kt)), (qt 3, ia Z 6 (ni mt)), (qt 4, ia Z 6 (ni stt)), (qt 5, ia Z 6 (ni gt))] 0 0
      have hP0 : ¬ pFast A a b c := by simp only [rgI, isS, isR, pNote, pMark, pFast, pLever, pHands, pSlip, pEven]; omega
      exact hE.1 _ _ _ _ _ _ _ rfl rfl dX8_choose_32 (Nat.le_refl _) (Nat.le_refl _) (⟨t1, t2, t3, t4, t5, t6, Kt, Pt, kt, mt, stt, gt, congrArg (fun z => some (Value.int (zI z))) (by simp only [z_fast, if_neg hP0]), by rw [if_neg hP0] <;> rfl⟩)
    · skip
      refine j_iload hJ (q := 20) dX8_choose_18 4 rfl rfl ?_
      refine j_iconst hJ (q := 21) dX8_choose_20 rfl ki_0 ?_
      refine j_iconst hJ (q := 22) dX8_choose_21 rfl ki_1 ?_
      refine j_sR hJ (q := 25) (rest := []) (As := [.int c, .int (zI 0), .int (zI 1)]) jl_X8_58 (c_X8_within Z c 0 1 (by omega) (by omega)) dX8_choose_22 rfl (by decide) (Nat.le_of_ble_eq_true rfl) [] rfl rfl (fun rv hp => ?_)
      obtain rfl := hp
      show J 25 [(0, .ref h), (1, .int (nI 0)), (2, .int a), (3, .int b), (4, .int c)] [.int (bI (decide (0 ≤ c.toInt ∧ c.toInt ≤ 1)))] [xO h u ab be (Rf 0) (Rf 1) (Rf 2), (u 0, .inr (4, [.ref (s 0), .ref (s 1), .ref (s 3), .ref (s 5), .ref (s 7)])), cO (s 0) q (A 21) (A 5) (A 6) (A 7) (A 8) (A 0), (q 0, ia Z 12 (ni K)), (q 1, ia Z 12 (ni P)), (q 2, ia Z 6 (ni kd)), (q 3, ia Z 6 (ni am)), (q 4, ia Z 6 (ni st)), (q 5, ia Z 6 (ni rg)), cO (u 3) qt t1 t2 t3 t4 t5 t6, (qt 0, ia Z 12 (ni Kt)), (qt 1, ia Z 12 (ni Pt)), (qt 2, ia Z 6 (ni kt)), (qt 3, ia Z 6 (ni mt)), (qt 4, ia Z 6 (ni stt)), (qt 5, ia Z 6 (ni gt))] 0 0
      refine jp_if_ne hJ (q := 28) (tgt := 33) dX8_choose_25 (by decide) rfl (fun c3 => ?_) (fun c3 => ?_)
      · skip
        have hn_a := nt_cast (x := a) (by omega)
        refine j_eql (lvs' := [(0, .ref h), (1, .int (nI 0)), (2, .int (nI (nt a))), (3, .int b), (4, .int c)]) (by rw [← nt_eq (x := a) (by omega)]) ?_
        have hn_b := nt_cast (x := b) (by omega)
        refine j_eql (lvs' := [(0, .ref h), (1, .int (nI 0)), (2, .int (nI (nt a))), (3, .int (nI (nt b))), (4, .int c)]) (by rw [← nt_eq (x := b) (by omega)]) ?_
        have hn_c := nt_cast (x := c) (by omega)
        refine j_eql (lvs' := [(0, .ref h), (1, .int (nI 0)), (2, .int (nI (nt a))), (3, .int (nI (nt b))), (4, .int (nI (nt c)))]) (by rw [← nt_eq (x := c) (by omega)]) ?_
        refine j_iload_n hJ (q := 34) dX8_choose_33 rfl 1 rfl rfl ?_
        refine jn_if_eq hJ (q := 37) (tgt := 50) dX8_choose_34 (by decide) rfl (by omega) (fun c4 => ?_) (fun c4 => ?_)
        · skip
          refine j_iconst hJ (q := 51) dX8_choose_50 rfl ki_4 ?_
          refine j_istore hJ (q := 53) (lvs' := [(5, .int (nI 4)), (0, .ref h), (1, .int (nI 0)), (2, .int (nI (nt a))), (3, .int (nI (nt b))), (4, .int (nI (nt c)))]) dX8_choose_51 (by decide) rfl rfl ?_
          refine j_iconst hJ (q := 54) dX8_choose_53 rfl ki_m1 ?_
          refine j_istore hJ (q := 56) (lvs' := [(6, .int (zI (-1))), (5, .int (nI 4)), (0, .ref h), (1, .int (nI 0)), (2, .int (nI (nt a))), (3, .int (nI (nt b))), (4, .int (nI (nt c)))]) dX8_choose_54 (by decide) rfl rfl ?_
          refine j_iconst hJ (q := 57) dX8_choose_56 rfl ki_m1 ?_
          refine j_istore hJ (q := 59) (lvs' := [(7, .int (zI (-1))), (6, .int (zI (-1))), (5, .int (nI 4)), (0, .ref h), (1, .int (nI 0)), (2, .int (nI (nt a))), (3, .int (nI (nt b))), (4, .int (nI (nt c)))]) dX8_choose_57 (by decide) rfl rfl ?_
          refine j_iconst hJ (q := 60) dX8_choose_59 rfl ki_0 ?_
          refine j_istore hJ (q := 62) (lvs' := [(8, .int (nI 0)), (7, .int (zI (-1))), (6, .int (zI (-1))), (5, .int (nI 4)), (0, .ref h), (1, .int (nI 0)), (2, .int (nI (nt a))), (3, .int (nI (nt b))), (4, .int (nI (nt c)))]) dX8_choose_60 (by decide) rfl rfl ?_
          have L_62 : ∀ (fu_62 : Nat) (e1 : Nat) (e2 : Nat) (e3 : Nat) (e4 : Nat) (e5 : Nat) (e6 : Nat) (Ka : Nat → Nat) (Pa : Nat → Nat) (ka : Nat → Nat) (ma : Nat → Nat) (sa : Nat → Nat) (ga : Nat → Nat) (mo : Int) (bs : Int) (vv : Nat), 4 - vv < fu_62 → (vv ≤ 4) → (bst (fFast A (nt a) (nt b)) vv = (bs, mo)) → J 62 [(0, .ref h), (1, .int (nI 0)), (2, .int (nI (nt a))), (3, .int (nI (nt b))), (4, .int (nI (nt c))), (5, .int (nI 4)), (6, .int (zI mo)), (7, .int (zI bs)), (8, .int (nI vv))] [] [xO h u ab be (Rf 0) (Rf 1) (Rf 2), (u 0, .inr (4, [.ref (s 0), .ref (s 1), .ref (s 3), .ref (s 5), .ref (s 7)])), cO (s 0) q (A 21) (A 5) (A 6) (A 7) (A 8) (A 0), (q 0, ia Z 12 (ni K)), (q 1, ia Z 12 (ni P)), (q 2, ia Z 6 (ni kd)), (q 3, ia Z 6 (ni am)), (q 4, ia Z 6 (ni st)), (q 5, ia Z 6 (ni rg)), cO (u 3) qt e1 e2 e3 e4 e5 e6, (qt 0, ia Z 12 (ni Ka)), (qt 1, ia Z 12 (ni Pa)), (qt 2, ia Z 6 (ni ka)), (qt 3, ia Z 6 (ni ma)), (qt 4, ia Z 6 (ni sa)), (qt 5, ia Z 6 (ni ga))] 0 0 := by
            intro fu_62
            induction fu_62 with
            | zero => intro e1 e2 e3 e4 e5 e6 Ka Pa ka ma sa ga mo bs vv hm; exact absurd hm (Nat.not_lt_zero _)
            | succ fu_62 ih_62 =>
              intro e1 e2 e3 e4 e5 e6 Ka Pa ka ma sa ga mo bs vv hm_62 hv hbm
              have hbl2 := bst_le (f := fFast A (nt a) (nt b)) (M := 60) (by decide) vv (fun u _ => by have := tkn_le (nt a) (nt b) (va_up A 6 u); show (tkn (nt a) (nt b) (va_up A 6 u) : Int) ≤ 60; omega)
              rw [hbm] at hbl2
              have hbl3 := hbl2.1
              have hbl4 := hbl2.2.1
              have hbl5 := hbl2.2.2.1
              have hbl6 := hbl2.2.2.2
              dsimp only at hbl3 hbl4 hbl5 hbl6
              refine j_iload hJ (q := 64) dX8_choose_62 8 rfl rfl ?_
              refine j_iload hJ (q := 66) dX8_choose_64 5 rfl rfl ?_
              refine jn_icmp_ge hJ (q := 69) (tgt := 101) dX8_choose_66 (by decide) rfl (by omega) (by omega) (fun c5 => ?_) (fun c5 => ?_)
              · skip
                refine j_iload hJ (q := 103) dX8_choose_101 4 rfl rfl ?_
                refine jn_if_ne hJ (q := 106) (tgt := 111) dX8_choose_103 (by decide) rfl (by omega) (fun c6 => ?_) (fun c6 => ?_)
                · skip
                  refine j_iload hJ (q := 113) dX8_choose_111 6 rfl rfl ?_
                  have hP0 : pFast A a b c := by simp only [rgI, isS, isR, pNote, pMark, pFast, pLever, pHands, pSlip, pEven]; omega
                  have hQ0 : ¬ nt c = 0 := by omega
                  exact hE.1 _ _ _ _ _ _ _ rfl rfl dX8_choose_113 (Nat.le_refl _) (Nat.le_refl _) (⟨e1, e2, e3, e4, e5, e6, Ka, Pa, ka, ma, sa, ga, congrArg (fun z => some (Value.int (zI z))) (by simp only [z_fast, if_pos hP0, if_neg hQ0]; rw [show 4 = vv by omega, hbm]), by rw [if_pos hP0] <;> rfl⟩)
                · skip
                  refine j_iload hJ (q := 108) dX8_choose_106 7 rfl rfl ?_
                  refine j_goto hJ (q := 113) dX8_choose_108 (by decide) ?_
                  have hP0 : pFast A a b c := by simp only [rgI, isS, isR, pNote, pMark, pFast, pLever, pHands, pSlip, pEven]; omega
                  have hQ0 : nt c = 0 := by omega
                  exact hE.1 _ _ _ _ _ _ _ rfl rfl dX8_choose_113 (Nat.le_refl _) (Nat.le_refl _) (⟨e1, e2, e3, e4, e5, e6, Ka, Pa, ka, ma, sa, ga, congrArg (fun z => some (Value.int (zI z))) (by simp only [z_fast, if_pos hP0, if_pos hQ0]; rw [show 4 = vv by omega, hbm]), by rw [if_pos hP0] <;> rfl⟩)
              · skip
                refine j_aload_n hJ (q := 70) dX8_choose_69 rfl 0 rfl rfl ?_
                refine j_iload_n hJ (q := 71) dX8_choose_70 rfl 1 rfl rfl ?_
                refine j_iload hJ (q := 73) dX8_choose_71 8 rfl rfl ?_
                refine j_iload_n hJ (q := 74) dX8_choose_73 rfl 2 rfl rfl ?_
                refine j_iload_n hJ (q := 75) dX8_choose_74 rfl 3 rfl rfl ?_
                refine j_vW hJ (q := 78) (rest := []) (As := [.int (nI 0), .int (nI vv), .int (nI (nt a)), .int (nI (nt b))]) (wr := []) jl_X8_284 (c_X8_takenIf0 Z h u ab be Rf s q A K P kd am st rg qt e1 e2 e3 e4 e5 e6 Ka Pa ka ma sa ga vv (nt a) (nt b) hg hR (by omega) (by omega) (by omega)) 0 rfl rfl dX8_choose_75 rfl (by decide) (Nat.le_of_ble_eq_true rfl) [0, 1, 2, 3, 4, 5, 6, 7, 8, 9, 10, 11, 12, 13, 14, 15] [] rfl rfl rfl rfl (by decide) rfl (fun rv wv hp => ?_)
                obtain ⟨y17, y28, y39, y410, y511, y612, Kx13, Px14, kx15, mx16, sx17, gx18, rfl, rfl⟩ := hp
                show J 78 [(0, .ref h), (1, .int (nI 0)), (2, .int (nI (nt a))), (3, .int (nI (nt b))), (4, .int (nI (nt c))), (5, .int (nI 4)), (6, .int (zI mo)), (7, .int (zI bs)), (8, .int (nI vv))] [.int (zI (fFast A (nt a) (nt b) vv))] [xO h u ab be (Rf 0) (Rf 1) (Rf 2), (u 0, .inr (4, [.ref (s 0), .ref (s 1), .ref (s 3), .ref (s 5), .ref (s 7)])), cO (s 0) q (A 21) (A 5) (A 6) (A 7) (A 8) (A 0), (q 0, ia Z 12 (ni K)), (q 1, ia Z 12 (ni P)), (q 2, ia Z 6 (ni kd)), (q 3, ia Z 6 (ni am)), (q 4, ia Z 6 (ni st)), (q 5, ia Z 6 (ni rg)), cO (u 3) qt y17 y28 y39 y410 y511 y612, (qt 0, ia Z 12 (ni Kx13)), (qt 1, ia Z 12 (ni Px14)), (qt 2, ia Z 6 (ni kx15)), (qt 3, ia Z 6 (ni mx16)), (qt 4, ia Z 6 (ni sx17)), (qt 5, ia Z 6 (ni gx18))] 0 0
                have hfb : -1 ≤ fFast A (nt a) (nt b) vv ∧ fFast A (nt a) (nt b) vv ≤ 60 := by have := tkn_le (nt a) (nt b) (va_up A 6 vv); show -1 ≤ (tkn (nt a) (nt b) (va_up A 6 vv) : Int) ∧ (tkn (nt a) (nt b) (va_up A 6 vv) : Int) ≤ 60; omega
                refine j_istore hJ (q := 80) (lvs' := [(9, .int (zI (fFast A (nt a) (nt b) vv))), (0, .ref h), (1, .int (nI 0)), (2, .int (nI (nt a))), (3, .int (nI (nt b))), (4, .int (nI (nt c))), (5, .int (nI 4)), (6, .int (zI mo)), (7, .int (zI bs)), (8, .int (nI vv))]) dX8_choose_78 (by decide) rfl rfl ?_
                refine j_iload hJ (q := 82) dX8_choose_80 0 rfl rfl ?_
                refine j_iload hJ (q := 84) dX8_choose_82 7 rfl rfl ?_
                refine jz_icmp_le hJ (q := 87) (tgt := 95) dX8_choose_84 (by decide) rfl rfl rfl (by omega) (by omega) (fun c19 => ?_) (fun c19 => ?_)
                · skip
                  refine j_iinc hJ (q := 98) (lvs' := [(8, .int (nI (vv + 1))), (9, .int (zI (fFast A (nt a) (nt b) vv))), (0, .ref h), (1, .int (nI 0)), (2, .int (nI (nt a))), (3, .int (nI (nt b))), (4, .int (nI (nt c))), (5, .int (nI 4)), (6, .int (zI mo)), (7, .int (zI bs))]) dX8_choose_95 9 rfl (by rw [show Int32.ofInt 1 = nI 1 from by decide +kernel]; exact nI_add _ _) (by decide) rfl rfl ?_
                  refine j_goto hJ (q := 62) dX8_choose_98 (by decide) ?_
                  refine j_locals hJ [2, 3, 4, 5, 6, 7, 8, 9, 0] rfl ?_
                  exact ih_62 y17 y28 y39 y410 y511 y612 Kx13 Px14 kx15 mx16 sx17 gx18 mo bs (vv + 1) (by omega) (by omega) (bst_no hbm (by omega))
                · skip
                  refine j_iload hJ (q := 89) dX8_choose_87 0 rfl rfl ?_
                  refine j_istore hJ (q := 91) (lvs' := [(6, .int (zI (fFast A (nt a) (nt b) vv))), (9, .int (zI (fFast A (nt a) (nt b) vv))), (0, .ref h), (1, .int (nI 0)), (2, .int (nI (nt a))), (3, .int (nI (nt b))), (4, .int (nI (nt c))), (5, .int (nI 4)), (7, .int (zI bs)), (8, .int (nI vv))]) dX8_choose_89 (by decide) rfl rfl ?_
                  refine j_iload hJ (q := 93) dX8_choose_91 9 rfl rfl ?_
                  refine j_istore hJ (q := 95) (lvs' := [(7, .int (nI vv)), (6, .int (zI (fFast A (nt a) (nt b) vv))), (9, .int (zI (fFast A (nt a) (nt b) vv))), (0, .ref h), (1, .int (nI 0)), (2, .int (nI (nt a))), (3, .int (nI (nt b))), (4, .int (nI (nt c))), (5, .int (nI 4)), (8, .int (nI vv))]) dX8_choose_93 (by decide) rfl rfl ?_
                  refine j_iinc hJ (q := 98) (lvs' := [(8, .int (nI (vv + 1))), (7, .int (nI vv)), (6, .int (zI (fFast A (nt a) (nt b) vv))), (9, .int (zI (fFast A (nt a) (nt b) vv))), (0, .ref h), (1, .int (nI 0)), (2, .int (nI (nt a))), (3, .int (nI (nt b))), (4, .int (nI (nt c))), (5, .int (nI 4))]) dX8_choose_95 9 rfl (by rw [show Int32.ofInt 1 = nI 1 from by decide +kernel]; exact nI_add _ _) (by decide) rfl rfl ?_
                  refine j_goto hJ (q := 62) dX8_choose_98 (by decide) ?_
                  refine j_locals hJ [4, 5, 6, 7, 8, 9, 2, 1, 0] rfl ?_
                  refine j_eql (lvs' := [(0, .ref h), (1, .int (nI 0)), (2, .int (nI (nt a))), (3, .int (nI (nt b))), (4, .int (nI (nt c))), (5, .int (nI 4)), (6, .int (zI (fFast A (nt a) (nt b) vv))), (7, .int (zI ((vv : Nat) : Int))), (8, .int (nI (vv + 1)))]) (by simp only [zI_nat] <;> rfl) ?_
                  exact ih_62 y17 y28 y39 y410 y511 y612 Kx13 Px14 kx15 mx16 sx17 gx18 (fFast A (nt a) (nt b) vv) ((vv : Nat) : Int) (vv + 1) (by omega) (by omega) (bst_go hbm (by omega))
          refine j_locals hJ [4, 5, 6, 7, 8, 3, 2, 1, 0] rfl ?_
          exact L_62 ((4 - 0) + 1) t1 t2 t3 t4 t5 t6 Kt Pt kt mt stt gt (-1) (-1) 0 (Nat.lt_succ_self _) (by omega) rfl
        · skip
          exfalso; omega
      · skip
        refine j_aload_n hJ (q := 29) dX8_choose_28 rfl 0 rfl rfl ?_
        refine j_vW hJ (q := 32) (rest := []) (As := []) (wr := [(u 0, .inr (4, [.ref (s 0), .ref (s 1), .ref (s 3), .ref (s 5), .ref (s 7)])), cO (s 0) q (A 21) (A 5) (A 6) (A 7) (A 8) (A 0), (q 0, ia Z 12 (ni K)), (q 1, ia Z 12 (ni P)), (q 2, ia Z 6 (ni kd)), (q 3, ia Z 6 (ni am)), (q 4, ia Z 6 (ni st)), (q 5, ia Z 6 (ni rg)), cO (u 3) qt t1 t2 t3 t4 t5 t6, (qt 0, ia Z 12 (ni Kt)), (qt 1, ia Z 12 (ni Pt)), (qt 2, ia Z 6 (ni kt)), (qt 3, ia Z 6 (ni mt)), (qt 4, ia Z 6 (ni stt)), (qt 5, ia Z 6 (ni gt))]) jl_X8_62 (c_X8_bad Z h u ab be Rf ) 0 rfl rfl dX8_choose_29 rfl (by decide) (Nat.le_of_ble_eq_true rfl) [0] [1, 2, 3, 4, 5, 6, 7, 8, 9, 10, 11, 12, 13, 14, 15] rfl rfl rfl rfl (by decide) rfl (fun rv wv hp => ?_)
        obtain ⟨rfl, rfl⟩ := hp
        refine j_world hJ (ws' := [xO h u ab be ((bmp Rf 0) 0) ((bmp Rf 0) 1) ((bmp Rf 0) 2), (u 0, .inr (4, [.ref (s 0), .ref (s 1), .ref (s 3), .ref (s 5), .ref (s 7)])), cO (s 0) q (A 21) (A 5) (A 6) (A 7) (A 8) (A 0), (q 0, ia Z 12 (ni K)), (q 1, ia Z 12 (ni P)), (q 2, ia Z 6 (ni kd)), (q 3, ia Z 6 (ni am)), (q 4, ia Z 6 (ni st)), (q 5, ia Z 6 (ni rg)), cO (u 3) qt t1 t2 t3 t4 t5 t6, (qt 0, ia Z 12 (ni Kt)), (qt 1, ia Z 12 (ni Pt)), (qt 2, ia Z 6 (ni kt)), (qt 3, ia Z 6 (ni mt)), (qt 4, ia Z 6 (ni stt)), (qt 5, ia Z 6 (ni gt))]) [15, 0, 1, 2, 3, 4, 5, 6, 7, 8, 9, 10, 11, 12, 13, 14] rfl rfl ?_
        show J 32 [(0, .ref h), (1, .int (nI 0)), (2, .int a), (3, .int b), (4, .int c)] [.int (zI (-2))] [xO h u ab be ((bmp Rf 0) 0) ((bmp Rf 0) 1) ((bmp Rf 0) 2), (u 0, .inr (4, [.ref (s 0), .ref (s 1), .ref (s 3), .ref (s 5), .ref (s 7)])), cO (s 0) q (A 21) (A 5) (A 6) (A 7) (A 8) (A 0), (q 0, ia Z 12 (ni K)), (q 1, ia Z 12 (ni P)), (q 2, ia Z 6 (ni kd)), (q 3, ia Z 6 (ni am)), (q 4, ia Z 6 (ni st)), (q 5, ia Z 6 (ni rg)), cO (u 3) qt t1 t2 t3 t4 t5 t6, (qt 0, ia Z 12 (ni Kt)), (qt 1, ia Z 12 (ni Pt)), (qt 2, ia Z 6 (ni kt)), (qt 3, ia Z 6 (ni mt)), (qt 4, ia Z 6 (ni stt)), (qt 5, ia Z 6 (ni gt))] 0 0
        have hP0 : ¬ pFast A a b c := by simp only [rgI, isS, isR, pNote, pMark, pFast, pLever, pHands, pSlip, pEven]; omega
        exact hE.1 _ _ _ _ _ _ _ rfl rfl dX8_choose_32 (Nat.le_refl _) (Nat.le_refl _) (⟨t1, t2, t3, t4, t5, t6, Kt, Pt, kt, mt, stt, gt, congrArg (fun z => some (Value.int (zI z))) (by simp only [z_fast, if_neg hP0]), by rw [if_neg hP0] <;> rfl⟩)

set_option maxHeartbeats 4000000 in
set_option maxRecDepth 100000 in
theorem c_X8_fast (Z : jZ) (h : Nat) (u : Nat → Nat) (ab : Int) (be : Int) (Rf : Nat → Nat) (s : Nat → Nat) (q : Nat → Nat) (A : Nat → Nat) (K : Nat → Nat) (P : Nat → Nat) (kd : Nat → Nat) (am : Nat → Nat) (st : Nat → Nat) (rg : Nat → Nat) (qt : Nat → Nat) (t1 : Nat) (t2 : Nat) (t3 : Nat) (t4 : Nat) (t5 : Nat) (t6 : Nat) (Kt : Nat → Nat) (Pt : Nat → Nat) (kt : Nat → Nat) (mt : Nat → Nat) (stt : Nat → Nat) (gt : Nat → Nat) (a : Int32) (b : Int32) (c : Int32) (hg : wg A) (hR : rR A K P kd am st rg) : CT Z yX8_fast cX8_fast 4 ((some FieldType.int)) 8 0 0 [.ref h, .int a, .int b, .int c] [xO h u ab be (Rf 0) (Rf 1) (Rf 2), (u 0, .inr (4, [.ref (s 0), .ref (s 1), .ref (s 3), .ref (s 5), .ref (s 7)])), cO (s 0) q (A 21) (A 5) (A 6) (A 7) (A 8) (A 0), (q 0, ia Z 12 (ni K)), (q 1, ia Z 12 (ni P)), (q 2, ia Z 6 (ni kd)), (q 3, ia Z 6 (ni am)), (q 4, ia Z 6 (ni st)), (q 5, ia Z 6 (ni rg)), cO (u 3) qt t1 t2 t3 t4 t5 t6, (qt 0, ia Z 12 (ni Kt)), (qt 1, ia Z 12 (ni Pt)), (qt 2, ia Z 6 (ni kt)), (qt 3, ia Z 6 (ni mt)), (qt 4, ia Z 6 (ni stt)), (qt 5, ia Z 6 (ni gt))] (fun rr ww => ∃ y1 : Nat, ∃ y2 : Nat, ∃ y3 : Nat, ∃ y4 : Nat, ∃ y5 : Nat, ∃ y6 : Nat, ∃ Kx : Nat → Nat, ∃ Px : Nat → Nat, ∃ kx : Nat → Nat, ∃ mx : Nat → Nat, ∃ sx : Nat → Nat, ∃ gx : Nat → Nat, rr = some (.int (zI (z_fast A a b c))) ∧ ww = [xO h u ab be ((if pFast A a b c then Rf else bmp Rf 0) 0) ((if pFast A a b c then Rf else bmp Rf 0) 1) ((if pFast A a b c then Rf else bmp Rf 0) 2), (u 0, .inr (4, [.ref (s 0), .ref (s 1), .ref (s 3), .ref (s 5), .ref (s 7)])), cO (s 0) q (A 21) (A 5) (A 6) (A 7) (A 8) (A 0), (q 0, ia Z 12 (ni K)), (q 1, ia Z 12 (ni P)), (q 2, ia Z 6 (ni kd)), (q 3, ia Z 6 (ni am)), (q 4, ia Z 6 (ni st)), (q 5, ia Z 6 (ni rg)), cO (u 3) qt y1 y2 y3 y4 y5 y6, (qt 0, ia Z 12 (ni Kx)), (qt 1, ia Z 12 (ni Px)), (qt 2, ia Z 6 (ni kx)), (qt 3, ia Z 6 (ni mx)), (qt 4, ia Z 6 (ni sx)), (qt 5, ia Z 6 (ni gx))]) := by
  refine CT.of RX8 false rfl (fun h => by cases h) (by decide +kernel) (Nat.le_of_ble_eq_true rfl) ?_
  intro J hJ hE
  show J 0 [(0, .ref h), (1, .int a), (2, .int b), (3, .int c)] [] [xO h u ab be (Rf 0) (Rf 1) (Rf 2), (u 0, .inr (4, [.ref (s 0), .ref (s 1), .ref (s 3), .ref (s 5), .ref (s 7)])), cO (s 0) q (A 21) (A 5) (A 6) (A 7) (A 8) (A 0), (q 0, ia Z 12 (ni K)), (q 1, ia Z 12 (ni P)), (q 2, ia Z 6 (ni kd)), (q 3, ia Z 6 (ni am)), (q 4, ia Z 6 (ni st)), (q 5, ia Z 6 (ni rg)), cO (u 3) qt t1 t2 t3 t4 t5 t6, (qt 0, ia Z 12 (ni Kt)), (qt 1, ia Z 12 (ni Pt)), (qt 2, ia Z 6 (ni kt)), (qt 3, ia Z 6 (ni mt)), (qt 4, ia Z 6 (ni stt)), (qt 5, ia Z 6 (ni gt))] 0 0
  refine j_aload_n hJ (q := 1) dX8_fast_0 rfl 0 rfl rfl ?_
  refine j_iconst hJ (q := 2) dX8_fast_1 rfl ki_0 ?_
  refine j_iload_n hJ (q := 3) dX8_fast_2 rfl 1 rfl rfl ?_
  refine j_iload_n hJ (q := 4) dX8_fast_3 rfl 2 rfl rfl ?_
  refine j_iload_n hJ (q := 5) dX8_fast_4 rfl 3 rfl rfl ?_
  refine j_vW hJ (q := 8) (rest := []) (As := [.int (nI 0), .int a, .int b, .int c]) (wr := []) jl_X8_182 (c_X8_choose0 Z h u ab be Rf s q A K P kd am st rg qt t1 t2 t3 t4 t5 t6 Kt Pt kt mt stt gt a b c hg hR) 0 rfl rfl dX8_fast_5 rfl (by decide) (Nat.le_of_ble_eq_true rfl) [0, 1, 2, 3, 4, 5, 6, 7, 8, 9, 10, 11, 12, 13, 14, 15] [] rfl rfl rfl rfl (by decide) rfl (fun rv wv hp => ?_)
  obtain ⟨y11, y22, y33, y44, y55, y66, Kx7, Px8, kx9, mx10, sx11, gx12, rfl, rfl⟩ := hp
  show J 8 [(0, .ref h), (1, .int a), (2, .int b), (3, .int c)] [.int (zI (z_fast A a b c))] [xO h u ab be ((if pFast A a b c then Rf else bmp Rf 0) 0) ((if pFast A a b c then Rf else bmp Rf 0) 1) ((if pFast A a b c then Rf else bmp Rf 0) 2), (u 0, .inr (4, [.ref (s 0), .ref (s 1), .ref (s 3), .ref (s 5), .ref (s 7)])), cO (s 0) q (A 21) (A 5) (A 6) (A 7) (A 8) (A 0), (q 0, ia Z 12 (ni K)), (q 1, ia Z 12 (ni P)), (q 2, ia Z 6 (ni kd)), (q 3, ia Z 6 (ni am)), (q 4, ia Z 6 (ni st)), (q 5, ia Z 6 (ni rg)), cO (u 3) qt y11 y22 y33 y44 y55 y66, (qt 0, ia Z 12 (ni Kx7)), (qt 1, ia Z 12 (ni Px8)), (qt 2, ia Z 6 (ni kx9)), (qt 3, ia Z 6 (ni mx10)), (qt 4, ia Z 6 (ni sx11)), (qt 5, ia Z 6 (ni gx12))] 0 0
  exact hE.1 _ _ _ _ _ _ _ rfl rfl dX8_fast_8 (Nat.le_refl _) (Nat.le_refl _) (⟨y11, y22, y33, y44, y55, y66, Kx7, Px8, kx9, mx10, sx11, gx12, congrArg (fun z => some (Value.int (zI z))) (by rfl), rfl⟩)

set_option maxHeartbeats 4000000 in
set_option maxRecDepth 100000 in
theorem c_X8_takenIf1 (Z : jZ) (h : Nat) (u : Nat → Nat) (ab : Int) (be : Int) (Rf : Nat → Nat) (s : Nat → Nat) (q : Nat → Nat) (A : Nat → Nat) (K : Nat → Nat) (P : Nat → Nat) (kd : Nat → Nat) (am : Nat → Nat) (st : Nat → Nat) (rg : Nat → Nat) (qt : Nat → Nat) (t1 : Nat) (t2 : Nat) (t3 : Nat) (t4 : Nat) (t5 : Nat) (t6 : Nat) (Kt : Nat → Nat) (Pt : Nat → Nat) (kt : Nat → Nat) (mt : Nat → Nat) (stt : Nat → Nat) (gt : Nat → Nat) (c : Nat) (i : Nat) (m : Nat) (hg : wg A) (hR : rR A K P kd am st rg) (h1 : i < A 0) (h2 : c < A 21) (h3 : m ≤ 60) : CT Z yX8_takenIf cX8_takenIf 7 ((some FieldType.int)) 6 0 0 [.ref h, .int (nI 1), .int (nI c), .int (nI i), .int (nI m)] [xO h u ab be (Rf 0) (Rf 1) (Rf 2), (u 0, .inr (4, [.ref (s 0), .ref (s 1), .ref (s 3), .ref (s 5), .ref (s 7)])), cO (s 0) q (A 21) (A 5) (A 6) (A 7) (A 8) (A 0), (q 0, ia Z 12 (ni K)), (q 1, ia Z 12 (ni P)), (q 2, ia Z 6 (ni kd)), (q 3, ia Z 6 (ni am)), (q 4, ia Z 6 (ni st)), (q 5, ia Z 6 (ni rg)), cO (u 3) qt t1 t2 t3 t4 t5 t6, (qt 0, ia Z 12 (ni Kt)), (qt 1, ia Z 12 (ni Pt)), (qt 2, ia Z 6 (ni kt)), (qt 3, ia Z 6 (ni mt)), (qt 4, ia Z 6 (ni stt)), (qt 5, ia Z 6 (ni gt))] (fun rr ww => ∃ y1 : Nat, ∃ y2 : Nat, ∃ y3 : Nat, ∃ y4 : Nat, ∃ y5 : Nat, ∃ y6 : Nat, ∃ Kx : Nat → Nat, ∃ Px : Nat → Nat, ∃ kx : Nat → Nat, ∃ mx : Nat → Nat, ∃ sx : Nat → Nat, ∃ gx : Nat → Nat, rr = some (.int (zI (fSeat A i m c))) ∧ ww = [xO h u ab be (Rf 0) (Rf 1) (Rf 2), (u 0, .inr (4, [.ref (s 0), .ref (s 1), .ref (s 3), .ref (s 5), .ref (s 7)])), cO (s 0) q (A 21) (A 5) (A 6) (A 7) (A 8) (A 0), (q 0, ia Z 12 (ni K)), (q 1, ia Z 12 (ni P)), (q 2, ia Z 6 (ni kd)), (q 3, ia Z 6 (ni am)), (q 4, ia Z 6 (ni st)), (q 5, ia Z 6 (ni rg)), cO (u 3) qt y1 y2 y3 y4 y5 y6, (qt 0, ia Z 12 (ni Kx)), (qt 1, ia Z 12 (ni Px)), (qt 2, ia Z 6 (ni kx)), (qt 3, ia Z 6 (ni mx)), (qt 4, ia Z 6 (ni sx)), (qt 5, ia Z 6 (ni gx))]) := by
  refine CT.of RX8 false rfl (fun h => by cases h) (by decide +kernel) (Nat.le_of_ble_eq_true rfl) ?_
  intro J hJ hE
  show J 0 [(0, .ref h), (1, .int (nI 1)), (2, .int (nI c)), (3, .int (nI i)), (4, .int (nI m))] [] [xO h u ab be (Rf 0) (Rf 1) (Rf 2), (u 0, .inr (4, [.ref (s 0), .ref (s 1), .ref (s 3), .ref (s 5), .ref (s 7)])), cO (s 0) q (A 21) (A 5) (A 6) (A 7) (A 8) (A 0), (q 0, ia Z 12 (ni K)), (q 1, ia Z 12 (ni P)), (q 2, ia Z 6 (ni kd)), (q 3, ia Z 6 (ni am)), (q 4, ia Z 6 (ni st)), (q 5, ia Z 6 (ni rg)), cO (u 3) qt t1 t2 t3 t4 t5 t6, (qt 0, ia Z 12 (ni Kt)), (qt 1, ia Z 12 (ni Pt)), (qt 2, ia Z 6 (ni kt)), (qt 3, ia Z 6 (ni mt)), (qt 4, ia Z 6 (ni stt)), (qt 5, ia Z 6 (ni gt))] 0 0
  obtain ⟨hw, ⟨g1, g2, g3, g4, g8⟩, hrs, hrn, hrm, hpst⟩ := id hg
  obtain ⟨⟨w1, w2, w3, w4, w5, w6⟩, hb, wr, wh, wd⟩ := id hw
  refine j_aload_n hJ (q := 1) dX8_takenIf_0 rfl 0 rfl rfl ?_
  refine j_get hJ (q := 4) jf_X8_37 dX8_takenIf_1 0 rfl rfl rfl ?_
  refine j_aload_n hJ (q := 5) dX8_takenIf_4 rfl 0 rfl rfl ?_
  refine j_get hJ (q := 8) jf_X8_10 dX8_takenIf_5 0 rfl rfl rfl ?_
  refine j_get hJ (q := 11) jf_X8_66 dX8_takenIf_8 1 rfl rfl rfl ?_
  refine j_vW hJ (q := 14) (rest := []) (As := [.ref (s 0)]) (wr := [xO h u ab be (Rf 0) (Rf 1) (Rf 2), (u 0, .inr (4, [.ref (s 0), .ref (s 1), .ref (s 3), .ref (s 5), .ref (s 7)]))]) jl_X8_122 (c_X4_copyOf Z (u 3) qt t1 t2 t3 t4 t5 t6 Kt Pt kt mt stt gt (s 0) q A K P kd am st rg ) 9 rfl rfl dX8_takenIf_11 rfl (by decide) (Nat.le_of_ble_eq_true rfl) [9, 10, 11, 12, 13, 14, 15, 2, 3, 4, 5, 6, 7, 8] [0, 1] rfl rfl rfl rfl (by decide) rfl (fun rv wv hp => ?_)
  obtain ⟨rfl, rfl⟩ := hp
  refine j_world hJ (ws' := [xO h u ab be (Rf 0) (Rf 1) (Rf 2), (u 0, .inr (4, [.ref (s 0), .ref (s 1), .ref (s 3), .ref (s 5), .ref (s 7)])), cO (s 0) q (A 21) (A 5) (A 6) (A 7) (A 8) (A 0), (q 0, ia Z 12 (ni K)), (q 1, ia Z 12 (ni P)), (q 2, ia Z 6 (ni kd)), (q 3, ia Z 6 (ni am)), (q 4, ia Z 6 (ni st)), (q 5, ia Z 6 (ni rg)), cO (u 3) qt (A 21) (A 5) (A 6) (A 7) (A 8) (A 0), (qt 0, ia Z 12 (ni K)), (qt 1, ia Z 12 (ni P)), (qt 2, ia Z 6 (ni kd)), (qt 3, ia Z 6 (ni am)), (qt 4, ia Z 6 (ni st)), (qt 5, ia Z 6 (ni rg))]) [0, 1, 9, 10, 11, 12, 13, 14, 15, 2, 3, 4, 5, 6, 7, 8] rfl rfl ?_
  show J 14 [(0, .ref h), (1, .int (nI 1)), (2, .int (nI c)), (3, .int (nI i)), (4, .int (nI m))] [] [xO h u ab be (Rf 0) (Rf 1) (Rf 2), (u 0, .inr (4, [.ref (s 0), .ref (s 1), .ref (s 3), .ref (s 5), .ref (s 7)])), cO (s 0) q (A 21) (A 5) (A 6) (A 7) (A 8) (A 0), (q 0, ia Z 12 (ni K)), (q 1, ia Z 12 (ni P)), (q 2, ia Z 6 (ni kd)), (q 3, ia Z 6 (ni am)), (q 4, ia Z 6 (ni st)), (q 5, ia Z 6 (ni rg)), cO (u 3) qt (A 21) (A 5) (A 6) (A 7) (A 8) (A 0), (qt 0, ia Z 12 (ni K)), (qt 1, ia Z 12 (ni P)), (qt 2, ia Z 6 (ni kd)), (qt 3, ia Z 6 (ni am)), (qt 4, ia Z 6 (ni st)), (qt 5, ia Z 6 (ni rg))] 0 0
  refine j_iload_n hJ (q := 15) dX8_takenIf_14 rfl 1 rfl rfl ?_
  refine jn_if_eq hJ (q := 18) (tgt := 55) dX8_takenIf_15 (by decide) rfl (by omega) (fun c1 => ?_) (fun c1 => ?_)
  · skip
    exfalso; omega
  · skip
    refine j_aload_n hJ (q := 19) dX8_takenIf_18 rfl 0 rfl rfl ?_
    refine j_get hJ (q := 22) jf_X8_37 dX8_takenIf_19 0 rfl rfl rfl ?_
    refine j_iload_n hJ (q := 23) dX8_takenIf_22 rfl 2 rfl rfl ?_
    refine j_vR hJ (q := 26) (rest := []) (As := [.int (nI c)]) jl_X8_100 (c_X4_whoIsOn Z (u 3) qt A K P kd am st rg c hw hR (by omega)) 9 rfl rfl dX8_takenIf_23 rfl (by decide) (Nat.le_of_ble_eq_true rfl) [9, 10, 11, 12, 13, 14, 15] rfl rfl (fun rv hp => ?_)
    obtain rfl := hp
    show J 26 [(0, .ref h), (1, .int (nI 1)), (2, .int (nI c)), (3, .int (nI i)), (4, .int (nI m))] [.int (oI (who A c))] [xO h u ab be (Rf 0) (Rf 1) (Rf 2), (u 0, .inr (4, [.ref (s 0), .ref (s 1), .ref (s 3), .ref (s 5), .ref (s 7)])), cO (s 0) q (A 21) (A 5) (A 6) (A 7) (A 8) (A 0), (q 0, ia Z 12 (ni K)), (q 1, ia Z 12 (ni P)), (q 2, ia Z 6 (ni kd)), (q 3, ia Z 6 (ni am)), (q 4, ia Z 6 (ni st)), (q 5, ia Z 6 (ni rg)), cO (u 3) qt (A 21) (A 5) (A 6) (A 7) (A 8) (A 0), (qt 0, ia Z 12 (ni K)), (qt 1, ia Z 12 (ni P)), (qt 2, ia Z 6 (ni kd)), (qt 3, ia Z 6 (ni am)), (qt 4, ia Z 6 (ni st)), (qt 5, ia Z 6 (ni rg))] 0 0
    refine j_caseo (fun o2 => ?_) (fun i3 o2 => ?_)
    · skip
      refine j_istore hJ (q := 28) (lvs' := [(5, .int (zI (-1))), (0, .ref h), (1, .int (nI 1)), (2, .int (nI c)), (3, .int (nI i)), (4, .int (nI m))]) dX8_takenIf_26 (by decide) rfl rfl ?_
      refine j_iload hJ (q := 30) dX8_takenIf_28 0 rfl rfl ?_
      refine j_iconst hJ (q := 31) dX8_takenIf_30 rfl ki_m1 ?_
      refine jz_icmp_eq hJ (q := 34) (tgt := 42) dX8_takenIf_31 (by decide) rfl rfl rfl (by omega) (by omega) (fun c4 => ?_) (fun c4 => ?_)
      · skip
        refine j_aload_n hJ (q := 43) dX8_takenIf_42 rfl 1 rfl rfl ?_
        refine j_get hJ (q := 46) jf_X8_37 dX8_takenIf_43 0 rfl rfl rfl ?_
        refine j_get hJ (q := 49) jf_X8_144 dX8_takenIf_46 9 rfl rfl rfl ?_
        refine j_iload_n hJ (q := 50) dX8_takenIf_49 rfl 4 rfl rfl ?_
        refine j_iload_n hJ (q := 51) dX8_takenIf_50 rfl 3 rfl rfl ?_
        refine j_iastN hJ (q := 52) (ws' := [xO h u ab be (Rf 0) (Rf 1) (Rf 2), (u 0, .inr (4, [.ref (s 0), .ref (s 1), .ref (s 3), .ref (s 5), .ref (s 7)])), cO (s 0) q (A 21) (A 5) (A 6) (A 7) (A 8) (A 0), (q 0, ia Z 12 (ni K)), (q 1, ia Z 12 (ni P)), (q 2, ia Z 6 (ni kd)), (q 3, ia Z 6 (ni am)), (q 4, ia Z 6 (ni st)), (q 5, ia Z 6 (ni rg)), cO (u 3) qt (A 21) (A 5) (A 6) (A 7) (A 8) (A 0), (qt 0, ia Z 12 (ni K)), (qt 1, ia Z 12 (ni P)), (qt 2, ia Z 6 (ni kd)), (qt 3, ia Z 6 (ni am)), (qt 4, ia Z 6 (ni (va_up st i c))), (qt 5, ia Z 6 (ni rg))]) dX8_takenIf_51 14 rfl (by omega) (by decide) (ni_up _ _ _) rfl rfl ?_
        refine j_goto hJ (q := 63) dX8_takenIf_52 (by decide) ?_
        have es21 : (va_up A (15 + i) c) 21 = A 21 := by simp only [va_up]; rw [if_neg (by omega)]
        have es5 : (va_up A (15 + i) c) 5 = A 5 := by simp only [va_up]; rw [if_neg (by omega)]
        have es6 : (va_up A (15 + i) c) 6 = A 6 := by simp only [va_up]; rw [if_neg (by omega)]
        have es7 : (va_up A (15 + i) c) 7 = A 7 := by simp only [va_up]; rw [if_neg (by omega)]
        have es8 : (va_up A (15 + i) c) 8 = A 8 := by simp only [va_up]; rw [if_neg (by omega)]
        have es0 : (va_up A (15 + i) c) 0 = A 0 := by simp only [va_up]; rw [if_neg (by omega)]
        refine j_eqw (ws' := [xO h u ab be (Rf 0) (Rf 1) (Rf 2), (u 0, .inr (4, [.ref (s 0), .ref (s 1), .ref (s 3), .ref (s 5), .ref (s 7)])), cO (s 0) q (A 21) (A 5) (A 6) (A 7) (A 8) (A 0), (q 0, ia Z 12 (ni K)), (q 1, ia Z 12 (ni P)), (q 2, ia Z 6 (ni kd)), (q 3, ia Z 6 (ni am)), (q 4, ia Z 6 (ni st)), (q 5, ia Z 6 (ni rg)), cO (u 3) qt ((va_up A (15 + i) c) 21) ((va_up A (15 + i) c) 5) ((va_up A (15 + i) c) 6) ((va_up A (15 + i) c) 7) ((va_up A (15 + i) c) 8) ((va_up A (15 + i) c) 0), (qt 0, ia Z 12 (ni K)), (qt 1, ia Z 12 (ni P)), (qt 2, ia Z 6 (ni kd)), (qt 3, ia Z 6 (ni am)), (qt 4, ia Z 6 (ni (va_up st i c))), (qt 5, ia Z 6 (ni rg))]) (by rw [es21, es5, es6, es7, es8, es0]) ?_
        have hwn : who A c = none ∨ who A c = some i := by first | exact Or.inl (by assumption) | exact Or.inr (by simp_all)
        have hw0 : wf (va_up A (15 + i) c) := wf_seat hw h1 h2 hwn
        have hR0 : rR (va_up A (15 + i) c) K P kd am (va_up st i c) rg := rR_seat hR h1 w6 w2
        refine j_iconst hJ (q := 64) dX8_takenIf_63 rfl ki_0 ?_
        refine j_istore hJ (q := 66) (lvs' := [(5, .int (nI 0)), (0, .ref h), (1, .int (nI 1)), (2, .int (nI c)), (3, .int (nI i)), (4, .int (nI m))]) dX8_takenIf_64 (by decide) rfl rfl ?_
        refine j_iconst hJ (q := 67) dX8_takenIf_66 rfl ki_0 ?_
        refine j_istore hJ (q := 69) (lvs' := [(6, .int (nI 0)), (5, .int (nI 0)), (0, .ref h), (1, .int (nI 1)), (2, .int (nI c)), (3, .int (nI i)), (4, .int (nI m))]) dX8_takenIf_67 (by decide) rfl rfl ?_
        have L_69 : ∀ (fu_69 : Nat) (B : Nat → Nat) (rb : Nat → Nat) (tn : Nat) (k : Nat), m - k < fu_69 → (k ≤ m ∧ tn ≤ k) → (wf B) → (rR B K P kd am (va_up st i c) rb) → (tn + tkn i (m - k) B = tkn i m (va_up A (15 + i) c)) → (B 8 + (m - k) < 90000) → J 69 [(0, .ref h), (1, .int (nI 1)), (2, .int (nI c)), (3, .int (nI i)), (4, .int (nI m)), (5, .int (nI tn)), (6, .int (nI k))] [] [xO h u ab be (Rf 0) (Rf 1) (Rf 2), (u 0, .inr (4, [.ref (s 0), .ref (s 1), .ref (s 3), .ref (s 5), .ref (s 7)])), cO (s 0) q (A 21) (A 5) (A 6) (A 7) (A 8) (A 0), (q 0, ia Z 12 (ni K)), (q 1, ia Z 12 (ni P)), (q 2, ia Z 6 (ni kd)), (q 3, ia Z 6 (ni am)), (q 4, ia Z 6 (ni st)), (q 5, ia Z 6 (ni rg)), cO (u 3) qt (B 21) (B 5) (B 6) (B 7) (B 8) (B 0), (qt 0, ia Z 12 (ni K)), (qt 1, ia Z 12 (ni P)), (qt 2, ia Z 6 (ni kd)), (qt 3, ia Z 6 (ni am)), (qt 4, ia Z 6 (ni (va_up st i c))), (qt 5, ia Z 6 (ni rb))] 0 0 := by
          intro fu_69
          induction fu_69 with
          | zero => intro B rb tn k hm; exact absurd hm (Nat.not_lt_zero _)
          | succ fu_69 ih_69 =>
            intro B rb tn k hm_69 hk hwB hRB hS hBt
            refine j_iload hJ (q := 71) dX8_takenIf_69 6 rfl rfl ?_
            refine j_iload hJ (q := 73) dX8_takenIf_71 4 rfl rfl ?_
            refine jn_icmp_ge hJ (q := 76) (tgt := 96) dX8_takenIf_73 (by decide) rfl (by omega) (by omega) (fun c5 => ?_) (fun c5 => ?_)
            · skip
              refine j_iload hJ (q := 98) dX8_takenIf_96 5 rfl rfl ?_
              exact hE.1 _ _ _ _ _ _ _ rfl rfl dX8_takenIf_98 (Nat.le_refl _) (Nat.le_refl _) (⟨(B 21), (B 5), (B 6), (B 7), (B 8), (B 0), K, P, kd, am, (va_up st i c), rb, congrArg (fun z => some (Value.int z)) ((zI_nat _).symm.trans (congrArg zI (by unfold fSeat; rw [if_pos hwn]; rw [← hS, show m - k = 0 by omega]; rfl))), rfl⟩)
            · skip
              refine j_aload_n hJ (q := 77) dX8_takenIf_76 rfl 0 rfl rfl ?_
              refine j_get hJ (q := 80) jf_X8_37 dX8_takenIf_77 0 rfl rfl rfl ?_
              refine j_vW hJ (q := 83) (rest := []) (As := []) (wr := [xO h u ab be (Rf 0) (Rf 1) (Rf 2), (u 0, .inr (4, [.ref (s 0), .ref (s 1), .ref (s 3), .ref (s 5), .ref (s 7)])), cO (s 0) q (A 21) (A 5) (A 6) (A 7) (A 8) (A 0), (q 0, ia Z 12 (ni K)), (q 1, ia Z 12 (ni P)), (q 2, ia Z 6 (ni kd)), (q 3, ia Z 6 (ni am)), (q 4, ia Z 6 (ni st)), (q 5, ia Z 6 (ni rg))]) jl_X8_132 (c_X4_step Z (u 3) qt B K P kd am (va_up st i c) rb hwB hRB (by omega)) 9 rfl rfl dX8_takenIf_80 rfl (by decide) (Nat.le_of_ble_eq_true rfl) [9, 10, 11, 12, 13, 14, 15] [0, 1, 2, 3, 4, 5, 6, 7, 8] rfl rfl rfl rfl (by decide) rfl (fun rv wv hp => ?_)
              obtain ⟨rz6, rfl, rfl, f7⟩ := hp
              show J 83 [(0, .ref h), (1, .int (nI 1)), (2, .int (nI c)), (3, .int (nI i)), (4, .int (nI m)), (5, .int (nI tn)), (6, .int (nI k))] [.int (oI ((goT B false).1))] [xO h u ab be (Rf 0) (Rf 1) (Rf 2), (u 0, .inr (4, [.ref (s 0), .ref (s 1), .ref (s 3), .ref (s 5), .ref (s 7)])), cO (s 0) q (A 21) (A 5) (A 6) (A 7) (A 8) (A 0), (q 0, ia Z 12 (ni K)), (q 1, ia Z 12 (ni P)), (q 2, ia Z 6 (ni kd)), (q 3, ia Z 6 (ni am)), (q 4, ia Z 6 (ni st)), (q 5, ia Z 6 (ni rg)), cO (u 3) qt ((goT B false).2 21) ((goT B false).2 5) ((goT B false).2 6) ((goT B false).2 7) ((goT B false).2 8) ((goT B false).2 0), (qt 0, ia Z 12 (ni K)), (qt 1, ia Z 12 (ni P)), (qt 2, ia Z 6 (ni kd)), (qt 3, ia Z 6 (ni am)), (qt 4, ia Z 6 (ni (va_up st i c))), (qt 5, ia Z 6 (ni rz6))] 0 0
              refine j_caseo (fun o8 => ?_) (fun i9 o8 => ?_)
              · skip
                refine j_iload_n hJ (q := 84) dX8_takenIf_83 rfl 3 rfl rfl ?_
                refine jz_icmp_ne hJ (q := 87) (tgt := 90) dX8_takenIf_84 (by decide) rfl rfl (zI_nat i).symm (by omega) (by omega) (fun c10 => ?_) (fun c10 => ?_)
                · skip
                  refine j_iinc hJ (q := 93) (lvs' := [(6, .int (nI (k + 1))), (0, .ref h), (1, .int (nI 1)), (2, .int (nI c)), (3, .int (nI i)), (4, .int (nI m)), (5, .int (nI tn))]) dX8_takenIf_90 6 rfl (by rw [show Int32.ofInt 1 = nI 1 from by decide +kernel]; exact nI_add _ _) (by decide) rfl rfl ?_
                  refine j_goto hJ (q := 69) dX8_takenIf_93 (by decide) ?_
                  refine j_locals hJ [1, 2, 3, 4, 5, 6, 0] rfl ?_
                  exact ih_69 ((goT B false).2) rz6 tn (k + 1) (by omega) (by omega) (wf_goT false hwB (by omega)) (by assumption) (by rw [← hS, show m - k = (m - (k + 1)) + 1 by omega]; simp only [tkn]; split <;> simp_all <;> omega) (by rw [goT_8]; omega)
                · skip
                  exfalso; omega
              · skip
                have hlt := goT_lt o8
                have hl6 := hwB.1.2.2.2.2.2
                refine j_iload_n hJ (q := 84) dX8_takenIf_83 rfl 3 rfl rfl ?_
                refine jn_icmp_ne hJ (q := 87) (tgt := 90) dX8_takenIf_84 (by decide) rfl (by omega) (by omega) (fun c11 => ?_) (fun c11 => ?_)
                · skip
                  refine j_iinc hJ (q := 93) (lvs' := [(6, .int (nI (k + 1))), (0, .ref h), (1, .int (nI 1)), (2, .int (nI c)), (3, .int (nI i)), (4, .int (nI m)), (5, .int (nI tn))]) dX8_takenIf_90 6 rfl (by rw [show Int32.ofInt 1 = nI 1 from by decide +kernel]; exact nI_add _ _) (by decide) rfl rfl ?_
                  refine j_goto hJ (q := 69) dX8_takenIf_93 (by decide) ?_
                  refine j_locals hJ [1, 2, 3, 4, 5, 6, 0] rfl ?_
                  exact ih_69 ((goT B false).2) rz6 tn (k + 1) (by omega) (by omega) (wf_goT false hwB (by omega)) (by assumption) (by rw [← hS, show m - k = (m - (k + 1)) + 1 by omega]; simp only [tkn]; split <;> simp_all <;> omega) (by rw [goT_8]; omega)
                · skip
                  refine j_iinc hJ (q := 90) (lvs' := [(5, .int (nI (tn + 1))), (0, .ref h), (1, .int (nI 1)), (2, .int (nI c)), (3, .int (nI i)), (4, .int (nI m)), (6, .int (nI k))]) dX8_takenIf_87 5 rfl (by rw [show Int32.ofInt 1 = nI 1 from by decide +kernel]; exact nI_add _ _) (by decide) rfl rfl ?_
                  refine j_iinc hJ (q := 93) (lvs' := [(6, .int (nI (k + 1))), (5, .int (nI (tn + 1))), (0, .ref h), (1, .int (nI 1)), (2, .int (nI c)), (3, .int (nI i)), (4, .int (nI m))]) dX8_takenIf_90 6 rfl (by rw [show Int32.ofInt 1 = nI 1 from by decide +kernel]; exact nI_add _ _) (by decide) rfl rfl ?_
                  refine j_goto hJ (q := 69) dX8_takenIf_93 (by decide) ?_
                  refine j_locals hJ [2, 3, 4, 5, 6, 1, 0] rfl ?_
                  exact ih_69 ((goT B false).2) rz6 (tn + 1) (k + 1) (by omega) (by omega) (wf_goT false hwB (by omega)) (by assumption) (by rw [← hS, show m - k = (m - (k + 1)) + 1 by omega]; simp only [tkn]; split <;> simp_all <;> omega) (by rw [goT_8]; omega)
        refine j_locals hJ [2, 3, 4, 5, 6, 1, 0] rfl ?_
        exact L_69 ((m - 0) + 1) (va_up A (15 + i) c) rg 0 0 (Nat.lt_succ_self _) (by omega) hw0 hR0 (by rw [Nat.zero_add]; rfl) (by rw [es8]; omega)
      · skip
        exfalso; omega
    · skip
      have hwi := who_some o2
      refine j_istore hJ (q := 28) (lvs' := [(5, .int (nI i3)), (0, .ref h), (1, .int (nI 1)), (2, .int (nI c)), (3, .int (nI i)), (4, .int (nI m))]) dX8_takenIf_26 (by decide) rfl rfl ?_
      refine j_iload hJ (q := 30) dX8_takenIf_28 0 rfl rfl ?_
      refine j_iconst hJ (q := 31) dX8_takenIf_30 rfl ki_m1 ?_
      refine jz_icmp_eq hJ (q := 34) (tgt := 42) dX8_takenIf_31 (by decide) rfl (zI_nat i3).symm rfl (by omega) (by omega) (fun c12 => ?_) (fun c12 => ?_)
      · skip
        exfalso; omega
      · skip
        refine j_iload hJ (q := 36) dX8_takenIf_34 0 rfl rfl ?_
        refine j_iload_n hJ (q := 37) dX8_takenIf_36 rfl 4 rfl rfl ?_
        refine jn_icmp_eq hJ (q := 40) (tgt := 42) dX8_takenIf_37 (by decide) rfl (by omega) (by omega) (fun c13 => ?_) (fun c13 => ?_)
        · skip
          refine j_aload_n hJ (q := 43) dX8_takenIf_42 rfl 1 rfl rfl ?_
          refine j_get hJ (q := 46) jf_X8_37 dX8_takenIf_43 0 rfl rfl rfl ?_
          refine j_get hJ (q := 49) jf_X8_144 dX8_takenIf_46 9 rfl rfl rfl ?_
          refine j_iload_n hJ (q := 50) dX8_takenIf_49 rfl 4 rfl rfl ?_
          refine j_iload_n hJ (q := 51) dX8_takenIf_50 rfl 3 rfl rfl ?_
          refine j_iastN hJ (q := 52) (ws' := [xO h u ab be (Rf 0) (Rf 1) (Rf 2), (u 0, .inr (4, [.ref (s 0), .ref (s 1), .ref (s 3), .ref (s 5), .ref (s 7)])), cO (s 0) q (A 21) (A 5) (A 6) (A 7) (A 8) (A 0), (q 0, ia Z 12 (ni K)), (q 1, ia Z 12 (ni P)), (q 2, ia Z 6 (ni kd)), (q 3, ia Z 6 (ni am)), (q 4, ia Z 6 (ni st)), (q 5, ia Z 6 (ni rg)), cO (u 3) qt (A 21) (A 5) (A 6) (A 7) (A 8) (A 0), (qt 0, ia Z 12 (ni K)), (qt 1, ia Z 12 (ni P)), (qt 2, ia Z 6 (ni kd)), (qt 3, ia Z 6 (ni am)), (qt 4, ia Z 6 (ni (va_up st i c))), (qt 5, ia Z 6 (ni rg))]) dX8_takenIf_51 14 rfl (by omega) (by decide) (ni_up _ _ _) rfl rfl ?_
          refine j_goto hJ (q := 63) dX8_takenIf_52 (by decide) ?_
          have es21 : (va_up A (15 + i) c) 21 = A 21 := by simp only [va_up]; rw [if_neg (by omega)]
          have es5 : (va_up A (15 + i) c) 5 = A 5 := by simp only [va_up]; rw [if_neg (by omega)]
          have es6 : (va_up A (15 + i) c) 6 = A 6 := by simp only [va_up]; rw [if_neg (by omega)]
          have es7 : (va_up A (15 + i) c) 7 = A 7 := by simp only [va_up]; rw [if_neg (by omega)]
          have es8 : (va_up A (15 + i) c) 8 = A 8 := by simp only [va_up]; rw [if_neg (by omega)]
          have es0 : (va_up A (15 + i) c) 0 = A 0 := by simp only [va_up]; rw [if_neg (by omega)]
          refine j_eqw (ws' := [xO h u ab be (Rf 0) (Rf 1) (Rf 2), (u 0, .inr (4, [.ref (s 0), .ref (s 1), .ref (s 3), .ref (s 5), .ref (s 7)])), cO (s 0) q (A 21) (A 5) (A 6) (A 7) (A 8) (A 0), (q 0, ia Z 12 (ni K)), (q 1, ia Z 12 (ni P)), (q 2, ia Z 6 (ni kd)), (q 3, ia Z 6 (ni am)), (q 4, ia Z 6 (ni st)), (q 5, ia Z 6 (ni rg)), cO (u 3) qt ((va_up A (15 + i) c) 21) ((va_up A (15 + i) c) 5) ((va_up A (15 + i) c) 6) ((va_up A (15 + i) c) 7) ((va_up A (15 + i) c) 8) ((va_up A (15 + i) c) 0), (qt 0, ia Z 12 (ni K)), (qt 1, ia Z 12 (ni P)), (qt 2, ia Z 6 (ni kd)), (qt 3, ia Z 6 (ni am)), (qt 4, ia Z 6 (ni (va_up st i c))), (qt 5, ia Z 6 (ni rg))]) (by rw [es21, es5, es6, es7, es8, es0]) ?_
          have hwn : who A c = none ∨ who A c = some i := by first | exact Or.inl (by assumption) | exact Or.inr (by simp_all)
          have hw0 : wf (va_up A (15 + i) c) := wf_seat hw h1 h2 hwn
          have hR0 : rR (va_up A (15 + i) c) K P kd am (va_up st i c) rg := rR_seat hR h1 w6 w2
          refine j_iconst hJ (q := 64) dX8_takenIf_63 rfl ki_0 ?_
          refine j_istore hJ (q := 66) (lvs' := [(5, .int (nI 0)), (0, .ref h), (1, .int (nI 1)), (2, .int (nI c)), (3, .int (nI i)), (4, .int (nI m))]) dX8_takenIf_64 (by decide) rfl rfl ?_
          refine j_iconst hJ (q := 67) dX8_takenIf_66 rfl ki_0 ?_
          refine j_istore hJ (q := 69) (lvs' := [(6, .int (nI 0)), (5, .int (nI 0)), (0, .ref h), (1, .int (nI 1)), (2, .int (nI c)), (3, .int (nI i)), (4, .int (nI m))]) dX8_takenIf_67 (by decide) rfl rfl ?_
          have L_69 : ∀ (fu_69 : Nat) (B : Nat → Nat) (rb : Nat → Nat) (tn : Nat) (k : Nat), m - k < fu_69 → (k ≤ m ∧ tn ≤ k) → (wf B) → (rR B K P kd am (va_up st i c) rb) → (tn + tkn i (m - k) B = tkn i m (va_up A (15 + i) c)) → (B 8 + (m - k) < 90000) → J 69 [(0, .ref h), (1, .int (nI 1)), (2, .int (nI c)), (3, .int (nI i)), (4, .int (nI m)), (5, .int (nI tn)), (6, .int (nI k))] [] [xO h u ab be (Rf 0) (Rf 1) (Rf 2), (u 0, .inr (4, [.ref (s 0), .ref (s 1), .ref (s 3), .ref (s 5), .ref (s 7)])), cO (s 0) q (A 21) (A 5) (A 6) (A 7) (A 8) (A 0), (q 0, ia Z 12 (ni K)), (q 1, ia Z 12 (ni P)), (q 2, ia Z 6 (ni kd)), (q 3, ia Z 6 (ni am)), (q 4, ia Z 6 (ni st)), (q 5, ia Z 6 (ni rg)), cO (u 3) qt (B 21) (B 5) (B 6) (B 7) (B 8) (B 0), (qt 0, ia Z 12 (ni K)), (qt 1, ia Z 12 (ni P)), (qt 2, ia Z 6 (ni kd)), (qt 3, ia Z 6 (ni am)), (qt 4, ia Z 6 (ni (va_up st i c))), (qt 5, ia Z 6 (ni rb))] 0 0 := by
            intro fu_69
            induction fu_69 with
            | zero => intro B rb tn k hm; exact absurd hm (Nat.not_lt_zero _)
            | succ fu_69 ih_69 =>
              intro B rb tn k hm_69 hk hwB hRB hS hBt
              refine j_iload hJ (q := 71) dX8_takenIf_69 6 rfl rfl ?_
              refine j_iload hJ (q := 73) dX8_takenIf_71 4 rfl rfl ?_
              refine jn_icmp_ge hJ (q := 76) (tgt := 96) dX8_takenIf_73 (by decide) rfl (by omega) (by omega) (fun c14 => ?_) (fun c14 => ?_)
              · skip
                refine j_iload hJ (q := 98) dX8_takenIf_96 5 rfl rfl ?_
                exact hE.1 _ _ _ _ _ _ _ rfl rfl dX8_takenIf_98 (Nat.le_refl _) (Nat.le_refl _) (⟨(B 21), (B 5), (B 6), (B 7), (B 8), (B 0), K, P, kd, am, (va_up st i c), rb, congrArg (fun z => some (Value.int z)) ((zI_nat _).symm.trans (congrArg zI (by unfold fSeat; rw [if_pos hwn]; rw [← hS, show m - k = 0 by omega]; rfl))), rfl⟩)
              · skip
                refine j_aload_n hJ (q := 77) dX8_takenIf_76 rfl 0 rfl rfl ?_
                refine j_get hJ (q := 80) jf_X8_37 dX8_takenIf_77 0 rfl rfl rfl ?_
                refine j_vW hJ (q := 83) (rest := []) (As := []) (wr := [xO h u ab be (Rf 0) (Rf 1) (Rf 2), (u 0, .inr (4, [.ref (s 0), .ref (s 1), .ref (s 3), .ref (s 5), .ref (s 7)])), cO (s 0) q (A 21) (A 5) (A 6) (A 7) (A 8) (A 0), (q 0, ia Z 12 (ni K)), (q 1, ia Z 12 (ni P)), (q 2, ia Z 6 (ni kd)), (q 3, ia Z 6 (ni am)), (q 4, ia Z 6 (ni st)), (q 5, ia Z 6 (ni rg))]) jl_X8_132 (c_X4_step Z (u 3) qt B K P kd am (va_up st i c) rb hwB hRB (by omega)) 9 rfl rfl dX8_takenIf_80 rfl (by decide) (Nat.le_of_ble_eq_true rfl) [9, 10, 11, 12, 13, 14, 15] [0, 1, 2, 3, 4, 5, 6, 7, 8] rfl rfl rfl rfl (by decide) rfl (fun rv wv hp => ?_)
                obtain ⟨rz15, rfl, rfl, f16⟩ := hp
                show J 83 [(0, .ref h), (1, .int (nI 1)), (2, .int (nI c)), (3, .int (nI i)), (4, .int (nI m)), (5, .int (nI tn)), (6, .int (nI k))] [.int (oI ((goT B false).1))] [xO h u ab be (Rf 0) (Rf 1) (Rf 2), (u 0, .inr (4, [.ref (s 0), .ref (s 1), .ref (s 3), .ref (s 5), .ref (s 7)])), cO (s 0) q (A 21) (A 5) (A 6) (A 7) (A 8) (A 0), (q 0, ia Z 12 (ni K)), (q 1, ia Z 12 (ni P)), (q 2, ia Z 6 (ni kd)), (q 3, ia Z 6 (ni am)), (q 4, ia Z 6 (ni st)), (q 5, ia Z 6 (ni rg)), cO (u 3) qt ((goT B false).2 21) ((goT B false).2 5) ((goT B false).2 6) ((goT B false).2 7) ((goT B false).2 8) ((goT B false).2 0), (qt 0, ia Z 12 (ni K)), (qt 1, ia Z 12 (ni P)), (qt 2, ia Z 6 (ni kd)), (qt 3, ia Z 6 (ni am)), (qt 4, ia Z 6 (ni (va_up st i c))), (qt 5, ia Z 6 (ni rz15))] 0 0
                refine j_caseo (fun o17 => ?_) (fun i18 o17 => ?_)
                · skip
                  refine j_iload_n hJ (q := 84) dX8_takenIf_83 rfl 3 rfl rfl ?_
                  refine jz_icmp_ne hJ (q := 87) (tgt := 90) dX8_takenIf_84 (by decide) rfl rfl (zI_nat i).symm (by omega) (by omega) (fun c19 => ?_) (fun c19 => ?_)
                  · skip
                    refine j_iinc hJ (q := 93) (lvs' := [(6, .int (nI (k + 1))), (0, .ref h), (1, .int (nI 1)), (2, .int (nI c)), (3, .int (nI i)), (4, .int (nI m)), (5, .int (nI tn))]) dX8_takenIf_90 6 rfl (by rw [show Int32.ofInt 1 = nI 1 from by decide +kernel]; exact nI_add _ _) (by decide) rfl rfl ?_
                    refine j_goto hJ (q := 69) dX8_takenIf_93 (by decide) ?_
                    refine j_locals hJ [1, 2, 3, 4, 5, 6, 0] rfl ?_
                    exact ih_69 ((goT B false).2) rz15 tn (k + 1) (by omega) (by omega) (wf_goT false hwB (by omega)) (by assumption) (by rw [← hS, show m - k = (m - (k + 1)) + 1 by omega]; simp only [tkn]; split <;> simp_all <;> omega) (by rw [goT_8]; omega)
                  · skip
                    exfalso; omega
                · skip
                  have hlt := goT_lt o17
                  have hl6 := hwB.1.2.2.2.2.2
                  refine j_iload_n hJ (q := 84) dX8_takenIf_83 rfl 3 rfl rfl ?_
                  refine jn_icmp_ne hJ (q := 87) (tgt := 90) dX8_takenIf_84 (by decide) rfl (by omega) (by omega) (fun c20 => ?_) (fun c20 => ?_)
                  · skip
                    refine j_iinc hJ (q := 93) (lvs' := [(6, .int (nI (k + 1))), (0, .ref h), (1, .int (nI 1)), (2, .int (nI c)), (3, .int (nI i)), (4, .int (nI m)), (5, .int (nI tn))]) dX8_takenIf_90 6 rfl (by rw [show Int32.ofInt 1 = nI 1 from by decide +kernel]; exact nI_add _ _) (by decide) rfl rfl ?_
                    refine j_goto hJ (q := 69) dX8_takenIf_93 (by decide) ?_
                    refine j_locals hJ [1, 2, 3, 4, 5, 6, 0] rfl ?_
                    exact ih_69 ((goT B false).2) rz15 tn (k + 1) (by omega) (by omega) (wf_goT false hwB (by omega)) (by assumption) (by rw [← hS, show m - k = (m - (k + 1)) + 1 by omega]; simp only [tkn]; split <;> simp_all <;> omega) (by rw [goT_8]; omega)
                  · skip
                    refine j_iinc hJ (q := 90) (lvs' := [(5, .int (nI (tn + 1))), (0, .ref h), (1, .int (nI 1)), (2, .int (nI c)), (3, .int (nI i)), (4, .int (nI m)), (6, .int (nI k))]) dX8_takenIf_87 5 rfl (by rw [show Int32.ofInt 1 = nI 1 from by decide +kernel]; exact nI_add _ _) (by decide) rfl rfl ?_
                    refine j_iinc hJ (q := 93) (lvs' := [(6, .int (nI (k + 1))), (5, .int (nI (tn + 1))), (0, .ref h), (1, .int (nI 1)), (2, .int (nI c)), (3, .int (nI i)), (4, .int (nI m))]) dX8_takenIf_90 6 rfl (by rw [show Int32.ofInt 1 = nI 1 from by decide +kernel]; exact nI_add _ _) (by decide) rfl rfl ?_
                    refine j_goto hJ (q := 69) dX8_takenIf_93 (by decide) ?_
                    refine j_locals hJ [2, 3, 4, 5, 6, 1, 0] rfl ?_
                    exact ih_69 ((goT B false).2) rz15 (tn + 1) (k + 1) (by omega) (by omega) (wf_goT false hwB (by omega)) (by assumption) (by rw [← hS, show m - k = (m - (k + 1)) + 1 by omega]; simp only [tkn]; split <;> simp_all <;> omega) (by rw [goT_8]; omega)
          refine j_locals hJ [2, 3, 4, 5, 6, 1, 0] rfl ?_
          exact L_69 ((m - 0) + 1) (va_up A (15 + i) c) rg 0 0 (Nat.lt_succ_self _) (by omega) hw0 hR0 (by rw [Nat.zero_add]; rfl) (by rw [es8]; omega)
        · skip
          refine j_iconst hJ (q := 41) dX8_takenIf_40 rfl ki_m1 ?_
          exact hE.1 _ _ _ _ _ _ _ rfl rfl dX8_takenIf_41 (Nat.le_refl _) (Nat.le_refl _) (⟨(A 21), (A 5), (A 6), (A 7), (A 8), (A 0), K, P, kd, am, st, rg, congrArg (fun z => some (Value.int (zI z))) (by unfold fSeat; rw [if_neg (by simp_all)]), rfl⟩)

set_option maxHeartbeats 4000000 in
set_option maxRecDepth 100000 in
theorem c_X8_choose1 (Z : jZ) (h : Nat) (u : Nat → Nat) (ab : Int) (be : Int) (Rf : Nat → Nat) (s : Nat → Nat) (q : Nat → Nat) (A : Nat → Nat) (K : Nat → Nat) (P : Nat → Nat) (kd : Nat → Nat) (am : Nat → Nat) (st : Nat → Nat) (rg : Nat → Nat) (qt : Nat → Nat) (t1 : Nat) (t2 : Nat) (t3 : Nat) (t4 : Nat) (t5 : Nat) (t6 : Nat) (Kt : Nat → Nat) (Pt : Nat → Nat) (kt : Nat → Nat) (mt : Nat → Nat) (stt : Nat → Nat) (gt : Nat → Nat) (a : Int32) (b : Int32) (c : Int32) (hg : wg A) (hR : rR A K P kd am st rg) : CT Z yX8_choose cX8_choose 10 ((some FieldType.int)) 7 0 0 [.ref h, .int (nI 1), .int a, .int b, .int c] [xO h u ab be (Rf 0) (Rf 1) (Rf 2), (u 0, .inr (4, [.ref (s 0), .ref (s 1), .ref (s 3), .ref (s 5), .ref (s 7)])), cO (s 0) q (A 21) (A 5) (A 6) (A 7) (A 8) (A 0), (q 0, ia Z 12 (ni K)), (q 1, ia Z 12 (ni P)), (q 2, ia Z 6 (ni kd)), (q 3, ia Z 6 (ni am)), (q 4, ia Z 6 (ni st)), (q 5, ia Z 6 (ni rg)), cO (u 3) qt t1 t2 t3 t4 t5 t6, (qt 0, ia Z 12 (ni Kt)), (qt 1, ia Z 12 (ni Pt)), (qt 2, ia Z 6 (ni kt)), (qt 3, ia Z 6 (ni mt)), (qt 4, ia Z 6 (ni stt)), (qt 5, ia Z 6 (ni gt))] (fun rr ww => ∃ y1 : Nat, ∃ y2 : Nat, ∃ y3 : Nat, ∃ y4 : Nat, ∃ y5 : Nat, ∃ y6 : Nat, ∃ Kx : Nat → Nat, ∃ Px : Nat → Nat, ∃ kx : Nat → Nat, ∃ mx : Nat → Nat, ∃ sx : Nat → Nat, ∃ gx : Nat → Nat, rr = some (.int (zI (z_seat A a b c))) ∧ ww = [xO h u ab be ((if pFast A a b c then Rf else bmp Rf 0) 0) ((if pFast A a b c then Rf else bmp Rf 0) 1) ((if pFast A a b c then Rf else bmp Rf 0) 2), (u 0, .inr (4, [.ref (s 0), .ref (s 1), .ref (s 3), .ref (s 5), .ref (s 7)])), cO (s 0) q (A 21) (A 5) (A 6) (A 7) (A 8) (A 0), (q 0, ia Z 12 (ni K)), (q 1, ia Z 12 (ni P)), (q 2, ia Z 6 (ni kd)), (q 3, ia Z 6 (ni am)), (q 4, ia Z 6 (ni st)), (q 5, ia Z 6 (ni rg)), cO (u 3) qt y1 y2 y3 y4 y5 y6, (qt 0, ia Z 12 (ni Kx)), (qt 1, ia Z 12 (ni Px)), (qt 2, ia Z 6 (ni kx)), (qt 3, ia Z 6 (ni mx)), (qt 4, ia Z 6 (ni sx)), (qt 5, ia Z 6 (ni gx))]) := by
  refine CT.of RX8 false rfl (fun h => by cases h) (by decide +kernel) (Nat.le_of_ble_eq_true rfl) ?_
  intro J hJ hE
  show J 0 [(0, .ref h), (1, .int (nI 1)), (2, .int a), (3, .int b), (4, .int c)] [] [xO h u ab be (Rf 0) (Rf 1) (Rf 2), (u 0, .inr (4, [.ref (s 0), .ref (s 1), .ref (s 3), .ref (s 5), .ref (s 7)])), cO (s 0) q (A 21) (A 5) (A 6) (A 7) (A 8) (A 0), (q 0, ia Z 12 (ni K)), (q 1, ia Z 12 (ni P)), (q 2, ia Z 6 (ni kd)), (q 3, ia Z 6 (ni am)), (q 4, ia Z 6 (ni st)), (q 5, ia Z 6 (ni rg)), cO (u 3) qt t1 t2 t3 t4 t5 t6, (qt 0, ia Z 12 (ni Kt)), (qt 1, ia Z 12 (ni Pt)), (qt 2, ia Z 6 (ni kt)), (qt 3, ia Z 6 (ni mt)), (qt 4, ia Z 6 (ni stt)), (qt 5, ia Z 6 (ni gt))] 0 0
  obtain ⟨hw, ⟨g1, g2, g3, g4, g8⟩, hrs, hrn, hrm, hpst⟩ := id hg
  obtain ⟨⟨w1, w2, w3, w4, w5, w6⟩, hb, wr, wh, wd⟩ := id hw
  have hr_a := zI_rng a
  have hr_b := zI_rng b
  have hr_c := zI_rng c
  refine j_aload_n hJ (q := 1) dX8_choose_0 rfl 0 rfl rfl ?_
  refine j_iload_n hJ (q := 2) dX8_choose_1 rfl 2 rfl rfl ?_
  refine j_vR hJ (q := 5) (rest := []) (As := [.int a]) jl_X8_141 (c_X8_isRider Z h u ab be Rf s q A K P kd am st rg a (by omega)) 0 rfl rfl dX8_choose_2 rfl (by decide) (Nat.le_of_ble_eq_true rfl) [0, 1, 2, 3, 4, 5, 6, 7, 8] rfl rfl (fun rv hp => ?_)
  obtain rfl := hp
  show J 5 [(0, .ref h), (1, .int (nI 1)), (2, .int a), (3, .int b), (4, .int c)] [.int (bI (decide (0 ≤ a.toInt ∧ a.toInt ≤ (A 0 : Int) - 1)))] [xO h u ab be (Rf 0) (Rf 1) (Rf 2), (u 0, .inr (4, [.ref (s 0), .ref (s 1), .ref (s 3), .ref (s 5), .ref (s 7)])), cO (s 0) q (A 21) (A 5) (A 6) (A 7) (A 8) (A 0), (q 0, ia Z 12 (ni K)), (q 1, ia Z 12 (ni P)), (q 2, ia Z 6 (ni kd)), (q 3, ia Z 6 (ni am)), (q 4, ia Z 6 (ni st)), (q 5, ia Z 6 (ni rg)), cO (u 3) qt t1 t2 t3 t4 t5 t6, (qt 0, ia Z 12 (ni Kt)), (qt 1, ia Z 12 (ni Pt)), (qt 2, ia Z 6 (ni kt)), (qt 3, ia Z 6 (ni mt)), (qt 4, ia Z 6 (ni stt)), (qt 5, ia Z 6 (ni gt))] 0 0
  refine jp_if_eq hJ (q := 8) (tgt := 28) dX8_choose_5 (by decide) rfl (fun c1 => ?_) (fun c1 => ?_)
  · skip
    refine j_aload_n hJ (q := 29) dX8_choose_28 rfl 0 rfl rfl ?_
    refine j_vW hJ (q := 32) (rest := []) (As := []) (wr := [(u 0, .inr (4, [.ref (s 0), .ref (s 1), .ref (s 3), .ref (s 5), .ref (s 7)])), cO (s 0) q (A 21) (A 5) (A 6) (A 7) (A 8) (A 0), (q 0, ia Z 12 (ni K)), (q 1, ia Z 12 (ni P)), (q 2, ia Z 6 (ni kd)), (q 3, ia Z 6 (ni am)), (q 4, ia Z 6 (ni st)), (q 5, ia Z 6 (ni rg)), cO (u 3) qt t1 t2 t3 t4 t5 t6, (qt 0, ia Z 12 (ni Kt)), (qt 1, ia Z 12 (ni Pt)), (qt 2, ia Z 6 (ni kt)), (qt 3, ia Z 6 (ni mt)), (qt 4, ia Z 6 (ni stt)), (qt 5, ia Z 6 (ni gt))]) jl_X8_62 (c_X8_bad Z h u ab be Rf ) 0 rfl rfl dX8_choose_29 rfl (by decide) (Nat.le_of_ble_eq_true rfl) [0] [1, 2, 3, 4, 5, 6, 7, 8, 9, 10, 11, 12, 13, 14, 15] rfl rfl rfl rfl (by decide) rfl (fun rv wv hp => ?_)
    obtain ⟨rfl, rfl⟩ := hp
    refine j_world hJ (ws' := [xO h u ab be ((bmp Rf 0) 0) ((bmp Rf 0) 1) ((bmp Rf 0) 2), (u 0, .inr (4, [.ref (s 0), .ref (s 1), .ref (s 3), .ref (s 5), .ref (s 7)])), cO (s 0) q (A 21) (A 5) (A 6) (A 7) (A 8) (A 0), (q 0, ia Z 12 (ni K)), (q 1, ia Z 12 (ni P)), (q 2, ia Z 6 (ni kd)), (q 3, ia Z 6 (ni am)), (q 4, ia Z 6 (ni st)), (q 5, ia Z 6 (ni rg)), cO (u 3) qt t1 t2 t3 t4 t5 t6, (qt 0, ia Z 12 (ni Kt)), (qt 1, ia Z 12 (ni Pt)), (qt 2, ia Z 6 (ni kt)), (qt 3, ia Z 6 (ni mt)), (qt 4, ia Z 6 (ni stt)), (qt 5, ia Z 6 (ni gt))]) [15, 0, 1, 2, 3, 4, 5, 6, 7, 8, 9, 10, 11, 12, 13, 14] rfl rfl ?_
    show J 32 [(0, .ref h), (1, .int (nI 1)), (2, .int a), (3, .int b), (4, .int c)] [.int (zI (-2))] [xO h u ab be ((bmp Rf 0) 0) ((bmp Rf 0) 1) ((bmp Rf 0) 2), (u 0, .inr (4, [.ref (s 0), .ref (s 1), .ref (s 3), .ref (s 5), .ref (s 7)])), cO (s 0) q (A 21) (A 5) (A 6) (A 7) (A 8) (A 0), (q 0, ia Z 12 (ni K)), (q 1, ia Z 12 (ni P)), (q 2, ia Z 6 (ni kd)), (q 3, ia Z 6 (ni am)), (q 4, ia Z 6 (ni st)), (q 5, ia Z 6 (ni rg)), cO (u 3) qt t1 t2 t3 t4 t5 t6, (qt 0, ia Z 12 (ni Kt)), (qt 1, ia Z 12 (ni Pt)), (qt 2, ia Z 6 (ni kt)), (qt 3, ia Z 6 (ni mt)), (qt 4, ia Z 6 (ni stt)), (qt 5, ia Z 6 (ni gt))] 0 0
    have hP0 : ¬ pFast A a b c := by simp only [rgI, isS, isR, pNote, pMark, pFast, pLever, pHands, pSlip, pEven]; omega
    exact hE.1 _ _ _ _ _ _ _ rfl rfl dX8_choose_32 (Nat.le_refl _) (Nat.le_refl _) (⟨t1, t2, t3, t4, t5, t6, Kt, Pt, kt, mt, stt, gt, congrArg (fun z => some (Value.int (zI z))) (by simp only [z_seat, if_neg hP0]), by rw [if_neg hP0] <;> rfl⟩)
  · skip
    refine j_iload_n hJ (q := 9) dX8_choose_8 rfl 3 rfl rfl ?_
    refine j_iconst hJ (q := 10) dX8_choose_9 rfl ki_1 ?_
    refine j_bipush hJ (q := 12) dX8_choose_10 rfl kb_60 ?_
    refine j_sR hJ (q := 15) (rest := []) (As := [.int b, .int (zI 1), .int (zI 60)]) jl_X8_58 (c_X8_within Z b 1 60 (by omega) (by omega)) dX8_choose_12 rfl (by decide) (Nat.le_of_ble_eq_true rfl) [] rfl rfl (fun rv hp => ?_)
    obtain rfl := hp
    show J 15 [(0, .ref h), (1, .int (nI 1)), (2, .int a), (3, .int b), (4, .int c)] [.int (bI (decide (1 ≤ b.toInt ∧ b.toInt ≤ 60)))] [xO h u ab be (Rf 0) (Rf 1) (Rf 2), (u 0, .inr (4, [.ref (s 0), .ref (s 1), .ref (s 3), .ref (s 5), .ref (s 7)])), cO (s 0) q (A 21) (A 5) (A 6) (A 7) (A 8) (A 0), (q 0, ia Z 12 (ni K)), (q 1, ia Z 12 (ni P)), (q 2, ia Z 6 (ni kd)), (q 3, ia Z 6 (ni am)), (q 4, ia Z 6 (ni st)), (q 5, ia Z 6 (ni rg)), cO (u 3) qt t1 t2 t3 t4 t5 t6, (qt 0, ia Z 12 (ni Kt)), (qt 1, ia Z 12 (ni Pt)), (qt 2, ia Z 6 (ni kt)), (qt 3, ia Z 6 (ni mt)), (qt 4, ia Z 6 (ni stt)), (qt 5, ia Z 6 (ni gt))] 0 0
    refine jp_if_eq hJ (q := 18) (tgt := 28) dX8_choose_15 (by decide) rfl (fun c2 => ?_) (fun c2 => ?_)
    · skip
      refine j_aload_n hJ (q := 29) dX8_choose_28 rfl 0 rfl rfl ?_
      refine j_vW hJ (q := 32) (rest := []) (As := []) (wr := [(u 0, .inr (4, [.ref (s 0), .ref (s 1), .ref (s 3), .ref (s 5), .ref (s 7)])), cO (s 0) q (A 21) (A 5) (A 6) (A 7) (A 8) (A 0), (q 0, ia Z 12 (ni K)), (q 1, ia Z 12 (ni P)), (q 2, ia Z 6 (ni kd)), (q 3, ia Z 6 (ni am)), (q 4, ia Z 6 (ni st)), (q 5, ia Z 6 (ni rg)), cO (u 3) qt t1 t2 t3 t4 t5 t6, (qt 0, ia Z 12 (ni Kt)), (qt 1, ia Z 12 (ni Pt)), (qt 2, ia Z 6 (ni kt)), (qt 3, ia Z 6 (ni mt)), (qt 4, ia Z 6 (ni stt)), (qt 5, ia Z 6 (ni gt))]) jl_X8_62 (c_X8_bad Z h u ab be Rf ) 0 rfl rfl dX8_choose_29 rfl (by decide) (Nat.le_of_ble_eq_true rfl) [0] [1, 2, 3, 4, 5, 6, 7, 8, 9, 10, 11, 12, 13, 14, 15] rfl rfl rfl rfl (by decide) rfl (fun rv wv hp => ?_)
      obtain ⟨rfl, rfl⟩ := hp
      refine j_world hJ (ws' := [xO h u ab be ((bmp Rf 0) 0) ((bmp Rf 0) 1) ((bmp Rf 0) 2), (u 0, .inr (4, [.ref (s 0), .ref (s 1), .ref (s 3), .ref (s 5), .ref (s 7)])), cO (s 0) q (A 21) (A 5) (A 6) (A 7) (A 8) (A 0), (q 0, ia Z 12 (ni K)), (q 1, ia Z 12 (ni P)), (q 2, ia Z 6 (ni kd)), (q 3, ia Z 6 (ni am)), (q 4, ia Z 6 (ni st)), (q 5, ia Z 6 (ni rg)), cO (u 3) qt t1 t2 t3 t4 t5 t6, (qt 0, ia Z 12 (ni Kt)), (qt 1, ia Z 12 (ni Pt)), (qt 2, ia Z 6 (ni kt)), (qt 3, ia Z 6 (ni mt)), (qt 4, ia Z 6 (ni stt)), (qt 5, ia Z 6 (ni gt))]) [15, 0, 1, 2, 3, 4, 5, 6, 7, 8, 9, 10, 11, 12, 13, 14] rfl rfl ?_
      show J 32 [(0, .ref h), (1, .int (nI 1)), (2, .int a), (3, .int b), (4, .int c)] [.int (zI (-2))] [xO h u ab be ((bmp Rf 0) 0) ((bmp Rf 0) 1) ((bmp Rf 0) 2), (u 0, .inr (4, [.ref (s 0), .ref (s 1), .ref (s 3), .ref (s 5), .ref (s 7)])), cO (s 0) q (A 21) (A 5) (A 6) (A 7) (A 8) (A 0), (q 0, ia Z 12 (ni K)), (q 1, ia Z 12 (ni P)), (q 2, ia Z 6 (ni kd)), (q 3, ia Z 6 (ni am)), (q 4, ia Z 6 (ni st)), (q 5, ia Z 6 (ni rg)), cO (u 3) qt t1 t2 t3 t4 t5 t6, (qt 0, ia Z 12 (ni Kt)), (qt 1, ia Z 12 (ni Pt)), (qt 2, ia Z 6 (ni kt)), (qt 3, ia Z 6 (ni mt)), (qt 4, ia Z 6 (ni stt)), (qt 5, ia Z 6 (ni gt))] 0 0
      have hP0 : ¬ pFast A a b c := by simp only [rgI, isS, isR, pNote, pMark, pFast, pLever, pHands, pSlip, pEven]; omega
      exact hE.1 _ _ _ _ _ _ _ rfl rfl dX8_choose_32 (Nat.le_refl _) (Nat.le_refl _) (⟨t1, t2, t3, t4, t5, t6, Kt, Pt, kt, mt, stt, gt, congrArg (fun z => some (Value.int (zI z))) (by simp only [z_seat, if_neg hP0]), by rw [if_neg hP0] <;> rfl⟩)
    · skip
      refine j_iload hJ (q := 20) dX8_choose_18 4 rfl rfl ?_
      refine j_iconst hJ (q := 21) dX8_choose_20 rfl ki_0 ?_
      refine j_iconst hJ (q := 22) dX8_choose_21 rfl ki_1 ?_
      refine j_sR hJ (q := 25) (rest := []) (As := [.int c, .int (zI 0), .int (zI 1)]) jl_X8_58 (c_X8_within Z c 0 1 (by omega) (by omega)) dX8_choose_22 rfl (by decide) (Nat.le_of_ble_eq_true rfl) [] rfl rfl (fun rv hp => ?_)
      obtain rfl := hp
      show J 25 [(0, .ref h), (1, .int (nI 1)), (2, .int a), (3, .int b), (4, .int c)] [.int (bI (decide (0 ≤ c.toInt ∧ c.toInt ≤ 1)))] [xO h u ab be (Rf 0) (Rf 1) (Rf 2), (u 0, .inr (4, [.ref (s 0), .ref (s 1), .ref (s 3), .ref (s 5), .ref (s 7)])), cO (s 0) q (A 21) (A 5) (A 6) (A 7) (A 8) (A 0), (q 0, ia Z 12 (ni K)), (q 1, ia Z 12 (ni P)), (q 2, ia Z 6 (ni kd)), (q 3, ia Z 6 (ni am)), (q 4, ia Z 6 (ni st)), (q 5, ia Z 6 (ni rg)), cO (u 3) qt t1 t2 t3 t4 t5 t6, (qt 0, ia Z 12 (ni Kt)), (qt 1, ia Z 12 (ni Pt)), (qt 2, ia Z 6 (ni kt)), (qt 3, ia Z 6 (ni mt)), (qt 4, ia Z 6 (ni stt)), (qt 5, ia Z 6 (ni gt))] 0 0
      refine jp_if_ne hJ (q := 28) (tgt := 33) dX8_choose_25 (by decide) rfl (fun c3 => ?_) (fun c3 => ?_)
      · skip
        have hn_a := nt_cast (x := a) (by omega)
        refine j_eql (lvs' := [(0, .ref h), (1, .int (nI 1)), (2, .int (nI (nt a))), (3, .int b), (4, .int c)]) (by rw [← nt_eq (x := a) (by omega)]) ?_
        have hn_b := nt_cast (x := b) (by omega)
        refine j_eql (lvs' := [(0, .ref h), (1, .int (nI 1)), (2, .int (nI (nt a))), (3, .int (nI (nt b))), (4, .int c)]) (by rw [← nt_eq (x := b) (by omega)]) ?_
        have hn_c := nt_cast (x := c) (by omega)
        refine j_eql (lvs' := [(0, .ref h), (1, .int (nI 1)), (2, .int (nI (nt a))), (3, .int (nI (nt b))), (4, .int (nI (nt c)))]) (by rw [← nt_eq (x := c) (by omega)]) ?_
        refine j_iload_n hJ (q := 34) dX8_choose_33 rfl 1 rfl rfl ?_
        refine jn_if_eq hJ (q := 37) (tgt := 50) dX8_choose_34 (by decide) rfl (by omega) (fun c4 => ?_) (fun c4 => ?_)
        · skip
          exfalso; omega
        · skip
          refine j_aload_n hJ (q := 38) dX8_choose_37 rfl 0 rfl rfl ?_
          refine j_get hJ (q := 41) jf_X8_10 dX8_choose_38 0 rfl rfl rfl ?_
          refine j_get hJ (q := 44) jf_X8_66 dX8_choose_41 1 rfl rfl rfl ?_
          refine j_get hJ (q := 47) jf_X8_278 dX8_choose_44 2 rfl rfl rfl ?_
          refine j_goto hJ (q := 51) dX8_choose_47 (by decide) ?_
          refine j_istore hJ (q := 53) (lvs' := [(5, .int (nI (A 21))), (0, .ref h), (1, .int (nI 1)), (2, .int (nI (nt a))), (3, .int (nI (nt b))), (4, .int (nI (nt c)))]) dX8_choose_51 (by decide) rfl rfl ?_
          refine j_iconst hJ (q := 54) dX8_choose_53 rfl ki_m1 ?_
          refine j_istore hJ (q := 56) (lvs' := [(6, .int (zI (-1))), (5, .int (nI (A 21))), (0, .ref h), (1, .int (nI 1)), (2, .int (nI (nt a))), (3, .int (nI (nt b))), (4, .int (nI (nt c)))]) dX8_choose_54 (by decide) rfl rfl ?_
          refine j_iconst hJ (q := 57) dX8_choose_56 rfl ki_m1 ?_
          refine j_istore hJ (q := 59) (lvs' := [(7, .int (zI (-1))), (6, .int (zI (-1))), (5, .int (nI (A 21))), (0, .ref h), (1, .int (nI 1)), (2, .int (nI (nt a))), (3, .int (nI (nt b))), (4, .int (nI (nt c)))]) dX8_choose_57 (by decide) rfl rfl ?_
          refine j_iconst hJ (q := 60) dX8_choose_59 rfl ki_0 ?_
          refine j_istore hJ (q := 62) (lvs' := [(8, .int (nI 0)), (7, .int (zI (-1))), (6, .int (zI (-1))), (5, .int (nI (A 21))), (0, .ref h), (1, .int (nI 1)), (2, .int (nI (nt a))), (3, .int (nI (nt b))), (4, .int (nI (nt c)))]) dX8_choose_60 (by decide) rfl rfl ?_
          have L_62 : ∀ (fu_62 : Nat) (e1 : Nat) (e2 : Nat) (e3 : Nat) (e4 : Nat) (e5 : Nat) (e6 : Nat) (Ka : Nat → Nat) (Pa : Nat → Nat) (ka : Nat → Nat) (ma : Nat → Nat) (sa : Nat → Nat) (ga : Nat → Nat) (mo : Int) (bs : Int) (vv : Nat), A 21 - vv < fu_62 → (vv ≤ A 21) → (bst (fSeat A (nt a) (nt b)) vv = (bs, mo)) → J 62 [(0, .ref h), (1, .int (nI 1)), (2, .int (nI (nt a))), (3, .int (nI (nt b))), (4, .int (nI (nt c))), (5, .int (nI (A 21))), (6, .int (zI mo)), (7, .int (zI bs)), (8, .int (nI vv))] [] [xO h u ab be (Rf 0) (Rf 1) (Rf 2), (u 0, .inr (4, [.ref (s 0), .ref (s 1), .ref (s 3), .ref (s 5), .ref (s 7)])), cO (s 0) q (A 21) (A 5) (A 6) (A 7) (A 8) (A 0), (q 0, ia Z 12 (ni K)), (q 1, ia Z 12 (ni P)), (q 2, ia Z 6 (ni kd)), (q 3, ia Z 6 (ni am)), (q 4, ia Z 6 (ni st)), (q 5, ia Z 6 (ni rg)), cO (u 3) qt e1 e2 e3 e4 e5 e6, (qt 0, ia Z 12 (ni Ka)), (qt 1, ia Z 12 (ni Pa)), (qt 2, ia Z 6 (ni ka)), (qt 3, ia Z 6 (ni ma)), (qt 4, ia Z 6 (ni sa)), (qt 5, ia Z 6 (ni ga))] 0 0 := by
            intro fu_62
            induction fu_62 with
            | zero => intro e1 e2 e3 e4 e5 e6 Ka Pa ka ma sa ga mo bs vv hm; exact absurd hm (Nat.not_lt_zero _)
            | succ fu_62 ih_62 =>
              intro e1 e2 e3 e4 e5 e6 Ka Pa ka ma sa ga mo bs vv hm_62 hv hbm
              have hbl2 := bst_le (f := fSeat A (nt a) (nt b)) (M := 60) (by decide) vv (fun u _ => by have := tkn_le (nt a) (nt b) (va_up A (15 + nt a) u); unfold fSeat; split <;> omega)
              rw [hbm] at hbl2
              have hbl3 := hbl2.1
              have hbl4 := hbl2.2.1
              have hbl5 := hbl2.2.2.1
              have hbl6 := hbl2.2.2.2
              dsimp only at hbl3 hbl4 hbl5 hbl6
              refine j_iload hJ (q := 64) dX8_choose_62 8 rfl rfl ?_
              refine j_iload hJ (q := 66) dX8_choose_64 5 rfl rfl ?_
              refine jn_icmp_ge hJ (q := 69) (tgt := 101) dX8_choose_66 (by decide) rfl (by omega) (by omega) (fun c5 => ?_) (fun c5 => ?_)
              · skip
                refine j_iload hJ (q := 103) dX8_choose_101 4 rfl rfl ?_
                refine jn_if_ne hJ (q := 106) (tgt := 111) dX8_choose_103 (by decide) rfl (by omega) (fun c6 => ?_) (fun c6 => ?_)
                · skip
                  refine j_iload hJ (q := 113) dX8_choose_111 6 rfl rfl ?_
                  have hP0 : pFast A a b c := by simp only [rgI, isS, isR, pNote, pMark, pFast, pLever, pHands, pSlip, pEven]; omega
                  have hQ0 : ¬ nt c = 0 := by omega
                  exact hE.1 _ _ _ _ _ _ _ rfl rfl dX8_choose_113 (Nat.le_refl _) (Nat.le_refl _) (⟨e1, e2, e3, e4, e5, e6, Ka, Pa, ka, ma, sa, ga, congrArg (fun z => some (Value.int (zI z))) (by simp only [z_seat, if_pos hP0, if_neg hQ0]; rw [show A 21 = vv by omega, hbm]), by rw [if_pos hP0] <;> rfl⟩)
                · skip
                  refine j_iload hJ (q := 108) dX8_choose_106 7 rfl rfl ?_
                  refine j_goto hJ (q := 113) dX8_choose_108 (by decide) ?_
                  have hP0 : pFast A a b c := by simp only [rgI, isS, isR, pNote, pMark, pFast, pLever, pHands, pSlip, pEven]; omega
                  have hQ0 : nt c = 0 := by omega
                  exact hE.1 _ _ _ _ _ _ _ rfl rfl dX8_choose_113 (Nat.le_refl _) (Nat.le_refl _) (⟨e1, e2, e3, e4, e5, e6, Ka, Pa, ka, ma, sa, ga, congrArg (fun z => some (Value.int (zI z))) (by simp only [z_seat, if_pos hP0, if_pos hQ0]; rw [show A 21 = vv by omega, hbm]), by rw [if_pos hP0] <;> rfl⟩)
              · skip
                refine j_aload_n hJ (q := 70) dX8_choose_69 rfl 0 rfl rfl ?_
                refine j_iload_n hJ (q := 71) dX8_choose_70 rfl 1 rfl rfl ?_
                refine j_iload hJ (q := 73) dX8_choose_71 8 rfl rfl ?_
                refine j_iload_n hJ (q := 74) dX8_choose_73 rfl 2 rfl rfl ?_
                refine j_iload_n hJ (q := 75) dX8_choose_74 rfl 3 rfl rfl ?_
                refine j_vW hJ (q := 78) (rest := []) (As := [.int (nI 1), .int (nI vv), .int (nI (nt a)), .int (nI (nt b))]) (wr := []) jl_X8_284 (c_X8_takenIf1 Z h u ab be Rf s q A K P kd am st rg qt e1 e2 e3 e4 e5 e6 Ka Pa ka ma sa ga vv (nt a) (nt b) hg hR (by omega) (by omega) (by omega)) 0 rfl rfl dX8_choose_75 rfl (by decide) (Nat.le_of_ble_eq_true rfl) [0, 1, 2, 3, 4, 5, 6, 7, 8, 9, 10, 11, 12, 13, 14, 15] [] rfl rfl rfl rfl (by decide) rfl (fun rv wv hp => ?_)
                obtain ⟨y17, y28, y39, y410, y511, y612, Kx13, Px14, kx15, mx16, sx17, gx18, rfl, rfl⟩ := hp
                show J 78 [(0, .ref h), (1, .int (nI 1)), (2, .int (nI (nt a))), (3, .int (nI (nt b))), (4, .int (nI (nt c))), (5, .int (nI (A 21))), (6, .int (zI mo)), (7, .int (zI bs)), (8, .int (nI vv))] [.int (zI (fSeat A (nt a) (nt b) vv))] [xO h u ab be (Rf 0) (Rf 1) (Rf 2), (u 0, .inr (4, [.ref (s 0), .ref (s 1), .ref (s 3), .ref (s 5), .ref (s 7)])), cO (s 0) q (A 21) (A 5) (A 6) (A 7) (A 8) (A 0), (q 0, ia Z 12 (ni K)), (q 1, ia Z 12 (ni P)), (q 2, ia Z 6 (ni kd)), (q 3, ia Z 6 (ni am)), (q 4, ia Z 6 (ni st)), (q 5, ia Z 6 (ni rg)), cO (u 3) qt y17 y28 y39 y410 y511 y612, (qt 0, ia Z 12 (ni Kx13)), (qt 1, ia Z 12 (ni Px14)), (qt 2, ia Z 6 (ni kx15)), (qt 3, ia Z 6 (ni mx16)), (qt 4, ia Z 6 (ni sx17)), (qt 5, ia Z 6 (ni gx18))] 0 0
                have hfb : -1 ≤ fSeat A (nt a) (nt b) vv ∧ fSeat A (nt a) (nt b) vv ≤ 60 := by have := tkn_le (nt a) (nt b) (va_up A (15 + nt a) vv); unfold fSeat; split <;> omega
                refine j_istore hJ (q := 80) (lvs' := [(9, .int (zI (fSeat A (nt a) (nt b) vv))), (0, .ref h), (1, .int (nI 1)), (2, .int (nI (nt a))), (3, .int (nI (nt b))), (4, .int (nI (nt c))), (5, .int (nI (A 21))), (6, .int (zI mo)), (7, .int (zI bs)), (8, .int (nI vv))]) dX8_choose_78 (by decide) rfl rfl ?_
                refine j_iload hJ (q := 82) dX8_choose_80 0 rfl rfl ?_
                refine j_iload hJ (q := 84) dX8_choose_82 7 rfl rfl ?_
                refine jz_icmp_le hJ (q := 87) (tgt := 95) dX8_choose_84 (by decide) rfl rfl rfl (by omega) (by omega) (fun c19 => ?_) (fun c19 => ?_)
                · skip
                  refine j_iinc hJ (q := 98) (lvs' := [(8, .int (nI (vv + 1))), (9, .int (zI (fSeat A (nt a) (nt b) vv))), (0, .ref h), (1, .int (nI 1)), (2, .int (nI (nt a))), (3, .int (nI (nt b))), (4, .int (nI (nt c))), (5, .int (nI (A 21))), (6, .int (zI mo)), (7, .int (zI bs))]) dX8_choose_95 9 rfl (by rw [show Int32.ofInt 1 = nI 1 from by decide +kernel]; exact nI_add _ _) (by decide) rfl rfl ?_
                  refine j_goto hJ (q := 62) dX8_choose_98 (by decide) ?_
                  refine j_locals hJ [2, 3, 4, 5, 6, 7, 8, 9, 0] rfl ?_
                  exact ih_62 y17 y28 y39 y410 y511 y612 Kx13 Px14 kx15 mx16 sx17 gx18 mo bs (vv + 1) (by omega) (by omega) (bst_no hbm (by omega))
                · skip
                  refine j_iload hJ (q := 89) dX8_choose_87 0 rfl rfl ?_
                  refine j_istore hJ (q := 91) (lvs' := [(6, .int (zI (fSeat A (nt a) (nt b) vv))), (9, .int (zI (fSeat A (nt a) (nt b) vv))), (0, .ref h), (1, .int (nI 1)), (2, .int (nI (nt a))), (3, .int (nI (nt b))), (4, .int (nI (nt c))), (5, .int (nI (A 21))), (7, .int (zI bs)), (8, .int (nI vv))]) dX8_choose_89 (by decide) rfl rfl ?_
                  refine j_iload hJ (q := 93) dX8_choose_91 9 rfl rfl ?_
                  refine j_istore hJ (q := 95) (lvs' := [(7, .int (nI vv)), (6, .int (zI (fSeat A (nt a) (nt b) vv))), (9, .int (zI (fSeat A (nt a) (nt b) vv))), (0, .ref h), (1, .int (nI 1)), (2, .int (nI (nt a))), (3, .int (nI (nt b))), (4, .int (nI (nt c))), (5, .int (nI (A 21))), (8, .int (nI vv))]) dX8_choose_93 (by decide) rfl rfl ?_
                  refine j_iinc hJ (q := 98) (lvs' := [(8, .int (nI (vv + 1))), (7, .int (nI vv)), (6, .int (zI (fSeat A (nt a) (nt b) vv))), (9, .int (zI (fSeat A (nt a) (nt b) vv))), (0, .ref h), (1, .int (nI 1)), (2, .int (nI (nt a))), (3, .int (nI (nt b))), (4, .int (nI (nt c))), (5, .int (nI (A 21)))]) dX8_choose_95 9 rfl (by rw [show Int32.ofInt 1 = nI 1 from by decide +kernel]; exact nI_add _ _) (by decide) rfl rfl ?_
                  refine j_goto hJ (q := 62) dX8_choose_98 (by decide) ?_
                  refine j_locals hJ [4, 5, 6, 7, 8, 9, 2, 1, 0] rfl ?_
                  refine j_eql (lvs' := [(0, .ref h), (1, .int (nI 1)), (2, .int (nI (nt a))), (3, .int (nI (nt b))), (4, .int (nI (nt c))), (5, .int (nI (A 21))), (6, .int (zI (fSeat A (nt a) (nt b) vv))), (7, .int (zI ((vv : Nat) : Int))), (8, .int (nI (vv + 1)))]) (by simp only [zI_nat] <;> rfl) ?_
                  exact ih_62 y17 y28 y39 y410 y511 y612 Kx13 Px14 kx15 mx16 sx17 gx18 (fSeat A (nt a) (nt b) vv) ((vv : Nat) : Int) (vv + 1) (by omega) (by omega) (bst_go hbm (by omega))
          refine j_locals hJ [4, 5, 6, 7, 8, 3, 2, 1, 0] rfl ?_
          exact L_62 ((A 21 - 0) + 1) t1 t2 t3 t4 t5 t6 Kt Pt kt mt stt gt (-1) (-1) 0 (Nat.lt_succ_self _) (by omega) rfl
      · skip
        refine j_aload_n hJ (q := 29) dX8_choose_28 rfl 0 rfl rfl ?_
        refine j_vW hJ (q := 32) (rest := []) (As := []) (wr := [(u 0, .inr (4, [.ref (s 0), .ref (s 1), .ref (s 3), .ref (s 5), .ref (s 7)])), cO (s 0) q (A 21) (A 5) (A 6) (A 7) (A 8) (A 0), (q 0, ia Z 12 (ni K)), (q 1, ia Z 12 (ni P)), (q 2, ia Z 6 (ni kd)), (q 3, ia Z 6 (ni am)), (q 4, ia Z 6 (ni st)), (q 5, ia Z 6 (ni rg)), cO (u 3) qt t1 t2 t3 t4 t5 t6, (qt 0, ia Z 12 (ni Kt)), (qt 1, ia Z 12 (ni Pt)), (qt 2, ia Z 6 (ni kt)), (qt 3, ia Z 6 (ni mt)), (qt 4, ia Z 6 (ni stt)), (qt 5, ia Z 6 (ni gt))]) jl_X8_62 (c_X8_bad Z h u ab be Rf ) 0 rfl rfl dX8_choose_29 rfl (by decide) (Nat.le_of_ble_eq_true rfl) [0] [1, 2, 3, 4, 5, 6, 7, 8, 9, 10, 11, 12, 13, 14, 15] rfl rfl rfl rfl (by decide) rfl (fun rv wv hp => ?_)
        obtain ⟨rfl, rfl⟩ := hp
        refine j_world hJ (ws' := [xO h u ab be ((bmp Rf 0) 0) ((bmp Rf 0) 1) ((bmp Rf 0) 2), (u 0, .inr (4, [.ref (s 0), .ref (s 1), .ref (s 3), .ref (s 5), .ref (s 7)])), cO (s 0) q (A 21) (A 5) (A 6) (A 7) (A 8) (A 0), (q 0, ia Z 12 (ni K)), (q 1, ia Z 12 (ni P)), (q 2, ia Z 6 (ni kd)), (q 3, ia Z 6 (ni am)), (q 4, ia Z 6 (ni st)), (q 5, ia Z 6 (ni rg)), cO (u 3) qt t1 t2 t3 t4 t5 t6, (qt 0, ia Z 12 (ni Kt)), (qt 1, ia Z 12 (ni Pt)), (qt 2, ia Z 6 (ni kt)), (qt 3, ia Z 6 (ni mt)), (qt 4, ia Z 6 (ni stt)), (qt 5, ia Z 6 (ni gt))]) [15, 0, 1, 2, 3, 4, 5, 6, 7, 8, 9, 10, 11, 12, 13, 14] rfl rfl ?_
        show J 32 [(0, .ref h), (1, .int (nI 1)), (2, .int a), (3, .int b), (4, .int c)] [.int (zI (-2))] [xO h u ab be ((bmp Rf 0) 0) ((bmp Rf 0) 1) ((bmp Rf 0) 2), (u 0, .inr (4, [.ref (s 0), .ref (s 1), .ref (s 3), .ref (s 5), .ref (s 7)])), cO (s 0) q (A 21) (A 5) (A 6) (A 7) (A 8) (A 0), (q 0, ia Z 12 (ni K)), (q 1, ia Z 12 (ni P)), (q 2, ia Z 6 (ni kd)), (q 3, ia Z 6 (ni am)), (q 4, ia Z 6 (ni st)), (q 5, ia Z 6 (ni rg)), cO (u 3) qt t1 t2 t3 t4 t5 t6, (qt 0, ia Z 12 (ni Kt)), (qt 1, ia Z 12 (ni Pt)), (qt 2, ia Z 6 (ni kt)), (qt 3, ia Z 6 (ni mt)), (qt 4, ia Z 6 (ni stt)), (qt 5, ia Z 6 (ni gt))] 0 0
        have hP0 : ¬ pFast A a b c := by simp only [rgI, isS, isR, pNote, pMark, pFast, pLever, pHands, pSlip, pEven]; omega
        exact hE.1 _ _ _ _ _ _ _ rfl rfl dX8_choose_32 (Nat.le_refl _) (Nat.le_refl _) (⟨t1, t2, t3, t4, t5, t6, Kt, Pt, kt, mt, stt, gt, congrArg (fun z => some (Value.int (zI z))) (by simp only [z_seat, if_neg hP0]), by rw [if_neg hP0] <;> rfl⟩)

set_option maxHeartbeats 4000000 in
set_option maxRecDepth 100000 in
theorem c_X8_seat (Z : jZ) (h : Nat) (u : Nat → Nat) (ab : Int) (be : Int) (Rf : Nat → Nat) (s : Nat → Nat) (q : Nat → Nat) (A : Nat → Nat) (K : Nat → Nat) (P : Nat → Nat) (kd : Nat → Nat) (am : Nat → Nat) (st : Nat → Nat) (rg : Nat → Nat) (qt : Nat → Nat) (t1 : Nat) (t2 : Nat) (t3 : Nat) (t4 : Nat) (t5 : Nat) (t6 : Nat) (Kt : Nat → Nat) (Pt : Nat → Nat) (kt : Nat → Nat) (mt : Nat → Nat) (stt : Nat → Nat) (gt : Nat → Nat) (a : Int32) (b : Int32) (c : Int32) (hg : wg A) (hR : rR A K P kd am st rg) : CT Z yX8_seat cX8_seat 4 ((some FieldType.int)) 8 0 0 [.ref h, .int a, .int b, .int c] [xO h u ab be (Rf 0) (Rf 1) (Rf 2), (u 0, .inr (4, [.ref (s 0), .ref (s 1), .ref (s 3), .ref (s 5), .ref (s 7)])), cO (s 0) q (A 21) (A 5) (A 6) (A 7) (A 8) (A 0), (q 0, ia Z 12 (ni K)), (q 1, ia Z 12 (ni P)), (q 2, ia Z 6 (ni kd)), (q 3, ia Z 6 (ni am)), (q 4, ia Z 6 (ni st)), (q 5, ia Z 6 (ni rg)), cO (u 3) qt t1 t2 t3 t4 t5 t6, (qt 0, ia Z 12 (ni Kt)), (qt 1, ia Z 12 (ni Pt)), (qt 2, ia Z 6 (ni kt)), (qt 3, ia Z 6 (ni mt)), (qt 4, ia Z 6 (ni stt)), (qt 5, ia Z 6 (ni gt))] (fun rr ww => ∃ y1 : Nat, ∃ y2 : Nat, ∃ y3 : Nat, ∃ y4 : Nat, ∃ y5 : Nat, ∃ y6 : Nat, ∃ Kx : Nat → Nat, ∃ Px : Nat → Nat, ∃ kx : Nat → Nat, ∃ mx : Nat → Nat, ∃ sx : Nat → Nat, ∃ gx : Nat → Nat, rr = some (.int (zI (z_seat A a b c))) ∧ ww = [xO h u ab be ((if pFast A a b c then Rf else bmp Rf 0) 0) ((if pFast A a b c then Rf else bmp Rf 0) 1) ((if pFast A a b c then Rf else bmp Rf 0) 2), (u 0, .inr (4, [.ref (s 0), .ref (s 1), .ref (s 3), .ref (s 5), .ref (s 7)])), cO (s 0) q (A 21) (A 5) (A 6) (A 7) (A 8) (A 0), (q 0, ia Z 12 (ni K)), (q 1, ia Z 12 (ni P)), (q 2, ia Z 6 (ni kd)), (q 3, ia Z 6 (ni am)), (q 4, ia Z 6 (ni st)), (q 5, ia Z 6 (ni rg)), cO (u 3) qt y1 y2 y3 y4 y5 y6, (qt 0, ia Z 12 (ni Kx)), (qt 1, ia Z 12 (ni Px)), (qt 2, ia Z 6 (ni kx)), (qt 3, ia Z 6 (ni mx)), (qt 4, ia Z 6 (ni sx)), (qt 5, ia Z 6 (ni gx))]) := by
  refine CT.of RX8 false rfl (fun h => by cases h) (by decide +kernel) (Nat.le_of_ble_eq_true rfl) ?_
  intro J hJ hE
  show J 0 [(0, .ref h), (1, .int a), (2, .int b), (3, .int c)] [] [xO h u ab be (Rf 0) (Rf 1) (Rf 2), (u 0, .inr (4, [.ref (s 0), .ref (s 1), .ref (s 3), .ref (s 5), .ref (s 7)])), cO (s 0) q (A 21) (A 5) (A 6) (A 7) (A 8) (A 0), (q 0, ia Z 12 (ni K)), (q 1, ia Z 12 (ni P)), (q 2, ia Z 6 (ni kd)), (q 3, ia Z 6 (ni am)), (q 4, ia Z 6 (ni st)), (q 5, ia Z 6 (ni rg)), cO (u 3) qt t1 t2 t3 t4 t5 t6, (qt 0, ia Z 12 (ni Kt)), (qt 1, ia Z 12 (ni Pt)), (qt 2, ia Z 6 (ni kt)), (qt 3, ia Z 6 (ni mt)), (qt 4, ia Z 6 (ni stt)), (qt 5, ia Z 6 (ni gt))] 0 0
  refine j_aload_n hJ (q := 1) dX8_seat_0 rfl 0 rfl rfl ?_
  refine j_iconst hJ (q := 2) dX8_seat_1 rfl ki_1 ?_
  refine j_iload_n hJ (q := 3) dX8_seat_2 rfl 1 rfl rfl ?_
  refine j_iload_n hJ (q := 4) dX8_seat_3 rfl 2 rfl rfl ?_
  refine j_iload_n hJ (q := 5) dX8_seat_4 rfl 3 rfl rfl ?_
  refine j_vW hJ (q := 8) (rest := []) (As := [.int (nI 1), .int a, .int b, .int c]) (wr := []) jl_X8_182 (c_X8_choose1 Z h u ab be Rf s q A K P kd am st rg qt t1 t2 t3 t4 t5 t6 Kt Pt kt mt stt gt a b c hg hR) 0 rfl rfl dX8_seat_5 rfl (by decide) (Nat.le_of_ble_eq_true rfl) [0, 1, 2, 3, 4, 5, 6, 7, 8, 9, 10, 11, 12, 13, 14, 15] [] rfl rfl rfl rfl (by decide) rfl (fun rv wv hp => ?_)
  obtain ⟨y11, y22, y33, y44, y55, y66, Kx7, Px8, kx9, mx10, sx11, gx12, rfl, rfl⟩ := hp
  show J 8 [(0, .ref h), (1, .int a), (2, .int b), (3, .int c)] [.int (zI (z_seat A a b c))] [xO h u ab be ((if pFast A a b c then Rf else bmp Rf 0) 0) ((if pFast A a b c then Rf else bmp Rf 0) 1) ((if pFast A a b c then Rf else bmp Rf 0) 2), (u 0, .inr (4, [.ref (s 0), .ref (s 1), .ref (s 3), .ref (s 5), .ref (s 7)])), cO (s 0) q (A 21) (A 5) (A 6) (A 7) (A 8) (A 0), (q 0, ia Z 12 (ni K)), (q 1, ia Z 12 (ni P)), (q 2, ia Z 6 (ni kd)), (q 3, ia Z 6 (ni am)), (q 4, ia Z 6 (ni st)), (q 5, ia Z 6 (ni rg)), cO (u 3) qt y11 y22 y33 y44 y55 y66, (qt 0, ia Z 12 (ni Kx7)), (qt 1, ia Z 12 (ni Px8)), (qt 2, ia Z 6 (ni kx9)), (qt 3, ia Z 6 (ni mx10)), (qt 4, ia Z 6 (ni sx11)), (qt 5, ia Z 6 (ni gx12))] 0 0
  exact hE.1 _ _ _ _ _ _ _ rfl rfl dX8_seat_8 (Nat.le_refl _) (Nat.le_refl _) (⟨y11, y22, y33, y44, y55, y66, Kx7, Px8, kx9, mx10, sx11, gx12, congrArg (fun z => some (Value.int (zI z))) (by rfl), rfl⟩)
