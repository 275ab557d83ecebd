set_option maxHeartbeats 4000000 in
set_option maxRecDepth 100000 in
theorem c_X9_tell (Z : jZ) (h : Nat) (q : Nat → Nat) (ab : Int) (be : Int) (bl : Nat) (ta : Nat) (tl : Nat) (tk : Nat) (va : Nat) (A : Nat → Nat) (Tl : Nat → Nat) (Rf : Nat → Nat) (a : Int32) (hg : wg A) (htl : ∀ j, Tl j < 100000) : CT Z yX9_tell cX9_tell 8 ((some FieldType.int)) 5 0 0 [.ref h, .int a] [mO h q ab be bl ta tl tk va, (q 0, ia Z 266 (ni A)), (q 5, ia Z 8 (ni Tl)), (q 3, ia Z 3 (ni Rf))] (fun rr ww => ∃ Tx : Nat → Nat, rr = some (.int (zI (z_tell A a))) ∧ ww = [mO h q ab be bl ta tl tk va, (q 0, ia Z 266 (ni A)), (q 5, ia Z 8 (ni Tx)), (q 3, ia Z 3 (ni (if isS A a then Rf else bmp Rf 0)))] ∧ ∀ j, Tx j < 100000) := by
  refine CT.of RX9 false rfl (fun h => by cases h) (by decide +kernel) (Nat.le_of_ble_eq_true rfl) ?_
  intro J hJ hE
  show J 0 [(0, .ref h), (1, .int a)] [] [mO h q ab be bl ta tl tk va, (q 0, ia Z 266 (ni A)), (q 5, ia Z 8 (ni Tl)), (q 3, ia Z 3 (ni Rf))] 0 0
  obtain ⟨hw, ⟨g1, g2, g3, g4, g8⟩, hrs, hrn, hrm, hpst⟩ := id hg
  obtain ⟨⟨w1, w2, w3, w4, w5, w6⟩, wb, wr, wh, wd⟩ := id hw
  have hb := wb
  have hr_a := zI_rng a
  refine j_aload_n hJ (q := 1) dX9_tell_0 rfl 0 rfl rfl ?_
  refine j_iload_n hJ (q := 2) dX9_tell_1 rfl 1 rfl rfl ?_
  refine j_vR hJ (q := 5) (rest := []) (As := [.int a]) jl_X9_77 (c_X9_isSeat Z h q ab be bl ta tl tk va A a (by omega)) 0 rfl rfl dX9_tell_2 rfl (by decide) (Nat.le_of_ble_eq_true rfl) [0, 1] rfl rfl (fun rv hp => ?_)
  obtain rfl := hp
  show J 5 [(0, .ref h), (1, .int a)] [.int (bI (decide (0 ≤ a.toInt ∧ a.toInt ≤ (A 21 : Int) - 1)))] [mO h q ab be bl ta tl tk va, (q 0, ia Z 266 (ni A)), (q 5, ia Z 8 (ni Tl)), (q 3, ia Z 3 (ni Rf))] 0 0
  refine jp_if_ne hJ (q := 8) (tgt := 15) dX9_tell_5 (by decide) rfl (fun c1 => ?_) (fun c1 => ?_)
  · skip
    have hn_a := nt_cast (x := a) (by omega)
    refine j_eql (lvs' := [(0, .ref h), (1, .int (nI (nt a)))]) (by rw [← nt_eq (x := a) (by omega)]) ?_
    refine j_aload_n hJ (q := 16) dX9_tell_15 rfl 0 rfl rfl ?_
    refine j_iload_n hJ (q := 17) dX9_tell_16 rfl 1 rfl rfl ?_
    refine j_vR hJ (q := 20) (rest := []) (As := [.int (nI (nt a))]) jl_X9_154 (c_X9_phasesOf Z h q ab be bl ta tl tk va A (nt a) (by omega) hb (by omega) ((wh _ (by omega)).1) hrs) 0 rfl rfl dX9_tell_17 rfl (by decide) (Nat.le_of_ble_eq_true rfl) [0, 1] rfl rfl (fun rv hp => ?_)
    obtain rfl := hp
    show J 20 [(0, .ref h), (1, .int (nI (nt a)))] [.int (nI (phs A (nt a)))] [mO h q ab be bl ta tl tk va, (q 0, ia Z 266 (ni A)), (q 5, ia Z 8 (ni Tl)), (q 3, ia Z 3 (ni Rf))] 0 0
    refine j_istore_n hJ (q := 21) (lvs' := [(2, .int (nI (phs A (nt a)))), (0, .ref h), (1, .int (nI (nt a)))]) dX9_tell_20 rfl (by decide) rfl rfl ?_
    obtain ⟨st, e_st⟩ : ∃ z, z = phs A (nt a) := ⟨_, rfl⟩
    have hst : st < 256 := by rw [e_st]; exact phs_lt _ _
    refine j_eql (lvs' := [(2, .int (nI st)), (0, .ref h), (1, .int (nI (nt a)))]) (by rw [e_st]) ?_
    refine j_iconst hJ (q := 22) dX9_tell_21 rfl ki_m1 ?_
    refine j_istore_n hJ (q := 23) (lvs' := [(3, .int (zI (-1))), (2, .int (nI st)), (0, .ref h), (1, .int (nI (nt a)))]) dX9_tell_22 rfl (by decide) rfl rfl ?_
    refine j_ldc hJ (q := 25) (v' := nI 1000000) dX9_tell_23 tm_1012 rfl rfl ?_
    refine j_istore hJ (q := 27) (lvs' := [(4, .int (nI 1000000)), (3, .int (zI (-1))), (2, .int (nI st)), (0, .ref h), (1, .int (nI (nt a)))]) dX9_tell_25 (by decide) rfl rfl ?_
    refine j_iconst hJ (q := 28) dX9_tell_27 rfl ki_0 ?_
    refine j_istore hJ (q := 30) (lvs' := [(5, .int (nI 0)), (4, .int (nI 1000000)), (3, .int (zI (-1))), (2, .int (nI st)), (0, .ref h), (1, .int (nI (nt a)))]) dX9_tell_28 (by decide) rfl rfl ?_
    have L_30 : ∀ (fu_30 : Nat) (B : Nat → Nat) (bs : Int) (fw : Nat) (t : Nat), 8 - t < fu_30 → (t ≤ 8) → (fw ≤ 1000000) → ((bs, fw) = mnI (fTell A (nt a) st) 4 t) → (st = 0 → t = 0) → (∀ j, B j < 100000) → J 30 [(0, .ref h), (1, .int (nI (nt a))), (2, .int (nI st)), (3, .int (zI bs)), (4, .int (nI fw)), (5, .int (nI t))] [] [mO h q ab be bl ta tl tk va, (q 0, ia Z 266 (ni A)), (q 5, ia Z 8 (ni B)), (q 3, ia Z 3 (ni Rf))] 0 0 := by
      intro fu_30
      induction fu_30 with
      | zero => intro B bs fw t hm; exact absurd hm (Nat.not_lt_zero _)
      | succ fu_30 ih_30 =>
        intro B bs fw t hm_30 ht hfw hbf ht0 hBb
        refine j_iload hJ (q := 32) dX9_tell_30 5 rfl rfl ?_
        refine j_bipush hJ (q := 34) dX9_tell_32 rfl kb_8 ?_
        refine jn_icmp_ge hJ (q := 37) (tgt := 146) dX9_tell_34 (by decide) rfl (by omega) (by omega) (fun c2 => ?_) (fun c2 => ?_)
        · skip
          refine j_iload_n hJ (q := 147) dX9_tell_146 rfl 3 rfl rfl ?_
          have hP : isS A a := by simp only [rgI, isS, isR, pNote, pMark, pFast, pLever, pHands, pSlip, pEven]; omega
          have hR : mnz (fTell A (nt a) st) 4 8 st = bs := (Nat.eq_zero_or_pos st).elim (fun h0 => by unfold mnz; rw [if_pos h0]; have := ht0 h0; rw [this] at hbf; exact (Prod.mk.inj hbf).1.symm) (fun h0 => by unfold mnz; rw [if_neg (by omega), show 8 = t by omega, ← hbf])
          exact hE.1 _ _ _ _ _ _ _ rfl rfl dX9_tell_147 (Nat.le_refl _) (Nat.le_refl _) (⟨B, congrArg (fun z => some (Value.int (zI z))) (by simp only [z_tell, if_pos hP]; rw [← e_st]; exact hR.symm), by simp only [z_tell, if_pos hP, bmp], hBb⟩)
        · skip
          have hk5 := (wh (nt a) (by omega)).1
          refine j_iload_n hJ (q := 38) dX9_tell_37 rfl 2 rfl rfl ?_
          refine jz_if_le hJ (q := 41) (tgt := 146) dX9_tell_38 (by decide) rfl (zI_nat st).symm (by omega) (fun c3 => ?_) (fun c3 => ?_)
          · skip
            refine j_iload_n hJ (q := 147) dX9_tell_146 rfl 3 rfl rfl ?_
            have hP : isS A a := by simp only [rgI, isS, isR, pNote, pMark, pFast, pLever, pHands, pSlip, pEven]; omega
            have hR : mnz (fTell A (nt a) st) 4 8 st = bs := (Nat.eq_zero_or_pos st).elim (fun h0 => by unfold mnz; rw [if_pos h0]; have := ht0 h0; rw [this] at hbf; exact (Prod.mk.inj hbf).1.symm) (fun h0 => by unfold mnz; rw [if_neg (by omega), show 8 = t by omega, ← hbf])
            exact hE.1 _ _ _ _ _ _ _ rfl rfl dX9_tell_147 (Nat.le_refl _) (Nat.le_refl _) (⟨B, congrArg (fun z => some (Value.int (zI z))) (by simp only [z_tell, if_pos hP]; rw [← e_st]; exact hR.symm), by simp only [z_tell, if_pos hP, bmp], hBb⟩)
          · skip
            refine j_iconst hJ (q := 42) dX9_tell_41 rfl ki_0 ?_
            refine j_istore hJ (q := 44) (lvs' := [(6, .int (nI 0)), (0, .ref h), (1, .int (nI (nt a))), (2, .int (nI st)), (3, .int (zI bs)), (4, .int (nI fw)), (5, .int (nI t))]) dX9_tell_42 (by decide) rfl rfl ?_
            have L_44 : ∀ (fu_44 : Nat) (B : Nat → Nat) (bs : Int) (fw : Nat) (v : Nat), 4 - v < fu_44 → (v ≤ 4) → (fw ≤ 1000000) → ((bs, fw) = mnJ (fTell A (nt a) st t) t v (mnI (fTell A (nt a) st) 4 t)) → (∀ j, B j < 100000) → J 44 [(0, .ref h), (1, .int (nI (nt a))), (2, .int (nI st)), (3, .int (zI bs)), (4, .int (nI fw)), (5, .int (nI t)), (6, .int (nI v))] [] [mO h q ab be bl ta tl tk va, (q 0, ia Z 266 (ni A)), (q 5, ia Z 8 (ni B)), (q 3, ia Z 3 (ni Rf))] 0 0 := by
              intro fu_44
              induction fu_44 with
              | zero => intro B bs fw v hm; exact absurd hm (Nat.not_lt_zero _)
              | succ fu_44 ih_44 =>
                intro B bs fw v hm_44 hv hfw hbf hBb2
                refine j_iload hJ (q := 46) dX9_tell_44 6 rfl rfl ?_
                refine j_iconst hJ (q := 47) dX9_tell_46 rfl ki_4 ?_
                refine jn_icmp_ge hJ (q := 50) (tgt := 140) dX9_tell_47 (by decide) rfl (by omega) (by omega) (fun c4 => ?_) (fun c4 => ?_)
                · skip
                  refine j_iinc hJ (q := 143) (lvs' := [(5, .int (nI (t + 1))), (0, .ref h), (1, .int (nI (nt a))), (2, .int (nI st)), (3, .int (zI bs)), (4, .int (nI fw)), (6, .int (nI v))]) dX9_tell_140 5 rfl (by rw [show Int32.ofInt 1 = nI 1 from by decide +kernel]; exact nI_add _ _) (by decide) rfl rfl ?_
                  refine j_goto hJ (q := 30) dX9_tell_143 (by decide) ?_
                  refine j_locals hJ [1, 2, 3, 4, 5, 0] rfl ?_
                  exact ih_30 B bs fw (t + 1) (by omega) (by omega) (by omega) (by rw [hbf, show v = 4 by omega]; rfl) (fun h0 => by omega) hBb2
                · skip
                  refine j_iconst hJ (q := 51) dX9_tell_50 rfl ki_0 ?_
                  refine j_istore hJ (q := 53) (lvs' := [(7, .int (nI 0)), (0, .ref h), (1, .int (nI (nt a))), (2, .int (nI st)), (3, .int (zI bs)), (4, .int (nI fw)), (5, .int (nI t)), (6, .int (nI v))]) dX9_tell_51 (by decide) rfl rfl ?_
                  have L_53 : ∀ (fu_53 : Nat) (B : Nat → Nat) (p : Nat), 8 - p < fu_53 → (p ≤ 8) → (∀ j, j < p → B j = hgh (A (34 + nt a)) j t v) → (∀ j, B j < 100000) → J 53 [(0, .ref h), (1, .int (nI (nt a))), (2, .int (nI st)), (3, .int (zI bs)), (4, .int (nI fw)), (5, .int (nI t)), (6, .int (nI v)), (7, .int (nI p))] [] [mO h q ab be bl ta tl tk va, (q 0, ia Z 266 (ni A)), (q 5, ia Z 8 (ni B)), (q 3, ia Z 3 (ni Rf))] 0 0 := by
                    intro fu_53
                    induction fu_53 with
                    | zero => intro B p hm; exact absurd hm (Nat.not_lt_zero _)
                    | succ fu_53 ih_53 =>
                      intro B p hm_53 hp hB hBb3
                      refine j_iload hJ (q := 55) dX9_tell_53 7 rfl rfl ?_
                      refine j_bipush hJ (q := 57) dX9_tell_55 rfl kb_8 ?_
                      refine jn_icmp_ge hJ (q := 60) (tgt := 91) dX9_tell_57 (by decide) rfl (by omega) (by omega) (fun c5 => ?_) (fun c5 => ?_)
                      · skip
                        refine j_aload_n hJ (q := 92) dX9_tell_91 rfl 0 rfl rfl ?_
                        refine j_iload_n hJ (q := 93) dX9_tell_92 rfl 2 rfl rfl ?_
                        refine j_vR hJ (q := 96) (rest := []) (As := [.int (nI st)]) jl_X9_162 (c_X9_mostAlike Z h q ab be bl ta tl tk va B st (by omega) hBb3) 0 rfl rfl dX9_tell_93 rfl (by decide) (Nat.le_of_ble_eq_true rfl) [0, 2] rfl rfl (fun rv hp => ?_)
                        obtain rfl := hp
                        show J 96 [(0, .ref h), (1, .int (nI (nt a))), (2, .int (nI st)), (3, .int (zI bs)), (4, .int (nI fw)), (5, .int (nI t)), (6, .int (nI v)), (7, .int (nI p))] [.int (nI (topN B st 8))] [mO h q ab be bl ta tl tk va, (q 0, ia Z 266 (ni A)), (q 5, ia Z 8 (ni B)), (q 3, ia Z 3 (ni Rf))] 0 0
                        have htop : topN B st 8 = fTell A (nt a) st t v := topN_ext (fun j hj hbit => hB j (by omega)) 8 (Nat.le_refl _)
                        have htl8 := topN_le B st 8
                        refine j_istore hJ (q := 98) (lvs' := [(7, .int (nI (topN B st 8))), (0, .ref h), (1, .int (nI (nt a))), (2, .int (nI st)), (3, .int (zI bs)), (4, .int (nI fw)), (5, .int (nI t)), (6, .int (nI v))]) dX9_tell_96 (by decide) rfl rfl ?_
                        refine j_iload hJ (q := 100) dX9_tell_98 0 rfl rfl ?_
                        refine j_iload hJ (q := 102) dX9_tell_100 5 rfl rfl ?_
                        refine jn_icmp_ge hJ (q := 105) (tgt := 116) dX9_tell_102 (by decide) rfl (by omega) (by omega) (fun c6 => ?_) (fun c6 => ?_)
                        · skip
                          refine j_iload_n hJ (q := 117) dX9_tell_116 rfl 4 rfl rfl ?_
                          refine j_istore_n hJ (q := 118) (lvs' := [(3, .int (zI bs)), (7, .int (nI (topN B st 8))), (0, .ref h), (1, .int (nI (nt a))), (2, .int (nI st)), (4, .int (nI fw)), (5, .int (nI t)), (6, .int (nI v))]) dX9_tell_117 rfl (by decide) rfl rfl ?_
                          refine j_iload hJ (q := 120) dX9_tell_118 1 rfl rfl ?_
                          refine j_iload hJ (q := 122) dX9_tell_120 5 rfl rfl ?_
                          refine jn_icmp_ge hJ (q := 125) (tgt := 130) dX9_tell_122 (by decide) rfl (by omega) (by omega) (fun c7 => ?_) (fun c7 => ?_)
                          · skip
                            refine j_iload hJ (q := 132) dX9_tell_130 5 rfl rfl ?_
                            refine j_istore hJ (q := 134) (lvs' := [(4, .int (nI fw)), (3, .int (zI bs)), (7, .int (nI (topN B st 8))), (0, .ref h), (1, .int (nI (nt a))), (2, .int (nI st)), (5, .int (nI t)), (6, .int (nI v))]) dX9_tell_132 (by decide) rfl rfl ?_
                            refine j_iinc hJ (q := 137) (lvs' := [(6, .int (nI (v + 1))), (4, .int (nI fw)), (3, .int (zI bs)), (7, .int (nI (topN B st 8))), (0, .ref h), (1, .int (nI (nt a))), (2, .int (nI st)), (5, .int (nI t))]) dX9_tell_134 7 rfl (by rw [show Int32.ofInt 1 = nI 1 from by decide +kernel]; exact nI_add _ _) (by decide) rfl rfl ?_
                            refine j_goto hJ (q := 44) dX9_tell_137 (by decide) ?_
                            refine j_locals hJ [4, 5, 6, 2, 1, 7, 0] rfl ?_
                            exact ih_44 B bs fw (v + 1) (by omega) (by omega) (by omega) (mnJ_no hbf (by rw [← htop]; omega)) hBb3
                          · skip
                            refine j_iload hJ (q := 127) dX9_tell_125 1 rfl rfl ?_
                            refine j_goto hJ (q := 132) dX9_tell_127 (by decide) ?_
                            refine j_istore hJ (q := 134) (lvs' := [(4, .int (nI (topN B st 8))), (3, .int (zI bs)), (7, .int (nI (topN B st 8))), (0, .ref h), (1, .int (nI (nt a))), (2, .int (nI st)), (5, .int (nI t)), (6, .int (nI v))]) dX9_tell_132 (by decide) rfl rfl ?_
                            refine j_iinc hJ (q := 137) (lvs' := [(6, .int (nI (v + 1))), (4, .int (nI (topN B st 8))), (3, .int (zI bs)), (7, .int (nI (topN B st 8))), (0, .ref h), (1, .int (nI (nt a))), (2, .int (nI st)), (5, .int (nI t))]) dX9_tell_134 7 rfl (by rw [show Int32.ofInt 1 = nI 1 from by decide +kernel]; exact nI_add _ _) (by decide) rfl rfl ?_
                            refine j_goto hJ (q := 44) dX9_tell_137 (by decide) ?_
                            refine j_locals hJ [4, 5, 6, 2, 1, 7, 0] rfl ?_
                            exact ih_44 B bs (topN B st 8) (v + 1) (by omega) (by omega) (by omega) (by exfalso; omega) hBb3
                        · skip
                          refine j_bipush hJ (q := 107) dX9_tell_105 rfl kb_10 ?_
                          refine j_iload hJ (q := 109) dX9_tell_107 6 rfl rfl ?_
                          refine j_imul hJ (q := 110) dX9_tell_109 rfl (pk_mul _ _) ?_
                          refine j_iload hJ (q := 112) dX9_tell_110 7 rfl rfl ?_
                          refine j_iadd hJ (q := 113) dX9_tell_112 rfl (nI_add _ _) ?_
                          refine j_goto hJ (q := 117) dX9_tell_113 (by decide) ?_
                          refine j_istore_n hJ (q := 118) (lvs' := [(3, .int (nI (10 * t + v))), (7, .int (nI (topN B st 8))), (0, .ref h), (1, .int (nI (nt a))), (2, .int (nI st)), (4, .int (nI fw)), (5, .int (nI t)), (6, .int (nI v))]) dX9_tell_117 rfl (by decide) rfl rfl ?_
                          refine j_iload hJ (q := 120) dX9_tell_118 1 rfl rfl ?_
                          refine j_iload hJ (q := 122) dX9_tell_120 5 rfl rfl ?_
                          refine jn_icmp_ge hJ (q := 125) (tgt := 130) dX9_tell_122 (by decide) rfl (by omega) (by omega) (fun c8 => ?_) (fun c8 => ?_)
                          · skip
                            refine j_iload hJ (q := 132) dX9_tell_130 5 rfl rfl ?_
                            refine j_istore hJ (q := 134) (lvs' := [(4, .int (nI fw)), (3, .int (nI (10 * t + v))), (7, .int (nI (topN B st 8))), (0, .ref h), (1, .int (nI (nt a))), (2, .int (nI st)), (5, .int (nI t)), (6, .int (nI v))]) dX9_tell_132 (by decide) rfl rfl ?_
                            refine j_iinc hJ (q := 137) (lvs' := [(6, .int (nI (v + 1))), (4, .int (nI fw)), (3, .int (nI (10 * t + v))), (7, .int (nI (topN B st 8))), (0, .ref h), (1, .int (nI (nt a))), (2, .int (nI st)), (5, .int (nI t))]) dX9_tell_134 7 rfl (by rw [show Int32.ofInt 1 = nI 1 from by decide +kernel]; exact nI_add _ _) (by decide) rfl rfl ?_
                            refine j_goto hJ (q := 44) dX9_tell_137 (by decide) ?_
                            refine j_locals hJ [4, 5, 6, 2, 1, 7, 0] rfl ?_
                            refine j_eql (lvs' := [(0, .ref h), (1, .int (nI (nt a))), (2, .int (nI st)), (3, .int (zI ((10 * t + v : Nat) : Int))), (4, .int (nI fw)), (5, .int (nI t)), (6, .int (nI (v + 1)))]) (by simp only [zI_nat] <;> rfl) ?_
                            exact ih_44 B ((10 * t + v : Nat) : Int) fw (v + 1) (by omega) (by omega) (by omega) (by exfalso; omega) hBb3
                          · skip
                            refine j_iload hJ (q := 127) dX9_tell_125 1 rfl rfl ?_
                            refine j_goto hJ (q := 132) dX9_tell_127 (by decide) ?_
                            refine j_istore hJ (q := 134) (lvs' := [(4, .int (nI (topN B st 8))), (3, .int (nI (10 * t + v))), (7, .int (nI (topN B st 8))), (0, .ref h), (1, .int (nI (nt a))), (2, .int (nI st)), (5, .int (nI t)), (6, .int (nI v))]) dX9_tell_132 (by decide) rfl rfl ?_
                            refine j_iinc hJ (q := 137) (lvs' := [(6, .int (nI (v + 1))), (4, .int (nI (topN B st 8))), (3, .int (nI (10 * t + v))), (7, .int (nI (topN B st 8))), (0, .ref h), (1, .int (nI (nt a))), (2, .int (nI st)), (5, .int (nI t))]) dX9_tell_134 7 rfl (by rw [show Int32.ofInt 1 = nI 1 from by decide +kernel]; exact nI_add _ _) (by decide) rfl rfl ?_
                            refine j_goto hJ (q := 44) dX9_tell_137 (by decide) ?_
                            refine j_locals hJ [4, 5, 6, 2, 1, 7, 0] rfl ?_
                            refine j_eql (lvs' := [(0, .ref h), (1, .int (nI (nt a))), (2, .int (nI st)), (3, .int (zI ((10 * t + v : Nat) : Int))), (4, .int (nI (topN B st 8))), (5, .int (nI t)), (6, .int (nI (v + 1)))]) (by simp only [zI_nat] <;> rfl) ?_
                            exact ih_44 B ((10 * t + v : Nat) : Int) (topN B st 8) (v + 1) (by omega) (by omega) (by omega) (by rw [htop]; exact mnJ_go hbf (by rw [← htop]; omega)) hBb3
                      · skip
                        refine j_aload_n hJ (q := 61) dX9_tell_60 rfl 0 rfl rfl ?_
                        refine j_get hJ (q := 64) jf_X9_30 dX9_tell_61 0 rfl rfl rfl ?_
                        refine j_iload hJ (q := 66) dX9_tell_64 7 rfl rfl ?_
                        refine j_aload_n hJ (q := 67) dX9_tell_66 rfl 0 rfl rfl ?_
                        refine j_get hJ (q := 70) jf_X9_7 dX9_tell_67 0 rfl rfl rfl ?_
                        refine j_bipush hJ (q := 72) dX9_tell_70 rfl kb_34 ?_
                        refine j_iload_n hJ (q := 73) dX9_tell_72 rfl 1 rfl rfl ?_
                        refine j_iadd hJ (q := 74) dX9_tell_73 rfl (nI_add _ _) ?_
                        refine j_ialdN hJ (q := 75) (z := nI (A (34 + (nt a)))) dX9_tell_74 1 rfl (by omega) (by decide) rfl rfl ?_
                        have b9 := hb (34 + (nt a))
                        refine j_iload hJ (q := 77) dX9_tell_75 7 rfl rfl ?_
                        refine j_iload hJ (q := 79) dX9_tell_77 5 rfl rfl ?_
                        refine j_iload hJ (q := 81) dX9_tell_79 6 rfl rfl ?_
                        refine j_sR hJ (q := 84) (rest := [.int (nI p), .ref (q 5)]) (As := [.int (nI (A (34 + (nt a)))), .int (nI p), .int (nI t), .int (nI v)]) jl_X9_103 (c_X9_highAs Z (A (34 + (nt a))) p t v hk5 (by omega) (by omega) (by omega)) dX9_tell_81 rfl (by decide) (Nat.le_of_ble_eq_true rfl) [] rfl rfl (fun rv hp => ?_)
                        obtain rfl := hp
                        show J 84 [(0, .ref h), (1, .int (nI (nt a))), (2, .int (nI st)), (3, .int (zI bs)), (4, .int (nI fw)), (5, .int (nI t)), (6, .int (nI v)), (7, .int (nI p))] [.int (nI (hgh (A (34 + (nt a))) p t v)), .int (nI p), .ref (q 5)] [mO h q ab be bl ta tl tk va, (q 0, ia Z 266 (ni A)), (q 5, ia Z 8 (ni B)), (q 3, ia Z 3 (ni Rf))] 0 0
                        have hgl : hgh (A (34 + nt a)) p t v ≤ 10 := hgh_le (by omega)
                        refine j_iastN hJ (q := 85) (ws' := [mO h q ab be bl ta tl tk va, (q 0, ia Z 266 (ni A)), (q 5, ia Z 8 (ni (va_up B p (hgh (A (34 + (nt a))) p t v)))), (q 3, ia Z 3 (ni Rf))]) dX9_tell_84 2 rfl (by omega) (by decide) (ni_up _ _ _) rfl rfl ?_
                        refine j_iinc hJ (q := 88) (lvs' := [(7, .int (nI (p + 1))), (0, .ref h), (1, .int (nI (nt a))), (2, .int (nI st)), (3, .int (zI bs)), (4, .int (nI fw)), (5, .int (nI t)), (6, .int (nI v))]) dX9_tell_85 7 rfl (by rw [show Int32.ofInt 1 = nI 1 from by decide +kernel]; exact nI_add _ _) (by decide) rfl rfl ?_
                        refine j_goto hJ (q := 53) dX9_tell_88 (by decide) ?_
                        refine j_locals hJ [1, 2, 3, 4, 5, 6, 7, 0] rfl ?_
                        exact ih_53 (va_up B p (hgh (A (34 + (nt a))) p t v)) (p + 1) (by omega) (by omega) (fun j hj => by simp only [va_up]; by_cases h : j = p <;> simp only [h, if_true, if_false]; exact hB j (by omega)) (fun j => by simp only [va_up]; have := hBb3 j; split <;> omega)
                  refine j_locals hJ [1, 2, 3, 4, 5, 6, 7, 0] rfl ?_
                  exact L_53 ((8 - 0) + 1) B 0 (Nat.lt_succ_self _) (by omega) (fun j hj => absurd hj (Nat.not_lt_zero _)) hBb2
            refine j_locals hJ [1, 2, 3, 4, 5, 6, 0] rfl ?_
            exact L_44 ((4 - 0) + 1) B bs fw 0 (Nat.lt_succ_self _) (by omega) (by omega) (by rw [← hbf]; rfl) hBb
    refine j_locals hJ [4, 5, 3, 2, 1, 0] rfl ?_
    exact L_30 ((8 - 0) + 1) Tl (-1) 1000000 0 (Nat.lt_succ_self _) (by omega) (by omega) rfl (fun _ => rfl) htl
  · skip
    refine j_aload_n hJ (q := 9) dX9_tell_8 rfl 0 rfl rfl ?_
    refine j_bipush hJ (q := 11) dX9_tell_9 rfl kb_m2 ?_
    refine j_vW hJ (q := 14) (rest := []) (As := [.int (zI (-2))]) (wr := [(q 0, ia Z 266 (ni A)), (q 5, ia Z 8 (ni Tl))]) jl_X9_73 (c_X9_bad Z h q ab be bl ta tl tk va Rf (-2) ) 0 rfl rfl dX9_tell_11 rfl (by decide) (Nat.le_of_ble_eq_true rfl) [0, 3] [1, 2] rfl rfl rfl rfl (by decide) rfl (fun rv wv hp => ?_)
    obtain ⟨rfl, rfl⟩ := hp
    refine j_world hJ (ws' := [mO h q ab be bl ta tl tk va, (q 0, ia Z 266 (ni A)), (q 5, ia Z 8 (ni Tl)), (q 3, ia Z 3 (ni (va_up Rf 0 (Rf 0 + 1))))]) [2, 0, 1, 3] rfl rfl ?_
    show J 14 [(0, .ref h), (1, .int a)] [.int (zI (-2))] [mO h q ab be bl ta tl tk va, (q 0, ia Z 266 (ni A)), (q 5, ia Z 8 (ni Tl)), (q 3, ia Z 3 (ni (va_up Rf 0 (Rf 0 + 1))))] 0 0
    have hP : ¬ (isS A a) := by simp only [rgI, isS, isR, pNote, pMark, pFast, pLever, pHands, pSlip, pEven]; omega
    exact hE.1 _ _ _ _ _ _ _ rfl rfl dX9_tell_14 (Nat.le_refl _) (Nat.le_refl _) (⟨Tl, congrArg (fun z => some (Value.int (zI z))) (by simp only [z_tell, if_neg hP, bmp]), by simp only [z_tell, if_neg hP, bmp], htl⟩)

set_option maxHeartbeats 4000000 in
set_option maxRecDepth 100000 in
theorem c_X9_look (Z : jZ) (h : Nat) (q : Nat → Nat) (ab : Int) (be : Int) (bl : Nat) (ta : Nat) (tl : Nat) (tk : Nat) (va : Nat) (A : Nat → Nat) (Tl : Nat → Nat) (Rf : Nat → Nat) (a : Int32) (hg : wg A) (htl : ∀ j, Tl j < 100000) : CT Z yX9_look cX9_look 8 ((some FieldType.int)) 5 0 0 [.ref h, .int a] [mO h q ab be bl ta tl tk va, (q 0, ia Z 266 (ni A)), (q 5, ia Z 8 (ni Tl)), (q 3, ia Z 3 (ni Rf))] (fun rr ww => ∃ Tx : Nat → Nat, rr = some (.int (zI (z_look A a))) ∧ ww = [mO h q ab be bl ta tl tk va, (q 0, ia Z 266 (ni A)), (q 5, ia Z 8 (ni Tx)), (q 3, ia Z 3 (ni (if isS A a then Rf else bmp Rf 0)))] ∧ ∀ j, Tx j < 100000) := by
  refine CT.of RX9 false rfl (fun h => by cases h) (by decide +kernel) (Nat.le_of_ble_eq_true rfl) ?_
  intro J hJ hE
  show J 0 [(0, .ref h), (1, .int a)] [] [mO h q ab be bl ta tl tk va, (q 0, ia Z 266 (ni A)), (q 5, ia Z 8 (ni Tl)), (q 3, ia Z 3 (ni Rf))] 0 0
  obtain ⟨hw, ⟨g1, g2, g3, g4, g8⟩, hrs, hrn, hrm, hpst⟩ := id hg
  obtain ⟨⟨w1, w2, w3, w4, w5, w6⟩, wb, wr, wh, wd⟩ := id hw
  have hb := wb
  have hr_a := zI_rng a
  refine j_aload_n hJ (q := 1) dX9_look_0 rfl 0 rfl rfl ?_
  refine j_iload_n hJ (q := 2) dX9_look_1 rfl 1 rfl rfl ?_
  refine j_vR hJ (q := 5) (rest := []) (As := [.int a]) jl_X9_77 (c_X9_isSeat Z h q ab be bl ta tl tk va A a (by omega)) 0 rfl rfl dX9_look_2 rfl (by decide) (Nat.le_of_ble_eq_true rfl) [0, 1] rfl rfl (fun rv hp => ?_)
  obtain rfl := hp
  show J 5 [(0, .ref h), (1, .int a)] [.int (bI (decide (0 ≤ a.toInt ∧ a.toInt ≤ (A 21 : Int) - 1)))] [mO h q ab be bl ta tl tk va, (q 0, ia Z 266 (ni A)), (q 5, ia Z 8 (ni Tl)), (q 3, ia Z 3 (ni Rf))] 0 0
  refine jp_if_ne hJ (q := 8) (tgt := 15) dX9_look_5 (by decide) rfl (fun c1 => ?_) (fun c1 => ?_)
  · skip
    have hn_a := nt_cast (x := a) (by omega)
    refine j_eql (lvs' := [(0, .ref h), (1, .int (nI (nt a)))]) (by rw [← nt_eq (x := a) (by omega)]) ?_
    refine j_aload_n hJ (q := 16) dX9_look_15 rfl 0 rfl rfl ?_
    refine j_iload_n hJ (q := 17) dX9_look_16 rfl 1 rfl rfl ?_
    refine j_vR hJ (q := 20) (rest := []) (As := [.int (nI (nt a))]) jl_X9_175 (c_X9_kindsOfHorse Z h q ab be bl ta tl tk va A (nt a) (by omega) hb (by omega) hrn) 0 rfl rfl dX9_look_17 rfl (by decide) (Nat.le_of_ble_eq_true rfl) [0, 1] rfl rfl (fun rv hp => ?_)
    obtain rfl := hp
    show J 20 [(0, .ref h), (1, .int (nI (nt a)))] [.int (nI (kds A (nt a) 78 (A 2) true))] [mO h q ab be bl ta tl tk va, (q 0, ia Z 266 (ni A)), (q 5, ia Z 8 (ni Tl)), (q 3, ia Z 3 (ni Rf))] 0 0
    refine j_istore_n hJ (q := 21) (lvs' := [(2, .int (nI (kds A (nt a) 78 (A 2) true))), (0, .ref h), (1, .int (nI (nt a)))]) dX9_look_20 rfl (by decide) rfl rfl ?_
    obtain ⟨st, e_st⟩ : ∃ z, z = kds A (nt a) 78 (A 2) true := ⟨_, rfl⟩
    have hst : st < 64 := by rw [e_st]; exact kds_lt _ _ _ _ _
    refine j_eql (lvs' := [(2, .int (nI st)), (0, .ref h), (1, .int (nI (nt a)))]) (by rw [e_st]) ?_
    refine j_iconst hJ (q := 22) dX9_look_21 rfl ki_m1 ?_
    refine j_istore_n hJ (q := 23) (lvs' := [(3, .int (zI (-1))), (2, .int (nI st)), (0, .ref h), (1, .int (nI (nt a)))]) dX9_look_22 rfl (by decide) rfl rfl ?_
    refine j_ldc hJ (q := 25) (v' := nI 1000000) dX9_look_23 tm_1012 rfl rfl ?_
    refine j_istore hJ (q := 27) (lvs' := [(4, .int (nI 1000000)), (3, .int (zI (-1))), (2, .int (nI st)), (0, .ref h), (1, .int (nI (nt a)))]) dX9_look_25 (by decide) rfl rfl ?_
    refine j_iconst hJ (q := 28) dX9_look_27 rfl ki_0 ?_
    refine j_istore hJ (q := 30) (lvs' := [(5, .int (nI 0)), (4, .int (nI 1000000)), (3, .int (zI (-1))), (2, .int (nI st)), (0, .ref h), (1, .int (nI (nt a)))]) dX9_look_28 (by decide) rfl rfl ?_
    have L_30 : ∀ (fu_30 : Nat) (B : Nat → Nat) (bs : Int) (fw : Nat) (t : Nat), 8 - t < fu_30 → (t ≤ 8) → (fw ≤ 1000000) → ((bs, fw) = mnI (fLook A (nt a) st) 4 t) → (st = 0 → t = 0) → (∀ j, B j < 100000) → J 30 [(0, .ref h), (1, .int (nI (nt a))), (2, .int (nI st)), (3, .int (zI bs)), (4, .int (nI fw)), (5, .int (nI t))] [] [mO h q ab be bl ta tl tk va, (q 0, ia Z 266 (ni A)), (q 5, ia Z 8 (ni B)), (q 3, ia Z 3 (ni Rf))] 0 0 := by
      intro fu_30
      induction fu_30 with
      | zero => intro B bs fw t hm; exact absurd hm (Nat.not_lt_zero _)
      | succ fu_30 ih_30 =>
        intro B bs fw t hm_30 ht hfw hbf ht0 hBb
        refine j_iload hJ (q := 32) dX9_look_30 5 rfl rfl ?_
        refine j_bipush hJ (q := 34) dX9_look_32 rfl kb_8 ?_
        refine jn_icmp_ge hJ (q := 37) (tgt := 146) dX9_look_34 (by decide) rfl (by omega) (by omega) (fun c2 => ?_) (fun c2 => ?_)
        · skip
          refine j_iload_n hJ (q := 147) dX9_look_146 rfl 3 rfl rfl ?_
          have hP : isS A a := by simp only [rgI, isS, isR, pNote, pMark, pFast, pLever, pHands, pSlip, pEven]; omega
          have hR : mnz (fLook A (nt a) st) 4 8 st = bs := (Nat.eq_zero_or_pos st).elim (fun h0 => by unfold mnz; rw [if_pos h0]; have := ht0 h0; rw [this] at hbf; exact (Prod.mk.inj hbf).1.symm) (fun h0 => by unfold mnz; rw [if_neg (by omega), show 8 = t by omega, ← hbf])
          exact hE.1 _ _ _ _ _ _ _ rfl rfl dX9_look_147 (Nat.le_refl _) (Nat.le_refl _) (⟨B, congrArg (fun z => some (Value.int (zI z))) (by simp only [z_look, if_pos hP]; rw [← e_st]; exact hR.symm), by simp only [z_look, if_pos hP, bmp], hBb⟩)
        · skip
          refine j_iload_n hJ (q := 38) dX9_look_37 rfl 2 rfl rfl ?_
          refine jz_if_le hJ (q := 41) (tgt := 146) dX9_look_38 (by decide) rfl (zI_nat st).symm (by omega) (fun c3 => ?_) (fun c3 => ?_)
          · skip
            refine j_iload_n hJ (q := 147) dX9_look_146 rfl 3 rfl rfl ?_
            have hP : isS A a := by simp only [rgI, isS, isR, pNote, pMark, pFast, pLever, pHands, pSlip, pEven]; omega
            have hR : mnz (fLook A (nt a) st) 4 8 st = bs := (Nat.eq_zero_or_pos st).elim (fun h0 => by unfold mnz; rw [if_pos h0]; have := ht0 h0; rw [this] at hbf; exact (Prod.mk.inj hbf).1.symm) (fun h0 => by unfold mnz; rw [if_neg (by omega), show 8 = t by omega, ← hbf])
            exact hE.1 _ _ _ _ _ _ _ rfl rfl dX9_look_147 (Nat.le_refl _) (Nat.le_refl _) (⟨B, congrArg (fun z => some (Value.int (zI z))) (by simp only [z_look, if_pos hP]; rw [← e_st]; exact hR.symm), by simp only [z_look, if_pos hP, bmp], hBb⟩)
          · skip
            refine j_iconst hJ (q := 42) dX9_look_41 rfl ki_0 ?_
            refine j_istore hJ (q := 44) (lvs' := [(6, .int (nI 0)), (0, .ref h), (1, .int (nI (nt a))), (2, .int (nI st)), (3, .int (zI bs)), (4, .int (nI fw)), (5, .int (nI t))]) dX9_look_42 (by decide) rfl rfl ?_
            have L_44 : ∀ (fu_44 : Nat) (B : Nat → Nat) (bs : Int) (fw : Nat) (v : Nat), 4 - v < fu_44 → (v ≤ 4) → (fw ≤ 1000000) → ((bs, fw) = mnJ (fLook A (nt a) st t) t v (mnI (fLook A (nt a) st) 4 t)) → (∀ j, B j < 100000) → J 44 [(0, .ref h), (1, .int (nI (nt a))), (2, .int (nI st)), (3, .int (zI bs)), (4, .int (nI fw)), (5, .int (nI t)), (6, .int (nI v))] [] [mO h q ab be bl ta tl tk va, (q 0, ia Z 266 (ni A)), (q 5, ia Z 8 (ni B)), (q 3, ia Z 3 (ni Rf))] 0 0 := by
              intro fu_44
              induction fu_44 with
              | zero => intro B bs fw v hm; exact absurd hm (Nat.not_lt_zero _)
              | succ fu_44 ih_44 =>
                intro B bs fw v hm_44 hv hfw hbf hBb2
                refine j_iload hJ (q := 46) dX9_look_44 6 rfl rfl ?_
                refine j_iconst hJ (q := 47) dX9_look_46 rfl ki_4 ?_
                refine jn_icmp_ge hJ (q := 50) (tgt := 140) dX9_look_47 (by decide) rfl (by omega) (by omega) (fun c4 => ?_) (fun c4 => ?_)
                · skip
                  refine j_iinc hJ (q := 143) (lvs' := [(5, .int (nI (t + 1))), (0, .ref h), (1, .int (nI (nt a))), (2, .int (nI st)), (3, .int (zI bs)), (4, .int (nI fw)), (6, .int (nI v))]) dX9_look_140 5 rfl (by rw [show Int32.ofInt 1 = nI 1 from by decide +kernel]; exact nI_add _ _) (by decide) rfl rfl ?_
                  refine j_goto hJ (q := 30) dX9_look_143 (by decide) ?_
                  refine j_locals hJ [1, 2, 3, 4, 5, 0] rfl ?_
                  exact ih_30 B bs fw (t + 1) (by omega) (by omega) (by omega) (by rw [hbf, show v = 4 by omega]; rfl) (fun h0 => by omega) hBb2
                · skip
                  refine j_iconst hJ (q := 51) dX9_look_50 rfl ki_0 ?_
                  refine j_istore hJ (q := 53) (lvs' := [(7, .int (nI 0)), (0, .ref h), (1, .int (nI (nt a))), (2, .int (nI st)), (3, .int (zI bs)), (4, .int (nI fw)), (5, .int (nI t)), (6, .int (nI v))]) dX9_look_51 (by decide) rfl rfl ?_
                  have L_53 : ∀ (fu_53 : Nat) (B : Nat → Nat) (p : Nat), 6 - p < fu_53 → (p ≤ 6) → (∀ j, j < p → B j = hgh j (A (46 + nt a)) t v) → (∀ j, B j < 100000) → J 53 [(0, .ref h), (1, .int (nI (nt a))), (2, .int (nI st)), (3, .int (zI bs)), (4, .int (nI fw)), (5, .int (nI t)), (6, .int (nI v)), (7, .int (nI p))] [] [mO h q ab be bl ta tl tk va, (q 0, ia Z 266 (ni A)), (q 5, ia Z 8 (ni B)), (q 3, ia Z 3 (ni Rf))] 0 0 := by
                    intro fu_53
                    induction fu_53 with
                    | zero => intro B p hm; exact absurd hm (Nat.not_lt_zero _)
                    | succ fu_53 ih_53 =>
                      intro B p hm_53 hp hB hBb3
                      refine j_iload hJ (q := 55) dX9_look_53 7 rfl rfl ?_
                      refine j_bipush hJ (q := 57) dX9_look_55 rfl kb_6 ?_
                      refine jn_icmp_ge hJ (q := 60) (tgt := 91) dX9_look_57 (by decide) rfl (by omega) (by omega) (fun c5 => ?_) (fun c5 => ?_)
                      · skip
                        refine j_aload_n hJ (q := 92) dX9_look_91 rfl 0 rfl rfl ?_
                        refine j_iload_n hJ (q := 93) dX9_look_92 rfl 2 rfl rfl ?_
                        refine j_vR hJ (q := 96) (rest := []) (As := [.int (nI st)]) jl_X9_162 (c_X9_mostAlike Z h q ab be bl ta tl tk va B st (by omega) hBb3) 0 rfl rfl dX9_look_93 rfl (by decide) (Nat.le_of_ble_eq_true rfl) [0, 2] rfl rfl (fun rv hp => ?_)
                        obtain rfl := hp
                        show J 96 [(0, .ref h), (1, .int (nI (nt a))), (2, .int (nI st)), (3, .int (zI bs)), (4, .int (nI fw)), (5, .int (nI t)), (6, .int (nI v)), (7, .int (nI p))] [.int (nI (topN B st 8))] [mO h q ab be bl ta tl tk va, (q 0, ia Z 266 (ni A)), (q 5, ia Z 8 (ni B)), (q 3, ia Z 3 (ni Rf))] 0 0
                        have htop : topN B st 8 = fLook A (nt a) st t v := topN_ext (fun j hj hbit => hB j ((Nat.lt_or_ge j 6).elim (fun h6 => by omega) (fun h6 => absurd hbit (bit_hi hst h6)))) 8 (Nat.le_refl _)
                        have htl8 := topN_le B st 8
                        refine j_istore hJ (q := 98) (lvs' := [(7, .int (nI (topN B st 8))), (0, .ref h), (1, .int (nI (nt a))), (2, .int (nI st)), (3, .int (zI bs)), (4, .int (nI fw)), (5, .int (nI t)), (6, .int (nI v))]) dX9_look_96 (by decide) rfl rfl ?_
                        refine j_iload hJ (q := 100) dX9_look_98 0 rfl rfl ?_
                        refine j_iload hJ (q := 102) dX9_look_100 5 rfl rfl ?_
                        refine jn_icmp_ge hJ (q := 105) (tgt := 116) dX9_look_102 (by decide) rfl (by omega) (by omega) (fun c6 => ?_) (fun c6 => ?_)
                        · skip
                          refine j_iload_n hJ (q := 117) dX9_look_116 rfl 4 rfl rfl ?_
                          refine j_istore_n hJ (q := 118) (lvs' := [(3, .int (zI bs)), (7, .int (nI (topN B st 8))), (0, .ref h), (1, .int (nI (nt a))), (2, .int (nI st)), (4, .int (nI fw)), (5, .int (nI t)), (6, .int (nI v))]) dX9_look_117 rfl (by decide) rfl rfl ?_
                          refine j_iload hJ (q := 120) dX9_look_118 1 rfl rfl ?_
                          refine j_iload hJ (q := 122) dX9_look_120 5 rfl rfl ?_
                          refine jn_icmp_ge hJ (q := 125) (tgt := 130) dX9_look_122 (by decide) rfl (by omega) (by omega) (fun c7 => ?_) (fun c7 => ?_)
                          · skip
                            refine j_iload hJ (q := 132) dX9_look_130 5 rfl rfl ?_
                            refine j_istore hJ (q := 134) (lvs' := [(4, .int (nI fw)), (3, .int (zI bs)), (7, .int (nI (topN B st 8))), (0, .ref h), (1, .int (nI (nt a))), (2, .int (nI st)), (5, .int (nI t)), (6, .int (nI v))]) dX9_look_132 (by decide) rfl rfl ?_
                            refine j_iinc hJ (q := 137) (lvs' := [(6, .int (nI (v + 1))), (4, .int (nI fw)), (3, .int (zI bs)), (7, .int (nI (topN B st 8))), (0, .ref h), (1, .int (nI (nt a))), (2, .int (nI st)), (5, .int (nI t))]) dX9_look_134 7 rfl (by rw [show Int32.ofInt 1 = nI 1 from by decide +kernel]; exact nI_add _ _) (by decide) rfl rfl ?_
                            refine j_goto hJ (q := 44) dX9_look_137 (by decide) ?_
                            refine j_locals hJ [4, 5, 6, 2, 1, 7, 0] rfl ?_
                            exact ih_44 B bs fw (v + 1) (by omega) (by omega) (by omega) (mnJ_no hbf (by rw [← htop]; omega)) hBb3
                          · skip
                            refine j_iload hJ (q := 127) dX9_look_125 1 rfl rfl ?_
                            refine j_goto hJ (q := 132) dX9_look_127 (by decide) ?_
                            refine j_istore hJ (q := 134) (lvs' := [(4, .int (nI (topN B st 8))), (3, .int (zI bs)), (7, .int (nI (topN B st 8))), (0, .ref h), (1, .int (nI (nt a))), (2, .int (nI st)), (5, .int (nI t)), (6, .int (nI v))]) dX9_look_132 (by decide) rfl rfl ?_
                            refine j_iinc hJ (q := 137) (lvs' := [(6, .int (nI (v + 1))), (4, .int (nI (topN B st 8))), (3, .int (zI bs)), (7, .int (nI (topN B st 8))), (0, .ref h), (1, .int (nI (nt a))), (2, .int (nI st)), (5, .int (nI t))]) dX9_look_134 7 rfl (by rw [show Int32.ofInt 1 = nI 1 from by decide +kernel]; exact nI_add _ _) (by decide) rfl rfl ?_
                            refine j_goto hJ (q := 44) dX9_look_137 (by decide) ?_
                            refine j_locals hJ [4, 5, 6, 2, 1, 7, 0] rfl ?_
                            exact ih_44 B bs (topN B st 8) (v + 1) (by omega) (by omega) (by omega) (by exfalso; omega) hBb3
                        · skip
                          refine j_bipush hJ (q := 107) dX9_look_105 rfl kb_10 ?_
                          refine j_iload hJ (q := 109) dX9_look_107 6 rfl rfl ?_
                          refine j_imul hJ (q := 110) dX9_look_109 rfl (pk_mul _ _) ?_
                          refine j_iload hJ (q := 112) dX9_look_110 7 rfl rfl ?_
                          refine j_iadd hJ (q := 113) dX9_look_112 rfl (nI_add _ _) ?_
                          refine j_goto hJ (q := 117) dX9_look_113 (by decide) ?_
                          refine j_istore_n hJ (q := 118) (lvs' := [(3, .int (nI (10 * t + v))), (7, .int (nI (topN B st 8))), (0, .ref h), (1, .int (nI (nt a))), (2, .int (nI st)), (4, .int (nI fw)), (5, .int (nI t)), (6, .int (nI v))]) dX9_look_117 rfl (by decide) rfl rfl ?_
                          refine j_iload hJ (q := 120) dX9_look_118 1 rfl rfl ?_
                          refine j_iload hJ (q := 122) dX9_look_120 5 rfl rfl ?_
                          refine jn_icmp_ge hJ (q := 125) (tgt := 130) dX9_look_122 (by decide) rfl (by omega) (by omega) (fun c8 => ?_) (fun c8 => ?_)
                          · skip
                            refine j_iload hJ (q := 132) dX9_look_130 5 rfl rfl ?_
                            refine j_istore hJ (q := 134) (lvs' := [(4, .int (nI fw)), (3, .int (nI (10 * t + v))), (7, .int (nI (topN B st 8))), (0, .ref h), (1, .int (nI (nt a))), (2, .int (nI st)), (5, .int (nI t)), (6, .int (nI v))]) dX9_look_132 (by decide) rfl rfl ?_
                            refine j_iinc hJ (q := 137) (lvs' := [(6, .int (nI (v + 1))), (4, .int (nI fw)), (3, .int (nI (10 * t + v))), (7, .int (nI (topN B st 8))), (0, .ref h), (1, .int (nI (nt a))), (2, .int (nI st)), (5, .int (nI t))]) dX9_look_134 7 rfl (by rw [show Int32.ofInt 1 = nI 1 from by decide +kernel]; exact nI_add _ _) (by decide) rfl rfl ?_
                            refine j_goto hJ (q := 44) dX9_look_137 (by decide) ?_
                            refine j_locals hJ [4, 5, 6, 2, 1, 7, 0] rfl ?_
                            refine j_eql (lvs' := [(0, .ref h), (1, .int (nI (nt a))), (2, .int (nI st)), (3, .int (zI ((10 * t + v : Nat) : Int))), (4, .int (nI fw)), (5, .int (nI t)), (6, .int (nI (v + 1)))]) (by simp only [zI_nat] <;> rfl) ?_
                            exact ih_44 B ((10 * t + v : Nat) : Int) fw (v + 1) (by omega) (by omega) (by omega) (by exfalso; omega) hBb3
                          · skip
                            refine j_iload hJ (q := 127) dX9_look_125 1 rfl rfl ?_
                            refine j_goto hJ (q := 132) dX9_look_127 (by decide) ?_
                            refine j_istore hJ (q := 134) (lvs' := [(4, .int (nI (topN B st 8))), (3, .int (nI (10 * t + v))), (7, .int (nI (topN B st 8))), (0, .ref h), (1, .int (nI (nt a))), (2, .int (nI st)), (5, .int (nI t)), (6, .int (nI v))]) dX9_look_132 (by decide) rfl rfl ?_
                            refine j_iinc hJ (q := 137) (lvs' := [(6, .int (nI (v + 1))), (4, .int (nI (topN B st 8))), (3, .int (nI (10 * t + v))), (7, .int (nI (topN B st 8))), (0, .ref h), (1, .int (nI (nt a))), (2, .int (nI st)), (5, .int (nI t))]) dX9_look_134 7 rfl (by rw [show Int32.ofInt 1 = nI 1 from by decide +kernel]; exact nI_add _ _) (by decide) rfl rfl ?_
                            refine j_goto hJ (q := 44) dX9_look_137 (by decide) ?_
                            refine j_locals hJ [4, 5, 6, 2, 1, 7, 0] rfl ?_
                            refine j_eql (lvs' := [(0, .ref h), (1, .int (nI (nt a))), (2, .int (nI st)), (3, .int (zI ((10 * t + v : Nat) : Int))), (4, .int (nI (topN B st 8))), (5, .int (nI t)), (6, .int (nI (v + 1)))]) (by simp only [zI_nat] <;> rfl) ?_
                            exact ih_44 B ((10 * t + v : Nat) : Int) (topN B st 8) (v + 1) (by omega) (by omega) (by omega) (by rw [htop]; exact mnJ_go hbf (by rw [← htop]; omega)) hBb3
                      · skip
                        refine j_aload_n hJ (q := 61) dX9_look_60 rfl 0 rfl rfl ?_
                        refine j_get hJ (q := 64) jf_X9_30 dX9_look_61 0 rfl rfl rfl ?_
                        refine j_iload hJ (q := 66) dX9_look_64 7 rfl rfl ?_
                        refine j_iload hJ (q := 68) dX9_look_66 7 rfl rfl ?_
                        refine j_aload_n hJ (q := 69) dX9_look_68 rfl 0 rfl rfl ?_
                        refine j_get hJ (q := 72) jf_X9_7 dX9_look_69 0 rfl rfl rfl ?_
                        refine j_bipush hJ (q := 74) dX9_look_72 rfl kb_46 ?_
                        refine j_iload_n hJ (q := 75) dX9_look_74 rfl 1 rfl rfl ?_
                        refine j_iadd hJ (q := 76) dX9_look_75 rfl (nI_add _ _) ?_
                        refine j_ialdN hJ (q := 77) (z := nI (A (46 + (nt a)))) dX9_look_76 1 rfl (by omega) (by decide) rfl rfl ?_
                        have b9 := hb (46 + (nt a))
                        refine j_iload hJ (q := 79) dX9_look_77 5 rfl rfl ?_
                        refine j_iload hJ (q := 81) dX9_look_79 6 rfl rfl ?_
                        refine j_sR hJ (q := 84) (rest := [.int (nI p), .ref (q 5)]) (As := [.int (nI p), .int (nI (A (46 + (nt a)))), .int (nI t), .int (nI v)]) jl_X9_103 (c_X9_highAs Z p (A (46 + (nt a))) t v (by omega) (by omega) (by omega) (by omega)) dX9_look_81 rfl (by decide) (Nat.le_of_ble_eq_true rfl) [] rfl rfl (fun rv hp => ?_)
                        obtain rfl := hp
                        show J 84 [(0, .ref h), (1, .int (nI (nt a))), (2, .int (nI st)), (3, .int (zI bs)), (4, .int (nI fw)), (5, .int (nI t)), (6, .int (nI v)), (7, .int (nI p))] [.int (nI (hgh p (A (46 + (nt a))) t v)), .int (nI p), .ref (q 5)] [mO h q ab be bl ta tl tk va, (q 0, ia Z 266 (ni A)), (q 5, ia Z 8 (ni B)), (q 3, ia Z 3 (ni Rf))] 0 0
                        have hgl : hgh p (A (46 + nt a)) t v ≤ 10 := hgh_le (by omega)
                        refine j_iastN hJ (q := 85) (ws' := [mO h q ab be bl ta tl tk va, (q 0, ia Z 266 (ni A)), (q 5, ia Z 8 (ni (va_up B p (hgh p (A (46 + (nt a))) t v)))), (q 3, ia Z 3 (ni Rf))]) dX9_look_84 2 rfl (by omega) (by decide) (ni_up _ _ _) rfl rfl ?_
                        refine j_iinc hJ (q := 88) (lvs' := [(7, .int (nI (p + 1))), (0, .ref h), (1, .int (nI (nt a))), (2, .int (nI st)), (3, .int (zI bs)), (4, .int (nI fw)), (5, .int (nI t)), (6, .int (nI v))]) dX9_look_85 7 rfl (by rw [show Int32.ofInt 1 = nI 1 from by decide +kernel]; exact nI_add _ _) (by decide) rfl rfl ?_
                        refine j_goto hJ (q := 53) dX9_look_88 (by decide) ?_
                        refine j_locals hJ [1, 2, 3, 4, 5, 6, 7, 0] rfl ?_
                        exact ih_53 (va_up B p (hgh p (A (46 + (nt a))) t v)) (p + 1) (by omega) (by omega) (fun j hj => by simp only [va_up]; by_cases h : j = p <;> simp only [h, if_true, if_false]; exact hB j (by omega)) (fun j => by simp only [va_up]; have := hBb3 j; split <;> omega)
                  refine j_locals hJ [1, 2, 3, 4, 5, 6, 7, 0] rfl ?_
                  exact L_53 ((6 - 0) + 1) B 0 (Nat.lt_succ_self _) (by omega) (fun j hj => absurd hj (Nat.not_lt_zero _)) hBb2
            refine j_locals hJ [1, 2, 3, 4, 5, 6, 0] rfl ?_
            exact L_44 ((4 - 0) + 1) B bs fw 0 (Nat.lt_succ_self _) (by omega) (by omega) (by rw [← hbf]; rfl) hBb
    refine j_locals hJ [4, 5, 3, 2, 1, 0] rfl ?_
    exact L_30 ((8 - 0) + 1) Tl (-1) 1000000 0 (Nat.lt_succ_self _) (by omega) (by omega) rfl (fun _ => rfl) htl
  · skip
    refine j_aload_n hJ (q := 9) dX9_look_8 rfl 0 rfl rfl ?_
    refine j_bipush hJ (q := 11) dX9_look_9 rfl kb_m2 ?_
    refine j_vW hJ (q := 14) (rest := []) (As := [.int (zI (-2))]) (wr := [(q 0, ia Z 266 (ni A)), (q 5, ia Z 8 (ni Tl))]) jl_X9_73 (c_X9_bad Z h q ab be bl ta tl tk va Rf (-2) ) 0 rfl rfl dX9_look_11 rfl (by decide) (Nat.le_of_ble_eq_true rfl) [0, 3] [1, 2] rfl rfl rfl rfl (by decide) rfl (fun rv wv hp => ?_)
    obtain ⟨rfl, rfl⟩ := hp
    refine j_world hJ (ws' := [mO h q ab be bl ta tl tk va, (q 0, ia Z 266 (ni A)), (q 5, ia Z 8 (ni Tl)), (q 3, ia Z 3 (ni (va_up Rf 0 (Rf 0 + 1))))]) [2, 0, 1, 3] rfl rfl ?_
    show J 14 [(0, .ref h), (1, .int a)] [.int (zI (-2))] [mO h q ab be bl ta tl tk va, (q 0, ia Z 266 (ni A)), (q 5, ia Z 8 (ni Tl)), (q 3, ia Z 3 (ni (va_up Rf 0 (Rf 0 + 1))))] 0 0
    have hP : ¬ (isS A a) := by simp only [rgI, isS, isR, pNote, pMark, pFast, pLever, pHands, pSlip, pEven]; omega
    exact hE.1 _ _ _ _ _ _ _ rfl rfl dX9_look_14 (Nat.le_refl _) (Nat.le_refl _) (⟨Tl, congrArg (fun z => some (Value.int (zI z))) (by simp only [z_look, if_neg hP, bmp]), by simp only [z_look, if_neg hP, bmp], htl⟩)

set_option maxHeartbeats 4000000 in
set_option maxRecDepth 100000 in
theorem c_X9_ask (Z : jZ) (h : Nat) (q : Nat → Nat) (ab : Int) (be : Int) (bl : Nat) (ta : Nat) (tl : Nat) (tk : Nat) (va : Nat) (A : Nat → Nat) (Tl : Nat → Nat) (Rf : Nat → Nat) (a : Int32) (hg : wg A) (htl : ∀ j, Tl j < 100000) : CT Z yX9_ask cX9_ask 8 ((some FieldType.int)) 5 0 0 [.ref h, .int a] [mO h q ab be bl ta tl tk va, (q 0, ia Z 266 (ni A)), (q 5, ia Z 8 (ni Tl)), (q 3, ia Z 3 (ni Rf))] (fun rr ww => ∃ Tx : Nat → Nat, rr = some (.int (zI (z_ask A a))) ∧ ww = [mO h q ab be bl ta tl tk va, (q 0, ia Z 266 (ni A)), (q 5, ia Z 8 (ni Tx)), (q 3, ia Z 3 (ni (if isR A a then Rf else bmp Rf 0)))] ∧ ∀ j, Tx j < 100000) := by
  refine CT.of RX9 false rfl (fun h => by cases h) (by decide +kernel) (Nat.le_of_ble_eq_true rfl) ?_
  intro J hJ hE
  show J 0 [(0, .ref h), (1, .int a)] [] [mO h q ab be bl ta tl tk va, (q 0, ia Z 266 (ni A)), (q 5, ia Z 8 (ni Tl)), (q 3, ia Z 3 (ni Rf))] 0 0
  obtain ⟨hw, ⟨g1, g2, g3, g4, g8⟩, hrs, hrn, hrm, hpst⟩ := id hg
  obtain ⟨⟨w1, w2, w3, w4, w5, w6⟩, wb, wr, wh, wd⟩ := id hw
  have hb := wb
  have hr_a := zI_rng a
  refine j_aload_n hJ (q := 1) dX9_ask_0 rfl 0 rfl rfl ?_
  refine j_iload_n hJ (q := 2) dX9_ask_1 rfl 1 rfl rfl ?_
  refine j_vR hJ (q := 5) (rest := []) (As := [.int a]) jl_X9_129 (c_X9_isRider Z h q ab be bl ta tl tk va A a (by omega)) 0 rfl rfl dX9_ask_2 rfl (by decide) (Nat.le_of_ble_eq_true rfl) [0, 1] rfl rfl (fun rv hp => ?_)
  obtain rfl := hp
  show J 5 [(0, .ref h), (1, .int a)] [.int (bI (decide (0 ≤ a.toInt ∧ a.toInt ≤ (A 0 : Int) - 1)))] [mO h q ab be bl ta tl tk va, (q 0, ia Z 266 (ni A)), (q 5, ia Z 8 (ni Tl)), (q 3, ia Z 3 (ni Rf))] 0 0
  refine jp_if_ne hJ (q := 8) (tgt := 15) dX9_ask_5 (by decide) rfl (fun c1 => ?_) (fun c1 => ?_)
  · skip
    have hn_a := nt_cast (x := a) (by omega)
    refine j_eql (lvs' := [(0, .ref h), (1, .int (nI (nt a)))]) (by rw [← nt_eq (x := a) (by omega)]) ?_
    refine j_aload_n hJ (q := 16) dX9_ask_15 rfl 0 rfl rfl ?_
    refine j_iload_n hJ (q := 17) dX9_ask_16 rfl 1 rfl rfl ?_
    refine j_vR hJ (q := 20) (rest := []) (As := [.int (nI (nt a))]) jl_X9_178 (c_X9_kindsOfRider Z h q ab be bl ta tl tk va A (nt a) (by omega) hb (by omega) hrm) 0 rfl rfl dX9_ask_17 rfl (by decide) (Nat.le_of_ble_eq_true rfl) [0, 1] rfl rfl (fun rv hp => ?_)
    obtain rfl := hp
    show J 20 [(0, .ref h), (1, .int (nI (nt a)))] [.int (nI (kds A (nt a) 108 (A 3) false))] [mO h q ab be bl ta tl tk va, (q 0, ia Z 266 (ni A)), (q 5, ia Z 8 (ni Tl)), (q 3, ia Z 3 (ni Rf))] 0 0
    refine j_istore_n hJ (q := 21) (lvs' := [(2, .int (nI (kds A (nt a) 108 (A 3) false))), (0, .ref h), (1, .int (nI (nt a)))]) dX9_ask_20 rfl (by decide) rfl rfl ?_
    obtain ⟨st, e_st⟩ : ∃ z, z = kds A (nt a) 108 (A 3) false := ⟨_, rfl⟩
    have hst : st < 64 := by rw [e_st]; exact kds_lt _ _ _ _ _
    refine j_eql (lvs' := [(2, .int (nI st)), (0, .ref h), (1, .int (nI (nt a)))]) (by rw [e_st]) ?_
    refine j_iconst hJ (q := 22) dX9_ask_21 rfl ki_m1 ?_
    refine j_istore_n hJ (q := 23) (lvs' := [(3, .int (zI (-1))), (2, .int (nI st)), (0, .ref h), (1, .int (nI (nt a)))]) dX9_ask_22 rfl (by decide) rfl rfl ?_
    refine j_ldc hJ (q := 25) (v' := nI 1000000) dX9_ask_23 tm_1012 rfl rfl ?_
    refine j_istore hJ (q := 27) (lvs' := [(4, .int (nI 1000000)), (3, .int (zI (-1))), (2, .int (nI st)), (0, .ref h), (1, .int (nI (nt a)))]) dX9_ask_25 (by decide) rfl rfl ?_
    refine j_iconst hJ (q := 28) dX9_ask_27 rfl ki_0 ?_
    refine j_istore hJ (q := 30) (lvs' := [(5, .int (nI 0)), (4, .int (nI 1000000)), (3, .int (zI (-1))), (2, .int (nI st)), (0, .ref h), (1, .int (nI (nt a)))]) dX9_ask_28 (by decide) rfl rfl ?_
    have L_30 : ∀ (fu_30 : Nat) (B : Nat → Nat) (bs : Int) (fw : Nat) (t : Nat), 11 - t < fu_30 → (t ≤ 11) → (fw ≤ 1000000) → ((bs, fw) = mnI (fAsk A (nt a) st) 10 t) → (st = 0 → t = 0) → (∀ j, B j < 100000) → J 30 [(0, .ref h), (1, .int (nI (nt a))), (2, .int (nI st)), (3, .int (zI bs)), (4, .int (nI fw)), (5, .int (nI t))] [] [mO h q ab be bl ta tl tk va, (q 0, ia Z 266 (ni A)), (q 5, ia Z 8 (ni B)), (q 3, ia Z 3 (ni Rf))] 0 0 := by
      intro fu_30
      induction fu_30 with
      | zero => intro B bs fw t hm; exact absurd hm (Nat.not_lt_zero _)
      | succ fu_30 ih_30 =>
        intro B bs fw t hm_30 ht hfw hbf ht0 hBb
        refine j_iload hJ (q := 32) dX9_ask_30 5 rfl rfl ?_
        refine j_bipush hJ (q := 34) dX9_ask_32 rfl kb_10 ?_
        refine jn_icmp_gt hJ (q := 37) (tgt := 147) dX9_ask_34 (by decide) rfl (by omega) (by omega) (fun c2 => ?_) (fun c2 => ?_)
        · skip
          refine j_iload_n hJ (q := 148) dX9_ask_147 rfl 3 rfl rfl ?_
          have hP : isR A a := by simp only [rgI, isS, isR, pNote, pMark, pFast, pLever, pHands, pSlip, pEven]; omega
          have hR : mnz (fAsk A (nt a) st) 10 11 st = bs := (Nat.eq_zero_or_pos st).elim (fun h0 => by unfold mnz; rw [if_pos h0]; have := ht0 h0; rw [this] at hbf; exact (Prod.mk.inj hbf).1.symm) (fun h0 => by unfold mnz; rw [if_neg (by omega), show 11 = t by omega, ← hbf])
          exact hE.1 _ _ _ _ _ _ _ rfl rfl dX9_ask_148 (Nat.le_refl _) (Nat.le_refl _) (⟨B, congrArg (fun z => some (Value.int (zI z))) (by simp only [z_ask, if_pos hP]; rw [← e_st]; exact hR.symm), by simp only [z_ask, if_pos hP, bmp], hBb⟩)
        · skip
          have hk5 := (wr (nt a) (by omega)).2.2.1
          refine j_iload_n hJ (q := 38) dX9_ask_37 rfl 2 rfl rfl ?_
          refine jz_if_le hJ (q := 41) (tgt := 147) dX9_ask_38 (by decide) rfl (zI_nat st).symm (by omega) (fun c3 => ?_) (fun c3 => ?_)
          · skip
            refine j_iload_n hJ (q := 148) dX9_ask_147 rfl 3 rfl rfl ?_
            have hP : isR A a := by simp only [rgI, isS, isR, pNote, pMark, pFast, pLever, pHands, pSlip, pEven]; omega
            have hR : mnz (fAsk A (nt a) st) 10 11 st = bs := (Nat.eq_zero_or_pos st).elim (fun h0 => by unfold mnz; rw [if_pos h0]; have := ht0 h0; rw [this] at hbf; exact (Prod.mk.inj hbf).1.symm) (fun h0 => by unfold mnz; rw [if_neg (by omega), show 11 = t by omega, ← hbf])
            exact hE.1 _ _ _ _ _ _ _ rfl rfl dX9_ask_148 (Nat.le_refl _) (Nat.le_refl _) (⟨B, congrArg (fun z => some (Value.int (zI z))) (by simp only [z_ask, if_pos hP]; rw [← e_st]; exact hR.symm), by simp only [z_ask, if_pos hP, bmp], hBb⟩)
          · skip
            refine j_iconst hJ (q := 42) dX9_ask_41 rfl ki_0 ?_
            refine j_istore hJ (q := 44) (lvs' := [(6, .int (nI 0)), (0, .ref h), (1, .int (nI (nt a))), (2, .int (nI st)), (3, .int (zI bs)), (4, .int (nI fw)), (5, .int (nI t))]) dX9_ask_42 (by decide) rfl rfl ?_
            have L_44 : ∀ (fu_44 : Nat) (B : Nat → Nat) (bs : Int) (fw : Nat) (v : Nat), 10 - v < fu_44 → (v ≤ 10) → (fw ≤ 1000000) → ((bs, fw) = mnJ (fAsk A (nt a) st t) t v (mnI (fAsk A (nt a) st) 10 t)) → (∀ j, B j < 100000) → J 44 [(0, .ref h), (1, .int (nI (nt a))), (2, .int (nI st)), (3, .int (zI bs)), (4, .int (nI fw)), (5, .int (nI t)), (6, .int (nI v))] [] [mO h q ab be bl ta tl tk va, (q 0, ia Z 266 (ni A)), (q 5, ia Z 8 (ni B)), (q 3, ia Z 3 (ni Rf))] 0 0 := by
              intro fu_44
              induction fu_44 with
              | zero => intro B bs fw v hm; exact absurd hm (Nat.not_lt_zero _)
              | succ fu_44 ih_44 =>
                intro B bs fw v hm_44 hv hfw hbf hBb2
                refine j_iload hJ (q := 46) dX9_ask_44 6 rfl rfl ?_
                refine j_bipush hJ (q := 48) dX9_ask_46 rfl kb_10 ?_
                refine jn_icmp_ge hJ (q := 51) (tgt := 141) dX9_ask_48 (by decide) rfl (by omega) (by omega) (fun c4 => ?_) (fun c4 => ?_)
                · skip
                  refine j_iinc hJ (q := 144) (lvs' := [(5, .int (nI (t + 1))), (0, .ref h), (1, .int (nI (nt a))), (2, .int (nI st)), (3, .int (zI bs)), (4, .int (nI fw)), (6, .int (nI v))]) dX9_ask_141 5 rfl (by rw [show Int32.ofInt 1 = nI 1 from by decide +kernel]; exact nI_add _ _) (by decide) rfl rfl ?_
                  refine j_goto hJ (q := 30) dX9_ask_144 (by decide) ?_
                  refine j_locals hJ [1, 2, 3, 4, 5, 0] rfl ?_
                  exact ih_30 B bs fw (t + 1) (by omega) (by omega) (by omega) (by rw [hbf, show v = 10 by omega]; rfl) (fun h0 => by omega) hBb2
                · skip
                  refine j_iconst hJ (q := 52) dX9_ask_51 rfl ki_0 ?_
                  refine j_istore hJ (q := 54) (lvs' := [(7, .int (nI 0)), (0, .ref h), (1, .int (nI (nt a))), (2, .int (nI st)), (3, .int (zI bs)), (4, .int (nI fw)), (5, .int (nI t)), (6, .int (nI v))]) dX9_ask_52 (by decide) rfl rfl ?_
                  have L_54 : ∀ (fu_54 : Nat) (B : Nat → Nat) (p : Nat), 6 - p < fu_54 → (p ≤ 6) → (∀ j, j < p → B j = rch j (A (28 + nt a)) t v) → (∀ j, B j < 100000) → J 54 [(0, .ref h), (1, .int (nI (nt a))), (2, .int (nI st)), (3, .int (zI bs)), (4, .int (nI fw)), (5, .int (nI t)), (6, .int (nI v)), (7, .int (nI p))] [] [mO h q ab be bl ta tl tk va, (q 0, ia Z 266 (ni A)), (q 5, ia Z 8 (ni B)), (q 3, ia Z 3 (ni Rf))] 0 0 := by
                    intro fu_54
                    induction fu_54 with
                    | zero => intro B p hm; exact absurd hm (Nat.not_lt_zero _)
                    | succ fu_54 ih_54 =>
                      intro B p hm_54 hp hB hBb3
                      refine j_iload hJ (q := 56) dX9_ask_54 7 rfl rfl ?_
                      refine j_bipush hJ (q := 58) dX9_ask_56 rfl kb_6 ?_
                      refine jn_icmp_ge hJ (q := 61) (tgt := 92) dX9_ask_58 (by decide) rfl (by omega) (by omega) (fun c5 => ?_) (fun c5 => ?_)
                      · skip
                        refine j_aload_n hJ (q := 93) dX9_ask_92 rfl 0 rfl rfl ?_
                        refine j_iload_n hJ (q := 94) dX9_ask_93 rfl 2 rfl rfl ?_
                        refine j_vR hJ (q := 97) (rest := []) (As := [.int (nI st)]) jl_X9_162 (c_X9_mostAlike Z h q ab be bl ta tl tk va B st (by omega) hBb3) 0 rfl rfl dX9_ask_94 rfl (by decide) (Nat.le_of_ble_eq_true rfl) [0, 2] rfl rfl (fun rv hp => ?_)
                        obtain rfl := hp
                        show J 97 [(0, .ref h), (1, .int (nI (nt a))), (2, .int (nI st)), (3, .int (zI bs)), (4, .int (nI fw)), (5, .int (nI t)), (6, .int (nI v)), (7, .int (nI p))] [.int (nI (topN B st 8))] [mO h q ab be bl ta tl tk va, (q 0, ia Z 266 (ni A)), (q 5, ia Z 8 (ni B)), (q 3, ia Z 3 (ni Rf))] 0 0
                        have htop : topN B st 8 = fAsk A (nt a) st t v := topN_ext (fun j hj hbit => hB j ((Nat.lt_or_ge j 6).elim (fun h6 => by omega) (fun h6 => absurd hbit (bit_hi hst h6)))) 8 (Nat.le_refl _)
                        have htl8 := topN_le B st 8
                        refine j_istore hJ (q := 99) (lvs' := [(7, .int (nI (topN B st 8))), (0, .ref h), (1, .int (nI (nt a))), (2, .int (nI st)), (3, .int (zI bs)), (4, .int (nI fw)), (5, .int (nI t)), (6, .int (nI v))]) dX9_ask_97 (by decide) rfl rfl ?_
                        refine j_iload hJ (q := 101) dX9_ask_99 0 rfl rfl ?_
                        refine j_iload hJ (q := 103) dX9_ask_101 5 rfl rfl ?_
                        refine jn_icmp_ge hJ (q := 106) (tgt := 117) dX9_ask_103 (by decide) rfl (by omega) (by omega) (fun c6 => ?_) (fun c6 => ?_)
                        · skip
                          refine j_iload_n hJ (q := 118) dX9_ask_117 rfl 4 rfl rfl ?_
                          refine j_istore_n hJ (q := 119) (lvs' := [(3, .int (zI bs)), (7, .int (nI (topN B st 8))), (0, .ref h), (1, .int (nI (nt a))), (2, .int (nI st)), (4, .int (nI fw)), (5, .int (nI t)), (6, .int (nI v))]) dX9_ask_118 rfl (by decide) rfl rfl ?_
                          refine j_iload hJ (q := 121) dX9_ask_119 1 rfl rfl ?_
                          refine j_iload hJ (q := 123) dX9_ask_121 5 rfl rfl ?_
                          refine jn_icmp_ge hJ (q := 126) (tgt := 131) dX9_ask_123 (by decide) rfl (by omega) (by omega) (fun c7 => ?_) (fun c7 => ?_)
                          · skip
                            refine j_iload hJ (q := 133) dX9_ask_131 5 rfl rfl ?_
                            refine j_istore hJ (q := 135) (lvs' := [(4, .int (nI fw)), (3, .int (zI bs)), (7, .int (nI (topN B st 8))), (0, .ref h), (1, .int (nI (nt a))), (2, .int (nI st)), (5, .int (nI t)), (6, .int (nI v))]) dX9_ask_133 (by decide) rfl rfl ?_
                            refine j_iinc hJ (q := 138) (lvs' := [(6, .int (nI (v + 1))), (4, .int (nI fw)), (3, .int (zI bs)), (7, .int (nI (topN B st 8))), (0, .ref h), (1, .int (nI (nt a))), (2, .int (nI st)), (5, .int (nI t))]) dX9_ask_135 7 rfl (by rw [show Int32.ofInt 1 = nI 1 from by decide +kernel]; exact nI_add _ _) (by decide) rfl rfl ?_
                            refine j_goto hJ (q := 44) dX9_ask_138 (by decide) ?_
                            refine j_locals hJ [4, 5, 6, 2, 1, 7, 0] rfl ?_
                            exact ih_44 B bs fw (v + 1) (by omega) (by omega) (by omega) (mnJ_no hbf (by rw [← htop]; omega)) hBb3
                          · skip
                            refine j_iload hJ (q := 128) dX9_ask_126 1 rfl rfl ?_
                            refine j_goto hJ (q := 133) dX9_ask_128 (by decide) ?_
                            refine j_istore hJ (q := 135) (lvs' := [(4, .int (nI (topN B st 8))), (3, .int (zI bs)), (7, .int (nI (topN B st 8))), (0, .ref h), (1, .int (nI (nt a))), (2, .int (nI st)), (5, .int (nI t)), (6, .int (nI v))]) dX9_ask_133 (by decide) rfl rfl ?_
                            refine j_iinc hJ (q := 138) (lvs' := [(6, .int (nI (v + 1))), (4, .int (nI (topN B st 8))), (3, .int (zI bs)), (7, .int (nI (topN B st 8))), (0, .ref h), (1, .int (nI (nt a))), (2, .int (nI st)), (5, .int (nI t))]) dX9_ask_135 7 rfl (by rw [show Int32.ofInt 1 = nI 1 from by decide +kernel]; exact nI_add _ _) (by decide) rfl rfl ?_
                            refine j_goto hJ (q := 44) dX9_ask_138 (by decide) ?_
                            refine j_locals hJ [4, 5, 6, 2, 1, 7, 0] rfl ?_
                            exact ih_44 B bs (topN B st 8) (v + 1) (by omega) (by omega) (by omega) (by exfalso; omega) hBb3
                        · skip
                          refine j_bipush hJ (q := 108) dX9_ask_106 rfl kb_10 ?_
                          refine j_iload hJ (q := 110) dX9_ask_108 6 rfl rfl ?_
                          refine j_imul hJ (q := 111) dX9_ask_110 rfl (pk_mul _ _) ?_
                          refine j_iload hJ (q := 113) dX9_ask_111 7 rfl rfl ?_
                          refine j_iadd hJ (q := 114) dX9_ask_113 rfl (nI_add _ _) ?_
                          refine j_goto hJ (q := 118) dX9_ask_114 (by decide) ?_
                          refine j_istore_n hJ (q := 119) (lvs' := [(3, .int (nI (10 * t + v))), (7, .int (nI (topN B st 8))), (0, .ref h), (1, .int (nI (nt a))), (2, .int (nI st)), (4, .int (nI fw)), (5, .int (nI t)), (6, .int (nI v))]) dX9_ask_118 rfl (by decide) rfl rfl ?_
                          refine j_iload hJ (q := 121) dX9_ask_119 1 rfl rfl ?_
                          refine j_iload hJ (q := 123) dX9_ask_121 5 rfl rfl ?_
                          refine jn_icmp_ge hJ (q := 126) (tgt := 131) dX9_ask_123 (by decide) rfl (by omega) (by omega) (fun c8 => ?_) (fun c8 => ?_)
                          · skip
                            refine j_iload hJ (q := 133) dX9_ask_131 5 rfl rfl ?_
                            refine j_istore hJ (q := 135) (lvs' := [(4, .int (nI fw)), (3, .int (nI (10 * t + v))), (7, .int (nI (topN B st 8))), (0, .ref h), (1, .int (nI (nt a))), (2, .int (nI st)), (5, .int (nI t)), (6, .int (nI v))]) dX9_ask_133 (by decide) rfl rfl ?_
                            refine j_iinc hJ (q := 138) (lvs' := [(6, .int (nI (v + 1))), (4, .int (nI fw)), (3, .int (nI (10 * t + v))), (7, .int (nI (topN B st 8))), (0, .ref h), (1, .int (nI (nt a))), (2, .int (nI st)), (5, .int (nI t))]) dX9_ask_135 7 rfl (by rw [show Int32.ofInt 1 = nI 1 from by decide +kernel]; exact nI_add _ _) (by decide) rfl rfl ?_
                            refine j_goto hJ (q := 44) dX9_ask_138 (by decide) ?_
                            refine j_locals hJ [4, 5, 6, 2, 1, 7, 0] rfl ?_
                            refine j_eql (lvs' := [(0, .ref h), (1, .int (nI (nt a))), (2, .int (nI st)), (3, .int (zI ((10 * t + v : Nat) : Int))), (4, .int (nI fw)), (5, .int (nI t)), (6, .int (nI (v + 1)))]) (by simp only [zI_nat] <;> rfl) ?_
                            exact ih_44 B ((10 * t + v : Nat) : Int) fw (v + 1) (by omega) (by omega) (by omega) (by exfalso; omega) hBb3
                          · skip
                            refine j_iload hJ (q := 128) dX9_ask_126 1 rfl rfl ?_
                            refine j_goto hJ (q := 133) dX9_ask_128 (by decide) ?_
                            refine j_istore hJ (q := 135) (lvs' := [(4, .int (nI (topN B st 8))), (3, .int (nI (10 * t + v))), (7, .int (nI (topN B st 8))), (0, .ref h), (1, .int (nI (nt a))), (2, .int (nI st)), (5, .int (nI t)), (6, .int (nI v))]) dX9_ask_133 (by decide) rfl rfl ?_
                            refine j_iinc hJ (q := 138) (lvs' := [(6, .int (nI (v + 1))), (4, .int (nI (topN B st 8))), (3, .int (nI (10 * t + v))), (7, .int (nI (topN B st 8))), (0, .ref h), (1, .int (nI (nt a))), (2, .int (nI st)), (5, .int (nI t))]) dX9_ask_135 7 rfl (by rw [show Int32.ofInt 1 = nI 1 from by decide +kernel]; exact nI_add _ _) (by decide) rfl rfl ?_
                            refine j_goto hJ (q := 44) dX9_ask_138 (by decide) ?_
                            refine j_locals hJ [4, 5, 6, 2, 1, 7, 0] rfl ?_
                            refine j_eql (lvs' := [(0, .ref h), (1, .int (nI (nt a))), (2, .int (nI st)), (3, .int (zI ((10 * t + v : Nat) : Int))), (4, .int (nI (topN B st 8))), (5, .int (nI t)), (6, .int (nI (v + 1)))]) (by simp only [zI_nat] <;> rfl) ?_
                            exact ih_44 B ((10 * t + v : Nat) : Int) (topN B st 8) (v + 1) (by omega) (by omega) (by omega) (by rw [htop]; exact mnJ_go hbf (by rw [← htop]; omega)) hBb3
                      · skip
                        refine j_aload_n hJ (q := 62) dX9_ask_61 rfl 0 rfl rfl ?_
                        refine j_get hJ (q := 65) jf_X9_30 dX9_ask_62 0 rfl rfl rfl ?_
                        refine j_iload hJ (q := 67) dX9_ask_65 7 rfl rfl ?_
                        refine j_iload hJ (q := 69) dX9_ask_67 7 rfl rfl ?_
                        refine j_aload_n hJ (q := 70) dX9_ask_69 rfl 0 rfl rfl ?_
                        refine j_get hJ (q := 73) jf_X9_7 dX9_ask_70 0 rfl rfl rfl ?_
                        refine j_bipush hJ (q := 75) dX9_ask_73 rfl kb_28 ?_
                        refine j_iload_n hJ (q := 76) dX9_ask_75 rfl 1 rfl rfl ?_
                        refine j_iadd hJ (q := 77) dX9_ask_76 rfl (nI_add _ _) ?_
                        refine j_ialdN hJ (q := 78) (z := nI (A (28 + (nt a)))) dX9_ask_77 1 rfl (by omega) (by decide) rfl rfl ?_
                        have b9 := hb (28 + (nt a))
                        refine j_iload hJ (q := 80) dX9_ask_78 5 rfl rfl ?_
                        refine j_iload hJ (q := 82) dX9_ask_80 6 rfl rfl ?_
                        refine j_sR hJ (q := 85) (rest := [.int (nI p), .ref (q 5)]) (As := [.int (nI p), .int (nI (A (28 + (nt a)))), .int (nI t), .int (nI v)]) jl_X9_110 (c_X9_reachAs Z p (A (28 + (nt a))) t v (by omega) (by omega) (by omega) (by omega)) dX9_ask_82 rfl (by decide) (Nat.le_of_ble_eq_true rfl) [] rfl rfl (fun rv hp => ?_)
                        obtain rfl := hp
                        show J 85 [(0, .ref h), (1, .int (nI (nt a))), (2, .int (nI st)), (3, .int (zI bs)), (4, .int (nI fw)), (5, .int (nI t)), (6, .int (nI v)), (7, .int (nI p))] [.int (nI (rch p (A (28 + (nt a))) t v)), .int (nI p), .ref (q 5)] [mO h q ab be bl ta tl tk va, (q 0, ia Z 266 (ni A)), (q 5, ia Z 8 (ni B)), (q 3, ia Z 3 (ni Rf))] 0 0
                        have hgl : rch p (A (28 + nt a)) t v ≤ 60 := rch_le hk5 (by omega)
                        refine j_iastN hJ (q := 86) (ws' := [mO h q ab be bl ta tl tk va, (q 0, ia Z 266 (ni A)), (q 5, ia Z 8 (ni (va_up B p (rch p (A (28 + (nt a))) t v)))), (q 3, ia Z 3 (ni Rf))]) dX9_ask_85 2 rfl (by omega) (by decide) (ni_up _ _ _) rfl rfl ?_
                        refine j_iinc hJ (q := 89) (lvs' := [(7, .int (nI (p + 1))), (0, .ref h), (1, .int (nI (nt a))), (2, .int (nI st)), (3, .int (zI bs)), (4, .int (nI fw)), (5, .int (nI t)), (6, .int (nI v))]) dX9_ask_86 7 rfl (by rw [show Int32.ofInt 1 = nI 1 from by decide +kernel]; exact nI_add _ _) (by decide) rfl rfl ?_
                        refine j_goto hJ (q := 54) dX9_ask_89 (by decide) ?_
                        refine j_locals hJ [1, 2, 3, 4, 5, 6, 7, 0] rfl ?_
                        exact ih_54 (va_up B p (rch p (A (28 + (nt a))) t v)) (p + 1) (by omega) (by omega) (fun j hj => by simp only [va_up]; by_cases h : j = p <;> simp only [h, if_true, if_false]; exact hB j (by omega)) (fun j => by simp only [va_up]; have := hBb3 j; split <;> omega)
                  refine j_locals hJ [1, 2, 3, 4, 5, 6, 7, 0] rfl ?_
                  exact L_54 ((6 - 0) + 1) B 0 (Nat.lt_succ_self _) (by omega) (fun j hj => absurd hj (Nat.not_lt_zero _)) hBb2
            refine j_locals hJ [1, 2, 3, 4, 5, 6, 0] rfl ?_
            exact L_44 ((10 - 0) + 1) B bs fw 0 (Nat.lt_succ_self _) (by omega) (by omega) (by rw [← hbf]; rfl) hBb
    refine j_locals hJ [4, 5, 3, 2, 1, 0] rfl ?_
    exact L_30 ((11 - 0) + 1) Tl (-1) 1000000 0 (Nat.lt_succ_self _) (by omega) (by omega) rfl (fun _ => rfl) htl
  · skip
    refine j_aload_n hJ (q := 9) dX9_ask_8 rfl 0 rfl rfl ?_
    refine j_bipush hJ (q := 11) dX9_ask_9 rfl kb_m2 ?_
    refine j_vW hJ (q := 14) (rest := []) (As := [.int (zI (-2))]) (wr := [(q 0, ia Z 266 (ni A)), (q 5, ia Z 8 (ni Tl))]) jl_X9_73 (c_X9_bad Z h q ab be bl ta tl tk va Rf (-2) ) 0 rfl rfl dX9_ask_11 rfl (by decide) (Nat.le_of_ble_eq_true rfl) [0, 3] [1, 2] rfl rfl rfl rfl (by decide) rfl (fun rv wv hp => ?_)
    obtain ⟨rfl, rfl⟩ := hp
    refine j_world hJ (ws' := [mO h q ab be bl ta tl tk va, (q 0, ia Z 266 (ni A)), (q 5, ia Z 8 (ni Tl)), (q 3, ia Z 3 (ni (va_up Rf 0 (Rf 0 + 1))))]) [2, 0, 1, 3] rfl rfl ?_
    show J 14 [(0, .ref h), (1, .int a)] [.int (zI (-2))] [mO h q ab be bl ta tl tk va, (q 0, ia Z 266 (ni A)), (q 5, ia Z 8 (ni Tl)), (q 3, ia Z 3 (ni (va_up Rf 0 (Rf 0 + 1))))] 0 0
    have hP : ¬ (isR A a) := by simp only [rgI, isS, isR, pNote, pMark, pFast, pLever, pHands, pSlip, pEven]; omega
    exact hE.1 _ _ _ _ _ _ _ rfl rfl dX9_ask_14 (Nat.le_refl _) (Nat.le_refl _) (⟨Tl, congrArg (fun z => some (Value.int (zI z))) (by simp only [z_ask, if_neg hP, bmp]), by simp only [z_ask, if_neg hP, bmp], htl⟩)

set_option maxHeartbeats 4000000 in
set_option maxRecDepth 100000 in
theorem c_X9_hands (Z : jZ) (h : Nat) (q : Nat → Nat) (ab : Int) (be : Int) (bl : Nat) (ta : Nat) (tl : Nat) (tk : Nat) (va : Nat) (A : Nat → Nat) (Hd : Nat → Nat) (Ts : Nat → Nat) (Rf : Nat → Nat) (a : Int32) (b : Int32) (c : Int32) (hg : wg A) : CT Z yX9_hands cX9_hands 6 ((some FieldType.int)) 6 0 0 [.ref h, .int a, .int b, .int c] [mO h q ab be bl ta tl tk va, (q 0, ia Z 266 (ni A)), (q 4, ia Z 58 (ni Hd)), (q 6, ia Z 8 (ni Ts)), (q 3, ia Z 3 (ni Rf))] (fun rr ww => ∃ Hx : Nat → Nat, ∃ Tx : Nat → Nat, rr = some (.int (zI (z_hands A a b c))) ∧ ww = [mO h q ab be bl ta tl tk va, (q 0, ia Z 266 (ni A)), (q 4, ia Z 58 (ni Hx)), (q 6, ia Z 8 (ni Tx)), (q 3, ia Z 3 (ni (if pHands A a b c then Rf else bmp Rf 0)))]) := by
  refine CT.of RX9 false rfl (fun h => by cases h) (by decide +kernel) (Nat.le_of_ble_eq_true rfl) ?_
  intro J hJ hE
  show J 0 [(0, .ref h), (1, .int a), (2, .int b), (3, .int c)] [] [mO h q ab be bl ta tl tk va, (q 0, ia Z 266 (ni A)), (q 4, ia Z 58 (ni Hd)), (q 6, ia Z 8 (ni Ts)), (q 3, ia Z 3 (ni Rf))] 0 0
  obtain ⟨hw, ⟨g1, g2, g3, g4, g8⟩, hrs, hrn, hrm, hpst⟩ := id hg
  obtain ⟨⟨w1, w2, w3, w4, w5, w6⟩, wb, wr, wh, wd⟩ := id hw
  have hb := wb
  have hr_a := zI_rng a
  have hr_b := zI_rng b
  have hr_c := zI_rng c
  refine j_aload_n hJ (q := 1) dX9_hands_0 rfl 0 rfl rfl ?_
  refine j_iload_n hJ (q := 2) dX9_hands_1 rfl 1 rfl rfl ?_
  refine j_vR hJ (q := 5) (rest := []) (As := [.int a]) jl_X9_129 (c_X9_isRider Z h q ab be bl ta tl tk va A a (by omega)) 0 rfl rfl dX9_hands_2 rfl (by decide) (Nat.le_of_ble_eq_true rfl) [0, 1] rfl rfl (fun rv hp => ?_)
  obtain rfl := hp
  show J 5 [(0, .ref h), (1, .int a), (2, .int b), (3, .int c)] [.int (bI (decide (0 ≤ a.toInt ∧ a.toInt ≤ (A 0 : Int) - 1)))] [mO h q ab be bl ta tl tk va, (q 0, ia Z 266 (ni A)), (q 4, ia Z 58 (ni Hd)), (q 6, ia Z 8 (ni Ts)), (q 3, ia Z 3 (ni Rf))] 0 0
  refine jp_if_eq hJ (q := 8) (tgt := 26) dX9_hands_5 (by decide) rfl (fun c1 => ?_) (fun c1 => ?_)
  · skip
    refine j_aload_n hJ (q := 27) dX9_hands_26 rfl 0 rfl rfl ?_
    refine j_bipush hJ (q := 29) dX9_hands_27 rfl kb_m10 ?_
    refine j_vW hJ (q := 32) (rest := []) (As := [.int (zI (-10))]) (wr := [(q 0, ia Z 266 (ni A)), (q 4, ia Z 58 (ni Hd)), (q 6, ia Z 8 (ni Ts))]) jl_X9_73 (c_X9_bad Z h q ab be bl ta tl tk va Rf (-10) ) 0 rfl rfl dX9_hands_29 rfl (by decide) (Nat.le_of_ble_eq_true rfl) [0, 4] [1, 2, 3] rfl rfl rfl rfl (by decide) rfl (fun rv wv hp => ?_)
    obtain ⟨rfl, rfl⟩ := hp
    refine j_world hJ (ws' := [mO h q ab be bl ta tl tk va, (q 0, ia Z 266 (ni A)), (q 4, ia Z 58 (ni Hd)), (q 6, ia Z 8 (ni Ts)), (q 3, ia Z 3 (ni (va_up Rf 0 (Rf 0 + 1))))]) [3, 0, 1, 2, 4] rfl rfl ?_
    show J 32 [(0, .ref h), (1, .int a), (2, .int b), (3, .int c)] [.int (zI (-10))] [mO h q ab be bl ta tl tk va, (q 0, ia Z 266 (ni A)), (q 4, ia Z 58 (ni Hd)), (q 6, ia Z 8 (ni Ts)), (q 3, ia Z 3 (ni (va_up Rf 0 (Rf 0 + 1))))] 0 0
    have hP : ¬ (pHands A a b c) := by simp only [rgI, isS, isR, pNote, pMark, pFast, pLever, pHands, pSlip, pEven]; omega
    exact hE.1 _ _ _ _ _ _ _ rfl rfl dX9_hands_32 (Nat.le_refl _) (Nat.le_refl _) (⟨Hd, Ts, congrArg (fun z => some (Value.int (zI z))) (by simp only [z_hands, if_neg hP, bmp]), by simp only [z_hands, if_neg hP, bmp]⟩)
  · skip
    refine j_aload_n hJ (q := 9) dX9_hands_8 rfl 0 rfl rfl ?_
    refine j_iload_n hJ (q := 10) dX9_hands_9 rfl 2 rfl rfl ?_
    refine j_vR hJ (q := 13) (rest := []) (As := [.int b]) jl_X9_129 (c_X9_isRider Z h q ab be bl ta tl tk va A b (by omega)) 0 rfl rfl dX9_hands_10 rfl (by decide) (Nat.le_of_ble_eq_true rfl) [0, 1] rfl rfl (fun rv hp => ?_)
    obtain rfl := hp
    show J 13 [(0, .ref h), (1, .int a), (2, .int b), (3, .int c)] [.int (bI (decide (0 ≤ b.toInt ∧ b.toInt ≤ (A 0 : Int) - 1)))] [mO h q ab be bl ta tl tk va, (q 0, ia Z 266 (ni A)), (q 4, ia Z 58 (ni Hd)), (q 6, ia Z 8 (ni Ts)), (q 3, ia Z 3 (ni Rf))] 0 0
    refine jp_if_eq hJ (q := 16) (tgt := 26) dX9_hands_13 (by decide) rfl (fun c2 => ?_) (fun c2 => ?_)
    · skip
      refine j_aload_n hJ (q := 27) dX9_hands_26 rfl 0 rfl rfl ?_
      refine j_bipush hJ (q := 29) dX9_hands_27 rfl kb_m10 ?_
      refine j_vW hJ (q := 32) (rest := []) (As := [.int (zI (-10))]) (wr := [(q 0, ia Z 266 (ni A)), (q 4, ia Z 58 (ni Hd)), (q 6, ia Z 8 (ni Ts))]) jl_X9_73 (c_X9_bad Z h q ab be bl ta tl tk va Rf (-10) ) 0 rfl rfl dX9_hands_29 rfl (by decide) (Nat.le_of_ble_eq_true rfl) [0, 4] [1, 2, 3] rfl rfl rfl rfl (by decide) rfl (fun rv wv hp => ?_)
      obtain ⟨rfl, rfl⟩ := hp
      refine j_world hJ (ws' := [mO h q ab be bl ta tl tk va, (q 0, ia Z 266 (ni A)), (q 4, ia Z 58 (ni Hd)), (q 6, ia Z 8 (ni Ts)), (q 3, ia Z 3 (ni (va_up Rf 0 (Rf 0 + 1))))]) [3, 0, 1, 2, 4] rfl rfl ?_
      show J 32 [(0, .ref h), (1, .int a), (2, .int b), (3, .int c)] [.int (zI (-10))] [mO h q ab be bl ta tl tk va, (q 0, ia Z 266 (ni A)), (q 4, ia Z 58 (ni Hd)), (q 6, ia Z 8 (ni Ts)), (q 3, ia Z 3 (ni (va_up Rf 0 (Rf 0 + 1))))] 0 0
      have hP : ¬ (pHands A a b c) := by simp only [rgI, isS, isR, pNote, pMark, pFast, pLever, pHands, pSlip, pEven]; omega
      exact hE.1 _ _ _ _ _ _ _ rfl rfl dX9_hands_32 (Nat.le_refl _) (Nat.le_refl _) (⟨Hd, Ts, congrArg (fun z => some (Value.int (zI z))) (by simp only [z_hands, if_neg hP, bmp]), by simp only [z_hands, if_neg hP, bmp]⟩)
    · skip
      refine j_iload_n hJ (q := 17) dX9_hands_16 rfl 1 rfl rfl ?_
      refine j_iload_n hJ (q := 18) dX9_hands_17 rfl 2 rfl rfl ?_
      refine jz_icmp_eq hJ (q := 21) (tgt := 26) dX9_hands_18 (by decide) rfl (zI_of a) (zI_of b) (zI_rng a) (zI_rng b) (fun c3 => ?_) (fun c3 => ?_)
      · skip
        refine j_aload_n hJ (q := 27) dX9_hands_26 rfl 0 rfl rfl ?_
        refine j_bipush hJ (q := 29) dX9_hands_27 rfl kb_m10 ?_
        refine j_vW hJ (q := 32) (rest := []) (As := [.int (zI (-10))]) (wr := [(q 0, ia Z 266 (ni A)), (q 4, ia Z 58 (ni Hd)), (q 6, ia Z 8 (ni Ts))]) jl_X9_73 (c_X9_bad Z h q ab be bl ta tl tk va Rf (-10) ) 0 rfl rfl dX9_hands_29 rfl (by decide) (Nat.le_of_ble_eq_true rfl) [0, 4] [1, 2, 3] rfl rfl rfl rfl (by decide) rfl (fun rv wv hp => ?_)
        obtain ⟨rfl, rfl⟩ := hp
        refine j_world hJ (ws' := [mO h q ab be bl ta tl tk va, (q 0, ia Z 266 (ni A)), (q 4, ia Z 58 (ni Hd)), (q 6, ia Z 8 (ni Ts)), (q 3, ia Z 3 (ni (va_up Rf 0 (Rf 0 + 1))))]) [3, 0, 1, 2, 4] rfl rfl ?_
        show J 32 [(0, .ref h), (1, .int a), (2, .int b), (3, .int c)] [.int (zI (-10))] [mO h q ab be bl ta tl tk va, (q 0, ia Z 266 (ni A)), (q 4, ia Z 58 (ni Hd)), (q 6, ia Z 8 (ni Ts)), (q 3, ia Z 3 (ni (va_up Rf 0 (Rf 0 + 1))))] 0 0
        have hP : ¬ (pHands A a b c) := by simp only [rgI, isS, isR, pNote, pMark, pFast, pLever, pHands, pSlip, pEven]; omega
        exact hE.1 _ _ _ _ _ _ _ rfl rfl dX9_hands_32 (Nat.le_refl _) (Nat.le_refl _) (⟨Hd, Ts, congrArg (fun z => some (Value.int (zI z))) (by simp only [z_hands, if_neg hP, bmp]), by simp only [z_hands, if_neg hP, bmp]⟩)
      · skip
        refine j_iload_n hJ (q := 22) dX9_hands_21 rfl 3 rfl rfl ?_
        refine j_iconst hJ (q := 23) dX9_hands_22 rfl ki_m1 ?_
        refine jz_icmp_ge hJ (q := 26) (tgt := 33) dX9_hands_23 (by decide) rfl (zI_of c) rfl (zI_rng c) (by omega) (fun c4 => ?_) (fun c4 => ?_)
        · skip
          have hn_a := nt_cast (x := a) (by omega)
          refine j_eql (lvs' := [(0, .ref h), (1, .int (nI (nt a))), (2, .int b), (3, .int c)]) (by rw [← nt_eq (x := a) (by omega)]) ?_
          have hn_b := nt_cast (x := b) (by omega)
          refine j_eql (lvs' := [(0, .ref h), (1, .int (nI (nt a))), (2, .int (nI (nt b))), (3, .int c)]) (by rw [← nt_eq (x := b) (by omega)]) ?_
          refine j_iconst hJ (q := 34) dX9_hands_33 rfl ki_0 ?_
          refine j_istore hJ (q := 36) (lvs' := [(4, .int (nI 0)), (0, .ref h), (1, .int (nI (nt a))), (2, .int (nI (nt b))), (3, .int c)]) dX9_hands_34 (by decide) rfl rfl ?_
          have L_36 : ∀ (fu_36 : Nat) (B : Nat → Nat) (S : Nat → Nat) (vv : Nat), 4 - vv < fu_36 → (vv ≤ 4) → (∀ j, j < vv ∨ (4 ≤ j ∧ j < 4 + vv) → S j = hT A (nt a) (nt b) j) → J 36 [(0, .ref h), (1, .int (nI (nt a))), (2, .int (nI (nt b))), (3, .int c), (4, .int (nI vv))] [] [mO h q ab be bl ta tl tk va, (q 0, ia Z 266 (ni A)), (q 4, ia Z 58 (ni B)), (q 6, ia Z 8 (ni S)), (q 3, ia Z 3 (ni Rf))] 0 0 := by
            intro fu_36
            induction fu_36 with
            | zero => intro B S vv hm; exact absurd hm (Nat.not_lt_zero _)
            | succ fu_36 ih_36 =>
              intro B S vv hm_36 hv hT1
              refine j_iload hJ (q := 38) dX9_hands_36 4 rfl rfl ?_
              refine j_iconst hJ (q := 39) dX9_hands_38 rfl ki_4 ?_
              refine jn_icmp_ge hJ (q := 42) (tgt := 104) dX9_hands_39 (by decide) rfl (by omega) (by omega) (fun c5 => ?_) (fun c5 => ?_)
              · skip
                refine j_ext hJ (ws' := [mO h q ab be bl ta tl tk va, (q 0, ia Z 266 (ni A)), (q 4, ia Z 58 (ni B)), (q 6, ia Z 8 (ni (hT A (nt a) (nt b)))), (q 3, ia Z 3 (ni Rf))]) (g := ni (hT A (nt a) (nt b))) 3 rfl (fun j hj => congrArg nI (hT1 j (by omega))) rfl ?_
                have hTb : ∀ j, hT A (nt a) (nt b) j < 1000 := fun j => by unfold hT; split <;> (have h1 := tkn_le (nt a) 8 (va_up A 6 j); have h2 := tkn_le (nt b) 8 (va_up A 6 (j - 4)); omega)
                refine j_iconst hJ (q := 105) dX9_hands_104 rfl ki_0 ?_
                refine j_istore hJ (q := 107) (lvs' := [(4, .int (nI 0)), (0, .ref h), (1, .int (nI (nt a))), (2, .int (nI (nt b))), (3, .int c)]) dX9_hands_105 (by decide) rfl rfl ?_
                refine j_iconst hJ (q := 108) dX9_hands_107 rfl ki_0 ?_
                refine j_istore hJ (q := 110) (lvs' := [(5, .int (nI 0)), (4, .int (nI 0)), (0, .ref h), (1, .int (nI (nt a))), (2, .int (nI (nt b))), (3, .int c)]) dX9_hands_108 (by decide) rfl rfl ?_
                have L_110 : ∀ (fu_110 : Nat) (ct : Nat) (cd : Nat), 16 - cd < fu_110 → (cd ≤ 16) → (ct ≤ cd) → (hdF (hT A (nt a) (nt b)) c.toInt (16 - cd) cd ct = hdF (hT A (nt a) (nt b)) c.toInt 16 0 0) → J 110 [(0, .ref h), (1, .int (nI (nt a))), (2, .int (nI (nt b))), (3, .int c), (4, .int (nI ct)), (5, .int (nI cd))] [] [mO h q ab be bl ta tl tk va, (q 0, ia Z 266 (ni A)), (q 4, ia Z 58 (ni B)), (q 6, ia Z 8 (ni (hT A (nt a) (nt b)))), (q 3, ia Z 3 (ni Rf))] 0 0 := by
                  intro fu_110
                  induction fu_110 with
                  | zero => intro ct cd hm; exact absurd hm (Nat.not_lt_zero _)
                  | succ fu_110 ih_110 =>
                    intro ct cd hm_110 hcd hct hF
                    refine j_iload hJ (q := 112) dX9_hands_110 5 rfl rfl ?_
                    refine j_bipush hJ (q := 114) dX9_hands_112 rfl kb_16 ?_
                    refine jn_icmp_ge hJ (q := 117) (tgt := 160) dX9_hands_114 (by decide) rfl (by omega) (by omega) (fun c6 => ?_) (fun c6 => ?_)
                    · skip
                      refine j_iload_n hJ (q := 161) dX9_hands_160 rfl 3 rfl rfl ?_
                      refine j_iconst hJ (q := 162) dX9_hands_161 rfl ki_m1 ?_
                      refine jz_icmp_ne hJ (q := 165) (tgt := 170) dX9_hands_162 (by decide) rfl (zI_of c) rfl (zI_rng c) (by omega) (fun c7 => ?_) (fun c7 => ?_)
                      · skip
                        refine j_bipush hJ (q := 172) dX9_hands_170 rfl kb_m5 ?_
                        have hP : pHands A a b c := by simp only [rgI, isS, isR, pNote, pMark, pFast, pLever, pHands, pSlip, pEven]; omega
                        have hR : hdF (hT A (nt a) (nt b)) c.toInt 16 0 0 = .inr ct := by rw [← hF, show 16 - cd = 0 by omega]; rfl
                        exact hE.1 _ _ _ _ _ _ _ rfl rfl dX9_hands_172 (Nat.le_refl _) (Nat.le_refl _) (⟨B, (hT A (nt a) (nt b)), congrArg (fun z => some (Value.int (zI z))) (by simp only [z_hands, if_pos hP]; rw [hR]; simp only [lvz]; rw [if_neg (by omega)]), by simp only [if_pos hP]⟩)
                      · skip
                        refine j_iload hJ (q := 167) dX9_hands_165 4 rfl rfl ?_
                        refine j_goto hJ (q := 172) dX9_hands_167 (by decide) ?_
                        have hP : pHands A a b c := by simp only [rgI, isS, isR, pNote, pMark, pFast, pLever, pHands, pSlip, pEven]; omega
                        have hR : hdF (hT A (nt a) (nt b)) c.toInt 16 0 0 = .inr ct := by rw [← hF, show 16 - cd = 0 by omega]; rfl
                        exact hE.1 _ _ _ _ _ _ _ rfl rfl dX9_hands_172 (Nat.le_refl _) (Nat.le_refl _) (⟨B, (hT A (nt a) (nt b)), congrArg (fun z => some (Value.int z)) ((zI_nat _).symm.trans (congrArg zI (by simp only [z_hands, if_pos hP]; rw [hR]; simp only [lvz]; rw [if_pos (by omega)]))), by simp only [if_pos hP]⟩)
                    · skip
                      refine j_aload_n hJ (q := 118) dX9_hands_117 rfl 0 rfl rfl ?_
                      refine j_iload hJ (q := 120) dX9_hands_118 5 rfl rfl ?_
                      refine j_iconst hJ (q := 121) dX9_hands_120 rfl ki_4 ?_
                      refine j_idiv hJ (q := 122) dX9_hands_121 rfl (nI_ne0 (by omega) (by omega)) (pk_div (by omega) (by omega) (by omega)) ?_
                      refine j_iload hJ (q := 124) dX9_hands_122 5 rfl rfl ?_
                      refine j_iconst hJ (q := 125) dX9_hands_124 rfl ki_4 ?_
                      refine j_irem hJ (q := 126) dX9_hands_125 rfl (nI_ne0 (by omega) (by omega)) (pk_rem (by omega) (by omega) (by omega)) ?_
                      refine j_vR hJ (q := 129) (rest := []) (As := [.int (nI (cd / 4)), .int (nI (cd % 4))]) jl_X9_184 (c_X9_rests Z h q ab be bl ta tl tk va (hT A (nt a) (nt b)) (cd / 4) (cd % 4) (by omega) (by omega) hTb) 0 rfl rfl dX9_hands_126 rfl (by decide) (Nat.le_of_ble_eq_true rfl) [0, 3] rfl rfl (fun rv hp => ?_)
                      obtain rfl := hp
                      show J 129 [(0, .ref h), (1, .int (nI (nt a))), (2, .int (nI (nt b))), (3, .int c), (4, .int (nI ct)), (5, .int (nI cd))] [.int (bI (rstN (hT A (nt a) (nt b)) (cd / 4) (cd % 4) 4))] [mO h q ab be bl ta tl tk va, (q 0, ia Z 266 (ni A)), (q 4, ia Z 58 (ni B)), (q 6, ia Z 8 (ni (hT A (nt a) (nt b)))), (q 3, ia Z 3 (ni Rf))] 0 0
                      refine jb_if_eq hJ (q := 132) (tgt := 154) dX9_hands_129 (by decide) rfl (fun c8 => ?_) (fun c8 => ?_)
                      · skip
                        refine j_iinc hJ (q := 157) (lvs' := [(5, .int (nI (cd + 1))), (0, .ref h), (1, .int (nI (nt a))), (2, .int (nI (nt b))), (3, .int c), (4, .int (nI ct))]) dX9_hands_154 5 rfl (by rw [show Int32.ofInt 1 = nI 1 from by decide +kernel]; exact nI_add _ _) (by decide) rfl rfl ?_
                        refine j_goto hJ (q := 110) dX9_hands_157 (by decide) ?_
                        refine j_locals hJ [1, 2, 3, 4, 5, 0] rfl ?_
                        exact ih_110 ct (cd + 1) (by omega) (by omega) (by omega) (by rw [← hF, show 16 - cd = (16 - (cd + 1)) + 1 by omega]; simp only [hdF]; rw [if_neg (by simp_all)])
                      · skip
                        refine j_iload hJ (q := 134) dX9_hands_132 4 rfl rfl ?_
                        refine j_iload_n hJ (q := 135) dX9_hands_134 rfl 3 rfl rfl ?_
                        refine jz_icmp_ne hJ (q := 138) (tgt := 151) dX9_hands_135 (by decide) rfl (zI_nat ct).symm (zI_of c) (by omega) (zI_rng c) (fun c9 => ?_) (fun c9 => ?_)
                        · skip
                          refine j_iinc hJ (q := 154) (lvs' := [(4, .int (nI (ct + 1))), (0, .ref h), (1, .int (nI (nt a))), (2, .int (nI (nt b))), (3, .int c), (5, .int (nI cd))]) dX9_hands_151 4 rfl (by rw [show Int32.ofInt 1 = nI 1 from by decide +kernel]; exact nI_add _ _) (by decide) rfl rfl ?_
                          refine j_iinc hJ (q := 157) (lvs' := [(5, .int (nI (cd + 1))), (4, .int (nI (ct + 1))), (0, .ref h), (1, .int (nI (nt a))), (2, .int (nI (nt b))), (3, .int c)]) dX9_hands_154 5 rfl (by rw [show Int32.ofInt 1 = nI 1 from by decide +kernel]; exact nI_add _ _) (by decide) rfl rfl ?_
                          refine j_goto hJ (q := 110) dX9_hands_157 (by decide) ?_
                          refine j_locals hJ [2, 3, 4, 5, 1, 0] rfl ?_
                          exact ih_110 (ct + 1) (cd + 1) (by omega) (by omega) (by omega) (by rw [← hF, show 16 - cd = (16 - (cd + 1)) + 1 by omega]; simp only [hdF]; rw [if_pos (by assumption), if_neg (by omega)])
                        · skip
                          refine j_bipush hJ (q := 140) dX9_hands_138 rfl kb_10 ?_
                          refine j_iload hJ (q := 142) dX9_hands_140 5 rfl rfl ?_
                          refine j_iconst hJ (q := 143) dX9_hands_142 rfl ki_4 ?_
                          refine j_idiv hJ (q := 144) dX9_hands_143 rfl (nI_ne0 (by omega) (by omega)) (pk_div (by omega) (by omega) (by omega)) ?_
                          refine j_imul hJ (q := 145) dX9_hands_144 rfl (pk_mul _ _) ?_
                          refine j_iload hJ (q := 147) dX9_hands_145 5 rfl rfl ?_
                          refine j_iconst hJ (q := 148) dX9_hands_147 rfl ki_4 ?_
                          refine j_irem hJ (q := 149) dX9_hands_148 rfl (nI_ne0 (by omega) (by omega)) (pk_rem (by omega) (by omega) (by omega)) ?_
                          refine j_iadd hJ (q := 150) dX9_hands_149 rfl (nI_add _ _) ?_
                          have hP : pHands A a b c := by simp only [rgI, isS, isR, pNote, pMark, pFast, pLever, pHands, pSlip, pEven]; omega
                          have hR : hdF (hT A (nt a) (nt b)) c.toInt 16 0 0 = .inl (10 * (cd / 4) + cd % 4) := by rw [← hF, show 16 - cd = (16 - (cd + 1)) + 1 by omega]; simp only [hdF]; rw [if_pos (by assumption), if_pos (by omega)]
                          exact hE.1 _ _ _ _ _ _ _ rfl rfl dX9_hands_150 (Nat.le_refl _) (Nat.le_refl _) (⟨B, (hT A (nt a) (nt b)), congrArg (fun z => some (Value.int z)) ((zI_nat _).symm.trans (congrArg zI (by simp only [z_hands, if_pos hP]; rw [hR]; rfl))), by simp only [if_pos hP]⟩)
                refine j_locals hJ [2, 3, 4, 5, 1, 0] rfl ?_
                exact L_110 ((16 - 0) + 1) 0 0 (Nat.lt_succ_self _) (by omega) (by omega) rfl
              · skip
                refine j_aload_n hJ (q := 43) dX9_hands_42 rfl 0 rfl rfl ?_
                refine j_vW hJ (q := 46) (rest := []) (As := []) (wr := [(q 6, ia Z 8 (ni S)), (q 3, ia Z 3 (ni Rf))]) jl_X9_139 (c_X9_layHand Z h q ab be bl ta tl tk va A B ) 0 rfl rfl dX9_hands_43 rfl (by decide) (Nat.le_of_ble_eq_true rfl) [0, 1, 2] [3, 4] rfl rfl rfl rfl (by decide) rfl (fun rv wv hp => ?_)
                obtain ⟨rfl, rfl⟩ := hp
                refine j_world hJ (ws' := [mO h q ab be bl ta tl tk va, (q 0, ia Z 266 (ni A)), (q 4, ia Z 58 (ni A)), (q 6, ia Z 8 (ni S)), (q 3, ia Z 3 (ni Rf))]) [2, 3, 4, 0, 1] rfl rfl ?_
                show J 46 [(0, .ref h), (1, .int (nI (nt a))), (2, .int (nI (nt b))), (3, .int c), (4, .int (nI vv))] [] [mO h q ab be bl ta tl tk va, (q 0, ia Z 266 (ni A)), (q 4, ia Z 58 (ni A)), (q 6, ia Z 8 (ni S)), (q 3, ia Z 3 (ni Rf))] 0 0
                refine j_aload_n hJ (q := 47) dX9_hands_46 rfl 0 rfl rfl ?_
                refine j_get hJ (q := 50) jf_X9_27 dX9_hands_47 0 rfl rfl rfl ?_
                refine j_bipush hJ (q := 52) dX9_hands_50 rfl kb_6 ?_
                refine j_iload hJ (q := 54) dX9_hands_52 4 rfl rfl ?_
                refine j_iastN hJ (q := 55) (ws' := [mO h q ab be bl ta tl tk va, (q 0, ia Z 266 (ni A)), (q 4, ia Z 58 (ni (va_up A 6 vv))), (q 6, ia Z 8 (ni S)), (q 3, ia Z 3 (ni Rf))]) dX9_hands_54 2 rfl (by decide) (by decide) (ni_up _ _ _) rfl rfl ?_
                refine j_aload_n hJ (q := 56) dX9_hands_55 rfl 0 rfl rfl ?_
                refine j_get hJ (q := 59) jf_X9_33 dX9_hands_56 0 rfl rfl rfl ?_
                refine j_iload hJ (q := 61) dX9_hands_59 4 rfl rfl ?_
                refine j_aload_n hJ (q := 62) dX9_hands_61 rfl 0 rfl rfl ?_
                refine j_iload_n hJ (q := 63) dX9_hands_62 rfl 1 rfl rfl ?_
                refine j_bipush hJ (q := 65) dX9_hands_63 rfl kb_8 ?_
                refine j_vW hJ (q := 68) (rest := [.int (nI vv), .ref (q 6)]) (As := [.int (nI (nt a)), .int (nI 8)]) (wr := [(q 0, ia Z 266 (ni A)), (q 6, ia Z 8 (ni S)), (q 3, ia Z 3 (ni Rf))]) jl_X9_142 (c_X9_taken Z h q ab be bl ta tl tk va (va_up A 6 vv) (nt a) 8 (wf_speed hw (by omega)) (by omega) (by omega) (by simp only [va_up]; rw [if_neg (by decide)]; omega)) 0 rfl rfl dX9_hands_65 rfl (by decide) (Nat.le_of_ble_eq_true rfl) [0, 2] [1, 3, 4] rfl rfl rfl rfl (by decide) rfl (fun rv wv hp => ?_)
                obtain ⟨Hx10, rfl, rfl⟩ := hp
                refine j_world hJ (ws' := [mO h q ab be bl ta tl tk va, (q 0, ia Z 266 (ni A)), (q 4, ia Z 58 (ni Hx10)), (q 6, ia Z 8 (ni S)), (q 3, ia Z 3 (ni Rf))]) [3, 0, 4, 1, 2] rfl rfl ?_
                show J 68 [(0, .ref h), (1, .int (nI (nt a))), (2, .int (nI (nt b))), (3, .int c), (4, .int (nI vv))] [.int (nI (tkn (nt a) 8 (va_up A 6 vv))), .int (nI vv), .ref (q 6)] [mO h q ab be bl ta tl tk va, (q 0, ia Z 266 (ni A)), (q 4, ia Z 58 (ni Hx10)), (q 6, ia Z 8 (ni S)), (q 3, ia Z 3 (ni Rf))] 0 0
                refine j_iastN hJ (q := 69) (ws' := [mO h q ab be bl ta tl tk va, (q 0, ia Z 266 (ni A)), (q 4, ia Z 58 (ni Hx10)), (q 6, ia Z 8 (ni (va_up S vv (tkn (nt a) 8 (va_up A 6 vv))))), (q 3, ia Z 3 (ni Rf))]) dX9_hands_68 3 rfl (by omega) (by decide) (ni_up _ _ _) rfl rfl ?_
                refine j_aload_n hJ (q := 70) dX9_hands_69 rfl 0 rfl rfl ?_
                refine j_vW hJ (q := 73) (rest := []) (As := []) (wr := [(q 6, ia Z 8 (ni (va_up S vv (tkn (nt a) 8 (va_up A 6 vv))))), (q 3, ia Z 3 (ni Rf))]) jl_X9_139 (c_X9_layHand Z h q ab be bl ta tl tk va A Hx10 ) 0 rfl rfl dX9_hands_70 rfl (by decide) (Nat.le_of_ble_eq_true rfl) [0, 1, 2] [3, 4] rfl rfl rfl rfl (by decide) rfl (fun rv wv hp => ?_)
                obtain ⟨rfl, rfl⟩ := hp
                refine j_world hJ (ws' := [mO h q ab be bl ta tl tk va, (q 0, ia Z 266 (ni A)), (q 4, ia Z 58 (ni A)), (q 6, ia Z 8 (ni (va_up S vv (tkn (nt a) 8 (va_up A 6 vv))))), (q 3, ia Z 3 (ni Rf))]) [2, 3, 4, 0, 1] rfl rfl ?_
                show J 73 [(0, .ref h), (1, .int (nI (nt a))), (2, .int (nI (nt b))), (3, .int c), (4, .int (nI vv))] [] [mO h q ab be bl ta tl tk va, (q 0, ia Z 266 (ni A)), (q 4, ia Z 58 (ni A)), (q 6, ia Z 8 (ni (va_up S vv (tkn (nt a) 8 (va_up A 6 vv))))), (q 3, ia Z 3 (ni Rf))] 0 0
                refine j_aload_n hJ (q := 74) dX9_hands_73 rfl 0 rfl rfl ?_
                refine j_get hJ (q := 77) jf_X9_27 dX9_hands_74 0 rfl rfl rfl ?_
                refine j_bipush hJ (q := 79) dX9_hands_77 rfl kb_6 ?_
                refine j_iload hJ (q := 81) dX9_hands_79 4 rfl rfl ?_
                refine j_iastN hJ (q := 82) (ws' := [mO h q ab be bl ta tl tk va, (q 0, ia Z 266 (ni A)), (q 4, ia Z 58 (ni (va_up A 6 vv))), (q 6, ia Z 8 (ni (va_up S vv (tkn (nt a) 8 (va_up A 6 vv))))), (q 3, ia Z 3 (ni Rf))]) dX9_hands_81 2 rfl (by decide) (by decide) (ni_up _ _ _) rfl rfl ?_
                refine j_aload_n hJ (q := 83) dX9_hands_82 rfl 0 rfl rfl ?_
                refine j_get hJ (q := 86) jf_X9_33 dX9_hands_83 0 rfl rfl rfl ?_
                refine j_iconst hJ (q := 87) dX9_hands_86 rfl ki_4 ?_
                refine j_iload hJ (q := 89) dX9_hands_87 4 rfl rfl ?_
                refine j_iadd hJ (q := 90) dX9_hands_89 rfl (nI_add _ _) ?_
                refine j_aload_n hJ (q := 91) dX9_hands_90 rfl 0 rfl rfl ?_
                refine j_iload_n hJ (q := 92) dX9_hands_91 rfl 2 rfl rfl ?_
                refine j_bipush hJ (q := 94) dX9_hands_92 rfl kb_8 ?_
                refine j_vW hJ (q := 97) (rest := [.int (nI (4 + vv)), .ref (q 6)]) (As := [.int (nI (nt b)), .int (nI 8)]) (wr := [(q 0, ia Z 266 (ni A)), (q 6, ia Z 8 (ni (va_up S vv (tkn (nt a) 8 (va_up A 6 vv))))), (q 3, ia Z 3 (ni Rf))]) jl_X9_142 (c_X9_taken Z h q ab be bl ta tl tk va (va_up A 6 vv) (nt b) 8 (wf_speed hw (by omega)) (by omega) (by omega) (by simp only [va_up]; rw [if_neg (by decide)]; omega)) 0 rfl rfl dX9_hands_94 rfl (by decide) (Nat.le_of_ble_eq_true rfl) [0, 2] [1, 3, 4] rfl rfl rfl rfl (by decide) rfl (fun rv wv hp => ?_)
                obtain ⟨Hx11, rfl, rfl⟩ := hp
                refine j_world hJ (ws' := [mO h q ab be bl ta tl tk va, (q 0, ia Z 266 (ni A)), (q 4, ia Z 58 (ni Hx11)), (q 6, ia Z 8 (ni (va_up S vv (tkn (nt a) 8 (va_up A 6 vv))))), (q 3, ia Z 3 (ni Rf))]) [3, 0, 4, 1, 2] rfl rfl ?_
                show J 97 [(0, .ref h), (1, .int (nI (nt a))), (2, .int (nI (nt b))), (3, .int c), (4, .int (nI vv))] [.int (nI (tkn (nt b) 8 (va_up A 6 vv))), .int (nI (4 + vv)), .ref (q 6)] [mO h q ab be bl ta tl tk va, (q 0, ia Z 266 (ni A)), (q 4, ia Z 58 (ni Hx11)), (q 6, ia Z 8 (ni (va_up S vv (tkn (nt a) 8 (va_up A 6 vv))))), (q 3, ia Z 3 (ni Rf))] 0 0
                refine j_iastN hJ (q := 98) (ws' := [mO h q ab be bl ta tl tk va, (q 0, ia Z 266 (ni A)), (q 4, ia Z 58 (ni Hx11)), (q 6, ia Z 8 (ni (va_up (va_up S vv (tkn (nt a) 8 (va_up A 6 vv))) (4 + vv) (tkn (nt b) 8 (va_up A 6 vv))))), (q 3, ia Z 3 (ni Rf))]) dX9_hands_97 3 rfl (by omega) (by decide) (ni_up _ _ _) rfl rfl ?_
                refine j_iinc hJ (q := 101) (lvs' := [(4, .int (nI (vv + 1))), (0, .ref h), (1, .int (nI (nt a))), (2, .int (nI (nt b))), (3, .int c)]) dX9_hands_98 4 rfl (by rw [show Int32.ofInt 1 = nI 1 from by decide +kernel]; exact nI_add _ _) (by decide) rfl rfl ?_
                refine j_goto hJ (q := 36) dX9_hands_101 (by decide) ?_
                refine j_locals hJ [1, 2, 3, 4, 0] rfl ?_
                exact ih_36 Hx11 (va_up (va_up S vv (tkn (nt a) 8 (va_up A 6 vv))) (4 + vv) (tkn (nt b) 8 (va_up A 6 vv))) (vv + 1) (by omega) (by omega) (fun j hj => by have := hT1 j; simp only [va_up]; by_cases h1 : j = 4 + vv <;> by_cases h2 : j = vv <;> simp only [h1, h2, if_true, if_false] <;> first | (exfalso; omega) | (simp only [hT]; rw [if_neg (by omega), show 4 + vv - 4 = vv by omega]) | (rw [if_neg (by omega)]; simp only [hT]; rw [if_pos (by omega)]) | (simp only [hT]; rw [if_pos (by omega)]) | exact this (by omega))
          refine j_locals hJ [1, 2, 3, 4, 0] rfl ?_
          exact L_36 ((4 - 0) + 1) Hd Ts 0 (Nat.lt_succ_self _) (by omega) (fun j hj => by omega)
        · skip
          refine j_aload_n hJ (q := 27) dX9_hands_26 rfl 0 rfl rfl ?_
          refine j_bipush hJ (q := 29) dX9_hands_27 rfl kb_m10 ?_
          refine j_vW hJ (q := 32) (rest := []) (As := [.int (zI (-10))]) (wr := [(q 0, ia Z 266 (ni A)), (q 4, ia Z 58 (ni Hd)), (q 6, ia Z 8 (ni Ts))]) jl_X9_73 (c_X9_bad Z h q ab be bl ta tl tk va Rf (-10) ) 0 rfl rfl dX9_hands_29 rfl (by decide) (Nat.le_of_ble_eq_true rfl) [0, 4] [1, 2, 3] rfl rfl rfl rfl (by decide) rfl (fun rv wv hp => ?_)
          obtain ⟨rfl, rfl⟩ := hp
          refine j_world hJ (ws' := [mO h q ab be bl ta tl tk va, (q 0, ia Z 266 (ni A)), (q 4, ia Z 58 (ni Hd)), (q 6, ia Z 8 (ni Ts)), (q 3, ia Z 3 (ni (va_up Rf 0 (Rf 0 + 1))))]) [3, 0, 1, 2, 4] rfl rfl ?_
          show J 32 [(0, .ref h), (1, .int a), (2, .int b), (3, .int c)] [.int (zI (-10))] [mO h q ab be bl ta tl tk va, (q 0, ia Z 266 (ni A)), (q 4, ia Z 58 (ni Hd)), (q 6, ia Z 8 (ni Ts)), (q 3, ia Z 3 (ni (va_up Rf 0 (Rf 0 + 1))))] 0 0
          have hP : ¬ (pHands A a b c) := by simp only [rgI, isS, isR, pNote, pMark, pFast, pLever, pHands, pSlip, pEven]; omega
          exact hE.1 _ _ _ _ _ _ _ rfl rfl dX9_hands_32 (Nat.le_refl _) (Nat.le_refl _) (⟨Hd, Ts, congrArg (fun z => some (Value.int (zI z))) (by simp only [z_hands, if_neg hP, bmp]), by simp only [z_hands, if_neg hP, bmp]⟩)

set_option maxHeartbeats 4000000 in
set_option maxRecDepth 100000 in
theorem c_X9_slip (Z : jZ) (h : Nat) (q : Nat → Nat) (ab : Int) (be : Int) (bl : Nat) (ta : Nat) (tl : Nat) (tk : Nat) (va : Nat) (A : Nat → Nat) (Hd : Nat → Nat) (Rf : Nat → Nat) (a : Int32) (b : Int32) (c : Int32) (d : Int32) (hg : wg A) : CT Z yX9_slip cX9_slip 14 ((some FieldType.int)) 6 0 0 [.ref h, .int a, .int b, .int c, .int d] [mO h q ab be bl ta tl tk va, (q 0, ia Z 266 (ni A)), (q 4, ia Z 58 (ni Hd)), (q 3, ia Z 3 (ni Rf))] (fun rr ww => ∃ Hx : Nat → Nat, rr = some (.int (zI (z_slip A a b c d))) ∧ ww = [mO h q (ab_slip A ab a b c d) (be_slip A be a b c d) bl ta tl tk va, (q 0, ia Z 266 (ni A)), (q 4, ia Z 58 (ni Hx)), (q 3, ia Z 3 (ni (if pSlip A a b c d then Rf else bmp Rf 0)))]) := by
  refine CT.of RX9 false rfl (fun h => by cases h) (by decide +kernel) (Nat.le_of_ble_eq_true rfl) ?_
  intro J hJ hE
  show J 0 [(0, .ref h), (1, .int a), (2, .int b), (3, .int c), (4, .int d)] [] [mO h q ab be bl ta tl tk va, (q 0, ia Z 266 (ni A)), (q 4, ia Z 58 (ni Hd)), (q 3, ia Z 3 (ni Rf))] 0 0
  obtain ⟨hw, ⟨g1, g2, g3, g4, g8⟩, hrs, hrn, hrm, hpst⟩ := id hg
  obtain ⟨⟨w1, w2, w3, w4, w5, w6⟩, wb, wr, wh, wd⟩ := id hw
  have hb := wb
  have hr_a := zI_rng a
  have hr_b := zI_rng b
  have hr_c := zI_rng c
  have hr_d := zI_rng d
  refine j_aload_n hJ (q := 1) dX9_slip_0 rfl 0 rfl rfl ?_
  refine j_iload_n hJ (q := 2) dX9_slip_1 rfl 1 rfl rfl ?_
  refine j_vR hJ (q := 5) (rest := []) (As := [.int a]) jl_X9_129 (c_X9_isRider Z h q ab be bl ta tl tk va A a (by omega)) 0 rfl rfl dX9_slip_2 rfl (by decide) (Nat.le_of_ble_eq_true rfl) [0, 1] rfl rfl (fun rv hp => ?_)
  obtain rfl := hp
  show J 5 [(0, .ref h), (1, .int a), (2, .int b), (3, .int c), (4, .int d)] [.int (bI (decide (0 ≤ a.toInt ∧ a.toInt ≤ (A 0 : Int) - 1)))] [mO h q ab be bl ta tl tk va, (q 0, ia Z 266 (ni A)), (q 4, ia Z 58 (ni Hd)), (q 3, ia Z 3 (ni Rf))] 0 0
  refine jp_if_eq hJ (q := 8) (tgt := 45) dX9_slip_5 (by decide) rfl (fun c1 => ?_) (fun c1 => ?_)
  · skip
    refine j_aload_n hJ (q := 46) dX9_slip_45 rfl 0 rfl rfl ?_
    refine j_bipush hJ (q := 48) dX9_slip_46 rfl kb_m2 ?_
    refine j_vW hJ (q := 51) (rest := []) (As := [.int (zI (-2))]) (wr := [(q 0, ia Z 266 (ni A)), (q 4, ia Z 58 (ni Hd))]) jl_X9_73 (c_X9_bad Z h q ab be bl ta tl tk va Rf (-2) ) 0 rfl rfl dX9_slip_48 rfl (by decide) (Nat.le_of_ble_eq_true rfl) [0, 3] [1, 2] rfl rfl rfl rfl (by decide) rfl (fun rv wv hp => ?_)
    obtain ⟨rfl, rfl⟩ := hp
    refine j_world hJ (ws' := [mO h q ab be bl ta tl tk va, (q 0, ia Z 266 (ni A)), (q 4, ia Z 58 (ni Hd)), (q 3, ia Z 3 (ni (va_up Rf 0 (Rf 0 + 1))))]) [2, 0, 1, 3] rfl rfl ?_
    show J 51 [(0, .ref h), (1, .int a), (2, .int b), (3, .int c), (4, .int d)] [.int (zI (-2))] [mO h q ab be bl ta tl tk va, (q 0, ia Z 266 (ni A)), (q 4, ia Z 58 (ni Hd)), (q 3, ia Z 3 (ni (va_up Rf 0 (Rf 0 + 1))))] 0 0
    have hP : ¬ (pSlip A a b c d) := by simp only [rgI, isS, isR, pNote, pMark, pFast, pLever, pHands, pSlip, pEven]; omega
    exact hE.1 _ _ _ _ _ _ _ rfl rfl dX9_slip_51 (Nat.le_refl _) (Nat.le_refl _) (⟨Hd, congrArg (fun z => some (Value.int (zI z))) (by simp only [z_slip, ab_slip, be_slip, if_neg hP, bmp]), by simp only [z_slip, ab_slip, be_slip, if_neg hP, bmp]⟩)
  · skip
    refine j_iload_n hJ (q := 9) dX9_slip_8 rfl 2 rfl rfl ?_
    refine j_i2l hJ (q := 10) dX9_slip_9 rfl (zL_i _ (zI_of b) (zI_rng b)) ?_
    refine j_lconst hJ (q := 11) (v := zL 0) dX9_slip_10 rfl rfl ?_
    refine j_ldc2 hJ (q := 14) (v' := zL 99) dX9_slip_11 tm_998 rfl rfl ?_
    refine j_sR hJ (q := 17) (rest := []) (As := [.long (zL b.toInt), .long (zL 0), .long (zL 99)]) jl_X9_53 (c_X9_in Z b.toInt 0 99 (by omega) (by omega) (by omega)) dX9_slip_14 rfl (by decide) (Nat.le_of_ble_eq_true rfl) [] rfl rfl (fun rv hp => ?_)
    obtain rfl := hp
    show J 17 [(0, .ref h), (1, .int a), (2, .int b), (3, .int c), (4, .int d)] [.int (bI (decide (0 ≤ b.toInt ∧ b.toInt ≤ 99)))] [mO h q ab be bl ta tl tk va, (q 0, ia Z 266 (ni A)), (q 4, ia Z 58 (ni Hd)), (q 3, ia Z 3 (ni Rf))] 0 0
    refine jp_if_eq hJ (q := 20) (tgt := 45) dX9_slip_17 (by decide) rfl (fun c2 => ?_) (fun c2 => ?_)
    · skip
      refine j_aload_n hJ (q := 46) dX9_slip_45 rfl 0 rfl rfl ?_
      refine j_bipush hJ (q := 48) dX9_slip_46 rfl kb_m2 ?_
      refine j_vW hJ (q := 51) (rest := []) (As := [.int (zI (-2))]) (wr := [(q 0, ia Z 266 (ni A)), (q 4, ia Z 58 (ni Hd))]) jl_X9_73 (c_X9_bad Z h q ab be bl ta tl tk va Rf (-2) ) 0 rfl rfl dX9_slip_48 rfl (by decide) (Nat.le_of_ble_eq_true rfl) [0, 3] [1, 2] rfl rfl rfl rfl (by decide) rfl (fun rv wv hp => ?_)
      obtain ⟨rfl, rfl⟩ := hp
      refine j_world hJ (ws' := [mO h q ab be bl ta tl tk va, (q 0, ia Z 266 (ni A)), (q 4, ia Z 58 (ni Hd)), (q 3, ia Z 3 (ni (va_up Rf 0 (Rf 0 + 1))))]) [2, 0, 1, 3] rfl rfl ?_
      show J 51 [(0, .ref h), (1, .int a), (2, .int b), (3, .int c), (4, .int d)] [.int (zI (-2))] [mO h q ab be bl ta tl tk va, (q 0, ia Z 266 (ni A)), (q 4, ia Z 58 (ni Hd)), (q 3, ia Z 3 (ni (va_up Rf 0 (Rf 0 + 1))))] 0 0
      have hP : ¬ (pSlip A a b c d) := by simp only [rgI, isS, isR, pNote, pMark, pFast, pLever, pHands, pSlip, pEven]; omega
      exact hE.1 _ _ _ _ _ _ _ rfl rfl dX9_slip_51 (Nat.le_refl _) (Nat.le_refl _) (⟨Hd, congrArg (fun z => some (Value.int (zI z))) (by simp only [z_slip, ab_slip, be_slip, if_neg hP, bmp]), by simp only [z_slip, ab_slip, be_slip, if_neg hP, bmp]⟩)
    · skip
      refine j_iload_n hJ (q := 21) dX9_slip_20 rfl 3 rfl rfl ?_
      refine j_i2l hJ (q := 22) dX9_slip_21 rfl (zL_i _ (zI_of c) (zI_rng c)) ?_
      refine j_lconst hJ (q := 23) (v := zL 0) dX9_slip_22 rfl rfl ?_
      refine j_ldc2 hJ (q := 26) (v' := zL 6) dX9_slip_23 tm_946 rfl rfl ?_
      refine j_sR hJ (q := 29) (rest := []) (As := [.long (zL c.toInt), .long (zL 0), .long (zL 6)]) jl_X9_53 (c_X9_in Z c.toInt 0 6 (by omega) (by omega) (by omega)) dX9_slip_26 rfl (by decide) (Nat.le_of_ble_eq_true rfl) [] rfl rfl (fun rv hp => ?_)
      obtain rfl := hp
      show J 29 [(0, .ref h), (1, .int a), (2, .int b), (3, .int c), (4, .int d)] [.int (bI (decide (0 ≤ c.toInt ∧ c.toInt ≤ 6)))] [mO h q ab be bl ta tl tk va, (q 0, ia Z 266 (ni A)), (q 4, ia Z 58 (ni Hd)), (q 3, ia Z 3 (ni Rf))] 0 0
      refine jp_if_eq hJ (q := 32) (tgt := 45) dX9_slip_29 (by decide) rfl (fun c3 => ?_) (fun c3 => ?_)
      · skip
        refine j_aload_n hJ (q := 46) dX9_slip_45 rfl 0 rfl rfl ?_
        refine j_bipush hJ (q := 48) dX9_slip_46 rfl kb_m2 ?_
        refine j_vW hJ (q := 51) (rest := []) (As := [.int (zI (-2))]) (wr := [(q 0, ia Z 266 (ni A)), (q 4, ia Z 58 (ni Hd))]) jl_X9_73 (c_X9_bad Z h q ab be bl ta tl tk va Rf (-2) ) 0 rfl rfl dX9_slip_48 rfl (by decide) (Nat.le_of_ble_eq_true rfl) [0, 3] [1, 2] rfl rfl rfl rfl (by decide) rfl (fun rv wv hp => ?_)
        obtain ⟨rfl, rfl⟩ := hp
        refine j_world hJ (ws' := [mO h q ab be bl ta tl tk va, (q 0, ia Z 266 (ni A)), (q 4, ia Z 58 (ni Hd)), (q 3, ia Z 3 (ni (va_up Rf 0 (Rf 0 + 1))))]) [2, 0, 1, 3] rfl rfl ?_
        show J 51 [(0, .ref h), (1, .int a), (2, .int b), (3, .int c), (4, .int d)] [.int (zI (-2))] [mO h q ab be bl ta tl tk va, (q 0, ia Z 266 (ni A)), (q 4, ia Z 58 (ni Hd)), (q 3, ia Z 3 (ni (va_up Rf 0 (Rf 0 + 1))))] 0 0
        have hP : ¬ (pSlip A a b c d) := by simp only [rgI, isS, isR, pNote, pMark, pFast, pLever, pHands, pSlip, pEven]; omega
        exact hE.1 _ _ _ _ _ _ _ rfl rfl dX9_slip_51 (Nat.le_refl _) (Nat.le_refl _) (⟨Hd, congrArg (fun z => some (Value.int (zI z))) (by simp only [z_slip, ab_slip, be_slip, if_neg hP, bmp]), by simp only [z_slip, ab_slip, be_slip, if_neg hP, bmp]⟩)
      · skip
        refine j_iload hJ (q := 34) dX9_slip_32 4 rfl rfl ?_
        refine j_i2l hJ (q := 35) dX9_slip_34 rfl (zL_i _ (zI_of d) (zI_rng d)) ?_
        refine j_lconst hJ (q := 36) (v := zL 0) dX9_slip_35 rfl rfl ?_
        refine j_ldc2 hJ (q := 39) (v' := zL 10) dX9_slip_36 tm_1081 rfl rfl ?_
        refine j_sR hJ (q := 42) (rest := []) (As := [.long (zL d.toInt), .long (zL 0), .long (zL 10)]) jl_X9_53 (c_X9_in Z d.toInt 0 10 (by omega) (by omega) (by omega)) dX9_slip_39 rfl (by decide) (Nat.le_of_ble_eq_true rfl) [] rfl rfl (fun rv hp => ?_)
        obtain rfl := hp
        show J 42 [(0, .ref h), (1, .int a), (2, .int b), (3, .int c), (4, .int d)] [.int (bI (decide (0 ≤ d.toInt ∧ d.toInt ≤ 10)))] [mO h q ab be bl ta tl tk va, (q 0, ia Z 266 (ni A)), (q 4, ia Z 58 (ni Hd)), (q 3, ia Z 3 (ni Rf))] 0 0
        refine jp_if_ne hJ (q := 45) (tgt := 52) dX9_slip_42 (by decide) rfl (fun c4 => ?_) (fun c4 => ?_)
        · skip
          have hn_a := nt_cast (x := a) (by omega)
          refine j_eql (lvs' := [(0, .ref h), (1, .int (nI (nt a))), (2, .int b), (3, .int c), (4, .int d)]) (by rw [← nt_eq (x := a) (by omega)]) ?_
          have hn_b := nt_cast (x := b) (by omega)
          refine j_eql (lvs' := [(0, .ref h), (1, .int (nI (nt a))), (2, .int (nI (nt b))), (3, .int c), (4, .int d)]) (by rw [← nt_eq (x := b) (by omega)]) ?_
          have hn_c := nt_cast (x := c) (by omega)
          refine j_eql (lvs' := [(0, .ref h), (1, .int (nI (nt a))), (2, .int (nI (nt b))), (3, .int (nI (nt c))), (4, .int d)]) (by rw [← nt_eq (x := c) (by omega)]) ?_
          have hn_d := nt_cast (x := d) (by omega)
          refine j_eql (lvs' := [(0, .ref h), (1, .int (nI (nt a))), (2, .int (nI (nt b))), (3, .int (nI (nt c))), (4, .int (nI (nt d)))]) (by rw [← nt_eq (x := d) (by omega)]) ?_
          refine j_lconst hJ (q := 53) (v := zL 0) dX9_slip_52 rfl rfl ?_
          refine j_lstore hJ (q := 55) (lvs' := [(5, .long (zL 0)), (0, .ref h), (1, .int (nI (nt a))), (2, .int (nI (nt b))), (3, .int (nI (nt c))), (4, .int (nI (nt d)))]) dX9_slip_53 (by decide) rfl rfl ?_
          refine j_lconst hJ (q := 56) (v := zL 1) dX9_slip_55 rfl rfl ?_
          refine j_lstore hJ (q := 58) (lvs' := [(7, .long (zL 1)), (5, .long (zL 0)), (0, .ref h), (1, .int (nI (nt a))), (2, .int (nI (nt b))), (3, .int (nI (nt c))), (4, .int (nI (nt d)))]) dX9_slip_56 (by decide) rfl rfl ?_
          refine j_iconst hJ (q := 59) dX9_slip_58 rfl ki_0 ?_
          refine j_istore hJ (q := 61) (lvs' := [(9, .int (nI 0)), (7, .long (zL 1)), (5, .long (zL 0)), (0, .ref h), (1, .int (nI (nt a))), (2, .int (nI (nt b))), (3, .int (nI (nt c))), (4, .int (nI (nt d)))]) dX9_slip_59 (by decide) rfl rfl ?_
          have L_61 : ∀ (fu_61 : Nat) (wh_ : Int) (k0 : Nat), nt c - k0 < fu_61 → (k0 ≤ nt c) → (wh_ = p10 k0) → J 61 [(0, .ref h), (1, .int (nI (nt a))), (2, .int (nI (nt b))), (3, .int (nI (nt c))), (4, .int (nI (nt d))), (5, .long (zL 0)), (7, .long (zL wh_)), (9, .int (nI k0))] [] [mO h q ab be bl ta tl tk va, (q 0, ia Z 266 (ni A)), (q 4, ia Z 58 (ni Hd)), (q 3, ia Z 3 (ni Rf))] 0 0 := by
            intro fu_61
            induction fu_61 with
            | zero => intro wh_ k0 hm; exact absurd hm (Nat.not_lt_zero _)
            | succ fu_61 ih_61 =>
              intro wh_ k0 hm_61 hk0 hW
              refine j_iload hJ (q := 63) dX9_slip_61 7 rfl rfl ?_
              refine j_iload_n hJ (q := 64) dX9_slip_63 rfl 3 rfl rfl ?_
              refine jn_icmp_ge hJ (q := 67) (tgt := 81) dX9_slip_64 (by decide) rfl (by omega) (by omega) (fun c5 => ?_) (fun c5 => ?_)
              · skip
                have hpw : 2 ^ nt c ≤ 64 := show 2 ^ nt c ≤ 2 ^ 6 from Nat.pow_le_pow_right (by decide) (by omega)
                refine j_iconst hJ (q := 82) dX9_slip_81 rfl ki_0 ?_
                refine j_istore hJ (q := 84) (lvs' := [(9, .int (nI 0)), (0, .ref h), (1, .int (nI (nt a))), (2, .int (nI (nt b))), (3, .int (nI (nt c))), (4, .int (nI (nt d))), (5, .long (zL 0)), (7, .long (zL wh_))]) dX9_slip_82 (by decide) rfl rfl ?_
                have L_84 : ∀ (fu_84 : Nat) (B : Nat → Nat) (sm : Int) (ss : Nat), 2 ^ nt c - ss < fu_84 → (ss ≤ 2 ^ nt c) → (sm = ssum A (nt a) (nt b) (nt c) (nt d) ss) → J 84 [(0, .ref h), (1, .int (nI (nt a))), (2, .int (nI (nt b))), (3, .int (nI (nt c))), (4, .int (nI (nt d))), (5, .long (zL sm)), (7, .long (zL wh_)), (9, .int (nI ss))] [] [mO h q ab be bl ta tl tk va, (q 0, ia Z 266 (ni A)), (q 4, ia Z 58 (ni B)), (q 3, ia Z 3 (ni Rf))] 0 0 := by
                  intro fu_84
                  induction fu_84 with
                  | zero => intro B sm ss hm; exact absurd hm (Nat.not_lt_zero _)
                  | succ fu_84 ih_84 =>
                    intro B sm ss hm_84 hss hS
                    refine j_iload hJ (q := 86) dX9_slip_84 7 rfl rfl ?_
                    refine j_iconst hJ (q := 87) dX9_slip_86 rfl ki_1 ?_
                    refine j_iload_n hJ (q := 88) dX9_slip_87 rfl 3 rfl rfl ?_
                    refine j_ishl hJ (q := 89) dX9_slip_88 rfl (nI_shl (by omega) (by omega)) ?_
                    refine jn_icmp_ge hJ (q := 92) (tgt := 187) dX9_slip_89 (by decide) rfl (by omega) (by omega) (fun c6 => ?_) (fun c6 => ?_)
                    · skip
                      have hsb := ssum_b (A := A) (i := nt a) (x := nt b) (n := nt c) (c := nt d) (by omega) (by omega) ss
                      rw [← hS] at hsb
                      have hp1 := p10_le k0 (by omega)
                      rw [← hW] at hp1
                      refine j_aload_n hJ (q := 188) dX9_slip_187 rfl 0 rfl rfl ?_
                      refine j_lload hJ (q := 190) dX9_slip_188 5 rfl rfl ?_
                      refine j_lload hJ (q := 192) dX9_slip_190 6 rfl rfl ?_
                      refine j_vW hJ (q := 195) (rest := []) (As := [.long (zL sm), .long (zL wh_)]) (wr := [(q 0, ia Z 266 (ni A)), (q 4, ia Z 58 (ni B)), (q 3, ia Z 3 (ni Rf))]) jl_X9_192 (c_X9_fraction Z h q ab be bl ta tl tk va sm wh_ (by omega) (by omega)) 0 rfl rfl dX9_slip_192 rfl (by decide) (Nat.le_of_ble_eq_true rfl) [0] [1, 2, 3] rfl rfl rfl rfl (by decide) rfl (fun rv wv hp => ?_)
                      obtain ⟨rfl, rfl⟩ := hp
                      refine j_world hJ (ws' := [mO h q (sm / (Int.gcd sm wh_ : Int)) (wh_ / (Int.gcd sm wh_ : Int)) bl ta tl tk va, (q 0, ia Z 266 (ni A)), (q 4, ia Z 58 (ni B)), (q 3, ia Z 3 (ni Rf))]) [3, 0, 1, 2] rfl rfl ?_
                      show J 195 [(0, .ref h), (1, .int (nI (nt a))), (2, .int (nI (nt b))), (3, .int (nI (nt c))), (4, .int (nI (nt d))), (5, .long (zL sm)), (7, .long (zL wh_)), (9, .int (nI ss))] [] [mO h q (sm / (Int.gcd sm wh_ : Int)) (wh_ / (Int.gcd sm wh_ : Int)) bl ta tl tk va, (q 0, ia Z 266 (ni A)), (q 4, ia Z 58 (ni B)), (q 3, ia Z 3 (ni Rf))] 0 0
                      refine j_iconst hJ (q := 196) dX9_slip_195 rfl ki_1 ?_
                      have hP : pSlip A a b c d := by simp only [rgI, isS, isR, pNote, pMark, pFast, pLever, pHands, pSlip, pEven]; omega
                      exact hE.1 _ _ _ _ _ _ _ rfl rfl dX9_slip_196 (Nat.le_refl _) (Nat.le_refl _) (⟨B, congrArg (fun z => some (Value.int z)) ((zI_nat _).symm.trans (congrArg zI (by simp only [z_slip, if_pos hP]; rfl))), by rw [hS, hW, show ss = 1 * 2 ^ nt c by omega, show k0 = nt c by omega]; simp only [ab_slip, be_slip, s_slip, if_pos hP]⟩)
                    · skip
                      refine j_lconst hJ (q := 93) (v := zL 1) dX9_slip_92 rfl rfl ?_
                      refine j_lstore hJ (q := 95) (lvs' := [(10, .long (zL 1)), (0, .ref h), (1, .int (nI (nt a))), (2, .int (nI (nt b))), (3, .int (nI (nt c))), (4, .int (nI (nt d))), (5, .long (zL sm)), (7, .long (zL wh_)), (9, .int (nI ss))]) dX9_slip_93 (by decide) rfl rfl ?_
                      refine j_aload_n hJ (q := 96) dX9_slip_95 rfl 1 rfl rfl ?_
                      refine j_vW hJ (q := 99) (rest := []) (As := []) (wr := [(q 3, ia Z 3 (ni Rf))]) jl_X9_139 (c_X9_layHand Z h q ab be bl ta tl tk va A B ) 0 rfl rfl dX9_slip_96 rfl (by decide) (Nat.le_of_ble_eq_true rfl) [0, 1, 2] [3] rfl rfl rfl rfl (by decide) rfl (fun rv wv hp => ?_)
                      obtain ⟨rfl, rfl⟩ := hp
                      refine j_world hJ (ws' := [mO h q ab be bl ta tl tk va, (q 0, ia Z 266 (ni A)), (q 4, ia Z 58 (ni A)), (q 3, ia Z 3 (ni Rf))]) [1, 2, 3, 0] rfl rfl ?_
                      show J 99 [(10, .long (zL 1)), (0, .ref h), (1, .int (nI (nt a))), (2, .int (nI (nt b))), (3, .int (nI (nt c))), (4, .int (nI (nt d))), (5, .long (zL sm)), (7, .long (zL wh_)), (9, .int (nI ss))] [] [mO h q ab be bl ta tl tk va, (q 0, ia Z 266 (ni A)), (q 4, ia Z 58 (ni A)), (q 3, ia Z 3 (ni Rf))] 0 0
                      refine j_iconst hJ (q := 100) dX9_slip_99 rfl ki_0 ?_
                      refine j_istore hJ (q := 102) (lvs' := [(12, .int (nI 0)), (10, .long (zL 1)), (0, .ref h), (1, .int (nI (nt a))), (2, .int (nI (nt b))), (3, .int (nI (nt c))), (4, .int (nI (nt d))), (5, .long (zL sm)), (7, .long (zL wh_)), (9, .int (nI ss))]) dX9_slip_100 (by decide) rfl rfl ?_
                      have L_102 : ∀ (fu_102 : Nat) (B : Nat → Nat) (cs : Int) (k : Nat), nt c - k < fu_102 → (k ≤ nt c) → (cs = (slN A ss (nt d) k).1) → (B = (slN A ss (nt d) k).2) → J 102 [(0, .ref h), (1, .int (nI (nt a))), (2, .int (nI (nt b))), (3, .int (nI (nt c))), (4, .int (nI (nt d))), (5, .long (zL sm)), (7, .long (zL wh_)), (9, .int (nI ss)), (10, .long (zL cs)), (12, .int (nI k))] [] [mO h q ab be bl ta tl tk va, (q 0, ia Z 266 (ni A)), (q 4, ia Z 58 (ni B)), (q 3, ia Z 3 (ni Rf))] 0 0 := by
                        intro fu_102
                        induction fu_102 with
                        | zero => intro B cs k hm; exact absurd hm (Nat.not_lt_zero _)
                        | succ fu_102 ih_102 =>
                          intro B cs k hm_102 hk hC1 hC2
                          have hwB : wf B := by rw [hC2]; exact wf_slN hw k (by omega)
                          have hB8 : B 8 = A 8 + k := by rw [hC2]; exact slN_8 k
                          refine j_iload hJ (q := 104) dX9_slip_102 9 rfl rfl ?_
                          refine j_iload_n hJ (q := 105) dX9_slip_104 rfl 3 rfl rfl ?_
                          refine jn_icmp_ge hJ (q := 108) (tgt := 157) dX9_slip_105 (by decide) rfl (by omega) (by omega) (fun c7 => ?_) (fun c7 => ?_)
                          · skip
                            have hBb := hwB.2.1 (9 + nt a)
                            refine j_lload hJ (q := 159) dX9_slip_157 5 rfl rfl ?_
                            refine j_aload_n hJ (q := 160) dX9_slip_159 rfl 0 rfl rfl ?_
                            refine j_get hJ (q := 163) jf_X9_27 dX9_slip_160 0 rfl rfl rfl ?_
                            refine j_bipush hJ (q := 165) dX9_slip_163 rfl kb_9 ?_
                            refine j_iload_n hJ (q := 166) dX9_slip_165 rfl 1 rfl rfl ?_
                            refine j_iadd hJ (q := 167) dX9_slip_166 rfl (nI_add _ _) ?_
                            refine j_ialdN hJ (q := 168) (z := nI (B (9 + (nt a)))) dX9_slip_167 2 rfl (by omega) (by decide) rfl rfl ?_
                            refine j_iload_n hJ (q := 169) dX9_slip_168 rfl 2 rfl rfl ?_
                            refine jn_icmp_lt hJ (q := 172) (tgt := 177) dX9_slip_169 (by decide) rfl (by omega) (by omega) (fun c8 => ?_) (fun c8 => ?_)
                            · skip
                              refine j_lconst hJ (q := 178) (v := zL 0) dX9_slip_177 rfl rfl ?_
                              refine j_ladd hJ (q := 179) dX9_slip_178 rfl (zL_add _ _) ?_
                              refine j_lstore hJ (q := 181) (lvs' := [(5, .long (zL (sm + 0))), (0, .ref h), (1, .int (nI (nt a))), (2, .int (nI (nt b))), (3, .int (nI (nt c))), (4, .int (nI (nt d))), (7, .long (zL wh_)), (9, .int (nI ss)), (10, .long (zL cs)), (12, .int (nI k))]) dX9_slip_179 (by decide) rfl rfl ?_
                              refine j_iinc hJ (q := 184) (lvs' := [(9, .int (nI (ss + 1))), (5, .long (zL (sm + 0))), (0, .ref h), (1, .int (nI (nt a))), (2, .int (nI (nt b))), (3, .int (nI (nt c))), (4, .int (nI (nt d))), (7, .long (zL wh_)), (10, .long (zL cs)), (12, .int (nI k))]) dX9_slip_181 7 rfl (by rw [show Int32.ofInt 1 = nI 1 from by decide +kernel]; exact nI_add _ _) (by decide) rfl rfl ?_
                              refine j_goto hJ (q := 84) dX9_slip_184 (by decide) ?_
                              refine j_locals hJ [2, 3, 4, 5, 6, 1, 7, 0] rfl ?_
                              exact ih_84 B (sm + 0) (ss + 1) (by omega) (by omega) (by have hc1 : cs = (slN A ss (nt d) (nt c)).1 := (by rw [hC1, show k = nt c by omega]); have hc2 : B = (slN A ss (nt d) (nt c)).2 := (by rw [hC2, show k = nt c by omega]); simp only [ssum]; rw [← hc1, ← hc2, ← hS]; split <;> omega)
                            · skip
                              refine j_lload hJ (q := 174) dX9_slip_172 8 rfl rfl ?_
                              refine j_goto hJ (q := 178) dX9_slip_174 (by decide) ?_
                              refine j_ladd hJ (q := 179) dX9_slip_178 rfl (zL_add _ _) ?_
                              refine j_lstore hJ (q := 181) (lvs' := [(5, .long (zL (sm + cs))), (0, .ref h), (1, .int (nI (nt a))), (2, .int (nI (nt b))), (3, .int (nI (nt c))), (4, .int (nI (nt d))), (7, .long (zL wh_)), (9, .int (nI ss)), (10, .long (zL cs)), (12, .int (nI k))]) dX9_slip_179 (by decide) rfl rfl ?_
                              refine j_iinc hJ (q := 184) (lvs' := [(9, .int (nI (ss + 1))), (5, .long (zL (sm + cs))), (0, .ref h), (1, .int (nI (nt a))), (2, .int (nI (nt b))), (3, .int (nI (nt c))), (4, .int (nI (nt d))), (7, .long (zL wh_)), (10, .long (zL cs)), (12, .int (nI k))]) dX9_slip_181 7 rfl (by rw [show Int32.ofInt 1 = nI 1 from by decide +kernel]; exact nI_add _ _) (by decide) rfl rfl ?_
                              refine j_goto hJ (q := 84) dX9_slip_184 (by decide) ?_
                              refine j_locals hJ [2, 3, 4, 5, 6, 1, 7, 0] rfl ?_
                              exact ih_84 B (sm + cs) (ss + 1) (by omega) (by omega) (by have hc1 : cs = (slN A ss (nt d) (nt c)).1 := (by rw [hC1, show k = nt c by omega]); have hc2 : B = (slN A ss (nt d) (nt c)).2 := (by rw [hC2, show k = nt c by omega]); simp only [ssum]; rw [← hc1, ← hc2, ← hS]; split <;> omega)
                          · skip
                            refine j_lload hJ (q := 110) dX9_slip_108 8 rfl rfl ?_
                            refine j_iload hJ (q := 112) dX9_slip_110 7 rfl rfl ?_
                            refine j_iload hJ (q := 114) dX9_slip_112 9 rfl rfl ?_
                            refine j_sR hJ (q := 117) (rest := [.long (zL cs)]) (As := [.int (nI ss), .int (nI k)]) jl_X9_157 (c_X9_has Z ss k (by omega) (by omega)) dX9_slip_114 rfl (by decide) (Nat.le_of_ble_eq_true rfl) [] rfl rfl (fun rv hp => ?_)
                            obtain rfl := hp
                            show J 117 [(0, .ref h), (1, .int (nI (nt a))), (2, .int (nI (nt b))), (3, .int (nI (nt c))), (4, .int (nI (nt d))), (5, .long (zL sm)), (7, .long (zL wh_)), (9, .int (nI ss)), (10, .long (zL cs)), (12, .int (nI k))] [.int (bI (decide (ss / 2 ^ k % 2 = 1))), .long (zL cs)] [mO h q ab be bl ta tl tk va, (q 0, ia Z 266 (ni A)), (q 4, ia Z 58 (ni B)), (q 3, ia Z 3 (ni Rf))] 0 0
                            refine jp_if_eq hJ (q := 120) (tgt := 126) dX9_slip_117 (by decide) rfl (fun c9 => ?_) (fun c9 => ?_)
                            · skip
                              refine j_bipush hJ (q := 128) dX9_slip_126 rfl kb_10 ?_
                              refine j_iload hJ (q := 130) dX9_slip_128 4 rfl rfl ?_
                              refine j_isub hJ (q := 131) dX9_slip_130 rfl (pk_sub (by omega)) ?_
                              refine j_i2l hJ (q := 132) dX9_slip_131 rfl (zL_i _ (zI_nat (10 - (nt d))).symm (by omega)) ?_
                              refine j_lmul hJ (q := 133) dX9_slip_132 rfl (zL_mul _ _) ?_
                              refine j_lstore hJ (q := 135) (lvs' := [(10, .long (zL (cs * ((10 - (nt d) : Nat) : Int)))), (0, .ref h), (1, .int (nI (nt a))), (2, .int (nI (nt b))), (3, .int (nI (nt c))), (4, .int (nI (nt d))), (5, .long (zL sm)), (7, .long (zL wh_)), (9, .int (nI ss)), (12, .int (nI k))]) dX9_slip_133 (by decide) rfl rfl ?_
                              refine j_aload_n hJ (q := 136) dX9_slip_135 rfl 1 rfl rfl ?_
                              refine j_get hJ (q := 139) jf_X9_27 dX9_slip_136 0 rfl rfl rfl ?_
                              refine j_iload hJ (q := 141) dX9_slip_139 8 rfl rfl ?_
                              refine j_iload hJ (q := 143) dX9_slip_141 9 rfl rfl ?_
                              refine j_sR hJ (q := 146) (rest := [.ref (q 4)]) (As := [.int (nI ss), .int (nI k)]) jl_X9_157 (c_X9_has Z ss k (by omega) (by omega)) dX9_slip_143 rfl (by decide) (Nat.le_of_ble_eq_true rfl) [] rfl rfl (fun rv hp => ?_)
                              obtain rfl := hp
                              show J 146 [(10, .long (zL (cs * ((10 - (nt d) : Nat) : Int)))), (0, .ref h), (1, .int (nI (nt a))), (2, .int (nI (nt b))), (3, .int (nI (nt c))), (4, .int (nI (nt d))), (5, .long (zL sm)), (7, .long (zL wh_)), (9, .int (nI ss)), (12, .int (nI k))] [.int (bI (decide (ss / 2 ^ k % 2 = 1))), .ref (q 4)] [mO h q ab be bl ta tl tk va, (q 0, ia Z 266 (ni A)), (q 4, ia Z 58 (ni B)), (q 3, ia Z 3 (ni Rf))] 0 0
                              refine j_sW hJ (q := 149) (rest := []) (As := [.ref (q 4), .int (bI (decide (ss / 2 ^ k % 2 = 1)))]) (wr := [mO h q ab be bl ta tl tk va, (q 0, ia Z 266 (ni A)), (q 3, ia Z 3 (ni Rf))]) jl_X9_116 (c_X9_goTick Z (q 4) 58 B (decide (ss / 2 ^ k % 2 = 1)) (by omega) hwB (by omega)) dX9_slip_146 rfl (by decide) (Nat.le_of_ble_eq_true rfl) [2] [0, 1, 3] rfl rfl rfl rfl (by decide) rfl (fun rv wv hp => ?_)
                              obtain ⟨rfl, rfl⟩ := hp
                              refine j_world hJ (ws' := [mO h q ab be bl ta tl tk va, (q 0, ia Z 266 (ni A)), ((q 4), ia Z 58 (ni ((goT B (decide (ss / 2 ^ k % 2 = 1))).2))), (q 3, ia Z 3 (ni Rf))]) [0, 1, 3, 2] rfl rfl ?_
                              show J 149 [(10, .long (zL (cs * ((10 - (nt d) : Nat) : Int)))), (0, .ref h), (1, .int (nI (nt a))), (2, .int (nI (nt b))), (3, .int (nI (nt c))), (4, .int (nI (nt d))), (5, .long (zL sm)), (7, .long (zL wh_)), (9, .int (nI ss)), (12, .int (nI k))] [.int (oI ((goT B (decide (ss / 2 ^ k % 2 = 1))).1))] [mO h q ab be bl ta tl tk va, (q 0, ia Z 266 (ni A)), ((q 4), ia Z 58 (ni ((goT B (decide (ss / 2 ^ k % 2 = 1))).2))), (q 3, ia Z 3 (ni Rf))] 0 0
                              refine j_istore hJ (q := 151) (lvs' := [(13, .int (oI ((goT B (decide (ss / 2 ^ k % 2 = 1))).1))), (10, .long (zL (cs * ((10 - (nt d) : Nat) : Int)))), (0, .ref h), (1, .int (nI (nt a))), (2, .int (nI (nt b))), (3, .int (nI (nt c))), (4, .int (nI (nt d))), (5, .long (zL sm)), (7, .long (zL wh_)), (9, .int (nI ss)), (12, .int (nI k))]) dX9_slip_149 (by decide) rfl rfl ?_
                              refine j_iinc hJ (q := 154) (lvs' := [(12, .int (nI (k + 1))), (13, .int (oI ((goT B (decide (ss / 2 ^ k % 2 = 1))).1))), (10, .long (zL (cs * ((10 - (nt d) : Nat) : Int)))), (0, .ref h), (1, .int (nI (nt a))), (2, .int (nI (nt b))), (3, .int (nI (nt c))), (4, .int (nI (nt d))), (5, .long (zL sm)), (7, .long (zL wh_)), (9, .int (nI ss))]) dX9_slip_151 10 rfl (by rw [show Int32.ofInt 1 = nI 1 from by decide +kernel]; exact nI_add _ _) (by decide) rfl rfl ?_
                              refine j_goto hJ (q := 102) dX9_slip_154 (by decide) ?_
                              refine j_locals hJ [3, 4, 5, 6, 7, 8, 9, 10, 2, 0] rfl ?_
                              exact ih_102 ((goT B (decide (ss / 2 ^ k % 2 = 1))).2) (cs * ((10 - (nt d) : Nat) : Int)) (k + 1) (by omega) (by omega) (by simp only [slN]; rw [hC1, if_neg (by assumption)]) (by simp only [slN]; rw [← hC2])
                            · skip
                              refine j_iload hJ (q := 122) dX9_slip_120 4 rfl rfl ?_
                              refine j_i2l hJ (q := 123) dX9_slip_122 rfl (zL_i _ (zI_nat (nt d)).symm (by omega)) ?_
                              refine j_goto hJ (q := 132) dX9_slip_123 (by decide) ?_
                              refine j_lmul hJ (q := 133) dX9_slip_132 rfl (zL_mul _ _) ?_
                              refine j_lstore hJ (q := 135) (lvs' := [(10, .long (zL (cs * ((nt d) : Int)))), (0, .ref h), (1, .int (nI (nt a))), (2, .int (nI (nt b))), (3, .int (nI (nt c))), (4, .int (nI (nt d))), (5, .long (zL sm)), (7, .long (zL wh_)), (9, .int (nI ss)), (12, .int (nI k))]) dX9_slip_133 (by decide) rfl rfl ?_
                              refine j_aload_n hJ (q := 136) dX9_slip_135 rfl 1 rfl rfl ?_
                              refine j_get hJ (q := 139) jf_X9_27 dX9_slip_136 0 rfl rfl rfl ?_
                              refine j_iload hJ (q := 141) dX9_slip_139 8 rfl rfl ?_
                              refine j_iload hJ (q := 143) dX9_slip_141 9 rfl rfl ?_
                              refine j_sR hJ (q := 146) (rest := [.ref (q 4)]) (As := [.int (nI ss), .int (nI k)]) jl_X9_157 (c_X9_has Z ss k (by omega) (by omega)) dX9_slip_143 rfl (by decide) (Nat.le_of_ble_eq_true rfl) [] rfl rfl (fun rv hp => ?_)
                              obtain rfl := hp
                              show J 146 [(10, .long (zL (cs * ((nt d) : Int)))), (0, .ref h), (1, .int (nI (nt a))), (2, .int (nI (nt b))), (3, .int (nI (nt c))), (4, .int (nI (nt d))), (5, .long (zL sm)), (7, .long (zL wh_)), (9, .int (nI ss)), (12, .int (nI k))] [.int (bI (decide (ss / 2 ^ k % 2 = 1))), .ref (q 4)] [mO h q ab be bl ta tl tk va, (q 0, ia Z 266 (ni A)), (q 4, ia Z 58 (ni B)), (q 3, ia Z 3 (ni Rf))] 0 0
                              refine j_sW hJ (q := 149) (rest := []) (As := [.ref (q 4), .int (bI (decide (ss / 2 ^ k % 2 = 1)))]) (wr := [mO h q ab be bl ta tl tk va, (q 0, ia Z 266 (ni A)), (q 3, ia Z 3 (ni Rf))]) jl_X9_116 (c_X9_goTick Z (q 4) 58 B (decide (ss / 2 ^ k % 2 = 1)) (by omega) hwB (by omega)) dX9_slip_146 rfl (by decide) (Nat.le_of_ble_eq_true rfl) [2] [0, 1, 3] rfl rfl rfl rfl (by decide) rfl (fun rv wv hp => ?_)
                              obtain ⟨rfl, rfl⟩ := hp
                              refine j_world hJ (ws' := [mO h q ab be bl ta tl tk va, (q 0, ia Z 266 (ni A)), ((q 4), ia Z 58 (ni ((goT B (decide (ss / 2 ^ k % 2 = 1))).2))), (q 3, ia Z 3 (ni Rf))]) [0, 1, 3, 2] rfl rfl ?_
                              show J 149 [(10, .long (zL (cs * ((nt d) : Int)))), (0, .ref h), (1, .int (nI (nt a))), (2, .int (nI (nt b))), (3, .int (nI (nt c))), (4, .int (nI (nt d))), (5, .long (zL sm)), (7, .long (zL wh_)), (9, .int (nI ss)), (12, .int (nI k))] [.int (oI ((goT B (decide (ss / 2 ^ k % 2 = 1))).1))] [mO h q ab be bl ta tl tk va, (q 0, ia Z 266 (ni A)), ((q 4), ia Z 58 (ni ((goT B (decide (ss / 2 ^ k % 2 = 1))).2))), (q 3, ia Z 3 (ni Rf))] 0 0
                              refine j_istore hJ (q := 151) (lvs' := [(13, .int (oI ((goT B (decide (ss / 2 ^ k % 2 = 1))).1))), (10, .long (zL (cs * ((nt d) : Int)))), (0, .ref h), (1, .int (nI (nt a))), (2, .int (nI (nt b))), (3, .int (nI (nt c))), (4, .int (nI (nt d))), (5, .long (zL sm)), (7, .long (zL wh_)), (9, .int (nI ss)), (12, .int (nI k))]) dX9_slip_149 (by decide) rfl rfl ?_
                              refine j_iinc hJ (q := 154) (lvs' := [(12, .int (nI (k + 1))), (13, .int (oI ((goT B (decide (ss / 2 ^ k % 2 = 1))).1))), (10, .long (zL (cs * ((nt d) : Int)))), (0, .ref h), (1, .int (nI (nt a))), (2, .int (nI (nt b))), (3, .int (nI (nt c))), (4, .int (nI (nt d))), (5, .long (zL sm)), (7, .long (zL wh_)), (9, .int (nI ss))]) dX9_slip_151 10 rfl (by rw [show Int32.ofInt 1 = nI 1 from by decide +kernel]; exact nI_add _ _) (by decide) rfl rfl ?_
                              refine j_goto hJ (q := 102) dX9_slip_154 (by decide) ?_
                              refine j_locals hJ [3, 4, 5, 6, 7, 8, 9, 10, 2, 0] rfl ?_
                              exact ih_102 ((goT B (decide (ss / 2 ^ k % 2 = 1))).2) (cs * ((nt d) : Int)) (k + 1) (by omega) (by omega) (by simp only [slN]; rw [hC1, if_pos (by assumption)]) (by simp only [slN]; rw [← hC2])
                      refine j_locals hJ [2, 3, 4, 5, 6, 7, 8, 9, 1, 0] rfl ?_
                      exact L_102 ((nt c - 0) + 1) A 1 0 (Nat.lt_succ_self _) (by omega) rfl rfl
                refine j_locals hJ [1, 2, 3, 4, 5, 6, 7, 0] rfl ?_
                exact L_84 ((2 ^ nt c - 0) + 1) Hd 0 0 (Nat.lt_succ_self _) (Nat.zero_le _) rfl
              · skip
                refine j_lload hJ (q := 69) dX9_slip_67 6 rfl rfl ?_
                refine j_ldc2 hJ (q := 72) (v' := zL 10) dX9_slip_69 tm_1081 rfl rfl ?_
                refine j_lmul hJ (q := 73) dX9_slip_72 rfl (zL_mul _ _) ?_
                refine j_lstore hJ (q := 75) (lvs' := [(7, .long (zL (wh_ * 10))), (0, .ref h), (1, .int (nI (nt a))), (2, .int (nI (nt b))), (3, .int (nI (nt c))), (4, .int (nI (nt d))), (5, .long (zL 0)), (9, .int (nI k0))]) dX9_slip_73 (by decide) rfl rfl ?_
                refine j_iinc hJ (q := 78) (lvs' := [(9, .int (nI (k0 + 1))), (7, .long (zL (wh_ * 10))), (0, .ref h), (1, .int (nI (nt a))), (2, .int (nI (nt b))), (3, .int (nI (nt c))), (4, .int (nI (nt d))), (5, .long (zL 0))]) dX9_slip_75 7 rfl (by rw [show Int32.ofInt 1 = nI 1 from by decide +kernel]; exact nI_add _ _) (by decide) rfl rfl ?_
                refine j_goto hJ (q := 61) dX9_slip_78 (by decide) ?_
                refine j_locals hJ [2, 3, 4, 5, 6, 7, 1, 0] rfl ?_
                exact ih_61 (wh_ * 10) (k0 + 1) (by omega) (by omega) (by rw [hW]; rfl)
          refine j_locals hJ [3, 4, 5, 6, 7, 2, 1, 0] rfl ?_
          exact L_61 ((nt c - 0) + 1) 1 0 (Nat.lt_succ_self _) (by omega) rfl
        · skip
          refine j_aload_n hJ (q := 46) dX9_slip_45 rfl 0 rfl rfl ?_
          refine j_bipush hJ (q := 48) dX9_slip_46 rfl kb_m2 ?_
          refine j_vW hJ (q := 51) (rest := []) (As := [.int (zI (-2))]) (wr := [(q 0, ia Z 266 (ni A)), (q 4, ia Z 58 (ni Hd))]) jl_X9_73 (c_X9_bad Z h q ab be bl ta tl tk va Rf (-2) ) 0 rfl rfl dX9_slip_48 rfl (by decide) (Nat.le_of_ble_eq_true rfl) [0, 3] [1, 2] rfl rfl rfl rfl (by decide) rfl (fun rv wv hp => ?_)
          obtain ⟨rfl, rfl⟩ := hp
          refine j_world hJ (ws' := [mO h q ab be bl ta tl tk va, (q 0, ia Z 266 (ni A)), (q 4, ia Z 58 (ni Hd)), (q 3, ia Z 3 (ni (va_up Rf 0 (Rf 0 + 1))))]) [2, 0, 1, 3] rfl rfl ?_
          show J 51 [(0, .ref h), (1, .int a), (2, .int b), (3, .int c), (4, .int d)] [.int (zI (-2))] [mO h q ab be bl ta tl tk va, (q 0, ia Z 266 (ni A)), (q 4, ia Z 58 (ni Hd)), (q 3, ia Z 3 (ni (va_up Rf 0 (Rf 0 + 1))))] 0 0
          have hP : ¬ (pSlip A a b c d) := by simp only [rgI, isS, isR, pNote, pMark, pFast, pLever, pHands, pSlip, pEven]; omega
          exact hE.1 _ _ _ _ _ _ _ rfl rfl dX9_slip_51 (Nat.le_refl _) (Nat.le_refl _) (⟨Hd, congrArg (fun z => some (Value.int (zI z))) (by simp only [z_slip, ab_slip, be_slip, if_neg hP, bmp]), by simp only [z_slip, ab_slip, be_slip, if_neg hP, bmp]⟩)

set_option maxHeartbeats 4000000 in
set_option maxRecDepth 100000 in
theorem c_X9_evenings (Z : jZ) (h : Nat) (q : Nat → Nat) (ab : Int) (be : Int) (bl : Nat) (ta : Nat) (tl : Nat) (tk : Nat) (va : Nat) (A : Nat → Nat) (Hd : Nat → Nat) (Rf : Nat → Nat) (a : Int32) (b : Int32) (hg : wg A) : CT Z yX9_evenings cX9_evenings 7 ((some FieldType.int)) 6 0 0 [.ref h, .int a, .int b] [mO h q ab be bl ta tl tk va, (q 0, ia Z 266 (ni A)), (q 4, ia Z 58 (ni Hd)), (q 3, ia Z 3 (ni Rf))] (fun rr ww => ∃ Hx : Nat → Nat, rr = some (.int (zI (z_even A a b))) ∧ ww = [mO h q ab be bl ta tl tk va, (q 0, ia Z 266 (ni A)), (q 4, ia Z 58 (ni Hx)), (q 3, ia Z 3 (ni (if pEven a b then Rf else bmp Rf 0)))]) := by
  refine CT.of RX9 false rfl (fun h => by cases h) (by decide +kernel) (Nat.le_of_ble_eq_true rfl) ?_
  intro J hJ hE
  show J 0 [(0, .ref h), (1, .int a), (2, .int b)] [] [mO h q ab be bl ta tl tk va, (q 0, ia Z 266 (ni A)), (q 4, ia Z 58 (ni Hd)), (q 3, ia Z 3 (ni Rf))] 0 0
  obtain ⟨hw, ⟨g1, g2, g3, g4, g8⟩, hrs, hrn, hrm, hpst⟩ := id hg
  obtain ⟨⟨w1, w2, w3, w4, w5, w6⟩, wb, wr, wh, wd⟩ := id hw
  have hb := wb
  have hr_a := zI_rng a
  have hr_b := zI_rng b
  refine j_iload_n hJ (q := 1) dX9_evenings_0 rfl 1 rfl rfl ?_
  refine j_i2l hJ (q := 2) dX9_evenings_1 rfl (zL_i _ (zI_of a) (zI_rng a)) ?_
  refine j_lconst hJ (q := 3) (v := zL 0) dX9_evenings_2 rfl rfl ?_
  refine j_ldc2 hJ (q := 6) (v' := zL 999999) dX9_evenings_3 tm_1090 rfl rfl ?_
  refine j_sR hJ (q := 9) (rest := []) (As := [.long (zL a.toInt), .long (zL 0), .long (zL 999999)]) jl_X9_53 (c_X9_in Z a.toInt 0 999999 (by omega) (by omega) (by omega)) dX9_evenings_6 rfl (by decide) (Nat.le_of_ble_eq_true rfl) [] rfl rfl (fun rv hp => ?_)
  obtain rfl := hp
  show J 9 [(0, .ref h), (1, .int a), (2, .int b)] [.int (bI (decide (0 ≤ a.toInt ∧ a.toInt ≤ 999999)))] [mO h q ab be bl ta tl tk va, (q 0, ia Z 266 (ni A)), (q 4, ia Z 58 (ni Hd)), (q 3, ia Z 3 (ni Rf))] 0 0
  refine jp_if_eq hJ (q := 12) (tgt := 24) dX9_evenings_9 (by decide) rfl (fun c1 => ?_) (fun c1 => ?_)
  · skip
    refine j_aload_n hJ (q := 25) dX9_evenings_24 rfl 0 rfl rfl ?_
    refine j_bipush hJ (q := 27) dX9_evenings_25 rfl kb_m2 ?_
    refine j_vW hJ (q := 30) (rest := []) (As := [.int (zI (-2))]) (wr := [(q 0, ia Z 266 (ni A)), (q 4, ia Z 58 (ni Hd))]) jl_X9_73 (c_X9_bad Z h q ab be bl ta tl tk va Rf (-2) ) 0 rfl rfl dX9_evenings_27 rfl (by decide) (Nat.le_of_ble_eq_true rfl) [0, 3] [1, 2] rfl rfl rfl rfl (by decide) rfl (fun rv wv hp => ?_)
    obtain ⟨rfl, rfl⟩ := hp
    refine j_world hJ (ws' := [mO h q ab be bl ta tl tk va, (q 0, ia Z 266 (ni A)), (q 4, ia Z 58 (ni Hd)), (q 3, ia Z 3 (ni (va_up Rf 0 (Rf 0 + 1))))]) [2, 0, 1, 3] rfl rfl ?_
    show J 30 [(0, .ref h), (1, .int a), (2, .int b)] [.int (zI (-2))] [mO h q ab be bl ta tl tk va, (q 0, ia Z 266 (ni A)), (q 4, ia Z 58 (ni Hd)), (q 3, ia Z 3 (ni (va_up Rf 0 (Rf 0 + 1))))] 0 0
    have hP : ¬ (pEven a b) := by simp only [rgI, isS, isR, pNote, pMark, pFast, pLever, pHands, pSlip, pEven]; omega
    exact hE.1 _ _ _ _ _ _ _ rfl rfl dX9_evenings_30 (Nat.le_refl _) (Nat.le_refl _) (⟨Hd, congrArg (fun z => some (Value.int (zI z))) (by simp only [z_even, if_neg hP, bmp]), by simp only [z_even, if_neg hP, bmp]⟩)
  · skip
    refine j_iload_n hJ (q := 13) dX9_evenings_12 rfl 2 rfl rfl ?_
    refine j_i2l hJ (q := 14) dX9_evenings_13 rfl (zL_i _ (zI_of b) (zI_rng b)) ?_
    refine j_lconst hJ (q := 15) (v := zL 0) dX9_evenings_14 rfl rfl ?_
    refine j_ldc2 hJ (q := 18) (v' := zL 60) dX9_evenings_15 tm_898 rfl rfl ?_
    refine j_sR hJ (q := 21) (rest := []) (As := [.long (zL b.toInt), .long (zL 0), .long (zL 60)]) jl_X9_53 (c_X9_in Z b.toInt 0 60 (by omega) (by omega) (by omega)) dX9_evenings_18 rfl (by decide) (Nat.le_of_ble_eq_true rfl) [] rfl rfl (fun rv hp => ?_)
    obtain rfl := hp
    show J 21 [(0, .ref h), (1, .int a), (2, .int b)] [.int (bI (decide (0 ≤ b.toInt ∧ b.toInt ≤ 60)))] [mO h q ab be bl ta tl tk va, (q 0, ia Z 266 (ni A)), (q 4, ia Z 58 (ni Hd)), (q 3, ia Z 3 (ni Rf))] 0 0
    refine jp_if_ne hJ (q := 24) (tgt := 31) dX9_evenings_21 (by decide) rfl (fun c2 => ?_) (fun c2 => ?_)
    · skip
      have hn_a := nt_cast (x := a) (by omega)
      refine j_eql (lvs' := [(0, .ref h), (1, .int (nI (nt a))), (2, .int b)]) (by rw [← nt_eq (x := a) (by omega)]) ?_
      have hn_b := nt_cast (x := b) (by omega)
      refine j_eql (lvs' := [(0, .ref h), (1, .int (nI (nt a))), (2, .int (nI (nt b)))]) (by rw [← nt_eq (x := b) (by omega)]) ?_
      refine j_iload_n hJ (q := 32) dX9_evenings_31 rfl 1 rfl rfl ?_
      refine j_i2l hJ (q := 33) dX9_evenings_32 rfl (zL_i _ (zI_nat (nt a)).symm (by omega)) ?_
      refine j_lstore_n hJ (q := 34) (lvs' := [(3, .long (zL ((nt a) : Int))), (0, .ref h), (1, .int (nI (nt a))), (2, .int (nI (nt b)))]) dX9_evenings_33 rfl (by decide) rfl rfl ?_
      refine j_iconst hJ (q := 35) dX9_evenings_34 rfl ki_0 ?_
      refine j_istore hJ (q := 37) (lvs' := [(5, .int (nI 0)), (3, .long (zL ((nt a) : Int))), (0, .ref h), (1, .int (nI (nt a))), (2, .int (nI (nt b)))]) dX9_evenings_35 (by decide) rfl rfl ?_
      refine j_aload_n hJ (q := 38) dX9_evenings_37 rfl 2 rfl rfl ?_
      refine j_vW hJ (q := 41) (rest := []) (As := []) (wr := [(q 3, ia Z 3 (ni Rf))]) jl_X9_139 (c_X9_layHand Z h q ab be bl ta tl tk va A Hd ) 0 rfl rfl dX9_evenings_38 rfl (by decide) (Nat.le_of_ble_eq_true rfl) [0, 1, 2] [3] rfl rfl rfl rfl (by decide) rfl (fun rv wv hp => ?_)
      obtain ⟨rfl, rfl⟩ := hp
      refine j_world hJ (ws' := [mO h q ab be bl ta tl tk va, (q 0, ia Z 266 (ni A)), (q 4, ia Z 58 (ni A)), (q 3, ia Z 3 (ni Rf))]) [1, 2, 3, 0] rfl rfl ?_
      show J 41 [(5, .int (nI 0)), (3, .long (zL ((nt a) : Int))), (0, .ref h), (1, .int (nI (nt a))), (2, .int (nI (nt b)))] [] [mO h q ab be bl ta tl tk va, (q 0, ia Z 266 (ni A)), (q 4, ia Z 58 (ni A)), (q 3, ia Z 3 (ni Rf))] 0 0
      refine j_iconst hJ (q := 42) dX9_evenings_41 rfl ki_0 ?_
      refine j_istore hJ (q := 44) (lvs' := [(6, .int (nI 0)), (5, .int (nI 0)), (3, .long (zL ((nt a) : Int))), (0, .ref h), (1, .int (nI (nt a))), (2, .int (nI (nt b)))]) dX9_evenings_42 (by decide) rfl rfl ?_
      have L_44 : ∀ (fu_44 : Nat) (B : Nat → Nat) (X : Int) (sm : Nat) (k : Nat), nt b - k < fu_44 → (k ≤ nt b) → (0 ≤ X ∧ X < 2147483648) → (sm + evF (nt b - k) X B = evF (nt b) (nt a : Int) A) → (wf B) → (B 8 + (nt b - k) < 90000) → J 44 [(0, .ref h), (1, .int (nI (nt a))), (2, .int (nI (nt b))), (3, .long (zL X)), (5, .int (nI sm)), (6, .int (nI k))] [] [mO h q ab be bl ta tl tk va, (q 0, ia Z 266 (ni A)), (q 4, ia Z 58 (ni B)), (q 3, ia Z 3 (ni Rf))] 0 0 := by
        intro fu_44
        induction fu_44 with
        | zero => intro B X sm k hm; exact absurd hm (Nat.not_lt_zero _)
        | succ fu_44 ih_44 =>
          intro B X sm k hm_44 hk hX hS hwB hBt
          refine j_iload hJ (q := 46) dX9_evenings_44 5 rfl rfl ?_
          refine j_iload_n hJ (q := 47) dX9_evenings_46 rfl 2 rfl rfl ?_
          refine jn_icmp_ge hJ (q := 50) (tgt := 109) dX9_evenings_47 (by decide) rfl (by omega) (by omega) (fun c3 => ?_) (fun c3 => ?_)
          · skip
            refine j_iload hJ (q := 111) dX9_evenings_109 4 rfl rfl ?_
            have hP : pEven a b := by simp only [rgI, isS, isR, pNote, pMark, pFast, pLever, pHands, pSlip, pEven]; omega
            exact hE.1 _ _ _ _ _ _ _ rfl rfl dX9_evenings_111 (Nat.le_refl _) (Nat.le_refl _) (⟨B, congrArg (fun z => some (Value.int z)) ((zI_nat _).symm.trans (congrArg zI (by simp only [z_even, if_pos hP]; rw [← hS, show nt b - k = 0 by omega]; rfl))), by simp only [z_even, if_pos hP, bmp]⟩)
          · skip
            refine j_lload_n hJ (q := 51) dX9_evenings_50 rfl 3 rfl rfl ?_
            refine j_ldc2 hJ (q := 54) (v' := zL 1103515245) dX9_evenings_51 tm_1091 rfl rfl ?_
            refine j_lmul hJ (q := 55) dX9_evenings_54 rfl (zL_mul _ _) ?_
            refine j_ldc2 hJ (q := 58) (v' := zL 12345) dX9_evenings_55 tm_1092 rfl rfl ?_
            refine j_ladd hJ (q := 59) dX9_evenings_58 rfl (zL_add _ _) ?_
            refine j_ldc2 hJ (q := 62) (v' := zL 2147483648) dX9_evenings_59 tm_1093 rfl rfl ?_
            refine j_lrem hJ (q := 63) dX9_evenings_62 rfl (zL_ne0 (by omega) (by omega)) (zL_rem (by omega) (by omega) (by omega)) ?_
            refine j_lstore_n hJ (q := 64) (lvs' := [(3, .long (zL ((X * 1103515245 + 12345) % 2147483648))), (0, .ref h), (1, .int (nI (nt a))), (2, .int (nI (nt b))), (5, .int (nI sm)), (6, .int (nI k))]) dX9_evenings_63 rfl (by decide) rfl rfl ?_
            refine j_aload_n hJ (q := 65) dX9_evenings_64 rfl 1 rfl rfl ?_
            refine j_get hJ (q := 68) jf_X9_27 dX9_evenings_65 0 rfl rfl rfl ?_
            refine j_bipush hJ (q := 70) dX9_evenings_68 rfl kb_6 ?_
            refine j_lload_n hJ (q := 71) dX9_evenings_70 rfl 0 rfl rfl ?_
            refine j_ldc2 hJ (q := 74) (v' := zL 65536) dX9_evenings_71 tm_1094 rfl rfl ?_
            refine j_ldiv hJ (q := 75) dX9_evenings_74 rfl (zL_ne0 (by omega) (by omega)) (zL_div (by omega) (by omega) (by omega)) ?_
            refine j_ldc2 hJ (q := 78) (v' := zL 4) dX9_evenings_75 tm_839 rfl rfl ?_
            refine j_lrem hJ (q := 79) dX9_evenings_78 rfl (zL_ne0 (by omega) (by omega)) (zL_rem (by omega) (by omega) (by omega)) ?_
            refine j_l2i hJ (q := 80) dX9_evenings_79 rfl (zI_l (by omega)) ?_
            have hsp : ((((X * 1103515245 + 12345) % 2147483648) / 65536) % 4) = ((evV X : Nat) : Int) := (Int.toNat_of_nonneg (show 0 ≤ ((((X * 1103515245 + 12345) % 2147483648) / 65536) % 4) by omega)).symm
            refine j_top (show zI ((((X * 1103515245 + 12345) % 2147483648) / 65536) % 4) = nI (evV X) from by rw [hsp, zI_nat]) ?_
            have hev : evV X ≤ 3 := by omega
            refine j_iastN hJ (q := 81) (ws' := [mO h q ab be bl ta tl tk va, (q 0, ia Z 266 (ni A)), (q 4, ia Z 58 (ni (va_up B 6 (evV X)))), (q 3, ia Z 3 (ni Rf))]) dX9_evenings_80 2 rfl (by decide) (by decide) (ni_up _ _ _) rfl rfl ?_
            refine j_iload hJ (q := 83) dX9_evenings_81 4 rfl rfl ?_
            refine j_aload_n hJ (q := 84) dX9_evenings_83 rfl 1 rfl rfl ?_
            refine j_get hJ (q := 87) jf_X9_27 dX9_evenings_84 0 rfl rfl rfl ?_
            refine j_iconst hJ (q := 88) dX9_evenings_87 rfl ki_0 ?_
            refine j_sW hJ (q := 91) (rest := [.int (nI sm)]) (As := [.ref (q 4), .int (bI false)]) (wr := [mO h q ab be bl ta tl tk va, (q 0, ia Z 266 (ni A)), (q 3, ia Z 3 (ni Rf))]) jl_X9_116 (c_X9_goTick Z (q 4) 58 (va_up B 6 (evV X)) false (by omega) (wf_speed hwB hev) (by simp only [va_up]; rw [if_neg (by decide)]; omega)) dX9_evenings_88 rfl (by decide) (Nat.le_of_ble_eq_true rfl) [2] [0, 1, 3] rfl rfl rfl rfl (by decide) rfl (fun rv wv hp => ?_)
            obtain ⟨rfl, rfl⟩ := hp
            refine j_world hJ (ws' := [mO h q ab be bl ta tl tk va, (q 0, ia Z 266 (ni A)), ((q 4), ia Z 58 (ni ((goT (va_up B 6 (evV X)) false).2))), (q 3, ia Z 3 (ni Rf))]) [0, 1, 3, 2] rfl rfl ?_
            show J 91 [(3, .long (zL ((X * 1103515245 + 12345) % 2147483648))), (0, .ref h), (1, .int (nI (nt a))), (2, .int (nI (nt b))), (5, .int (nI sm)), (6, .int (nI k))] [.int (oI ((goT (va_up B 6 (evV X)) false).1)), .int (nI sm)] [mO h q ab be bl ta tl tk va, (q 0, ia Z 266 (ni A)), ((q 4), ia Z 58 (ni ((goT (va_up B 6 (evV X)) false).2))), (q 3, ia Z 3 (ni Rf))] 0 0
            refine j_caseo (fun o4 => ?_) (fun i5 o4 => ?_)
            · skip
              refine j_iconst hJ (q := 92) dX9_evenings_91 rfl ki_m1 ?_
              refine jz_icmp_eq hJ (q := 95) (tgt := 99) dX9_evenings_92 (by decide) rfl rfl rfl (by omega) (by omega) (fun c6 => ?_) (fun c6 => ?_)
              · skip
                refine j_iconst hJ (q := 100) dX9_evenings_99 rfl ki_0 ?_
                refine j_iadd hJ (q := 101) dX9_evenings_100 rfl (nI_add _ _) ?_
                refine j_istore hJ (q := 103) (lvs' := [(5, .int (nI (sm + 0))), (3, .long (zL ((X * 1103515245 + 12345) % 2147483648))), (0, .ref h), (1, .int (nI (nt a))), (2, .int (nI (nt b))), (6, .int (nI k))]) dX9_evenings_101 (by decide) rfl rfl ?_
                refine j_iinc hJ (q := 106) (lvs' := [(6, .int (nI (k + 1))), (5, .int (nI (sm + 0))), (3, .long (zL ((X * 1103515245 + 12345) % 2147483648))), (0, .ref h), (1, .int (nI (nt a))), (2, .int (nI (nt b)))]) dX9_evenings_103 5 rfl (by rw [show Int32.ofInt 1 = nI 1 from by decide +kernel]; exact nI_add _ _) (by decide) rfl rfl ?_
                refine j_goto hJ (q := 44) dX9_evenings_106 (by decide) ?_
                refine j_locals hJ [3, 4, 5, 2, 1, 0] rfl ?_
                exact ih_44 ((goT (va_up B 6 (evV X)) false).2) ((X * 1103515245 + 12345) % 2147483648) (sm + 0) (k + 1) (by omega) (by omega) (by omega) (by rw [← hS, show nt b - k = (nt b - (k + 1)) + 1 by omega]; simp only [evF, evX]; split <;> simp_all <;> omega) (wf_goT false (wf_speed hwB hev) (by simp only [va_up]; rw [if_neg (by decide)]; omega)) (by rw [goT_8]; simp only [va_up]; rw [if_neg (by decide)]; omega)
              · skip
                exfalso; omega
            · skip
              have hlt := goT_lt o4
              have hl6 := hwB.1.2.2.2.2.2
              have hl7 : va_up B 6 (evV X) 0 = B 0 := by simp [va_up]
              refine j_iconst hJ (q := 92) dX9_evenings_91 rfl ki_m1 ?_
              refine jz_icmp_eq hJ (q := 95) (tgt := 99) dX9_evenings_92 (by decide) rfl (zI_nat i5).symm rfl (by omega) (by omega) (fun c7 => ?_) (fun c7 => ?_)
              · skip
                exfalso; omega
              · skip
                refine j_iconst hJ (q := 96) dX9_evenings_95 rfl ki_1 ?_
                refine j_goto hJ (q := 100) dX9_evenings_96 (by decide) ?_
                refine j_iadd hJ (q := 101) dX9_evenings_100 rfl (nI_add _ _) ?_
                refine j_istore hJ (q := 103) (lvs' := [(5, .int (nI (sm + 1))), (3, .long (zL ((X * 1103515245 + 12345) % 2147483648))), (0, .ref h), (1, .int (nI (nt a))), (2, .int (nI (nt b))), (6, .int (nI k))]) dX9_evenings_101 (by decide) rfl rfl ?_
                refine j_iinc hJ (q := 106) (lvs' := [(6, .int (nI (k + 1))), (5, .int (nI (sm + 1))), (3, .long (zL ((X * 1103515245 + 12345) % 2147483648))), (0, .ref h), (1, .int (nI (nt a))), (2, .int (nI (nt b)))]) dX9_evenings_103 5 rfl (by rw [show Int32.ofInt 1 = nI 1 from by decide +kernel]; exact nI_add _ _) (by decide) rfl rfl ?_
                refine j_goto hJ (q := 44) dX9_evenings_106 (by decide) ?_
                refine j_locals hJ [3, 4, 5, 2, 1, 0] rfl ?_
                exact ih_44 ((goT (va_up B 6 (evV X)) false).2) ((X * 1103515245 + 12345) % 2147483648) (sm + 1) (k + 1) (by omega) (by omega) (by omega) (by rw [← hS, show nt b - k = (nt b - (k + 1)) + 1 by omega]; simp only [evF, evX]; split <;> simp_all <;> omega) (wf_goT false (wf_speed hwB hev) (by simp only [va_up]; rw [if_neg (by decide)]; omega)) (by rw [goT_8]; simp only [va_up]; rw [if_neg (by decide)]; omega)
      refine j_locals hJ [3, 4, 5, 2, 1, 0] rfl ?_
      exact L_44 ((nt b - 0) + 1) A ((nt a) : Int) 0 0 (Nat.lt_succ_self _) (by omega) (by omega) (by rw [Nat.zero_add]; rfl) hw (by omega)
    · skip
      refine j_aload_n hJ (q := 25) dX9_evenings_24 rfl 0 rfl rfl ?_
      refine j_bipush hJ (q := 27) dX9_evenings_25 rfl kb_m2 ?_
      refine j_vW hJ (q := 30) (rest := []) (As := [.int (zI (-2))]) (wr := [(q 0, ia Z 266 (ni A)), (q 4, ia Z 58 (ni Hd))]) jl_X9_73 (c_X9_bad Z h q ab be bl ta tl tk va Rf (-2) ) 0 rfl rfl dX9_evenings_27 rfl (by decide) (Nat.le_of_ble_eq_true rfl) [0, 3] [1, 2] rfl rfl rfl rfl (by decide) rfl (fun rv wv hp => ?_)
      obtain ⟨rfl, rfl⟩ := hp
      refine j_world hJ (ws' := [mO h q ab be bl ta tl tk va, (q 0, ia Z 266 (ni A)), (q 4, ia Z 58 (ni Hd)), (q 3, ia Z 3 (ni (va_up Rf 0 (Rf 0 + 1))))]) [2, 0, 1, 3] rfl rfl ?_
      show J 30 [(0, .ref h), (1, .int a), (2, .int b)] [.int (zI (-2))] [mO h q ab be bl ta tl tk va, (q 0, ia Z 266 (ni A)), (q 4, ia Z 58 (ni Hd)), (q 3, ia Z 3 (ni (va_up Rf 0 (Rf 0 + 1))))] 0 0
      have hP : ¬ (pEven a b) := by simp only [rgI, isS, isR, pNote, pMark, pFast, pLever, pHands, pSlip, pEven]; omega
      exact hE.1 _ _ _ _ _ _ _ rfl rfl dX9_evenings_30 (Nat.le_refl _) (Nat.le_refl _) (⟨Hd, congrArg (fun z => some (Value.int (zI z))) (by simp only [z_even, if_neg hP, bmp]), by simp only [z_even, if_neg hP, bmp]⟩)

set_option maxHeartbeats 4000000 in
set_option maxRecDepth 100000 in
theorem c_X9_digest (Z : jZ) (h : Nat) (q : Nat → Nat) (ab : Int) (be : Int) (bl : Nat) (ta : Nat) (tl : Nat) (tk : Nat) (va : Nat) (A : Nat → Nat) (hg : wg A) (hbl : bl ≤ 150) : CR Z yX9_digest cX9_digest 4 ((some FieldType.long)) 3 [.ref h] [mO h q ab be bl ta tl tk va, (q 0, ia Z 266 (ni A))] (fun rr => rr = some (.long (zL (dgs A bl ab be)))) := by
  refine CR.of RX9 rfl (by decide +kernel) (Nat.le_of_ble_eq_true rfl) ?_
  intro J hJ hE
  show J 0 [(0, .ref h)] [] [mO h q ab be bl ta tl tk va, (q 0, ia Z 266 (ni A))] 0 0
  obtain ⟨hw, ⟨g1, g2, g3, g4, g8⟩, hrs, hrn, hrm, hpst⟩ := id hg
  obtain ⟨⟨w1, w2, w3, w4, w5, w6⟩, wb, wr, wh, wd⟩ := id hw
  have hb := wb
  refine j_ldc2 hJ (q := 3) (v' := zL 1811) dX9_digest_0 tm_1183 rfl rfl ?_
  refine j_lstore_n hJ (q := 4) (lvs' := [(1, .long (zL 1811)), (0, .ref h)]) dX9_digest_3 rfl (by decide) rfl rfl ?_
  refine j_iconst hJ (q := 5) dX9_digest_4 rfl ki_0 ?_
  refine j_istore_n hJ (q := 6) (lvs' := [(3, .int (nI 0)), (1, .long (zL 1811)), (0, .ref h)]) dX9_digest_5 rfl (by decide) rfl rfl ?_
  have L_6 : ∀ (fu_6 : Nat) (d1 : Int) (w : Nat), 12 - w < fu_6 → (w ≤ 12) → (d1 = dcN A bl w) → J 6 [(0, .ref h), (1, .long (zL d1)), (3, .int (nI w))] [] [mO h q ab be bl ta tl tk va, (q 0, ia Z 266 (ni A))] 0 0 := by
    intro fu_6
    induction fu_6 with
    | zero => intro d1 w hm; exact absurd hm (Nat.not_lt_zero _)
    | succ fu_6 ih_6 =>
      intro d1 w hm_6 hw1 hd1
      have hct : cnt A bl w < 2147483648 := cnt_lt hb w6 hbl w
      refine j_iload_n hJ (q := 7) dX9_digest_6 rfl 2 rfl rfl ?_
      refine j_bipush hJ (q := 9) dX9_digest_7 rfl kb_12 ?_
      refine jn_icmp_ge hJ (q := 12) (tgt := 31) dX9_digest_9 (by decide) rfl (by omega) (by omega) (fun c1 => ?_) (fun c1 => ?_)
      · skip
        refine j_iconst hJ (q := 32) dX9_digest_31 rfl ki_0 ?_
        refine j_istore_n hJ (q := 33) (lvs' := [(3, .int (nI 0)), (0, .ref h), (1, .long (zL d1))]) dX9_digest_32 rfl (by decide) rfl rfl ?_
        have L_33 : ∀ (fu_33 : Nat) (d2 : Int) (s : Nat), A 21 - s < fu_33 → (s ≤ A 21) → (d2 = dsN A (dcN A bl 12) s) → J 33 [(0, .ref h), (1, .long (zL d2)), (3, .int (nI s))] [] [mO h q ab be bl ta tl tk va, (q 0, ia Z 266 (ni A))] 0 0 := by
          intro fu_33
          induction fu_33 with
          | zero => intro d2 s hm; exact absurd hm (Nat.not_lt_zero _)
          | succ fu_33 ih_33 =>
            intro d2 s hm_33 hs1 hd2
            refine j_iload_n hJ (q := 34) dX9_digest_33 rfl 2 rfl rfl ?_
            refine j_aload_n hJ (q := 35) dX9_digest_34 rfl 0 rfl rfl ?_
            refine j_get hJ (q := 38) jf_X9_7 dX9_digest_35 0 rfl rfl rfl ?_
            refine j_bipush hJ (q := 40) dX9_digest_38 rfl kb_21 ?_
            refine j_ialdN hJ (q := 41) (z := nI (A 21)) dX9_digest_40 1 rfl (by decide) (by decide) rfl rfl ?_
            have b2 := hb 21
            refine jn_icmp_ge hJ (q := 44) (tgt := 82) dX9_digest_41 (by decide) rfl (by omega) (by omega) (fun c3 => ?_) (fun c3 => ?_)
            · skip
              refine j_iconst hJ (q := 83) dX9_digest_82 rfl ki_0 ?_
              refine j_istore_n hJ (q := 84) (lvs' := [(3, .int (nI 0)), (0, .ref h), (1, .long (zL d2))]) dX9_digest_83 rfl (by decide) rfl rfl ?_
              have L_84 : ∀ (fu_84 : Nat) (d3 : Int) (i : Nat), A 0 - i < fu_84 → (i ≤ A 0) → (d3 = drN A (dsN A (dcN A bl 12) (A 21)) i) → J 84 [(0, .ref h), (1, .long (zL d3)), (3, .int (nI i))] [] [mO h q ab be bl ta tl tk va, (q 0, ia Z 266 (ni A))] 0 0 := by
                intro fu_84
                induction fu_84 with
                | zero => intro d3 i hm; exact absurd hm (Nat.not_lt_zero _)
                | succ fu_84 ih_84 =>
                  intro d3 i hm_84 hi1 hd3
                  refine j_iload_n hJ (q := 85) dX9_digest_84 rfl 2 rfl rfl ?_
                  refine j_aload_n hJ (q := 86) dX9_digest_85 rfl 0 rfl rfl ?_
                  refine j_vR hJ (q := 89) (rest := [.int (nI i)]) (As := []) jl_X9_49 (c_X9_many Z h q ab be bl ta tl tk va A ) 0 rfl rfl dX9_digest_86 rfl (by decide) (Nat.le_of_ble_eq_true rfl) [0, 1] rfl rfl (fun rv hp => ?_)
                  obtain rfl := hp
                  show J 89 [(0, .ref h), (1, .long (zL d3)), (3, .int (nI i))] [.int (nI (A 0)), .int (nI i)] [mO h q ab be bl ta tl tk va, (q 0, ia Z 266 (ni A))] 0 0
                  refine jn_icmp_ge hJ (q := 92) (tgt := 162) dX9_digest_89 (by decide) rfl (by omega) (by omega) (fun c4 => ?_) (fun c4 => ?_)
                  · skip
                    refine j_aload_n hJ (q := 163) dX9_digest_162 rfl 0 rfl rfl ?_
                    refine j_lload_n hJ (q := 164) dX9_digest_163 rfl 1 rfl rfl ?_
                    refine j_bipush hJ (q := 166) dX9_digest_164 rfl kb_58 ?_
                    refine j_iconst hJ (q := 167) dX9_digest_166 rfl ki_4 ?_
                    refine j_aload_n hJ (q := 168) dX9_digest_167 rfl 0 rfl rfl ?_
                    refine j_get hJ (q := 171) jf_X9_7 dX9_digest_168 0 rfl rfl rfl ?_
                    refine j_iconst hJ (q := 172) dX9_digest_171 rfl ki_1 ?_
                    refine j_ialdN hJ (q := 173) (z := nI (A 1)) dX9_digest_172 1 rfl (by decide) (by decide) rfl rfl ?_
                    have b5 := hb 1
                    refine j_imul hJ (q := 174) dX9_digest_173 rfl (pk_mul _ _) ?_
                    refine j_vR hJ (q := 177) (rest := []) (As := [.long (zL d3), .int (nI 58), .int (nI (4 * (A 1)))]) jl_X9_278 (c_X9_sums Z h q ab be bl ta tl tk va A d3 58 (4 * (A 1)) hb (by omega)) 0 rfl rfl dX9_digest_174 rfl (by decide) (Nat.le_of_ble_eq_true rfl) [0, 1] rfl rfl (fun rv hp => ?_)
                    obtain rfl := hp
                    show J 177 [(0, .ref h), (1, .long (zL d3)), (3, .int (nI i))] [.long (zL (smN A 58 d3 (4 * (A 1))))] [mO h q ab be bl ta tl tk va, (q 0, ia Z 266 (ni A))] 0 0
                    refine j_lstore_n hJ (q := 178) (lvs' := [(1, .long (zL (smN A 58 d3 (4 * (A 1))))), (0, .ref h), (3, .int (nI i))]) dX9_digest_177 rfl (by decide) rfl rfl ?_
                    refine j_aload_n hJ (q := 179) dX9_digest_178 rfl 1 rfl rfl ?_
                    refine j_lload_n hJ (q := 180) dX9_digest_179 rfl 0 rfl rfl ?_
                    refine j_bipush hJ (q := 182) dX9_digest_180 rfl kb_78 ?_
                    refine j_iconst hJ (q := 183) dX9_digest_182 rfl ki_5 ?_
                    refine j_aload_n hJ (q := 184) dX9_digest_183 rfl 1 rfl rfl ?_
                    refine j_get hJ (q := 187) jf_X9_7 dX9_digest_184 0 rfl rfl rfl ?_
                    refine j_iconst hJ (q := 188) dX9_digest_187 rfl ki_2 ?_
                    refine j_ialdN hJ (q := 189) (z := nI (A 2)) dX9_digest_188 1 rfl (by decide) (by decide) rfl rfl ?_
                    have b6 := hb 2
                    refine j_imul hJ (q := 190) dX9_digest_189 rfl (pk_mul _ _) ?_
                    refine j_vR hJ (q := 193) (rest := []) (As := [.long (zL (smN A 58 d3 (4 * (A 1)))), .int (nI 78), .int (nI (5 * (A 2)))]) jl_X9_278 (c_X9_sums Z h q ab be bl ta tl tk va A (smN A 58 d3 (4 * (A 1))) 78 (5 * (A 2)) hb (by omega)) 0 rfl rfl dX9_digest_190 rfl (by decide) (Nat.le_of_ble_eq_true rfl) [0, 1] rfl rfl (fun rv hp => ?_)
                    obtain rfl := hp
                    show J 193 [(1, .long (zL (smN A 58 d3 (4 * (A 1))))), (0, .ref h), (3, .int (nI i))] [.long (zL (smN A 78 (smN A 58 d3 (4 * (A 1))) (5 * (A 2))))] [mO h q ab be bl ta tl tk va, (q 0, ia Z 266 (ni A))] 0 0
                    refine j_lstore_n hJ (q := 194) (lvs' := [(1, .long (zL (smN A 78 (smN A 58 d3 (4 * (A 1))) (5 * (A 2))))), (0, .ref h), (3, .int (nI i))]) dX9_digest_193 rfl (by decide) rfl rfl ?_
                    refine j_aload_n hJ (q := 195) dX9_digest_194 rfl 1 rfl rfl ?_
                    refine j_lload_n hJ (q := 196) dX9_digest_195 rfl 0 rfl rfl ?_
                    refine j_bipush hJ (q := 198) dX9_digest_196 rfl kb_108 ?_
                    refine j_iconst hJ (q := 199) dX9_digest_198 rfl ki_5 ?_
                    refine j_aload_n hJ (q := 200) dX9_digest_199 rfl 1 rfl rfl ?_
                    refine j_get hJ (q := 203) jf_X9_7 dX9_digest_200 0 rfl rfl rfl ?_
                    refine j_iconst hJ (q := 204) dX9_digest_203 rfl ki_3 ?_
                    refine j_ialdN hJ (q := 205) (z := nI (A 3)) dX9_digest_204 1 rfl (by decide) (by decide) rfl rfl ?_
                    have b7 := hb 3
                    refine j_imul hJ (q := 206) dX9_digest_205 rfl (pk_mul _ _) ?_
                    refine j_vR hJ (q := 209) (rest := []) (As := [.long (zL (smN A 78 (smN A 58 d3 (4 * (A 1))) (5 * (A 2)))), .int (nI 108), .int (nI (5 * (A 3)))]) jl_X9_278 (c_X9_sums Z h q ab be bl ta tl tk va A (smN A 78 (smN A 58 d3 (4 * (A 1))) (5 * (A 2))) 108 (5 * (A 3)) hb (by omega)) 0 rfl rfl dX9_digest_206 rfl (by decide) (Nat.le_of_ble_eq_true rfl) [0, 1] rfl rfl (fun rv hp => ?_)
                    obtain rfl := hp
                    show J 209 [(1, .long (zL (smN A 78 (smN A 58 d3 (4 * (A 1))) (5 * (A 2))))), (0, .ref h), (3, .int (nI i))] [.long (zL (smN A 108 (smN A 78 (smN A 58 d3 (4 * (A 1))) (5 * (A 2))) (5 * (A 3))))] [mO h q ab be bl ta tl tk va, (q 0, ia Z 266 (ni A))] 0 0
                    refine j_lstore_n hJ (q := 210) (lvs' := [(1, .long (zL (smN A 108 (smN A 78 (smN A 58 d3 (4 * (A 1))) (5 * (A 2))) (5 * (A 3))))), (0, .ref h), (3, .int (nI i))]) dX9_digest_209 rfl (by decide) rfl rfl ?_
                    refine j_ldc2 hJ (q := 213) (v' := zL 31) dX9_digest_210 tm_1184 rfl rfl ?_
                    refine j_ldc2 hJ (q := 216) (v' := zL 31) dX9_digest_213 tm_1184 rfl rfl ?_
                    refine j_lload_n hJ (q := 217) dX9_digest_216 rfl 0 rfl rfl ?_
                    refine j_lmul hJ (q := 218) dX9_digest_217 rfl (zL_mul _ _) ?_
                    refine j_aload_n hJ (q := 219) dX9_digest_218 rfl 1 rfl rfl ?_
                    refine j_get hJ (q := 222) jf_X9_187 dX9_digest_219 0 rfl rfl rfl ?_
                    refine j_ladd hJ (q := 223) dX9_digest_222 rfl (zL_add _ _) ?_
                    refine j_lmul hJ (q := 224) dX9_digest_223 rfl (zL_mul _ _) ?_
                    refine j_aload_n hJ (q := 225) dX9_digest_224 rfl 1 rfl rfl ?_
                    refine j_get hJ (q := 228) jf_X9_23 dX9_digest_225 0 rfl rfl rfl ?_
                    refine j_ladd hJ (q := 229) dX9_digest_228 rfl (zL_add _ _) ?_
                    exact hE.2.1 _ _ _ _ _ _ rfl dX9_digest_229 (Nat.le_refl _) (Nat.le_refl _) (congrArg (fun z => some (Value.long (zL z))) (by unfold dgs; rw [hd3, show i = A 0 by omega]))
                  · skip
                    refine j_ldc2 hJ (q := 95) (v' := zL 31) dX9_digest_92 tm_1184 rfl rfl ?_
                    refine j_ldc2 hJ (q := 98) (v' := zL 31) dX9_digest_95 tm_1184 rfl rfl ?_
                    refine j_lload_n hJ (q := 99) dX9_digest_98 rfl 1 rfl rfl ?_
                    refine j_lmul hJ (q := 100) dX9_digest_99 rfl (zL_mul _ _) ?_
                    refine j_aload_n hJ (q := 101) dX9_digest_100 rfl 0 rfl rfl ?_
                    refine j_get hJ (q := 104) jf_X9_7 dX9_digest_101 0 rfl rfl rfl ?_
                    refine j_bipush hJ (q := 106) dX9_digest_104 rfl kb_22 ?_
                    refine j_iload_n hJ (q := 107) dX9_digest_106 rfl 2 rfl rfl ?_
                    refine j_iadd hJ (q := 108) dX9_digest_107 rfl (nI_add _ _) ?_
                    refine j_ialdN hJ (q := 109) (z := nI (A (22 + i))) dX9_digest_108 1 rfl (by omega) (by decide) rfl rfl ?_
                    have b8 := hb (22 + i)
                    refine j_i2l hJ (q := 110) dX9_digest_109 rfl (zL_i _ (zI_nat (A (22 + i))).symm (by omega)) ?_
                    refine j_ladd hJ (q := 111) dX9_digest_110 rfl (zL_add _ _) ?_
                    refine j_lmul hJ (q := 112) dX9_digest_111 rfl (zL_mul _ _) ?_
                    refine j_aload_n hJ (q := 113) dX9_digest_112 rfl 0 rfl rfl ?_
                    refine j_get hJ (q := 116) jf_X9_7 dX9_digest_113 0 rfl rfl rfl ?_
                    refine j_bipush hJ (q := 118) dX9_digest_116 rfl kb_28 ?_
                    refine j_iload_n hJ (q := 119) dX9_digest_118 rfl 2 rfl rfl ?_
                    refine j_iadd hJ (q := 120) dX9_digest_119 rfl (nI_add _ _) ?_
                    refine j_ialdN hJ (q := 121) (z := nI (A (28 + i))) dX9_digest_120 1 rfl (by omega) (by decide) rfl rfl ?_
                    have b9 := hb (28 + i)
                    refine j_i2l hJ (q := 122) dX9_digest_121 rfl (zL_i _ (zI_nat (A (28 + i))).symm (by omega)) ?_
                    refine j_ladd hJ (q := 123) dX9_digest_122 rfl (zL_add _ _) ?_
                    refine j_lstore_n hJ (q := 124) (lvs' := [(1, .long (zL (31 * (31 * d3 + ((A (22 + i)) : Int)) + ((A (28 + i)) : Int)))), (0, .ref h), (3, .int (nI i))]) dX9_digest_123 rfl (by decide) rfl rfl ?_
                    refine j_ldc2 hJ (q := 127) (v' := zL 31) dX9_digest_124 tm_1184 rfl rfl ?_
                    refine j_ldc2 hJ (q := 130) (v' := zL 31) dX9_digest_127 tm_1184 rfl rfl ?_
                    refine j_lload_n hJ (q := 131) dX9_digest_130 rfl 0 rfl rfl ?_
                    refine j_lmul hJ (q := 132) dX9_digest_131 rfl (zL_mul _ _) ?_
                    refine j_aload_n hJ (q := 133) dX9_digest_132 rfl 1 rfl rfl ?_
                    refine j_get hJ (q := 136) jf_X9_7 dX9_digest_133 0 rfl rfl rfl ?_
                    refine j_bipush hJ (q := 138) dX9_digest_136 rfl kb_15 ?_
                    refine j_iload_n hJ (q := 139) dX9_digest_138 rfl 2 rfl rfl ?_
                    refine j_iadd hJ (q := 140) dX9_digest_139 rfl (nI_add _ _) ?_
                    refine j_ialdN hJ (q := 141) (z := nI (A (15 + i))) dX9_digest_140 1 rfl (by omega) (by decide) rfl rfl ?_
                    have b10 := hb (15 + i)
                    refine j_i2l hJ (q := 142) dX9_digest_141 rfl (zL_i _ (zI_nat (A (15 + i))).symm (by omega)) ?_
                    refine j_ladd hJ (q := 143) dX9_digest_142 rfl (zL_add _ _) ?_
                    refine j_lmul hJ (q := 144) dX9_digest_143 rfl (zL_mul _ _) ?_
                    refine j_aload_n hJ (q := 145) dX9_digest_144 rfl 1 rfl rfl ?_
                    refine j_get hJ (q := 148) jf_X9_7 dX9_digest_145 0 rfl rfl rfl ?_
                    refine j_bipush hJ (q := 150) dX9_digest_148 rfl kb_9 ?_
                    refine j_iload_n hJ (q := 151) dX9_digest_150 rfl 2 rfl rfl ?_
                    refine j_iadd hJ (q := 152) dX9_digest_151 rfl (nI_add _ _) ?_
                    refine j_ialdN hJ (q := 153) (z := nI (A (9 + i))) dX9_digest_152 1 rfl (by omega) (by decide) rfl rfl ?_
                    have b11 := hb (9 + i)
                    refine j_i2l hJ (q := 154) dX9_digest_153 rfl (zL_i _ (zI_nat (A (9 + i))).symm (by omega)) ?_
                    refine j_ladd hJ (q := 155) dX9_digest_154 rfl (zL_add _ _) ?_
                    refine j_lstore_n hJ (q := 156) (lvs' := [(1, .long (zL (31 * (31 * (31 * (31 * d3 + ((A (22 + i)) : Int)) + ((A (28 + i)) : Int)) + ((A (15 + i)) : Int)) + ((A (9 + i)) : Int)))), (0, .ref h), (3, .int (nI i))]) dX9_digest_155 rfl (by decide) rfl rfl ?_
                    refine j_iinc hJ (q := 159) (lvs' := [(3, .int (nI (i + 1))), (1, .long (zL (31 * (31 * (31 * (31 * d3 + ((A (22 + i)) : Int)) + ((A (28 + i)) : Int)) + ((A (15 + i)) : Int)) + ((A (9 + i)) : Int)))), (0, .ref h)]) dX9_digest_156 2 rfl (by rw [show Int32.ofInt 1 = nI 1 from by decide +kernel]; exact nI_add _ _) (by decide) rfl rfl ?_
                    refine j_goto hJ (q := 84) dX9_digest_159 (by decide) ?_
                    refine j_locals hJ [2, 1, 0] rfl ?_
                    exact ih_84 (31 * (31 * (31 * (31 * d3 + ((A (22 + i)) : Int)) + ((A (28 + i)) : Int)) + ((A (15 + i)) : Int)) + ((A (9 + i)) : Int)) (i + 1) (by omega) (by omega) (by simp only [drN]; rw [hd3])
              refine j_locals hJ [1, 2, 0] rfl ?_
              exact L_84 ((A 0 - 0) + 1) d2 0 (Nat.lt_succ_self _) (by omega) (by rw [hd2, show s = A 21 by omega]; rfl)
            · skip
              refine j_ldc2 hJ (q := 47) (v' := zL 31) dX9_digest_44 tm_1184 rfl rfl ?_
              refine j_ldc2 hJ (q := 50) (v' := zL 31) dX9_digest_47 tm_1184 rfl rfl ?_
              refine j_lload_n hJ (q := 51) dX9_digest_50 rfl 1 rfl rfl ?_
              refine j_lmul hJ (q := 52) dX9_digest_51 rfl (zL_mul _ _) ?_
              refine j_aload_n hJ (q := 53) dX9_digest_52 rfl 0 rfl rfl ?_
              refine j_get hJ (q := 56) jf_X9_7 dX9_digest_53 0 rfl rfl rfl ?_
              refine j_bipush hJ (q := 58) dX9_digest_56 rfl kb_34 ?_
              refine j_iload_n hJ (q := 59) dX9_digest_58 rfl 2 rfl rfl ?_
              refine j_iadd hJ (q := 60) dX9_digest_59 rfl (nI_add _ _) ?_
              refine j_ialdN hJ (q := 61) (z := nI (A (34 + s))) dX9_digest_60 1 rfl (by omega) (by decide) rfl rfl ?_
              have b12 := hb (34 + s)
              refine j_i2l hJ (q := 62) dX9_digest_61 rfl (zL_i _ (zI_nat (A (34 + s))).symm (by omega)) ?_
              refine j_ladd hJ (q := 63) dX9_digest_62 rfl (zL_add _ _) ?_
              refine j_lmul hJ (q := 64) dX9_digest_63 rfl (zL_mul _ _) ?_
              refine j_aload_n hJ (q := 65) dX9_digest_64 rfl 0 rfl rfl ?_
              refine j_get hJ (q := 68) jf_X9_7 dX9_digest_65 0 rfl rfl rfl ?_
              refine j_bipush hJ (q := 70) dX9_digest_68 rfl kb_46 ?_
              refine j_iload_n hJ (q := 71) dX9_digest_70 rfl 2 rfl rfl ?_
              refine j_iadd hJ (q := 72) dX9_digest_71 rfl (nI_add _ _) ?_
              refine j_ialdN hJ (q := 73) (z := nI (A (46 + s))) dX9_digest_72 1 rfl (by omega) (by decide) rfl rfl ?_
              have b13 := hb (46 + s)
              refine j_i2l hJ (q := 74) dX9_digest_73 rfl (zL_i _ (zI_nat (A (46 + s))).symm (by omega)) ?_
              refine j_ladd hJ (q := 75) dX9_digest_74 rfl (zL_add _ _) ?_
              refine j_lstore_n hJ (q := 76) (lvs' := [(1, .long (zL (31 * (31 * d2 + ((A (34 + s)) : Int)) + ((A (46 + s)) : Int)))), (0, .ref h), (3, .int (nI s))]) dX9_digest_75 rfl (by decide) rfl rfl ?_
              refine j_iinc hJ (q := 79) (lvs' := [(3, .int (nI (s + 1))), (1, .long (zL (31 * (31 * d2 + ((A (34 + s)) : Int)) + ((A (46 + s)) : Int)))), (0, .ref h)]) dX9_digest_76 2 rfl (by rw [show Int32.ofInt 1 = nI 1 from by decide +kernel]; exact nI_add _ _) (by decide) rfl rfl ?_
              refine j_goto hJ (q := 33) dX9_digest_79 (by decide) ?_
              refine j_locals hJ [2, 1, 0] rfl ?_
              exact ih_33 (31 * (31 * d2 + ((A (34 + s)) : Int)) + ((A (46 + s)) : Int)) (s + 1) (by omega) (by omega) (by simp only [dsN]; rw [hd2])
        refine j_locals hJ [1, 2, 0] rfl ?_
        exact L_33 ((A 21 - 0) + 1) d1 0 (Nat.lt_succ_self _) (by omega) (by rw [hd1, show w = 12 by omega]; rfl)
      · skip
        refine j_ldc2 hJ (q := 15) (v' := zL 31) dX9_digest_12 tm_1184 rfl rfl ?_
        refine j_lload_n hJ (q := 16) dX9_digest_15 rfl 1 rfl rfl ?_
        refine j_lmul hJ (q := 17) dX9_digest_16 rfl (zL_mul _ _) ?_
        refine j_aload_n hJ (q := 18) dX9_digest_17 rfl 0 rfl rfl ?_
        refine j_iload_n hJ (q := 19) dX9_digest_18 rfl 2 rfl rfl ?_
        refine j_vR hJ (q := 22) (rest := [.long (zL (31 * d1))]) (As := [.int (nI w)]) jl_X9_271 (c_X9_counted Z h q ab be bl ta tl tk va A w (by omega) hb (by omega)) 0 rfl rfl dX9_digest_19 rfl (by decide) (Nat.le_of_ble_eq_true rfl) [0, 1] rfl rfl (fun rv hp => ?_)
        obtain rfl := hp
        show J 22 [(0, .ref h), (1, .long (zL d1)), (3, .int (nI w))] [.int (nI (cnt A bl w)), .long (zL (31 * d1))] [mO h q ab be bl ta tl tk va, (q 0, ia Z 266 (ni A))] 0 0
        refine j_i2l hJ (q := 23) dX9_digest_22 rfl (zL_i _ (zI_nat (cnt A bl w)).symm (by omega)) ?_
        refine j_ladd hJ (q := 24) dX9_digest_23 rfl (zL_add _ _) ?_
        refine j_lstore_n hJ (q := 25) (lvs' := [(1, .long (zL (31 * d1 + ((cnt A bl w) : Int)))), (0, .ref h), (3, .int (nI w))]) dX9_digest_24 rfl (by decide) rfl rfl ?_
        refine j_iinc hJ (q := 28) (lvs' := [(3, .int (nI (w + 1))), (1, .long (zL (31 * d1 + ((cnt A bl w) : Int)))), (0, .ref h)]) dX9_digest_25 2 rfl (by rw [show Int32.ofInt 1 = nI 1 from by decide +kernel]; exact nI_add _ _) (by decide) rfl rfl ?_
        refine j_goto hJ (q := 6) dX9_digest_28 (by decide) ?_
        refine j_locals hJ [2, 1, 0] rfl ?_
        exact ih_6 (31 * d1 + ((cnt A bl w) : Int)) (w + 1) (by omega) (by omega) (by simp only [dcN]; rw [hd1])
  refine j_locals hJ [2, 1, 0] rfl ?_
  exact L_6 ((12 - 0) + 1) 1811 0 (Nat.lt_succ_self _) (by omega) rfl
