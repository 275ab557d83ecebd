set_option maxHeartbeats 4000000 in
set_option maxRecDepth 100000 in
theorem c_X9_isSmall (Z : jZ) (c : Nat) (hc : c < 1000) : CR Z yX9_isSmall cX9_isSmall 1 ((some FieldType.boolean)) 2 [.int (nI c)] [] (fun rr => rr = some (.int (bI (decide (97 ≤ c ∧ c ≤ 122))))) := by
  refine CR.of RX9 rfl (by decide +kernel) (Nat.le_of_ble_eq_true rfl) ?_
  intro J hJ hE
  show J 0 [(0, .int (nI c))] [] [] 0 0
  refine j_iload_n hJ (q := 1) dX9_isSmall_0 rfl 0 rfl rfl ?_
  refine j_i2l hJ (q := 2) dX9_isSmall_1 rfl (zL_i _ (zI_nat c).symm (by omega)) ?_
  refine j_ldc2 hJ (q := 5) (v' := zL 97) dX9_isSmall_2 tm_1115 rfl rfl ?_
  refine j_ldc2 hJ (q := 8) (v' := zL 122) dX9_isSmall_5 tm_1116 rfl rfl ?_
  refine j_sR hJ (q := 11) (rest := []) (As := [.long (zL (c : Int)), .long (zL 97), .long (zL 122)]) jl_X9_53 (c_X9_in Z (c : Int) 97 122 (by omega) (by omega) (by omega)) dX9_isSmall_8 rfl (by decide) (Nat.le_of_ble_eq_true rfl) [] rfl rfl (fun rv hp => ?_)
  obtain rfl := hp
  show J 11 [(0, .int (nI c))] [.int (bI (decide (97 ≤ (c : Int) ∧ (c : Int) ≤ 122)))] [] 0 0
  exact hE.1 _ _ _ _ _ _ _ rfl (bI_nar _) dX9_isSmall_11 (Nat.le_refl _) (Nat.le_refl _) (congrArg (fun z => some (Value.int (bI z))) (decide_eq_decide.mpr (by omega)))

set_option maxHeartbeats 4000000 in
set_option maxRecDepth 100000 in
theorem c_X9_isFigure (Z : jZ) (c : Nat) (hc : c < 1000) : CR Z yX9_isFigure cX9_isFigure 1 ((some FieldType.boolean)) 2 [.int (nI c)] [] (fun rr => rr = some (.int (bI (decide (48 ≤ c ∧ c ≤ 57))))) := by
  refine CR.of RX9 rfl (by decide +kernel) (Nat.le_of_ble_eq_true rfl) ?_
  intro J hJ hE
  show J 0 [(0, .int (nI c))] [] [] 0 0
  refine j_iload_n hJ (q := 1) dX9_isFigure_0 rfl 0 rfl rfl ?_
  refine j_i2l hJ (q := 2) dX9_isFigure_1 rfl (zL_i _ (zI_nat c).symm (by omega)) ?_
  refine j_ldc2 hJ (q := 5) (v' := zL 48) dX9_isFigure_2 tm_1120 rfl rfl ?_
  refine j_ldc2 hJ (q := 8) (v' := zL 57) dX9_isFigure_5 tm_1121 rfl rfl ?_
  refine j_sR hJ (q := 11) (rest := []) (As := [.long (zL (c : Int)), .long (zL 48), .long (zL 57)]) jl_X9_53 (c_X9_in Z (c : Int) 48 57 (by omega) (by omega) (by omega)) dX9_isFigure_8 rfl (by decide) (Nat.le_of_ble_eq_true rfl) [] rfl rfl (fun rv hp => ?_)
  obtain rfl := hp
  show J 11 [(0, .int (nI c))] [.int (bI (decide (48 ≤ (c : Int) ∧ (c : Int) ≤ 57)))] [] 0 0
  exact hE.1 _ _ _ _ _ _ _ rfl (bI_nar _) dX9_isFigure_11 (Nat.le_refl _) (Nat.le_refl _) (congrArg (fun z => some (Value.int (bI z))) (decide_eq_decide.mpr (by omega)))

set_option maxHeartbeats 4000000 in
set_option maxRecDepth 100000 in
theorem c_X9_lookAt (Z : jZ) (h : Nat) (q : Nat → Nat) (ab : Int) (be : Int) (bl : Nat) (ta : Nat) (tl : Nat) (tk : Nat) (va : Nat) (By : Nat → Nat) (f : Nat) (hf : f ≤ bl) (hbl : bl ≤ 150) (hby : ∀ j, By j < 128) : CT Z yX9_lookAt cX9_lookAt 5 (none) 3 0 0 [.ref h, .int (nI f)] [mO h q ab be bl ta tl tk va, (q 7, ia Z 150 (ni By))] (fun rr ww => rr = none ∧ ww = [mO h q ab be bl (sk By bl f) (tkL By bl (sk By bl f)) (tkK By bl (sk By bl f)) (tkV By bl (sk By bl f)), (q 7, ia Z 150 (ni By))]) := by
  refine CT.of RX9 false rfl (fun h => by cases h) (by decide +kernel) (Nat.le_of_ble_eq_true rfl) ?_
  intro J hJ hE
  show J 0 [(0, .ref h), (1, .int (nI f))] [] [mO h q ab be bl ta tl tk va, (q 7, ia Z 150 (ni By))] 0 0
  refine j_aload_n hJ (q := 1) dX9_lookAt_0 rfl 0 rfl rfl ?_
  refine j_iload_n hJ (q := 2) dX9_lookAt_1 rfl 1 rfl rfl ?_
  refine j_put hJ (q := 5) (ws' := [mO h q ab be bl f tl tk va, (q 7, ia Z 150 (ni By))]) jp_X9_220 dX9_lookAt_2 0 rfl rfl rfl (Nat.le_of_ble_eq_true rfl) rfl rfl ?_
  have L_5 : ∀ (fu_5 : Nat) (a : Nat), bl - a < fu_5 → (f ≤ a ∧ a ≤ bl) → (sk By bl a = sk By bl f) → J 5 [(0, .ref h), (1, .int (nI f))] [] [mO h q ab be bl a tl tk va, (q 7, ia Z 150 (ni By))] 0 0 := by
    intro fu_5
    induction fu_5 with
    | zero => intro a hm; exact absurd hm (Nat.not_lt_zero _)
    | succ fu_5 ih_5 =>
      intro a hm_5 ha hs
      refine j_aload_n hJ (q := 6) dX9_lookAt_5 rfl 0 rfl rfl ?_
      refine j_get hJ (q := 9) jf_X9_220 dX9_lookAt_6 0 rfl rfl rfl ?_
      refine j_aload_n hJ (q := 10) dX9_lookAt_9 rfl 0 rfl rfl ?_
      refine j_get hJ (q := 13) jf_X9_208 dX9_lookAt_10 0 rfl rfl rfl ?_
      refine jn_icmp_ge hJ (q := 16) (tgt := 43) dX9_lookAt_13 (by decide) rfl (by omega) (by omega) (fun c1 => ?_) (fun c1 => ?_)
      · skip
        have hsk : sk By bl f = a := by rw [← hs]; exact sk_stop (by omega)
        refine j_aload_n hJ (q := 44) dX9_lookAt_43 rfl 0 rfl rfl ?_
        refine j_iconst hJ (q := 45) dX9_lookAt_44 rfl ki_0 ?_
        refine j_put hJ (q := 48) (ws' := [mO h q ab be bl a 0 tk va, (q 7, ia Z 150 (ni By))]) jp_X9_223 dX9_lookAt_45 0 rfl rfl rfl (Nat.le_of_ble_eq_true rfl) rfl rfl ?_
        refine j_aload_n hJ (q := 49) dX9_lookAt_48 rfl 0 rfl rfl ?_
        refine j_iconst hJ (q := 50) dX9_lookAt_49 rfl ki_0 ?_
        refine j_put hJ (q := 53) (ws' := [mO h q ab be bl a 0 0 va, (q 7, ia Z 150 (ni By))]) jp_X9_226 dX9_lookAt_50 0 rfl rfl rfl (Nat.le_of_ble_eq_true rfl) rfl rfl ?_
        refine j_aload_n hJ (q := 54) dX9_lookAt_53 rfl 0 rfl rfl ?_
        refine j_iconst hJ (q := 55) dX9_lookAt_54 rfl ki_0 ?_
        refine j_put hJ (q := 58) (ws' := [mO h q ab be bl a 0 0 0, (q 7, ia Z 150 (ni By))]) jp_X9_229 dX9_lookAt_55 0 rfl rfl rfl (Nat.le_of_ble_eq_true rfl) rfl rfl ?_
        refine j_aload_n hJ (q := 59) dX9_lookAt_58 rfl 0 rfl rfl ?_
        refine j_get hJ (q := 62) jf_X9_220 dX9_lookAt_59 0 rfl rfl rfl ?_
        refine j_aload_n hJ (q := 63) dX9_lookAt_62 rfl 0 rfl rfl ?_
        refine j_get hJ (q := 66) jf_X9_208 dX9_lookAt_63 0 rfl rfl rfl ?_
        refine jn_icmp_ne hJ (q := 69) (tgt := 70) dX9_lookAt_66 (by decide) rfl (by omega) (by omega) (fun c2 => ?_) (fun c2 => ?_)
        · skip
          refine j_aload_n hJ (q := 71) dX9_lookAt_70 rfl 0 rfl rfl ?_
          refine j_get hJ (q := 74) jf_X9_36 dX9_lookAt_71 0 rfl rfl rfl ?_
          refine j_aload_n hJ (q := 75) dX9_lookAt_74 rfl 0 rfl rfl ?_
          refine j_get hJ (q := 78) jf_X9_220 dX9_lookAt_75 0 rfl rfl rfl ?_
          refine j_ialdN hJ (q := 79) (z := nI (By a)) dX9_lookAt_78 1 rfl (by omega) (by decide) rfl rfl ?_
          have b3 := hby a
          refine j_istore_n hJ (q := 80) (lvs' := [(2, .int (nI (By a))), (0, .ref h), (1, .int (nI f))]) dX9_lookAt_79 rfl (by decide) rfl rfl ?_
          refine j_aload_n hJ (q := 81) dX9_lookAt_80 rfl 1 rfl rfl ?_
          refine j_iload_n hJ (q := 82) dX9_lookAt_81 rfl 0 rfl rfl ?_
          refine j_sR hJ (q := 85) (rest := [.ref h]) (As := [.int (nI (By a))]) jl_X9_232 (c_X9_isSmall Z (By a) (by omega)) dX9_lookAt_82 rfl (by decide) (Nat.le_of_ble_eq_true rfl) [] rfl rfl (fun rv hp => ?_)
          obtain rfl := hp
          show J 85 [(2, .int (nI (By a))), (0, .ref h), (1, .int (nI f))] [.int (bI (decide (97 ≤ (By a) ∧ (By a) ≤ 122))), .ref h] [mO h q ab be bl a 0 0 0, (q 7, ia Z 150 (ni By))] 0 0
          refine jp_if_eq hJ (q := 88) (tgt := 92) dX9_lookAt_85 (by decide) rfl (fun c4 => ?_) (fun c4 => ?_)
          · skip
            refine j_iload_n hJ (q := 93) dX9_lookAt_92 rfl 0 rfl rfl ?_
            refine j_sR hJ (q := 96) (rest := [.ref h]) (As := [.int (nI (By a))]) jl_X9_235 (c_X9_isFigure Z (By a) (by omega)) dX9_lookAt_93 rfl (by decide) (Nat.le_of_ble_eq_true rfl) [] rfl rfl (fun rv hp => ?_)
            obtain rfl := hp
            show J 96 [(2, .int (nI (By a))), (0, .ref h), (1, .int (nI f))] [.int (bI (decide (48 ≤ (By a) ∧ (By a) ≤ 57))), .ref h] [mO h q ab be bl a 0 0 0, (q 7, ia Z 150 (ni By))] 0 0
            refine jp_if_eq hJ (q := 99) (tgt := 103) dX9_lookAt_96 (by decide) rfl (fun c5 => ?_) (fun c5 => ?_)
            · skip
              refine j_iload_n hJ (q := 104) dX9_lookAt_103 rfl 0 rfl rfl ?_
              refine j_bipush hJ (q := 106) dX9_lookAt_104 rfl kb_59 ?_
              refine jn_icmp_ne hJ (q := 109) (tgt := 113) dX9_lookAt_106 (by decide) rfl (by omega) (by omega) (fun c6 => ?_) (fun c6 => ?_)
              · skip
                have hk : cls (By a) = 4 := by unfold cls; (repeat' split) <;> omega
                refine j_iconst hJ (q := 114) dX9_lookAt_113 rfl ki_4 ?_
                refine j_put hJ (q := 117) (ws' := [mO h q ab be bl a 0 4 0, (q 7, ia Z 150 (ni By))]) jp_X9_226 dX9_lookAt_114 0 rfl rfl rfl (Nat.le_of_ble_eq_true rfl) rfl rfl ?_
                refine j_aload_n hJ (q := 118) dX9_lookAt_117 rfl 1 rfl rfl ?_
                refine j_iconst hJ (q := 119) dX9_lookAt_118 rfl ki_1 ?_
                refine j_put hJ (q := 122) (ws' := [mO h q ab be bl a 1 4 0, (q 7, ia Z 150 (ni By))]) jp_X9_223 dX9_lookAt_119 0 rfl rfl rfl (Nat.le_of_ble_eq_true rfl) rfl rfl ?_
                refine j_aload_n hJ (q := 123) dX9_lookAt_122 rfl 1 rfl rfl ?_
                refine j_get hJ (q := 126) jf_X9_226 dX9_lookAt_123 0 rfl rfl rfl ?_
                refine j_iconst hJ (q := 127) dX9_lookAt_126 rfl ki_3 ?_
                refine jn_icmp_ge hJ (q := 130) (tgt := 134) dX9_lookAt_127 (by decide) rfl (by omega) (by omega) (fun c7 => ?_) (fun c7 => ?_)
                · skip
                  refine j_iconst hJ (q := 135) dX9_lookAt_134 rfl ki_0 ?_
                  refine j_istore_n hJ (q := 136) (lvs' := [(3, .int (nI 0)), (2, .int (nI (By a))), (0, .ref h), (1, .int (nI f))]) dX9_lookAt_135 rfl (by decide) rfl rfl ?_
                  have L_136 : ∀ (fu_136 : Nat) (l : Nat) (g : Nat), (bl - (a + l)) + g < fu_136 → (g ≤ 1) → (1 ≤ l ∧ a + l ≤ bl) → (g = 1 → cls (By a) ≤ 2) → (g = 0 → l = tl0 (cls (By a)) By bl a) → (g = 1 → l + rn (cls (By a)) By bl (a + l) = tl0 (cls (By a)) By bl a) → J 136 [(0, .ref h), (1, .int (nI f)), (2, .int (nI (By a))), (3, .int (nI g))] [] [mO h q ab be bl a l 4 0, (q 7, ia Z 150 (ni By))] 0 0 := by
                    intro fu_136
                    induction fu_136 with
                    | zero => intro l g hm; exact absurd hm (Nat.not_lt_zero _)
                    | succ fu_136 ih_136 =>
                      intro l g hm_136 hg hl hgk hg0 hg1
                      refine j_iload_n hJ (q := 137) dX9_lookAt_136 rfl 3 rfl rfl ?_
                      refine jn_if_eq hJ (q := 140) (tgt := 215) dX9_lookAt_137 (by decide) rfl (by omega) (fun c8 => ?_) (fun c8 => ?_)
                      · skip
                        have hlf : l = tl0 (cls (By a)) By bl a := (Nat.eq_zero_or_pos g).elim (fun h0 => hg0 h0) (fun h0 => by have := hg1 (by omega); rw [rn_stop (by omega)] at this; omega)
                        refine j_iconst hJ (q := 216) dX9_lookAt_215 rfl ki_0 ?_
                        refine j_istore hJ (q := 218) (lvs' := [(4, .int (nI 0)), (0, .ref h), (1, .int (nI f)), (2, .int (nI (By a))), (3, .int (nI g))]) dX9_lookAt_216 (by decide) rfl rfl ?_
                        have L_218 : ∀ (fu_218 : Nat) (v : Nat) (k : Nat), 2 - k < fu_218 → (k ≤ 2 ∧ k ≤ l) → (v = vN By a k) → (cls (By a) = 2 ∨ k = 0) → J 218 [(0, .ref h), (1, .int (nI f)), (2, .int (nI (By a))), (3, .int (nI g)), (4, .int (nI k))] [] [mO h q ab be bl a l 4 v, (q 7, ia Z 150 (ni By))] 0 0 := by
                          intro fu_218
                          induction fu_218 with
                          | zero => intro v k hm; exact absurd hm (Nat.not_lt_zero _)
                          | succ fu_218 ih_218 =>
                            intro v k hm_218 hk2 hv hk0
                            have hvl := vN_le (a := a) hby k hk2.1
                            refine j_iload hJ (q := 220) dX9_lookAt_218 4 rfl rfl ?_
                            refine j_aload_n hJ (q := 221) dX9_lookAt_220 rfl 0 rfl rfl ?_
                            refine j_get hJ (q := 224) jf_X9_223 dX9_lookAt_221 0 rfl rfl rfl ?_
                            refine jn_icmp_ge hJ (q := 227) (tgt := 274) dX9_lookAt_224 (by decide) rfl (by omega) (by omega) (fun c9 => ?_) (fun c9 => ?_)
                            · skip
                              have hT1 : tkL By bl a = l := by rw [tkL_of (by omega) rfl]; exact hlf.symm
                              have hT3 : tkV By bl a = v := by unfold tkV; rw [if_neg (by omega), hT1, hk]; rw [if_neg (by decide), hv, show k = 0 by omega]; rfl
                              refine j_aload_n hJ (q := 275) dX9_lookAt_274 rfl 0 rfl rfl ?_
                              refine j_aload_n hJ (q := 276) dX9_lookAt_275 rfl 0 rfl rfl ?_
                              refine j_get hJ (q := 279) jf_X9_226 dX9_lookAt_276 0 rfl rfl rfl ?_
                              refine j_iconst hJ (q := 280) dX9_lookAt_279 rfl ki_2 ?_
                              refine jn_icmp_ne hJ (q := 283) (tgt := 295) dX9_lookAt_280 (by decide) rfl (by omega) (by omega) (fun c10 => ?_) (fun c10 => ?_)
                              · skip
                                refine j_aload_n hJ (q := 296) dX9_lookAt_295 rfl 0 rfl rfl ?_
                                refine j_get hJ (q := 299) jf_X9_226 dX9_lookAt_296 0 rfl rfl rfl ?_
                                have hT2 : tkK By bl a = 4 := by unfold tkK; rw [if_neg (by omega), hT1, hk]; split <;> omega
                                refine j_put hJ (q := 302) (ws' := [mO h q ab be bl a l 4 v, (q 7, ia Z 150 (ni By))]) jp_X9_226 dX9_lookAt_299 0 rfl rfl rfl (Nat.le_of_ble_eq_true rfl) rfl rfl ?_
                                exact hE.2.2 _ _ _ _ _ rfl dX9_lookAt_302 (Nat.le_refl _) (Nat.le_refl _) (⟨rfl, by rw [hsk, hT1, hT2, hT3]⟩)
                              · skip
                                exfalso; omega
                            · skip
                              refine j_iload hJ (q := 229) dX9_lookAt_227 4 rfl rfl ?_
                              refine j_iconst hJ (q := 230) dX9_lookAt_229 rfl ki_2 ?_
                              refine jn_icmp_ge hJ (q := 233) (tgt := 274) dX9_lookAt_230 (by decide) rfl (by omega) (by omega) (fun c11 => ?_) (fun c11 => ?_)
                              · skip
                                have hT1 : tkL By bl a = l := by rw [tkL_of (by omega) rfl]; exact hlf.symm
                                have hT3 : tkV By bl a = v := by unfold tkV; rw [if_neg (by omega), hT1, hk]; rw [if_neg (by decide), hv, show k = 0 by omega]; rfl
                                refine j_aload_n hJ (q := 275) dX9_lookAt_274 rfl 0 rfl rfl ?_
                                refine j_aload_n hJ (q := 276) dX9_lookAt_275 rfl 0 rfl rfl ?_
                                refine j_get hJ (q := 279) jf_X9_226 dX9_lookAt_276 0 rfl rfl rfl ?_
                                refine j_iconst hJ (q := 280) dX9_lookAt_279 rfl ki_2 ?_
                                refine jn_icmp_ne hJ (q := 283) (tgt := 295) dX9_lookAt_280 (by decide) rfl (by omega) (by omega) (fun c12 => ?_) (fun c12 => ?_)
                                · skip
                                  refine j_aload_n hJ (q := 296) dX9_lookAt_295 rfl 0 rfl rfl ?_
                                  refine j_get hJ (q := 299) jf_X9_226 dX9_lookAt_296 0 rfl rfl rfl ?_
                                  have hT2 : tkK By bl a = 4 := by unfold tkK; rw [if_neg (by omega), hT1, hk]; split <;> omega
                                  refine j_put hJ (q := 302) (ws' := [mO h q ab be bl a l 4 v, (q 7, ia Z 150 (ni By))]) jp_X9_226 dX9_lookAt_299 0 rfl rfl rfl (Nat.le_of_ble_eq_true rfl) rfl rfl ?_
                                  exact hE.2.2 _ _ _ _ _ rfl dX9_lookAt_302 (Nat.le_refl _) (Nat.le_refl _) (⟨rfl, by rw [hsk, hT1, hT2, hT3]⟩)
                                · skip
                                  exfalso; omega
                              · skip
                                refine j_aload_n hJ (q := 234) dX9_lookAt_233 rfl 0 rfl rfl ?_
                                refine j_get hJ (q := 237) jf_X9_226 dX9_lookAt_234 0 rfl rfl rfl ?_
                                refine j_iconst hJ (q := 238) dX9_lookAt_237 rfl ki_2 ?_
                                refine jn_icmp_ne hJ (q := 241) (tgt := 274) dX9_lookAt_238 (by decide) rfl (by omega) (by omega) (fun c13 => ?_) (fun c13 => ?_)
                                · skip
                                  have hT1 : tkL By bl a = l := by rw [tkL_of (by omega) rfl]; exact hlf.symm
                                  have hT3 : tkV By bl a = v := by unfold tkV; rw [if_neg (by omega), hT1, hk]; rw [if_neg (by decide), hv, show k = 0 by omega]; rfl
                                  refine j_aload_n hJ (q := 275) dX9_lookAt_274 rfl 0 rfl rfl ?_
                                  refine j_aload_n hJ (q := 276) dX9_lookAt_275 rfl 0 rfl rfl ?_
                                  refine j_get hJ (q := 279) jf_X9_226 dX9_lookAt_276 0 rfl rfl rfl ?_
                                  refine j_iconst hJ (q := 280) dX9_lookAt_279 rfl ki_2 ?_
                                  refine jn_icmp_ne hJ (q := 283) (tgt := 295) dX9_lookAt_280 (by decide) rfl (by omega) (by omega) (fun c14 => ?_) (fun c14 => ?_)
                                  · skip
                                    refine j_aload_n hJ (q := 296) dX9_lookAt_295 rfl 0 rfl rfl ?_
                                    refine j_get hJ (q := 299) jf_X9_226 dX9_lookAt_296 0 rfl rfl rfl ?_
                                    have hT2 : tkK By bl a = 4 := by unfold tkK; rw [if_neg (by omega), hT1, hk]; split <;> omega
                                    refine j_put hJ (q := 302) (ws' := [mO h q ab be bl a l 4 v, (q 7, ia Z 150 (ni By))]) jp_X9_226 dX9_lookAt_299 0 rfl rfl rfl (Nat.le_of_ble_eq_true rfl) rfl rfl ?_
                                    exact hE.2.2 _ _ _ _ _ rfl dX9_lookAt_302 (Nat.le_refl _) (Nat.le_refl _) (⟨rfl, by rw [hsk, hT1, hT2, hT3]⟩)
                                  · skip
                                    exfalso; omega
                                · skip
                                  exfalso; omega
                        refine j_locals hJ [1, 2, 3, 4, 0] rfl ?_
                        exact L_218 ((2 - 0) + 1) 0 0 (Nat.lt_succ_self _) (by omega) rfl (by omega)
                      · skip
                        have hgk2 := hgk (by omega)
                        refine j_aload_n hJ (q := 141) dX9_lookAt_140 rfl 0 rfl rfl ?_
                        refine j_get hJ (q := 144) jf_X9_220 dX9_lookAt_141 0 rfl rfl rfl ?_
                        refine j_aload_n hJ (q := 145) dX9_lookAt_144 rfl 0 rfl rfl ?_
                        refine j_get hJ (q := 148) jf_X9_223 dX9_lookAt_145 0 rfl rfl rfl ?_
                        refine j_iadd hJ (q := 149) dX9_lookAt_148 rfl (nI_add _ _) ?_
                        refine j_aload_n hJ (q := 150) dX9_lookAt_149 rfl 0 rfl rfl ?_
                        refine j_get hJ (q := 153) jf_X9_208 dX9_lookAt_150 0 rfl rfl rfl ?_
                        refine jn_icmp_ge hJ (q := 156) (tgt := 215) dX9_lookAt_153 (by decide) rfl (by omega) (by omega) (fun c15 => ?_) (fun c15 => ?_)
                        · skip
                          have hlf : l = tl0 (cls (By a)) By bl a := (Nat.eq_zero_or_pos g).elim (fun h0 => hg0 h0) (fun h0 => by have := hg1 (by omega); rw [rn_stop (by omega)] at this; omega)
                          refine j_iconst hJ (q := 216) dX9_lookAt_215 rfl ki_0 ?_
                          refine j_istore hJ (q := 218) (lvs' := [(4, .int (nI 0)), (0, .ref h), (1, .int (nI f)), (2, .int (nI (By a))), (3, .int (nI g))]) dX9_lookAt_216 (by decide) rfl rfl ?_
                          have L_218 : ∀ (fu_218 : Nat) (v : Nat) (k : Nat), 2 - k < fu_218 → (k ≤ 2 ∧ k ≤ l) → (v = vN By a k) → (cls (By a) = 2 ∨ k = 0) → J 218 [(0, .ref h), (1, .int (nI f)), (2, .int (nI (By a))), (3, .int (nI g)), (4, .int (nI k))] [] [mO h q ab be bl a l 4 v, (q 7, ia Z 150 (ni By))] 0 0 := by
                            intro fu_218
                            induction fu_218 with
                            | zero => intro v k hm; exact absurd hm (Nat.not_lt_zero _)
                            | succ fu_218 ih_218 =>
                              intro v k hm_218 hk2 hv hk0
                              have hvl := vN_le (a := a) hby k hk2.1
                              refine j_iload hJ (q := 220) dX9_lookAt_218 4 rfl rfl ?_
                              refine j_aload_n hJ (q := 221) dX9_lookAt_220 rfl 0 rfl rfl ?_
                              refine j_get hJ (q := 224) jf_X9_223 dX9_lookAt_221 0 rfl rfl rfl ?_
                              refine jn_icmp_ge hJ (q := 227) (tgt := 274) dX9_lookAt_224 (by decide) rfl (by omega) (by omega) (fun c16 => ?_) (fun c16 => ?_)
                              · skip
                                have hT1 : tkL By bl a = l := by rw [tkL_of (by omega) rfl]; exact hlf.symm
                                have hT3 : tkV By bl a = v := by unfold tkV; rw [if_neg (by omega), hT1, hk]; rw [if_neg (by decide), hv, show k = 0 by omega]; rfl
                                refine j_aload_n hJ (q := 275) dX9_lookAt_274 rfl 0 rfl rfl ?_
                                refine j_aload_n hJ (q := 276) dX9_lookAt_275 rfl 0 rfl rfl ?_
                                refine j_get hJ (q := 279) jf_X9_226 dX9_lookAt_276 0 rfl rfl rfl ?_
                                refine j_iconst hJ (q := 280) dX9_lookAt_279 rfl ki_2 ?_
                                refine jn_icmp_ne hJ (q := 283) (tgt := 295) dX9_lookAt_280 (by decide) rfl (by omega) (by omega) (fun c17 => ?_) (fun c17 => ?_)
                                · skip
                                  refine j_aload_n hJ (q := 296) dX9_lookAt_295 rfl 0 rfl rfl ?_
                                  refine j_get hJ (q := 299) jf_X9_226 dX9_lookAt_296 0 rfl rfl rfl ?_
                                  have hT2 : tkK By bl a = 4 := by unfold tkK; rw [if_neg (by omega), hT1, hk]; split <;> omega
                                  refine j_put hJ (q := 302) (ws' := [mO h q ab be bl a l 4 v, (q 7, ia Z 150 (ni By))]) jp_X9_226 dX9_lookAt_299 0 rfl rfl rfl (Nat.le_of_ble_eq_true rfl) rfl rfl ?_
                                  exact hE.2.2 _ _ _ _ _ rfl dX9_lookAt_302 (Nat.le_refl _) (Nat.le_refl _) (⟨rfl, by rw [hsk, hT1, hT2, hT3]⟩)
                                · skip
                                  exfalso; omega
                              · skip
                                refine j_iload hJ (q := 229) dX9_lookAt_227 4 rfl rfl ?_
                                refine j_iconst hJ (q := 230) dX9_lookAt_229 rfl ki_2 ?_
                                refine jn_icmp_ge hJ (q := 233) (tgt := 274) dX9_lookAt_230 (by decide) rfl (by omega) (by omega) (fun c18 => ?_) (fun c18 => ?_)
                                · skip
                                  have hT1 : tkL By bl a = l := by rw [tkL_of (by omega) rfl]; exact hlf.symm
                                  have hT3 : tkV By bl a = v := by unfold tkV; rw [if_neg (by omega), hT1, hk]; rw [if_neg (by decide), hv, show k = 0 by omega]; rfl
                                  refine j_aload_n hJ (q := 275) dX9_lookAt_274 rfl 0 rfl rfl ?_
                                  refine j_aload_n hJ (q := 276) dX9_lookAt_275 rfl 0 rfl rfl ?_
                                  refine j_get hJ (q := 279) jf_X9_226 dX9_lookAt_276 0 rfl rfl rfl ?_
                                  refine j_iconst hJ (q := 280) dX9_lookAt_279 rfl ki_2 ?_
                                  refine jn_icmp_ne hJ (q := 283) (tgt := 295) dX9_lookAt_280 (by decide) rfl (by omega) (by omega) (fun c19 => ?_) (fun c19 => ?_)
                                  · skip
                                    refine j_aload_n hJ (q := 296) dX9_lookAt_295 rfl 0 rfl rfl ?_
                                    refine j_get hJ (q := 299) jf_X9_226 dX9_lookAt_296 0 rfl rfl rfl ?_
                                    have hT2 : tkK By bl a = 4 := by unfold tkK; rw [if_neg (by omega), hT1, hk]; split <;> omega
                                    refine j_put hJ (q := 302) (ws' := [mO h q ab be bl a l 4 v, (q 7, ia Z 150 (ni By))]) jp_X9_226 dX9_lookAt_299 0 rfl rfl rfl (Nat.le_of_ble_eq_true rfl) rfl rfl ?_
                                    exact hE.2.2 _ _ _ _ _ rfl dX9_lookAt_302 (Nat.le_refl _) (Nat.le_refl _) (⟨rfl, by rw [hsk, hT1, hT2, hT3]⟩)
                                  · skip
                                    exfalso; omega
                                · skip
                                  refine j_aload_n hJ (q := 234) dX9_lookAt_233 rfl 0 rfl rfl ?_
                                  refine j_get hJ (q := 237) jf_X9_226 dX9_lookAt_234 0 rfl rfl rfl ?_
                                  refine j_iconst hJ (q := 238) dX9_lookAt_237 rfl ki_2 ?_
                                  refine jn_icmp_ne hJ (q := 241) (tgt := 274) dX9_lookAt_238 (by decide) rfl (by omega) (by omega) (fun c20 => ?_) (fun c20 => ?_)
                                  · skip
                                    have hT1 : tkL By bl a = l := by rw [tkL_of (by omega) rfl]; exact hlf.symm
                                    have hT3 : tkV By bl a = v := by unfold tkV; rw [if_neg (by omega), hT1, hk]; rw [if_neg (by decide), hv, show k = 0 by omega]; rfl
                                    refine j_aload_n hJ (q := 275) dX9_lookAt_274 rfl 0 rfl rfl ?_
                                    refine j_aload_n hJ (q := 276) dX9_lookAt_275 rfl 0 rfl rfl ?_
                                    refine j_get hJ (q := 279) jf_X9_226 dX9_lookAt_276 0 rfl rfl rfl ?_
                                    refine j_iconst hJ (q := 280) dX9_lookAt_279 rfl ki_2 ?_
                                    refine jn_icmp_ne hJ (q := 283) (tgt := 295) dX9_lookAt_280 (by decide) rfl (by omega) (by omega) (fun c21 => ?_) (fun c21 => ?_)
                                    · skip
                                      refine j_aload_n hJ (q := 296) dX9_lookAt_295 rfl 0 rfl rfl ?_
                                      refine j_get hJ (q := 299) jf_X9_226 dX9_lookAt_296 0 rfl rfl rfl ?_
                                      have hT2 : tkK By bl a = 4 := by unfold tkK; rw [if_neg (by omega), hT1, hk]; split <;> omega
                                      refine j_put hJ (q := 302) (ws' := [mO h q ab be bl a l 4 v, (q 7, ia Z 150 (ni By))]) jp_X9_226 dX9_lookAt_299 0 rfl rfl rfl (Nat.le_of_ble_eq_true rfl) rfl rfl ?_
                                      exact hE.2.2 _ _ _ _ _ rfl dX9_lookAt_302 (Nat.le_refl _) (Nat.le_refl _) (⟨rfl, by rw [hsk, hT1, hT2, hT3]⟩)
                                    · skip
                                      exfalso; omega
                                  · skip
                                    exfalso; omega
                          refine j_locals hJ [1, 2, 3, 4, 0] rfl ?_
                          exact L_218 ((2 - 0) + 1) 0 0 (Nat.lt_succ_self _) (by omega) rfl (by omega)
                        · skip
                          refine j_aload_n hJ (q := 157) dX9_lookAt_156 rfl 0 rfl rfl ?_
                          refine j_get hJ (q := 160) jf_X9_36 dX9_lookAt_157 0 rfl rfl rfl ?_
                          refine j_aload_n hJ (q := 161) dX9_lookAt_160 rfl 0 rfl rfl ?_
                          refine j_get hJ (q := 164) jf_X9_220 dX9_lookAt_161 0 rfl rfl rfl ?_
                          refine j_aload_n hJ (q := 165) dX9_lookAt_164 rfl 0 rfl rfl ?_
                          refine j_get hJ (q := 168) jf_X9_223 dX9_lookAt_165 0 rfl rfl rfl ?_
                          refine j_iadd hJ (q := 169) dX9_lookAt_168 rfl (nI_add _ _) ?_
                          refine j_ialdN hJ (q := 170) (z := nI (By (a + l))) dX9_lookAt_169 1 rfl (by omega) (by decide) rfl rfl ?_
                          have b22 := hby (a + l)
                          refine j_istore hJ (q := 172) (lvs' := [(4, .int (nI (By (a + l)))), (0, .ref h), (1, .int (nI f)), (2, .int (nI (By a))), (3, .int (nI g))]) dX9_lookAt_170 (by decide) rfl rfl ?_
                          refine j_aload_n hJ (q := 173) dX9_lookAt_172 rfl 1 rfl rfl ?_
                          refine j_get hJ (q := 176) jf_X9_226 dX9_lookAt_173 0 rfl rfl rfl ?_
                          refine j_iconst hJ (q := 177) dX9_lookAt_176 rfl ki_1 ?_
                          refine jn_icmp_ne hJ (q := 180) (tgt := 188) dX9_lookAt_177 (by decide) rfl (by omega) (by omega) (fun c23 => ?_) (fun c23 => ?_)
                          · skip
                            refine j_iload hJ (q := 190) dX9_lookAt_188 0 rfl rfl ?_
                            refine j_sR hJ (q := 193) (rest := []) (As := [.int (nI (By (a + l)))]) jl_X9_235 (c_X9_isFigure Z (By (a + l)) (by omega)) dX9_lookAt_190 rfl (by decide) (Nat.le_of_ble_eq_true rfl) [] rfl rfl (fun rv hp => ?_)
                            obtain rfl := hp
                            show J 193 [(4, .int (nI (By (a + l)))), (0, .ref h), (1, .int (nI f)), (2, .int (nI (By a))), (3, .int (nI g))] [.int (bI (decide (48 ≤ (By (a + l)) ∧ (By (a + l)) ≤ 57)))] [mO h q ab be bl a l 4 0, (q 7, ia Z 150 (ni By))] 0 0
                            refine j_casep (fun c24 => ?_) (fun c24 => ?_)
                            · skip
                              refine j_istore_n hJ (q := 194) (lvs' := [(3, .int (nI 1)), (4, .int (nI (By (a + l)))), (0, .ref h), (1, .int (nI f)), (2, .int (nI (By a)))]) dX9_lookAt_193 rfl (by decide) rfl rfl ?_
                              refine j_aload_n hJ (q := 195) dX9_lookAt_194 rfl 2 rfl rfl ?_
                              refine j_dup hJ (q := 196) dX9_lookAt_195 rfl rfl ?_
                              refine j_get hJ (q := 199) jf_X9_223 dX9_lookAt_196 0 rfl rfl rfl ?_
                              refine j_iload_n hJ (q := 200) dX9_lookAt_199 rfl 0 rfl rfl ?_
                              refine jn_if_eq hJ (q := 203) (tgt := 207) dX9_lookAt_200 (by decide) rfl (by omega) (fun c25 => ?_) (fun c25 => ?_)
                              · skip
                                exfalso; omega
                              · skip
                                refine j_iconst hJ (q := 204) dX9_lookAt_203 rfl ki_1 ?_
                                refine j_goto hJ (q := 208) dX9_lookAt_204 (by decide) ?_
                                refine j_iadd hJ (q := 209) dX9_lookAt_208 rfl (nI_add _ _) ?_
                                refine j_put hJ (q := 212) (ws' := [mO h q ab be bl a (l + 1) 4 0, (q 7, ia Z 150 (ni By))]) jp_X9_223 dX9_lookAt_209 0 rfl rfl rfl (Nat.le_of_ble_eq_true rfl) rfl rfl ?_
                                refine j_goto hJ (q := 136) dX9_lookAt_212 (by decide) ?_
                                refine j_locals hJ [2, 3, 4, 0] rfl ?_
                                exact ih_136 (l + 1) 1 (by omega) (by omega) (by omega) (fun z => by omega) (fun z => by first | (exfalso; omega) | (have := hg1 (by omega); rw [rn_stop (by rw [hk]; unfold cls; (repeat' split) <;> omega)] at this; omega)) (fun z => by first | (exfalso; omega) | (have := hg1 (by omega); rw [rn_go (p := a + l) ⟨by omega, by rw [hk]; unfold cls; (repeat' split) <;> omega⟩] at this; rw [show a + (l + 1) = a + l + 1 by omega]; omega))
                            · skip
                              refine j_istore_n hJ (q := 194) (lvs' := [(3, .int (nI 0)), (4, .int (nI (By (a + l)))), (0, .ref h), (1, .int (nI f)), (2, .int (nI (By a)))]) dX9_lookAt_193 rfl (by decide) rfl rfl ?_
                              refine j_aload_n hJ (q := 195) dX9_lookAt_194 rfl 2 rfl rfl ?_
                              refine j_dup hJ (q := 196) dX9_lookAt_195 rfl rfl ?_
                              refine j_get hJ (q := 199) jf_X9_223 dX9_lookAt_196 0 rfl rfl rfl ?_
                              refine j_iload_n hJ (q := 200) dX9_lookAt_199 rfl 0 rfl rfl ?_
                              refine jn_if_eq hJ (q := 203) (tgt := 207) dX9_lookAt_200 (by decide) rfl (by omega) (fun c26 => ?_) (fun c26 => ?_)
                              · skip
                                refine j_iconst hJ (q := 208) dX9_lookAt_207 rfl ki_0 ?_
                                refine j_iadd hJ (q := 209) dX9_lookAt_208 rfl (nI_add _ _) ?_
                                refine j_put hJ (q := 212) (ws' := [mO h q ab be bl a (l + 0) 4 0, (q 7, ia Z 150 (ni By))]) jp_X9_223 dX9_lookAt_209 0 rfl rfl rfl (Nat.le_of_ble_eq_true rfl) rfl rfl ?_
                                refine j_goto hJ (q := 136) dX9_lookAt_212 (by decide) ?_
                                refine j_locals hJ [2, 3, 4, 0] rfl ?_
                                exact ih_136 (l + 0) 0 (by omega) (by omega) (by omega) (fun z => by omega) (fun z => by first | (exfalso; omega) | (have := hg1 (by omega); rw [rn_stop (by rw [hk]; unfold cls; (repeat' split) <;> omega)] at this; omega)) (fun z => by first | (exfalso; omega) | (have := hg1 (by omega); rw [rn_go (p := a + l) ⟨by omega, by rw [hk]; unfold cls; (repeat' split) <;> omega⟩] at this; rw [show a + (l + 1) = a + l + 1 by omega]; omega))
                              · skip
                                exfalso; omega
                          · skip
                            exfalso; omega
                  refine j_locals hJ [2, 3, 1, 0] rfl ?_
                  exact L_136 (((bl - (a + 1)) + 0) + 1) 1 0 (Nat.lt_succ_self _) (by omega) (by omega) (fun z => by omega) (fun z => by first | (exfalso; omega) | (rw [hk]; rfl)) (fun z => by first | (exfalso; omega) | (rw [hk]; rfl))
                · skip
                  exfalso; omega
              · skip
                have hk : cls (By a) = 3 := by unfold cls; (repeat' split) <;> omega
                refine j_iconst hJ (q := 110) dX9_lookAt_109 rfl ki_3 ?_
                refine j_goto hJ (q := 114) dX9_lookAt_110 (by decide) ?_
                refine j_put hJ (q := 117) (ws' := [mO h q ab be bl a 0 3 0, (q 7, ia Z 150 (ni By))]) jp_X9_226 dX9_lookAt_114 0 rfl rfl rfl (Nat.le_of_ble_eq_true rfl) rfl rfl ?_
                refine j_aload_n hJ (q := 118) dX9_lookAt_117 rfl 1 rfl rfl ?_
                refine j_iconst hJ (q := 119) dX9_lookAt_118 rfl ki_1 ?_
                refine j_put hJ (q := 122) (ws' := [mO h q ab be bl a 1 3 0, (q 7, ia Z 150 (ni By))]) jp_X9_223 dX9_lookAt_119 0 rfl rfl rfl (Nat.le_of_ble_eq_true rfl) rfl rfl ?_
                refine j_aload_n hJ (q := 123) dX9_lookAt_122 rfl 1 rfl rfl ?_
                refine j_get hJ (q := 126) jf_X9_226 dX9_lookAt_123 0 rfl rfl rfl ?_
                refine j_iconst hJ (q := 127) dX9_lookAt_126 rfl ki_3 ?_
                refine jn_icmp_ge hJ (q := 130) (tgt := 134) dX9_lookAt_127 (by decide) rfl (by omega) (by omega) (fun c27 => ?_) (fun c27 => ?_)
                · skip
                  refine j_iconst hJ (q := 135) dX9_lookAt_134 rfl ki_0 ?_
                  refine j_istore_n hJ (q := 136) (lvs' := [(3, .int (nI 0)), (2, .int (nI (By a))), (0, .ref h), (1, .int (nI f))]) dX9_lookAt_135 rfl (by decide) rfl rfl ?_
                  have L_136 : ∀ (fu_136 : Nat) (l : Nat) (g : Nat), (bl - (a + l)) + g < fu_136 → (g ≤ 1) → (1 ≤ l ∧ a + l ≤ bl) → (g = 1 → cls (By a) ≤ 2) → (g = 0 → l = tl0 (cls (By a)) By bl a) → (g = 1 → l + rn (cls (By a)) By bl (a + l) = tl0 (cls (By a)) By bl a) → J 136 [(0, .ref h), (1, .int (nI f)), (2, .int (nI (By a))), (3, .int (nI g))] [] [mO h q ab be bl a l 3 0, (q 7, ia Z 150 (ni By))] 0 0 := by
                    intro fu_136
                    induction fu_136 with
                    | zero => intro l g hm; exact absurd hm (Nat.not_lt_zero _)
                    | succ fu_136 ih_136 =>
                      intro l g hm_136 hg hl hgk hg0 hg1
                      refine j_iload_n hJ (q := 137) dX9_lookAt_136 rfl 3 rfl rfl ?_
                      refine jn_if_eq hJ (q := 140) (tgt := 215) dX9_lookAt_137 (by decide) rfl (by omega) (fun c28 => ?_) (fun c28 => ?_)
                      · skip
                        have hlf : l = tl0 (cls (By a)) By bl a := (Nat.eq_zero_or_pos g).elim (fun h0 => hg0 h0) (fun h0 => by have := hg1 (by omega); rw [rn_stop (by omega)] at this; omega)
                        refine j_iconst hJ (q := 216) dX9_lookAt_215 rfl ki_0 ?_
                        refine j_istore hJ (q := 218) (lvs' := [(4, .int (nI 0)), (0, .ref h), (1, .int (nI f)), (2, .int (nI (By a))), (3, .int (nI g))]) dX9_lookAt_216 (by decide) rfl rfl ?_
                        have L_218 : ∀ (fu_218 : Nat) (v : Nat) (k : Nat), 2 - k < fu_218 → (k ≤ 2 ∧ k ≤ l) → (v = vN By a k) → (cls (By a) = 2 ∨ k = 0) → J 218 [(0, .ref h), (1, .int (nI f)), (2, .int (nI (By a))), (3, .int (nI g)), (4, .int (nI k))] [] [mO h q ab be bl a l 3 v, (q 7, ia Z 150 (ni By))] 0 0 := by
                          intro fu_218
                          induction fu_218 with
                          | zero => intro v k hm; exact absurd hm (Nat.not_lt_zero _)
                          | succ fu_218 ih_218 =>
                            intro v k hm_218 hk2 hv hk0
                            have hvl := vN_le (a := a) hby k hk2.1
                            refine j_iload hJ (q := 220) dX9_lookAt_218 4 rfl rfl ?_
                            refine j_aload_n hJ (q := 221) dX9_lookAt_220 rfl 0 rfl rfl ?_
                            refine j_get hJ (q := 224) jf_X9_223 dX9_lookAt_221 0 rfl rfl rfl ?_
                            refine jn_icmp_ge hJ (q := 227) (tgt := 274) dX9_lookAt_224 (by decide) rfl (by omega) (by omega) (fun c29 => ?_) (fun c29 => ?_)
                            · skip
                              have hT1 : tkL By bl a = l := by rw [tkL_of (by omega) rfl]; exact hlf.symm
                              have hT3 : tkV By bl a = v := by unfold tkV; rw [if_neg (by omega), hT1, hk]; rw [if_neg (by decide), hv, show k = 0 by omega]; rfl
                              refine j_aload_n hJ (q := 275) dX9_lookAt_274 rfl 0 rfl rfl ?_
                              refine j_aload_n hJ (q := 276) dX9_lookAt_275 rfl 0 rfl rfl ?_
                              refine j_get hJ (q := 279) jf_X9_226 dX9_lookAt_276 0 rfl rfl rfl ?_
                              refine j_iconst hJ (q := 280) dX9_lookAt_279 rfl ki_2 ?_
                              refine jn_icmp_ne hJ (q := 283) (tgt := 295) dX9_lookAt_280 (by decide) rfl (by omega) (by omega) (fun c30 => ?_) (fun c30 => ?_)
                              · skip
                                refine j_aload_n hJ (q := 296) dX9_lookAt_295 rfl 0 rfl rfl ?_
                                refine j_get hJ (q := 299) jf_X9_226 dX9_lookAt_296 0 rfl rfl rfl ?_
                                have hT2 : tkK By bl a = 3 := by unfold tkK; rw [if_neg (by omega), hT1, hk]; split <;> omega
                                refine j_put hJ (q := 302) (ws' := [mO h q ab be bl a l 3 v, (q 7, ia Z 150 (ni By))]) jp_X9_226 dX9_lookAt_299 0 rfl rfl rfl (Nat.le_of_ble_eq_true rfl) rfl rfl ?_
                                exact hE.2.2 _ _ _ _ _ rfl dX9_lookAt_302 (Nat.le_refl _) (Nat.le_refl _) (⟨rfl, by rw [hsk, hT1, hT2, hT3]⟩)
                              · skip
                                exfalso; omega
                            · skip
                              refine j_iload hJ (q := 229) dX9_lookAt_227 4 rfl rfl ?_
                              refine j_iconst hJ (q := 230) dX9_lookAt_229 rfl ki_2 ?_
                              refine jn_icmp_ge hJ (q := 233) (tgt := 274) dX9_lookAt_230 (by decide) rfl (by omega) (by omega) (fun c31 => ?_) (fun c31 => ?_)
                              · skip
                                have hT1 : tkL By bl a = l := by rw [tkL_of (by omega) rfl]; exact hlf.symm
                                have hT3 : tkV By bl a = v := by unfold tkV; rw [if_neg (by omega), hT1, hk]; rw [if_neg (by decide), hv, show k = 0 by omega]; rfl
                                refine j_aload_n hJ (q := 275) dX9_lookAt_274 rfl 0 rfl rfl ?_
                                refine j_aload_n hJ (q := 276) dX9_lookAt_275 rfl 0 rfl rfl ?_
                                refine j_get hJ (q := 279) jf_X9_226 dX9_lookAt_276 0 rfl rfl rfl ?_
                                refine j_iconst hJ (q := 280) dX9_lookAt_279 rfl ki_2 ?_
                                refine jn_icmp_ne hJ (q := 283) (tgt := 295) dX9_lookAt_280 (by decide) rfl (by omega) (by omega) (fun c32 => ?_) (fun c32 => ?_)
                                · skip
                                  refine j_aload_n hJ (q := 296) dX9_lookAt_295 rfl 0 rfl rfl ?_
                                  refine j_get hJ (q := 299) jf_X9_226 dX9_lookAt_296 0 rfl rfl rfl ?_
                                  have hT2 : tkK By bl a = 3 := by unfold tkK; rw [if_neg (by omega), hT1, hk]; split <;> omega
                                  refine j_put hJ (q := 302) (ws' := [mO h q ab be bl a l 3 v, (q 7, ia Z 150 (ni By))]) jp_X9_226 dX9_lookAt_299 0 rfl rfl rfl (Nat.le_of_ble_eq_true rfl) rfl rfl ?_
                                  exact hE.2.2 _ _ _ _ _ rfl dX9_lookAt_302 (Nat.le_refl _) (Nat.le_refl _) (⟨rfl, by rw [hsk, hT1, hT2, hT3]⟩)
                                · skip
                                  exfalso; omega
                              · skip
                                refine j_aload_n hJ (q := 234) dX9_lookAt_233 rfl 0 rfl rfl ?_
                                refine j_get hJ (q := 237) jf_X9_226 dX9_lookAt_234 0 rfl rfl rfl ?_
                                refine j_iconst hJ (q := 238) dX9_lookAt_237 rfl ki_2 ?_
                                refine jn_icmp_ne hJ (q := 241) (tgt := 274) dX9_lookAt_238 (by decide) rfl (by omega) (by omega) (fun c33 => ?_) (fun c33 => ?_)
                                · skip
                                  have hT1 : tkL By bl a = l := by rw [tkL_of (by omega) rfl]; exact hlf.symm
                                  have hT3 : tkV By bl a = v := by unfold tkV; rw [if_neg (by omega), hT1, hk]; rw [if_neg (by decide), hv, show k = 0 by omega]; rfl
                                  refine j_aload_n hJ (q := 275) dX9_lookAt_274 rfl 0 rfl rfl ?_
                                  refine j_aload_n hJ (q := 276) dX9_lookAt_275 rfl 0 rfl rfl ?_
                                  refine j_get hJ (q := 279) jf_X9_226 dX9_lookAt_276 0 rfl rfl rfl ?_
                                  refine j_iconst hJ (q := 280) dX9_lookAt_279 rfl ki_2 ?_
                                  refine jn_icmp_ne hJ (q := 283) (tgt := 295) dX9_lookAt_280 (by decide) rfl (by omega) (by omega) (fun c34 => ?_) (fun c34 => ?_)
                                  · skip
                                    refine j_aload_n hJ (q := 296) dX9_lookAt_295 rfl 0 rfl rfl ?_
                                    refine j_get hJ (q := 299) jf_X9_226 dX9_lookAt_296 0 rfl rfl rfl ?_
                                    have hT2 : tkK By bl a = 3 := by unfold tkK; rw [if_neg (by omega), hT1, hk]; split <;> omega
                                    refine j_put hJ (q := 302) (ws' := [mO h q ab be bl a l 3 v, (q 7, ia Z 150 (ni By))]) jp_X9_226 dX9_lookAt_299 0 rfl rfl rfl (Nat.le_of_ble_eq_true rfl) rfl rfl ?_
                                    exact hE.2.2 _ _ _ _ _ rfl dX9_lookAt_302 (Nat.le_refl _) (Nat.le_refl _) (⟨rfl, by rw [hsk, hT1, hT2, hT3]⟩)
                                  · skip
                                    exfalso; omega
                                · skip
                                  exfalso; omega
                        refine j_locals hJ [1, 2, 3, 4, 0] rfl ?_
                        exact L_218 ((2 - 0) + 1) 0 0 (Nat.lt_succ_self _) (by omega) rfl (by omega)
                      · skip
                        have hgk2 := hgk (by omega)
                        refine j_aload_n hJ (q := 141) dX9_lookAt_140 rfl 0 rfl rfl ?_
                        refine j_get hJ (q := 144) jf_X9_220 dX9_lookAt_141 0 rfl rfl rfl ?_
                        refine j_aload_n hJ (q := 145) dX9_lookAt_144 rfl 0 rfl rfl ?_
                        refine j_get hJ (q := 148) jf_X9_223 dX9_lookAt_145 0 rfl rfl rfl ?_
                        refine j_iadd hJ (q := 149) dX9_lookAt_148 rfl (nI_add _ _) ?_
                        refine j_aload_n hJ (q := 150) dX9_lookAt_149 rfl 0 rfl rfl ?_
                        refine j_get hJ (q := 153) jf_X9_208 dX9_lookAt_150 0 rfl rfl rfl ?_
                        refine jn_icmp_ge hJ (q := 156) (tgt := 215) dX9_lookAt_153 (by decide) rfl (by omega) (by omega) (fun c35 => ?_) (fun c35 => ?_)
                        · skip
                          have hlf : l = tl0 (cls (By a)) By bl a := (Nat.eq_zero_or_pos g).elim (fun h0 => hg0 h0) (fun h0 => by have := hg1 (by omega); rw [rn_stop (by omega)] at this; omega)
                          refine j_iconst hJ (q := 216) dX9_lookAt_215 rfl ki_0 ?_
                          refine j_istore hJ (q := 218) (lvs' := [(4, .int (nI 0)), (0, .ref h), (1, .int (nI f)), (2, .int (nI (By a))), (3, .int (nI g))]) dX9_lookAt_216 (by decide) rfl rfl ?_
                          have L_218 : ∀ (fu_218 : Nat) (v : Nat) (k : Nat), 2 - k < fu_218 → (k ≤ 2 ∧ k ≤ l) → (v = vN By a k) → (cls (By a) = 2 ∨ k = 0) → J 218 [(0, .ref h), (1, .int (nI f)), (2, .int (nI (By a))), (3, .int (nI g)), (4, .int (nI k))] [] [mO h q ab be bl a l 3 v, (q 7, ia Z 150 (ni By))] 0 0 := by
                            intro fu_218
                            induction fu_218 with
                            | zero => intro v k hm; exact absurd hm (Nat.not_lt_zero _)
                            | succ fu_218 ih_218 =>
                              intro v k hm_218 hk2 hv hk0
                              have hvl := vN_le (a := a) hby k hk2.1
                              refine j_iload hJ (q := 220) dX9_lookAt_218 4 rfl rfl ?_
                              refine j_aload_n hJ (q := 221) dX9_lookAt_220 rfl 0 rfl rfl ?_
                              refine j_get hJ (q := 224) jf_X9_223 dX9_lookAt_221 0 rfl rfl rfl ?_
                              refine jn_icmp_ge hJ (q := 227) (tgt := 274) dX9_lookAt_224 (by decide) rfl (by omega) (by omega) (fun c36 => ?_) (fun c36 => ?_)
                              · skip
                                have hT1 : tkL By bl a = l := by rw [tkL_of (by omega) rfl]; exact hlf.symm
                                have hT3 : tkV By bl a = v := by unfold tkV; rw [if_neg (by omega), hT1, hk]; rw [if_neg (by decide), hv, show k = 0 by omega]; rfl
                                refine j_aload_n hJ (q := 275) dX9_lookAt_274 rfl 0 rfl rfl ?_
                                refine j_aload_n hJ (q := 276) dX9_lookAt_275 rfl 0 rfl rfl ?_
                                refine j_get hJ (q := 279) jf_X9_226 dX9_lookAt_276 0 rfl rfl rfl ?_
                                refine j_iconst hJ (q := 280) dX9_lookAt_279 rfl ki_2 ?_
                                refine jn_icmp_ne hJ (q := 283) (tgt := 295) dX9_lookAt_280 (by decide) rfl (by omega) (by omega) (fun c37 => ?_) (fun c37 => ?_)
                                · skip
                                  refine j_aload_n hJ (q := 296) dX9_lookAt_295 rfl 0 rfl rfl ?_
                                  refine j_get hJ (q := 299) jf_X9_226 dX9_lookAt_296 0 rfl rfl rfl ?_
                                  have hT2 : tkK By bl a = 3 := by unfold tkK; rw [if_neg (by omega), hT1, hk]; split <;> omega
                                  refine j_put hJ (q := 302) (ws' := [mO h q ab be bl a l 3 v, (q 7, ia Z 150 (ni By))]) jp_X9_226 dX9_lookAt_299 0 rfl rfl rfl (Nat.le_of_ble_eq_true rfl) rfl rfl ?_
                                  exact hE.2.2 _ _ _ _ _ rfl dX9_lookAt_302 (Nat.le_refl _) (Nat.le_refl _) (⟨rfl, by rw [hsk, hT1, hT2, hT3]⟩)
                                · skip
                                  exfalso; omega
                              · skip
                                refine j_iload hJ (q := 229) dX9_lookAt_227 4 rfl rfl ?_
                                refine j_iconst hJ (q := 230) dX9_lookAt_229 rfl ki_2 ?_
                                refine jn_icmp_ge hJ (q := 233) (tgt := 274) dX9_lookAt_230 (by decide) rfl (by omega) (by omega) (fun c38 => ?_) (fun c38 => ?_)
                                · skip
                                  have hT1 : tkL By bl a = l := by rw [tkL_of (by omega) rfl]; exact hlf.symm
                                  have hT3 : tkV By bl a = v := by unfold tkV; rw [if_neg (by omega), hT1, hk]; rw [if_neg (by decide), hv, show k = 0 by omega]; rfl
                                  refine j_aload_n hJ (q := 275) dX9_lookAt_274 rfl 0 rfl rfl ?_
                                  refine j_aload_n hJ (q := 276) dX9_lookAt_275 rfl 0 rfl rfl ?_
                                  refine j_get hJ (q := 279) jf_X9_226 dX9_lookAt_276 0 rfl rfl rfl ?_
                                  refine j_iconst hJ (q := 280) dX9_lookAt_279 rfl ki_2 ?_
                                  refine jn_icmp_ne hJ (q := 283) (tgt := 295) dX9_lookAt_280 (by decide) rfl (by omega) (by omega) (fun c39 => ?_) (fun c39 => ?_)
                                  · skip
                                    refine j_aload_n hJ (q := 296) dX9_lookAt_295 rfl 0 rfl rfl ?_
                                    refine j_get hJ (q := 299) jf_X9_226 dX9_lookAt_296 0 rfl rfl rfl ?_
                                    have hT2 : tkK By bl a = 3 := by unfold tkK; rw [if_neg (by omega), hT1, hk]; split <;> omega
                                    refine j_put hJ (q := 302) (ws' := [mO h q ab be bl a l 3 v, (q 7, ia Z 150 (ni By))]) jp_X9_226 dX9_lookAt_299 0 rfl rfl rfl (Nat.le_of_ble_eq_true rfl) rfl rfl ?_
                                    exact hE.2.2 _ _ _ _ _ rfl dX9_lookAt_302 (Nat.le_refl _) (Nat.le_refl _) (⟨rfl, by rw [hsk, hT1, hT2, hT3]⟩)
                                  · skip
                                    exfalso; omega
                                · skip
                                  refine j_aload_n hJ (q := 234) dX9_lookAt_233 rfl 0 rfl rfl ?_
                                  refine j_get hJ (q := 237) jf_X9_226 dX9_lookAt_234 0 rfl rfl rfl ?_
                                  refine j_iconst hJ (q := 238) dX9_lookAt_237 rfl ki_2 ?_
                                  refine jn_icmp_ne hJ (q := 241) (tgt := 274) dX9_lookAt_238 (by decide) rfl (by omega) (by omega) (fun c40 => ?_) (fun c40 => ?_)
                                  · skip
                                    have hT1 : tkL By bl a = l := by rw [tkL_of (by omega) rfl]; exact hlf.symm
                                    have hT3 : tkV By bl a = v := by unfold tkV; rw [if_neg (by omega), hT1, hk]; rw [if_neg (by decide), hv, show k = 0 by omega]; rfl
                                    refine j_aload_n hJ (q := 275) dX9_lookAt_274 rfl 0 rfl rfl ?_
                                    refine j_aload_n hJ (q := 276) dX9_lookAt_275 rfl 0 rfl rfl ?_
                                    refine j_get hJ (q := 279) jf_X9_226 dX9_lookAt_276 0 rfl rfl rfl ?_
                                    refine j_iconst hJ (q := 280) dX9_lookAt_279 rfl ki_2 ?_
                                    refine jn_icmp_ne hJ (q := 283) (tgt := 295) dX9_lookAt_280 (by decide) rfl (by omega) (by omega) (fun c41 => ?_) (fun c41 => ?_)
                                    · skip
                                      refine j_aload_n hJ (q := 296) dX9_lookAt_295 rfl 0 rfl rfl ?_
                                      refine j_get hJ (q := 299) jf_X9_226 dX9_lookAt_296 0 rfl rfl rfl ?_
                                      have hT2 : tkK By bl a = 3 := by unfold tkK; rw [if_neg (by omega), hT1, hk]; split <;> omega
                                      refine j_put hJ (q := 302) (ws' := [mO h q ab be bl a l 3 v, (q 7, ia Z 150 (ni By))]) jp_X9_226 dX9_lookAt_299 0 rfl rfl rfl (Nat.le_of_ble_eq_true rfl) rfl rfl ?_
                                      exact hE.2.2 _ _ _ _ _ rfl dX9_lookAt_302 (Nat.le_refl _) (Nat.le_refl _) (⟨rfl, by rw [hsk, hT1, hT2, hT3]⟩)
                                    · skip
                                      exfalso; omega
                                  · skip
                                    exfalso; omega
                          refine j_locals hJ [1, 2, 3, 4, 0] rfl ?_
                          exact L_218 ((2 - 0) + 1) 0 0 (Nat.lt_succ_self _) (by omega) rfl (by omega)
                        · skip
                          refine j_aload_n hJ (q := 157) dX9_lookAt_156 rfl 0 rfl rfl ?_
                          refine j_get hJ (q := 160) jf_X9_36 dX9_lookAt_157 0 rfl rfl rfl ?_
                          refine j_aload_n hJ (q := 161) dX9_lookAt_160 rfl 0 rfl rfl ?_
                          refine j_get hJ (q := 164) jf_X9_220 dX9_lookAt_161 0 rfl rfl rfl ?_
                          refine j_aload_n hJ (q := 165) dX9_lookAt_164 rfl 0 rfl rfl ?_
                          refine j_get hJ (q := 168) jf_X9_223 dX9_lookAt_165 0 rfl rfl rfl ?_
                          refine j_iadd hJ (q := 169) dX9_lookAt_168 rfl (nI_add _ _) ?_
                          refine j_ialdN hJ (q := 170) (z := nI (By (a + l))) dX9_lookAt_169 1 rfl (by omega) (by decide) rfl rfl ?_
                          have b42 := hby (a + l)
                          refine j_istore hJ (q := 172) (lvs' := [(4, .int (nI (By (a + l)))), (0, .ref h), (1, .int (nI f)), (2, .int (nI (By a))), (3, .int (nI g))]) dX9_lookAt_170 (by decide) rfl rfl ?_
                          refine j_aload_n hJ (q := 173) dX9_lookAt_172 rfl 1 rfl rfl ?_
                          refine j_get hJ (q := 176) jf_X9_226 dX9_lookAt_173 0 rfl rfl rfl ?_
                          refine j_iconst hJ (q := 177) dX9_lookAt_176 rfl ki_1 ?_
                          refine jn_icmp_ne hJ (q := 180) (tgt := 188) dX9_lookAt_177 (by decide) rfl (by omega) (by omega) (fun c43 => ?_) (fun c43 => ?_)
                          · skip
                            refine j_iload hJ (q := 190) dX9_lookAt_188 0 rfl rfl ?_
                            refine j_sR hJ (q := 193) (rest := []) (As := [.int (nI (By (a + l)))]) jl_X9_235 (c_X9_isFigure Z (By (a + l)) (by omega)) dX9_lookAt_190 rfl (by decide) (Nat.le_of_ble_eq_true rfl) [] rfl rfl (fun rv hp => ?_)
                            obtain rfl := hp
                            show J 193 [(4, .int (nI (By (a + l)))), (0, .ref h), (1, .int (nI f)), (2, .int (nI (By a))), (3, .int (nI g))] [.int (bI (decide (48 ≤ (By (a + l)) ∧ (By (a + l)) ≤ 57)))] [mO h q ab be bl a l 3 0, (q 7, ia Z 150 (ni By))] 0 0
                            refine j_casep (fun c44 => ?_) (fun c44 => ?_)
                            · skip
                              refine j_istore_n hJ (q := 194) (lvs' := [(3, .int (nI 1)), (4, .int (nI (By (a + l)))), (0, .ref h), (1, .int (nI f)), (2, .int (nI (By a)))]) dX9_lookAt_193 rfl (by decide) rfl rfl ?_
                              refine j_aload_n hJ (q := 195) dX9_lookAt_194 rfl 2 rfl rfl ?_
                              refine j_dup hJ (q := 196) dX9_lookAt_195 rfl rfl ?_
                              refine j_get hJ (q := 199) jf_X9_223 dX9_lookAt_196 0 rfl rfl rfl ?_
                              refine j_iload_n hJ (q := 200) dX9_lookAt_199 rfl 0 rfl rfl ?_
                              refine jn_if_eq hJ (q := 203) (tgt := 207) dX9_lookAt_200 (by decide) rfl (by omega) (fun c45 => ?_) (fun c45 => ?_)
                              · skip
                                exfalso; omega
                              · skip
                                refine j_iconst hJ (q := 204) dX9_lookAt_203 rfl ki_1 ?_
                                refine j_goto hJ (q := 208) dX9_lookAt_204 (by decide) ?_
                                refine j_iadd hJ (q := 209) dX9_lookAt_208 rfl (nI_add _ _) ?_
                                refine j_put hJ (q := 212) (ws' := [mO h q ab be bl a (l + 1) 3 0, (q 7, ia Z 150 (ni By))]) jp_X9_223 dX9_lookAt_209 0 rfl rfl rfl (Nat.le_of_ble_eq_true rfl) rfl rfl ?_
                                refine j_goto hJ (q := 136) dX9_lookAt_212 (by decide) ?_
                                refine j_locals hJ [2, 3, 4, 0] rfl ?_
                                exact ih_136 (l + 1) 1 (by omega) (by omega) (by omega) (fun z => by omega) (fun z => by first | (exfalso; omega) | (have := hg1 (by omega); rw [rn_stop (by rw [hk]; unfold cls; (repeat' split) <;> omega)] at this; omega)) (fun z => by first | (exfalso; omega) | (have := hg1 (by omega); rw [rn_go (p := a + l) ⟨by omega, by rw [hk]; unfold cls; (repeat' split) <;> omega⟩] at this; rw [show a + (l + 1) = a + l + 1 by omega]; omega))
                            · skip
                              refine j_istore_n hJ (q := 194) (lvs' := [(3, .int (nI 0)), (4, .int (nI (By (a + l)))), (0, .ref h), (1, .int (nI f)), (2, .int (nI (By a)))]) dX9_lookAt_193 rfl (by decide) rfl rfl ?_
                              refine j_aload_n hJ (q := 195) dX9_lookAt_194 rfl 2 rfl rfl ?_
                              refine j_dup hJ (q := 196) dX9_lookAt_195 rfl rfl ?_
                              refine j_get hJ (q := 199) jf_X9_223 dX9_lookAt_196 0 rfl rfl rfl ?_
                              refine j_iload_n hJ (q := 200) dX9_lookAt_199 rfl 0 rfl rfl ?_
                              refine jn_if_eq hJ (q := 203) (tgt := 207) dX9_lookAt_200 (by decide) rfl (by omega) (fun c46 => ?_) (fun c46 => ?_)
                              · skip
                                refine j_iconst hJ (q := 208) dX9_lookAt_207 rfl ki_0 ?_
                                refine j_iadd hJ (q := 209) dX9_lookAt_208 rfl (nI_add _ _) ?_
                                refine j_put hJ (q := 212) (ws' := [mO h q ab be bl a (l + 0) 3 0, (q 7, ia Z 150 (ni By))]) jp_X9_223 dX9_lookAt_209 0 rfl rfl rfl (Nat.le_of_ble_eq_true rfl) rfl rfl ?_
                                refine j_goto hJ (q := 136) dX9_lookAt_212 (by decide) ?_
                                refine j_locals hJ [2, 3, 4, 0] rfl ?_
                                exact ih_136 (l + 0) 0 (by omega) (by omega) (by omega) (fun z => by omega) (fun z => by first | (exfalso; omega) | (have := hg1 (by omega); rw [rn_stop (by rw [hk]; unfold cls; (repeat' split) <;> omega)] at this; omega)) (fun z => by first | (exfalso; omega) | (have := hg1 (by omega); rw [rn_go (p := a + l) ⟨by omega, by rw [hk]; unfold cls; (repeat' split) <;> omega⟩] at this; rw [show a + (l + 1) = a + l + 1 by omega]; omega))
                              · skip
                                exfalso; omega
                          · skip
                            exfalso; omega
                  refine j_locals hJ [2, 3, 1, 0] rfl ?_
                  exact L_136 (((bl - (a + 1)) + 0) + 1) 1 0 (Nat.lt_succ_self _) (by omega) (by omega) (fun z => by omega) (fun z => by first | (exfalso; omega) | (rw [hk]; rfl)) (fun z => by first | (exfalso; omega) | (rw [hk]; rfl))
                · skip
                  exfalso; omega
            · skip
              have hk : cls (By a) = 2 := by unfold cls; (repeat' split) <;> omega
              refine j_iconst hJ (q := 100) dX9_lookAt_99 rfl ki_2 ?_
              refine j_goto hJ (q := 114) dX9_lookAt_100 (by decide) ?_
              refine j_put hJ (q := 117) (ws' := [mO h q ab be bl a 0 2 0, (q 7, ia Z 150 (ni By))]) jp_X9_226 dX9_lookAt_114 0 rfl rfl rfl (Nat.le_of_ble_eq_true rfl) rfl rfl ?_
              refine j_aload_n hJ (q := 118) dX9_lookAt_117 rfl 1 rfl rfl ?_
              refine j_iconst hJ (q := 119) dX9_lookAt_118 rfl ki_1 ?_
              refine j_put hJ (q := 122) (ws' := [mO h q ab be bl a 1 2 0, (q 7, ia Z 150 (ni By))]) jp_X9_223 dX9_lookAt_119 0 rfl rfl rfl (Nat.le_of_ble_eq_true rfl) rfl rfl ?_
              refine j_aload_n hJ (q := 123) dX9_lookAt_122 rfl 1 rfl rfl ?_
              refine j_get hJ (q := 126) jf_X9_226 dX9_lookAt_123 0 rfl rfl rfl ?_
              refine j_iconst hJ (q := 127) dX9_lookAt_126 rfl ki_3 ?_
              refine jn_icmp_ge hJ (q := 130) (tgt := 134) dX9_lookAt_127 (by decide) rfl (by omega) (by omega) (fun c47 => ?_) (fun c47 => ?_)
              · skip
                exfalso; omega
              · skip
                refine j_iconst hJ (q := 131) dX9_lookAt_130 rfl ki_1 ?_
                refine j_goto hJ (q := 135) dX9_lookAt_131 (by decide) ?_
                refine j_istore_n hJ (q := 136) (lvs' := [(3, .int (nI 1)), (2, .int (nI (By a))), (0, .ref h), (1, .int (nI f))]) dX9_lookAt_135 rfl (by decide) rfl rfl ?_
                have L_136 : ∀ (fu_136 : Nat) (l : Nat) (g : Nat), (bl - (a + l)) + g < fu_136 → (g ≤ 1) → (1 ≤ l ∧ a + l ≤ bl) → (g = 1 → cls (By a) ≤ 2) → (g = 0 → l = tl0 (cls (By a)) By bl a) → (g = 1 → l + rn (cls (By a)) By bl (a + l) = tl0 (cls (By a)) By bl a) → J 136 [(0, .ref h), (1, .int (nI f)), (2, .int (nI (By a))), (3, .int (nI g))] [] [mO h q ab be bl a l 2 0, (q 7, ia Z 150 (ni By))] 0 0 := by
                  intro fu_136
                  induction fu_136 with
                  | zero => intro l g hm; exact absurd hm (Nat.not_lt_zero _)
                  | succ fu_136 ih_136 =>
                    intro l g hm_136 hg hl hgk hg0 hg1
                    refine j_iload_n hJ (q := 137) dX9_lookAt_136 rfl 3 rfl rfl ?_
                    refine jn_if_eq hJ (q := 140) (tgt := 215) dX9_lookAt_137 (by decide) rfl (by omega) (fun c48 => ?_) (fun c48 => ?_)
                    · skip
                      have hlf : l = tl0 (cls (By a)) By bl a := (Nat.eq_zero_or_pos g).elim (fun h0 => hg0 h0) (fun h0 => by have := hg1 (by omega); rw [rn_stop (by omega)] at this; omega)
                      refine j_iconst hJ (q := 216) dX9_lookAt_215 rfl ki_0 ?_
                      refine j_istore hJ (q := 218) (lvs' := [(4, .int (nI 0)), (0, .ref h), (1, .int (nI f)), (2, .int (nI (By a))), (3, .int (nI g))]) dX9_lookAt_216 (by decide) rfl rfl ?_
                      have L_218 : ∀ (fu_218 : Nat) (v : Nat) (k : Nat), 2 - k < fu_218 → (k ≤ 2 ∧ k ≤ l) → (v = vN By a k) → (cls (By a) = 2 ∨ k = 0) → J 218 [(0, .ref h), (1, .int (nI f)), (2, .int (nI (By a))), (3, .int (nI g)), (4, .int (nI k))] [] [mO h q ab be bl a l 2 v, (q 7, ia Z 150 (ni By))] 0 0 := by
                        intro fu_218
                        induction fu_218 with
                        | zero => intro v k hm; exact absurd hm (Nat.not_lt_zero _)
                        | succ fu_218 ih_218 =>
                          intro v k hm_218 hk2 hv hk0
                          have hvl := vN_le (a := a) hby k hk2.1
                          refine j_iload hJ (q := 220) dX9_lookAt_218 4 rfl rfl ?_
                          refine j_aload_n hJ (q := 221) dX9_lookAt_220 rfl 0 rfl rfl ?_
                          refine j_get hJ (q := 224) jf_X9_223 dX9_lookAt_221 0 rfl rfl rfl ?_
                          refine jn_icmp_ge hJ (q := 227) (tgt := 274) dX9_lookAt_224 (by decide) rfl (by omega) (by omega) (fun c49 => ?_) (fun c49 => ?_)
                          · skip
                            have hT1 : tkL By bl a = l := by rw [tkL_of (by omega) rfl]; exact hlf.symm
                            have hT3 : tkV By bl a = v := by unfold tkV; rw [if_neg (by omega), hT1, hk]; rw [if_pos rfl, hv]; congr 1; omega
                            refine j_aload_n hJ (q := 275) dX9_lookAt_274 rfl 0 rfl rfl ?_
                            refine j_aload_n hJ (q := 276) dX9_lookAt_275 rfl 0 rfl rfl ?_
                            refine j_get hJ (q := 279) jf_X9_226 dX9_lookAt_276 0 rfl rfl rfl ?_
                            refine j_iconst hJ (q := 280) dX9_lookAt_279 rfl ki_2 ?_
                            refine jn_icmp_ne hJ (q := 283) (tgt := 295) dX9_lookAt_280 (by decide) rfl (by omega) (by omega) (fun c50 => ?_) (fun c50 => ?_)
                            · skip
                              exfalso; omega
                            · skip
                              refine j_aload_n hJ (q := 284) dX9_lookAt_283 rfl 0 rfl rfl ?_
                              refine j_get hJ (q := 287) jf_X9_223 dX9_lookAt_284 0 rfl rfl rfl ?_
                              refine j_iconst hJ (q := 288) dX9_lookAt_287 rfl ki_2 ?_
                              refine jn_icmp_le hJ (q := 291) (tgt := 295) dX9_lookAt_288 (by decide) rfl (by omega) (by omega) (fun c51 => ?_) (fun c51 => ?_)
                              · skip
                                refine j_aload_n hJ (q := 296) dX9_lookAt_295 rfl 0 rfl rfl ?_
                                refine j_get hJ (q := 299) jf_X9_226 dX9_lookAt_296 0 rfl rfl rfl ?_
                                have hT2 : tkK By bl a = 2 := by unfold tkK; rw [if_neg (by omega), hT1, hk]; split <;> omega
                                refine j_put hJ (q := 302) (ws' := [mO h q ab be bl a l 2 v, (q 7, ia Z 150 (ni By))]) jp_X9_226 dX9_lookAt_299 0 rfl rfl rfl (Nat.le_of_ble_eq_true rfl) rfl rfl ?_
                                exact hE.2.2 _ _ _ _ _ rfl dX9_lookAt_302 (Nat.le_refl _) (Nat.le_refl _) (⟨rfl, by rw [hsk, hT1, hT2, hT3]⟩)
                              · skip
                                refine j_iconst hJ (q := 292) dX9_lookAt_291 rfl ki_4 ?_
                                refine j_goto hJ (q := 299) dX9_lookAt_292 (by decide) ?_
                                have hT2 : tkK By bl a = 4 := by unfold tkK; rw [if_neg (by omega), hT1, hk]; split <;> omega
                                refine j_put hJ (q := 302) (ws' := [mO h q ab be bl a l 4 v, (q 7, ia Z 150 (ni By))]) jp_X9_226 dX9_lookAt_299 0 rfl rfl rfl (Nat.le_of_ble_eq_true rfl) rfl rfl ?_
                                exact hE.2.2 _ _ _ _ _ rfl dX9_lookAt_302 (Nat.le_refl _) (Nat.le_refl _) (⟨rfl, by rw [hsk, hT1, hT2, hT3]⟩)
                          · skip
                            refine j_iload hJ (q := 229) dX9_lookAt_227 4 rfl rfl ?_
                            refine j_iconst hJ (q := 230) dX9_lookAt_229 rfl ki_2 ?_
                            refine jn_icmp_ge hJ (q := 233) (tgt := 274) dX9_lookAt_230 (by decide) rfl (by omega) (by omega) (fun c52 => ?_) (fun c52 => ?_)
                            · skip
                              have hT1 : tkL By bl a = l := by rw [tkL_of (by omega) rfl]; exact hlf.symm
                              have hT3 : tkV By bl a = v := by unfold tkV; rw [if_neg (by omega), hT1, hk]; rw [if_pos rfl, hv]; congr 1; omega
                              refine j_aload_n hJ (q := 275) dX9_lookAt_274 rfl 0 rfl rfl ?_
                              refine j_aload_n hJ (q := 276) dX9_lookAt_275 rfl 0 rfl rfl ?_
                              refine j_get hJ (q := 279) jf_X9_226 dX9_lookAt_276 0 rfl rfl rfl ?_
                              refine j_iconst hJ (q := 280) dX9_lookAt_279 rfl ki_2 ?_
                              refine jn_icmp_ne hJ (q := 283) (tgt := 295) dX9_lookAt_280 (by decide) rfl (by omega) (by omega) (fun c53 => ?_) (fun c53 => ?_)
                              · skip
                                exfalso; omega
                              · skip
                                refine j_aload_n hJ (q := 284) dX9_lookAt_283 rfl 0 rfl rfl ?_
                                refine j_get hJ (q := 287) jf_X9_223 dX9_lookAt_284 0 rfl rfl rfl ?_
                                refine j_iconst hJ (q := 288) dX9_lookAt_287 rfl ki_2 ?_
                                refine jn_icmp_le hJ (q := 291) (tgt := 295) dX9_lookAt_288 (by decide) rfl (by omega) (by omega) (fun c54 => ?_) (fun c54 => ?_)
                                · skip
                                  refine j_aload_n hJ (q := 296) dX9_lookAt_295 rfl 0 rfl rfl ?_
                                  refine j_get hJ (q := 299) jf_X9_226 dX9_lookAt_296 0 rfl rfl rfl ?_
                                  have hT2 : tkK By bl a = 2 := by unfold tkK; rw [if_neg (by omega), hT1, hk]; split <;> omega
                                  refine j_put hJ (q := 302) (ws' := [mO h q ab be bl a l 2 v, (q 7, ia Z 150 (ni By))]) jp_X9_226 dX9_lookAt_299 0 rfl rfl rfl (Nat.le_of_ble_eq_true rfl) rfl rfl ?_
                                  exact hE.2.2 _ _ _ _ _ rfl dX9_lookAt_302 (Nat.le_refl _) (Nat.le_refl _) (⟨rfl, by rw [hsk, hT1, hT2, hT3]⟩)
                                · skip
                                  refine j_iconst hJ (q := 292) dX9_lookAt_291 rfl ki_4 ?_
                                  refine j_goto hJ (q := 299) dX9_lookAt_292 (by decide) ?_
                                  have hT2 : tkK By bl a = 4 := by unfold tkK; rw [if_neg (by omega), hT1, hk]; split <;> omega
                                  refine j_put hJ (q := 302) (ws' := [mO h q ab be bl a l 4 v, (q 7, ia Z 150 (ni By))]) jp_X9_226 dX9_lookAt_299 0 rfl rfl rfl (Nat.le_of_ble_eq_true rfl) rfl rfl ?_
                                  exact hE.2.2 _ _ _ _ _ rfl dX9_lookAt_302 (Nat.le_refl _) (Nat.le_refl _) (⟨rfl, by rw [hsk, hT1, hT2, hT3]⟩)
                            · skip
                              refine j_aload_n hJ (q := 234) dX9_lookAt_233 rfl 0 rfl rfl ?_
                              refine j_get hJ (q := 237) jf_X9_226 dX9_lookAt_234 0 rfl rfl rfl ?_
                              refine j_iconst hJ (q := 238) dX9_lookAt_237 rfl ki_2 ?_
                              refine jn_icmp_ne hJ (q := 241) (tgt := 274) dX9_lookAt_238 (by decide) rfl (by omega) (by omega) (fun c55 => ?_) (fun c55 => ?_)
                              · skip
                                exfalso; omega
                              · skip
                                have hdg := tkL_dig (By := By) (L := bl) (a := a) (j := k) hk (by rw [tkL_of (by omega) rfl]; omega)
                                refine j_aload_n hJ (q := 242) dX9_lookAt_241 rfl 0 rfl rfl ?_
                                refine j_bipush hJ (q := 244) dX9_lookAt_242 rfl kb_10 ?_
                                refine j_aload_n hJ (q := 245) dX9_lookAt_244 rfl 0 rfl rfl ?_
                                refine j_get hJ (q := 248) jf_X9_229 dX9_lookAt_245 0 rfl rfl rfl ?_
                                refine j_imul hJ (q := 249) dX9_lookAt_248 rfl (pk_mul _ _) ?_
                                refine j_aload_n hJ (q := 250) dX9_lookAt_249 rfl 0 rfl rfl ?_
                                refine j_get hJ (q := 253) jf_X9_36 dX9_lookAt_250 0 rfl rfl rfl ?_
                                refine j_aload_n hJ (q := 254) dX9_lookAt_253 rfl 0 rfl rfl ?_
                                refine j_get hJ (q := 257) jf_X9_220 dX9_lookAt_254 0 rfl rfl rfl ?_
                                refine j_iload hJ (q := 259) dX9_lookAt_257 4 rfl rfl ?_
                                refine j_iadd hJ (q := 260) dX9_lookAt_259 rfl (nI_add _ _) ?_
                                refine j_ialdN hJ (q := 261) (z := nI (By (a + k))) dX9_lookAt_260 1 rfl (by omega) (by decide) rfl rfl ?_
                                have b56 := hby (a + k)
                                refine j_iadd hJ (q := 262) dX9_lookAt_261 rfl (nI_add _ _) ?_
                                refine j_bipush hJ (q := 264) dX9_lookAt_262 rfl kb_48 ?_
                                refine j_isub hJ (q := 265) dX9_lookAt_264 rfl (pk_sub (by omega)) ?_
                                refine j_put hJ (q := 268) (ws' := [mO h q ab be bl a l 2 (10 * v + (By (a + k)) - 48), (q 7, ia Z 150 (ni By))]) jp_X9_229 dX9_lookAt_265 0 rfl rfl rfl (Nat.le_of_ble_eq_true rfl) rfl rfl ?_
                                refine j_iinc hJ (q := 271) (lvs' := [(4, .int (nI (k + 1))), (0, .ref h), (1, .int (nI f)), (2, .int (nI (By a))), (3, .int (nI g))]) dX9_lookAt_268 4 rfl (by rw [show Int32.ofInt 1 = nI 1 from by decide +kernel]; exact nI_add _ _) (by decide) rfl rfl ?_
                                refine j_goto hJ (q := 218) dX9_lookAt_271 (by decide) ?_
                                refine j_locals hJ [1, 2, 3, 4, 0] rfl ?_
                                exact ih_218 (10 * v + (By (a + k)) - 48) (k + 1) (by omega) (by omega) (by simp only [vN]; rw [hv]) (by omega)
                      refine j_locals hJ [1, 2, 3, 4, 0] rfl ?_
                      exact L_218 ((2 - 0) + 1) 0 0 (Nat.lt_succ_self _) (by omega) rfl (by omega)
                    · skip
                      have hgk2 := hgk (by omega)
                      refine j_aload_n hJ (q := 141) dX9_lookAt_140 rfl 0 rfl rfl ?_
                      refine j_get hJ (q := 144) jf_X9_220 dX9_lookAt_141 0 rfl rfl rfl ?_
                      refine j_aload_n hJ (q := 145) dX9_lookAt_144 rfl 0 rfl rfl ?_
                      refine j_get hJ (q := 148) jf_X9_223 dX9_lookAt_145 0 rfl rfl rfl ?_
                      refine j_iadd hJ (q := 149) dX9_lookAt_148 rfl (nI_add _ _) ?_
                      refine j_aload_n hJ (q := 150) dX9_lookAt_149 rfl 0 rfl rfl ?_
                      refine j_get hJ (q := 153) jf_X9_208 dX9_lookAt_150 0 rfl rfl rfl ?_
                      refine jn_icmp_ge hJ (q := 156) (tgt := 215) dX9_lookAt_153 (by decide) rfl (by omega) (by omega) (fun c57 => ?_) (fun c57 => ?_)
                      · skip
                        have hlf : l = tl0 (cls (By a)) By bl a := (Nat.eq_zero_or_pos g).elim (fun h0 => hg0 h0) (fun h0 => by have := hg1 (by omega); rw [rn_stop (by omega)] at this; omega)
                        refine j_iconst hJ (q := 216) dX9_lookAt_215 rfl ki_0 ?_
                        refine j_istore hJ (q := 218) (lvs' := [(4, .int (nI 0)), (0, .ref h), (1, .int (nI f)), (2, .int (nI (By a))), (3, .int (nI g))]) dX9_lookAt_216 (by decide) rfl rfl ?_
                        have L_218 : ∀ (fu_218 : Nat) (v : Nat) (k : Nat), 2 - k < fu_218 → (k ≤ 2 ∧ k ≤ l) → (v = vN By a k) → (cls (By a) = 2 ∨ k = 0) → J 218 [(0, .ref h), (1, .int (nI f)), (2, .int (nI (By a))), (3, .int (nI g)), (4, .int (nI k))] [] [mO h q ab be bl a l 2 v, (q 7, ia Z 150 (ni By))] 0 0 := by
                          intro fu_218
                          induction fu_218 with
                          | zero => intro v k hm; exact absurd hm (Nat.not_lt_zero _)
                          | succ fu_218 ih_218 =>
                            intro v k hm_218 hk2 hv hk0
                            have hvl := vN_le (a := a) hby k hk2.1
                            refine j_iload hJ (q := 220) dX9_lookAt_218 4 rfl rfl ?_
                            refine j_aload_n hJ (q := 221) dX9_lookAt_220 rfl 0 rfl rfl ?_
                            refine j_get hJ (q := 224) jf_X9_223 dX9_lookAt_221 0 rfl rfl rfl ?_
                            refine jn_icmp_ge hJ (q := 227) (tgt := 274) dX9_lookAt_224 (by decide) rfl (by omega) (by omega) (fun c58 => ?_) (fun c58 => ?_)
                            · skip
                              have hT1 : tkL By bl a = l := by rw [tkL_of (by omega) rfl]; exact hlf.symm
                              have hT3 : tkV By bl a = v := by unfold tkV; rw [if_neg (by omega), hT1, hk]; rw [if_pos rfl, hv]; congr 1; omega
                              refine j_aload_n hJ (q := 275) dX9_lookAt_274 rfl 0 rfl rfl ?_
                              refine j_aload_n hJ (q := 276) dX9_lookAt_275 rfl 0 rfl rfl ?_
                              refine j_get hJ (q := 279) jf_X9_226 dX9_lookAt_276 0 rfl rfl rfl ?_
                              refine j_iconst hJ (q := 280) dX9_lookAt_279 rfl ki_2 ?_
                              refine jn_icmp_ne hJ (q := 283) (tgt := 295) dX9_lookAt_280 (by decide) rfl (by omega) (by omega) (fun c59 => ?_) (fun c59 => ?_)
                              · skip
                                exfalso; omega
                              · skip
                                refine j_aload_n hJ (q := 284) dX9_lookAt_283 rfl 0 rfl rfl ?_
                                refine j_get hJ (q := 287) jf_X9_223 dX9_lookAt_284 0 rfl rfl rfl ?_
                                refine j_iconst hJ (q := 288) dX9_lookAt_287 rfl ki_2 ?_
                                refine jn_icmp_le hJ (q := 291) (tgt := 295) dX9_lookAt_288 (by decide) rfl (by omega) (by omega) (fun c60 => ?_) (fun c60 => ?_)
                                · skip
                                  refine j_aload_n hJ (q := 296) dX9_lookAt_295 rfl 0 rfl rfl ?_
                                  refine j_get hJ (q := 299) jf_X9_226 dX9_lookAt_296 0 rfl rfl rfl ?_
                                  have hT2 : tkK By bl a = 2 := by unfold tkK; rw [if_neg (by omega), hT1, hk]; split <;> omega
                                  refine j_put hJ (q := 302) (ws' := [mO h q ab be bl a l 2 v, (q 7, ia Z 150 (ni By))]) jp_X9_226 dX9_lookAt_299 0 rfl rfl rfl (Nat.le_of_ble_eq_true rfl) rfl rfl ?_
                                  exact hE.2.2 _ _ _ _ _ rfl dX9_lookAt_302 (Nat.le_refl _) (Nat.le_refl _) (⟨rfl, by rw [hsk, hT1, hT2, hT3]⟩)
                                · skip
                                  refine j_iconst hJ (q := 292) dX9_lookAt_291 rfl ki_4 ?_
                                  refine j_goto hJ (q := 299) dX9_lookAt_292 (by decide) ?_
                                  have hT2 : tkK By bl a = 4 := by unfold tkK; rw [if_neg (by omega), hT1, hk]; split <;> omega
                                  refine j_put hJ (q := 302) (ws' := [mO h q ab be bl a l 4 v, (q 7, ia Z 150 (ni By))]) jp_X9_226 dX9_lookAt_299 0 rfl rfl rfl (Nat.le_of_ble_eq_true rfl) rfl rfl ?_
                                  exact hE.2.2 _ _ _ _ _ rfl dX9_lookAt_302 (Nat.le_refl _) (Nat.le_refl _) (⟨rfl, by rw [hsk, hT1, hT2, hT3]⟩)
                            · skip
                              refine j_iload hJ (q := 229) dX9_lookAt_227 4 rfl rfl ?_
                              refine j_iconst hJ (q := 230) dX9_lookAt_229 rfl ki_2 ?_
                              refine jn_icmp_ge hJ (q := 233) (tgt := 274) dX9_lookAt_230 (by decide) rfl (by omega) (by omega) (fun c61 => ?_) (fun c61 => ?_)
                              · skip
                                have hT1 : tkL By bl a = l := by rw [tkL_of (by omega) rfl]; exact hlf.symm
                                have hT3 : tkV By bl a = v := by unfold tkV; rw [if_neg (by omega), hT1, hk]; rw [if_pos rfl, hv]; congr 1; omega
                                refine j_aload_n hJ (q := 275) dX9_lookAt_274 rfl 0 rfl rfl ?_
                                refine j_aload_n hJ (q := 276) dX9_lookAt_275 rfl 0 rfl rfl ?_
                                refine j_get hJ (q := 279) jf_X9_226 dX9_lookAt_276 0 rfl rfl rfl ?_
                                refine j_iconst hJ (q := 280) dX9_lookAt_279 rfl ki_2 ?_
                                refine jn_icmp_ne hJ (q := 283) (tgt := 295) dX9_lookAt_280 (by decide) rfl (by omega) (by omega) (fun c62 => ?_) (fun c62 => ?_)
                                · skip
                                  exfalso; omega
                                · skip
                                  refine j_aload_n hJ (q := 284) dX9_lookAt_283 rfl 0 rfl rfl ?_
                                  refine j_get hJ (q := 287) jf_X9_223 dX9_lookAt_284 0 rfl rfl rfl ?_
                                  refine j_iconst hJ (q := 288) dX9_lookAt_287 rfl ki_2 ?_
                                  refine jn_icmp_le hJ (q := 291) (tgt := 295) dX9_lookAt_288 (by decide) rfl (by omega) (by omega) (fun c63 => ?_) (fun c63 => ?_)
                                  · skip
                                    refine j_aload_n hJ (q := 296) dX9_lookAt_295 rfl 0 rfl rfl ?_
                                    refine j_get hJ (q := 299) jf_X9_226 dX9_lookAt_296 0 rfl rfl rfl ?_
                                    have hT2 : tkK By bl a = 2 := by unfold tkK; rw [if_neg (by omega), hT1, hk]; split <;> omega
                                    refine j_put hJ (q := 302) (ws' := [mO h q ab be bl a l 2 v, (q 7, ia Z 150 (ni By))]) jp_X9_226 dX9_lookAt_299 0 rfl rfl rfl (Nat.le_of_ble_eq_true rfl) rfl rfl ?_
                                    exact hE.2.2 _ _ _ _ _ rfl dX9_lookAt_302 (Nat.le_refl _) (Nat.le_refl _) (⟨rfl, by rw [hsk, hT1, hT2, hT3]⟩)
                                  · skip
                                    refine j_iconst hJ (q := 292) dX9_lookAt_291 rfl ki_4 ?_
                                    refine j_goto hJ (q := 299) dX9_lookAt_292 (by decide) ?_
                                    have hT2 : tkK By bl a = 4 := by unfold tkK; rw [if_neg (by omega), hT1, hk]; split <;> omega
                                    refine j_put hJ (q := 302) (ws' := [mO h q ab be bl a l 4 v, (q 7, ia Z 150 (ni By))]) jp_X9_226 dX9_lookAt_299 0 rfl rfl rfl (Nat.le_of_ble_eq_true rfl) rfl rfl ?_
                                    exact hE.2.2 _ _ _ _ _ rfl dX9_lookAt_302 (Nat.le_refl _) (Nat.le_refl _) (⟨rfl, by rw [hsk, hT1, hT2, hT3]⟩)
                              · skip
                                refine j_aload_n hJ (q := 234) dX9_lookAt_233 rfl 0 rfl rfl ?_
                                refine j_get hJ (q := 237) jf_X9_226 dX9_lookAt_234 0 rfl rfl rfl ?_
                                refine j_iconst hJ (q := 238) dX9_lookAt_237 rfl ki_2 ?_
                                refine jn_icmp_ne hJ (q := 241) (tgt := 274) dX9_lookAt_238 (by decide) rfl (by omega) (by omega) (fun c64 => ?_) (fun c64 => ?_)
                                · skip
                                  exfalso; omega
                                · skip
                                  have hdg := tkL_dig (By := By) (L := bl) (a := a) (j := k) hk (by rw [tkL_of (by omega) rfl]; omega)
                                  refine j_aload_n hJ (q := 242) dX9_lookAt_241 rfl 0 rfl rfl ?_
                                  refine j_bipush hJ (q := 244) dX9_lookAt_242 rfl kb_10 ?_
                                  refine j_aload_n hJ (q := 245) dX9_lookAt_244 rfl 0 rfl rfl ?_
                                  refine j_get hJ (q := 248) jf_X9_229 dX9_lookAt_245 0 rfl rfl rfl ?_
                                  refine j_imul hJ (q := 249) dX9_lookAt_248 rfl (pk_mul _ _) ?_
                                  refine j_aload_n hJ (q := 250) dX9_lookAt_249 rfl 0 rfl rfl ?_
                                  refine j_get hJ (q := 253) jf_X9_36 dX9_lookAt_250 0 rfl rfl rfl ?_
                                  refine j_aload_n hJ (q := 254) dX9_lookAt_253 rfl 0 rfl rfl ?_
                                  refine j_get hJ (q := 257) jf_X9_220 dX9_lookAt_254 0 rfl rfl rfl ?_
                                  refine j_iload hJ (q := 259) dX9_lookAt_257 4 rfl rfl ?_
                                  refine j_iadd hJ (q := 260) dX9_lookAt_259 rfl (nI_add _ _) ?_
                                  refine j_ialdN hJ (q := 261) (z := nI (By (a + k))) dX9_lookAt_260 1 rfl (by omega) (by decide) rfl rfl ?_
                                  have b65 := hby (a + k)
                                  refine j_iadd hJ (q := 262) dX9_lookAt_261 rfl (nI_add _ _) ?_
                                  refine j_bipush hJ (q := 264) dX9_lookAt_262 rfl kb_48 ?_
                                  refine j_isub hJ (q := 265) dX9_lookAt_264 rfl (pk_sub (by omega)) ?_
                                  refine j_put hJ (q := 268) (ws' := [mO h q ab be bl a l 2 (10 * v + (By (a + k)) - 48), (q 7, ia Z 150 (ni By))]) jp_X9_229 dX9_lookAt_265 0 rfl rfl rfl (Nat.le_of_ble_eq_true rfl) rfl rfl ?_
                                  refine j_iinc hJ (q := 271) (lvs' := [(4, .int (nI (k + 1))), (0, .ref h), (1, .int (nI f)), (2, .int (nI (By a))), (3, .int (nI g))]) dX9_lookAt_268 4 rfl (by rw [show Int32.ofInt 1 = nI 1 from by decide +kernel]; exact nI_add _ _) (by decide) rfl rfl ?_
                                  refine j_goto hJ (q := 218) dX9_lookAt_271 (by decide) ?_
                                  refine j_locals hJ [1, 2, 3, 4, 0] rfl ?_
                                  exact ih_218 (10 * v + (By (a + k)) - 48) (k + 1) (by omega) (by omega) (by simp only [vN]; rw [hv]) (by omega)
                        refine j_locals hJ [1, 2, 3, 4, 0] rfl ?_
                        exact L_218 ((2 - 0) + 1) 0 0 (Nat.lt_succ_self _) (by omega) rfl (by omega)
                      · skip
                        refine j_aload_n hJ (q := 157) dX9_lookAt_156 rfl 0 rfl rfl ?_
                        refine j_get hJ (q := 160) jf_X9_36 dX9_lookAt_157 0 rfl rfl rfl ?_
                        refine j_aload_n hJ (q := 161) dX9_lookAt_160 rfl 0 rfl rfl ?_
                        refine j_get hJ (q := 164) jf_X9_220 dX9_lookAt_161 0 rfl rfl rfl ?_
                        refine j_aload_n hJ (q := 165) dX9_lookAt_164 rfl 0 rfl rfl ?_
                        refine j_get hJ (q := 168) jf_X9_223 dX9_lookAt_165 0 rfl rfl rfl ?_
                        refine j_iadd hJ (q := 169) dX9_lookAt_168 rfl (nI_add _ _) ?_
                        refine j_ialdN hJ (q := 170) (z := nI (By (a + l))) dX9_lookAt_169 1 rfl (by omega) (by decide) rfl rfl ?_
                        have b66 := hby (a + l)
                        refine j_istore hJ (q := 172) (lvs' := [(4, .int (nI (By (a + l)))), (0, .ref h), (1, .int (nI f)), (2, .int (nI (By a))), (3, .int (nI g))]) dX9_lookAt_170 (by decide) rfl rfl ?_
                        refine j_aload_n hJ (q := 173) dX9_lookAt_172 rfl 1 rfl rfl ?_
                        refine j_get hJ (q := 176) jf_X9_226 dX9_lookAt_173 0 rfl rfl rfl ?_
                        refine j_iconst hJ (q := 177) dX9_lookAt_176 rfl ki_1 ?_
                        refine jn_icmp_ne hJ (q := 180) (tgt := 188) dX9_lookAt_177 (by decide) rfl (by omega) (by omega) (fun c67 => ?_) (fun c67 => ?_)
                        · skip
                          refine j_iload hJ (q := 190) dX9_lookAt_188 0 rfl rfl ?_
                          refine j_sR hJ (q := 193) (rest := []) (As := [.int (nI (By (a + l)))]) jl_X9_235 (c_X9_isFigure Z (By (a + l)) (by omega)) dX9_lookAt_190 rfl (by decide) (Nat.le_of_ble_eq_true rfl) [] rfl rfl (fun rv hp => ?_)
                          obtain rfl := hp
                          show J 193 [(4, .int (nI (By (a + l)))), (0, .ref h), (1, .int (nI f)), (2, .int (nI (By a))), (3, .int (nI g))] [.int (bI (decide (48 ≤ (By (a + l)) ∧ (By (a + l)) ≤ 57)))] [mO h q ab be bl a l 2 0, (q 7, ia Z 150 (ni By))] 0 0
                          refine j_casep (fun c68 => ?_) (fun c68 => ?_)
                          · skip
                            refine j_istore_n hJ (q := 194) (lvs' := [(3, .int (nI 1)), (4, .int (nI (By (a + l)))), (0, .ref h), (1, .int (nI f)), (2, .int (nI (By a)))]) dX9_lookAt_193 rfl (by decide) rfl rfl ?_
                            refine j_aload_n hJ (q := 195) dX9_lookAt_194 rfl 2 rfl rfl ?_
                            refine j_dup hJ (q := 196) dX9_lookAt_195 rfl rfl ?_
                            refine j_get hJ (q := 199) jf_X9_223 dX9_lookAt_196 0 rfl rfl rfl ?_
                            refine j_iload_n hJ (q := 200) dX9_lookAt_199 rfl 0 rfl rfl ?_
                            refine jn_if_eq hJ (q := 203) (tgt := 207) dX9_lookAt_200 (by decide) rfl (by omega) (fun c69 => ?_) (fun c69 => ?_)
                            · skip
                              exfalso; omega
                            · skip
                              refine j_iconst hJ (q := 204) dX9_lookAt_203 rfl ki_1 ?_
                              refine j_goto hJ (q := 208) dX9_lookAt_204 (by decide) ?_
                              refine j_iadd hJ (q := 209) dX9_lookAt_208 rfl (nI_add _ _) ?_
                              refine j_put hJ (q := 212) (ws' := [mO h q ab be bl a (l + 1) 2 0, (q 7, ia Z 150 (ni By))]) jp_X9_223 dX9_lookAt_209 0 rfl rfl rfl (Nat.le_of_ble_eq_true rfl) rfl rfl ?_
                              refine j_goto hJ (q := 136) dX9_lookAt_212 (by decide) ?_
                              refine j_locals hJ [2, 3, 4, 0] rfl ?_
                              exact ih_136 (l + 1) 1 (by omega) (by omega) (by omega) (fun z => by omega) (fun z => by first | (exfalso; omega) | (have := hg1 (by omega); rw [rn_stop (by rw [hk]; unfold cls; (repeat' split) <;> omega)] at this; omega)) (fun z => by first | (exfalso; omega) | (have := hg1 (by omega); rw [rn_go (p := a + l) ⟨by omega, by rw [hk]; unfold cls; (repeat' split) <;> omega⟩] at this; rw [show a + (l + 1) = a + l + 1 by omega]; omega))
                          · skip
                            refine j_istore_n hJ (q := 194) (lvs' := [(3, .int (nI 0)), (4, .int (nI (By (a + l)))), (0, .ref h), (1, .int (nI f)), (2, .int (nI (By a)))]) dX9_lookAt_193 rfl (by decide) rfl rfl ?_
                            refine j_aload_n hJ (q := 195) dX9_lookAt_194 rfl 2 rfl rfl ?_
                            refine j_dup hJ (q := 196) dX9_lookAt_195 rfl rfl ?_
                            refine j_get hJ (q := 199) jf_X9_223 dX9_lookAt_196 0 rfl rfl rfl ?_
                            refine j_iload_n hJ (q := 200) dX9_lookAt_199 rfl 0 rfl rfl ?_
                            refine jn_if_eq hJ (q := 203) (tgt := 207) dX9_lookAt_200 (by decide) rfl (by omega) (fun c70 => ?_) (fun c70 => ?_)
                            · skip
                              refine j_iconst hJ (q := 208) dX9_lookAt_207 rfl ki_0 ?_
                              refine j_iadd hJ (q := 209) dX9_lookAt_208 rfl (nI_add _ _) ?_
                              refine j_put hJ (q := 212) (ws' := [mO h q ab be bl a (l + 0) 2 0, (q 7, ia Z 150 (ni By))]) jp_X9_223 dX9_lookAt_209 0 rfl rfl rfl (Nat.le_of_ble_eq_true rfl) rfl rfl ?_
                              refine j_goto hJ (q := 136) dX9_lookAt_212 (by decide) ?_
                              refine j_locals hJ [2, 3, 4, 0] rfl ?_
                              exact ih_136 (l + 0) 0 (by omega) (by omega) (by omega) (fun z => by omega) (fun z => by first | (exfalso; omega) | (have := hg1 (by omega); rw [rn_stop (by rw [hk]; unfold cls; (repeat' split) <;> omega)] at this; omega)) (fun z => by first | (exfalso; omega) | (have := hg1 (by omega); rw [rn_go (p := a + l) ⟨by omega, by rw [hk]; unfold cls; (repeat' split) <;> omega⟩] at this; rw [show a + (l + 1) = a + l + 1 by omega]; omega))
                            · skip
                              exfalso; omega
                        · skip
                          exfalso; omega
                refine j_locals hJ [2, 3, 1, 0] rfl ?_
                exact L_136 (((bl - (a + 1)) + 1) + 1) 1 1 (Nat.lt_succ_self _) (by omega) (by omega) (fun z => by omega) (fun z => by first | (exfalso; omega) | (rw [hk]; rfl)) (fun z => by first | (exfalso; omega) | (rw [hk]; rfl))
          · skip
            have hk : cls (By a) = 1 := by unfold cls; (repeat' split) <;> omega
            refine j_iconst hJ (q := 89) dX9_lookAt_88 rfl ki_1 ?_
            refine j_goto hJ (q := 114) dX9_lookAt_89 (by decide) ?_
            refine j_put hJ (q := 117) (ws' := [mO h q ab be bl a 0 1 0, (q 7, ia Z 150 (ni By))]) jp_X9_226 dX9_lookAt_114 0 rfl rfl rfl (Nat.le_of_ble_eq_true rfl) rfl rfl ?_
            refine j_aload_n hJ (q := 118) dX9_lookAt_117 rfl 1 rfl rfl ?_
            refine j_iconst hJ (q := 119) dX9_lookAt_118 rfl ki_1 ?_
            refine j_put hJ (q := 122) (ws' := [mO h q ab be bl a 1 1 0, (q 7, ia Z 150 (ni By))]) jp_X9_223 dX9_lookAt_119 0 rfl rfl rfl (Nat.le_of_ble_eq_true rfl) rfl rfl ?_
            refine j_aload_n hJ (q := 123) dX9_lookAt_122 rfl 1 rfl rfl ?_
            refine j_get hJ (q := 126) jf_X9_226 dX9_lookAt_123 0 rfl rfl rfl ?_
            refine j_iconst hJ (q := 127) dX9_lookAt_126 rfl ki_3 ?_
            refine jn_icmp_ge hJ (q := 130) (tgt := 134) dX9_lookAt_127 (by decide) rfl (by omega) (by omega) (fun c71 => ?_) (fun c71 => ?_)
            · skip
              exfalso; omega
            · skip
              refine j_iconst hJ (q := 131) dX9_lookAt_130 rfl ki_1 ?_
              refine j_goto hJ (q := 135) dX9_lookAt_131 (by decide) ?_
              refine j_istore_n hJ (q := 136) (lvs' := [(3, .int (nI 1)), (2, .int (nI (By a))), (0, .ref h), (1, .int (nI f))]) dX9_lookAt_135 rfl (by decide) rfl rfl ?_
              have L_136 : ∀ (fu_136 : Nat) (l : Nat) (g : Nat), (bl - (a + l)) + g < fu_136 → (g ≤ 1) → (1 ≤ l ∧ a + l ≤ bl) → (g = 1 → cls (By a) ≤ 2) → (g = 0 → l = tl0 (cls (By a)) By bl a) → (g = 1 → l + rn (cls (By a)) By bl (a + l) = tl0 (cls (By a)) By bl a) → J 136 [(0, .ref h), (1, .int (nI f)), (2, .int (nI (By a))), (3, .int (nI g))] [] [mO h q ab be bl a l 1 0, (q 7, ia Z 150 (ni By))] 0 0 := by
                intro fu_136
                induction fu_136 with
                | zero => intro l g hm; exact absurd hm (Nat.not_lt_zero _)
                | succ fu_136 ih_136 =>
                  intro l g hm_136 hg hl hgk hg0 hg1
                  refine j_iload_n hJ (q := 137) dX9_lookAt_136 rfl 3 rfl rfl ?_
                  refine jn_if_eq hJ (q := 140) (tgt := 215) dX9_lookAt_137 (by decide) rfl (by omega) (fun c72 => ?_) (fun c72 => ?_)
                  · skip
                    have hlf : l = tl0 (cls (By a)) By bl a := (Nat.eq_zero_or_pos g).elim (fun h0 => hg0 h0) (fun h0 => by have := hg1 (by omega); rw [rn_stop (by omega)] at this; omega)
                    refine j_iconst hJ (q := 216) dX9_lookAt_215 rfl ki_0 ?_
                    refine j_istore hJ (q := 218) (lvs' := [(4, .int (nI 0)), (0, .ref h), (1, .int (nI f)), (2, .int (nI (By a))), (3, .int (nI g))]) dX9_lookAt_216 (by decide) rfl rfl ?_
                    have L_218 : ∀ (fu_218 : Nat) (v : Nat) (k : Nat), 2 - k < fu_218 → (k ≤ 2 ∧ k ≤ l) → (v = vN By a k) → (cls (By a) = 2 ∨ k = 0) → J 218 [(0, .ref h), (1, .int (nI f)), (2, .int (nI (By a))), (3, .int (nI g)), (4, .int (nI k))] [] [mO h q ab be bl a l 1 v, (q 7, ia Z 150 (ni By))] 0 0 := by
                      intro fu_218
                      induction fu_218 with
                      | zero => intro v k hm; exact absurd hm (Nat.not_lt_zero _)
                      | succ fu_218 ih_218 =>
                        intro v k hm_218 hk2 hv hk0
                        have hvl := vN_le (a := a) hby k hk2.1
                        refine j_iload hJ (q := 220) dX9_lookAt_218 4 rfl rfl ?_
                        refine j_aload_n hJ (q := 221) dX9_lookAt_220 rfl 0 rfl rfl ?_
                        refine j_get hJ (q := 224) jf_X9_223 dX9_lookAt_221 0 rfl rfl rfl ?_
                        refine jn_icmp_ge hJ (q := 227) (tgt := 274) dX9_lookAt_224 (by decide) rfl (by omega) (by omega) (fun c73 => ?_) (fun c73 => ?_)
                        · skip
                          have hT1 : tkL By bl a = l := by rw [tkL_of (by omega) rfl]; exact hlf.symm
                          have hT3 : tkV By bl a = v := by unfold tkV; rw [if_neg (by omega), hT1, hk]; rw [if_neg (by decide), hv, show k = 0 by omega]; rfl
                          refine j_aload_n hJ (q := 275) dX9_lookAt_274 rfl 0 rfl rfl ?_
                          refine j_aload_n hJ (q := 276) dX9_lookAt_275 rfl 0 rfl rfl ?_
                          refine j_get hJ (q := 279) jf_X9_226 dX9_lookAt_276 0 rfl rfl rfl ?_
                          refine j_iconst hJ (q := 280) dX9_lookAt_279 rfl ki_2 ?_
                          refine jn_icmp_ne hJ (q := 283) (tgt := 295) dX9_lookAt_280 (by decide) rfl (by omega) (by omega) (fun c74 => ?_) (fun c74 => ?_)
                          · skip
                            refine j_aload_n hJ (q := 296) dX9_lookAt_295 rfl 0 rfl rfl ?_
                            refine j_get hJ (q := 299) jf_X9_226 dX9_lookAt_296 0 rfl rfl rfl ?_
                            have hT2 : tkK By bl a = 1 := by unfold tkK; rw [if_neg (by omega), hT1, hk]; split <;> omega
                            refine j_put hJ (q := 302) (ws' := [mO h q ab be bl a l 1 v, (q 7, ia Z 150 (ni By))]) jp_X9_226 dX9_lookAt_299 0 rfl rfl rfl (Nat.le_of_ble_eq_true rfl) rfl rfl ?_
                            exact hE.2.2 _ _ _ _ _ rfl dX9_lookAt_302 (Nat.le_refl _) (Nat.le_refl _) (⟨rfl, by rw [hsk, hT1, hT2, hT3]⟩)
                          · skip
                            exfalso; omega
                        · skip
                          refine j_iload hJ (q := 229) dX9_lookAt_227 4 rfl rfl ?_
                          refine j_iconst hJ (q := 230) dX9_lookAt_229 rfl ki_2 ?_
                          refine jn_icmp_ge hJ (q := 233) (tgt := 274) dX9_lookAt_230 (by decide) rfl (by omega) (by omega) (fun c75 => ?_) (fun c75 => ?_)
                          · skip
                            have hT1 : tkL By bl a = l := by rw [tkL_of (by omega) rfl]; exact hlf.symm
                            have hT3 : tkV By bl a = v := by unfold tkV; rw [if_neg (by omega), hT1, hk]; rw [if_neg (by decide), hv, show k = 0 by omega]; rfl
                            refine j_aload_n hJ (q := 275) dX9_lookAt_274 rfl 0 rfl rfl ?_
                            refine j_aload_n hJ (q := 276) dX9_lookAt_275 rfl 0 rfl rfl ?_
                            refine j_get hJ (q := 279) jf_X9_226 dX9_lookAt_276 0 rfl rfl rfl ?_
                            refine j_iconst hJ (q := 280) dX9_lookAt_279 rfl ki_2 ?_
                            refine jn_icmp_ne hJ (q := 283) (tgt := 295) dX9_lookAt_280 (by decide) rfl (by omega) (by omega) (fun c76 => ?_) (fun c76 => ?_)
                            · skip
                              refine j_aload_n hJ (q := 296) dX9_lookAt_295 rfl 0 rfl rfl ?_
                              refine j_get hJ (q := 299) jf_X9_226 dX9_lookAt_296 0 rfl rfl rfl ?_
                              have hT2 : tkK By bl a = 1 := by unfold tkK; rw [if_neg (by omega), hT1, hk]; split <;> omega
                              refine j_put hJ (q := 302) (ws' := [mO h q ab be bl a l 1 v, (q 7, ia Z 150 (ni By))]) jp_X9_226 dX9_lookAt_299 0 rfl rfl rfl (Nat.le_of_ble_eq_true rfl) rfl rfl ?_
                              exact hE.2.2 _ _ _ _ _ rfl dX9_lookAt_302 (Nat.le_refl _) (Nat.le_refl _) (⟨rfl, by rw [hsk, hT1, hT2, hT3]⟩)
                            · skip
                              exfalso; omega
                          · skip
                            refine j_aload_n hJ (q := 234) dX9_lookAt_233 rfl 0 rfl rfl ?_
                            refine j_get hJ (q := 237) jf_X9_226 dX9_lookAt_234 0 rfl rfl rfl ?_
                            refine j_iconst hJ (q := 238) dX9_lookAt_237 rfl ki_2 ?_
                            refine jn_icmp_ne hJ (q := 241) (tgt := 274) dX9_lookAt_238 (by decide) rfl (by omega) (by omega) (fun c77 => ?_) (fun c77 => ?_)
                            · skip
                              have hT1 : tkL By bl a = l := by rw [tkL_of (by omega) rfl]; exact hlf.symm
                              have hT3 : tkV By bl a = v := by unfold tkV; rw [if_neg (by omega), hT1, hk]; rw [if_neg (by decide), hv, show k = 0 by omega]; rfl
                              refine j_aload_n hJ (q := 275) dX9_lookAt_274 rfl 0 rfl rfl ?_
                              refine j_aload_n hJ (q := 276) dX9_lookAt_275 rfl 0 rfl rfl ?_
                              refine j_get hJ (q := 279) jf_X9_226 dX9_lookAt_276 0 rfl rfl rfl ?_
                              refine j_iconst hJ (q := 280) dX9_lookAt_279 rfl ki_2 ?_
                              refine jn_icmp_ne hJ (q := 283) (tgt := 295) dX9_lookAt_280 (by decide) rfl (by omega) (by omega) (fun c78 => ?_) (fun c78 => ?_)
                              · skip
                                refine j_aload_n hJ (q := 296) dX9_lookAt_295 rfl 0 rfl rfl ?_
                                refine j_get hJ (q := 299) jf_X9_226 dX9_lookAt_296 0 rfl rfl rfl ?_
                                have hT2 : tkK By bl a = 1 := by unfold tkK; rw [if_neg (by omega), hT1, hk]; split <;> omega
                                refine j_put hJ (q := 302) (ws' := [mO h q ab be bl a l 1 v, (q 7, ia Z 150 (ni By))]) jp_X9_226 dX9_lookAt_299 0 rfl rfl rfl (Nat.le_of_ble_eq_true rfl) rfl rfl ?_
                                exact hE.2.2 _ _ _ _ _ rfl dX9_lookAt_302 (Nat.le_refl _) (Nat.le_refl _) (⟨rfl, by rw [hsk, hT1, hT2, hT3]⟩)
                              · skip
                                exfalso; omega
                            · skip
                              exfalso; omega
                    refine j_locals hJ [1, 2, 3, 4, 0] rfl ?_
                    exact L_218 ((2 - 0) + 1) 0 0 (Nat.lt_succ_self _) (by omega) rfl (by omega)
                  · skip
                    have hgk2 := hgk (by omega)
                    refine j_aload_n hJ (q := 141) dX9_lookAt_140 rfl 0 rfl rfl ?_
                    refine j_get hJ (q := 144) jf_X9_220 dX9_lookAt_141 0 rfl rfl rfl ?_
                    refine j_aload_n hJ (q := 145) dX9_lookAt_144 rfl 0 rfl rfl ?_
                    refine j_get hJ (q := 148) jf_X9_223 dX9_lookAt_145 0 rfl rfl rfl ?_
                    refine j_iadd hJ (q := 149) dX9_lookAt_148 rfl (nI_add _ _) ?_
                    refine j_aload_n hJ (q := 150) dX9_lookAt_149 rfl 0 rfl rfl ?_
                    refine j_get hJ (q := 153) jf_X9_208 dX9_lookAt_150 0 rfl rfl rfl ?_
                    refine jn_icmp_ge hJ (q := 156) (tgt := 215) dX9_lookAt_153 (by decide) rfl (by omega) (by omega) (fun c79 => ?_) (fun c79 => ?_)
                    · skip
                      have hlf : l = tl0 (cls (By a)) By bl a := (Nat.eq_zero_or_pos g).elim (fun h0 => hg0 h0) (fun h0 => by have := hg1 (by omega); rw [rn_stop (by omega)] at this; omega)
                      refine j_iconst hJ (q := 216) dX9_lookAt_215 rfl ki_0 ?_
                      refine j_istore hJ (q := 218) (lvs' := [(4, .int (nI 0)), (0, .ref h), (1, .int (nI f)), (2, .int (nI (By a))), (3, .int (nI g))]) dX9_lookAt_216 (by decide) rfl rfl ?_
                      have L_218 : ∀ (fu_218 : Nat) (v : Nat) (k : Nat), 2 - k < fu_218 → (k ≤ 2 ∧ k ≤ l) → (v = vN By a k) → (cls (By a) = 2 ∨ k = 0) → J 218 [(0, .ref h), (1, .int (nI f)), (2, .int (nI (By a))), (3, .int (nI g)), (4, .int (nI k))] [] [mO h q ab be bl a l 1 v, (q 7, ia Z 150 (ni By))] 0 0 := by
                        intro fu_218
                        induction fu_218 with
                        | zero => intro v k hm; exact absurd hm (Nat.not_lt_zero _)
                        | succ fu_218 ih_218 =>
                          intro v k hm_218 hk2 hv hk0
                          have hvl := vN_le (a := a) hby k hk2.1
                          refine j_iload hJ (q := 220) dX9_lookAt_218 4 rfl rfl ?_
                          refine j_aload_n hJ (q := 221) dX9_lookAt_220 rfl 0 rfl rfl ?_
                          refine j_get hJ (q := 224) jf_X9_223 dX9_lookAt_221 0 rfl rfl rfl ?_
                          refine jn_icmp_ge hJ (q := 227) (tgt := 274) dX9_lookAt_224 (by decide) rfl (by omega) (by omega) (fun c80 => ?_) (fun c80 => ?_)
                          · skip
                            have hT1 : tkL By bl a = l := by rw [tkL_of (by omega) rfl]; exact hlf.symm
                            have hT3 : tkV By bl a = v := by unfold tkV; rw [if_neg (by omega), hT1, hk]; rw [if_neg (by decide), hv, show k = 0 by omega]; rfl
                            refine j_aload_n hJ (q := 275) dX9_lookAt_274 rfl 0 rfl rfl ?_
                            refine j_aload_n hJ (q := 276) dX9_lookAt_275 rfl 0 rfl rfl ?_
                            refine j_get hJ (q := 279) jf_X9_226 dX9_lookAt_276 0 rfl rfl rfl ?_
                            refine j_iconst hJ (q := 280) dX9_lookAt_279 rfl ki_2 ?_
                            refine jn_icmp_ne hJ (q := 283) (tgt := 295) dX9_lookAt_280 (by decide) rfl (by omega) (by omega) (fun c81 => ?_) (fun c81 => ?_)
                            · skip
                              refine j_aload_n hJ (q := 296) dX9_lookAt_295 rfl 0 rfl rfl ?_
                              refine j_get hJ (q := 299) jf_X9_226 dX9_lookAt_296 0 rfl rfl rfl ?_
                              have hT2 : tkK By bl a = 1 := by unfold tkK; rw [if_neg (by omega), hT1, hk]; split <;> omega
                              refine j_put hJ (q := 302) (ws' := [mO h q ab be bl a l 1 v, (q 7, ia Z 150 (ni By))]) jp_X9_226 dX9_lookAt_299 0 rfl rfl rfl (Nat.le_of_ble_eq_true rfl) rfl rfl ?_
                              exact hE.2.2 _ _ _ _ _ rfl dX9_lookAt_302 (Nat.le_refl _) (Nat.le_refl _) (⟨rfl, by rw [hsk, hT1, hT2, hT3]⟩)
                            · skip
                              exfalso; omega
                          · skip
                            refine j_iload hJ (q := 229) dX9_lookAt_227 4 rfl rfl ?_
                            refine j_iconst hJ (q := 230) dX9_lookAt_229 rfl ki_2 ?_
                            refine jn_icmp_ge hJ (q := 233) (tgt := 274) dX9_lookAt_230 (by decide) rfl (by omega) (by omega) (fun c82 => ?_) (fun c82 => ?_)
                            · skip
                              have hT1 : tkL By bl a = l := by rw [tkL_of (by omega) rfl]; exact hlf.symm
                              have hT3 : tkV By bl a = v := by unfold tkV; rw [if_neg (by omega), hT1, hk]; rw [if_neg (by decide), hv, show k = 0 by omega]; rfl
                              refine j_aload_n hJ (q := 275) dX9_lookAt_274 rfl 0 rfl rfl ?_
                              refine j_aload_n hJ (q := 276) dX9_lookAt_275 rfl 0 rfl rfl ?_
                              refine j_get hJ (q := 279) jf_X9_226 dX9_lookAt_276 0 rfl rfl rfl ?_
                              refine j_iconst hJ (q := 280) dX9_lookAt_279 rfl ki_2 ?_
                              refine jn_icmp_ne hJ (q := 283) (tgt := 295) dX9_lookAt_280 (by decide) rfl (by omega) (by omega) (fun c83 => ?_) (fun c83 => ?_)
                              · skip
                                refine j_aload_n hJ (q := 296) dX9_lookAt_295 rfl 0 rfl rfl ?_
                                refine j_get hJ (q := 299) jf_X9_226 dX9_lookAt_296 0 rfl rfl rfl ?_
                                have hT2 : tkK By bl a = 1 := by unfold tkK; rw [if_neg (by omega), hT1, hk]; split <;> omega
                                refine j_put hJ (q := 302) (ws' := [mO h q ab be bl a l 1 v, (q 7, ia Z 150 (ni By))]) jp_X9_226 dX9_lookAt_299 0 rfl rfl rfl (Nat.le_of_ble_eq_true rfl) rfl rfl ?_
                                exact hE.2.2 _ _ _ _ _ rfl dX9_lookAt_302 (Nat.le_refl _) (Nat.le_refl _) (⟨rfl, by rw [hsk, hT1, hT2, hT3]⟩)
                              · skip
                                exfalso; omega
                            · skip
                              refine j_aload_n hJ (q := 234) dX9_lookAt_233 rfl 0 rfl rfl ?_
                              refine j_get hJ (q := 237) jf_X9_226 dX9_lookAt_234 0 rfl rfl rfl ?_
                              refine j_iconst hJ (q := 238) dX9_lookAt_237 rfl ki_2 ?_
                              refine jn_icmp_ne hJ (q := 241) (tgt := 274) dX9_lookAt_238 (by decide) rfl (by omega) (by omega) (fun c84 => ?_) (fun c84 => ?_)
                              · skip
                                have hT1 : tkL By bl a = l := by rw [tkL_of (by omega) rfl]; exact hlf.symm
                                have hT3 : tkV By bl a = v := by unfold tkV; rw [if_neg (by omega), hT1, hk]; rw [if_neg (by decide), hv, show k = 0 by omega]; rfl
                                refine j_aload_n hJ (q := 275) dX9_lookAt_274 rfl 0 rfl rfl ?_
                                refine j_aload_n hJ (q := 276) dX9_lookAt_275 rfl 0 rfl rfl ?_
                                refine j_get hJ (q := 279) jf_X9_226 dX9_lookAt_276 0 rfl rfl rfl ?_
                                refine j_iconst hJ (q := 280) dX9_lookAt_279 rfl ki_2 ?_
                                refine jn_icmp_ne hJ (q := 283) (tgt := 295) dX9_lookAt_280 (by decide) rfl (by omega) (by omega) (fun c85 => ?_) (fun c85 => ?_)
                                · skip
                                  refine j_aload_n hJ (q := 296) dX9_lookAt_295 rfl 0 rfl rfl ?_
                                  refine j_get hJ (q := 299) jf_X9_226 dX9_lookAt_296 0 rfl rfl rfl ?_
                                  have hT2 : tkK By bl a = 1 := by unfold tkK; rw [if_neg (by omega), hT1, hk]; split <;> omega
                                  refine j_put hJ (q := 302) (ws' := [mO h q ab be bl a l 1 v, (q 7, ia Z 150 (ni By))]) jp_X9_226 dX9_lookAt_299 0 rfl rfl rfl (Nat.le_of_ble_eq_true rfl) rfl rfl ?_
                                  exact hE.2.2 _ _ _ _ _ rfl dX9_lookAt_302 (Nat.le_refl _) (Nat.le_refl _) (⟨rfl, by rw [hsk, hT1, hT2, hT3]⟩)
                                · skip
                                  exfalso; omega
                              · skip
                                exfalso; omega
                      refine j_locals hJ [1, 2, 3, 4, 0] rfl ?_
                      exact L_218 ((2 - 0) + 1) 0 0 (Nat.lt_succ_self _) (by omega) rfl (by omega)
                    · skip
                      refine j_aload_n hJ (q := 157) dX9_lookAt_156 rfl 0 rfl rfl ?_
                      refine j_get hJ (q := 160) jf_X9_36 dX9_lookAt_157 0 rfl rfl rfl ?_
                      refine j_aload_n hJ (q := 161) dX9_lookAt_160 rfl 0 rfl rfl ?_
                      refine j_get hJ (q := 164) jf_X9_220 dX9_lookAt_161 0 rfl rfl rfl ?_
                      refine j_aload_n hJ (q := 165) dX9_lookAt_164 rfl 0 rfl rfl ?_
                      refine j_get hJ (q := 168) jf_X9_223 dX9_lookAt_165 0 rfl rfl rfl ?_
                      refine j_iadd hJ (q := 169) dX9_lookAt_168 rfl (nI_add _ _) ?_
                      refine j_ialdN hJ (q := 170) (z := nI (By (a + l))) dX9_lookAt_169 1 rfl (by omega) (by decide) rfl rfl ?_
                      have b86 := hby (a + l)
                      refine j_istore hJ (q := 172) (lvs' := [(4, .int (nI (By (a + l)))), (0, .ref h), (1, .int (nI f)), (2, .int (nI (By a))), (3, .int (nI g))]) dX9_lookAt_170 (by decide) rfl rfl ?_
                      refine j_aload_n hJ (q := 173) dX9_lookAt_172 rfl 1 rfl rfl ?_
                      refine j_get hJ (q := 176) jf_X9_226 dX9_lookAt_173 0 rfl rfl rfl ?_
                      refine j_iconst hJ (q := 177) dX9_lookAt_176 rfl ki_1 ?_
                      refine jn_icmp_ne hJ (q := 180) (tgt := 188) dX9_lookAt_177 (by decide) rfl (by omega) (by omega) (fun c87 => ?_) (fun c87 => ?_)
                      · skip
                        exfalso; omega
                      · skip
                        refine j_iload hJ (q := 182) dX9_lookAt_180 0 rfl rfl ?_
                        refine j_sR hJ (q := 185) (rest := []) (As := [.int (nI (By (a + l)))]) jl_X9_232 (c_X9_isSmall Z (By (a + l)) (by omega)) dX9_lookAt_182 rfl (by decide) (Nat.le_of_ble_eq_true rfl) [] rfl rfl (fun rv hp => ?_)
                        obtain rfl := hp
                        show J 185 [(4, .int (nI (By (a + l)))), (0, .ref h), (1, .int (nI f)), (2, .int (nI (By a))), (3, .int (nI g))] [.int (bI (decide (97 ≤ (By (a + l)) ∧ (By (a + l)) ≤ 122)))] [mO h q ab be bl a l 1 0, (q 7, ia Z 150 (ni By))] 0 0
                        refine j_casep (fun c88 => ?_) (fun c88 => ?_)
                        · skip
                          refine j_goto hJ (q := 193) dX9_lookAt_185 (by decide) ?_
                          refine j_istore_n hJ (q := 194) (lvs' := [(3, .int (nI 1)), (4, .int (nI (By (a + l)))), (0, .ref h), (1, .int (nI f)), (2, .int (nI (By a)))]) dX9_lookAt_193 rfl (by decide) rfl rfl ?_
                          refine j_aload_n hJ (q := 195) dX9_lookAt_194 rfl 2 rfl rfl ?_
                          refine j_dup hJ (q := 196) dX9_lookAt_195 rfl rfl ?_
                          refine j_get hJ (q := 199) jf_X9_223 dX9_lookAt_196 0 rfl rfl rfl ?_
                          refine j_iload_n hJ (q := 200) dX9_lookAt_199 rfl 0 rfl rfl ?_
                          refine jn_if_eq hJ (q := 203) (tgt := 207) dX9_lookAt_200 (by decide) rfl (by omega) (fun c89 => ?_) (fun c89 => ?_)
                          · skip
                            exfalso; omega
                          · skip
                            refine j_iconst hJ (q := 204) dX9_lookAt_203 rfl ki_1 ?_
                            refine j_goto hJ (q := 208) dX9_lookAt_204 (by decide) ?_
                            refine j_iadd hJ (q := 209) dX9_lookAt_208 rfl (nI_add _ _) ?_
                            refine j_put hJ (q := 212) (ws' := [mO h q ab be bl a (l + 1) 1 0, (q 7, ia Z 150 (ni By))]) jp_X9_223 dX9_lookAt_209 0 rfl rfl rfl (Nat.le_of_ble_eq_true rfl) rfl rfl ?_
                            refine j_goto hJ (q := 136) dX9_lookAt_212 (by decide) ?_
                            refine j_locals hJ [2, 3, 4, 0] rfl ?_
                            exact ih_136 (l + 1) 1 (by omega) (by omega) (by omega) (fun z => by omega) (fun z => by first | (exfalso; omega) | (have := hg1 (by omega); rw [rn_stop (by rw [hk]; unfold cls; (repeat' split) <;> omega)] at this; omega)) (fun z => by first | (exfalso; omega) | (have := hg1 (by omega); rw [rn_go (p := a + l) ⟨by omega, by rw [hk]; unfold cls; (repeat' split) <;> omega⟩] at this; rw [show a + (l + 1) = a + l + 1 by omega]; omega))
                        · skip
                          refine j_goto hJ (q := 193) dX9_lookAt_185 (by decide) ?_
                          refine j_istore_n hJ (q := 194) (lvs' := [(3, .int (nI 0)), (4, .int (nI (By (a + l)))), (0, .ref h), (1, .int (nI f)), (2, .int (nI (By a)))]) dX9_lookAt_193 rfl (by decide) rfl rfl ?_
                          refine j_aload_n hJ (q := 195) dX9_lookAt_194 rfl 2 rfl rfl ?_
                          refine j_dup hJ (q := 196) dX9_lookAt_195 rfl rfl ?_
                          refine j_get hJ (q := 199) jf_X9_223 dX9_lookAt_196 0 rfl rfl rfl ?_
                          refine j_iload_n hJ (q := 200) dX9_lookAt_199 rfl 0 rfl rfl ?_
                          refine jn_if_eq hJ (q := 203) (tgt := 207) dX9_lookAt_200 (by decide) rfl (by omega) (fun c90 => ?_) (fun c90 => ?_)
                          · skip
                            refine j_iconst hJ (q := 208) dX9_lookAt_207 rfl ki_0 ?_
                            refine j_iadd hJ (q := 209) dX9_lookAt_208 rfl (nI_add _ _) ?_
                            refine j_put hJ (q := 212) (ws' := [mO h q ab be bl a (l + 0) 1 0, (q 7, ia Z 150 (ni By))]) jp_X9_223 dX9_lookAt_209 0 rfl rfl rfl (Nat.le_of_ble_eq_true rfl) rfl rfl ?_
                            refine j_goto hJ (q := 136) dX9_lookAt_212 (by decide) ?_
                            refine j_locals hJ [2, 3, 4, 0] rfl ?_
                            exact ih_136 (l + 0) 0 (by omega) (by omega) (by omega) (fun z => by omega) (fun z => by first | (exfalso; omega) | (have := hg1 (by omega); rw [rn_stop (by rw [hk]; unfold cls; (repeat' split) <;> omega)] at this; omega)) (fun z => by first | (exfalso; omega) | (have := hg1 (by omega); rw [rn_go (p := a + l) ⟨by omega, by rw [hk]; unfold cls; (repeat' split) <;> omega⟩] at this; rw [show a + (l + 1) = a + l + 1 by omega]; omega))
                          · skip
                            exfalso; omega
              refine j_locals hJ [2, 3, 1, 0] rfl ?_
              exact L_136 (((bl - (a + 1)) + 1) + 1) 1 1 (Nat.lt_succ_self _) (by omega) (by omega) (fun z => by omega) (fun z => by first | (exfalso; omega) | (rw [hk]; rfl)) (fun z => by first | (exfalso; omega) | (rw [hk]; rfl))
        · skip
          have hz := tkL_0 (By := By) (L := bl) (a := a) (by omega)
          exact hE.2.2 _ _ _ _ _ rfl dX9_lookAt_69 (Nat.le_refl _) (Nat.le_refl _) (⟨rfl, by rw [hsk, hz.1, hz.2.1, hz.2.2]⟩)
      · skip
        refine j_aload_n hJ (q := 17) dX9_lookAt_16 rfl 0 rfl rfl ?_
        refine j_get hJ (q := 20) jf_X9_36 dX9_lookAt_17 0 rfl rfl rfl ?_
        refine j_aload_n hJ (q := 21) dX9_lookAt_20 rfl 0 rfl rfl ?_
        refine j_get hJ (q := 24) jf_X9_220 dX9_lookAt_21 0 rfl rfl rfl ?_
        refine j_ialdN hJ (q := 25) (z := nI (By a)) dX9_lookAt_24 1 rfl (by omega) (by decide) rfl rfl ?_
        have b91 := hby a
        refine j_bipush hJ (q := 27) dX9_lookAt_25 rfl kb_32 ?_
        refine jn_icmp_ne hJ (q := 30) (tgt := 43) dX9_lookAt_27 (by decide) rfl (by omega) (by omega) (fun c92 => ?_) (fun c92 => ?_)
        · skip
          have hsk : sk By bl f = a := by rw [← hs]; exact sk_stop (by omega)
          refine j_aload_n hJ (q := 44) dX9_lookAt_43 rfl 0 rfl rfl ?_
          refine j_iconst hJ (q := 45) dX9_lookAt_44 rfl ki_0 ?_
          refine j_put hJ (q := 48) (ws' := [mO h q ab be bl a 0 tk va, (q 7, ia Z 150 (ni By))]) jp_X9_223 dX9_lookAt_45 0 rfl rfl rfl (Nat.le_of_ble_eq_true rfl) rfl rfl ?_
          refine j_aload_n hJ (q := 49) dX9_lookAt_48 rfl 0 rfl rfl ?_
          refine j_iconst hJ (q := 50) dX9_lookAt_49 rfl ki_0 ?_
          refine j_put hJ (q := 53) (ws' := [mO h q ab be bl a 0 0 va, (q 7, ia Z 150 (ni By))]) jp_X9_226 dX9_lookAt_50 0 rfl rfl rfl (Nat.le_of_ble_eq_true rfl) rfl rfl ?_
          refine j_aload_n hJ (q := 54) dX9_lookAt_53 rfl 0 rfl rfl ?_
          refine j_iconst hJ (q := 55) dX9_lookAt_54 rfl ki_0 ?_
          refine j_put hJ (q := 58) (ws' := [mO h q ab be bl a 0 0 0, (q 7, ia Z 150 (ni By))]) jp_X9_229 dX9_lookAt_55 0 rfl rfl rfl (Nat.le_of_ble_eq_true rfl) rfl rfl ?_
          refine j_aload_n hJ (q := 59) dX9_lookAt_58 rfl 0 rfl rfl ?_
          refine j_get hJ (q := 62) jf_X9_220 dX9_lookAt_59 0 rfl rfl rfl ?_
          refine j_aload_n hJ (q := 63) dX9_lookAt_62 rfl 0 rfl rfl ?_
          refine j_get hJ (q := 66) jf_X9_208 dX9_lookAt_63 0 rfl rfl rfl ?_
          refine jn_icmp_ne hJ (q := 69) (tgt := 70) dX9_lookAt_66 (by decide) rfl (by omega) (by omega) (fun c93 => ?_) (fun c93 => ?_)
          · skip
            refine j_aload_n hJ (q := 71) dX9_lookAt_70 rfl 0 rfl rfl ?_
            refine j_get hJ (q := 74) jf_X9_36 dX9_lookAt_71 0 rfl rfl rfl ?_
            refine j_aload_n hJ (q := 75) dX9_lookAt_74 rfl 0 rfl rfl ?_
            refine j_get hJ (q := 78) jf_X9_220 dX9_lookAt_75 0 rfl rfl rfl ?_
            refine j_ialdN hJ (q := 79) (z := nI (By a)) dX9_lookAt_78 1 rfl (by omega) (by decide) rfl rfl ?_
            have b94 := hby a
            refine j_istore_n hJ (q := 80) (lvs' := [(2, .int (nI (By a))), (0, .ref h), (1, .int (nI f))]) dX9_lookAt_79 rfl (by decide) rfl rfl ?_
            refine j_aload_n hJ (q := 81) dX9_lookAt_80 rfl 1 rfl rfl ?_
            refine j_iload_n hJ (q := 82) dX9_lookAt_81 rfl 0 rfl rfl ?_
            refine j_sR hJ (q := 85) (rest := [.ref h]) (As := [.int (nI (By a))]) jl_X9_232 (c_X9_isSmall Z (By a) (by omega)) dX9_lookAt_82 rfl (by decide) (Nat.le_of_ble_eq_true rfl) [] rfl rfl (fun rv hp => ?_)
            obtain rfl := hp
            show J 85 [(2, .int (nI (By a))), (0, .ref h), (1, .int (nI f))] [.int (bI (decide (97 ≤ (By a) ∧ (By a) ≤ 122))), .ref h] [mO h q ab be bl a 0 0 0, (q 7, ia Z 150 (ni By))] 0 0
            refine jp_if_eq hJ (q := 88) (tgt := 92) dX9_lookAt_85 (by decide) rfl (fun c95 => ?_) (fun c95 => ?_)
            · skip
              refine j_iload_n hJ (q := 93) dX9_lookAt_92 rfl 0 rfl rfl ?_
              refine j_sR hJ (q := 96) (rest := [.ref h]) (As := [.int (nI (By a))]) jl_X9_235 (c_X9_isFigure Z (By a) (by omega)) dX9_lookAt_93 rfl (by decide) (Nat.le_of_ble_eq_true rfl) [] rfl rfl (fun rv hp => ?_)
              obtain rfl := hp
              show J 96 [(2, .int (nI (By a))), (0, .ref h), (1, .int (nI f))] [.int (bI (decide (48 ≤ (By a) ∧ (By a) ≤ 57))), .ref h] [mO h q ab be bl a 0 0 0, (q 7, ia Z 150 (ni By))] 0 0
              refine jp_if_eq hJ (q := 99) (tgt := 103) dX9_lookAt_96 (by decide) rfl (fun c96 => ?_) (fun c96 => ?_)
              · skip
                refine j_iload_n hJ (q := 104) dX9_lookAt_103 rfl 0 rfl rfl ?_
                refine j_bipush hJ (q := 106) dX9_lookAt_104 rfl kb_59 ?_
                refine jn_icmp_ne hJ (q := 109) (tgt := 113) dX9_lookAt_106 (by decide) rfl (by omega) (by omega) (fun c97 => ?_) (fun c97 => ?_)
                · skip
                  have hk : cls (By a) = 4 := by unfold cls; (repeat' split) <;> omega
                  refine j_iconst hJ (q := 114) dX9_lookAt_113 rfl ki_4 ?_
                  refine j_put hJ (q := 117) (ws' := [mO h q ab be bl a 0 4 0, (q 7, ia Z 150 (ni By))]) jp_X9_226 dX9_lookAt_114 0 rfl rfl rfl (Nat.le_of_ble_eq_true rfl) rfl rfl ?_
                  refine j_aload_n hJ (q := 118) dX9_lookAt_117 rfl 1 rfl rfl ?_
                  refine j_iconst hJ (q := 119) dX9_lookAt_118 rfl ki_1 ?_
                  refine j_put hJ (q := 122) (ws' := [mO h q ab be bl a 1 4 0, (q 7, ia Z 150 (ni By))]) jp_X9_223 dX9_lookAt_119 0 rfl rfl rfl (Nat.le_of_ble_eq_true rfl) rfl rfl ?_
                  refine j_aload_n hJ (q := 123) dX9_lookAt_122 rfl 1 rfl rfl ?_
                  refine j_get hJ (q := 126) jf_X9_226 dX9_lookAt_123 0 rfl rfl rfl ?_
                  refine j_iconst hJ (q := 127) dX9_lookAt_126 rfl ki_3 ?_
                  refine jn_icmp_ge hJ (q := 130) (tgt := 134) dX9_lookAt_127 (by decide) rfl (by omega) (by omega) (fun c98 => ?_) (fun c98 => ?_)
                  · skip
                    refine j_iconst hJ (q := 135) dX9_lookAt_134 rfl ki_0 ?_
                    refine j_istore_n hJ (q := 136) (lvs' := [(3, .int (nI 0)), (2, .int (nI (By a))), (0, .ref h), (1, .int (nI f))]) dX9_lookAt_135 rfl (by decide) rfl rfl ?_
                    have L_136 : ∀ (fu_136 : Nat) (l : Nat) (g : Nat), (bl - (a + l)) + g < fu_136 → (g ≤ 1) → (1 ≤ l ∧ a + l ≤ bl) → (g = 1 → cls (By a) ≤ 2) → (g = 0 → l = tl0 (cls (By a)) By bl a) → (g = 1 → l + rn (cls (By a)) By bl (a + l) = tl0 (cls (By a)) By bl a) → J 136 [(0, .ref h), (1, .int (nI f)), (2, .int (nI (By a))), (3, .int (nI g))] [] [mO h q ab be bl a l 4 0, (q 7, ia Z 150 (ni By))] 0 0 := by
                      intro fu_136
                      induction fu_136 with
                      | zero => intro l g hm; exact absurd hm (Nat.not_lt_zero _)
                      | succ fu_136 ih_136 =>
                        intro l g hm_136 hg hl hgk hg0 hg1
                        refine j_iload_n hJ (q := 137) dX9_lookAt_136 rfl 3 rfl rfl ?_
                        refine jn_if_eq hJ (q := 140) (tgt := 215) dX9_lookAt_137 (by decide) rfl (by omega) (fun c99 => ?_) (fun c99 => ?_)
                        · skip
                          have hlf : l = tl0 (cls (By a)) By bl a := (Nat.eq_zero_or_pos g).elim (fun h0 => hg0 h0) (fun h0 => by have := hg1 (by omega); rw [rn_stop (by omega)] at this; omega)
                          refine j_iconst hJ (q := 216) dX9_lookAt_215 rfl ki_0 ?_
                          refine j_istore hJ (q := 218) (lvs' := [(4, .int (nI 0)), (0, .ref h), (1, .int (nI f)), (2, .int (nI (By a))), (3, .int (nI g))]) dX9_lookAt_216 (by decide) rfl rfl ?_
                          have L_218 : ∀ (fu_218 : Nat) (v : Nat) (k : Nat), 2 - k < fu_218 → (k ≤ 2 ∧ k ≤ l) → (v = vN By a k) → (cls (By a) = 2 ∨ k = 0) → J 218 [(0, .ref h), (1, .int (nI f)), (2, .int (nI (By a))), (3, .int (nI g)), (4, .int (nI k))] [] [mO h q ab be bl a l 4 v, (q 7, ia Z 150 (ni By))] 0 0 := by
                            intro fu_218
                            induction fu_218 with
                            | zero => intro v k hm; exact absurd hm (Nat.not_lt_zero _)
                            | succ fu_218 ih_218 =>
                              intro v k hm_218 hk2 hv hk0
                              have hvl := vN_le (a := a) hby k hk2.1
                              refine j_iload hJ (q := 220) dX9_lookAt_218 4 rfl rfl ?_
                              refine j_aload_n hJ (q := 221) dX9_lookAt_220 rfl 0 rfl rfl ?_
                              refine j_get hJ (q := 224) jf_X9_223 dX9_lookAt_221 0 rfl rfl rfl ?_
                              refine jn_icmp_ge hJ (q := 227) (tgt := 274) dX9_lookAt_224 (by decide) rfl (by omega) (by omega) (fun c100 => ?_) (fun c100 => ?_)
                              · skip
                                have hT1 : tkL By bl a = l := by rw [tkL_of (by omega) rfl]; exact hlf.symm
                                have hT3 : tkV By bl a = v := by unfold tkV; rw [if_neg (by omega), hT1, hk]; rw [if_neg (by decide), hv, show k = 0 by omega]; rfl
                                refine j_aload_n hJ (q := 275) dX9_lookAt_274 rfl 0 rfl rfl ?_
                                refine j_aload_n hJ (q := 276) dX9_lookAt_275 rfl 0 rfl rfl ?_
                                refine j_get hJ (q := 279) jf_X9_226 dX9_lookAt_276 0 rfl rfl rfl ?_
                                refine j_iconst hJ (q := 280) dX9_lookAt_279 rfl ki_2 ?_
                                refine jn_icmp_ne hJ (q := 283) (tgt := 295) dX9_lookAt_280 (by decide) rfl (by omega) (by omega) (fun c101 => ?_) (fun c101 => ?_)
                                · skip
                                  refine j_aload_n hJ (q := 296) dX9_lookAt_295 rfl 0 rfl rfl ?_
                                  refine j_get hJ (q := 299) jf_X9_226 dX9_lookAt_296 0 rfl rfl rfl ?_
                                  have hT2 : tkK By bl a = 4 := by unfold tkK; rw [if_neg (by omega), hT1, hk]; split <;> omega
                                  refine j_put hJ (q := 302) (ws' := [mO h q ab be bl a l 4 v, (q 7, ia Z 150 (ni By))]) jp_X9_226 dX9_lookAt_299 0 rfl rfl rfl (Nat.le_of_ble_eq_true rfl) rfl rfl ?_
                                  exact hE.2.2 _ _ _ _ _ rfl dX9_lookAt_302 (Nat.le_refl _) (Nat.le_refl _) (⟨rfl, by rw [hsk, hT1, hT2, hT3]⟩)
                                · skip
                                  exfalso; omega
                              · skip
                                refine j_iload hJ (q := 229) dX9_lookAt_227 4 rfl rfl ?_
                                refine j_iconst hJ (q := 230) dX9_lookAt_229 rfl ki_2 ?_
                                refine jn_icmp_ge hJ (q := 233) (tgt := 274) dX9_lookAt_230 (by decide) rfl (by omega) (by omega) (fun c102 => ?_) (fun c102 => ?_)
                                · skip
                                  have hT1 : tkL By bl a = l := by rw [tkL_of (by omega) rfl]; exact hlf.symm
                                  have hT3 : tkV By bl a = v := by unfold tkV; rw [if_neg (by omega), hT1, hk]; rw [if_neg (by decide), hv, show k = 0 by omega]; rfl
                                  refine j_aload_n hJ (q := 275) dX9_lookAt_274 rfl 0 rfl rfl ?_
                                  refine j_aload_n hJ (q := 276) dX9_lookAt_275 rfl 0 rfl rfl ?_
                                  refine j_get hJ (q := 279) jf_X9_226 dX9_lookAt_276 0 rfl rfl rfl ?_
                                  refine j_iconst hJ (q := 280) dX9_lookAt_279 rfl ki_2 ?_
                                  refine jn_icmp_ne hJ (q := 283) (tgt := 295) dX9_lookAt_280 (by decide) rfl (by omega) (by omega) (fun c103 => ?_) (fun c103 => ?_)
                                  · skip
                                    refine j_aload_n hJ (q := 296) dX9_lookAt_295 rfl 0 rfl rfl ?_
                                    refine j_get hJ (q := 299) jf_X9_226 dX9_lookAt_296 0 rfl rfl rfl ?_
                                    have hT2 : tkK By bl a = 4 := by unfold tkK; rw [if_neg (by omega), hT1, hk]; split <;> omega
                                    refine j_put hJ (q := 302) (ws' := [mO h q ab be bl a l 4 v, (q 7, ia Z 150 (ni By))]) jp_X9_226 dX9_lookAt_299 0 rfl rfl rfl (Nat.le_of_ble_eq_true rfl) rfl rfl ?_
                                    exact hE.2.2 _ _ _ _ _ rfl dX9_lookAt_302 (Nat.le_refl _) (Nat.le_refl _) (⟨rfl, by rw [hsk, hT1, hT2, hT3]⟩)
                                  · skip
                                    exfalso; omega
                                · skip
                                  refine j_aload_n hJ (q := 234) dX9_lookAt_233 rfl 0 rfl rfl ?_
                                  refine j_get hJ (q := 237) jf_X9_226 dX9_lookAt_234 0 rfl rfl rfl ?_
                                  refine j_iconst hJ (q := 238) dX9_lookAt_237 rfl ki_2 ?_
                                  refine jn_icmp_ne hJ (q := 241) (tgt := 274) dX9_lookAt_238 (by decide) rfl (by omega) (by omega) (fun c104 => ?_) (fun c104 => ?_)
                                  · skip
                                    have hT1 : tkL By bl a = l := by rw [tkL_of (by omega) rfl]; exact hlf.symm
                                    have hT3 : tkV By bl a = v := by unfold tkV; rw [if_neg (by omega), hT1, hk]; rw [if_neg (by decide), hv, show k = 0 by omega]; rfl
                                    refine j_aload_n hJ (q := 275) dX9_lookAt_274 rfl 0 rfl rfl ?_
                                    refine j_aload_n hJ (q := 276) dX9_lookAt_275 rfl 0 rfl rfl ?_
                                    refine j_get hJ (q := 279) jf_X9_226 dX9_lookAt_276 0 rfl rfl rfl ?_
                                    refine j_iconst hJ (q := 280) dX9_lookAt_279 rfl ki_2 ?_
                                    refine jn_icmp_ne hJ (q := 283) (tgt := 295) dX9_lookAt_280 (by decide) rfl (by omega) (by omega) (fun c105 => ?_) (fun c105 => ?_)
                                    · skip
                                      refine j_aload_n hJ (q := 296) dX9_lookAt_295 rfl 0 rfl rfl ?_
                                      refine j_get hJ (q := 299) jf_X9_226 dX9_lookAt_296 0 rfl rfl rfl ?_
                                      have hT2 : tkK By bl a = 4 := by unfold tkK; rw [if_neg (by omega), hT1, hk]; split <;> omega
                                      refine j_put hJ (q := 302) (ws' := [mO h q ab be bl a l 4 v, (q 7, ia Z 150 (ni By))]) jp_X9_226 dX9_lookAt_299 0 rfl rfl rfl (Nat.le_of_ble_eq_true rfl) rfl rfl ?_
                                      exact hE.2.2 _ _ _ _ _ rfl dX9_lookAt_302 (Nat.le_refl _) (Nat.le_refl _) (⟨rfl, by rw [hsk, hT1, hT2, hT3]⟩)
                                    · skip
                                      exfalso; omega
                                  · skip
                                    exfalso; omega
                          refine j_locals hJ [1, 2, 3, 4, 0] rfl ?_
                          exact L_218 ((2 - 0) + 1) 0 0 (Nat.lt_succ_self _) (by omega) rfl (by omega)
                        · skip
                          have hgk2 := hgk (by omega)
                          refine j_aload_n hJ (q := 141) dX9_lookAt_140 rfl 0 rfl rfl ?_
                          refine j_get hJ (q := 144) jf_X9_220 dX9_lookAt_141 0 rfl rfl rfl ?_
                          refine j_aload_n hJ (q := 145) dX9_lookAt_144 rfl 0 rfl rfl ?_
                          refine j_get hJ (q := 148) jf_X9_223 dX9_lookAt_145 0 rfl rfl rfl ?_
                          refine j_iadd hJ (q := 149) dX9_lookAt_148 rfl (nI_add _ _) ?_
                          refine j_aload_n hJ (q := 150) dX9_lookAt_149 rfl 0 rfl rfl ?_
                          refine j_get hJ (q := 153) jf_X9_208 dX9_lookAt_150 0 rfl rfl rfl ?_
                          refine jn_icmp_ge hJ (q := 156) (tgt := 215) dX9_lookAt_153 (by decide) rfl (by omega) (by omega) (fun c106 => ?_) (fun c106 => ?_)
                          · skip
                            have hlf : l = tl0 (cls (By a)) By bl a := (Nat.eq_zero_or_pos g).elim (fun h0 => hg0 h0) (fun h0 => by have := hg1 (by omega); rw [rn_stop (by omega)] at this; omega)
                            refine j_iconst hJ (q := 216) dX9_lookAt_215 rfl ki_0 ?_
                            refine j_istore hJ (q := 218) (lvs' := [(4, .int (nI 0)), (0, .ref h), (1, .int (nI f)), (2, .int (nI (By a))), (3, .int (nI g))]) dX9_lookAt_216 (by decide) rfl rfl ?_
                            have L_218 : ∀ (fu_218 : Nat) (v : Nat) (k : Nat), 2 - k < fu_218 → (k ≤ 2 ∧ k ≤ l) → (v = vN By a k) → (cls (By a) = 2 ∨ k = 0) → J 218 [(0, .ref h), (1, .int (nI f)), (2, .int (nI (By a))), (3, .int (nI g)), (4, .int (nI k))] [] [mO h q ab be bl a l 4 v, (q 7, ia Z 150 (ni By))] 0 0 := by
                              intro fu_218
                              induction fu_218 with
                              | zero => intro v k hm; exact absurd hm (Nat.not_lt_zero _)
                              | succ fu_218 ih_218 =>
                                intro v k hm_218 hk2 hv hk0
                                have hvl := vN_le (a := a) hby k hk2.1
                                refine j_iload hJ (q := 220) dX9_lookAt_218 4 rfl rfl ?_
                                refine j_aload_n hJ (q := 221) dX9_lookAt_220 rfl 0 rfl rfl ?_
                                refine j_get hJ (q := 224) jf_X9_223 dX9_lookAt_221 0 rfl rfl rfl ?_
                                refine jn_icmp_ge hJ (q := 227) (tgt := 274) dX9_lookAt_224 (by decide) rfl (by omega) (by omega) (fun c107 => ?_) (fun c107 => ?_)
                                · skip
                                  have hT1 : tkL By bl a = l := by rw [tkL_of (by omega) rfl]; exact hlf.symm
                                  have hT3 : tkV By bl a = v := by unfold tkV; rw [if_neg (by omega), hT1, hk]; rw [if_neg (by decide), hv, show k = 0 by omega]; rfl
                                  refine j_aload_n hJ (q := 275) dX9_lookAt_274 rfl 0 rfl rfl ?_
                                  refine j_aload_n hJ (q := 276) dX9_lookAt_275 rfl 0 rfl rfl ?_
                                  refine j_get hJ (q := 279) jf_X9_226 dX9_lookAt_276 0 rfl rfl rfl ?_
                                  refine j_iconst hJ (q := 280) dX9_lookAt_279 rfl ki_2 ?_
                                  refine jn_icmp_ne hJ (q := 283) (tgt := 295) dX9_lookAt_280 (by decide) rfl (by omega) (by omega) (fun c108 => ?_) (fun c108 => ?_)
                                  · skip
                                    refine j_aload_n hJ (q := 296) dX9_lookAt_295 rfl 0 rfl rfl ?_
                                    refine j_get hJ (q := 299) jf_X9_226 dX9_lookAt_296 0 rfl rfl rfl ?_
                                    have hT2 : tkK By bl a = 4 := by unfold tkK; rw [if_neg (by omega), hT1, hk]; split <;> omega
                                    refine j_put hJ (q := 302) (ws' := [mO h q ab be bl a l 4 v, (q 7, ia Z 150 (ni By))]) jp_X9_226 dX9_lookAt_299 0 rfl rfl rfl (Nat.le_of_ble_eq_true rfl) rfl rfl ?_
                                    exact hE.2.2 _ _ _ _ _ rfl dX9_lookAt_302 (Nat.le_refl _) (Nat.le_refl _) (⟨rfl, by rw [hsk, hT1, hT2, hT3]⟩)
                                  · skip
                                    exfalso; omega
                                · skip
                                  refine j_iload hJ (q := 229) dX9_lookAt_227 4 rfl rfl ?_
                                  refine j_iconst hJ (q := 230) dX9_lookAt_229 rfl ki_2 ?_
                                  refine jn_icmp_ge hJ (q := 233) (tgt := 274) dX9_lookAt_230 (by decide) rfl (by omega) (by omega) (fun c109 => ?_) (fun c109 => ?_)
                                  · skip
                                    have hT1 : tkL By bl a = l := by rw [tkL_of (by omega) rfl]; exact hlf.symm
                                    have hT3 : tkV By bl a = v := by unfold tkV; rw [if_neg (by omega), hT1, hk]; rw [if_neg (by decide), hv, show k = 0 by omega]; rfl
                                    refine j_aload_n hJ (q := 275) dX9_lookAt_274 rfl 0 rfl rfl ?_
                                    refine j_aload_n hJ (q := 276) dX9_lookAt_275 rfl 0 rfl rfl ?_
                                    refine j_get hJ (q := 279) jf_X9_226 dX9_lookAt_276 0 rfl rfl rfl ?_
                                    refine j_iconst hJ (q := 280) dX9_lookAt_279 rfl ki_2 ?_
                                    refine jn_icmp_ne hJ (q := 283) (tgt := 295) dX9_lookAt_280 (by decide) rfl (by omega) (by omega) (fun c110 => ?_) (fun c110 => ?_)
                                    · skip
                                      refine j_aload_n hJ (q := 296) dX9_lookAt_295 rfl 0 rfl rfl ?_
                                      refine j_get hJ (q := 299) jf_X9_226 dX9_lookAt_296 0 rfl rfl rfl ?_
                                      have hT2 : tkK By bl a = 4 := by unfold tkK; rw [if_neg (by omega), hT1, hk]; split <;> omega
                                      refine j_put hJ (q := 302) (ws' := [mO h q ab be bl a l 4 v, (q 7, ia Z 150 (ni By))]) jp_X9_226 dX9_lookAt_299 0 rfl rfl rfl (Nat.le_of_ble_eq_true rfl) rfl rfl ?_
                                      exact hE.2.2 _ _ _ _ _ rfl dX9_lookAt_302 (Nat.le_refl _) (Nat.le_refl _) (⟨rfl, by rw [hsk, hT1, hT2, hT3]⟩)
                                    · skip
                                      exfalso; omega
                                  · skip
                                    refine j_aload_n hJ (q := 234) dX9_lookAt_233 rfl 0 rfl rfl ?_
                                    refine j_get hJ (q := 237) jf_X9_226 dX9_lookAt_234 0 rfl rfl rfl ?_
                                    refine j_iconst hJ (q := 238) dX9_lookAt_237 rfl ki_2 ?_
                                    refine jn_icmp_ne hJ (q := 241) (tgt := 274) dX9_lookAt_238 (by decide) rfl (by omega) (by omega) (fun c111 => ?_) (fun c111 => ?_)
                                    · skip
                                      have hT1 : tkL By bl a = l := by rw [tkL_of (by omega) rfl]; exact hlf.symm
                                      have hT3 : tkV By bl a = v := by unfold tkV; rw [if_neg (by omega), hT1, hk]; rw [if_neg (by decide), hv, show k = 0 by omega]; rfl
                                      refine j_aload_n hJ (q := 275) dX9_lookAt_274 rfl 0 rfl rfl ?_
                                      refine j_aload_n hJ (q := 276) dX9_lookAt_275 rfl 0 rfl rfl ?_
                                      refine j_get hJ (q := 279) jf_X9_226 dX9_lookAt_276 0 rfl rfl rfl ?_
                                      refine j_iconst hJ (q := 280) dX9_lookAt_279 rfl ki_2 ?_
                                      refine jn_icmp_ne hJ (q := 283) (tgt := 295) dX9_lookAt_280 (by decide) rfl (by omega) (by omega) (fun c112 => ?_) (fun c112 => ?_)
                                      · skip
                                        refine j_aload_n hJ (q := 296) dX9_lookAt_295 rfl 0 rfl rfl ?_
                                        refine j_get hJ (q := 299) jf_X9_226 dX9_lookAt_296 0 rfl rfl rfl ?_
                                        have hT2 : tkK By bl a = 4 := by unfold tkK; rw [if_neg (by omega), hT1, hk]; split <;> omega
                                        refine j_put hJ (q := 302) (ws' := [mO h q ab be bl a l 4 v, (q 7, ia Z 150 (ni By))]) jp_X9_226 dX9_lookAt_299 0 rfl rfl rfl (Nat.le_of_ble_eq_true rfl) rfl rfl ?_
                                        exact hE.2.2 _ _ _ _ _ rfl dX9_lookAt_302 (Nat.le_refl _) (Nat.le_refl _) (⟨rfl, by rw [hsk, hT1, hT2, hT3]⟩)
                                      · skip
                                        exfalso; omega
                                    · skip
                                      exfalso; omega
                            refine j_locals hJ [1, 2, 3, 4, 0] rfl ?_
                            exact L_218 ((2 - 0) + 1) 0 0 (Nat.lt_succ_self _) (by omega) rfl (by omega)
                          · skip
                            refine j_aload_n hJ (q := 157) dX9_lookAt_156 rfl 0 rfl rfl ?_
                            refine j_get hJ (q := 160) jf_X9_36 dX9_lookAt_157 0 rfl rfl rfl ?_
                            refine j_aload_n hJ (q := 161) dX9_lookAt_160 rfl 0 rfl rfl ?_
                            refine j_get hJ (q := 164) jf_X9_220 dX9_lookAt_161 0 rfl rfl rfl ?_
                            refine j_aload_n hJ (q := 165) dX9_lookAt_164 rfl 0 rfl rfl ?_
                            refine j_get hJ (q := 168) jf_X9_223 dX9_lookAt_165 0 rfl rfl rfl ?_
                            refine j_iadd hJ (q := 169) dX9_lookAt_168 rfl (nI_add _ _) ?_
                            refine j_ialdN hJ (q := 170) (z := nI (By (a + l))) dX9_lookAt_169 1 rfl (by omega) (by decide) rfl rfl ?_
                            have b113 := hby (a + l)
                            refine j_istore hJ (q := 172) (lvs' := [(4, .int (nI (By (a + l)))), (0, .ref h), (1, .int (nI f)), (2, .int (nI (By a))), (3, .int (nI g))]) dX9_lookAt_170 (by decide) rfl rfl ?_
                            refine j_aload_n hJ (q := 173) dX9_lookAt_172 rfl 1 rfl rfl ?_
                            refine j_get hJ (q := 176) jf_X9_226 dX9_lookAt_173 0 rfl rfl rfl ?_
                            refine j_iconst hJ (q := 177) dX9_lookAt_176 rfl ki_1 ?_
                            refine jn_icmp_ne hJ (q := 180) (tgt := 188) dX9_lookAt_177 (by decide) rfl (by omega) (by omega) (fun c114 => ?_) (fun c114 => ?_)
                            · skip
                              refine j_iload hJ (q := 190) dX9_lookAt_188 0 rfl rfl ?_
                              refine j_sR hJ (q := 193) (rest := []) (As := [.int (nI (By (a + l)))]) jl_X9_235 (c_X9_isFigure Z (By (a + l)) (by omega)) dX9_lookAt_190 rfl (by decide) (Nat.le_of_ble_eq_true rfl) [] rfl rfl (fun rv hp => ?_)
                              obtain rfl := hp
                              show J 193 [(4, .int (nI (By (a + l)))), (0, .ref h), (1, .int (nI f)), (2, .int (nI (By a))), (3, .int (nI g))] [.int (bI (decide (48 ≤ (By (a + l)) ∧ (By (a + l)) ≤ 57)))] [mO h q ab be bl a l 4 0, (q 7, ia Z 150 (ni By))] 0 0
                              refine j_casep (fun c115 => ?_) (fun c115 => ?_)
                              · skip
                                refine j_istore_n hJ (q := 194) (lvs' := [(3, .int (nI 1)), (4, .int (nI (By (a + l)))), (0, .ref h), (1, .int (nI f)), (2, .int (nI (By a)))]) dX9_lookAt_193 rfl (by decide) rfl rfl ?_
                                refine j_aload_n hJ (q := 195) dX9_lookAt_194 rfl 2 rfl rfl ?_
                                refine j_dup hJ (q := 196) dX9_lookAt_195 rfl rfl ?_
                                refine j_get hJ (q := 199) jf_X9_223 dX9_lookAt_196 0 rfl rfl rfl ?_
                                refine j_iload_n hJ (q := 200) dX9_lookAt_199 rfl 0 rfl rfl ?_
                                refine jn_if_eq hJ (q := 203) (tgt := 207) dX9_lookAt_200 (by decide) rfl (by omega) (fun c116 => ?_) (fun c116 => ?_)
                                · skip
                                  exfalso; omega
                                · skip
                                  refine j_iconst hJ (q := 204) dX9_lookAt_203 rfl ki_1 ?_
                                  refine j_goto hJ (q := 208) dX9_lookAt_204 (by decide) ?_
                                  refine j_iadd hJ (q := 209) dX9_lookAt_208 rfl (nI_add _ _) ?_
                                  refine j_put hJ (q := 212) (ws' := [mO h q ab be bl a (l + 1) 4 0, (q 7, ia Z 150 (ni By))]) jp_X9_223 dX9_lookAt_209 0 rfl rfl rfl (Nat.le_of_ble_eq_true rfl) rfl rfl ?_
                                  refine j_goto hJ (q := 136) dX9_lookAt_212 (by decide) ?_
                                  refine j_locals hJ [2, 3, 4, 0] rfl ?_
                                  exact ih_136 (l + 1) 1 (by omega) (by omega) (by omega) (fun z => by omega) (fun z => by first | (exfalso; omega) | (have := hg1 (by omega); rw [rn_stop (by rw [hk]; unfold cls; (repeat' split) <;> omega)] at this; omega)) (fun z => by first | (exfalso; omega) | (have := hg1 (by omega); rw [rn_go (p := a + l) ⟨by omega, by rw [hk]; unfold cls; (repeat' split) <;> omega⟩] at this; rw [show a + (l + 1) = a + l + 1 by omega]; omega))
                              · skip
                                refine j_istore_n hJ (q := 194) (lvs' := [(3, .int (nI 0)), (4, .int (nI (By (a + l)))), (0, .ref h), (1, .int (nI f)), (2, .int (nI (By a)))]) dX9_lookAt_193 rfl (by decide) rfl rfl ?_
                                refine j_aload_n hJ (q := 195) dX9_lookAt_194 rfl 2 rfl rfl ?_
                                refine j_dup hJ (q := 196) dX9_lookAt_195 rfl rfl ?_
                                refine j_get hJ (q := 199) jf_X9_223 dX9_lookAt_196 0 rfl rfl rfl ?_
                                refine j_iload_n hJ (q := 200) dX9_lookAt_199 rfl 0 rfl rfl ?_
                                refine jn_if_eq hJ (q := 203) (tgt := 207) dX9_lookAt_200 (by decide) rfl (by omega) (fun c117 => ?_) (fun c117 => ?_)
                                · skip
                                  refine j_iconst hJ (q := 208) dX9_lookAt_207 rfl ki_0 ?_
                                  refine j_iadd hJ (q := 209) dX9_lookAt_208 rfl (nI_add _ _) ?_
                                  refine j_put hJ (q := 212) (ws' := [mO h q ab be bl a (l + 0) 4 0, (q 7, ia Z 150 (ni By))]) jp_X9_223 dX9_lookAt_209 0 rfl rfl rfl (Nat.le_of_ble_eq_true rfl) rfl rfl ?_
                                  refine j_goto hJ (q := 136) dX9_lookAt_212 (by decide) ?_
                                  refine j_locals hJ [2, 3, 4, 0] rfl ?_
                                  exact ih_136 (l + 0) 0 (by omega) (by omega) (by omega) (fun z => by omega) (fun z => by first | (exfalso; omega) | (have := hg1 (by omega); rw [rn_stop (by rw [hk]; unfold cls; (repeat' split) <;> omega)] at this; omega)) (fun z => by first | (exfalso; omega) | (have := hg1 (by omega); rw [rn_go (p := a + l) ⟨by omega, by rw [hk]; unfold cls; (repeat' split) <;> omega⟩] at this; rw [show a + (l + 1) = a + l + 1 by omega]; omega))
                                · skip
                                  exfalso; omega
                            · skip
                              exfalso; omega
                    refine j_locals hJ [2, 3, 1, 0] rfl ?_
                    exact L_136 (((bl - (a + 1)) + 0) + 1) 1 0 (Nat.lt_succ_self _) (by omega) (by omega) (fun z => by omega) (fun z => by first | (exfalso; omega) | (rw [hk]; rfl)) (fun z => by first | (exfalso; omega) | (rw [hk]; rfl))
                  · skip
                    exfalso; omega
                · skip
                  have hk : cls (By a) = 3 := by unfold cls; (repeat' split) <;> omega
                  refine j_iconst hJ (q := 110) dX9_lookAt_109 rfl ki_3 ?_
                  refine j_goto hJ (q := 114) dX9_lookAt_110 (by decide) ?_
                  refine j_put hJ (q := 117) (ws' := [mO h q ab be bl a 0 3 0, (q 7, ia Z 150 (ni By))]) jp_X9_226 dX9_lookAt_114 0 rfl rfl rfl (Nat.le_of_ble_eq_true rfl) rfl rfl ?_
                  refine j_aload_n hJ (q := 118) dX9_lookAt_117 rfl 1 rfl rfl ?_
                  refine j_iconst hJ (q := 119) dX9_lookAt_118 rfl ki_1 ?_
                  refine j_put hJ (q := 122) (ws' := [mO h q ab be bl a 1 3 0, (q 7, ia Z 150 (ni By))]) jp_X9_223 dX9_lookAt_119 0 rfl rfl rfl (Nat.le_of_ble_eq_true rfl) rfl rfl ?_
                  refine j_aload_n hJ (q := 123) dX9_lookAt_122 rfl 1 rfl rfl ?_
                  refine j_get hJ (q := 126) jf_X9_226 dX9_lookAt_123 0 rfl rfl rfl ?_
                  refine j_iconst hJ (q := 127) dX9_lookAt_126 rfl ki_3 ?_
                  refine jn_icmp_ge hJ (q := 130) (tgt := 134) dX9_lookAt_127 (by decide) rfl (by omega) (by omega) (fun c118 => ?_) (fun c118 => ?_)
                  · skip
                    refine j_iconst hJ (q := 135) dX9_lookAt_134 rfl ki_0 ?_
                    refine j_istore_n hJ (q := 136) (lvs' := [(3, .int (nI 0)), (2, .int (nI (By a))), (0, .ref h), (1, .int (nI f))]) dX9_lookAt_135 rfl (by decide) rfl rfl ?_
                    have L_136 : ∀ (fu_136 : Nat) (l : Nat) (g : Nat), (bl - (a + l)) + g < fu_136 → (g ≤ 1) → (1 ≤ l ∧ a + l ≤ bl) → (g = 1 → cls (By a) ≤ 2) → (g = 0 → l = tl0 (cls (By a)) By bl a) → (g = 1 → l + rn (cls (By a)) By bl (a + l) = tl0 (cls (By a)) By bl a) → J 136 [(0, .ref h), (1, .int (nI f)), (2, .int (nI (By a))), (3, .int (nI g))] [] [mO h q ab be bl a l 3 0, (q 7, ia Z 150 (ni By))] 0 0 := by
                      intro fu_136
                      induction fu_136 with
                      | zero => intro l g hm; exact absurd hm (Nat.not_lt_zero _)
                      | succ fu_136 ih_136 =>
                        intro l g hm_136 hg hl hgk hg0 hg1
                        refine j_iload_n hJ (q := 137) dX9_lookAt_136 rfl 3 rfl rfl ?_
                        refine jn_if_eq hJ (q := 140) (tgt := 215) dX9_lookAt_137 (by decide) rfl (by omega) (fun c119 => ?_) (fun c119 => ?_)
                        · skip
                          have hlf : l = tl0 (cls (By a)) By bl a := (Nat.eq_zero_or_pos g).elim (fun h0 => hg0 h0) (fun h0 => by have := hg1 (by omega); rw [rn_stop (by omega)] at this; omega)
                          refine j_iconst hJ (q := 216) dX9_lookAt_215 rfl ki_0 ?_
                          refine j_istore hJ (q := 218) (lvs' := [(4, .int (nI 0)), (0, .ref h), (1, .int (nI f)), (2, .int (nI (By a))), (3, .int (nI g))]) dX9_lookAt_216 (by decide) rfl rfl ?_
                          have L_218 : ∀ (fu_218 : Nat) (v : Nat) (k : Nat), 2 - k < fu_218 → (k ≤ 2 ∧ k ≤ l) → (v = vN By a k) → (cls (By a) = 2 ∨ k = 0) → J 218 [(0, .ref h), (1, .int (nI f)), (2, .int (nI (By a))), (3, .int (nI g)), (4, .int (nI k))] [] [mO h q ab be bl a l 3 v, (q 7, ia Z 150 (ni By))] 0 0 := by
                            intro fu_218
                            induction fu_218 with
                            | zero => intro v k hm; exact absurd hm (Nat.not_lt_zero _)
                            | succ fu_218 ih_218 =>
                              intro v k hm_218 hk2 hv hk0
                              have hvl := vN_le (a := a) hby k hk2.1
                              refine j_iload hJ (q := 220) dX9_lookAt_218 4 rfl rfl ?_
                              refine j_aload_n hJ (q := 221) dX9_lookAt_220 rfl 0 rfl rfl ?_
                              refine j_get hJ (q := 224) jf_X9_223 dX9_lookAt_221 0 rfl rfl rfl ?_
                              refine jn_icmp_ge hJ (q := 227) (tgt := 274) dX9_lookAt_224 (by decide) rfl (by omega) (by omega) (fun c120 => ?_) (fun c120 => ?_)
                              · skip
                                have hT1 : tkL By bl a = l := by rw [tkL_of (by omega) rfl]; exact hlf.symm
                                have hT3 : tkV By bl a = v := by unfold tkV; rw [if_neg (by omega), hT1, hk]; rw [if_neg (by decide), hv, show k = 0 by omega]; rfl
                                refine j_aload_n hJ (q := 275) dX9_lookAt_274 rfl 0 rfl rfl ?_
                                refine j_aload_n hJ (q := 276) dX9_lookAt_275 rfl 0 rfl rfl ?_
                                refine j_get hJ (q := 279) jf_X9_226 dX9_lookAt_276 0 rfl rfl rfl ?_
                                refine j_iconst hJ (q := 280) dX9_lookAt_279 rfl ki_2 ?_
                                refine jn_icmp_ne hJ (q := 283) (tgt := 295) dX9_lookAt_280 (by decide) rfl (by omega) (by omega) (fun c121 => ?_) (fun c121 => ?_)
                                · skip
                                  refine j_aload_n hJ (q := 296) dX9_lookAt_295 rfl 0 rfl rfl ?_
                                  refine j_get hJ (q := 299) jf_X9_226 dX9_lookAt_296 0 rfl rfl rfl ?_
                                  have hT2 : tkK By bl a = 3 := by unfold tkK; rw [if_neg (by omega), hT1, hk]; split <;> omega
                                  refine j_put hJ (q := 302) (ws' := [mO h q ab be bl a l 3 v, (q 7, ia Z 150 (ni By))]) jp_X9_226 dX9_lookAt_299 0 rfl rfl rfl (Nat.le_of_ble_eq_true rfl) rfl rfl ?_
                                  exact hE.2.2 _ _ _ _ _ rfl dX9_lookAt_302 (Nat.le_refl _) (Nat.le_refl _) (⟨rfl, by rw [hsk, hT1, hT2, hT3]⟩)
                                · skip
                                  exfalso; omega
                              · skip
                                refine j_iload hJ (q := 229) dX9_lookAt_227 4 rfl rfl ?_
                                refine j_iconst hJ (q := 230) dX9_lookAt_229 rfl ki_2 ?_
                                refine jn_icmp_ge hJ (q := 233) (tgt := 274) dX9_lookAt_230 (by decide) rfl (by omega) (by omega) (fun c122 => ?_) (fun c122 => ?_)
                                · skip
                                  have hT1 : tkL By bl a = l := by rw [tkL_of (by omega) rfl]; exact hlf.symm
                                  have hT3 : tkV By bl a = v := by unfold tkV; rw [if_neg (by omega), hT1, hk]; rw [if_neg (by decide), hv, show k = 0 by omega]; rfl
                                  refine j_aload_n hJ (q := 275) dX9_lookAt_274 rfl 0 rfl rfl ?_
                                  refine j_aload_n hJ (q := 276) dX9_lookAt_275 rfl 0 rfl rfl ?_
                                  refine j_get hJ (q := 279) jf_X9_226 dX9_lookAt_276 0 rfl rfl rfl ?_
                                  refine j_iconst hJ (q := 280) dX9_lookAt_279 rfl ki_2 ?_
                                  refine jn_icmp_ne hJ (q := 283) (tgt := 295) dX9_lookAt_280 (by decide) rfl (by omega) (by omega) (fun c123 => ?_) (fun c123 => ?_)
                                  · skip
                                    refine j_aload_n hJ (q := 296) dX9_lookAt_295 rfl 0 rfl rfl ?_
                                    refine j_get hJ (q := 299) jf_X9_226 dX9_lookAt_296 0 rfl rfl rfl ?_
                                    have hT2 : tkK By bl a = 3 := by unfold tkK; rw [if_neg (by omega), hT1, hk]; split <;> omega
                                    refine j_put hJ (q := 302) (ws' := [mO h q ab be bl a l 3 v, (q 7, ia Z 150 (ni By))]) jp_X9_226 dX9_lookAt_299 0 rfl rfl rfl (Nat.le_of_ble_eq_true rfl) rfl rfl ?_
                                    exact hE.2.2 _ _ _ _ _ rfl dX9_lookAt_302 (Nat.le_refl _) (Nat.le_refl _) (⟨rfl, by rw [hsk, hT1, hT2, hT3]⟩)
                                  · skip
                                    exfalso; omega
                                · skip
                                  refine j_aload_n hJ (q := 234) dX9_lookAt_233 rfl 0 rfl rfl ?_
                                  refine j_get hJ (q := 237) jf_X9_226 dX9_lookAt_234 0 rfl rfl rfl ?_
                                  refine j_iconst hJ (q := 238) dX9_lookAt_237 rfl ki_2 ?_
                                  refine jn_icmp_ne hJ (q := 241) (tgt := 274) dX9_lookAt_238 (by decide) rfl (by omega) (by omega) (fun c124 => ?_) (fun c124 => ?_)
                                  · skip
                                    have hT1 : tkL By bl a = l := by rw [tkL_of (by omega) rfl]; exact hlf.symm
                                    have hT3 : tkV By bl a = v := by unfold tkV; rw [if_neg (by omega), hT1, hk]; rw [if_neg (by decide), hv, show k = 0 by omega]; rfl
                                    refine j_aload_n hJ (q := 275) dX9_lookAt_274 rfl 0 rfl rfl ?_
                                    refine j_aload_n hJ (q := 276) dX9_lookAt_275 rfl 0 rfl rfl ?_
                                    refine j_get hJ (q := 279) jf_X9_226 dX9_lookAt_276 0 rfl rfl rfl ?_
                                    refine j_iconst hJ (q := 280) dX9_lookAt_279 rfl ki_2 ?_
                                    refine jn_icmp_ne hJ (q := 283) (tgt := 295) dX9_lookAt_280 (by decide) rfl (by omega) (by omega) (fun c125 => ?_) (fun c125 => ?_)
                                    · skip
                                      refine j_aload_n hJ (q := 296) dX9_lookAt_295 rfl 0 rfl rfl ?_
                                      refine j_get hJ (q := 299) jf_X9_226 dX9_lookAt_296 0 rfl rfl rfl ?_
                                      have hT2 : tkK By bl a = 3 := by unfold tkK; rw [if_neg (by omega), hT1, hk]; split <;> omega
                                      refine j_put hJ (q := 302) (ws' := [mO h q ab be bl a l 3 v, (q 7, ia Z 150 (ni By))]) jp_X9_226 dX9_lookAt_299 0 rfl rfl rfl (Nat.le_of_ble_eq_true rfl) rfl rfl ?_
                                      exact hE.2.2 _ _ _ _ _ rfl dX9_lookAt_302 (Nat.le_refl _) (Nat.le_refl _) (⟨rfl, by rw [hsk, hT1, hT2, hT3]⟩)
                                    · skip
                                      exfalso; omega
                                  · skip
                                    exfalso; omega
                          refine j_locals hJ [1, 2, 3, 4, 0] rfl ?_
                          exact L_218 ((2 - 0) + 1) 0 0 (Nat.lt_succ_self _) (by omega) rfl (by omega)
                        · skip
                          have hgk2 := hgk (by omega)
                          refine j_aload_n hJ (q := 141) dX9_lookAt_140 rfl 0 rfl rfl ?_
                          refine j_get hJ (q := 144) jf_X9_220 dX9_lookAt_141 0 rfl rfl rfl ?_
                          refine j_aload_n hJ (q := 145) dX9_lookAt_144 rfl 0 rfl rfl ?_
                          refine j_get hJ (q := 148) jf_X9_223 dX9_lookAt_145 0 rfl rfl rfl ?_
                          refine j_iadd hJ (q := 149) dX9_lookAt_148 rfl (nI_add _ _) ?_
                          refine j_aload_n hJ (q := 150) dX9_lookAt_149 rfl 0 rfl rfl ?_
                          refine j_get hJ (q := 153) jf_X9_208 dX9_lookAt_150 0 rfl rfl rfl ?_
                          refine jn_icmp_ge hJ (q := 156) (tgt := 215) dX9_lookAt_153 (by decide) rfl (by omega) (by omega) (fun c126 => ?_) (fun c126 => ?_)
                          · skip
                            have hlf : l = tl0 (cls (By a)) By bl a := (Nat.eq_zero_or_pos g).elim (fun h0 => hg0 h0) (fun h0 => by have := hg1 (by omega); rw [rn_stop (by omega)] at this; omega)
                            refine j_iconst hJ (q := 216) dX9_lookAt_215 rfl ki_0 ?_
                            refine j_istore hJ (q := 218) (lvs' := [(4, .int (nI 0)), (0, .ref h), (1, .int (nI f)), (2, .int (nI (By a))), (3, .int (nI g))]) dX9_lookAt_216 (by decide) rfl rfl ?_
                            have L_218 : ∀ (fu_218 : Nat) (v : Nat) (k : Nat), 2 - k < fu_218 → (k ≤ 2 ∧ k ≤ l) → (v = vN By a k) → (cls (By a) = 2 ∨ k = 0) → J 218 [(0, .ref h), (1, .int (nI f)), (2, .int (nI (By a))), (3, .int (nI g)), (4, .int (nI k))] [] [mO h q ab be bl a l 3 v, (q 7, ia Z 150 (ni By))] 0 0 := by
                              intro fu_218
                              induction fu_218 with
                              | zero => intro v k hm; exact absurd hm (Nat.not_lt_zero _)
                              | succ fu_218 ih_218 =>
                                intro v k hm_218 hk2 hv hk0
                                have hvl := vN_le (a := a) hby k hk2.1
                                refine j_iload hJ (q := 220) dX9_lookAt_218 4 rfl rfl ?_
                                refine j_aload_n hJ (q := 221) dX9_lookAt_220 rfl 0 rfl rfl ?_
                                refine j_get hJ (q := 224) jf_X9_223 dX9_lookAt_221 0 rfl rfl rfl ?_
                                refine jn_icmp_ge hJ (q := 227) (tgt := 274) dX9_lookAt_224 (by decide) rfl (by omega) (by omega) (fun c127 => ?_) (fun c127 => ?_)
                                · skip
                                  have hT1 : tkL By bl a = l := by rw [tkL_of (by omega) rfl]; exact hlf.symm
                                  have hT3 : tkV By bl a = v := by unfold tkV; rw [if_neg (by omega), hT1, hk]; rw [if_neg (by decide), hv, show k = 0 by omega]; rfl
                                  refine j_aload_n hJ (q := 275) dX9_lookAt_274 rfl 0 rfl rfl ?_
                                  refine j_aload_n hJ (q := 276) dX9_lookAt_275 rfl 0 rfl rfl ?_
                                  refine j_get hJ (q := 279) jf_X9_226 dX9_lookAt_276 0 rfl rfl rfl ?_
                                  refine j_iconst hJ (q := 280) dX9_lookAt_279 rfl ki_2 ?_
                                  refine jn_icmp_ne hJ (q := 283) (tgt := 295) dX9_lookAt_280 (by decide) rfl (by omega) (by omega) (fun c128 => ?_) (fun c128 => ?_)
                                  · skip
                                    refine j_aload_n hJ (q := 296) dX9_lookAt_295 rfl 0 rfl rfl ?_
                                    refine j_get hJ (q := 299) jf_X9_226 dX9_lookAt_296 0 rfl rfl rfl ?_
                                    have hT2 : tkK By bl a = 3 := by unfold tkK; rw [if_neg (by omega), hT1, hk]; split <;> omega
                                    refine j_put hJ (q := 302) (ws' := [mO h q ab be bl a l 3 v, (q 7, ia Z 150 (ni By))]) jp_X9_226 dX9_lookAt_299 0 rfl rfl rfl (Nat.le_of_ble_eq_true rfl) rfl rfl ?_
                                    exact hE.2.2 _ _ _ _ _ rfl dX9_lookAt_302 (Nat.le_refl _) (Nat.le_refl _) (⟨rfl, by rw [hsk, hT1, hT2, hT3]⟩)
                                  · skip
                                    exfalso; omega
                                · skip
                                  refine j_iload hJ (q := 229) dX9_lookAt_227 4 rfl rfl ?_
                                  refine j_iconst hJ (q := 230) dX9_lookAt_229 rfl ki_2 ?_
                                  refine jn_icmp_ge hJ (q := 233) (tgt := 274) dX9_lookAt_230 (by decide) rfl (by omega) (by omega) (fun c129 => ?_) (fun c129 => ?_)
                                  · skip
                                    have hT1 : tkL By bl a = l := by rw [tkL_of (by omega) rfl]; exact hlf.symm
                                    have hT3 : tkV By bl a = v := by unfold tkV; rw [if_neg (by omega), hT1, hk]; rw [if_neg (by decide), hv, show k = 0 by omega]; rfl
                                    refine j_aload_n hJ (q := 275) dX9_lookAt_274 rfl 0 rfl rfl ?_
                                    refine j_aload_n hJ (q := 276) dX9_lookAt_275 rfl 0 rfl rfl ?_
                                    refine j_get hJ (q := 279) jf_X9_226 dX9_lookAt_276 0 rfl rfl rfl ?_
                                    refine j_iconst hJ (q := 280) dX9_lookAt_279 rfl ki_2 ?_
                                    refine jn_icmp_ne hJ (q := 283) (tgt := 295) dX9_lookAt_280 (by decide) rfl (by omega) (by omega) (fun c130 => ?_) (fun c130 => ?_)
                                    · skip
                                      refine j_aload_n hJ (q := 296) dX9_lookAt_295 rfl 0 rfl rfl ?_
                                      refine j_get hJ (q := 299) jf_X9_226 dX9_lookAt_296 0 rfl rfl rfl ?_
                                      have hT2 : tkK By bl a = 3 := by unfold tkK; rw [if_neg (by omega), hT1, hk]; split <;> omega
                                      refine j_put hJ (q := 302) (ws' := [mO h q ab be bl a l 3 v, (q 7, ia Z 150 (ni By))]) jp_X9_226 dX9_lookAt_299 0 rfl rfl rfl (Nat.le_of_ble_eq_true rfl) rfl rfl ?_
                                      exact hE.2.2 _ _ _ _ _ rfl dX9_lookAt_302 (Nat.le_refl _) (Nat.le_refl _) (⟨rfl, by rw [hsk, hT1, hT2, hT3]⟩)
                                    · skip
                                      exfalso; omega
                                  · skip
                                    refine j_aload_n hJ (q := 234) dX9_lookAt_233 rfl 0 rfl rfl ?_
                                    refine j_get hJ (q := 237) jf_X9_226 dX9_lookAt_234 0 rfl rfl rfl ?_
                                    refine j_iconst hJ (q := 238) dX9_lookAt_237 rfl ki_2 ?_
                                    refine jn_icmp_ne hJ (q := 241) (tgt := 274) dX9_lookAt_238 (by decide) rfl (by omega) (by omega) (fun c131 => ?_) (fun c131 => ?_)
                                    · skip
                                      have hT1 : tkL By bl a = l := by rw [tkL_of (by omega) rfl]; exact hlf.symm
                                      have hT3 : tkV By bl a = v := by unfold tkV; rw [if_neg (by omega), hT1, hk]; rw [if_neg (by decide), hv, show k = 0 by omega]; rfl
                                      refine j_aload_n hJ (q := 275) dX9_lookAt_274 rfl 0 rfl rfl ?_
                                      refine j_aload_n hJ (q := 276) dX9_lookAt_275 rfl 0 rfl rfl ?_
                                      refine j_get hJ (q := 279) jf_X9_226 dX9_lookAt_276 0 rfl rfl rfl ?_
                                      refine j_iconst hJ (q := 280) dX9_lookAt_279 rfl ki_2 ?_
                                      refine jn_icmp_ne hJ (q := 283) (tgt := 295) dX9_lookAt_280 (by decide) rfl (by omega) (by omega) (fun c132 => ?_) (fun c132 => ?_)
                                      · skip
                                        refine j_aload_n hJ (q := 296) dX9_lookAt_295 rfl 0 rfl rfl ?_
                                        refine j_get hJ (q := 299) jf_X9_226 dX9_lookAt_296 0 rfl rfl rfl ?_
                                        have hT2 : tkK By bl a = 3 := by unfold tkK; rw [if_neg (by omega), hT1, hk]; split <;> omega
                                        refine j_put hJ (q := 302) (ws' := [mO h q ab be bl a l 3 v, (q 7, ia Z 150 (ni By))]) jp_X9_226 dX9_lookAt_299 0 rfl rfl rfl (Nat.le_of_ble_eq_true rfl) rfl rfl ?_
                                        exact hE.2.2 _ _ _ _ _ rfl dX9_lookAt_302 (Nat.le_refl _) (Nat.le_refl _) (⟨rfl, by rw [hsk, hT1, hT2, hT3]⟩)
                                      · skip
                                        exfalso; omega
                                    · skip
                                      exfalso; omega
                            refine j_locals hJ [1, 2, 3, 4, 0] rfl ?_
                            exact L_218 ((2 - 0) + 1) 0 0 (Nat.lt_succ_self _) (by omega) rfl (by omega)
                          · skip
                            refine j_aload_n hJ (q := 157) dX9_lookAt_156 rfl 0 rfl rfl ?_
                            refine j_get hJ (q := 160) jf_X9_36 dX9_lookAt_157 0 rfl rfl rfl ?_
                            refine j_aload_n hJ (q := 161) dX9_lookAt_160 rfl 0 rfl rfl ?_
                            refine j_get hJ (q := 164) jf_X9_220 dX9_lookAt_161 0 rfl rfl rfl ?_
                            refine j_aload_n hJ (q := 165) dX9_lookAt_164 rfl 0 rfl rfl ?_
                            refine j_get hJ (q := 168) jf_X9_223 dX9_lookAt_165 0 rfl rfl rfl ?_
                            refine j_iadd hJ (q := 169) dX9_lookAt_168 rfl (nI_add _ _) ?_
                            refine j_ialdN hJ (q := 170) (z := nI (By (a + l))) dX9_lookAt_169 1 rfl (by omega) (by decide) rfl rfl ?_
                            have b133 := hby (a + l)
                            refine j_istore hJ (q := 172) (lvs' := [(4, .int (nI (By (a + l)))), (0, .ref h), (1, .int (nI f)), (2, .int (nI (By a))), (3, .int (nI g))]) dX9_lookAt_170 (by decide) rfl rfl ?_
                            refine j_aload_n hJ (q := 173) dX9_lookAt_172 rfl 1 rfl rfl ?_
                            refine j_get hJ (q := 176) jf_X9_226 dX9_lookAt_173 0 rfl rfl rfl ?_
                            refine j_iconst hJ (q := 177) dX9_lookAt_176 rfl ki_1 ?_
                            refine jn_icmp_ne hJ (q := 180) (tgt := 188) dX9_lookAt_177 (by decide) rfl (by omega) (by omega) (fun c134 => ?_) (fun c134 => ?_)
                            · skip
                              refine j_iload hJ (q := 190) dX9_lookAt_188 0 rfl rfl ?_
                              refine j_sR hJ (q := 193) (rest := []) (As := [.int (nI (By (a + l)))]) jl_X9_235 (c_X9_isFigure Z (By (a + l)) (by omega)) dX9_lookAt_190 rfl (by decide) (Nat.le_of_ble_eq_true rfl) [] rfl rfl (fun rv hp => ?_)
                              obtain rfl := hp
                              show J 193 [(4, .int (nI (By (a + l)))), (0, .ref h), (1, .int (nI f)), (2, .int (nI (By a))), (3, .int (nI g))] [.int (bI (decide (48 ≤ (By (a + l)) ∧ (By (a + l)) ≤ 57)))] [mO h q ab be bl a l 3 0, (q 7, ia Z 150 (ni By))] 0 0
                              refine j_casep (fun c135 => ?_) (fun c135 => ?_)
                              · skip
                                refine j_istore_n hJ (q := 194) (lvs' := [(3, .int (nI 1)), (4, .int (nI (By (a + l)))), (0, .ref h), (1, .int (nI f)), (2, .int (nI (By a)))]) dX9_lookAt_193 rfl (by decide) rfl rfl ?_
                                refine j_aload_n hJ (q := 195) dX9_lookAt_194 rfl 2 rfl rfl ?_
                                refine j_dup hJ (q := 196) dX9_lookAt_195 rfl rfl ?_
                                refine j_get hJ (q := 199) jf_X9_223 dX9_lookAt_196 0 rfl rfl rfl ?_
                                refine j_iload_n hJ (q := 200) dX9_lookAt_199 rfl 0 rfl rfl ?_
                                refine jn_if_eq hJ (q := 203) (tgt := 207) dX9_lookAt_200 (by decide) rfl (by omega) (fun c136 => ?_) (fun c136 => ?_)
                                · skip
                                  exfalso; omega
                                · skip
                                  refine j_iconst hJ (q := 204) dX9_lookAt_203 rfl ki_1 ?_
                                  refine j_goto hJ (q := 208) dX9_lookAt_204 (by decide) ?_
                                  refine j_iadd hJ (q := 209) dX9_lookAt_208 rfl (nI_add _ _) ?_
                                  refine j_put hJ (q := 212) (ws' := [mO h q ab be bl a (l + 1) 3 0, (q 7, ia Z 150 (ni By))]) jp_X9_223 dX9_lookAt_209 0 rfl rfl rfl (Nat.le_of_ble_eq_true rfl) rfl rfl ?_
                                  refine j_goto hJ (q := 136) dX9_lookAt_212 (by decide) ?_
                                  refine j_locals hJ [2, 3, 4, 0] rfl ?_
                                  exact ih_136 (l + 1) 1 (by omega) (by omega) (by omega) (fun z => by omega) (fun z => by first | (exfalso; omega) | (have := hg1 (by omega); rw [rn_stop (by rw [hk]; unfold cls; (repeat' split) <;> omega)] at this; omega)) (fun z => by first | (exfalso; omega) | (have := hg1 (by omega); rw [rn_go (p := a + l) ⟨by omega, by rw [hk]; unfold cls; (repeat' split) <;> omega⟩] at this; rw [show a + (l + 1) = a + l + 1 by omega]; omega))
                              · skip
                                refine j_istore_n hJ (q := 194) (lvs' := [(3, .int (nI 0)), (4, .int (nI (By (a + l)))), (0, .ref h), (1, .int (nI f)), (2, .int (nI (By a)))]) dX9_lookAt_193 rfl (by decide) rfl rfl ?_
                                refine j_aload_n hJ (q := 195) dX9_lookAt_194 rfl 2 rfl rfl ?_
                                refine j_dup hJ (q := 196) dX9_lookAt_195 rfl rfl ?_
                                refine j_get hJ (q := 199) jf_X9_223 dX9_lookAt_196 0 rfl rfl rfl ?_
                                refine j_iload_n hJ (q := 200) dX9_lookAt_199 rfl 0 rfl rfl ?_
                                refine jn_if_eq hJ (q := 203) (tgt := 207) dX9_lookAt_200 (by decide) rfl (by omega) (fun c137 => ?_) (fun c137 => ?_)
                                · skip
                                  refine j_iconst hJ (q := 208) dX9_lookAt_207 rfl ki_0 ?_
                                  refine j_iadd hJ (q := 209) dX9_lookAt_208 rfl (nI_add _ _) ?_
                                  refine j_put hJ (q := 212) (ws' := [mO h q ab be bl a (l + 0) 3 0, (q 7, ia Z 150 (ni By))]) jp_X9_223 dX9_lookAt_209 0 rfl rfl rfl (Nat.le_of_ble_eq_true rfl) rfl rfl ?_
                                  refine j_goto hJ (q := 136) dX9_lookAt_212 (by decide) ?_
                                  refine j_locals hJ [2, 3, 4, 0] rfl ?_
                                  exact ih_136 (l + 0) 0 (by omega) (by omega) (by omega) (fun z => by omega) (fun z => by first | (exfalso; omega) | (have := hg1 (by omega); rw [rn_stop (by rw [hk]; unfold cls; (repeat' split) <;> omega)] at this; omega)) (fun z => by first | (exfalso; omega) | (have := hg1 (by omega); rw [rn_go (p := a + l) ⟨by omega, by rw [hk]; unfold cls; (repeat' split) <;> omega⟩] at this; rw [show a + (l + 1) = a + l + 1 by omega]; omega))
                                · skip
                                  exfalso; omega
                            · skip
                              exfalso; omega
                    refine j_locals hJ [2, 3, 1, 0] rfl ?_
                    exact L_136 (((bl - (a + 1)) + 0) + 1) 1 0 (Nat.lt_succ_self _) (by omega) (by omega) (fun z => by omega) (fun z => by first | (exfalso; omega) | (rw [hk]; rfl)) (fun z => by first | (exfalso; omega) | (rw [hk]; rfl))
                  · skip
                    exfalso; omega
              · skip
                have hk : cls (By a) = 2 := by unfold cls; (repeat' split) <;> omega
                refine j_iconst hJ (q := 100) dX9_lookAt_99 rfl ki_2 ?_
                refine j_goto hJ (q := 114) dX9_lookAt_100 (by decide) ?_
                refine j_put hJ (q := 117) (ws' := [mO h q ab be bl a 0 2 0, (q 7, ia Z 150 (ni By))]) jp_X9_226 dX9_lookAt_114 0 rfl rfl rfl (Nat.le_of_ble_eq_true rfl) rfl rfl ?_
                refine j_aload_n hJ (q := 118) dX9_lookAt_117 rfl 1 rfl rfl ?_
                refine j_iconst hJ (q := 119) dX9_lookAt_118 rfl ki_1 ?_
                refine j_put hJ (q := 122) (ws' := [mO h q ab be bl a 1 2 0, (q 7, ia Z 150 (ni By))]) jp_X9_223 dX9_lookAt_119 0 rfl rfl rfl (Nat.le_of_ble_eq_true rfl) rfl rfl ?_
                refine j_aload_n hJ (q := 123) dX9_lookAt_122 rfl 1 rfl rfl ?_
                refine j_get hJ (q := 126) jf_X9_226 dX9_lookAt_123 0 rfl rfl rfl ?_
                refine j_iconst hJ (q := 127) dX9_lookAt_126 rfl ki_3 ?_
                refine jn_icmp_ge hJ (q := 130) (tgt := 134) dX9_lookAt_127 (by decide) rfl (by omega) (by omega) (fun c138 => ?_) (fun c138 => ?_)
                · skip
                  exfalso; omega
                · skip
                  refine j_iconst hJ (q := 131) dX9_lookAt_130 rfl ki_1 ?_
                  refine j_goto hJ (q := 135) dX9_lookAt_131 (by decide) ?_
                  refine j_istore_n hJ (q := 136) (lvs' := [(3, .int (nI 1)), (2, .int (nI (By a))), (0, .ref h), (1, .int (nI f))]) dX9_lookAt_135 rfl (by decide) rfl rfl ?_
                  have L_136 : ∀ (fu_136 : Nat) (l : Nat) (g : Nat), (bl - (a + l)) + g < fu_136 → (g ≤ 1) → (1 ≤ l ∧ a + l ≤ bl) → (g = 1 → cls (By a) ≤ 2) → (g = 0 → l = tl0 (cls (By a)) By bl a) → (g = 1 → l + rn (cls (By a)) By bl (a + l) = tl0 (cls (By a)) By bl a) → J 136 [(0, .ref h), (1, .int (nI f)), (2, .int (nI (By a))), (3, .int (nI g))] [] [mO h q ab be bl a l 2 0, (q 7, ia Z 150 (ni By))] 0 0 := by
                    intro fu_136
                    induction fu_136 with
                    | zero => intro l g hm; exact absurd hm (Nat.not_lt_zero _)
                    | succ fu_136 ih_136 =>
                      intro l g hm_136 hg hl hgk hg0 hg1
                      refine j_iload_n hJ (q := 137) dX9_lookAt_136 rfl 3 rfl rfl ?_
                      refine jn_if_eq hJ (q := 140) (tgt := 215) dX9_lookAt_137 (by decide) rfl (by omega) (fun c139 => ?_) (fun c139 => ?_)
                      · skip
                        have hlf : l = tl0 (cls (By a)) By bl a := (Nat.eq_zero_or_pos g).elim (fun h0 => hg0 h0) (fun h0 => by have := hg1 (by omega); rw [rn_stop (by omega)] at this; omega)
                        refine j_iconst hJ (q := 216) dX9_lookAt_215 rfl ki_0 ?_
                        refine j_istore hJ (q := 218) (lvs' := [(4, .int (nI 0)), (0, .ref h), (1, .int (nI f)), (2, .int (nI (By a))), (3, .int (nI g))]) dX9_lookAt_216 (by decide) rfl rfl ?_
                        have L_218 : ∀ (fu_218 : Nat) (v : Nat) (k : Nat), 2 - k < fu_218 → (k ≤ 2 ∧ k ≤ l) → (v = vN By a k) → (cls (By a) = 2 ∨ k = 0) → J 218 [(0, .ref h), (1, .int (nI f)), (2, .int (nI (By a))), (3, .int (nI g)), (4, .int (nI k))] [] [mO h q ab be bl a l 2 v, (q 7, ia Z 150 (ni By))] 0 0 := by
                          intro fu_218
                          induction fu_218 with
                          | zero => intro v k hm; exact absurd hm (Nat.not_lt_zero _)
                          | succ fu_218 ih_218 =>
                            intro v k hm_218 hk2 hv hk0
                            have hvl := vN_le (a := a) hby k hk2.1
                            refine j_iload hJ (q := 220) dX9_lookAt_218 4 rfl rfl ?_
                            refine j_aload_n hJ (q := 221) dX9_lookAt_220 rfl 0 rfl rfl ?_
                            refine j_get hJ (q := 224) jf_X9_223 dX9_lookAt_221 0 rfl rfl rfl ?_
                            refine jn_icmp_ge hJ (q := 227) (tgt := 274) dX9_lookAt_224 (by decide) rfl (by omega) (by omega) (fun c140 => ?_) (fun c140 => ?_)
                            · skip
                              have hT1 : tkL By bl a = l := by rw [tkL_of (by omega) rfl]; exact hlf.symm
                              have hT3 : tkV By bl a = v := by unfold tkV; rw [if_neg (by omega), hT1, hk]; rw [if_pos rfl, hv]; congr 1; omega
                              refine j_aload_n hJ (q := 275) dX9_lookAt_274 rfl 0 rfl rfl ?_
                              refine j_aload_n hJ (q := 276) dX9_lookAt_275 rfl 0 rfl rfl ?_
                              refine j_get hJ (q := 279) jf_X9_226 dX9_lookAt_276 0 rfl rfl rfl ?_
                              refine j_iconst hJ (q := 280) dX9_lookAt_279 rfl ki_2 ?_
                              refine jn_icmp_ne hJ (q := 283) (tgt := 295) dX9_lookAt_280 (by decide) rfl (by omega) (by omega) (fun c141 => ?_) (fun c141 => ?_)
                              · skip
                                exfalso; omega
                              · skip
                                refine j_aload_n hJ (q := 284) dX9_lookAt_283 rfl 0 rfl rfl ?_
                                refine j_get hJ (q := 287) jf_X9_223 dX9_lookAt_284 0 rfl rfl rfl ?_
                                refine j_iconst hJ (q := 288) dX9_lookAt_287 rfl ki_2 ?_
                                refine jn_icmp_le hJ (q := 291) (tgt := 295) dX9_lookAt_288 (by decide) rfl (by omega) (by omega) (fun c142 => ?_) (fun c142 => ?_)
                                · skip
                                  refine j_aload_n hJ (q := 296) dX9_lookAt_295 rfl 0 rfl rfl ?_
                                  refine j_get hJ (q := 299) jf_X9_226 dX9_lookAt_296 0 rfl rfl rfl ?_
                                  have hT2 : tkK By bl a = 2 := by unfold tkK; rw [if_neg (by omega), hT1, hk]; split <;> omega
                                  refine j_put hJ (q := 302) (ws' := [mO h q ab be bl a l 2 v, (q 7, ia Z 150 (ni By))]) jp_X9_226 dX9_lookAt_299 0 rfl rfl rfl (Nat.le_of_ble_eq_true rfl) rfl rfl ?_
                                  exact hE.2.2 _ _ _ _ _ rfl dX9_lookAt_302 (Nat.le_refl _) (Nat.le_refl _) (⟨rfl, by rw [hsk, hT1, hT2, hT3]⟩)
                                · skip
                                  refine j_iconst hJ (q := 292) dX9_lookAt_291 rfl ki_4 ?_
                                  refine j_goto hJ (q := 299) dX9_lookAt_292 (by decide) ?_
                                  have hT2 : tkK By bl a = 4 := by unfold tkK; rw [if_neg (by omega), hT1, hk]; split <;> omega
                                  refine j_put hJ (q := 302) (ws' := [mO h q ab be bl a l 4 v, (q 7, ia Z 150 (ni By))]) jp_X9_226 dX9_lookAt_299 0 rfl rfl rfl (Nat.le_of_ble_eq_true rfl) rfl rfl ?_
                                  exact hE.2.2 _ _ _ _ _ rfl dX9_lookAt_302 (Nat.le_refl _) (Nat.le_refl _) (⟨rfl, by rw [hsk, hT1, hT2, hT3]⟩)
                            · skip
                              refine j_iload hJ (q := 229) dX9_lookAt_227 4 rfl rfl ?_
                              refine j_iconst hJ (q := 230) dX9_lookAt_229 rfl ki_2 ?_
                              refine jn_icmp_ge hJ (q := 233) (tgt := 274) dX9_lookAt_230 (by decide) rfl (by omega) (by omega) (fun c143 => ?_) (fun c143 => ?_)
                              · skip
                                have hT1 : tkL By bl a = l := by rw [tkL_of (by omega) rfl]; exact hlf.symm
                                have hT3 : tkV By bl a = v := by unfold tkV; rw [if_neg (by omega), hT1, hk]; rw [if_pos rfl, hv]; congr 1; omega
                                refine j_aload_n hJ (q := 275) dX9_lookAt_274 rfl 0 rfl rfl ?_
                                refine j_aload_n hJ (q := 276) dX9_lookAt_275 rfl 0 rfl rfl ?_
                                refine j_get hJ (q := 279) jf_X9_226 dX9_lookAt_276 0 rfl rfl rfl ?_
                                refine j_iconst hJ (q := 280) dX9_lookAt_279 rfl ki_2 ?_
                                refine jn_icmp_ne hJ (q := 283) (tgt := 295) dX9_lookAt_280 (by decide) rfl (by omega) (by omega) (fun c144 => ?_) (fun c144 => ?_)
                                · skip
                                  exfalso; omega
                                · skip
                                  refine j_aload_n hJ (q := 284) dX9_lookAt_283 rfl 0 rfl rfl ?_
                                  refine j_get hJ (q := 287) jf_X9_223 dX9_lookAt_284 0 rfl rfl rfl ?_
                                  refine j_iconst hJ (q := 288) dX9_lookAt_287 rfl ki_2 ?_
                                  refine jn_icmp_le hJ (q := 291) (tgt := 295) dX9_lookAt_288 (by decide) rfl (by omega) (by omega) (fun c145 => ?_) (fun c145 => ?_)
                                  · skip
                                    refine j_aload_n hJ (q := 296) dX9_lookAt_295 rfl 0 rfl rfl ?_
                                    refine j_get hJ (q := 299) jf_X9_226 dX9_lookAt_296 0 rfl rfl rfl ?_
                                    have hT2 : tkK By bl a = 2 := by unfold tkK; rw [if_neg (by omega), hT1, hk]; split <;> omega
                                    refine j_put hJ (q := 302) (ws' := [mO h q ab be bl a l 2 v, (q 7, ia Z 150 (ni By))]) jp_X9_226 dX9_lookAt_299 0 rfl rfl rfl (Nat.le_of_ble_eq_true rfl) rfl rfl ?_
                                    exact hE.2.2 _ _ _ _ _ rfl dX9_lookAt_302 (Nat.le_refl _) (Nat.le_refl _) (⟨rfl, by rw [hsk, hT1, hT2, hT3]⟩)
                                  · skip
                                    refine j_iconst hJ (q := 292) dX9_lookAt_291 rfl ki_4 ?_
                                    refine j_goto hJ (q := 299) dX9_lookAt_292 (by decide) ?_
                                    have hT2 : tkK By bl a = 4 := by unfold tkK; rw [if_neg (by omega), hT1, hk]; split <;> omega
                                    refine j_put hJ (q := 302) (ws' := [mO h q ab be bl a l 4 v, (q 7, ia Z 150 (ni By))]) jp_X9_226 dX9_lookAt_299 0 rfl rfl rfl (Nat.le_of_ble_eq_true rfl) rfl rfl ?_
                                    exact hE.2.2 _ _ _ _ _ rfl dX9_lookAt_302 (Nat.le_refl _) (Nat.le_refl _) (⟨rfl, by rw [hsk, hT1, hT2, hT3]⟩)
                              · skip
                                refine j_aload_n hJ (q := 234) dX9_lookAt_233 rfl 0 rfl rfl ?_
                                refine j_get hJ (q := 237) jf_X9_226 dX9_lookAt_234 0 rfl rfl rfl ?_
                                refine j_iconst hJ (q := 238) dX9_lookAt_237 rfl ki_2 ?_
                                refine jn_icmp_ne hJ (q := 241) (tgt := 274) dX9_lookAt_238 (by decide) rfl (by omega) (by omega) (fun c146 => ?_) (fun c146 => ?_)
                                · skip
                                  exfalso; omega
                                · skip
                                  have hdg := tkL_dig (By := By) (L := bl) (a := a) (j := k) hk (by rw [tkL_of (by omega) rfl]; omega)
                                  refine j_aload_n hJ (q := 242) dX9_lookAt_241 rfl 0 rfl rfl ?_
                                  refine j_bipush hJ (q := 244) dX9_lookAt_242 rfl kb_10 ?_
                                  refine j_aload_n hJ (q := 245) dX9_lookAt_244 rfl 0 rfl rfl ?_
                                  refine j_get hJ (q := 248) jf_X9_229 dX9_lookAt_245 0 rfl rfl rfl ?_
                                  refine j_imul hJ (q := 249) dX9_lookAt_248 rfl (pk_mul _ _) ?_
                                  refine j_aload_n hJ (q := 250) dX9_lookAt_249 rfl 0 rfl rfl ?_
                                  refine j_get hJ (q := 253) jf_X9_36 dX9_lookAt_250 0 rfl rfl rfl ?_
                                  refine j_aload_n hJ (q := 254) dX9_lookAt_253 rfl 0 rfl rfl ?_
                                  refine j_get hJ (q := 257) jf_X9_220 dX9_lookAt_254 0 rfl rfl rfl ?_
                                  refine j_iload hJ (q := 259) dX9_lookAt_257 4 rfl rfl ?_
                                  refine j_iadd hJ (q := 260) dX9_lookAt_259 rfl (nI_add _ _) ?_
                                  refine j_ialdN hJ (q := 261) (z := nI (By (a + k))) dX9_lookAt_260 1 rfl (by omega) (by decide) rfl rfl ?_
                                  have b147 := hby (a + k)
                                  refine j_iadd hJ (q := 262) dX9_lookAt_261 rfl (nI_add _ _) ?_
                                  refine j_bipush hJ (q := 264) dX9_lookAt_262 rfl kb_48 ?_
                                  refine j_isub hJ (q := 265) dX9_lookAt_264 rfl (pk_sub (by omega)) ?_
                                  refine j_put hJ (q := 268) (ws' := [mO h q ab be bl a l 2 (10 * v + (By (a + k)) - 48), (q 7, ia Z 150 (ni By))]) jp_X9_229 dX9_lookAt_265 0 rfl rfl rfl (Nat.le_of_ble_eq_true rfl) rfl rfl ?_
                                  refine j_iinc hJ (q := 271) (lvs' := [(4, .int (nI (k + 1))), (0, .ref h), (1, .int (nI f)), (2, .int (nI (By a))), (3, .int (nI g))]) dX9_lookAt_268 4 rfl (by rw [show Int32.ofInt 1 = nI 1 from by decide +kernel]; exact nI_add _ _) (by decide) rfl rfl ?_
                                  refine j_goto hJ (q := 218) dX9_lookAt_271 (by decide) ?_
                                  refine j_locals hJ [1, 2, 3, 4, 0] rfl ?_
                                  exact ih_218 (10 * v + (By (a + k)) - 48) (k + 1) (by omega) (by omega) (by simp only [vN]; rw [hv]) (by omega)
                        refine j_locals hJ [1, 2, 3, 4, 0] rfl ?_
                        exact L_218 ((2 - 0) + 1) 0 0 (Nat.lt_succ_self _) (by omega) rfl (by omega)
                      · skip
                        have hgk2 := hgk (by omega)
                        refine j_aload_n hJ (q := 141) dX9_lookAt_140 rfl 0 rfl rfl ?_
                        refine j_get hJ (q := 144) jf_X9_220 dX9_lookAt_141 0 rfl rfl rfl ?_
                        refine j_aload_n hJ (q := 145) dX9_lookAt_144 rfl 0 rfl rfl ?_
                        refine j_get hJ (q := 148) jf_X9_223 dX9_lookAt_145 0 rfl rfl rfl ?_
                        refine j_iadd hJ (q := 149) dX9_lookAt_148 rfl (nI_add _ _) ?_
                        refine j_aload_n hJ (q := 150) dX9_lookAt_149 rfl 0 rfl rfl ?_
                        refine j_get hJ (q := 153) jf_X9_208 dX9_lookAt_150 0 rfl rfl rfl ?_
                        refine jn_icmp_ge hJ (q := 156) (tgt := 215) dX9_lookAt_153 (by decide) rfl (by omega) (by omega) (fun c148 => ?_) (fun c148 => ?_)
                        · skip
                          have hlf : l = tl0 (cls (By a)) By bl a := (Nat.eq_zero_or_pos g).elim (fun h0 => hg0 h0) (fun h0 => by have := hg1 (by omega); rw [rn_stop (by omega)] at this; omega)
                          refine j_iconst hJ (q := 216) dX9_lookAt_215 rfl ki_0 ?_
                          refine j_istore hJ (q := 218) (lvs' := [(4, .int (nI 0)), (0, .ref h), (1, .int (nI f)), (2, .int (nI (By a))), (3, .int (nI g))]) dX9_lookAt_216 (by decide) rfl rfl ?_
                          have L_218 : ∀ (fu_218 : Nat) (v : Nat) (k : Nat), 2 - k < fu_218 → (k ≤ 2 ∧ k ≤ l) → (v = vN By a k) → (cls (By a) = 2 ∨ k = 0) → J 218 [(0, .ref h), (1, .int (nI f)), (2, .int (nI (By a))), (3, .int (nI g)), (4, .int (nI k))] [] [mO h q ab be bl a l 2 v, (q 7, ia Z 150 (ni By))] 0 0 := by
                            intro fu_218
                            induction fu_218 with
                            | zero => intro v k hm; exact absurd hm (Nat.not_lt_zero _)
                            | succ fu_218 ih_218 =>
                              intro v k hm_218 hk2 hv hk0
                              have hvl := vN_le (a := a) hby k hk2.1
                              refine j_iload hJ (q := 220) dX9_lookAt_218 4 rfl rfl ?_
                              refine j_aload_n hJ (q := 221) dX9_lookAt_220 rfl 0 rfl rfl ?_
                              refine j_get hJ (q := 224) jf_X9_223 dX9_lookAt_221 0 rfl rfl rfl ?_
                              refine jn_icmp_ge hJ (q := 227) (tgt := 274) dX9_lookAt_224 (by decide) rfl (by omega) (by omega) (fun c149 => ?_) (fun c149 => ?_)
                              · skip
                                have hT1 : tkL By bl a = l := by rw [tkL_of (by omega) rfl]; exact hlf.symm
                                have hT3 : tkV By bl a = v := by unfold tkV; rw [if_neg (by omega), hT1, hk]; rw [if_pos rfl, hv]; congr 1; omega
                                refine j_aload_n hJ (q := 275) dX9_lookAt_274 rfl 0 rfl rfl ?_
                                refine j_aload_n hJ (q := 276) dX9_lookAt_275 rfl 0 rfl rfl ?_
                                refine j_get hJ (q := 279) jf_X9_226 dX9_lookAt_276 0 rfl rfl rfl ?_
                                refine j_iconst hJ (q := 280) dX9_lookAt_279 rfl ki_2 ?_
                                refine jn_icmp_ne hJ (q := 283) (tgt := 295) dX9_lookAt_280 (by decide) rfl (by omega) (by omega) (fun c150 => ?_) (fun c150 => ?_)
                                · skip
                                  exfalso; omega
                                · skip
                                  refine j_aload_n hJ (q := 284) dX9_lookAt_283 rfl 0 rfl rfl ?_
                                  refine j_get hJ (q := 287) jf_X9_223 dX9_lookAt_284 0 rfl rfl rfl ?_
                                  refine j_iconst hJ (q := 288) dX9_lookAt_287 rfl ki_2 ?_
                                  refine jn_icmp_le hJ (q := 291) (tgt := 295) dX9_lookAt_288 (by decide) rfl (by omega) (by omega) (fun c151 => ?_) (fun c151 => ?_)
                                  · skip
                                    refine j_aload_n hJ (q := 296) dX9_lookAt_295 rfl 0 rfl rfl ?_
                                    refine j_get hJ (q := 299) jf_X9_226 dX9_lookAt_296 0 rfl rfl rfl ?_
                                    have hT2 : tkK By bl a = 2 := by unfold tkK; rw [if_neg (by omega), hT1, hk]; split <;> omega
                                    refine j_put hJ (q := 302) (ws' := [mO h q ab be bl a l 2 v, (q 7, ia Z 150 (ni By))]) jp_X9_226 dX9_lookAt_299 0 rfl rfl rfl (Nat.le_of_ble_eq_true rfl) rfl rfl ?_
                                    exact hE.2.2 _ _ _ _ _ rfl dX9_lookAt_302 (Nat.le_refl _) (Nat.le_refl _) (⟨rfl, by rw [hsk, hT1, hT2, hT3]⟩)
                                  · skip
                                    refine j_iconst hJ (q := 292) dX9_lookAt_291 rfl ki_4 ?_
                                    refine j_goto hJ (q := 299) dX9_lookAt_292 (by decide) ?_
                                    have hT2 : tkK By bl a = 4 := by unfold tkK; rw [if_neg (by omega), hT1, hk]; split <;> omega
                                    refine j_put hJ (q := 302) (ws' := [mO h q ab be bl a l 4 v, (q 7, ia Z 150 (ni By))]) jp_X9_226 dX9_lookAt_299 0 rfl rfl rfl (Nat.le_of_ble_eq_true rfl) rfl rfl ?_
                                    exact hE.2.2 _ _ _ _ _ rfl dX9_lookAt_302 (Nat.le_refl _) (Nat.le_refl _) (⟨rfl, by rw [hsk, hT1, hT2, hT3]⟩)
                              · skip
                                refine j_iload hJ (q := 229) dX9_lookAt_227 4 rfl rfl ?_
                                refine j_iconst hJ (q := 230) dX9_lookAt_229 rfl ki_2 ?_
                                refine jn_icmp_ge hJ (q := 233) (tgt := 274) dX9_lookAt_230 (by decide) rfl (by omega) (by omega) (fun c152 => ?_) (fun c152 => ?_)
                                · skip
                                  have hT1 : tkL By bl a = l := by rw [tkL_of (by omega) rfl]; exact hlf.symm
                                  have hT3 : tkV By bl a = v := by unfold tkV; rw [if_neg (by omega), hT1, hk]; rw [if_pos rfl, hv]; congr 1; omega
                                  refine j_aload_n hJ (q := 275) dX9_lookAt_274 rfl 0 rfl rfl ?_
                                  refine j_aload_n hJ (q := 276) dX9_lookAt_275 rfl 0 rfl rfl ?_
                                  refine j_get hJ (q := 279) jf_X9_226 dX9_lookAt_276 0 rfl rfl rfl ?_
                                  refine j_iconst hJ (q := 280) dX9_lookAt_279 rfl ki_2 ?_
                                  refine jn_icmp_ne hJ (q := 283) (tgt := 295) dX9_lookAt_280 (by decide) rfl (by omega) (by omega) (fun c153 => ?_) (fun c153 => ?_)
                                  · skip
                                    exfalso; omega
                                  · skip
                                    refine j_aload_n hJ (q := 284) dX9_lookAt_283 rfl 0 rfl rfl ?_
                                    refine j_get hJ (q := 287) jf_X9_223 dX9_lookAt_284 0 rfl rfl rfl ?_
                                    refine j_iconst hJ (q := 288) dX9_lookAt_287 rfl ki_2 ?_
                                    refine jn_icmp_le hJ (q := 291) (tgt := 295) dX9_lookAt_288 (by decide) rfl (by omega) (by omega) (fun c154 => ?_) (fun c154 => ?_)
                                    · skip
                                      refine j_aload_n hJ (q := 296) dX9_lookAt_295 rfl 0 rfl rfl ?_
                                      refine j_get hJ (q := 299) jf_X9_226 dX9_lookAt_296 0 rfl rfl rfl ?_
                                      have hT2 : tkK By bl a = 2 := by unfold tkK; rw [if_neg (by omega), hT1, hk]; split <;> omega
                                      refine j_put hJ (q := 302) (ws' := [mO h q ab be bl a l 2 v, (q 7, ia Z 150 (ni By))]) jp_X9_226 dX9_lookAt_299 0 rfl rfl rfl (Nat.le_of_ble_eq_true rfl) rfl rfl ?_
                                      exact hE.2.2 _ _ _ _ _ rfl dX9_lookAt_302 (Nat.le_refl _) (Nat.le_refl _) (⟨rfl, by rw [hsk, hT1, hT2, hT3]⟩)
                                    · skip
                                      refine j_iconst hJ (q := 292) dX9_lookAt_291 rfl ki_4 ?_
                                      refine j_goto hJ (q := 299) dX9_lookAt_292 (by decide) ?_
                                      have hT2 : tkK By bl a = 4 := by unfold tkK; rw [if_neg (by omega), hT1, hk]; split <;> omega
                                      refine j_put hJ (q := 302) (ws' := [mO h q ab be bl a l 4 v, (q 7, ia Z 150 (ni By))]) jp_X9_226 dX9_lookAt_299 0 rfl rfl rfl (Nat.le_of_ble_eq_true rfl) rfl rfl ?_
                                      exact hE.2.2 _ _ _ _ _ rfl dX9_lookAt_302 (Nat.le_refl _) (Nat.le_refl _) (⟨rfl, by rw [hsk, hT1, hT2, hT3]⟩)
                                · skip
                                  refine j_aload_n hJ (q := 234) dX9_lookAt_233 rfl 0 rfl rfl ?_
                                  refine j_get hJ (q := 237) jf_X9_226 dX9_lookAt_234 0 rfl rfl rfl ?_
                                  refine j_iconst hJ (q := 238) dX9_lookAt_237 rfl ki_2 ?_
                                  refine jn_icmp_ne hJ (q := 241) (tgt := 274) dX9_lookAt_238 (by decide) rfl (by omega) (by omega) (fun c155 => ?_) (fun c155 => ?_)
                                  · skip
                                    exfalso; omega
                                  · skip
                                    have hdg := tkL_dig (By := By) (L := bl) (a := a) (j := k) hk (by rw [tkL_of (by omega) rfl]; omega)
                                    refine j_aload_n hJ (q := 242) dX9_lookAt_241 rfl 0 rfl rfl ?_
                                    refine j_bipush hJ (q := 244) dX9_lookAt_242 rfl kb_10 ?_
                                    refine j_aload_n hJ (q := 245) dX9_lookAt_244 rfl 0 rfl rfl ?_
                                    refine j_get hJ (q := 248) jf_X9_229 dX9_lookAt_245 0 rfl rfl rfl ?_
                                    refine j_imul hJ (q := 249) dX9_lookAt_248 rfl (pk_mul _ _) ?_
                                    refine j_aload_n hJ (q := 250) dX9_lookAt_249 rfl 0 rfl rfl ?_
                                    refine j_get hJ (q := 253) jf_X9_36 dX9_lookAt_250 0 rfl rfl rfl ?_
                                    refine j_aload_n hJ (q := 254) dX9_lookAt_253 rfl 0 rfl rfl ?_
                                    refine j_get hJ (q := 257) jf_X9_220 dX9_lookAt_254 0 rfl rfl rfl ?_
                                    refine j_iload hJ (q := 259) dX9_lookAt_257 4 rfl rfl ?_
                                    refine j_iadd hJ (q := 260) dX9_lookAt_259 rfl (nI_add _ _) ?_
                                    refine j_ialdN hJ (q := 261) (z := nI (By (a + k))) dX9_lookAt_260 1 rfl (by omega) (by decide) rfl rfl ?_
                                    have b156 := hby (a + k)
                                    refine j_iadd hJ (q := 262) dX9_lookAt_261 rfl (nI_add _ _) ?_
                                    refine j_bipush hJ (q := 264) dX9_lookAt_262 rfl kb_48 ?_
                                    refine j_isub hJ (q := 265) dX9_lookAt_264 rfl (pk_sub (by omega)) ?_
                                    refine j_put hJ (q := 268) (ws' := [mO h q ab be bl a l 2 (10 * v + (By (a + k)) - 48), (q 7, ia Z 150 (ni By))]) jp_X9_229 dX9_lookAt_265 0 rfl rfl rfl (Nat.le_of_ble_eq_true rfl) rfl rfl ?_
                                    refine j_iinc hJ (q := 271) (lvs' := [(4, .int (nI (k + 1))), (0, .ref h), (1, .int (nI f)), (2, .int (nI (By a))), (3, .int (nI g))]) dX9_lookAt_268 4 rfl (by rw [show Int32.ofInt 1 = nI 1 from by decide +kernel]; exact nI_add _ _) (by decide) rfl rfl ?_
                                    refine j_goto hJ (q := 218) dX9_lookAt_271 (by decide) ?_
                                    refine j_locals hJ [1, 2, 3, 4, 0] rfl ?_
                                    exact ih_218 (10 * v + (By (a + k)) - 48) (k + 1) (by omega) (by omega) (by simp only [vN]; rw [hv]) (by omega)
                          refine j_locals hJ [1, 2, 3, 4, 0] rfl ?_
                          exact L_218 ((2 - 0) + 1) 0 0 (Nat.lt_succ_self _) (by omega) rfl (by omega)
                        · skip
                          refine j_aload_n hJ (q := 157) dX9_lookAt_156 rfl 0 rfl rfl ?_
                          refine j_get hJ (q := 160) jf_X9_36 dX9_lookAt_157 0 rfl rfl rfl ?_
                          refine j_aload_n hJ (q := 161) dX9_lookAt_160 rfl 0 rfl rfl ?_
                          refine j_get hJ (q := 164) jf_X9_220 dX9_lookAt_161 0 rfl rfl rfl ?_
                          refine j_aload_n hJ (q := 165) dX9_lookAt_164 rfl 0 rfl rfl ?_
                          refine j_get hJ (q := 168) jf_X9_223 dX9_lookAt_165 0 rfl rfl rfl ?_
                          refine j_iadd hJ (q := 169) dX9_lookAt_168 rfl (nI_add _ _) ?_
                          refine j_ialdN hJ (q := 170) (z := nI (By (a + l))) dX9_lookAt_169 1 rfl (by omega) (by decide) rfl rfl ?_
                          have b157 := hby (a + l)
                          refine j_istore hJ (q := 172) (lvs' := [(4, .int (nI (By (a + l)))), (0, .ref h), (1, .int (nI f)), (2, .int (nI (By a))), (3, .int (nI g))]) dX9_lookAt_170 (by decide) rfl rfl ?_
                          refine j_aload_n hJ (q := 173) dX9_lookAt_172 rfl 1 rfl rfl ?_
                          refine j_get hJ (q := 176) jf_X9_226 dX9_lookAt_173 0 rfl rfl rfl ?_
                          refine j_iconst hJ (q := 177) dX9_lookAt_176 rfl ki_1 ?_
                          refine jn_icmp_ne hJ (q := 180) (tgt := 188) dX9_lookAt_177 (by decide) rfl (by omega) (by omega) (fun c158 => ?_) (fun c158 => ?_)
                          · skip
                            refine j_iload hJ (q := 190) dX9_lookAt_188 0 rfl rfl ?_
                            refine j_sR hJ (q := 193) (rest := []) (As := [.int (nI (By (a + l)))]) jl_X9_235 (c_X9_isFigure Z (By (a + l)) (by omega)) dX9_lookAt_190 rfl (by decide) (Nat.le_of_ble_eq_true rfl) [] rfl rfl (fun rv hp => ?_)
                            obtain rfl := hp
                            show J 193 [(4, .int (nI (By (a + l)))), (0, .ref h), (1, .int (nI f)), (2, .int (nI (By a))), (3, .int (nI g))] [.int (bI (decide (48 ≤ (By (a + l)) ∧ (By (a + l)) ≤ 57)))] [mO h q ab be bl a l 2 0, (q 7, ia Z 150 (ni By))] 0 0
                            refine j_casep (fun c159 => ?_) (fun c159 => ?_)
                            · skip
                              refine j_istore_n hJ (q := 194) (lvs' := [(3, .int (nI 1)), (4, .int (nI (By (a + l)))), (0, .ref h), (1, .int (nI f)), (2, .int (nI (By a)))]) dX9_lookAt_193 rfl (by decide) rfl rfl ?_
                              refine j_aload_n hJ (q := 195) dX9_lookAt_194 rfl 2 rfl rfl ?_
                              refine j_dup hJ (q := 196) dX9_lookAt_195 rfl rfl ?_
                              refine j_get hJ (q := 199) jf_X9_223 dX9_lookAt_196 0 rfl rfl rfl ?_
                              refine j_iload_n hJ (q := 200) dX9_lookAt_199 rfl 0 rfl rfl ?_
                              refine jn_if_eq hJ (q := 203) (tgt := 207) dX9_lookAt_200 (by decide) rfl (by omega) (fun c160 => ?_) (fun c160 => ?_)
                              · skip
                                exfalso; omega
                              · skip
                                refine j_iconst hJ (q := 204) dX9_lookAt_203 rfl ki_1 ?_
                                refine j_goto hJ (q := 208) dX9_lookAt_204 (by decide) ?_
                                refine j_iadd hJ (q := 209) dX9_lookAt_208 rfl (nI_add _ _) ?_
                                refine j_put hJ (q := 212) (ws' := [mO h q ab be bl a (l + 1) 2 0, (q 7, ia Z 150 (ni By))]) jp_X9_223 dX9_lookAt_209 0 rfl rfl rfl (Nat.le_of_ble_eq_true rfl) rfl rfl ?_
                                refine j_goto hJ (q := 136) dX9_lookAt_212 (by decide) ?_
                                refine j_locals hJ [2, 3, 4, 0] rfl ?_
                                exact ih_136 (l + 1) 1 (by omega) (by omega) (by omega) (fun z => by omega) (fun z => by first | (exfalso; omega) | (have := hg1 (by omega); rw [rn_stop (by rw [hk]; unfold cls; (repeat' split) <;> omega)] at this; omega)) (fun z => by first | (exfalso; omega) | (have := hg1 (by omega); rw [rn_go (p := a + l) ⟨by omega, by rw [hk]; unfold cls; (repeat' split) <;> omega⟩] at this; rw [show a + (l + 1) = a + l + 1 by omega]; omega))
                            · skip
                              refine j_istore_n hJ (q := 194) (lvs' := [(3, .int (nI 0)), (4, .int (nI (By (a + l)))), (0, .ref h), (1, .int (nI f)), (2, .int (nI (By a)))]) dX9_lookAt_193 rfl (by decide) rfl rfl ?_
                              refine j_aload_n hJ (q := 195) dX9_lookAt_194 rfl 2 rfl rfl ?_
                              refine j_dup hJ (q := 196) dX9_lookAt_195 rfl rfl ?_
                              refine j_get hJ (q := 199) jf_X9_223 dX9_lookAt_196 0 rfl rfl rfl ?_
                              refine j_iload_n hJ (q := 200) dX9_lookAt_199 rfl 0 rfl rfl ?_
                              refine jn_if_eq hJ (q := 203) (tgt := 207) dX9_lookAt_200 (by decide) rfl (by omega) (fun c161 => ?_) (fun c161 => ?_)
                              · skip
                                refine j_iconst hJ (q := 208) dX9_lookAt_207 rfl ki_0 ?_
                                refine j_iadd hJ (q := 209) dX9_lookAt_208 rfl (nI_add _ _) ?_
                                refine j_put hJ (q := 212) (ws' := [mO h q ab be bl a (l + 0) 2 0, (q 7, ia Z 150 (ni By))]) jp_X9_223 dX9_lookAt_209 0 rfl rfl rfl (Nat.le_of_ble_eq_true rfl) rfl rfl ?_
                                refine j_goto hJ (q := 136) dX9_lookAt_212 (by decide) ?_
                                refine j_locals hJ [2, 3, 4, 0] rfl ?_
                                exact ih_136 (l + 0) 0 (by omega) (by omega) (by omega) (fun z => by omega) (fun z => by first | (exfalso; omega) | (have := hg1 (by omega); rw [rn_stop (by rw [hk]; unfold cls; (repeat' split) <;> omega)] at this; omega)) (fun z => by first | (exfalso; omega) | (have := hg1 (by omega); rw [rn_go (p := a + l) ⟨by omega, by rw [hk]; unfold cls; (repeat' split) <;> omega⟩] at this; rw [show a + (l + 1) = a + l + 1 by omega]; omega))
                              · skip
                                exfalso; omega
                          · skip
                            exfalso; omega
                  refine j_locals hJ [2, 3, 1, 0] rfl ?_
                  exact L_136 (((bl - (a + 1)) + 1) + 1) 1 1 (Nat.lt_succ_self _) (by omega) (by omega) (fun z => by omega) (fun z => by first | (exfalso; omega) | (rw [hk]; rfl)) (fun z => by first | (exfalso; omega) | (rw [hk]; rfl))
            · skip
              have hk : cls (By a) = 1 := by unfold cls; (repeat' split) <;> omega
              refine j_iconst hJ (q := 89) dX9_lookAt_88 rfl ki_1 ?_
              refine j_goto hJ (q := 114) dX9_lookAt_89 (by decide) ?_
              refine j_put hJ (q := 117) (ws' := [mO h q ab be bl a 0 1 0, (q 7, ia Z 150 (ni By))]) jp_X9_226 dX9_lookAt_114 0 rfl rfl rfl (Nat.le_of_ble_eq_true rfl) rfl rfl ?_
              refine j_aload_n hJ (q := 118) dX9_lookAt_117 rfl 1 rfl rfl ?_
              refine j_iconst hJ (q := 119) dX9_lookAt_118 rfl ki_1 ?_
              refine j_put hJ (q := 122) (ws' := [mO h q ab be bl a 1 1 0, (q 7, ia Z 150 (ni By))]) jp_X9_223 dX9_lookAt_119 0 rfl rfl rfl (Nat.le_of_ble_eq_true rfl) rfl rfl ?_
              refine j_aload_n hJ (q := 123) dX9_lookAt_122 rfl 1 rfl rfl ?_
              refine j_get hJ (q := 126) jf_X9_226 dX9_lookAt_123 0 rfl rfl rfl ?_
              refine j_iconst hJ (q := 127) dX9_lookAt_126 rfl ki_3 ?_
              refine jn_icmp_ge hJ (q := 130) (tgt := 134) dX9_lookAt_127 (by decide) rfl (by omega) (by omega) (fun c162 => ?_) (fun c162 => ?_)
              · skip
                exfalso; omega
              · skip
                refine j_iconst hJ (q := 131) dX9_lookAt_130 rfl ki_1 ?_
                refine j_goto hJ (q := 135) dX9_lookAt_131 (by decide) ?_
                refine j_istore_n hJ (q := 136) (lvs' := [(3, .int (nI 1)), (2, .int (nI (By a))), (0, .ref h), (1, .int (nI f))]) dX9_lookAt_135 rfl (by decide) rfl rfl ?_
                have L_136 : ∀ (fu_136 : Nat) (l : Nat) (g : Nat), (bl - (a + l)) + g < fu_136 → (g ≤ 1) → (1 ≤ l ∧ a + l ≤ bl) → (g = 1 → cls (By a) ≤ 2) → (g = 0 → l = tl0 (cls (By a)) By bl a) → (g = 1 → l + rn (cls (By a)) By bl (a + l) = tl0 (cls (By a)) By bl a) → J 136 [(0, .ref h), (1, .int (nI f)), (2, .int (nI (By a))), (3, .int (nI g))] [] [mO h q ab be bl a l 1 0, (q 7, ia Z 150 (ni By))] 0 0 := by
                  intro fu_136
                  induction fu_136 with
                  | zero => intro l g hm; exact absurd hm (Nat.not_lt_zero _)
                  | succ fu_136 ih_136 =>
                    intro l g hm_136 hg hl hgk hg0 hg1
                    refine j_iload_n hJ (q := 137) dX9_lookAt_136 rfl 3 rfl rfl ?_
                    refine jn_if_eq hJ (q := 140) (tgt := 215) dX9_lookAt_137 (by decide) rfl (by omega) (fun c163 => ?_) (fun c163 => ?_)
                    · skip
                      have hlf : l = tl0 (cls (By a)) By bl a := (Nat.eq_zero_or_pos g).elim (fun h0 => hg0 h0) (fun h0 => by have := hg1 (by omega); rw [rn_stop (by omega)] at this; omega)
                      refine j_iconst hJ (q := 216) dX9_lookAt_215 rfl ki_0 ?_
                      refine j_istore hJ (q := 218) (lvs' := [(4, .int (nI 0)), (0, .ref h), (1, .int (nI f)), (2, .int (nI (By a))), (3, .int (nI g))]) dX9_lookAt_216 (by decide) rfl rfl ?_
                      have L_218 : ∀ (fu_218 : Nat) (v : Nat) (k : Nat), 2 - k < fu_218 → (k ≤ 2 ∧ k ≤ l) → (v = vN By a k) → (cls (By a) = 2 ∨ k = 0) → J 218 [(0, .ref h), (1, .int (nI f)), (2, .int (nI (By a))), (3, .int (nI g)), (4, .int (nI k))] [] [mO h q ab be bl a l 1 v, (q 7, ia Z 150 (ni By))] 0 0 := by
                        intro fu_218
                        induction fu_218 with
                        | zero => intro v k hm; exact absurd hm (Nat.not_lt_zero _)
                        | succ fu_218 ih_218 =>
                          intro v k hm_218 hk2 hv hk0
                          have hvl := vN_le (a := a) hby k hk2.1
                          refine j_iload hJ (q := 220) dX9_lookAt_218 4 rfl rfl ?_
                          refine j_aload_n hJ (q := 221) dX9_lookAt_220 rfl 0 rfl rfl ?_
                          refine j_get hJ (q := 224) jf_X9_223 dX9_lookAt_221 0 rfl rfl rfl ?_
                          refine jn_icmp_ge hJ (q := 227) (tgt := 274) dX9_lookAt_224 (by decide) rfl (by omega) (by omega) (fun c164 => ?_) (fun c164 => ?_)
                          · skip
                            have hT1 : tkL By bl a = l := by rw [tkL_of (by omega) rfl]; exact hlf.symm
                            have hT3 : tkV By bl a = v := by unfold tkV; rw [if_neg (by omega), hT1, hk]; rw [if_neg (by decide), hv, show k = 0 by omega]; rfl
                            refine j_aload_n hJ (q := 275) dX9_lookAt_274 rfl 0 rfl rfl ?_
                            refine j_aload_n hJ (q := 276) dX9_lookAt_275 rfl 0 rfl rfl ?_
                            refine j_get hJ (q := 279) jf_X9_226 dX9_lookAt_276 0 rfl rfl rfl ?_
                            refine j_iconst hJ (q := 280) dX9_lookAt_279 rfl ki_2 ?_
                            refine jn_icmp_ne hJ (q := 283) (tgt := 295) dX9_lookAt_280 (by decide) rfl (by omega) (by omega) (fun c165 => ?_) (fun c165 => ?_)
                            · skip
                              refine j_aload_n hJ (q := 296) dX9_lookAt_295 rfl 0 rfl rfl ?_
                              refine j_get hJ (q := 299) jf_X9_226 dX9_lookAt_296 0 rfl rfl rfl ?_
                              have hT2 : tkK By bl a = 1 := by unfold tkK; rw [if_neg (by omega), hT1, hk]; split <;> omega
                              refine j_put hJ (q := 302) (ws' := [mO h q ab be bl a l 1 v, (q 7, ia Z 150 (ni By))]) jp_X9_226 dX9_lookAt_299 0 rfl rfl rfl (Nat.le_of_ble_eq_true rfl) rfl rfl ?_
                              exact hE.2.2 _ _ _ _ _ rfl dX9_lookAt_302 (Nat.le_refl _) (Nat.le_refl _) (⟨rfl, by rw [hsk, hT1, hT2, hT3]⟩)
                            · skip
                              exfalso; omega
                          · skip
                            refine j_iload hJ (q := 229) dX9_lookAt_227 4 rfl rfl ?_
                            refine j_iconst hJ (q := 230) dX9_lookAt_229 rfl ki_2 ?_
                            refine jn_icmp_ge hJ (q := 233) (tgt := 274) dX9_lookAt_230 (by decide) rfl (by omega) (by omega) (fun c166 => ?_) (fun c166 => ?_)
                            · skip
                              have hT1 : tkL By bl a = l := by rw [tkL_of (by omega) rfl]; exact hlf.symm
                              have hT3 : tkV By bl a = v := by unfold tkV; rw [if_neg (by omega), hT1, hk]; rw [if_neg (by decide), hv, show k = 0 by omega]; rfl
                              refine j_aload_n hJ (q := 275) dX9_lookAt_274 rfl 0 rfl rfl ?_
                              refine j_aload_n hJ (q := 276) dX9_lookAt_275 rfl 0 rfl rfl ?_
                              refine j_get hJ (q := 279) jf_X9_226 dX9_lookAt_276 0 rfl rfl rfl ?_
                              refine j_iconst hJ (q := 280) dX9_lookAt_279 rfl ki_2 ?_
                              refine jn_icmp_ne hJ (q := 283) (tgt := 295) dX9_lookAt_280 (by decide) rfl (by omega) (by omega) (fun c167 => ?_) (fun c167 => ?_)
                              · skip
                                refine j_aload_n hJ (q := 296) dX9_lookAt_295 rfl 0 rfl rfl ?_
                                refine j_get hJ (q := 299) jf_X9_226 dX9_lookAt_296 0 rfl rfl rfl ?_
                                have hT2 : tkK By bl a = 1 := by unfold tkK; rw [if_neg (by omega), hT1, hk]; split <;> omega
                                refine j_put hJ (q := 302) (ws' := [mO h q ab be bl a l 1 v, (q 7, ia Z 150 (ni By))]) jp_X9_226 dX9_lookAt_299 0 rfl rfl rfl (Nat.le_of_ble_eq_true rfl) rfl rfl ?_
                                exact hE.2.2 _ _ _ _ _ rfl dX9_lookAt_302 (Nat.le_refl _) (Nat.le_refl _) (⟨rfl, by rw [hsk, hT1, hT2, hT3]⟩)
                              · skip
                                exfalso; omega
                            · skip
                              refine j_aload_n hJ (q := 234) dX9_lookAt_233 rfl 0 rfl rfl ?_
                              refine j_get hJ (q := 237) jf_X9_226 dX9_lookAt_234 0 rfl rfl rfl ?_
                              refine j_iconst hJ (q := 238) dX9_lookAt_237 rfl ki_2 ?_
                              refine jn_icmp_ne hJ (q := 241) (tgt := 274) dX9_lookAt_238 (by decide) rfl (by omega) (by omega) (fun c168 => ?_) (fun c168 => ?_)
                              · skip
                                have hT1 : tkL By bl a = l := by rw [tkL_of (by omega) rfl]; exact hlf.symm
                                have hT3 : tkV By bl a = v := by unfold tkV; rw [if_neg (by omega), hT1, hk]; rw [if_neg (by decide), hv, show k = 0 by omega]; rfl
                                refine j_aload_n hJ (q := 275) dX9_lookAt_274 rfl 0 rfl rfl ?_
                                refine j_aload_n hJ (q := 276) dX9_lookAt_275 rfl 0 rfl rfl ?_
                                refine j_get hJ (q := 279) jf_X9_226 dX9_lookAt_276 0 rfl rfl rfl ?_
                                refine j_iconst hJ (q := 280) dX9_lookAt_279 rfl ki_2 ?_
                                refine jn_icmp_ne hJ (q := 283) (tgt := 295) dX9_lookAt_280 (by decide) rfl (by omega) (by omega) (fun c169 => ?_) (fun c169 => ?_)
                                · skip
                                  refine j_aload_n hJ (q := 296) dX9_lookAt_295 rfl 0 rfl rfl ?_
                                  refine j_get hJ (q := 299) jf_X9_226 dX9_lookAt_296 0 rfl rfl rfl ?_
                                  have hT2 : tkK By bl a = 1 := by unfold tkK; rw [if_neg (by omega), hT1, hk]; split <;> omega
                                  refine j_put hJ (q := 302) (ws' := [mO h q ab be bl a l 1 v, (q 7, ia Z 150 (ni By))]) jp_X9_226 dX9_lookAt_299 0 rfl rfl rfl (Nat.le_of_ble_eq_true rfl) rfl rfl ?_
                                  exact hE.2.2 _ _ _ _ _ rfl dX9_lookAt_302 (Nat.le_refl _) (Nat.le_refl _) (⟨rfl, by rw [hsk, hT1, hT2, hT3]⟩)
                                · skip
                                  exfalso; omega
                              · skip
                                exfalso; omega
                      refine j_locals hJ [1, 2, 3, 4, 0] rfl ?_
                      exact L_218 ((2 - 0) + 1) 0 0 (Nat.lt_succ_self _) (by omega) rfl (by omega)
                    · skip
                      have hgk2 := hgk (by omega)
                      refine j_aload_n hJ (q := 141) dX9_lookAt_140 rfl 0 rfl rfl ?_
                      refine j_get hJ (q := 144) jf_X9_220 dX9_lookAt_141 0 rfl rfl rfl ?_
                      refine j_aload_n hJ (q := 145) dX9_lookAt_144 rfl 0 rfl rfl ?_
                      refine j_get hJ (q := 148) jf_X9_223 dX9_lookAt_145 0 rfl rfl rfl ?_
                      refine j_iadd hJ (q := 149) dX9_lookAt_148 rfl (nI_add _ _) ?_
                      refine j_aload_n hJ (q := 150) dX9_lookAt_149 rfl 0 rfl rfl ?_
                      refine j_get hJ (q := 153) jf_X9_208 dX9_lookAt_150 0 rfl rfl rfl ?_
                      refine jn_icmp_ge hJ (q := 156) (tgt := 215) dX9_lookAt_153 (by decide) rfl (by omega) (by omega) (fun c170 => ?_) (fun c170 => ?_)
                      · skip
                        have hlf : l = tl0 (cls (By a)) By bl a := (Nat.eq_zero_or_pos g).elim (fun h0 => hg0 h0) (fun h0 => by have := hg1 (by omega); rw [rn_stop (by omega)] at this; omega)
                        refine j_iconst hJ (q := 216) dX9_lookAt_215 rfl ki_0 ?_
                        refine j_istore hJ (q := 218) (lvs' := [(4, .int (nI 0)), (0, .ref h), (1, .int (nI f)), (2, .int (nI (By a))), (3, .int (nI g))]) dX9_lookAt_216 (by decide) rfl rfl ?_
                        have L_218 : ∀ (fu_218 : Nat) (v : Nat) (k : Nat), 2 - k < fu_218 → (k ≤ 2 ∧ k ≤ l) → (v = vN By a k) → (cls (By a) = 2 ∨ k = 0) → J 218 [(0, .ref h), (1, .int (nI f)), (2, .int (nI (By a))), (3, .int (nI g)), (4, .int (nI k))] [] [mO h q ab be bl a l 1 v, (q 7, ia Z 150 (ni By))] 0 0 := by
                          intro fu_218
                          induction fu_218 with
                          | zero => intro v k hm; exact absurd hm (Nat.not_lt_zero _)
                          | succ fu_218 ih_218 =>
                            intro v k hm_218 hk2 hv hk0
                            have hvl := vN_le (a := a) hby k hk2.1
                            refine j_iload hJ (q := 220) dX9_lookAt_218 4 rfl rfl ?_
                            refine j_aload_n hJ (q := 221) dX9_lookAt_220 rfl 0 rfl rfl ?_
                            refine j_get hJ (q := 224) jf_X9_223 dX9_lookAt_221 0 rfl rfl rfl ?_
                            refine jn_icmp_ge hJ (q := 227) (tgt := 274) dX9_lookAt_224 (by decide) rfl (by omega) (by omega) (fun c171 => ?_) (fun c171 => ?_)
                            · skip
                              have hT1 : tkL By bl a = l := by rw [tkL_of (by omega) rfl]; exact hlf.symm
                              have hT3 : tkV By bl a = v := by unfold tkV; rw [if_neg (by omega), hT1, hk]; rw [if_neg (by decide), hv, show k = 0 by omega]; rfl
                              refine j_aload_n hJ (q := 275) dX9_lookAt_274 rfl 0 rfl rfl ?_
                              refine j_aload_n hJ (q := 276) dX9_lookAt_275 rfl 0 rfl rfl ?_
                              refine j_get hJ (q := 279) jf_X9_226 dX9_lookAt_276 0 rfl rfl rfl ?_
                              refine j_iconst hJ (q := 280) dX9_lookAt_279 rfl ki_2 ?_
                              refine jn_icmp_ne hJ (q := 283) (tgt := 295) dX9_lookAt_280 (by decide) rfl (by omega) (by omega) (fun c172 => ?_) (fun c172 => ?_)
                              · skip
                                refine j_aload_n hJ (q := 296) dX9_lookAt_295 rfl 0 rfl rfl ?_
                                refine j_get hJ (q := 299) jf_X9_226 dX9_lookAt_296 0 rfl rfl rfl ?_
                                have hT2 : tkK By bl a = 1 := by unfold tkK; rw [if_neg (by omega), hT1, hk]; split <;> omega
                                refine j_put hJ (q := 302) (ws' := [mO h q ab be bl a l 1 v, (q 7, ia Z 150 (ni By))]) jp_X9_226 dX9_lookAt_299 0 rfl rfl rfl (Nat.le_of_ble_eq_true rfl) rfl rfl ?_
                                exact hE.2.2 _ _ _ _ _ rfl dX9_lookAt_302 (Nat.le_refl _) (Nat.le_refl _) (⟨rfl, by rw [hsk, hT1, hT2, hT3]⟩)
                              · skip
                                exfalso; omega
                            · skip
                              refine j_iload hJ (q := 229) dX9_lookAt_227 4 rfl rfl ?_
                              refine j_iconst hJ (q := 230) dX9_lookAt_229 rfl ki_2 ?_
                              refine jn_icmp_ge hJ (q := 233) (tgt := 274) dX9_lookAt_230 (by decide) rfl (by omega) (by omega) (fun c173 => ?_) (fun c173 => ?_)
                              · skip
                                have hT1 : tkL By bl a = l := by rw [tkL_of (by omega) rfl]; exact hlf.symm
                                have hT3 : tkV By bl a = v := by unfold tkV; rw [if_neg (by omega), hT1, hk]; rw [if_neg (by decide), hv, show k = 0 by omega]; rfl
                                refine j_aload_n hJ (q := 275) dX9_lookAt_274 rfl 0 rfl rfl ?_
                                refine j_aload_n hJ (q := 276) dX9_lookAt_275 rfl 0 rfl rfl ?_
                                refine j_get hJ (q := 279) jf_X9_226 dX9_lookAt_276 0 rfl rfl rfl ?_
                                refine j_iconst hJ (q := 280) dX9_lookAt_279 rfl ki_2 ?_
                                refine jn_icmp_ne hJ (q := 283) (tgt := 295) dX9_lookAt_280 (by decide) rfl (by omega) (by omega) (fun c174 => ?_) (fun c174 => ?_)
                                · skip
                                  refine j_aload_n hJ (q := 296) dX9_lookAt_295 rfl 0 rfl rfl ?_
                                  refine j_get hJ (q := 299) jf_X9_226 dX9_lookAt_296 0 rfl rfl rfl ?_
                                  have hT2 : tkK By bl a = 1 := by unfold tkK; rw [if_neg (by omega), hT1, hk]; split <;> omega
                                  refine j_put hJ (q := 302) (ws' := [mO h q ab be bl a l 1 v, (q 7, ia Z 150 (ni By))]) jp_X9_226 dX9_lookAt_299 0 rfl rfl rfl (Nat.le_of_ble_eq_true rfl) rfl rfl ?_
                                  exact hE.2.2 _ _ _ _ _ rfl dX9_lookAt_302 (Nat.le_refl _) (Nat.le_refl _) (⟨rfl, by rw [hsk, hT1, hT2, hT3]⟩)
                                · skip
                                  exfalso; omega
                              · skip
                                refine j_aload_n hJ (q := 234) dX9_lookAt_233 rfl 0 rfl rfl ?_
                                refine j_get hJ (q := 237) jf_X9_226 dX9_lookAt_234 0 rfl rfl rfl ?_
                                refine j_iconst hJ (q := 238) dX9_lookAt_237 rfl ki_2 ?_
                                refine jn_icmp_ne hJ (q := 241) (tgt := 274) dX9_lookAt_238 (by decide) rfl (by omega) (by omega) (fun c175 => ?_) (fun c175 => ?_)
                                · skip
                                  have hT1 : tkL By bl a = l := by rw [tkL_of (by omega) rfl]; exact hlf.symm
                                  have hT3 : tkV By bl a = v := by unfold tkV; rw [if_neg (by omega), hT1, hk]; rw [if_neg (by decide), hv, show k = 0 by omega]; rfl
                                  refine j_aload_n hJ (q := 275) dX9_lookAt_274 rfl 0 rfl rfl ?_
                                  refine j_aload_n hJ (q := 276) dX9_lookAt_275 rfl 0 rfl rfl ?_
                                  refine j_get hJ (q := 279) jf_X9_226 dX9_lookAt_276 0 rfl rfl rfl ?_
                                  refine j_iconst hJ (q := 280) dX9_lookAt_279 rfl ki_2 ?_
                                  refine jn_icmp_ne hJ (q := 283) (tgt := 295) dX9_lookAt_280 (by decide) rfl (by omega) (by omega) (fun c176 => ?_) (fun c176 => ?_)
                                  · skip
                                    refine j_aload_n hJ (q := 296) dX9_lookAt_295 rfl 0 rfl rfl ?_
                                    refine j_get hJ (q := 299) jf_X9_226 dX9_lookAt_296 0 rfl rfl rfl ?_
                                    have hT2 : tkK By bl a = 1 := by unfold tkK; rw [if_neg (by omega), hT1, hk]; split <;> omega
                                    refine j_put hJ (q := 302) (ws' := [mO h q ab be bl a l 1 v, (q 7, ia Z 150 (ni By))]) jp_X9_226 dX9_lookAt_299 0 rfl rfl rfl (Nat.le_of_ble_eq_true rfl) rfl rfl ?_
                                    exact hE.2.2 _ _ _ _ _ rfl dX9_lookAt_302 (Nat.le_refl _) (Nat.le_refl _) (⟨rfl, by rw [hsk, hT1, hT2, hT3]⟩)
                                  · skip
                                    exfalso; omega
                                · skip
                                  exfalso; omega
                        refine j_locals hJ [1, 2, 3, 4, 0] rfl ?_
                        exact L_218 ((2 - 0) + 1) 0 0 (Nat.lt_succ_self _) (by omega) rfl (by omega)
                      · skip
                        refine j_aload_n hJ (q := 157) dX9_lookAt_156 rfl 0 rfl rfl ?_
                        refine j_get hJ (q := 160) jf_X9_36 dX9_lookAt_157 0 rfl rfl rfl ?_
                        refine j_aload_n hJ (q := 161) dX9_lookAt_160 rfl 0 rfl rfl ?_
                        refine j_get hJ (q := 164) jf_X9_220 dX9_lookAt_161 0 rfl rfl rfl ?_
                        refine j_aload_n hJ (q := 165) dX9_lookAt_164 rfl 0 rfl rfl ?_
                        refine j_get hJ (q := 168) jf_X9_223 dX9_lookAt_165 0 rfl rfl rfl ?_
                        refine j_iadd hJ (q := 169) dX9_lookAt_168 rfl (nI_add _ _) ?_
                        refine j_ialdN hJ (q := 170) (z := nI (By (a + l))) dX9_lookAt_169 1 rfl (by omega) (by decide) rfl rfl ?_
                        have b177 := hby (a + l)
                        refine j_istore hJ (q := 172) (lvs' := [(4, .int (nI (By (a + l)))), (0, .ref h), (1, .int (nI f)), (2, .int (nI (By a))), (3, .int (nI g))]) dX9_lookAt_170 (by decide) rfl rfl ?_
                        refine j_aload_n hJ (q := 173) dX9_lookAt_172 rfl 1 rfl rfl ?_
                        refine j_get hJ (q := 176) jf_X9_226 dX9_lookAt_173 0 rfl rfl rfl ?_
                        refine j_iconst hJ (q := 177) dX9_lookAt_176 rfl ki_1 ?_
                        refine jn_icmp_ne hJ (q := 180) (tgt := 188) dX9_lookAt_177 (by decide) rfl (by omega) (by omega) (fun c178 => ?_) (fun c178 => ?_)
                        · skip
                          exfalso; omega
                        · skip
                          refine j_iload hJ (q := 182) dX9_lookAt_180 0 rfl rfl ?_
                          refine j_sR hJ (q := 185) (rest := []) (As := [.int (nI (By (a + l)))]) jl_X9_232 (c_X9_isSmall Z (By (a + l)) (by omega)) dX9_lookAt_182 rfl (by decide) (Nat.le_of_ble_eq_true rfl) [] rfl rfl (fun rv hp => ?_)
                          obtain rfl := hp
                          show J 185 [(4, .int (nI (By (a + l)))), (0, .ref h), (1, .int (nI f)), (2, .int (nI (By a))), (3, .int (nI g))] [.int (bI (decide (97 ≤ (By (a + l)) ∧ (By (a + l)) ≤ 122)))] [mO h q ab be bl a l 1 0, (q 7, ia Z 150 (ni By))] 0 0
                          refine j_casep (fun c179 => ?_) (fun c179 => ?_)
                          · skip
                            refine j_goto hJ (q := 193) dX9_lookAt_185 (by decide) ?_
                            refine j_istore_n hJ (q := 194) (lvs' := [(3, .int (nI 1)), (4, .int (nI (By (a + l)))), (0, .ref h), (1, .int (nI f)), (2, .int (nI (By a)))]) dX9_lookAt_193 rfl (by decide) rfl rfl ?_
                            refine j_aload_n hJ (q := 195) dX9_lookAt_194 rfl 2 rfl rfl ?_
                            refine j_dup hJ (q := 196) dX9_lookAt_195 rfl rfl ?_
                            refine j_get hJ (q := 199) jf_X9_223 dX9_lookAt_196 0 rfl rfl rfl ?_
                            refine j_iload_n hJ (q := 200) dX9_lookAt_199 rfl 0 rfl rfl ?_
                            refine jn_if_eq hJ (q := 203) (tgt := 207) dX9_lookAt_200 (by decide) rfl (by omega) (fun c180 => ?_) (fun c180 => ?_)
                            · skip
                              exfalso; omega
                            · skip
                              refine j_iconst hJ (q := 204) dX9_lookAt_203 rfl ki_1 ?_
                              refine j_goto hJ (q := 208) dX9_lookAt_204 (by decide) ?_
                              refine j_iadd hJ (q := 209) dX9_lookAt_208 rfl (nI_add _ _) ?_
                              refine j_put hJ (q := 212) (ws' := [mO h q ab be bl a (l + 1) 1 0, (q 7, ia Z 150 (ni By))]) jp_X9_223 dX9_lookAt_209 0 rfl rfl rfl (Nat.le_of_ble_eq_true rfl) rfl rfl ?_
                              refine j_goto hJ (q := 136) dX9_lookAt_212 (by decide) ?_
                              refine j_locals hJ [2, 3, 4, 0] rfl ?_
                              exact ih_136 (l + 1) 1 (by omega) (by omega) (by omega) (fun z => by omega) (fun z => by first | (exfalso; omega) | (have := hg1 (by omega); rw [rn_stop (by rw [hk]; unfold cls; (repeat' split) <;> omega)] at this; omega)) (fun z => by first | (exfalso; omega) | (have := hg1 (by omega); rw [rn_go (p := a + l) ⟨by omega, by rw [hk]; unfold cls; (repeat' split) <;> omega⟩] at this; rw [show a + (l + 1) = a + l + 1 by omega]; omega))
                          · skip
                            refine j_goto hJ (q := 193) dX9_lookAt_185 (by decide) ?_
                            refine j_istore_n hJ (q := 194) (lvs' := [(3, .int (nI 0)), (4, .int (nI (By (a + l)))), (0, .ref h), (1, .int (nI f)), (2, .int (nI (By a)))]) dX9_lookAt_193 rfl (by decide) rfl rfl ?_
                            refine j_aload_n hJ (q := 195) dX9_lookAt_194 rfl 2 rfl rfl ?_
                            refine j_dup hJ (q := 196) dX9_lookAt_195 rfl rfl ?_
                            refine j_get hJ (q := 199) jf_X9_223 dX9_lookAt_196 0 rfl rfl rfl ?_
                            refine j_iload_n hJ (q := 200) dX9_lookAt_199 rfl 0 rfl rfl ?_
                            refine jn_if_eq hJ (q := 203) (tgt := 207) dX9_lookAt_200 (by decide) rfl (by omega) (fun c181 => ?_) (fun c181 => ?_)
                            · skip
                              refine j_iconst hJ (q := 208) dX9_lookAt_207 rfl ki_0 ?_
                              refine j_iadd hJ (q := 209) dX9_lookAt_208 rfl (nI_add _ _) ?_
                              refine j_put hJ (q := 212) (ws' := [mO h q ab be bl a (l + 0) 1 0, (q 7, ia Z 150 (ni By))]) jp_X9_223 dX9_lookAt_209 0 rfl rfl rfl (Nat.le_of_ble_eq_true rfl) rfl rfl ?_
                              refine j_goto hJ (q := 136) dX9_lookAt_212 (by decide) ?_
                              refine j_locals hJ [2, 3, 4, 0] rfl ?_
                              exact ih_136 (l + 0) 0 (by omega) (by omega) (by omega) (fun z => by omega) (fun z => by first | (exfalso; omega) | (have := hg1 (by omega); rw [rn_stop (by rw [hk]; unfold cls; (repeat' split) <;> omega)] at this; omega)) (fun z => by first | (exfalso; omega) | (have := hg1 (by omega); rw [rn_go (p := a + l) ⟨by omega, by rw [hk]; unfold cls; (repeat' split) <;> omega⟩] at this; rw [show a + (l + 1) = a + l + 1 by omega]; omega))
                            · skip
                              exfalso; omega
                refine j_locals hJ [2, 3, 1, 0] rfl ?_
                exact L_136 (((bl - (a + 1)) + 1) + 1) 1 1 (Nat.lt_succ_self _) (by omega) (by omega) (fun z => by omega) (fun z => by first | (exfalso; omega) | (rw [hk]; rfl)) (fun z => by first | (exfalso; omega) | (rw [hk]; rfl))
          · skip
            have hz := tkL_0 (By := By) (L := bl) (a := a) (by omega)
            exact hE.2.2 _ _ _ _ _ rfl dX9_lookAt_69 (Nat.le_refl _) (Nat.le_refl _) (⟨rfl, by rw [hsk, hz.1, hz.2.1, hz.2.2]⟩)
        · skip
          refine j_aload_n hJ (q := 31) dX9_lookAt_30 rfl 0 rfl rfl ?_
          refine j_dup hJ (q := 32) dX9_lookAt_31 rfl rfl ?_
          refine j_get hJ (q := 35) jf_X9_220 dX9_lookAt_32 0 rfl rfl rfl ?_
          refine j_iconst hJ (q := 36) dX9_lookAt_35 rfl ki_1 ?_
          refine j_iadd hJ (q := 37) dX9_lookAt_36 rfl (nI_add _ _) ?_
          refine j_put hJ (q := 40) (ws' := [mO h q ab be bl (a + 1) tl tk va, (q 7, ia Z 150 (ni By))]) jp_X9_220 dX9_lookAt_37 0 rfl rfl rfl (Nat.le_of_ble_eq_true rfl) rfl rfl ?_
          refine j_goto hJ (q := 5) dX9_lookAt_40 (by decide) ?_
          exact ih_5 (a + 1) (by omega) (by omega) (by rw [← hs]; exact (sk_go (by omega)).symm)
  exact L_5 ((bl - f) + 1) f (Nat.lt_succ_self _) (by omega) rfl
