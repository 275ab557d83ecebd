set_option maxHeartbeats 4000000 in
set_option maxRecDepth 100000 in
theorem c_X9_goBehind (Z : jZ) (h : Nat) (q : Nat → Nat) (ab : Int) (be : Int) (bl : Nat) (p : Nat) (By : Nat → Nat) (hp : p ≤ bl) (hbl : bl ≤ 150) (hby : ∀ j, By j < 128) : CT Z yX9_goBehind cX9_goBehind 1 (none) 4 0 0 [.ref h] [mO h q ab be bl p (tkL By bl p) (tkK By bl p) (tkV By bl p), (q 7, ia Z 150 (ni By))] (fun rr ww => rr = none ∧ ww = [mO h q ab be bl (nx By bl p) (tkL By bl (nx By bl p)) (tkK By bl (nx By bl p)) (tkV By bl (nx By bl p)), (q 7, ia Z 150 (ni By))]) := by
  refine CT.of RX9 false rfl (fun h => by cases h) (by decide +kernel) (Nat.le_of_ble_eq_true rfl) ?_
  intro J hJ hE
  show J 0 [(0, .ref h)] [] [mO h q ab be bl p (tkL By bl p) (tkK By bl p) (tkV By bl p), (q 7, ia Z 150 (ni By))] 0 0
  have hti := tkL_in (By := By) hp
  refine j_aload_n hJ (q := 1) dX9_goBehind_0 rfl 0 rfl rfl ?_
  refine j_aload_n hJ (q := 2) dX9_goBehind_1 rfl 0 rfl rfl ?_
  refine j_get hJ (q := 5) jf_X9_220 dX9_goBehind_2 0 rfl rfl rfl ?_
  refine j_aload_n hJ (q := 6) dX9_goBehind_5 rfl 0 rfl rfl ?_
  refine j_get hJ (q := 9) jf_X9_223 dX9_goBehind_6 0 rfl rfl rfl ?_
  refine j_iadd hJ (q := 10) dX9_goBehind_9 rfl (nI_add _ _) ?_
  refine j_vW hJ (q := 13) (rest := []) (As := [.int (nI (p + (tkL By bl p)))]) (wr := []) jl_X9_238 (c_X9_lookAt Z h q ab be bl p (tkL By bl p) (tkK By bl p) (tkV By bl p) By (p + (tkL By bl p)) (by omega) (by omega) hby) 0 rfl rfl dX9_goBehind_10 rfl (by decide) (Nat.le_of_ble_eq_true rfl) [0, 1] [] rfl rfl rfl rfl (by decide) rfl (fun rv wv hp => ?_)
  obtain ⟨rfl, rfl⟩ := hp
  show J 13 [(0, .ref h)] [] [mO h q ab be bl (sk By bl (p + (tkL By bl p))) (tkL By bl (sk By bl (p + (tkL By bl p)))) (tkK By bl (sk By bl (p + (tkL By bl p)))) (tkV By bl (sk By bl (p + (tkL By bl p)))), (q 7, ia Z 150 (ni By))] 0 0
  exact hE.2.2 _ _ _ _ _ rfl dX9_goBehind_13 (Nat.le_refl _) (Nat.le_refl _) (⟨rfl, rfl⟩)

set_option maxHeartbeats 4000000 in
set_option maxRecDepth 100000 in
theorem c_X9_spells (Z : jZ) (h : Nat) (q : Nat → Nat) (ab : Int) (be : Int) (bl : Nat) (p : Nat) (By : Nat → Nat) (size : Nat) (l0 : Nat) (l1 : Nat) (l2 : Nat) (l3 : Nat) (l4 : Nat) (l5 : Nat) (hp : p ≤ bl) (hbl : bl ≤ 150) (hby : ∀ j, By j < 128) (hs : size ≤ 6) (hl : l0 < 1000 ∧ l1 < 1000 ∧ l2 < 1000 ∧ l3 < 1000 ∧ l4 < 1000 ∧ l5 < 1000) : CR Z yX9_spells cX9_spells 10 ((some FieldType.boolean)) 1 [.ref h, .int (nI size), .int (nI l0), .int (nI l1), .int (nI l2), .int (nI l3), .int (nI l4), .int (nI l5)] [mO h q ab be bl p (tkL By bl p) (tkK By bl p) (tkV By bl p), (q 7, ia Z 150 (ni By))] (fun rr => rr = some (.int (bI (isW By bl p size (ltr l0 l1 l2 l3 l4 l5))))) := by
  refine CR.of RX9 rfl (by decide +kernel) (Nat.le_of_ble_eq_true rfl) ?_
  intro J hJ hE
  show J 0 [(0, .ref h), (1, .int (nI size)), (2, .int (nI l0)), (3, .int (nI l1)), (4, .int (nI l2)), (5, .int (nI l3)), (6, .int (nI l4)), (7, .int (nI l5))] [] [mO h q ab be bl p (tkL By bl p) (tkK By bl p) (tkV By bl p), (q 7, ia Z 150 (ni By))] 0 0
  have hti := tkL_in (By := By) hp
  have htk := tkK_le (By := By) (L := bl) (p := p)
  refine j_aload_n hJ (q := 1) dX9_spells_0 rfl 0 rfl rfl ?_
  refine j_get hJ (q := 4) jf_X9_226 dX9_spells_1 0 rfl rfl rfl ?_
  refine j_iconst hJ (q := 5) dX9_spells_4 rfl ki_1 ?_
  refine jn_icmp_ne hJ (q := 8) (tgt := 20) dX9_spells_5 (by decide) rfl (by omega) (by omega) (fun c1 => ?_) (fun c1 => ?_)
  · skip
    refine j_iconst hJ (q := 21) dX9_spells_20 rfl ki_0 ?_
    refine j_istore hJ (q := 23) (lvs' := [(8, .int (nI 0)), (0, .ref h), (1, .int (nI size)), (2, .int (nI l0)), (3, .int (nI l1)), (4, .int (nI l2)), (5, .int (nI l3)), (6, .int (nI l4)), (7, .int (nI l5))]) dX9_spells_21 (by decide) rfl rfl ?_
    refine j_iconst hJ (q := 24) dX9_spells_23 rfl ki_0 ?_
    refine j_istore hJ (q := 26) (lvs' := [(9, .int (nI 0)), (8, .int (nI 0)), (0, .ref h), (1, .int (nI size)), (2, .int (nI l0)), (3, .int (nI l1)), (4, .int (nI l2)), (5, .int (nI l3)), (6, .int (nI l4)), (7, .int (nI l5))]) dX9_spells_24 (by decide) rfl rfl ?_
    have L_26 : ∀ (fu_26 : Nat) (t : Bool) (k : Nat), size - k < fu_26 → (k ≤ size) → (t = (decide (tkK By bl p = 1 ∧ tkL By bl p = size) && spN By p (ltr l0 l1 l2 l3 l4 l5) k)) → J 26 [(0, .ref h), (1, .int (nI size)), (2, .int (nI l0)), (3, .int (nI l1)), (4, .int (nI l2)), (5, .int (nI l3)), (6, .int (nI l4)), (7, .int (nI l5)), (8, .int (bI t)), (9, .int (nI k))] [] [mO h q ab be bl p (tkL By bl p) (tkK By bl p) (tkV By bl p), (q 7, ia Z 150 (ni By))] 0 0 := by
      intro fu_26
      induction fu_26 with
      | zero => intro t k hm; exact absurd hm (Nat.not_lt_zero _)
      | succ fu_26 ih_26 =>
        intro t k hm_26 hk htt
        refine j_iload hJ (q := 28) dX9_spells_26 9 rfl rfl ?_
        refine j_iload_n hJ (q := 29) dX9_spells_28 rfl 1 rfl rfl ?_
        refine jn_icmp_ge hJ (q := 32) (tgt := 119) dX9_spells_29 (by decide) rfl (by omega) (by omega) (fun c2 => ?_) (fun c2 => ?_)
        · skip
          refine j_iload hJ (q := 121) dX9_spells_119 8 rfl rfl ?_
          have hfin : t = isW By bl p size (ltr l0 l1 l2 l3 l4 l5) := (Nat.lt_or_ge k size).elim (fun hlt => (by have hf : t = false := (by first | assumption | (exfalso; omega)); rw [hf] at htt ⊢; exact (isW_f htt hk).symm)) (fun hge => (by rw [htt, show k = size by omega]; rfl))
          exact hE.1 _ _ _ _ _ _ _ rfl (bI_nar _) dX9_spells_121 (Nat.le_refl _) (Nat.le_refl _) (congrArg (fun z => some (Value.int (bI z))) (show t = isW By bl p size (ltr l0 l1 l2 l3 l4 l5) by exact hfin))
        · skip
          refine j_iload hJ (q := 34) dX9_spells_32 8 rfl rfl ?_
          refine jb_if_eq hJ (q := 37) (tgt := 119) dX9_spells_34 (by decide) rfl (fun c3 => ?_) (fun c3 => ?_)
          · skip
            refine j_iload hJ (q := 121) dX9_spells_119 8 rfl rfl ?_
            have hfin : t = isW By bl p size (ltr l0 l1 l2 l3 l4 l5) := (Nat.lt_or_ge k size).elim (fun hlt => (by have hf : t = false := (by first | assumption | (exfalso; omega)); rw [hf] at htt ⊢; exact (isW_f htt hk).symm)) (fun hge => (by rw [htt, show k = size by omega]; rfl))
            exact hE.1 _ _ _ _ _ _ _ rfl (bI_nar _) dX9_spells_121 (Nat.le_refl _) (Nat.le_refl _) (congrArg (fun z => some (Value.int (bI z))) (show t = isW By bl p size (ltr l0 l1 l2 l3 l4 l5) by exact hfin))
          · skip
            have hd := spl_t htt c3
            refine j_aload_n hJ (q := 38) dX9_spells_37 rfl 0 rfl rfl ?_
            refine j_get hJ (q := 41) jf_X9_36 dX9_spells_38 0 rfl rfl rfl ?_
            refine j_aload_n hJ (q := 42) dX9_spells_41 rfl 0 rfl rfl ?_
            refine j_get hJ (q := 45) jf_X9_220 dX9_spells_42 0 rfl rfl rfl ?_
            refine j_iload hJ (q := 47) dX9_spells_45 9 rfl rfl ?_
            refine j_iadd hJ (q := 48) dX9_spells_47 rfl (nI_add _ _) ?_
            refine j_ialdN hJ (q := 49) (z := nI (By (p + k))) dX9_spells_48 1 rfl (by omega) (by decide) rfl rfl ?_
            have b4 := hby (p + k)
            refine j_iload hJ (q := 51) dX9_spells_49 9 rfl rfl ?_
            refine jn_if_ne hJ (q := 54) (tgt := 58) dX9_spells_51 (by decide) rfl (by omega) (fun c5 => ?_) (fun c5 => ?_)
            · skip
              refine j_iload hJ (q := 60) dX9_spells_58 9 rfl rfl ?_
              refine j_iconst hJ (q := 61) dX9_spells_60 rfl ki_1 ?_
              refine jn_icmp_ne hJ (q := 64) (tgt := 68) dX9_spells_61 (by decide) rfl (by omega) (by omega) (fun c6 => ?_) (fun c6 => ?_)
              · skip
                refine j_iload hJ (q := 70) dX9_spells_68 9 rfl rfl ?_
                refine j_iconst hJ (q := 71) dX9_spells_70 rfl ki_2 ?_
                refine jn_icmp_ne hJ (q := 74) (tgt := 79) dX9_spells_71 (by decide) rfl (by omega) (by omega) (fun c7 => ?_) (fun c7 => ?_)
                · skip
                  refine j_iload hJ (q := 81) dX9_spells_79 9 rfl rfl ?_
                  refine j_iconst hJ (q := 82) dX9_spells_81 rfl ki_3 ?_
                  refine jn_icmp_ne hJ (q := 85) (tgt := 90) dX9_spells_82 (by decide) rfl (by omega) (by omega) (fun c8 => ?_) (fun c8 => ?_)
                  · skip
                    refine j_iload hJ (q := 92) dX9_spells_90 9 rfl rfl ?_
                    refine j_iconst hJ (q := 93) dX9_spells_92 rfl ki_4 ?_
                    refine jn_icmp_ne hJ (q := 96) (tgt := 101) dX9_spells_93 (by decide) rfl (by omega) (by omega) (fun c9 => ?_) (fun c9 => ?_)
                    · skip
                      refine j_iload hJ (q := 103) dX9_spells_101 7 rfl rfl ?_
                      refine jn_icmp_ne hJ (q := 106) (tgt := 110) dX9_spells_103 (by decide) rfl (by omega) (by omega) (fun c10 => ?_) (fun c10 => ?_)
                      · skip
                        refine j_iconst hJ (q := 111) dX9_spells_110 rfl ki_0 ?_
                        refine j_istore hJ (q := 113) (lvs' := [(8, .int (nI 0)), (0, .ref h), (1, .int (nI size)), (2, .int (nI l0)), (3, .int (nI l1)), (4, .int (nI l2)), (5, .int (nI l3)), (6, .int (nI l4)), (7, .int (nI l5)), (9, .int (nI k))]) dX9_spells_111 (by decide) rfl rfl ?_
                        refine j_iinc hJ (q := 116) (lvs' := [(9, .int (nI (k + 1))), (8, .int (nI 0)), (0, .ref h), (1, .int (nI size)), (2, .int (nI l0)), (3, .int (nI l1)), (4, .int (nI l2)), (5, .int (nI l3)), (6, .int (nI l4)), (7, .int (nI l5))]) dX9_spells_113 9 rfl (by rw [show Int32.ofInt 1 = nI 1 from by decide +kernel]; exact nI_add _ _) (by decide) rfl rfl ?_
                        refine j_goto hJ (q := 26) dX9_spells_116 (by decide) ?_
                        refine j_locals hJ [2, 3, 4, 5, 6, 7, 8, 9, 1, 0] rfl ?_
                        exact ih_26 false (k + 1) (by omega) (by omega) (spl_0 (by simp only [ltr]; (repeat' split) <;> omega))
                      · skip
                        refine j_iconst hJ (q := 107) dX9_spells_106 rfl ki_1 ?_
                        refine j_goto hJ (q := 111) dX9_spells_107 (by decide) ?_
                        refine j_istore hJ (q := 113) (lvs' := [(8, .int (nI 1)), (0, .ref h), (1, .int (nI size)), (2, .int (nI l0)), (3, .int (nI l1)), (4, .int (nI l2)), (5, .int (nI l3)), (6, .int (nI l4)), (7, .int (nI l5)), (9, .int (nI k))]) dX9_spells_111 (by decide) rfl rfl ?_
                        refine j_iinc hJ (q := 116) (lvs' := [(9, .int (nI (k + 1))), (8, .int (nI 1)), (0, .ref h), (1, .int (nI size)), (2, .int (nI l0)), (3, .int (nI l1)), (4, .int (nI l2)), (5, .int (nI l3)), (6, .int (nI l4)), (7, .int (nI l5))]) dX9_spells_113 9 rfl (by rw [show Int32.ofInt 1 = nI 1 from by decide +kernel]; exact nI_add _ _) (by decide) rfl rfl ?_
                        refine j_goto hJ (q := 26) dX9_spells_116 (by decide) ?_
                        refine j_locals hJ [2, 3, 4, 5, 6, 7, 8, 9, 1, 0] rfl ?_
                        exact ih_26 true (k + 1) (by omega) (by omega) (spl_1 hd (by simp only [ltr]; (repeat' split) <;> omega))
                    · skip
                      refine j_iload hJ (q := 98) dX9_spells_96 6 rfl rfl ?_
                      refine j_goto hJ (q := 103) dX9_spells_98 (by decide) ?_
                      refine jn_icmp_ne hJ (q := 106) (tgt := 110) dX9_spells_103 (by decide) rfl (by omega) (by omega) (fun c11 => ?_) (fun c11 => ?_)
                      · skip
                        refine j_iconst hJ (q := 111) dX9_spells_110 rfl ki_0 ?_
                        refine j_istore hJ (q := 113) (lvs' := [(8, .int (nI 0)), (0, .ref h), (1, .int (nI size)), (2, .int (nI l0)), (3, .int (nI l1)), (4, .int (nI l2)), (5, .int (nI l3)), (6, .int (nI l4)), (7, .int (nI l5)), (9, .int (nI k))]) dX9_spells_111 (by decide) rfl rfl ?_
                        refine j_iinc hJ (q := 116) (lvs' := [(9, .int (nI (k + 1))), (8, .int (nI 0)), (0, .ref h), (1, .int (nI size)), (2, .int (nI l0)), (3, .int (nI l1)), (4, .int (nI l2)), (5, .int (nI l3)), (6, .int (nI l4)), (7, .int (nI l5))]) dX9_spells_113 9 rfl (by rw [show Int32.ofInt 1 = nI 1 from by decide +kernel]; exact nI_add _ _) (by decide) rfl rfl ?_
                        refine j_goto hJ (q := 26) dX9_spells_116 (by decide) ?_
                        refine j_locals hJ [2, 3, 4, 5, 6, 7, 8, 9, 1, 0] rfl ?_
                        exact ih_26 false (k + 1) (by omega) (by omega) (spl_0 (by simp only [ltr]; (repeat' split) <;> omega))
                      · skip
                        refine j_iconst hJ (q := 107) dX9_spells_106 rfl ki_1 ?_
                        refine j_goto hJ (q := 111) dX9_spells_107 (by decide) ?_
                        refine j_istore hJ (q := 113) (lvs' := [(8, .int (nI 1)), (0, .ref h), (1, .int (nI size)), (2, .int (nI l0)), (3, .int (nI l1)), (4, .int (nI l2)), (5, .int (nI l3)), (6, .int (nI l4)), (7, .int (nI l5)), (9, .int (nI k))]) dX9_spells_111 (by decide) rfl rfl ?_
                        refine j_iinc hJ (q := 116) (lvs' := [(9, .int (nI (k + 1))), (8, .int (nI 1)), (0, .ref h), (1, .int (nI size)), (2, .int (nI l0)), (3, .int (nI l1)), (4, .int (nI l2)), (5, .int (nI l3)), (6, .int (nI l4)), (7, .int (nI l5))]) dX9_spells_113 9 rfl (by rw [show Int32.ofInt 1 = nI 1 from by decide +kernel]; exact nI_add _ _) (by decide) rfl rfl ?_
                        refine j_goto hJ (q := 26) dX9_spells_116 (by decide) ?_
                        refine j_locals hJ [2, 3, 4, 5, 6, 7, 8, 9, 1, 0] rfl ?_
                        exact ih_26 true (k + 1) (by omega) (by omega) (spl_1 hd (by simp only [ltr]; (repeat' split) <;> omega))
                  · skip
                    refine j_iload hJ (q := 87) dX9_spells_85 5 rfl rfl ?_
                    refine j_goto hJ (q := 103) dX9_spells_87 (by decide) ?_
                    refine jn_icmp_ne hJ (q := 106) (tgt := 110) dX9_spells_103 (by decide) rfl (by omega) (by omega) (fun c12 => ?_) (fun c12 => ?_)
                    · skip
                      refine j_iconst hJ (q := 111) dX9_spells_110 rfl ki_0 ?_
                      refine j_istore hJ (q := 113) (lvs' := [(8, .int (nI 0)), (0, .ref h), (1, .int (nI size)), (2, .int (nI l0)), (3, .int (nI l1)), (4, .int (nI l2)), (5, .int (nI l3)), (6, .int (nI l4)), (7, .int (nI l5)), (9, .int (nI k))]) dX9_spells_111 (by decide) rfl rfl ?_
                      refine j_iinc hJ (q := 116) (lvs' := [(9, .int (nI (k + 1))), (8, .int (nI 0)), (0, .ref h), (1, .int (nI size)), (2, .int (nI l0)), (3, .int (nI l1)), (4, .int (nI l2)), (5, .int (nI l3)), (6, .int (nI l4)), (7, .int (nI l5))]) dX9_spells_113 9 rfl (by rw [show Int32.ofInt 1 = nI 1 from by decide +kernel]; exact nI_add _ _) (by decide) rfl rfl ?_
                      refine j_goto hJ (q := 26) dX9_spells_116 (by decide) ?_
                      refine j_locals hJ [2, 3, 4, 5, 6, 7, 8, 9, 1, 0] rfl ?_
                      exact ih_26 false (k + 1) (by omega) (by omega) (spl_0 (by simp only [ltr]; (repeat' split) <;> omega))
                    · skip
                      refine j_iconst hJ (q := 107) dX9_spells_106 rfl ki_1 ?_
                      refine j_goto hJ (q := 111) dX9_spells_107 (by decide) ?_
                      refine j_istore hJ (q := 113) (lvs' := [(8, .int (nI 1)), (0, .ref h), (1, .int (nI size)), (2, .int (nI l0)), (3, .int (nI l1)), (4, .int (nI l2)), (5, .int (nI l3)), (6, .int (nI l4)), (7, .int (nI l5)), (9, .int (nI k))]) dX9_spells_111 (by decide) rfl rfl ?_
                      refine j_iinc hJ (q := 116) (lvs' := [(9, .int (nI (k + 1))), (8, .int (nI 1)), (0, .ref h), (1, .int (nI size)), (2, .int (nI l0)), (3, .int (nI l1)), (4, .int (nI l2)), (5, .int (nI l3)), (6, .int (nI l4)), (7, .int (nI l5))]) dX9_spells_113 9 rfl (by rw [show Int32.ofInt 1 = nI 1 from by decide +kernel]; exact nI_add _ _) (by decide) rfl rfl ?_
                      refine j_goto hJ (q := 26) dX9_spells_116 (by decide) ?_
                      refine j_locals hJ [2, 3, 4, 5, 6, 7, 8, 9, 1, 0] rfl ?_
                      exact ih_26 true (k + 1) (by omega) (by omega) (spl_1 hd (by simp only [ltr]; (repeat' split) <;> omega))
                · skip
                  refine j_iload hJ (q := 76) dX9_spells_74 4 rfl rfl ?_
                  refine j_goto hJ (q := 103) dX9_spells_76 (by decide) ?_
                  refine jn_icmp_ne hJ (q := 106) (tgt := 110) dX9_spells_103 (by decide) rfl (by omega) (by omega) (fun c13 => ?_) (fun c13 => ?_)
                  · skip
                    refine j_iconst hJ (q := 111) dX9_spells_110 rfl ki_0 ?_
                    refine j_istore hJ (q := 113) (lvs' := [(8, .int (nI 0)), (0, .ref h), (1, .int (nI size)), (2, .int (nI l0)), (3, .int (nI l1)), (4, .int (nI l2)), (5, .int (nI l3)), (6, .int (nI l4)), (7, .int (nI l5)), (9, .int (nI k))]) dX9_spells_111 (by decide) rfl rfl ?_
                    refine j_iinc hJ (q := 116) (lvs' := [(9, .int (nI (k + 1))), (8, .int (nI 0)), (0, .ref h), (1, .int (nI size)), (2, .int (nI l0)), (3, .int (nI l1)), (4, .int (nI l2)), (5, .int (nI l3)), (6, .int (nI l4)), (7, .int (nI l5))]) dX9_spells_113 9 rfl (by rw [show Int32.ofInt 1 = nI 1 from by decide +kernel]; exact nI_add _ _) (by decide) rfl rfl ?_
                    refine j_goto hJ (q := 26) dX9_spells_116 (by decide) ?_
                    refine j_locals hJ [2, 3, 4, 5, 6, 7, 8, 9, 1, 0] rfl ?_
                    exact ih_26 false (k + 1) (by omega) (by omega) (spl_0 (by simp only [ltr]; (repeat' split) <;> omega))
                  · skip
                    refine j_iconst hJ (q := 107) dX9_spells_106 rfl ki_1 ?_
                    refine j_goto hJ (q := 111) dX9_spells_107 (by decide) ?_
                    refine j_istore hJ (q := 113) (lvs' := [(8, .int (nI 1)), (0, .ref h), (1, .int (nI size)), (2, .int (nI l0)), (3, .int (nI l1)), (4, .int (nI l2)), (5, .int (nI l3)), (6, .int (nI l4)), (7, .int (nI l5)), (9, .int (nI k))]) dX9_spells_111 (by decide) rfl rfl ?_
                    refine j_iinc hJ (q := 116) (lvs' := [(9, .int (nI (k + 1))), (8, .int (nI 1)), (0, .ref h), (1, .int (nI size)), (2, .int (nI l0)), (3, .int (nI l1)), (4, .int (nI l2)), (5, .int (nI l3)), (6, .int (nI l4)), (7, .int (nI l5))]) dX9_spells_113 9 rfl (by rw [show Int32.ofInt 1 = nI 1 from by decide +kernel]; exact nI_add _ _) (by decide) rfl rfl ?_
                    refine j_goto hJ (q := 26) dX9_spells_116 (by decide) ?_
                    refine j_locals hJ [2, 3, 4, 5, 6, 7, 8, 9, 1, 0] rfl ?_
                    exact ih_26 true (k + 1) (by omega) (by omega) (spl_1 hd (by simp only [ltr]; (repeat' split) <;> omega))
              · skip
                refine j_iload_n hJ (q := 65) dX9_spells_64 rfl 3 rfl rfl ?_
                refine j_goto hJ (q := 103) dX9_spells_65 (by decide) ?_
                refine jn_icmp_ne hJ (q := 106) (tgt := 110) dX9_spells_103 (by decide) rfl (by omega) (by omega) (fun c14 => ?_) (fun c14 => ?_)
                · skip
                  refine j_iconst hJ (q := 111) dX9_spells_110 rfl ki_0 ?_
                  refine j_istore hJ (q := 113) (lvs' := [(8, .int (nI 0)), (0, .ref h), (1, .int (nI size)), (2, .int (nI l0)), (3, .int (nI l1)), (4, .int (nI l2)), (5, .int (nI l3)), (6, .int (nI l4)), (7, .int (nI l5)), (9, .int (nI k))]) dX9_spells_111 (by decide) rfl rfl ?_
                  refine j_iinc hJ (q := 116) (lvs' := [(9, .int (nI (k + 1))), (8, .int (nI 0)), (0, .ref h), (1, .int (nI size)), (2, .int (nI l0)), (3, .int (nI l1)), (4, .int (nI l2)), (5, .int (nI l3)), (6, .int (nI l4)), (7, .int (nI l5))]) dX9_spells_113 9 rfl (by rw [show Int32.ofInt 1 = nI 1 from by decide +kernel]; exact nI_add _ _) (by decide) rfl rfl ?_
                  refine j_goto hJ (q := 26) dX9_spells_116 (by decide) ?_
                  refine j_locals hJ [2, 3, 4, 5, 6, 7, 8, 9, 1, 0] rfl ?_
                  exact ih_26 false (k + 1) (by omega) (by omega) (spl_0 (by simp only [ltr]; (repeat' split) <;> omega))
                · skip
                  refine j_iconst hJ (q := 107) dX9_spells_106 rfl ki_1 ?_
                  refine j_goto hJ (q := 111) dX9_spells_107 (by decide) ?_
                  refine j_istore hJ (q := 113) (lvs' := [(8, .int (nI 1)), (0, .ref h), (1, .int (nI size)), (2, .int (nI l0)), (3, .int (nI l1)), (4, .int (nI l2)), (5, .int (nI l3)), (6, .int (nI l4)), (7, .int (nI l5)), (9, .int (nI k))]) dX9_spells_111 (by decide) rfl rfl ?_
                  refine j_iinc hJ (q := 116) (lvs' := [(9, .int (nI (k + 1))), (8, .int (nI 1)), (0, .ref h), (1, .int (nI size)), (2, .int (nI l0)), (3, .int (nI l1)), (4, .int (nI l2)), (5, .int (nI l3)), (6, .int (nI l4)), (7, .int (nI l5))]) dX9_spells_113 9 rfl (by rw [show Int32.ofInt 1 = nI 1 from by decide +kernel]; exact nI_add _ _) (by decide) rfl rfl ?_
                  refine j_goto hJ (q := 26) dX9_spells_116 (by decide) ?_
                  refine j_locals hJ [2, 3, 4, 5, 6, 7, 8, 9, 1, 0] rfl ?_
                  exact ih_26 true (k + 1) (by omega) (by omega) (spl_1 hd (by simp only [ltr]; (repeat' split) <;> omega))
            · skip
              refine j_iload_n hJ (q := 55) dX9_spells_54 rfl 2 rfl rfl ?_
              refine j_goto hJ (q := 103) dX9_spells_55 (by decide) ?_
              refine jn_icmp_ne hJ (q := 106) (tgt := 110) dX9_spells_103 (by decide) rfl (by omega) (by omega) (fun c15 => ?_) (fun c15 => ?_)
              · skip
                refine j_iconst hJ (q := 111) dX9_spells_110 rfl ki_0 ?_
                refine j_istore hJ (q := 113) (lvs' := [(8, .int (nI 0)), (0, .ref h), (1, .int (nI size)), (2, .int (nI l0)), (3, .int (nI l1)), (4, .int (nI l2)), (5, .int (nI l3)), (6, .int (nI l4)), (7, .int (nI l5)), (9, .int (nI k))]) dX9_spells_111 (by decide) rfl rfl ?_
                refine j_iinc hJ (q := 116) (lvs' := [(9, .int (nI (k + 1))), (8, .int (nI 0)), (0, .ref h), (1, .int (nI size)), (2, .int (nI l0)), (3, .int (nI l1)), (4, .int (nI l2)), (5, .int (nI l3)), (6, .int (nI l4)), (7, .int (nI l5))]) dX9_spells_113 9 rfl (by rw [show Int32.ofInt 1 = nI 1 from by decide +kernel]; exact nI_add _ _) (by decide) rfl rfl ?_
                refine j_goto hJ (q := 26) dX9_spells_116 (by decide) ?_
                refine j_locals hJ [2, 3, 4, 5, 6, 7, 8, 9, 1, 0] rfl ?_
                exact ih_26 false (k + 1) (by omega) (by omega) (spl_0 (by simp only [ltr]; (repeat' split) <;> omega))
              · skip
                refine j_iconst hJ (q := 107) dX9_spells_106 rfl ki_1 ?_
                refine j_goto hJ (q := 111) dX9_spells_107 (by decide) ?_
                refine j_istore hJ (q := 113) (lvs' := [(8, .int (nI 1)), (0, .ref h), (1, .int (nI size)), (2, .int (nI l0)), (3, .int (nI l1)), (4, .int (nI l2)), (5, .int (nI l3)), (6, .int (nI l4)), (7, .int (nI l5)), (9, .int (nI k))]) dX9_spells_111 (by decide) rfl rfl ?_
                refine j_iinc hJ (q := 116) (lvs' := [(9, .int (nI (k + 1))), (8, .int (nI 1)), (0, .ref h), (1, .int (nI size)), (2, .int (nI l0)), (3, .int (nI l1)), (4, .int (nI l2)), (5, .int (nI l3)), (6, .int (nI l4)), (7, .int (nI l5))]) dX9_spells_113 9 rfl (by rw [show Int32.ofInt 1 = nI 1 from by decide +kernel]; exact nI_add _ _) (by decide) rfl rfl ?_
                refine j_goto hJ (q := 26) dX9_spells_116 (by decide) ?_
                refine j_locals hJ [2, 3, 4, 5, 6, 7, 8, 9, 1, 0] rfl ?_
                exact ih_26 true (k + 1) (by omega) (by omega) (spl_1 hd (by simp only [ltr]; (repeat' split) <;> omega))
    refine j_locals hJ [2, 3, 4, 5, 6, 7, 8, 9, 1, 0] rfl ?_
    exact L_26 ((size - 0) + 1) false 0 (Nat.lt_succ_self _) (by omega) (by rw [decide_eq_false (show ¬ (tkK By bl p = 1 ∧ tkL By bl p = size) by omega)]; rfl)
  · skip
    refine j_aload_n hJ (q := 9) dX9_spells_8 rfl 0 rfl rfl ?_
    refine j_get hJ (q := 12) jf_X9_223 dX9_spells_9 0 rfl rfl rfl ?_
    refine j_iload_n hJ (q := 13) dX9_spells_12 rfl 1 rfl rfl ?_
    refine jn_icmp_ne hJ (q := 16) (tgt := 20) dX9_spells_13 (by decide) rfl (by omega) (by omega) (fun c16 => ?_) (fun c16 => ?_)
    · skip
      refine j_iconst hJ (q := 21) dX9_spells_20 rfl ki_0 ?_
      refine j_istore hJ (q := 23) (lvs' := [(8, .int (nI 0)), (0, .ref h), (1, .int (nI size)), (2, .int (nI l0)), (3, .int (nI l1)), (4, .int (nI l2)), (5, .int (nI l3)), (6, .int (nI l4)), (7, .int (nI l5))]) dX9_spells_21 (by decide) rfl rfl ?_
      refine j_iconst hJ (q := 24) dX9_spells_23 rfl ki_0 ?_
      refine j_istore hJ (q := 26) (lvs' := [(9, .int (nI 0)), (8, .int (nI 0)), (0, .ref h), (1, .int (nI size)), (2, .int (nI l0)), (3, .int (nI l1)), (4, .int (nI l2)), (5, .int (nI l3)), (6, .int (nI l4)), (7, .int (nI l5))]) dX9_spells_24 (by decide) rfl rfl ?_
      have L_26 : ∀ (fu_26 : Nat) (t : Bool) (k : Nat), size - k < fu_26 → (k ≤ size) → (t = (decide (tkK By bl p = 1 ∧ tkL By bl p = size) && spN By p (ltr l0 l1 l2 l3 l4 l5) k)) → J 26 [(0, .ref h), (1, .int (nI size)), (2, .int (nI l0)), (3, .int (nI l1)), (4, .int (nI l2)), (5, .int (nI l3)), (6, .int (nI l4)), (7, .int (nI l5)), (8, .int (bI t)), (9, .int (nI k))] [] [mO h q ab be bl p (tkL By bl p) (tkK By bl p) (tkV By bl p), (q 7, ia Z 150 (ni By))] 0 0 := by
        intro fu_26
        induction fu_26 with
        | zero => intro t k hm; exact absurd hm (Nat.not_lt_zero _)
        | succ fu_26 ih_26 =>
          intro t k hm_26 hk htt
          refine j_iload hJ (q := 28) dX9_spells_26 9 rfl rfl ?_
          refine j_iload_n hJ (q := 29) dX9_spells_28 rfl 1 rfl rfl ?_
          refine jn_icmp_ge hJ (q := 32) (tgt := 119) dX9_spells_29 (by decide) rfl (by omega) (by omega) (fun c17 => ?_) (fun c17 => ?_)
          · skip
            refine j_iload hJ (q := 121) dX9_spells_119 8 rfl rfl ?_
            have hfin : t = isW By bl p size (ltr l0 l1 l2 l3 l4 l5) := (Nat.lt_or_ge k size).elim (fun hlt => (by have hf : t = false := (by first | assumption | (exfalso; omega)); rw [hf] at htt ⊢; exact (isW_f htt hk).symm)) (fun hge => (by rw [htt, show k = size by omega]; rfl))
            exact hE.1 _ _ _ _ _ _ _ rfl (bI_nar _) dX9_spells_121 (Nat.le_refl _) (Nat.le_refl _) (congrArg (fun z => some (Value.int (bI z))) (show t = isW By bl p size (ltr l0 l1 l2 l3 l4 l5) by exact hfin))
          · skip
            refine j_iload hJ (q := 34) dX9_spells_32 8 rfl rfl ?_
            refine jb_if_eq hJ (q := 37) (tgt := 119) dX9_spells_34 (by decide) rfl (fun c18 => ?_) (fun c18 => ?_)
            · skip
              refine j_iload hJ (q := 121) dX9_spells_119 8 rfl rfl ?_
              have hfin : t = isW By bl p size (ltr l0 l1 l2 l3 l4 l5) := (Nat.lt_or_ge k size).elim (fun hlt => (by have hf : t = false := (by first | assumption | (exfalso; omega)); rw [hf] at htt ⊢; exact (isW_f htt hk).symm)) (fun hge => (by rw [htt, show k = size by omega]; rfl))
              exact hE.1 _ _ _ _ _ _ _ rfl (bI_nar _) dX9_spells_121 (Nat.le_refl _) (Nat.le_refl _) (congrArg (fun z => some (Value.int (bI z))) (show t = isW By bl p size (ltr l0 l1 l2 l3 l4 l5) by exact hfin))
            · skip
              have hd := spl_t htt c18
              refine j_aload_n hJ (q := 38) dX9_spells_37 rfl 0 rfl rfl ?_
              refine j_get hJ (q := 41) jf_X9_36 dX9_spells_38 0 rfl rfl rfl ?_
              refine j_aload_n hJ (q := 42) dX9_spells_41 rfl 0 rfl rfl ?_
              refine j_get hJ (q := 45) jf_X9_220 dX9_spells_42 0 rfl rfl rfl ?_
              refine j_iload hJ (q := 47) dX9_spells_45 9 rfl rfl ?_
              refine j_iadd hJ (q := 48) dX9_spells_47 rfl (nI_add _ _) ?_
              refine j_ialdN hJ (q := 49) (z := nI (By (p + k))) dX9_spells_48 1 rfl (by omega) (by decide) rfl rfl ?_
              have b19 := hby (p + k)
              refine j_iload hJ (q := 51) dX9_spells_49 9 rfl rfl ?_
              refine jn_if_ne hJ (q := 54) (tgt := 58) dX9_spells_51 (by decide) rfl (by omega) (fun c20 => ?_) (fun c20 => ?_)
              · skip
                refine j_iload hJ (q := 60) dX9_spells_58 9 rfl rfl ?_
                refine j_iconst hJ (q := 61) dX9_spells_60 rfl ki_1 ?_
                refine jn_icmp_ne hJ (q := 64) (tgt := 68) dX9_spells_61 (by decide) rfl (by omega) (by omega) (fun c21 => ?_) (fun c21 => ?_)
                · skip
                  refine j_iload hJ (q := 70) dX9_spells_68 9 rfl rfl ?_
                  refine j_iconst hJ (q := 71) dX9_spells_70 rfl ki_2 ?_
                  refine jn_icmp_ne hJ (q := 74) (tgt := 79) dX9_spells_71 (by decide) rfl (by omega) (by omega) (fun c22 => ?_) (fun c22 => ?_)
                  · skip
                    refine j_iload hJ (q := 81) dX9_spells_79 9 rfl rfl ?_
                    refine j_iconst hJ (q := 82) dX9_spells_81 rfl ki_3 ?_
                    refine jn_icmp_ne hJ (q := 85) (tgt := 90) dX9_spells_82 (by decide) rfl (by omega) (by omega) (fun c23 => ?_) (fun c23 => ?_)
                    · skip
                      refine j_iload hJ (q := 92) dX9_spells_90 9 rfl rfl ?_
                      refine j_iconst hJ (q := 93) dX9_spells_92 rfl ki_4 ?_
                      refine jn_icmp_ne hJ (q := 96) (tgt := 101) dX9_spells_93 (by decide) rfl (by omega) (by omega) (fun c24 => ?_) (fun c24 => ?_)
                      · skip
                        refine j_iload hJ (q := 103) dX9_spells_101 7 rfl rfl ?_
                        refine jn_icmp_ne hJ (q := 106) (tgt := 110) dX9_spells_103 (by decide) rfl (by omega) (by omega) (fun c25 => ?_) (fun c25 => ?_)
                        · skip
                          refine j_iconst hJ (q := 111) dX9_spells_110 rfl ki_0 ?_
                          refine j_istore hJ (q := 113) (lvs' := [(8, .int (nI 0)), (0, .ref h), (1, .int (nI size)), (2, .int (nI l0)), (3, .int (nI l1)), (4, .int (nI l2)), (5, .int (nI l3)), (6, .int (nI l4)), (7, .int (nI l5)), (9, .int (nI k))]) dX9_spells_111 (by decide) rfl rfl ?_
                          refine j_iinc hJ (q := 116) (lvs' := [(9, .int (nI (k + 1))), (8, .int (nI 0)), (0, .ref h), (1, .int (nI size)), (2, .int (nI l0)), (3, .int (nI l1)), (4, .int (nI l2)), (5, .int (nI l3)), (6, .int (nI l4)), (7, .int (nI l5))]) dX9_spells_113 9 rfl (by rw [show Int32.ofInt 1 = nI 1 from by decide +kernel]; exact nI_add _ _) (by decide) rfl rfl ?_
                          refine j_goto hJ (q := 26) dX9_spells_116 (by decide) ?_
                          refine j_locals hJ [2, 3, 4, 5, 6, 7, 8, 9, 1, 0] rfl ?_
                          exact ih_26 false (k + 1) (by omega) (by omega) (spl_0 (by simp only [ltr]; (repeat' split) <;> omega))
                        · skip
                          refine j_iconst hJ (q := 107) dX9_spells_106 rfl ki_1 ?_
                          refine j_goto hJ (q := 111) dX9_spells_107 (by decide) ?_
                          refine j_istore hJ (q := 113) (lvs' := [(8, .int (nI 1)), (0, .ref h), (1, .int (nI size)), (2, .int (nI l0)), (3, .int (nI l1)), (4, .int (nI l2)), (5, .int (nI l3)), (6, .int (nI l4)), (7, .int (nI l5)), (9, .int (nI k))]) dX9_spells_111 (by decide) rfl rfl ?_
                          refine j_iinc hJ (q := 116) (lvs' := [(9, .int (nI (k + 1))), (8, .int (nI 1)), (0, .ref h), (1, .int (nI size)), (2, .int (nI l0)), (3, .int (nI l1)), (4, .int (nI l2)), (5, .int (nI l3)), (6, .int (nI l4)), (7, .int (nI l5))]) dX9_spells_113 9 rfl (by rw [show Int32.ofInt 1 = nI 1 from by decide +kernel]; exact nI_add _ _) (by decide) rfl rfl ?_
                          refine j_goto hJ (q := 26) dX9_spells_116 (by decide) ?_
                          refine j_locals hJ [2, 3, 4, 5, 6, 7, 8, 9, 1, 0] rfl ?_
                          exact ih_26 true (k + 1) (by omega) (by omega) (spl_1 hd (by simp only [ltr]; (repeat' split) <;> omega))
                      · skip
                        refine j_iload hJ (q := 98) dX9_spells_96 6 rfl rfl ?_
                        refine j_goto hJ (q := 103) dX9_spells_98 (by decide) ?_
                        refine jn_icmp_ne hJ (q := 106) (tgt := 110) dX9_spells_103 (by decide) rfl (by omega) (by omega) (fun c26 => ?_) (fun c26 => ?_)
                        · skip
                          refine j_iconst hJ (q := 111) dX9_spells_110 rfl ki_0 ?_
                          refine j_istore hJ (q := 113) (lvs' := [(8, .int (nI 0)), (0, .ref h), (1, .int (nI size)), (2, .int (nI l0)), (3, .int (nI l1)), (4, .int (nI l2)), (5, .int (nI l3)), (6, .int (nI l4)), (7, .int (nI l5)), (9, .int (nI k))]) dX9_spells_111 (by decide) rfl rfl ?_
                          refine j_iinc hJ (q := 116) (lvs' := [(9, .int (nI (k + 1))), (8, .int (nI 0)), (0, .ref h), (1, .int (nI size)), (2, .int (nI l0)), (3, .int (nI l1)), (4, .int (nI l2)), (5, .int (nI l3)), (6, .int (nI l4)), (7, .int (nI l5))]) dX9_spells_113 9 rfl (by rw [show Int32.ofInt 1 = nI 1 from by decide +kernel]; exact nI_add _ _) (by decide) rfl rfl ?_
                          refine j_goto hJ (q := 26) dX9_spells_116 (by decide) ?_
                          refine j_locals hJ [2, 3, 4, 5, 6, 7, 8, 9, 1, 0] rfl ?_
                          exact ih_26 false (k + 1) (by omega) (by omega) (spl_0 (by simp only [ltr]; (repeat' split) <;> omega))
                        · skip
                          refine j_iconst hJ (q := 107) dX9_spells_106 rfl ki_1 ?_
                          refine j_goto hJ (q := 111) dX9_spells_107 (by decide) ?_
                          refine j_istore hJ (q := 113) (lvs' := [(8, .int (nI 1)), (0, .ref h), (1, .int (nI size)), (2, .int (nI l0)), (3, .int (nI l1)), (4, .int (nI l2)), (5, .int (nI l3)), (6, .int (nI l4)), (7, .int (nI l5)), (9, .int (nI k))]) dX9_spells_111 (by decide) rfl rfl ?_
                          refine j_iinc hJ (q := 116) (lvs' := [(9, .int (nI (k + 1))), (8, .int (nI 1)), (0, .ref h), (1, .int (nI size)), (2, .int (nI l0)), (3, .int (nI l1)), (4, .int (nI l2)), (5, .int (nI l3)), (6, .int (nI l4)), (7, .int (nI l5))]) dX9_spells_113 9 rfl (by rw [show Int32.ofInt 1 = nI 1 from by decide +kernel]; exact nI_add _ _) (by decide) rfl rfl ?_
                          refine j_goto hJ (q := 26) dX9_spells_116 (by decide) ?_
                          refine j_locals hJ [2, 3, 4, 5, 6, 7, 8, 9, 1, 0] rfl ?_
                          exact ih_26 true (k + 1) (by omega) (by omega) (spl_1 hd (by simp only [ltr]; (repeat' split) <;> omega))
                    · skip
                      refine j_iload hJ (q := 87) dX9_spells_85 5 rfl rfl ?_
                      refine j_goto hJ (q := 103) dX9_spells_87 (by decide) ?_
                      refine jn_icmp_ne hJ (q := 106) (tgt := 110) dX9_spells_103 (by decide) rfl (by omega) (by omega) (fun c27 => ?_) (fun c27 => ?_)
                      · skip
                        refine j_iconst hJ (q := 111) dX9_spells_110 rfl ki_0 ?_
                        refine j_istore hJ (q := 113) (lvs' := [(8, .int (nI 0)), (0, .ref h), (1, .int (nI size)), (2, .int (nI l0)), (3, .int (nI l1)), (4, .int (nI l2)), (5, .int (nI l3)), (6, .int (nI l4)), (7, .int (nI l5)), (9, .int (nI k))]) dX9_spells_111 (by decide) rfl rfl ?_
                        refine j_iinc hJ (q := 116) (lvs' := [(9, .int (nI (k + 1))), (8, .int (nI 0)), (0, .ref h), (1, .int (nI size)), (2, .int (nI l0)), (3, .int (nI l1)), (4, .int (nI l2)), (5, .int (nI l3)), (6, .int (nI l4)), (7, .int (nI l5))]) dX9_spells_113 9 rfl (by rw [show Int32.ofInt 1 = nI 1 from by decide +kernel]; exact nI_add _ _) (by decide) rfl rfl ?_
                        refine j_goto hJ (q := 26) dX9_spells_116 (by decide) ?_
                        refine j_locals hJ [2, 3, 4, 5, 6, 7, 8, 9, 1, 0] rfl ?_
                        exact ih_26 false (k + 1) (by omega) (by omega) (spl_0 (by simp only [ltr]; (repeat' split) <;> omega))
                      · skip
                        refine j_iconst hJ (q := 107) dX9_spells_106 rfl ki_1 ?_
                        refine j_goto hJ (q := 111) dX9_spells_107 (by decide) ?_
                        refine j_istore hJ (q := 113) (lvs' := [(8, .int (nI 1)), (0, .ref h), (1, .int (nI size)), (2, .int (nI l0)), (3, .int (nI l1)), (4, .int (nI l2)), (5, .int (nI l3)), (6, .int (nI l4)), (7, .int (nI l5)), (9, .int (nI k))]) dX9_spells_111 (by decide) rfl rfl ?_
                        refine j_iinc hJ (q := 116) (lvs' := [(9, .int (nI (k + 1))), (8, .int (nI 1)), (0, .ref h), (1, .int (nI size)), (2, .int (nI l0)), (3, .int (nI l1)), (4, .int (nI l2)), (5, .int (nI l3)), (6, .int (nI l4)), (7, .int (nI l5))]) dX9_spells_113 9 rfl (by rw [show Int32.ofInt 1 = nI 1 from by decide +kernel]; exact nI_add _ _) (by decide) rfl rfl ?_
                        refine j_goto hJ (q := 26) dX9_spells_116 (by decide) ?_
                        refine j_locals hJ [2, 3, 4, 5, 6, 7, 8, 9, 1, 0] rfl ?_
                        exact ih_26 true (k + 1) (by omega) (by omega) (spl_1 hd (by simp only [ltr]; (repeat' split) <;> omega))
                  · skip
                    refine j_iload hJ (q := 76) dX9_spells_74 4 rfl rfl ?_
                    refine j_goto hJ (q := 103) dX9_spells_76 (by decide) ?_
                    refine jn_icmp_ne hJ (q := 106) (tgt := 110) dX9_spells_103 (by decide) rfl (by omega) (by omega) (fun c28 => ?_) (fun c28 => ?_)
                    · skip
                      refine j_iconst hJ (q := 111) dX9_spells_110 rfl ki_0 ?_
                      refine j_istore hJ (q := 113) (lvs' := [(8, .int (nI 0)), (0, .ref h), (1, .int (nI size)), (2, .int (nI l0)), (3, .int (nI l1)), (4, .int (nI l2)), (5, .int (nI l3)), (6, .int (nI l4)), (7, .int (nI l5)), (9, .int (nI k))]) dX9_spells_111 (by decide) rfl rfl ?_
                      refine j_iinc hJ (q := 116) (lvs' := [(9, .int (nI (k + 1))), (8, .int (nI 0)), (0, .ref h), (1, .int (nI size)), (2, .int (nI l0)), (3, .int (nI l1)), (4, .int (nI l2)), (5, .int (nI l3)), (6, .int (nI l4)), (7, .int (nI l5))]) dX9_spells_113 9 rfl (by rw [show Int32.ofInt 1 = nI 1 from by decide +kernel]; exact nI_add _ _) (by decide) rfl rfl ?_
                      refine j_goto hJ (q := 26) dX9_spells_116 (by decide) ?_
                      refine j_locals hJ [2, 3, 4, 5, 6, 7, 8, 9, 1, 0] rfl ?_
                      exact ih_26 false (k + 1) (by omega) (by omega) (spl_0 (by simp only [ltr]; (repeat' split) <;> omega))
                    · skip
                      refine j_iconst hJ (q := 107) dX9_spells_106 rfl ki_1 ?_
                      refine j_goto hJ (q := 111) dX9_spells_107 (by decide) ?_
                      refine j_istore hJ (q := 113) (lvs' := [(8, .int (nI 1)), (0, .ref h), (1, .int (nI size)), (2, .int (nI l0)), (3, .int (nI l1)), (4, .int (nI l2)), (5, .int (nI l3)), (6, .int (nI l4)), (7, .int (nI l5)), (9, .int (nI k))]) dX9_spells_111 (by decide) rfl rfl ?_
                      refine j_iinc hJ (q := 116) (lvs' := [(9, .int (nI (k + 1))), (8, .int (nI 1)), (0, .ref h), (1, .int (nI size)), (2, .int (nI l0)), (3, .int (nI l1)), (4, .int (nI l2)), (5, .int (nI l3)), (6, .int (nI l4)), (7, .int (nI l5))]) dX9_spells_113 9 rfl (by rw [show Int32.ofInt 1 = nI 1 from by decide +kernel]; exact nI_add _ _) (by decide) rfl rfl ?_
                      refine j_goto hJ (q := 26) dX9_spells_116 (by decide) ?_
                      refine j_locals hJ [2, 3, 4, 5, 6, 7, 8, 9, 1, 0] rfl ?_
                      exact ih_26 true (k + 1) (by omega) (by omega) (spl_1 hd (by simp only [ltr]; (repeat' split) <;> omega))
                · skip
                  refine j_iload_n hJ (q := 65) dX9_spells_64 rfl 3 rfl rfl ?_
                  refine j_goto hJ (q := 103) dX9_spells_65 (by decide) ?_
                  refine jn_icmp_ne hJ (q := 106) (tgt := 110) dX9_spells_103 (by decide) rfl (by omega) (by omega) (fun c29 => ?_) (fun c29 => ?_)
                  · skip
                    refine j_iconst hJ (q := 111) dX9_spells_110 rfl ki_0 ?_
                    refine j_istore hJ (q := 113) (lvs' := [(8, .int (nI 0)), (0, .ref h), (1, .int (nI size)), (2, .int (nI l0)), (3, .int (nI l1)), (4, .int (nI l2)), (5, .int (nI l3)), (6, .int (nI l4)), (7, .int (nI l5)), (9, .int (nI k))]) dX9_spells_111 (by decide) rfl rfl ?_
                    refine j_iinc hJ (q := 116) (lvs' := [(9, .int (nI (k + 1))), (8, .int (nI 0)), (0, .ref h), (1, .int (nI size)), (2, .int (nI l0)), (3, .int (nI l1)), (4, .int (nI l2)), (5, .int (nI l3)), (6, .int (nI l4)), (7, .int (nI l5))]) dX9_spells_113 9 rfl (by rw [show Int32.ofInt 1 = nI 1 from by decide +kernel]; exact nI_add _ _) (by decide) rfl rfl ?_
                    refine j_goto hJ (q := 26) dX9_spells_116 (by decide) ?_
                    refine j_locals hJ [2, 3, 4, 5, 6, 7, 8, 9, 1, 0] rfl ?_
                    exact ih_26 false (k + 1) (by omega) (by omega) (spl_0 (by simp only [ltr]; (repeat' split) <;> omega))
                  · skip
                    refine j_iconst hJ (q := 107) dX9_spells_106 rfl ki_1 ?_
                    refine j_goto hJ (q := 111) dX9_spells_107 (by decide) ?_
                    refine j_istore hJ (q := 113) (lvs' := [(8, .int (nI 1)), (0, .ref h), (1, .int (nI size)), (2, .int (nI l0)), (3, .int (nI l1)), (4, .int (nI l2)), (5, .int (nI l3)), (6, .int (nI l4)), (7, .int (nI l5)), (9, .int (nI k))]) dX9_spells_111 (by decide) rfl rfl ?_
                    refine j_iinc hJ (q := 116) (lvs' := [(9, .int (nI (k + 1))), (8, .int (nI 1)), (0, .ref h), (1, .int (nI size)), (2, .int (nI l0)), (3, .int (nI l1)), (4, .int (nI l2)), (5, .int (nI l3)), (6, .int (nI l4)), (7, .int (nI l5))]) dX9_spells_113 9 rfl (by rw [show Int32.ofInt 1 = nI 1 from by decide +kernel]; exact nI_add _ _) (by decide) rfl rfl ?_
                    refine j_goto hJ (q := 26) dX9_spells_116 (by decide) ?_
                    refine j_locals hJ [2, 3, 4, 5, 6, 7, 8, 9, 1, 0] rfl ?_
                    exact ih_26 true (k + 1) (by omega) (by omega) (spl_1 hd (by simp only [ltr]; (repeat' split) <;> omega))
              · skip
                refine j_iload_n hJ (q := 55) dX9_spells_54 rfl 2 rfl rfl ?_
                refine j_goto hJ (q := 103) dX9_spells_55 (by decide) ?_
                refine jn_icmp_ne hJ (q := 106) (tgt := 110) dX9_spells_103 (by decide) rfl (by omega) (by omega) (fun c30 => ?_) (fun c30 => ?_)
                · skip
                  refine j_iconst hJ (q := 111) dX9_spells_110 rfl ki_0 ?_
                  refine j_istore hJ (q := 113) (lvs' := [(8, .int (nI 0)), (0, .ref h), (1, .int (nI size)), (2, .int (nI l0)), (3, .int (nI l1)), (4, .int (nI l2)), (5, .int (nI l3)), (6, .int (nI l4)), (7, .int (nI l5)), (9, .int (nI k))]) dX9_spells_111 (by decide) rfl rfl ?_
                  refine j_iinc hJ (q := 116) (lvs' := [(9, .int (nI (k + 1))), (8, .int (nI 0)), (0, .ref h), (1, .int (nI size)), (2, .int (nI l0)), (3, .int (nI l1)), (4, .int (nI l2)), (5, .int (nI l3)), (6, .int (nI l4)), (7, .int (nI l5))]) dX9_spells_113 9 rfl (by rw [show Int32.ofInt 1 = nI 1 from by decide +kernel]; exact nI_add _ _) (by decide) rfl rfl ?_
                  refine j_goto hJ (q := 26) dX9_spells_116 (by decide) ?_
                  refine j_locals hJ [2, 3, 4, 5, 6, 7, 8, 9, 1, 0] rfl ?_
                  exact ih_26 false (k + 1) (by omega) (by omega) (spl_0 (by simp only [ltr]; (repeat' split) <;> omega))
                · skip
                  refine j_iconst hJ (q := 107) dX9_spells_106 rfl ki_1 ?_
                  refine j_goto hJ (q := 111) dX9_spells_107 (by decide) ?_
                  refine j_istore hJ (q := 113) (lvs' := [(8, .int (nI 1)), (0, .ref h), (1, .int (nI size)), (2, .int (nI l0)), (3, .int (nI l1)), (4, .int (nI l2)), (5, .int (nI l3)), (6, .int (nI l4)), (7, .int (nI l5)), (9, .int (nI k))]) dX9_spells_111 (by decide) rfl rfl ?_
                  refine j_iinc hJ (q := 116) (lvs' := [(9, .int (nI (k + 1))), (8, .int (nI 1)), (0, .ref h), (1, .int (nI size)), (2, .int (nI l0)), (3, .int (nI l1)), (4, .int (nI l2)), (5, .int (nI l3)), (6, .int (nI l4)), (7, .int (nI l5))]) dX9_spells_113 9 rfl (by rw [show Int32.ofInt 1 = nI 1 from by decide +kernel]; exact nI_add _ _) (by decide) rfl rfl ?_
                  refine j_goto hJ (q := 26) dX9_spells_116 (by decide) ?_
                  refine j_locals hJ [2, 3, 4, 5, 6, 7, 8, 9, 1, 0] rfl ?_
                  exact ih_26 true (k + 1) (by omega) (by omega) (spl_1 hd (by simp only [ltr]; (repeat' split) <;> omega))
      refine j_locals hJ [2, 3, 4, 5, 6, 7, 8, 9, 1, 0] rfl ?_
      exact L_26 ((size - 0) + 1) false 0 (Nat.lt_succ_self _) (by omega) (by rw [decide_eq_false (show ¬ (tkK By bl p = 1 ∧ tkL By bl p = size) by omega)]; rfl)
    · skip
      refine j_iconst hJ (q := 17) dX9_spells_16 rfl ki_1 ?_
      refine j_goto hJ (q := 21) dX9_spells_17 (by decide) ?_
      refine j_istore hJ (q := 23) (lvs' := [(8, .int (nI 1)), (0, .ref h), (1, .int (nI size)), (2, .int (nI l0)), (3, .int (nI l1)), (4, .int (nI l2)), (5, .int (nI l3)), (6, .int (nI l4)), (7, .int (nI l5))]) dX9_spells_21 (by decide) rfl rfl ?_
      refine j_iconst hJ (q := 24) dX9_spells_23 rfl ki_0 ?_
      refine j_istore hJ (q := 26) (lvs' := [(9, .int (nI 0)), (8, .int (nI 1)), (0, .ref h), (1, .int (nI size)), (2, .int (nI l0)), (3, .int (nI l1)), (4, .int (nI l2)), (5, .int (nI l3)), (6, .int (nI l4)), (7, .int (nI l5))]) dX9_spells_24 (by decide) rfl rfl ?_
      have L_26 : ∀ (fu_26 : Nat) (t : Bool) (k : Nat), size - k < fu_26 → (k ≤ size) → (t = (decide (tkK By bl p = 1 ∧ tkL By bl p = size) && spN By p (ltr l0 l1 l2 l3 l4 l5) k)) → J 26 [(0, .ref h), (1, .int (nI size)), (2, .int (nI l0)), (3, .int (nI l1)), (4, .int (nI l2)), (5, .int (nI l3)), (6, .int (nI l4)), (7, .int (nI l5)), (8, .int (bI t)), (9, .int (nI k))] [] [mO h q ab be bl p (tkL By bl p) (tkK By bl p) (tkV By bl p), (q 7, ia Z 150 (ni By))] 0 0 := by
        intro fu_26
        induction fu_26 with
        | zero => intro t k hm; exact absurd hm (Nat.not_lt_zero _)
        | succ fu_26 ih_26 =>
          intro t k hm_26 hk htt
          refine j_iload hJ (q := 28) dX9_spells_26 9 rfl rfl ?_
          refine j_iload_n hJ (q := 29) dX9_spells_28 rfl 1 rfl rfl ?_
          refine jn_icmp_ge hJ (q := 32) (tgt := 119) dX9_spells_29 (by decide) rfl (by omega) (by omega) (fun c31 => ?_) (fun c31 => ?_)
          · skip
            refine j_iload hJ (q := 121) dX9_spells_119 8 rfl rfl ?_
            have hfin : t = isW By bl p size (ltr l0 l1 l2 l3 l4 l5) := (Nat.lt_or_ge k size).elim (fun hlt => (by have hf : t = false := (by first | assumption | (exfalso; omega)); rw [hf] at htt ⊢; exact (isW_f htt hk).symm)) (fun hge => (by rw [htt, show k = size by omega]; rfl))
            exact hE.1 _ _ _ _ _ _ _ rfl (bI_nar _) dX9_spells_121 (Nat.le_refl _) (Nat.le_refl _) (congrArg (fun z => some (Value.int (bI z))) (show t = isW By bl p size (ltr l0 l1 l2 l3 l4 l5) by exact hfin))
          · skip
            refine j_iload hJ (q := 34) dX9_spells_32 8 rfl rfl ?_
            refine jb_if_eq hJ (q := 37) (tgt := 119) dX9_spells_34 (by decide) rfl (fun c32 => ?_) (fun c32 => ?_)
            · skip
              refine j_iload hJ (q := 121) dX9_spells_119 8 rfl rfl ?_
              have hfin : t = isW By bl p size (ltr l0 l1 l2 l3 l4 l5) := (Nat.lt_or_ge k size).elim (fun hlt => (by have hf : t = false := (by first | assumption | (exfalso; omega)); rw [hf] at htt ⊢; exact (isW_f htt hk).symm)) (fun hge => (by rw [htt, show k = size by omega]; rfl))
              exact hE.1 _ _ _ _ _ _ _ rfl (bI_nar _) dX9_spells_121 (Nat.le_refl _) (Nat.le_refl _) (congrArg (fun z => some (Value.int (bI z))) (show t = isW By bl p size (ltr l0 l1 l2 l3 l4 l5) by exact hfin))
            · skip
              have hd := spl_t htt c32
              refine j_aload_n hJ (q := 38) dX9_spells_37 rfl 0 rfl rfl ?_
              refine j_get hJ (q := 41) jf_X9_36 dX9_spells_38 0 rfl rfl rfl ?_
              refine j_aload_n hJ (q := 42) dX9_spells_41 rfl 0 rfl rfl ?_
              refine j_get hJ (q := 45) jf_X9_220 dX9_spells_42 0 rfl rfl rfl ?_
              refine j_iload hJ (q := 47) dX9_spells_45 9 rfl rfl ?_
              refine j_iadd hJ (q := 48) dX9_spells_47 rfl (nI_add _ _) ?_
              refine j_ialdN hJ (q := 49) (z := nI (By (p + k))) dX9_spells_48 1 rfl (by omega) (by decide) rfl rfl ?_
              have b33 := hby (p + k)
              refine j_iload hJ (q := 51) dX9_spells_49 9 rfl rfl ?_
              refine jn_if_ne hJ (q := 54) (tgt := 58) dX9_spells_51 (by decide) rfl (by omega) (fun c34 => ?_) (fun c34 => ?_)
              · skip
                refine j_iload hJ (q := 60) dX9_spells_58 9 rfl rfl ?_
                refine j_iconst hJ (q := 61) dX9_spells_60 rfl ki_1 ?_
                refine jn_icmp_ne hJ (q := 64) (tgt := 68) dX9_spells_61 (by decide) rfl (by omega) (by omega) (fun c35 => ?_) (fun c35 => ?_)
                · skip
                  refine j_iload hJ (q := 70) dX9_spells_68 9 rfl rfl ?_
                  refine j_iconst hJ (q := 71) dX9_spells_70 rfl ki_2 ?_
                  refine jn_icmp_ne hJ (q := 74) (tgt := 79) dX9_spells_71 (by decide) rfl (by omega) (by omega) (fun c36 => ?_) (fun c36 => ?_)
                  · skip
                    refine j_iload hJ (q := 81) dX9_spells_79 9 rfl rfl ?_
                    refine j_iconst hJ (q := 82) dX9_spells_81 rfl ki_3 ?_
                    refine jn_icmp_ne hJ (q := 85) (tgt := 90) dX9_spells_82 (by decide) rfl (by omega) (by omega) (fun c37 => ?_) (fun c37 => ?_)
                    · skip
                      refine j_iload hJ (q := 92) dX9_spells_90 9 rfl rfl ?_
                      refine j_iconst hJ (q := 93) dX9_spells_92 rfl ki_4 ?_
                      refine jn_icmp_ne hJ (q := 96) (tgt := 101) dX9_spells_93 (by decide) rfl (by omega) (by omega) (fun c38 => ?_) (fun c38 => ?_)
                      · skip
                        refine j_iload hJ (q := 103) dX9_spells_101 7 rfl rfl ?_
                        refine jn_icmp_ne hJ (q := 106) (tgt := 110) dX9_spells_103 (by decide) rfl (by omega) (by omega) (fun c39 => ?_) (fun c39 => ?_)
                        · skip
                          refine j_iconst hJ (q := 111) dX9_spells_110 rfl ki_0 ?_
                          refine j_istore hJ (q := 113) (lvs' := [(8, .int (nI 0)), (0, .ref h), (1, .int (nI size)), (2, .int (nI l0)), (3, .int (nI l1)), (4, .int (nI l2)), (5, .int (nI l3)), (6, .int (nI l4)), (7, .int (nI l5)), (9, .int (nI k))]) dX9_spells_111 (by decide) rfl rfl ?_
                          refine j_iinc hJ (q := 116) (lvs' := [(9, .int (nI (k + 1))), (8, .int (nI 0)), (0, .ref h), (1, .int (nI size)), (2, .int (nI l0)), (3, .int (nI l1)), (4, .int (nI l2)), (5, .int (nI l3)), (6, .int (nI l4)), (7, .int (nI l5))]) dX9_spells_113 9 rfl (by rw [show Int32.ofInt 1 = nI 1 from by decide +kernel]; exact nI_add _ _) (by decide) rfl rfl ?_
                          refine j_goto hJ (q := 26) dX9_spells_116 (by decide) ?_
                          refine j_locals hJ [2, 3, 4, 5, 6, 7, 8, 9, 1, 0] rfl ?_
                          exact ih_26 false (k + 1) (by omega) (by omega) (spl_0 (by simp only [ltr]; (repeat' split) <;> omega))
                        · skip
                          refine j_iconst hJ (q := 107) dX9_spells_106 rfl ki_1 ?_
                          refine j_goto hJ (q := 111) dX9_spells_107 (by decide) ?_
                          refine j_istore hJ (q := 113) (lvs' := [(8, .int (nI 1)), (0, .ref h), (1, .int (nI size)), (2, .int (nI l0)), (3, .int (nI l1)), (4, .int (nI l2)), (5, .int (nI l3)), (6, .int (nI l4)), (7, .int (nI l5)), (9, .int (nI k))]) dX9_spells_111 (by decide) rfl rfl ?_
                          refine j_iinc hJ (q := 116) (lvs' := [(9, .int (nI (k + 1))), (8, .int (nI 1)), (0, .ref h), (1, .int (nI size)), (2, .int (nI l0)), (3, .int (nI l1)), (4, .int (nI l2)), (5, .int (nI l3)), (6, .int (nI l4)), (7, .int (nI l5))]) dX9_spells_113 9 rfl (by rw [show Int32.ofInt 1 = nI 1 from by decide +kernel]; exact nI_add _ _) (by decide) rfl rfl ?_
                          refine j_goto hJ (q := 26) dX9_spells_116 (by decide) ?_
                          refine j_locals hJ [2, 3, 4, 5, 6, 7, 8, 9, 1, 0] rfl ?_
                          exact ih_26 true (k + 1) (by omega) (by omega) (spl_1 hd (by simp only [ltr]; (repeat' split) <;> omega))
                      · skip
                        refine j_iload hJ (q := 98) dX9_spells_96 6 rfl rfl ?_
                        refine j_goto hJ (q := 103) dX9_spells_98 (by decide) ?_
                        refine jn_icmp_ne hJ (q := 106) (tgt := 110) dX9_spells_103 (by decide) rfl (by omega) (by omega) (fun c40 => ?_) (fun c40 => ?_)
                        · skip
                          refine j_iconst hJ (q := 111) dX9_spells_110 rfl ki_0 ?_
                          refine j_istore hJ (q := 113) (lvs' := [(8, .int (nI 0)), (0, .ref h), (1, .int (nI size)), (2, .int (nI l0)), (3, .int (nI l1)), (4, .int (nI l2)), (5, .int (nI l3)), (6, .int (nI l4)), (7, .int (nI l5)), (9, .int (nI k))]) dX9_spells_111 (by decide) rfl rfl ?_
                          refine j_iinc hJ (q := 116) (lvs' := [(9, .int (nI (k + 1))), (8, .int (nI 0)), (0, .ref h), (1, .int (nI size)), (2, .int (nI l0)), (3, .int (nI l1)), (4, .int (nI l2)), (5, .int (nI l3)), (6, .int (nI l4)), (7, .int (nI l5))]) dX9_spells_113 9 rfl (by rw [show Int32.ofInt 1 = nI 1 from by decide +kernel]; exact nI_add _ _) (by decide) rfl rfl ?_
                          refine j_goto hJ (q := 26) dX9_spells_116 (by decide) ?_
                          refine j_locals hJ [2, 3, 4, 5, 6, 7, 8, 9, 1, 0] rfl ?_
                          exact ih_26 false (k + 1) (by omega) (by omega) (spl_0 (by simp only [ltr]; (repeat' split) <;> omega))
                        · skip
                          refine j_iconst hJ (q := 107) dX9_spells_106 rfl ki_1 ?_
                          refine j_goto hJ (q := 111) dX9_spells_107 (by decide) ?_
                          refine j_istore hJ (q := 113) (lvs' := [(8, .int (nI 1)), (0, .ref h), (1, .int (nI size)), (2, .int (nI l0)), (3, .int (nI l1)), (4, .int (nI l2)), (5, .int (nI l3)), (6, .int (nI l4)), (7, .int (nI l5)), (9, .int (nI k))]) dX9_spells_111 (by decide) rfl rfl ?_
                          refine j_iinc hJ (q := 116) (lvs' := [(9, .int (nI (k + 1))), (8, .int (nI 1)), (0, .ref h), (1, .int (nI size)), (2, .int (nI l0)), (3, .int (nI l1)), (4, .int (nI l2)), (5, .int (nI l3)), (6, .int (nI l4)), (7, .int (nI l5))]) dX9_spells_113 9 rfl (by rw [show Int32.ofInt 1 = nI 1 from by decide +kernel]; exact nI_add _ _) (by decide) rfl rfl ?_
                          refine j_goto hJ (q := 26) dX9_spells_116 (by decide) ?_
                          refine j_locals hJ [2, 3, 4, 5, 6, 7, 8, 9, 1, 0] rfl ?_
                          exact ih_26 true (k + 1) (by omega) (by omega) (spl_1 hd (by simp only [ltr]; (repeat' split) <;> omega))
                    · skip
                      refine j_iload hJ (q := 87) dX9_spells_85 5 rfl rfl ?_
                      refine j_goto hJ (q := 103) dX9_spells_87 (by decide) ?_
                      refine jn_icmp_ne hJ (q := 106) (tgt := 110) dX9_spells_103 (by decide) rfl (by omega) (by omega) (fun c41 => ?_) (fun c41 => ?_)
                      · skip
                        refine j_iconst hJ (q := 111) dX9_spells_110 rfl ki_0 ?_
                        refine j_istore hJ (q := 113) (lvs' := [(8, .int (nI 0)), (0, .ref h), (1, .int (nI size)), (2, .int (nI l0)), (3, .int (nI l1)), (4, .int (nI l2)), (5, .int (nI l3)), (6, .int (nI l4)), (7, .int (nI l5)), (9, .int (nI k))]) dX9_spells_111 (by decide) rfl rfl ?_
                        refine j_iinc hJ (q := 116) (lvs' := [(9, .int (nI (k + 1))), (8, .int (nI 0)), (0, .ref h), (1, .int (nI size)), (2, .int (nI l0)), (3, .int (nI l1)), (4, .int (nI l2)), (5, .int (nI l3)), (6, .int (nI l4)), (7, .int (nI l5))]) dX9_spells_113 9 rfl (by rw [show Int32.ofInt 1 = nI 1 from by decide +kernel]; exact nI_add _ _) (by decide) rfl rfl ?_
                        refine j_goto hJ (q := 26) dX9_spells_116 (by decide) ?_
                        refine j_locals hJ [2, 3, 4, 5, 6, 7, 8, 9, 1, 0] rfl ?_
                        exact ih_26 false (k + 1) (by omega) (by omega) (spl_0 (by simp only [ltr]; (repeat' split) <;> omega))
                      · skip
                        refine j_iconst hJ (q := 107) dX9_spells_106 rfl ki_1 ?_
                        refine j_goto hJ (q := 111) dX9_spells_107 (by decide) ?_
                        refine j_istore hJ (q := 113) (lvs' := [(8, .int (nI 1)), (0, .ref h), (1, .int (nI size)), (2, .int (nI l0)), (3, .int (nI l1)), (4, .int (nI l2)), (5, .int (nI l3)), (6, .int (nI l4)), (7, .int (nI l5)), (9, .int (nI k))]) dX9_spells_111 (by decide) rfl rfl ?_
                        refine j_iinc hJ (q := 116) (lvs' := [(9, .int (nI (k + 1))), (8, .int (nI 1)), (0, .ref h), (1, .int (nI size)), (2, .int (nI l0)), (3, .int (nI l1)), (4, .int (nI l2)), (5, .int (nI l3)), (6, .int (nI l4)), (7, .int (nI l5))]) dX9_spells_113 9 rfl (by rw [show Int32.ofInt 1 = nI 1 from by decide +kernel]; exact nI_add _ _) (by decide) rfl rfl ?_
                        refine j_goto hJ (q := 26) dX9_spells_116 (by decide) ?_
                        refine j_locals hJ [2, 3, 4, 5, 6, 7, 8, 9, 1, 0] rfl ?_
                        exact ih_26 true (k + 1) (by omega) (by omega) (spl_1 hd (by simp only [ltr]; (repeat' split) <;> omega))
                  · skip
                    refine j_iload hJ (q := 76) dX9_spells_74 4 rfl rfl ?_
                    refine j_goto hJ (q := 103) dX9_spells_76 (by decide) ?_
                    refine jn_icmp_ne hJ (q := 106) (tgt := 110) dX9_spells_103 (by decide) rfl (by omega) (by omega) (fun c42 => ?_) (fun c42 => ?_)
                    · skip
                      refine j_iconst hJ (q := 111) dX9_spells_110 rfl ki_0 ?_
                      refine j_istore hJ (q := 113) (lvs' := [(8, .int (nI 0)), (0, .ref h), (1, .int (nI size)), (2, .int (nI l0)), (3, .int (nI l1)), (4, .int (nI l2)), (5, .int (nI l3)), (6, .int (nI l4)), (7, .int (nI l5)), (9, .int (nI k))]) dX9_spells_111 (by decide) rfl rfl ?_
                      refine j_iinc hJ (q := 116) (lvs' := [(9, .int (nI (k + 1))), (8, .int (nI 0)), (0, .ref h), (1, .int (nI size)), (2, .int (nI l0)), (3, .int (nI l1)), (4, .int (nI l2)), (5, .int (nI l3)), (6, .int (nI l4)), (7, .int (nI l5))]) dX9_spells_113 9 rfl (by rw [show Int32.ofInt 1 = nI 1 from by decide +kernel]; exact nI_add _ _) (by decide) rfl rfl ?_
                      refine j_goto hJ (q := 26) dX9_spells_116 (by decide) ?_
                      refine j_locals hJ [2, 3, 4, 5, 6, 7, 8, 9, 1, 0] rfl ?_
                      exact ih_26 false (k + 1) (by omega) (by omega) (spl_0 (by simp only [ltr]; (repeat' split) <;> omega))
                    · skip
                      refine j_iconst hJ (q := 107) dX9_spells_106 rfl ki_1 ?_
                      refine j_goto hJ (q := 111) dX9_spells_107 (by decide) ?_
                      refine j_istore hJ (q := 113) (lvs' := [(8, .int (nI 1)), (0, .ref h), (1, .int (nI size)), (2, .int (nI l0)), (3, .int (nI l1)), (4, .int (nI l2)), (5, .int (nI l3)), (6, .int (nI l4)), (7, .int (nI l5)), (9, .int (nI k))]) dX9_spells_111 (by decide) rfl rfl ?_
                      refine j_iinc hJ (q := 116) (lvs' := [(9, .int (nI (k + 1))), (8, .int (nI 1)), (0, .ref h), (1, .int (nI size)), (2, .int (nI l0)), (3, .int (nI l1)), (4, .int (nI l2)), (5, .int (nI l3)), (6, .int (nI l4)), (7, .int (nI l5))]) dX9_spells_113 9 rfl (by rw [show Int32.ofInt 1 = nI 1 from by decide +kernel]; exact nI_add _ _) (by decide) rfl rfl ?_
                      refine j_goto hJ (q := 26) dX9_spells_116 (by decide) ?_
                      refine j_locals hJ [2, 3, 4, 5, 6, 7, 8, 9, 1, 0] rfl ?_
                      exact ih_26 true (k + 1) (by omega) (by omega) (spl_1 hd (by simp only [ltr]; (repeat' split) <;> omega))
                · skip
                  refine j_iload_n hJ (q := 65) dX9_spells_64 rfl 3 rfl rfl ?_
                  refine j_goto hJ (q := 103) dX9_spells_65 (by decide) ?_
                  refine jn_icmp_ne hJ (q := 106) (tgt := 110) dX9_spells_103 (by decide) rfl (by omega) (by omega) (fun c43 => ?_) (fun c43 => ?_)
                  · skip
                    refine j_iconst hJ (q := 111) dX9_spells_110 rfl ki_0 ?_
                    refine j_istore hJ (q := 113) (lvs' := [(8, .int (nI 0)), (0, .ref h), (1, .int (nI size)), (2, .int (nI l0)), (3, .int (nI l1)), (4, .int (nI l2)), (5, .int (nI l3)), (6, .int (nI l4)), (7, .int (nI l5)), (9, .int (nI k))]) dX9_spells_111 (by decide) rfl rfl ?_
                    refine j_iinc hJ (q := 116) (lvs' := [(9, .int (nI (k + 1))), (8, .int (nI 0)), (0, .ref h), (1, .int (nI size)), (2, .int (nI l0)), (3, .int (nI l1)), (4, .int (nI l2)), (5, .int (nI l3)), (6, .int (nI l4)), (7, .int (nI l5))]) dX9_spells_113 9 rfl (by rw [show Int32.ofInt 1 = nI 1 from by decide +kernel]; exact nI_add _ _) (by decide) rfl rfl ?_
                    refine j_goto hJ (q := 26) dX9_spells_116 (by decide) ?_
                    refine j_locals hJ [2, 3, 4, 5, 6, 7, 8, 9, 1, 0] rfl ?_
                    exact ih_26 false (k + 1) (by omega) (by omega) (spl_0 (by simp only [ltr]; (repeat' split) <;> omega))
                  · skip
                    refine j_iconst hJ (q := 107) dX9_spells_106 rfl ki_1 ?_
                    refine j_goto hJ (q := 111) dX9_spells_107 (by decide) ?_
                    refine j_istore hJ (q := 113) (lvs' := [(8, .int (nI 1)), (0, .ref h), (1, .int (nI size)), (2, .int (nI l0)), (3, .int (nI l1)), (4, .int (nI l2)), (5, .int (nI l3)), (6, .int (nI l4)), (7, .int (nI l5)), (9, .int (nI k))]) dX9_spells_111 (by decide) rfl rfl ?_
                    refine j_iinc hJ (q := 116) (lvs' := [(9, .int (nI (k + 1))), (8, .int (nI 1)), (0, .ref h), (1, .int (nI size)), (2, .int (nI l0)), (3, .int (nI l1)), (4, .int (nI l2)), (5, .int (nI l3)), (6, .int (nI l4)), (7, .int (nI l5))]) dX9_spells_113 9 rfl (by rw [show Int32.ofInt 1 = nI 1 from by decide +kernel]; exact nI_add _ _) (by decide) rfl rfl ?_
                    refine j_goto hJ (q := 26) dX9_spells_116 (by decide) ?_
                    refine j_locals hJ [2, 3, 4, 5, 6, 7, 8, 9, 1, 0] rfl ?_
                    exact ih_26 true (k + 1) (by omega) (by omega) (spl_1 hd (by simp only [ltr]; (repeat' split) <;> omega))
              · skip
                refine j_iload_n hJ (q := 55) dX9_spells_54 rfl 2 rfl rfl ?_
                refine j_goto hJ (q := 103) dX9_spells_55 (by decide) ?_
                refine jn_icmp_ne hJ (q := 106) (tgt := 110) dX9_spells_103 (by decide) rfl (by omega) (by omega) (fun c44 => ?_) (fun c44 => ?_)
                · skip
                  refine j_iconst hJ (q := 111) dX9_spells_110 rfl ki_0 ?_
                  refine j_istore hJ (q := 113) (lvs' := [(8, .int (nI 0)), (0, .ref h), (1, .int (nI size)), (2, .int (nI l0)), (3, .int (nI l1)), (4, .int (nI l2)), (5, .int (nI l3)), (6, .int (nI l4)), (7, .int (nI l5)), (9, .int (nI k))]) dX9_spells_111 (by decide) rfl rfl ?_
                  refine j_iinc hJ (q := 116) (lvs' := [(9, .int (nI (k + 1))), (8, .int (nI 0)), (0, .ref h), (1, .int (nI size)), (2, .int (nI l0)), (3, .int (nI l1)), (4, .int (nI l2)), (5, .int (nI l3)), (6, .int (nI l4)), (7, .int (nI l5))]) dX9_spells_113 9 rfl (by rw [show Int32.ofInt 1 = nI 1 from by decide +kernel]; exact nI_add _ _) (by decide) rfl rfl ?_
                  refine j_goto hJ (q := 26) dX9_spells_116 (by decide) ?_
                  refine j_locals hJ [2, 3, 4, 5, 6, 7, 8, 9, 1, 0] rfl ?_
                  exact ih_26 false (k + 1) (by omega) (by omega) (spl_0 (by simp only [ltr]; (repeat' split) <;> omega))
                · skip
                  refine j_iconst hJ (q := 107) dX9_spells_106 rfl ki_1 ?_
                  refine j_goto hJ (q := 111) dX9_spells_107 (by decide) ?_
                  refine j_istore hJ (q := 113) (lvs' := [(8, .int (nI 1)), (0, .ref h), (1, .int (nI size)), (2, .int (nI l0)), (3, .int (nI l1)), (4, .int (nI l2)), (5, .int (nI l3)), (6, .int (nI l4)), (7, .int (nI l5)), (9, .int (nI k))]) dX9_spells_111 (by decide) rfl rfl ?_
                  refine j_iinc hJ (q := 116) (lvs' := [(9, .int (nI (k + 1))), (8, .int (nI 1)), (0, .ref h), (1, .int (nI size)), (2, .int (nI l0)), (3, .int (nI l1)), (4, .int (nI l2)), (5, .int (nI l3)), (6, .int (nI l4)), (7, .int (nI l5))]) dX9_spells_113 9 rfl (by rw [show Int32.ofInt 1 = nI 1 from by decide +kernel]; exact nI_add _ _) (by decide) rfl rfl ?_
                  refine j_goto hJ (q := 26) dX9_spells_116 (by decide) ?_
                  refine j_locals hJ [2, 3, 4, 5, 6, 7, 8, 9, 1, 0] rfl ?_
                  exact ih_26 true (k + 1) (by omega) (by omega) (spl_1 hd (by simp only [ltr]; (repeat' split) <;> omega))
      refine j_locals hJ [2, 3, 4, 5, 6, 7, 8, 9, 1, 0] rfl ?_
      exact L_26 ((size - 0) + 1) true 0 (Nat.lt_succ_self _) (by omega) (by rw [decide_eq_true (show tkK By bl p = 1 ∧ tkL By bl p = size by omega)]; rfl)

set_option maxHeartbeats 4000000 in
set_option maxRecDepth 100000 in
theorem c_X9_takesNumber (Z : jZ) (h : Nat) (q : Nat → Nat) (ab : Int) (be : Int) (bl : Nat) (p : Nat) (By : Nat → Nat) (Vs : Nat → Nat) (k : Nat) (lo : Nat) (hi : Nat) (hp : p ≤ bl) (hbl : bl ≤ 150) (hby : ∀ j, By j < 128) (hk : k < 3) (hlh : lo < 1000 ∧ hi < 1000) : CT Z yX9_takesNumber cX9_takesNumber 4 ((some FieldType.boolean)) 5 0 0 [.ref h, .int (nI k), .int (nI lo), .int (nI hi)] [mO h q ab be bl p (tkL By bl p) (tkK By bl p) (tkV By bl p), (q 7, ia Z 150 (ni By)), (q 9, ia Z 3 (ni Vs))] (fun rr ww => (num By bl p lo hi ∧ rr = some (.int (nI 1)) ∧ ww = [mO h q ab be bl (nx By bl p) (tkL By bl (nx By bl p)) (tkK By bl (nx By bl p)) (tkV By bl (nx By bl p)), (q 7, ia Z 150 (ni By)), (q 9, ia Z 3 (ni (va_up Vs k (tkV By bl p))))]) ∨ (¬ num By bl p lo hi ∧ rr = some (.int (nI 0)) ∧ ww = [mO h q ab be bl p (tkL By bl p) (tkK By bl p) (tkV By bl p), (q 7, ia Z 150 (ni By)), (q 9, ia Z 3 (ni Vs))])) := by
  refine CT.of RX9 false rfl (fun h => by cases h) (by decide +kernel) (Nat.le_of_ble_eq_true rfl) ?_
  intro J hJ hE
  show J 0 [(0, .ref h), (1, .int (nI k)), (2, .int (nI lo)), (3, .int (nI hi))] [] [mO h q ab be bl p (tkL By bl p) (tkK By bl p) (tkV By bl p), (q 7, ia Z 150 (ni By)), (q 9, ia Z 3 (ni Vs))] 0 0
  have hti := tkL_in (By := By) hp
  have htk := tkK_le (By := By) (L := bl) (p := p)
  have hvl := tkV_le (L := bl) (a := p) hby
  refine j_aload_n hJ (q := 1) dX9_takesNumber_0 rfl 0 rfl rfl ?_
  refine j_get hJ (q := 4) jf_X9_226 dX9_takesNumber_1 0 rfl rfl rfl ?_
  refine j_iconst hJ (q := 5) dX9_takesNumber_4 rfl ki_2 ?_
  refine jn_icmp_ne hJ (q := 8) (tgt := 23) dX9_takesNumber_5 (by decide) rfl (by omega) (by omega) (fun c1 => ?_) (fun c1 => ?_)
  · skip
    refine j_iconst hJ (q := 24) dX9_takesNumber_23 rfl ki_0 ?_
    exact hE.1 _ _ _ _ _ _ _ rfl rfl dX9_takesNumber_24 (Nat.le_refl _) (Nat.le_refl _) (Or.inr (⟨by unfold num; omega, congrArg (fun z => some (Value.int (nI z))) (by rfl), rfl⟩))
  · skip
    refine j_aload_n hJ (q := 9) dX9_takesNumber_8 rfl 0 rfl rfl ?_
    refine j_get hJ (q := 12) jf_X9_229 dX9_takesNumber_9 0 rfl rfl rfl ?_
    refine j_i2l hJ (q := 13) dX9_takesNumber_12 rfl (zL_i _ (zI_nat (tkV By bl p)).symm (by omega)) ?_
    refine j_iload_n hJ (q := 14) dX9_takesNumber_13 rfl 2 rfl rfl ?_
    refine j_i2l hJ (q := 15) dX9_takesNumber_14 rfl (zL_i _ (zI_nat lo).symm (by omega)) ?_
    refine j_iload_n hJ (q := 16) dX9_takesNumber_15 rfl 3 rfl rfl ?_
    refine j_i2l hJ (q := 17) dX9_takesNumber_16 rfl (zL_i _ (zI_nat hi).symm (by omega)) ?_
    refine j_sR hJ (q := 20) (rest := []) (As := [.long (zL ((tkV By bl p) : Int)), .long (zL (lo : Int)), .long (zL (hi : Int))]) jl_X9_53 (c_X9_in Z ((tkV By bl p) : Int) (lo : Int) (hi : Int) (by omega) (by omega) (by omega)) dX9_takesNumber_17 rfl (by decide) (Nat.le_of_ble_eq_true rfl) [] rfl rfl (fun rv hp => ?_)
    obtain rfl := hp
    show J 20 [(0, .ref h), (1, .int (nI k)), (2, .int (nI lo)), (3, .int (nI hi))] [.int (bI (decide ((lo : Int) ≤ ((tkV By bl p) : Int) ∧ ((tkV By bl p) : Int) ≤ (hi : Int))))] [mO h q ab be bl p (tkL By bl p) (tkK By bl p) (tkV By bl p), (q 7, ia Z 150 (ni By)), (q 9, ia Z 3 (ni Vs))] 0 0
    refine jp_if_ne hJ (q := 23) (tgt := 25) dX9_takesNumber_20 (by decide) rfl (fun c2 => ?_) (fun c2 => ?_)
    · skip
      refine j_aload_n hJ (q := 26) dX9_takesNumber_25 rfl 0 rfl rfl ?_
      refine j_get hJ (q := 29) jf_X9_42 dX9_takesNumber_26 0 rfl rfl rfl ?_
      refine j_iload_n hJ (q := 30) dX9_takesNumber_29 rfl 1 rfl rfl ?_
      refine j_aload_n hJ (q := 31) dX9_takesNumber_30 rfl 0 rfl rfl ?_
      refine j_get hJ (q := 34) jf_X9_229 dX9_takesNumber_31 0 rfl rfl rfl ?_
      refine j_iastN hJ (q := 35) (ws' := [mO h q ab be bl p (tkL By bl p) (tkK By bl p) (tkV By bl p), (q 7, ia Z 150 (ni By)), (q 9, ia Z 3 (ni (va_up Vs k (tkV By bl p))))]) dX9_takesNumber_34 2 rfl (by omega) (by decide) (ni_up _ _ _) rfl rfl ?_
      refine j_aload_n hJ (q := 36) dX9_takesNumber_35 rfl 0 rfl rfl ?_
      refine j_vW hJ (q := 39) (rest := []) (As := []) (wr := [(q 9, ia Z 3 (ni (va_up Vs k (tkV By bl p))))]) jl_X9_242 (c_X9_goBehind Z h q ab be bl p By (by omega) (by omega) hby) 0 rfl rfl dX9_takesNumber_36 rfl (by decide) (Nat.le_of_ble_eq_true rfl) [0, 1] [2] rfl rfl rfl rfl (by decide) rfl (fun rv wv hp => ?_)
      obtain ⟨rfl, rfl⟩ := hp
      refine j_world hJ (ws' := [mO h q ab be bl (nx By bl p) (tkL By bl (nx By bl p)) (tkK By bl (nx By bl p)) (tkV By bl (nx By bl p)), (q 7, ia Z 150 (ni By)), (q 9, ia Z 3 (ni (va_up Vs k (tkV By bl p))))]) [1, 2, 0] rfl rfl ?_
      show J 39 [(0, .ref h), (1, .int (nI k)), (2, .int (nI lo)), (3, .int (nI hi))] [] [mO h q ab be bl (nx By bl p) (tkL By bl (nx By bl p)) (tkK By bl (nx By bl p)) (tkV By bl (nx By bl p)), (q 7, ia Z 150 (ni By)), (q 9, ia Z 3 (ni (va_up Vs k (tkV By bl p))))] 0 0
      refine j_iconst hJ (q := 40) dX9_takesNumber_39 rfl ki_1 ?_
      exact hE.1 _ _ _ _ _ _ _ rfl rfl dX9_takesNumber_40 (Nat.le_refl _) (Nat.le_refl _) (Or.inl (⟨by unfold num; omega, congrArg (fun z => some (Value.int (nI z))) (by rfl), rfl⟩))
    · skip
      refine j_iconst hJ (q := 24) dX9_takesNumber_23 rfl ki_0 ?_
      exact hE.1 _ _ _ _ _ _ _ rfl rfl dX9_takesNumber_24 (Nat.le_refl _) (Nat.le_refl _) (Or.inr (⟨by unfold num; omega, congrArg (fun z => some (Value.int (nI z))) (by rfl), rfl⟩))

set_option maxHeartbeats 4000000 in
set_option maxRecDepth 100000 in
theorem c_X9_takesHorse (Z : jZ) (h : Nat) (q : Nat → Nat) (ab : Int) (be : Int) (bl : Nat) (p : Nat) (By : Nat → Nat) (An : Nat → Nat) (Vs : Nat → Nat) (hp : p ≤ bl) (hbl : bl ≤ 150) (hby : ∀ j, By j < 128) (hw : wf An) : CT Z yX9_takesHorse cX9_takesHorse 1 ((some FieldType.boolean)) 6 0 0 [.ref h] [mO h q ab be bl p (tkL By bl p) (tkK By bl p) (tkV By bl p), (q 7, ia Z 150 (ni By)), (q 8, ia Z 138 (ni An)), (q 9, ia Z 3 (ni Vs))] (fun rr ww => ∃ Vx : Nat → Nat, rr = some (.int (bI ((thF By bl p An).1))) ∧ ww = [mO h q ab be bl ((thF By bl p An).2.1) (tkL By bl ((thF By bl p An).2.1)) (tkK By bl ((thF By bl p An).2.1)) (tkV By bl ((thF By bl p An).2.1)), (q 7, ia Z 150 (ni By)), (q 8, ia Z 138 (ni ((thF By bl p An).2.2))), (q 9, ia Z 3 (ni Vx))]) := by
  refine CT.of RX9 false rfl (fun h => by cases h) (by decide +kernel) (Nat.le_of_ble_eq_true rfl) ?_
  intro J hJ hE
  show J 0 [(0, .ref h)] [] [mO h q ab be bl p (tkL By bl p) (tkK By bl p) (tkV By bl p), (q 7, ia Z 150 (ni By)), (q 8, ia Z 138 (ni An)), (q 9, ia Z 3 (ni Vs))] 0 0
  have hn1 := nx_in (By := By) hp
  have hn2 := nx_in (By := By) hn1.2
  have hn3 := nx_in (By := By) hn2.2
  have hn4 := nx_in (By := By) hn3.2
  obtain ⟨⟨n1, n2, n3, n4, n5, n6⟩, nb, nr, nh, nd⟩ := id hw
  refine j_aload_n hJ (q := 1) dX9_takesHorse_0 rfl 0 rfl rfl ?_
  refine j_vW hJ (q := 4) (rest := []) (As := []) (wr := [(q 8, ia Z 138 (ni An)), (q 9, ia Z 3 (ni Vs))]) jl_X9_242 (c_X9_goBehind Z h q ab be bl p By (by omega) (by omega) hby) 0 rfl rfl dX9_takesHorse_1 rfl (by decide) (Nat.le_of_ble_eq_true rfl) [0, 1] [2, 3] rfl rfl rfl rfl (by decide) rfl (fun rv wv hp => ?_)
  obtain ⟨rfl, rfl⟩ := hp
  refine j_world hJ (ws' := [mO h q ab be bl (nx By bl p) (tkL By bl (nx By bl p)) (tkK By bl (nx By bl p)) (tkV By bl (nx By bl p)), (q 7, ia Z 150 (ni By)), (q 8, ia Z 138 (ni An)), (q 9, ia Z 3 (ni Vs))]) [2, 3, 0, 1] rfl rfl ?_
  show J 4 [(0, .ref h)] [] [mO h q ab be bl (nx By bl p) (tkL By bl (nx By bl p)) (tkK By bl (nx By bl p)) (tkV By bl (nx By bl p)), (q 7, ia Z 150 (ni By)), (q 8, ia Z 138 (ni An)), (q 9, ia Z 3 (ni Vs))] 0 0
  refine j_aload_n hJ (q := 5) dX9_takesHorse_4 rfl 0 rfl rfl ?_
  refine j_iconst hJ (q := 6) dX9_takesHorse_5 rfl ki_0 ?_
  refine j_iconst hJ (q := 7) dX9_takesHorse_6 rfl ki_0 ?_
  refine j_aload_n hJ (q := 8) dX9_takesHorse_7 rfl 0 rfl rfl ?_
  refine j_get hJ (q := 11) jf_X9_39 dX9_takesHorse_8 0 rfl rfl rfl ?_
  refine j_bipush hJ (q := 13) dX9_takesHorse_11 rfl kb_21 ?_
  refine j_ialdN hJ (q := 14) (z := nI (An 21)) dX9_takesHorse_13 2 rfl (by decide) (by decide) rfl rfl ?_
  have b1 := nb 21
  refine j_iconst hJ (q := 15) dX9_takesHorse_14 rfl ki_1 ?_
  refine j_isub hJ (q := 16) dX9_takesHorse_15 rfl (pk_sub (by omega)) ?_
  refine j_vW hJ (q := 19) (rest := []) (As := [.int (nI 0), .int (nI 0), .int (nI (An 21 - 1))]) (wr := [(q 8, ia Z 138 (ni An))]) jl_X9_245 (c_X9_takesNumber Z h q ab be bl (nx By bl p) By Vs 0 0 (An 21 - 1) (by omega) (by omega) hby (by omega) (by omega)) 0 rfl rfl dX9_takesHorse_16 rfl (by decide) (Nat.le_of_ble_eq_true rfl) [0, 1, 3] [2] rfl rfl rfl rfl (by decide) rfl (fun rv wv hp => ?_)
  rcases hp with ⟨a2, rfl, rfl⟩ | ⟨a3, rfl, rfl⟩
  · skip
    refine j_world hJ (ws' := [mO h q ab be bl (nx By bl (nx By bl p)) (tkL By bl (nx By bl (nx By bl p))) (tkK By bl (nx By bl (nx By bl p))) (tkV By bl (nx By bl (nx By bl p))), (q 7, ia Z 150 (ni By)), (q 8, ia Z 138 (ni An)), (q 9, ia Z 3 (ni (va_up Vs 0 (tkV By bl (nx By bl p)))))]) [1, 2, 0, 3] rfl rfl ?_
    show J 19 [(0, .ref h)] [.int (nI 1)] [mO h q ab be bl (nx By bl (nx By bl p)) (tkL By bl (nx By bl (nx By bl p))) (tkK By bl (nx By bl (nx By bl p))) (tkV By bl (nx By bl (nx By bl p))), (q 7, ia Z 150 (ni By)), (q 8, ia Z 138 (ni An)), (q 9, ia Z 3 (ni (va_up Vs 0 (tkV By bl (nx By bl p)))))] 0 0
    have hs1 := a2.2.2
    refine jn_if_eq hJ (q := 22) (tgt := 43) dX9_takesHorse_19 (by decide) rfl (by omega) (fun c4 => ?_) (fun c4 => ?_)
    · skip
      exfalso; omega
    · skip
      refine j_aload_n hJ (q := 23) dX9_takesHorse_22 rfl 0 rfl rfl ?_
      refine j_iconst hJ (q := 24) dX9_takesHorse_23 rfl ki_1 ?_
      refine j_iconst hJ (q := 25) dX9_takesHorse_24 rfl ki_0 ?_
      refine j_iconst hJ (q := 26) dX9_takesHorse_25 rfl ki_5 ?_
      refine j_vW hJ (q := 29) (rest := []) (As := [.int (nI 1), .int (nI 0), .int (nI 5)]) (wr := [(q 8, ia Z 138 (ni An))]) jl_X9_245 (c_X9_takesNumber Z h q ab be bl (nx By bl (nx By bl p)) By (va_up Vs 0 (tkV By bl (nx By bl p))) 1 0 5 (by omega) (by omega) hby (by omega) (by omega)) 0 rfl rfl dX9_takesHorse_26 rfl (by decide) (Nat.le_of_ble_eq_true rfl) [0, 1, 3] [2] rfl rfl rfl rfl (by decide) rfl (fun rv wv hp => ?_)
      rcases hp with ⟨a5, rfl, rfl⟩ | ⟨a6, rfl, rfl⟩
      · skip
        refine j_world hJ (ws' := [mO h q ab be bl (nx By bl (nx By bl (nx By bl p))) (tkL By bl (nx By bl (nx By bl (nx By bl p)))) (tkK By bl (nx By bl (nx By bl (nx By bl p)))) (tkV By bl (nx By bl (nx By bl (nx By bl p)))), (q 7, ia Z 150 (ni By)), (q 8, ia Z 138 (ni An)), (q 9, ia Z 3 (ni (va_up (va_up Vs 0 (tkV By bl (nx By bl p))) 1 (tkV By bl (nx By bl (nx By bl p))))))]) [1, 2, 0, 3] rfl rfl ?_
        show J 29 [(0, .ref h)] [.int (nI 1)] [mO h q ab be bl (nx By bl (nx By bl (nx By bl p))) (tkL By bl (nx By bl (nx By bl (nx By bl p)))) (tkK By bl (nx By bl (nx By bl (nx By bl p)))) (tkV By bl (nx By bl (nx By bl (nx By bl p)))), (q 7, ia Z 150 (ni By)), (q 8, ia Z 138 (ni An)), (q 9, ia Z 3 (ni (va_up (va_up Vs 0 (tkV By bl (nx By bl p))) 1 (tkV By bl (nx By bl (nx By bl p))))))] 0 0
        have hs2 := a5.2.2
        refine jn_if_eq hJ (q := 32) (tgt := 43) dX9_takesHorse_29 (by decide) rfl (by omega) (fun c7 => ?_) (fun c7 => ?_)
        · skip
          exfalso; omega
        · skip
          refine j_aload_n hJ (q := 33) dX9_takesHorse_32 rfl 0 rfl rfl ?_
          refine j_iconst hJ (q := 34) dX9_takesHorse_33 rfl ki_2 ?_
          refine j_iconst hJ (q := 35) dX9_takesHorse_34 rfl ki_0 ?_
          refine j_bipush hJ (q := 37) dX9_takesHorse_35 rfl kb_7 ?_
          refine j_vW hJ (q := 40) (rest := []) (As := [.int (nI 2), .int (nI 0), .int (nI 7)]) (wr := [(q 8, ia Z 138 (ni An))]) jl_X9_245 (c_X9_takesNumber Z h q ab be bl (nx By bl (nx By bl (nx By bl p))) By (va_up (va_up Vs 0 (tkV By bl (nx By bl p))) 1 (tkV By bl (nx By bl (nx By bl p)))) 2 0 7 (by omega) (by omega) hby (by omega) (by omega)) 0 rfl rfl dX9_takesHorse_37 rfl (by decide) (Nat.le_of_ble_eq_true rfl) [0, 1, 3] [2] rfl rfl rfl rfl (by decide) rfl (fun rv wv hp => ?_)
          rcases hp with ⟨a8, rfl, rfl⟩ | ⟨a9, rfl, rfl⟩
          · skip
            refine j_world hJ (ws' := [mO h q ab be bl (nx By bl (nx By bl (nx By bl (nx By bl p)))) (tkL By bl (nx By bl (nx By bl (nx By bl (nx By bl p))))) (tkK By bl (nx By bl (nx By bl (nx By bl (nx By bl p))))) (tkV By bl (nx By bl (nx By bl (nx By bl (nx By bl p))))), (q 7, ia Z 150 (ni By)), (q 8, ia Z 138 (ni An)), (q 9, ia Z 3 (ni (va_up (va_up (va_up Vs 0 (tkV By bl (nx By bl p))) 1 (tkV By bl (nx By bl (nx By bl p)))) 2 (tkV By bl (nx By bl (nx By bl (nx By bl p)))))))]) [1, 2, 0, 3] rfl rfl ?_
            show J 40 [(0, .ref h)] [.int (nI 1)] [mO h q ab be bl (nx By bl (nx By bl (nx By bl (nx By bl p)))) (tkL By bl (nx By bl (nx By bl (nx By bl (nx By bl p))))) (tkK By bl (nx By bl (nx By bl (nx By bl (nx By bl p))))) (tkV By bl (nx By bl (nx By bl (nx By bl (nx By bl p))))), (q 7, ia Z 150 (ni By)), (q 8, ia Z 138 (ni An)), (q 9, ia Z 3 (ni (va_up (va_up (va_up Vs 0 (tkV By bl (nx By bl p))) 1 (tkV By bl (nx By bl (nx By bl p)))) 2 (tkV By bl (nx By bl (nx By bl (nx By bl p)))))))] 0 0
            refine jn_if_ne hJ (q := 43) (tgt := 45) dX9_takesHorse_40 (by decide) rfl (by omega) (fun c10 => ?_) (fun c10 => ?_)
            · skip
              refine j_aload_n hJ (q := 46) dX9_takesHorse_45 rfl 0 rfl rfl ?_
              refine j_get hJ (q := 49) jf_X9_39 dX9_takesHorse_46 0 rfl rfl rfl ?_
              refine j_bipush hJ (q := 51) dX9_takesHorse_49 rfl kb_34 ?_
              refine j_aload_n hJ (q := 52) dX9_takesHorse_51 rfl 0 rfl rfl ?_
              refine j_get hJ (q := 55) jf_X9_42 dX9_takesHorse_52 0 rfl rfl rfl ?_
              refine j_iconst hJ (q := 56) dX9_takesHorse_55 rfl ki_0 ?_
              refine j_ialdN hJ (q := 57) (z := nI (tkV By bl (nx By bl p))) dX9_takesHorse_56 3 rfl (by decide) (by decide) rfl rfl ?_
              refine j_iadd hJ (q := 58) dX9_takesHorse_57 rfl (nI_add _ _) ?_
              refine j_aload_n hJ (q := 59) dX9_takesHorse_58 rfl 0 rfl rfl ?_
              refine j_get hJ (q := 62) jf_X9_42 dX9_takesHorse_59 0 rfl rfl rfl ?_
              refine j_iconst hJ (q := 63) dX9_takesHorse_62 rfl ki_1 ?_
              refine j_ialdN hJ (q := 64) (z := nI (tkV By bl (nx By bl (nx By bl p)))) dX9_takesHorse_63 3 rfl (by decide) (by decide) rfl rfl ?_
              refine j_iastN hJ (q := 65) (ws' := [mO h q ab be bl (nx By bl (nx By bl (nx By bl (nx By bl p)))) (tkL By bl (nx By bl (nx By bl (nx By bl (nx By bl p))))) (tkK By bl (nx By bl (nx By bl (nx By bl (nx By bl p))))) (tkV By bl (nx By bl (nx By bl (nx By bl (nx By bl p))))), (q 7, ia Z 150 (ni By)), (q 8, ia Z 138 (ni (va_up An (34 + (tkV By bl (nx By bl p))) (tkV By bl (nx By bl (nx By bl p)))))), (q 9, ia Z 3 (ni (va_up (va_up (va_up Vs 0 (tkV By bl (nx By bl p))) 1 (tkV By bl (nx By bl (nx By bl p)))) 2 (tkV By bl (nx By bl (nx By bl (nx By bl p)))))))]) dX9_takesHorse_64 2 rfl (by omega) (by decide) (ni_up _ _ _) rfl rfl ?_
              refine j_aload_n hJ (q := 66) dX9_takesHorse_65 rfl 0 rfl rfl ?_
              refine j_get hJ (q := 69) jf_X9_39 dX9_takesHorse_66 0 rfl rfl rfl ?_
              refine j_bipush hJ (q := 71) dX9_takesHorse_69 rfl kb_46 ?_
              refine j_aload_n hJ (q := 72) dX9_takesHorse_71 rfl 0 rfl rfl ?_
              refine j_get hJ (q := 75) jf_X9_42 dX9_takesHorse_72 0 rfl rfl rfl ?_
              refine j_iconst hJ (q := 76) dX9_takesHorse_75 rfl ki_0 ?_
              refine j_ialdN hJ (q := 77) (z := nI (tkV By bl (nx By bl p))) dX9_takesHorse_76 3 rfl (by decide) (by decide) rfl rfl ?_
              refine j_iadd hJ (q := 78) dX9_takesHorse_77 rfl (nI_add _ _) ?_
              refine j_aload_n hJ (q := 79) dX9_takesHorse_78 rfl 0 rfl rfl ?_
              refine j_get hJ (q := 82) jf_X9_42 dX9_takesHorse_79 0 rfl rfl rfl ?_
              refine j_iconst hJ (q := 83) dX9_takesHorse_82 rfl ki_2 ?_
              refine j_ialdN hJ (q := 84) (z := nI (tkV By bl (nx By bl (nx By bl (nx By bl p))))) dX9_takesHorse_83 3 rfl (by decide) (by decide) rfl rfl ?_
              refine j_iastN hJ (q := 85) (ws' := [mO h q ab be bl (nx By bl (nx By bl (nx By bl (nx By bl p)))) (tkL By bl (nx By bl (nx By bl (nx By bl (nx By bl p))))) (tkK By bl (nx By bl (nx By bl (nx By bl (nx By bl p))))) (tkV By bl (nx By bl (nx By bl (nx By bl (nx By bl p))))), (q 7, ia Z 150 (ni By)), (q 8, ia Z 138 (ni (va_up (va_up An (34 + (tkV By bl (nx By bl p))) (tkV By bl (nx By bl (nx By bl p)))) (46 + (tkV By bl (nx By bl p))) (tkV By bl (nx By bl (nx By bl (nx By bl p))))))), (q 9, ia Z 3 (ni (va_up (va_up (va_up Vs 0 (tkV By bl (nx By bl p))) 1 (tkV By bl (nx By bl (nx By bl p)))) 2 (tkV By bl (nx By bl (nx By bl (nx By bl p)))))))]) dX9_takesHorse_84 2 rfl (by omega) (by decide) (ni_up _ _ _) rfl rfl ?_
              refine j_iconst hJ (q := 86) dX9_takesHorse_85 rfl ki_1 ?_
              have hth : thF By bl p An = (true, nx By bl (nx By bl (nx By bl (nx By bl p))), (va_up (va_up An (34 + (tkV By bl (nx By bl p))) (tkV By bl (nx By bl (nx By bl p)))) (46 + (tkV By bl (nx By bl p))) (tkV By bl (nx By bl (nx By bl (nx By bl p)))))) := by unfold thF; rw [if_pos a2, if_pos a5, if_pos a8]
              exact hE.1 _ _ _ _ _ _ _ rfl rfl dX9_takesHorse_86 (Nat.le_refl _) (Nat.le_refl _) (⟨(va_up (va_up (va_up Vs 0 (tkV By bl (nx By bl p))) 1 (tkV By bl (nx By bl (nx By bl p)))) 2 (tkV By bl (nx By bl (nx By bl (nx By bl p))))), congrArg (fun z => some (Value.int (bI z))) (show true = (thF By bl p An).1 by rw [hth]), by rw [hth]⟩)
            · skip
              exfalso; omega
          · skip
            refine j_world hJ (ws' := [mO h q ab be bl (nx By bl (nx By bl (nx By bl p))) (tkL By bl (nx By bl (nx By bl (nx By bl p)))) (tkK By bl (nx By bl (nx By bl (nx By bl p)))) (tkV By bl (nx By bl (nx By bl (nx By bl p)))), (q 7, ia Z 150 (ni By)), (q 8, ia Z 138 (ni An)), (q 9, ia Z 3 (ni (va_up (va_up Vs 0 (tkV By bl (nx By bl p))) 1 (tkV By bl (nx By bl (nx By bl p))))))]) [1, 2, 0, 3] rfl rfl ?_
            show J 40 [(0, .ref h)] [.int (nI 0)] [mO h q ab be bl (nx By bl (nx By bl (nx By bl p))) (tkL By bl (nx By bl (nx By bl (nx By bl p)))) (tkK By bl (nx By bl (nx By bl (nx By bl p)))) (tkV By bl (nx By bl (nx By bl (nx By bl p)))), (q 7, ia Z 150 (ni By)), (q 8, ia Z 138 (ni An)), (q 9, ia Z 3 (ni (va_up (va_up Vs 0 (tkV By bl (nx By bl p))) 1 (tkV By bl (nx By bl (nx By bl p))))))] 0 0
            refine jn_if_ne hJ (q := 43) (tgt := 45) dX9_takesHorse_40 (by decide) rfl (by omega) (fun c11 => ?_) (fun c11 => ?_)
            · skip
              exfalso; omega
            · skip
              refine j_iconst hJ (q := 44) dX9_takesHorse_43 rfl ki_0 ?_
              have hth : thF By bl p An = (false, nx By bl (nx By bl (nx By bl p)), An) := by unfold thF; rw [if_pos a2, if_pos a5, if_neg a9]
              exact hE.1 _ _ _ _ _ _ _ rfl rfl dX9_takesHorse_44 (Nat.le_refl _) (Nat.le_refl _) (⟨(va_up (va_up Vs 0 (tkV By bl (nx By bl p))) 1 (tkV By bl (nx By bl (nx By bl p)))), congrArg (fun z => some (Value.int (bI z))) (show false = (thF By bl p An).1 by rw [hth]), by rw [hth]⟩)
      · skip
        refine j_world hJ (ws' := [mO h q ab be bl (nx By bl (nx By bl p)) (tkL By bl (nx By bl (nx By bl p))) (tkK By bl (nx By bl (nx By bl p))) (tkV By bl (nx By bl (nx By bl p))), (q 7, ia Z 150 (ni By)), (q 8, ia Z 138 (ni An)), (q 9, ia Z 3 (ni (va_up Vs 0 (tkV By bl (nx By bl p)))))]) [1, 2, 0, 3] rfl rfl ?_
        show J 29 [(0, .ref h)] [.int (nI 0)] [mO h q ab be bl (nx By bl (nx By bl p)) (tkL By bl (nx By bl (nx By bl p))) (tkK By bl (nx By bl (nx By bl p))) (tkV By bl (nx By bl (nx By bl p))), (q 7, ia Z 150 (ni By)), (q 8, ia Z 138 (ni An)), (q 9, ia Z 3 (ni (va_up Vs 0 (tkV By bl (nx By bl p)))))] 0 0
        refine jn_if_eq hJ (q := 32) (tgt := 43) dX9_takesHorse_29 (by decide) rfl (by omega) (fun c12 => ?_) (fun c12 => ?_)
        · skip
          refine j_iconst hJ (q := 44) dX9_takesHorse_43 rfl ki_0 ?_
          have hth : thF By bl p An = (false, nx By bl (nx By bl p), An) := by unfold thF; rw [if_pos a2, if_neg a6]
          exact hE.1 _ _ _ _ _ _ _ rfl rfl dX9_takesHorse_44 (Nat.le_refl _) (Nat.le_refl _) (⟨(va_up Vs 0 (tkV By bl (nx By bl p))), congrArg (fun z => some (Value.int (bI z))) (show false = (thF By bl p An).1 by rw [hth]), by rw [hth]⟩)
        · skip
          exfalso; omega
  · skip
    refine j_world hJ (ws' := [mO h q ab be bl (nx By bl p) (tkL By bl (nx By bl p)) (tkK By bl (nx By bl p)) (tkV By bl (nx By bl p)), (q 7, ia Z 150 (ni By)), (q 8, ia Z 138 (ni An)), (q 9, ia Z 3 (ni Vs))]) [1, 2, 0, 3] rfl rfl ?_
    show J 19 [(0, .ref h)] [.int (nI 0)] [mO h q ab be bl (nx By bl p) (tkL By bl (nx By bl p)) (tkK By bl (nx By bl p)) (tkV By bl (nx By bl p)), (q 7, ia Z 150 (ni By)), (q 8, ia Z 138 (ni An)), (q 9, ia Z 3 (ni Vs))] 0 0
    refine jn_if_eq hJ (q := 22) (tgt := 43) dX9_takesHorse_19 (by decide) rfl (by omega) (fun c13 => ?_) (fun c13 => ?_)
    · skip
      refine j_iconst hJ (q := 44) dX9_takesHorse_43 rfl ki_0 ?_
      have hth : thF By bl p An = (false, nx By bl p, An) := by unfold thF; rw [if_neg a3]
      exact hE.1 _ _ _ _ _ _ _ rfl rfl dX9_takesHorse_44 (Nat.le_refl _) (Nat.le_refl _) (⟨Vs, congrArg (fun z => some (Value.int (bI z))) (show false = (thF By bl p An).1 by rw [hth]), by rw [hth]⟩)
    · skip
      exfalso; omega

set_option maxHeartbeats 4000000 in
set_option maxRecDepth 100000 in
theorem c_X9_takesRider (Z : jZ) (h : Nat) (q : Nat → Nat) (ab : Int) (be : Int) (bl : Nat) (p : Nat) (By : Nat → Nat) (An : Nat → Nat) (Vs : Nat → Nat) (hp : p ≤ bl) (hbl : bl ≤ 150) (hby : ∀ j, By j < 128) (hw : wf An) : CT Z yX9_takesRider cX9_takesRider 1 ((some FieldType.boolean)) 6 0 0 [.ref h] [mO h q ab be bl p (tkL By bl p) (tkK By bl p) (tkV By bl p), (q 7, ia Z 150 (ni By)), (q 8, ia Z 138 (ni An)), (q 9, ia Z 3 (ni Vs))] (fun rr ww => ∃ Vx : Nat → Nat, rr = some (.int (bI ((trF By bl p An).1))) ∧ ww = [mO h q ab be bl ((trF By bl p An).2.1) (tkL By bl ((trF By bl p An).2.1)) (tkK By bl ((trF By bl p An).2.1)) (tkV By bl ((trF By bl p An).2.1)), (q 7, ia Z 150 (ni By)), (q 8, ia Z 138 (ni ((trF By bl p An).2.2))), (q 9, ia Z 3 (ni Vx))]) := by
  refine CT.of RX9 false rfl (fun h => by cases h) (by decide +kernel) (Nat.le_of_ble_eq_true rfl) ?_
  intro J hJ hE
  show J 0 [(0, .ref h)] [] [mO h q ab be bl p (tkL By bl p) (tkK By bl p) (tkV By bl p), (q 7, ia Z 150 (ni By)), (q 8, ia Z 138 (ni An)), (q 9, ia Z 3 (ni Vs))] 0 0
  have hn1 := nx_in (By := By) hp
  have hn2 := nx_in (By := By) hn1.2
  have hn3 := nx_in (By := By) hn2.2
  have hn4 := nx_in (By := By) hn3.2
  obtain ⟨⟨n1, n2, n3, n4, n5, n6⟩, nb, nr, nh, nd⟩ := id hw
  refine j_aload_n hJ (q := 1) dX9_takesRider_0 rfl 0 rfl rfl ?_
  refine j_get hJ (q := 4) jf_X9_39 dX9_takesRider_1 0 rfl rfl rfl ?_
  refine j_iconst hJ (q := 5) dX9_takesRider_4 rfl ki_0 ?_
  refine j_ialdN hJ (q := 6) (z := nI (An 0)) dX9_takesRider_5 2 rfl (by decide) (by decide) rfl rfl ?_
  have b1 := nb 0
  refine j_bipush hJ (q := 8) dX9_takesRider_6 rfl kb_6 ?_
  refine jn_icmp_ne hJ (q := 11) (tgt := 13) dX9_takesRider_8 (by decide) rfl (by omega) (by omega) (fun c2 => ?_) (fun c2 => ?_)
  · skip
    refine j_aload_n hJ (q := 14) dX9_takesRider_13 rfl 0 rfl rfl ?_
    refine j_vW hJ (q := 17) (rest := []) (As := []) (wr := [(q 8, ia Z 138 (ni An)), (q 9, ia Z 3 (ni Vs))]) jl_X9_242 (c_X9_goBehind Z h q ab be bl p By (by omega) (by omega) hby) 0 rfl rfl dX9_takesRider_14 rfl (by decide) (Nat.le_of_ble_eq_true rfl) [0, 1] [2, 3] rfl rfl rfl rfl (by decide) rfl (fun rv wv hp => ?_)
    obtain ⟨rfl, rfl⟩ := hp
    refine j_world hJ (ws' := [mO h q ab be bl (nx By bl p) (tkL By bl (nx By bl p)) (tkK By bl (nx By bl p)) (tkV By bl (nx By bl p)), (q 7, ia Z 150 (ni By)), (q 8, ia Z 138 (ni An)), (q 9, ia Z 3 (ni Vs))]) [2, 3, 0, 1] rfl rfl ?_
    show J 17 [(0, .ref h)] [] [mO h q ab be bl (nx By bl p) (tkL By bl (nx By bl p)) (tkK By bl (nx By bl p)) (tkV By bl (nx By bl p)), (q 7, ia Z 150 (ni By)), (q 8, ia Z 138 (ni An)), (q 9, ia Z 3 (ni Vs))] 0 0
    refine j_aload_n hJ (q := 18) dX9_takesRider_17 rfl 0 rfl rfl ?_
    refine j_iconst hJ (q := 19) dX9_takesRider_18 rfl ki_0 ?_
    refine j_iconst hJ (q := 20) dX9_takesRider_19 rfl ki_0 ?_
    refine j_iconst hJ (q := 21) dX9_takesRider_20 rfl ki_5 ?_
    refine j_vW hJ (q := 24) (rest := []) (As := [.int (nI 0), .int (nI 0), .int (nI 5)]) (wr := [(q 8, ia Z 138 (ni An))]) jl_X9_245 (c_X9_takesNumber Z h q ab be bl (nx By bl p) By Vs 0 0 5 (by omega) (by omega) hby (by omega) (by omega)) 0 rfl rfl dX9_takesRider_21 rfl (by decide) (Nat.le_of_ble_eq_true rfl) [0, 1, 3] [2] rfl rfl rfl rfl (by decide) rfl (fun rv wv hp => ?_)
    rcases hp with ⟨a3, rfl, rfl⟩ | ⟨a4, rfl, rfl⟩
    · skip
      refine j_world hJ (ws' := [mO h q ab be bl (nx By bl (nx By bl p)) (tkL By bl (nx By bl (nx By bl p))) (tkK By bl (nx By bl (nx By bl p))) (tkV By bl (nx By bl (nx By bl p))), (q 7, ia Z 150 (ni By)), (q 8, ia Z 138 (ni An)), (q 9, ia Z 3 (ni (va_up Vs 0 (tkV By bl (nx By bl p)))))]) [1, 2, 0, 3] rfl rfl ?_
      show J 24 [(0, .ref h)] [.int (nI 1)] [mO h q ab be bl (nx By bl (nx By bl p)) (tkL By bl (nx By bl (nx By bl p))) (tkK By bl (nx By bl (nx By bl p))) (tkV By bl (nx By bl (nx By bl p))), (q 7, ia Z 150 (ni By)), (q 8, ia Z 138 (ni An)), (q 9, ia Z 3 (ni (va_up Vs 0 (tkV By bl (nx By bl p)))))] 0 0
      refine jn_if_eq hJ (q := 27) (tgt := 79) dX9_takesRider_24 (by decide) rfl (by omega) (fun c5 => ?_) (fun c5 => ?_)
      · skip
        exfalso; omega
      · skip
        refine j_aload_n hJ (q := 28) dX9_takesRider_27 rfl 0 rfl rfl ?_
        refine j_iconst hJ (q := 29) dX9_takesRider_28 rfl ki_1 ?_
        refine j_iconst hJ (q := 30) dX9_takesRider_29 rfl ki_1 ?_
        refine j_bipush hJ (q := 32) dX9_takesRider_30 rfl kb_9 ?_
        refine j_vW hJ (q := 35) (rest := []) (As := [.int (nI 1), .int (nI 1), .int (nI 9)]) (wr := [(q 8, ia Z 138 (ni An))]) jl_X9_245 (c_X9_takesNumber Z h q ab be bl (nx By bl (nx By bl p)) By (va_up Vs 0 (tkV By bl (nx By bl p))) 1 1 9 (by omega) (by omega) hby (by omega) (by omega)) 0 rfl rfl dX9_takesRider_32 rfl (by decide) (Nat.le_of_ble_eq_true rfl) [0, 1, 3] [2] rfl rfl rfl rfl (by decide) rfl (fun rv wv hp => ?_)
        rcases hp with ⟨a6, rfl, rfl⟩ | ⟨a7, rfl, rfl⟩
        · skip
          refine j_world hJ (ws' := [mO h q ab be bl (nx By bl (nx By bl (nx By bl p))) (tkL By bl (nx By bl (nx By bl (nx By bl p)))) (tkK By bl (nx By bl (nx By bl (nx By bl p)))) (tkV By bl (nx By bl (nx By bl (nx By bl p)))), (q 7, ia Z 150 (ni By)), (q 8, ia Z 138 (ni An)), (q 9, ia Z 3 (ni (va_up (va_up Vs 0 (tkV By bl (nx By bl p))) 1 (tkV By bl (nx By bl (nx By bl p))))))]) [1, 2, 0, 3] rfl rfl ?_
          show J 35 [(0, .ref h)] [.int (nI 1)] [mO h q ab be bl (nx By bl (nx By bl (nx By bl p))) (tkL By bl (nx By bl (nx By bl (nx By bl p)))) (tkK By bl (nx By bl (nx By bl (nx By bl p)))) (tkV By bl (nx By bl (nx By bl (nx By bl p)))), (q 7, ia Z 150 (ni By)), (q 8, ia Z 138 (ni An)), (q 9, ia Z 3 (ni (va_up (va_up Vs 0 (tkV By bl (nx By bl p))) 1 (tkV By bl (nx By bl (nx By bl p))))))] 0 0
          refine jn_if_eq hJ (q := 38) (tgt := 79) dX9_takesRider_35 (by decide) rfl (by omega) (fun c8 => ?_) (fun c8 => ?_)
          · skip
            exfalso; omega
          · skip
            have htk3 := tkK_le (By := By) (L := bl) (p := nx By bl (nx By bl (nx By bl p)))
            have hv3 := tkV_le (L := bl) (a := nx By bl (nx By bl (nx By bl p))) hby
            refine j_aload_n hJ (q := 39) dX9_takesRider_38 rfl 0 rfl rfl ?_
            refine j_get hJ (q := 42) jf_X9_226 dX9_takesRider_39 0 rfl rfl rfl ?_
            refine j_iconst hJ (q := 43) dX9_takesRider_42 rfl ki_2 ?_
            refine jn_icmp_ne hJ (q := 46) (tgt := 79) dX9_takesRider_43 (by decide) rfl (by omega) (by omega) (fun c9 => ?_) (fun c9 => ?_)
            · skip
              refine j_iconst hJ (q := 80) dX9_takesRider_79 rfl ki_0 ?_
              have hth : trF By bl p An = (false, nx By bl (nx By bl (nx By bl p)), An) := by unfold trF; rw [if_neg (show ¬ An 0 = 6 by omega), if_pos a3, if_pos a6, if_neg (fun z => by have := z.2.1; omega)]
              exact hE.1 _ _ _ _ _ _ _ rfl rfl dX9_takesRider_80 (Nat.le_refl _) (Nat.le_refl _) (⟨(va_up (va_up Vs 0 (tkV By bl (nx By bl p))) 1 (tkV By bl (nx By bl (nx By bl p)))), congrArg (fun z => some (Value.int (bI z))) (show false = (trF By bl p An).1 by rw [hth]), by rw [hth]⟩)
            · skip
              refine j_aload_n hJ (q := 47) dX9_takesRider_46 rfl 0 rfl rfl ?_
              refine j_get hJ (q := 50) jf_X9_39 dX9_takesRider_47 0 rfl rfl rfl ?_
              refine j_aload_n hJ (q := 51) dX9_takesRider_50 rfl 0 rfl rfl ?_
              refine j_get hJ (q := 54) jf_X9_229 dX9_takesRider_51 0 rfl rfl rfl ?_
              refine j_sR hJ (q := 57) (rest := []) (As := [.ref (q 8), .int (nI (tkV By bl (nx By bl (nx By bl (nx By bl p)))))]) jl_X9_89 (c_X9_whoIs Z (q 8) 138 An (tkV By bl (nx By bl (nx By bl (nx By bl p)))) (by omega) (by omega) (by omega) nb) dX9_takesRider_54 rfl (by decide) (Nat.le_of_ble_eq_true rfl) [2] rfl rfl (fun rv hp => ?_)
              obtain rfl := hp
              show J 57 [(0, .ref h)] [.int (oI (who An (tkV By bl (nx By bl (nx By bl (nx By bl p))))))] [mO h q ab be bl (nx By bl (nx By bl (nx By bl p))) (tkL By bl (nx By bl (nx By bl (nx By bl p)))) (tkK By bl (nx By bl (nx By bl (nx By bl p)))) (tkV By bl (nx By bl (nx By bl (nx By bl p)))), (q 7, ia Z 150 (ni By)), (q 8, ia Z 138 (ni An)), (q 9, ia Z 3 (ni (va_up (va_up Vs 0 (tkV By bl (nx By bl p))) 1 (tkV By bl (nx By bl (nx By bl p))))))] 0 0
              refine j_caseo (fun o10 => ?_) (fun i11 o10 => ?_)
              · skip
                refine j_iconst hJ (q := 58) dX9_takesRider_57 rfl ki_m1 ?_
                refine jz_icmp_ne hJ (q := 61) (tgt := 79) dX9_takesRider_58 (by decide) rfl rfl rfl (by omega) (by omega) (fun c12 => ?_) (fun c12 => ?_)
                · skip
                  exfalso; omega
                · skip
                  refine j_aload_n hJ (q := 62) dX9_takesRider_61 rfl 0 rfl rfl ?_
                  refine j_iconst hJ (q := 63) dX9_takesRider_62 rfl ki_2 ?_
                  refine j_iconst hJ (q := 64) dX9_takesRider_63 rfl ki_0 ?_
                  refine j_aload_n hJ (q := 65) dX9_takesRider_64 rfl 0 rfl rfl ?_
                  refine j_get hJ (q := 68) jf_X9_39 dX9_takesRider_65 0 rfl rfl rfl ?_
                  refine j_bipush hJ (q := 70) dX9_takesRider_68 rfl kb_21 ?_
                  refine j_ialdN hJ (q := 71) (z := nI (An 21)) dX9_takesRider_70 2 rfl (by decide) (by decide) rfl rfl ?_
                  have b13 := nb 21
                  refine j_iconst hJ (q := 72) dX9_takesRider_71 rfl ki_1 ?_
                  refine j_isub hJ (q := 73) dX9_takesRider_72 rfl (pk_sub (by omega)) ?_
                  refine j_vW hJ (q := 76) (rest := []) (As := [.int (nI 2), .int (nI 0), .int (nI (An 21 - 1))]) (wr := [(q 8, ia Z 138 (ni An))]) jl_X9_245 (c_X9_takesNumber Z h q ab be bl (nx By bl (nx By bl (nx By bl p))) By (va_up (va_up Vs 0 (tkV By bl (nx By bl p))) 1 (tkV By bl (nx By bl (nx By bl p)))) 2 0 (An 21 - 1) (by omega) (by omega) hby (by omega) (by omega)) 0 rfl rfl dX9_takesRider_73 rfl (by decide) (Nat.le_of_ble_eq_true rfl) [0, 1, 3] [2] rfl rfl rfl rfl (by decide) rfl (fun rv wv hp => ?_)
                  rcases hp with ⟨a14, rfl, rfl⟩ | ⟨a15, rfl, rfl⟩
                  · skip
                    refine j_world hJ (ws' := [mO h q ab be bl (nx By bl (nx By bl (nx By bl (nx By bl p)))) (tkL By bl (nx By bl (nx By bl (nx By bl (nx By bl p))))) (tkK By bl (nx By bl (nx By bl (nx By bl (nx By bl p))))) (tkV By bl (nx By bl (nx By bl (nx By bl (nx By bl p))))), (q 7, ia Z 150 (ni By)), (q 8, ia Z 138 (ni An)), (q 9, ia Z 3 (ni (va_up (va_up (va_up Vs 0 (tkV By bl (nx By bl p))) 1 (tkV By bl (nx By bl (nx By bl p)))) 2 (tkV By bl (nx By bl (nx By bl (nx By bl p)))))))]) [1, 2, 0, 3] rfl rfl ?_
                    show J 76 [(0, .ref h)] [.int (nI 1)] [mO h q ab be bl (nx By bl (nx By bl (nx By bl (nx By bl p)))) (tkL By bl (nx By bl (nx By bl (nx By bl (nx By bl p))))) (tkK By bl (nx By bl (nx By bl (nx By bl (nx By bl p))))) (tkV By bl (nx By bl (nx By bl (nx By bl (nx By bl p))))), (q 7, ia Z 150 (ni By)), (q 8, ia Z 138 (ni An)), (q 9, ia Z 3 (ni (va_up (va_up (va_up Vs 0 (tkV By bl (nx By bl p))) 1 (tkV By bl (nx By bl (nx By bl p)))) 2 (tkV By bl (nx By bl (nx By bl (nx By bl p)))))))] 0 0
                    refine jn_if_ne hJ (q := 79) (tgt := 81) dX9_takesRider_76 (by decide) rfl (by omega) (fun c16 => ?_) (fun c16 => ?_)
                    · skip
                      refine j_aload_n hJ (q := 82) dX9_takesRider_81 rfl 0 rfl rfl ?_
                      refine j_get hJ (q := 85) jf_X9_39 dX9_takesRider_82 0 rfl rfl rfl ?_
                      refine j_aload_n hJ (q := 86) dX9_takesRider_85 rfl 0 rfl rfl ?_
                      refine j_get hJ (q := 89) jf_X9_42 dX9_takesRider_86 0 rfl rfl rfl ?_
                      refine j_iconst hJ (q := 90) dX9_takesRider_89 rfl ki_0 ?_
                      refine j_ialdN hJ (q := 91) (z := nI (tkV By bl (nx By bl p))) dX9_takesRider_90 3 rfl (by decide) (by decide) rfl rfl ?_
                      refine j_aload_n hJ (q := 92) dX9_takesRider_91 rfl 0 rfl rfl ?_
                      refine j_get hJ (q := 95) jf_X9_42 dX9_takesRider_92 0 rfl rfl rfl ?_
                      refine j_iconst hJ (q := 96) dX9_takesRider_95 rfl ki_1 ?_
                      refine j_ialdN hJ (q := 97) (z := nI (tkV By bl (nx By bl (nx By bl p)))) dX9_takesRider_96 3 rfl (by decide) (by decide) rfl rfl ?_
                      refine j_aload_n hJ (q := 98) dX9_takesRider_97 rfl 0 rfl rfl ?_
                      refine j_get hJ (q := 101) jf_X9_42 dX9_takesRider_98 0 rfl rfl rfl ?_
                      refine j_iconst hJ (q := 102) dX9_takesRider_101 rfl ki_2 ?_
                      refine j_ialdN hJ (q := 103) (z := nI (tkV By bl (nx By bl (nx By bl (nx By bl p))))) dX9_takesRider_102 3 rfl (by decide) (by decide) rfl rfl ?_
                      refine j_sW hJ (q := 106) (rest := []) (As := [.ref (q 8), .int (nI (tkV By bl (nx By bl p))), .int (nI (tkV By bl (nx By bl (nx By bl p)))), .int (nI (tkV By bl (nx By bl (nx By bl (nx By bl p)))))]) (wr := [mO h q ab be bl (nx By bl (nx By bl (nx By bl (nx By bl p)))) (tkL By bl (nx By bl (nx By bl (nx By bl (nx By bl p))))) (tkK By bl (nx By bl (nx By bl (nx By bl (nx By bl p))))) (tkV By bl (nx By bl (nx By bl (nx By bl (nx By bl p))))), (q 7, ia Z 150 (ni By)), (q 9, ia Z 3 (ni (va_up (va_up (va_up Vs 0 (tkV By bl (nx By bl p))) 1 (tkV By bl (nx By bl (nx By bl p)))) 2 (tkV By bl (nx By bl (nx By bl (nx By bl p)))))))]) jl_X9_99 (c_X9_layRider Z (q 8) 138 An (tkV By bl (nx By bl p)) (tkV By bl (nx By bl (nx By bl p))) (tkV By bl (nx By bl (nx By bl (nx By bl p)))) (by omega) (by omega)) dX9_takesRider_103 rfl (by decide) (Nat.le_of_ble_eq_true rfl) [2] [0, 1, 3] rfl rfl rfl rfl (by decide) rfl (fun rv wv hp => ?_)
                      obtain ⟨rfl, rfl⟩ := hp
                      refine j_world hJ (ws' := [mO h q ab be bl (nx By bl (nx By bl (nx By bl (nx By bl p)))) (tkL By bl (nx By bl (nx By bl (nx By bl (nx By bl p))))) (tkK By bl (nx By bl (nx By bl (nx By bl (nx By bl p))))) (tkV By bl (nx By bl (nx By bl (nx By bl (nx By bl p))))), (q 7, ia Z 150 (ni By)), ((q 8), ia Z 138 (ni (layR An (tkV By bl (nx By bl p)) (tkV By bl (nx By bl (nx By bl p))) (tkV By bl (nx By bl (nx By bl (nx By bl p))))))), (q 9, ia Z 3 (ni (va_up (va_up (va_up Vs 0 (tkV By bl (nx By bl p))) 1 (tkV By bl (nx By bl (nx By bl p)))) 2 (tkV By bl (nx By bl (nx By bl (nx By bl p)))))))]) [0, 1, 3, 2] rfl rfl ?_
                      show J 106 [(0, .ref h)] [] [mO h q ab be bl (nx By bl (nx By bl (nx By bl (nx By bl p)))) (tkL By bl (nx By bl (nx By bl (nx By bl (nx By bl p))))) (tkK By bl (nx By bl (nx By bl (nx By bl (nx By bl p))))) (tkV By bl (nx By bl (nx By bl (nx By bl (nx By bl p))))), (q 7, ia Z 150 (ni By)), ((q 8), ia Z 138 (ni (layR An (tkV By bl (nx By bl p)) (tkV By bl (nx By bl (nx By bl p))) (tkV By bl (nx By bl (nx By bl (nx By bl p))))))), (q 9, ia Z 3 (ni (va_up (va_up (va_up Vs 0 (tkV By bl (nx By bl p))) 1 (tkV By bl (nx By bl (nx By bl p)))) 2 (tkV By bl (nx By bl (nx By bl (nx By bl p)))))))] 0 0
                      refine j_iconst hJ (q := 107) dX9_takesRider_106 rfl ki_1 ?_
                      have hth : trF By bl p An = (true, nx By bl (nx By bl (nx By bl (nx By bl p))), (layR An (tkV By bl (nx By bl p)) (tkV By bl (nx By bl (nx By bl p))) (tkV By bl (nx By bl (nx By bl (nx By bl p)))))) := by unfold trF; rw [if_neg (show ¬ An 0 = 6 by omega), if_pos a3, if_pos a6, if_pos ⟨o10, a14⟩]
                      exact hE.1 _ _ _ _ _ _ _ rfl rfl dX9_takesRider_107 (Nat.le_refl _) (Nat.le_refl _) (⟨(va_up (va_up (va_up Vs 0 (tkV By bl (nx By bl p))) 1 (tkV By bl (nx By bl (nx By bl p)))) 2 (tkV By bl (nx By bl (nx By bl (nx By bl p))))), congrArg (fun z => some (Value.int (bI z))) (show true = (trF By bl p An).1 by rw [hth]), by rw [hth]⟩)
                    · skip
                      exfalso; omega
                  · skip
                    refine j_world hJ (ws' := [mO h q ab be bl (nx By bl (nx By bl (nx By bl p))) (tkL By bl (nx By bl (nx By bl (nx By bl p)))) (tkK By bl (nx By bl (nx By bl (nx By bl p)))) (tkV By bl (nx By bl (nx By bl (nx By bl p)))), (q 7, ia Z 150 (ni By)), (q 8, ia Z 138 (ni An)), (q 9, ia Z 3 (ni (va_up (va_up Vs 0 (tkV By bl (nx By bl p))) 1 (tkV By bl (nx By bl (nx By bl p))))))]) [1, 2, 0, 3] rfl rfl ?_
                    show J 76 [(0, .ref h)] [.int (nI 0)] [mO h q ab be bl (nx By bl (nx By bl (nx By bl p))) (tkL By bl (nx By bl (nx By bl (nx By bl p)))) (tkK By bl (nx By bl (nx By bl (nx By bl p)))) (tkV By bl (nx By bl (nx By bl (nx By bl p)))), (q 7, ia Z 150 (ni By)), (q 8, ia Z 138 (ni An)), (q 9, ia Z 3 (ni (va_up (va_up Vs 0 (tkV By bl (nx By bl p))) 1 (tkV By bl (nx By bl (nx By bl p))))))] 0 0
                    refine jn_if_ne hJ (q := 79) (tgt := 81) dX9_takesRider_76 (by decide) rfl (by omega) (fun c17 => ?_) (fun c17 => ?_)
                    · skip
                      exfalso; omega
                    · skip
                      refine j_iconst hJ (q := 80) dX9_takesRider_79 rfl ki_0 ?_
                      have hth : trF By bl p An = (false, nx By bl (nx By bl (nx By bl p)), An) := by unfold trF; rw [if_neg (show ¬ An 0 = 6 by omega), if_pos a3, if_pos a6, if_neg (fun z => a15 z.2)]
                      exact hE.1 _ _ _ _ _ _ _ rfl rfl dX9_takesRider_80 (Nat.le_refl _) (Nat.le_refl _) (⟨(va_up (va_up Vs 0 (tkV By bl (nx By bl p))) 1 (tkV By bl (nx By bl (nx By bl p)))), congrArg (fun z => some (Value.int (bI z))) (show false = (trF By bl p An).1 by rw [hth]), by rw [hth]⟩)
              · skip
                have hws := who_some o10
                refine j_iconst hJ (q := 58) dX9_takesRider_57 rfl ki_m1 ?_
                refine jz_icmp_ne hJ (q := 61) (tgt := 79) dX9_takesRider_58 (by decide) rfl (zI_nat i11).symm rfl (by omega) (by omega) (fun c18 => ?_) (fun c18 => ?_)
                · skip
                  refine j_iconst hJ (q := 80) dX9_takesRider_79 rfl ki_0 ?_
                  have hth : trF By bl p An = (false, nx By bl (nx By bl (nx By bl p)), An) := by unfold trF; rw [if_neg (show ¬ An 0 = 6 by omega), if_pos a3, if_pos a6, if_neg (fun z => by rw [o10] at z; cases z.1)]
                  exact hE.1 _ _ _ _ _ _ _ rfl rfl dX9_takesRider_80 (Nat.le_refl _) (Nat.le_refl _) (⟨(va_up (va_up Vs 0 (tkV By bl (nx By bl p))) 1 (tkV By bl (nx By bl (nx By bl p)))), congrArg (fun z => some (Value.int (bI z))) (show false = (trF By bl p An).1 by rw [hth]), by rw [hth]⟩)
                · skip
                  exfalso; omega
        · skip
          refine j_world hJ (ws' := [mO h q ab be bl (nx By bl (nx By bl p)) (tkL By bl (nx By bl (nx By bl p))) (tkK By bl (nx By bl (nx By bl p))) (tkV By bl (nx By bl (nx By bl p))), (q 7, ia Z 150 (ni By)), (q 8, ia Z 138 (ni An)), (q 9, ia Z 3 (ni (va_up Vs 0 (tkV By bl (nx By bl p)))))]) [1, 2, 0, 3] rfl rfl ?_
          show J 35 [(0, .ref h)] [.int (nI 0)] [mO h q ab be bl (nx By bl (nx By bl p)) (tkL By bl (nx By bl (nx By bl p))) (tkK By bl (nx By bl (nx By bl p))) (tkV By bl (nx By bl (nx By bl p))), (q 7, ia Z 150 (ni By)), (q 8, ia Z 138 (ni An)), (q 9, ia Z 3 (ni (va_up Vs 0 (tkV By bl (nx By bl p)))))] 0 0
          refine jn_if_eq hJ (q := 38) (tgt := 79) dX9_takesRider_35 (by decide) rfl (by omega) (fun c19 => ?_) (fun c19 => ?_)
          · skip
            refine j_iconst hJ (q := 80) dX9_takesRider_79 rfl ki_0 ?_
            have hth : trF By bl p An = (false, nx By bl (nx By bl p), An) := by unfold trF; rw [if_neg (show ¬ An 0 = 6 by omega), if_pos a3, if_neg a7]
            exact hE.1 _ _ _ _ _ _ _ rfl rfl dX9_takesRider_80 (Nat.le_refl _) (Nat.le_refl _) (⟨(va_up Vs 0 (tkV By bl (nx By bl p))), congrArg (fun z => some (Value.int (bI z))) (show false = (trF By bl p An).1 by rw [hth]), by rw [hth]⟩)
          · skip
            exfalso; omega
    · skip
      refine j_world hJ (ws' := [mO h q ab be bl (nx By bl p) (tkL By bl (nx By bl p)) (tkK By bl (nx By bl p)) (tkV By bl (nx By bl p)), (q 7, ia Z 150 (ni By)), (q 8, ia Z 138 (ni An)), (q 9, ia Z 3 (ni Vs))]) [1, 2, 0, 3] rfl rfl ?_
      show J 24 [(0, .ref h)] [.int (nI 0)] [mO h q ab be bl (nx By bl p) (tkL By bl (nx By bl p)) (tkK By bl (nx By bl p)) (tkV By bl (nx By bl p)), (q 7, ia Z 150 (ni By)), (q 8, ia Z 138 (ni An)), (q 9, ia Z 3 (ni Vs))] 0 0
      refine jn_if_eq hJ (q := 27) (tgt := 79) dX9_takesRider_24 (by decide) rfl (by omega) (fun c20 => ?_) (fun c20 => ?_)
      · skip
        refine j_iconst hJ (q := 80) dX9_takesRider_79 rfl ki_0 ?_
        have hth : trF By bl p An = (false, nx By bl p, An) := by unfold trF; rw [if_neg (show ¬ An 0 = 6 by omega), if_neg a4]
        exact hE.1 _ _ _ _ _ _ _ rfl rfl dX9_takesRider_80 (Nat.le_refl _) (Nat.le_refl _) (⟨Vs, congrArg (fun z => some (Value.int (bI z))) (show false = (trF By bl p An).1 by rw [hth]), by rw [hth]⟩)
      · skip
        exfalso; omega
  · skip
    refine j_iconst hJ (q := 12) dX9_takesRider_11 rfl ki_0 ?_
    have hth : trF By bl p An = (false, p, An) := by unfold trF; rw [if_pos (by omega)]
    exact hE.1 _ _ _ _ _ _ _ rfl rfl dX9_takesRider_12 (Nat.le_refl _) (Nat.le_refl _) (⟨Vs, congrArg (fun z => some (Value.int (bI z))) (show false = (trF By bl p An).1 by rw [hth]), by rw [hth]⟩)

set_option maxHeartbeats 4000000 in
set_option maxRecDepth 100000 in
theorem c_X9_takesRing (Z : jZ) (h : Nat) (q : Nat → Nat) (ab : Int) (be : Int) (bl : Nat) (p : Nat) (By : Nat → Nat) (An : Nat → Nat) (Vs : Nat → Nat) (hp : p ≤ bl) (hbl : bl ≤ 150) (hby : ∀ j, By j < 128) (hw : wf An) : CT Z yX9_takesRing cX9_takesRing 1 ((some FieldType.boolean)) 6 0 0 [.ref h] [mO h q ab be bl p (tkL By bl p) (tkK By bl p) (tkV By bl p), (q 7, ia Z 150 (ni By)), (q 8, ia Z 138 (ni An)), (q 9, ia Z 3 (ni Vs))] (fun rr ww => ∃ Vx : Nat → Nat, rr = some (.int (bI ((tgF By bl p An).1))) ∧ ww = [mO h q ab be bl ((tgF By bl p An).2.1) (tkL By bl ((tgF By bl p An).2.1)) (tkK By bl ((tgF By bl p An).2.1)) (tkV By bl ((tgF By bl p An).2.1)), (q 7, ia Z 150 (ni By)), (q 8, ia Z 138 (ni ((tgF By bl p An).2.2))), (q 9, ia Z 3 (ni Vx))]) := by
  refine CT.of RX9 false rfl (fun h => by cases h) (by decide +kernel) (Nat.le_of_ble_eq_true rfl) ?_
  intro J hJ hE
  show J 0 [(0, .ref h)] [] [mO h q ab be bl p (tkL By bl p) (tkK By bl p) (tkV By bl p), (q 7, ia Z 150 (ni By)), (q 8, ia Z 138 (ni An)), (q 9, ia Z 3 (ni Vs))] 0 0
  have hn1 := nx_in (By := By) hp
  have hn2 := nx_in (By := By) hn1.2
  have hn3 := nx_in (By := By) hn2.2
  have hn4 := nx_in (By := By) hn3.2
  obtain ⟨⟨n1, n2, n3, n4, n5, n6⟩, nb, nr, nh, nd⟩ := id hw
  refine j_aload_n hJ (q := 1) dX9_takesRing_0 rfl 0 rfl rfl ?_
  refine j_vW hJ (q := 4) (rest := []) (As := []) (wr := [(q 8, ia Z 138 (ni An)), (q 9, ia Z 3 (ni Vs))]) jl_X9_242 (c_X9_goBehind Z h q ab be bl p By (by omega) (by omega) hby) 0 rfl rfl dX9_takesRing_1 rfl (by decide) (Nat.le_of_ble_eq_true rfl) [0, 1] [2, 3] rfl rfl rfl rfl (by decide) rfl (fun rv wv hp => ?_)
  obtain ⟨rfl, rfl⟩ := hp
  refine j_world hJ (ws' := [mO h q ab be bl (nx By bl p) (tkL By bl (nx By bl p)) (tkK By bl (nx By bl p)) (tkV By bl (nx By bl p)), (q 7, ia Z 150 (ni By)), (q 8, ia Z 138 (ni An)), (q 9, ia Z 3 (ni Vs))]) [2, 3, 0, 1] rfl rfl ?_
  show J 4 [(0, .ref h)] [] [mO h q ab be bl (nx By bl p) (tkL By bl (nx By bl p)) (tkK By bl (nx By bl p)) (tkV By bl (nx By bl p)), (q 7, ia Z 150 (ni By)), (q 8, ia Z 138 (ni An)), (q 9, ia Z 3 (ni Vs))] 0 0
  refine j_aload_n hJ (q := 5) dX9_takesRing_4 rfl 0 rfl rfl ?_
  refine j_iconst hJ (q := 6) dX9_takesRing_5 rfl ki_0 ?_
  refine j_iconst hJ (q := 7) dX9_takesRing_6 rfl ki_0 ?_
  refine j_bipush hJ (q := 9) dX9_takesRing_7 rfl kb_20 ?_
  refine j_vW hJ (q := 12) (rest := []) (As := [.int (nI 0), .int (nI 0), .int (nI 20)]) (wr := [(q 8, ia Z 138 (ni An))]) jl_X9_245 (c_X9_takesNumber Z h q ab be bl (nx By bl p) By Vs 0 0 20 (by omega) (by omega) hby (by omega) (by omega)) 0 rfl rfl dX9_takesRing_9 rfl (by decide) (Nat.le_of_ble_eq_true rfl) [0, 1, 3] [2] rfl rfl rfl rfl (by decide) rfl (fun rv wv hp => ?_)
  rcases hp with ⟨a1, rfl, rfl⟩ | ⟨a2, rfl, rfl⟩
  · skip
    refine j_world hJ (ws' := [mO h q ab be bl (nx By bl (nx By bl p)) (tkL By bl (nx By bl (nx By bl p))) (tkK By bl (nx By bl (nx By bl p))) (tkV By bl (nx By bl (nx By bl p))), (q 7, ia Z 150 (ni By)), (q 8, ia Z 138 (ni An)), (q 9, ia Z 3 (ni (va_up Vs 0 (tkV By bl (nx By bl p)))))]) [1, 2, 0, 3] rfl rfl ?_
    show J 12 [(0, .ref h)] [.int (nI 1)] [mO h q ab be bl (nx By bl (nx By bl p)) (tkL By bl (nx By bl (nx By bl p))) (tkK By bl (nx By bl (nx By bl p))) (tkV By bl (nx By bl (nx By bl p))), (q 7, ia Z 150 (ni By)), (q 8, ia Z 138 (ni An)), (q 9, ia Z 3 (ni (va_up Vs 0 (tkV By bl (nx By bl p)))))] 0 0
    refine jn_if_ne hJ (q := 15) (tgt := 17) dX9_takesRing_12 (by decide) rfl (by omega) (fun c3 => ?_) (fun c3 => ?_)
    · skip
      refine j_aload_n hJ (q := 18) dX9_takesRing_17 rfl 0 rfl rfl ?_
      refine j_get hJ (q := 21) jf_X9_39 dX9_takesRing_18 0 rfl rfl rfl ?_
      refine j_bipush hJ (q := 23) dX9_takesRing_21 rfl kb_7 ?_
      refine j_aload_n hJ (q := 24) dX9_takesRing_23 rfl 0 rfl rfl ?_
      refine j_get hJ (q := 27) jf_X9_42 dX9_takesRing_24 0 rfl rfl rfl ?_
      refine j_iconst hJ (q := 28) dX9_takesRing_27 rfl ki_0 ?_
      refine j_ialdN hJ (q := 29) (z := nI (tkV By bl (nx By bl p))) dX9_takesRing_28 3 rfl (by decide) (by decide) rfl rfl ?_
      refine j_iastN hJ (q := 30) (ws' := [mO h q ab be bl (nx By bl (nx By bl p)) (tkL By bl (nx By bl (nx By bl p))) (tkK By bl (nx By bl (nx By bl p))) (tkV By bl (nx By bl (nx By bl p))), (q 7, ia Z 150 (ni By)), (q 8, ia Z 138 (ni (va_up An 7 (tkV By bl (nx By bl p))))), (q 9, ia Z 3 (ni (va_up Vs 0 (tkV By bl (nx By bl p)))))]) dX9_takesRing_29 2 rfl (by decide) (by decide) (ni_up _ _ _) rfl rfl ?_
      refine j_iconst hJ (q := 31) dX9_takesRing_30 rfl ki_1 ?_
      have hth : tgF By bl p An = (true, nx By bl (nx By bl p), (va_up An 7 (tkV By bl (nx By bl p)))) := by unfold tgF; rw [if_pos a1]
      exact hE.1 _ _ _ _ _ _ _ rfl rfl dX9_takesRing_31 (Nat.le_refl _) (Nat.le_refl _) (⟨(va_up Vs 0 (tkV By bl (nx By bl p))), congrArg (fun z => some (Value.int (bI z))) (show true = (tgF By bl p An).1 by rw [hth]), by rw [hth]⟩)
    · skip
      exfalso; omega
  · skip
    refine j_world hJ (ws' := [mO h q ab be bl (nx By bl p) (tkL By bl (nx By bl p)) (tkK By bl (nx By bl p)) (tkV By bl (nx By bl p)), (q 7, ia Z 150 (ni By)), (q 8, ia Z 138 (ni An)), (q 9, ia Z 3 (ni Vs))]) [1, 2, 0, 3] rfl rfl ?_
    show J 12 [(0, .ref h)] [.int (nI 0)] [mO h q ab be bl (nx By bl p) (tkL By bl (nx By bl p)) (tkK By bl (nx By bl p)) (tkV By bl (nx By bl p)), (q 7, ia Z 150 (ni By)), (q 8, ia Z 138 (ni An)), (q 9, ia Z 3 (ni Vs))] 0 0
    refine jn_if_ne hJ (q := 15) (tgt := 17) dX9_takesRing_12 (by decide) rfl (by omega) (fun c4 => ?_) (fun c4 => ?_)
    · skip
      exfalso; omega
    · skip
      refine j_iconst hJ (q := 16) dX9_takesRing_15 rfl ki_0 ?_
      have hth : tgF By bl p An = (false, nx By bl p, An) := by unfold tgF; rw [if_neg a2]
      exact hE.1 _ _ _ _ _ _ _ rfl rfl dX9_takesRing_16 (Nat.le_refl _) (Nat.le_refl _) (⟨Vs, congrArg (fun z => some (Value.int (bI z))) (show false = (tgF By bl p An).1 by rw [hth]), by rw [hth]⟩)

set_option maxHeartbeats 4000000 in
set_option maxRecDepth 100000 in
theorem c_X9_takesGo (Z : jZ) (h : Nat) (q : Nat → Nat) (ab : Int) (be : Int) (bl : Nat) (p : Nat) (By : Nat → Nat) (An : Nat → Nat) (Vs : Nat → Nat) (hp : p ≤ bl) (hbl : bl ≤ 150) (hby : ∀ j, By j < 128) (hw : wf An) : CT Z yX9_takesGo cX9_takesGo 1 ((some FieldType.boolean)) 6 0 0 [.ref h] [mO h q ab be bl p (tkL By bl p) (tkK By bl p) (tkV By bl p), (q 7, ia Z 150 (ni By)), (q 8, ia Z 138 (ni An)), (q 9, ia Z 3 (ni Vs))] (fun rr ww => ∃ Vx : Nat → Nat, rr = some (.int (bI ((toF By bl p An).1))) ∧ ww = [mO h q ab be bl ((toF By bl p An).2.1) (tkL By bl ((toF By bl p An).2.1)) (tkK By bl ((toF By bl p An).2.1)) (tkV By bl ((toF By bl p An).2.1)), (q 7, ia Z 150 (ni By)), (q 8, ia Z 138 (ni ((toF By bl p An).2.2))), (q 9, ia Z 3 (ni Vx))]) := by
  refine CT.of RX9 false rfl (fun h => by cases h) (by decide +kernel) (Nat.le_of_ble_eq_true rfl) ?_
  intro J hJ hE
  show J 0 [(0, .ref h)] [] [mO h q ab be bl p (tkL By bl p) (tkK By bl p) (tkV By bl p), (q 7, ia Z 150 (ni By)), (q 8, ia Z 138 (ni An)), (q 9, ia Z 3 (ni Vs))] 0 0
  have hn1 := nx_in (By := By) hp
  have hn2 := nx_in (By := By) hn1.2
  have hn3 := nx_in (By := By) hn2.2
  have hn4 := nx_in (By := By) hn3.2
  obtain ⟨⟨n1, n2, n3, n4, n5, n6⟩, nb, nr, nh, nd⟩ := id hw
  refine j_aload_n hJ (q := 1) dX9_takesGo_0 rfl 0 rfl rfl ?_
  refine j_vW hJ (q := 4) (rest := []) (As := []) (wr := [(q 8, ia Z 138 (ni An)), (q 9, ia Z 3 (ni Vs))]) jl_X9_242 (c_X9_goBehind Z h q ab be bl p By (by omega) (by omega) hby) 0 rfl rfl dX9_takesGo_1 rfl (by decide) (Nat.le_of_ble_eq_true rfl) [0, 1] [2, 3] rfl rfl rfl rfl (by decide) rfl (fun rv wv hp => ?_)
  obtain ⟨rfl, rfl⟩ := hp
  refine j_world hJ (ws' := [mO h q ab be bl (nx By bl p) (tkL By bl (nx By bl p)) (tkK By bl (nx By bl p)) (tkV By bl (nx By bl p)), (q 7, ia Z 150 (ni By)), (q 8, ia Z 138 (ni An)), (q 9, ia Z 3 (ni Vs))]) [2, 3, 0, 1] rfl rfl ?_
  show J 4 [(0, .ref h)] [] [mO h q ab be bl (nx By bl p) (tkL By bl (nx By bl p)) (tkK By bl (nx By bl p)) (tkV By bl (nx By bl p)), (q 7, ia Z 150 (ni By)), (q 8, ia Z 138 (ni An)), (q 9, ia Z 3 (ni Vs))] 0 0
  refine j_aload_n hJ (q := 5) dX9_takesGo_4 rfl 0 rfl rfl ?_
  refine j_iconst hJ (q := 6) dX9_takesGo_5 rfl ki_0 ?_
  refine j_iconst hJ (q := 7) dX9_takesGo_6 rfl ki_1 ?_
  refine j_bipush hJ (q := 9) dX9_takesGo_7 rfl kb_99 ?_
  refine j_vW hJ (q := 12) (rest := []) (As := [.int (nI 0), .int (nI 1), .int (nI 99)]) (wr := [(q 8, ia Z 138 (ni An))]) jl_X9_245 (c_X9_takesNumber Z h q ab be bl (nx By bl p) By Vs 0 1 99 (by omega) (by omega) hby (by omega) (by omega)) 0 rfl rfl dX9_takesGo_9 rfl (by decide) (Nat.le_of_ble_eq_true rfl) [0, 1, 3] [2] rfl rfl rfl rfl (by decide) rfl (fun rv wv hp => ?_)
  rcases hp with ⟨a1, rfl, rfl⟩ | ⟨a2, rfl, rfl⟩
  · skip
    refine j_world hJ (ws' := [mO h q ab be bl (nx By bl (nx By bl p)) (tkL By bl (nx By bl (nx By bl p))) (tkK By bl (nx By bl (nx By bl p))) (tkV By bl (nx By bl (nx By bl p))), (q 7, ia Z 150 (ni By)), (q 8, ia Z 138 (ni An)), (q 9, ia Z 3 (ni (va_up Vs 0 (tkV By bl (nx By bl p)))))]) [1, 2, 0, 3] rfl rfl ?_
    show J 12 [(0, .ref h)] [.int (nI 1)] [mO h q ab be bl (nx By bl (nx By bl p)) (tkL By bl (nx By bl (nx By bl p))) (tkK By bl (nx By bl (nx By bl p))) (tkV By bl (nx By bl (nx By bl p))), (q 7, ia Z 150 (ni By)), (q 8, ia Z 138 (ni An)), (q 9, ia Z 3 (ni (va_up Vs 0 (tkV By bl (nx By bl p)))))] 0 0
    have hs1 := a1.2.2
    refine jn_if_ne hJ (q := 15) (tgt := 17) dX9_takesGo_12 (by decide) rfl (by omega) (fun c3 => ?_) (fun c3 => ?_)
    · skip
      refine j_aload_n hJ (q := 18) dX9_takesGo_17 rfl 0 rfl rfl ?_
      refine j_get hJ (q := 21) jf_X9_39 dX9_takesGo_18 0 rfl rfl rfl ?_
      refine j_aload_n hJ (q := 22) dX9_takesGo_21 rfl 0 rfl rfl ?_
      refine j_get hJ (q := 25) jf_X9_42 dX9_takesGo_22 0 rfl rfl rfl ?_
      refine j_iconst hJ (q := 26) dX9_takesGo_25 rfl ki_0 ?_
      refine j_ialdN hJ (q := 27) (z := nI (tkV By bl (nx By bl p))) dX9_takesGo_26 3 rfl (by decide) (by decide) rfl rfl ?_
      refine j_sW hJ (q := 30) (rest := []) (As := [.ref (q 8), .int (nI (tkV By bl (nx By bl p)))]) (wr := [mO h q ab be bl (nx By bl (nx By bl p)) (tkL By bl (nx By bl (nx By bl p))) (tkK By bl (nx By bl (nx By bl p))) (tkV By bl (nx By bl (nx By bl p))), (q 7, ia Z 150 (ni By)), (q 9, ia Z 3 (ni (va_up Vs 0 (tkV By bl (nx By bl p)))))]) jl_X9_125 (c_X9_goTicks Z (q 8) 138 An (tkV By bl (nx By bl p)) (by omega) hw (by omega)) dX9_takesGo_27 rfl (by decide) (Nat.le_of_ble_eq_true rfl) [2] [0, 1, 3] rfl rfl rfl rfl (by decide) rfl (fun rv wv hp => ?_)
      obtain ⟨rfl, rfl⟩ := hp
      refine j_world hJ (ws' := [mO h q ab be bl (nx By bl (nx By bl p)) (tkL By bl (nx By bl (nx By bl p))) (tkK By bl (nx By bl (nx By bl p))) (tkV By bl (nx By bl (nx By bl p))), (q 7, ia Z 150 (ni By)), ((q 8), ia Z 138 (ni (goN (tkV By bl (nx By bl p)) An))), (q 9, ia Z 3 (ni (va_up Vs 0 (tkV By bl (nx By bl p)))))]) [0, 1, 3, 2] rfl rfl ?_
      show J 30 [(0, .ref h)] [] [mO h q ab be bl (nx By bl (nx By bl p)) (tkL By bl (nx By bl (nx By bl p))) (tkK By bl (nx By bl (nx By bl p))) (tkV By bl (nx By bl (nx By bl p))), (q 7, ia Z 150 (ni By)), ((q 8), ia Z 138 (ni (goN (tkV By bl (nx By bl p)) An))), (q 9, ia Z 3 (ni (va_up Vs 0 (tkV By bl (nx By bl p)))))] 0 0
      refine j_iconst hJ (q := 31) dX9_takesGo_30 rfl ki_1 ?_
      have hth : toF By bl p An = (true, nx By bl (nx By bl p), (goN (tkV By bl (nx By bl p)) An)) := by unfold toF; rw [if_pos a1]
      exact hE.1 _ _ _ _ _ _ _ rfl rfl dX9_takesGo_31 (Nat.le_refl _) (Nat.le_refl _) (⟨(va_up Vs 0 (tkV By bl (nx By bl p))), congrArg (fun z => some (Value.int (bI z))) (show true = (toF By bl p An).1 by rw [hth]), by rw [hth]⟩)
    · skip
      exfalso; omega
  · skip
    refine j_world hJ (ws' := [mO h q ab be bl (nx By bl p) (tkL By bl (nx By bl p)) (tkK By bl (nx By bl p)) (tkV By bl (nx By bl p)), (q 7, ia Z 150 (ni By)), (q 8, ia Z 138 (ni An)), (q 9, ia Z 3 (ni Vs))]) [1, 2, 0, 3] rfl rfl ?_
    show J 12 [(0, .ref h)] [.int (nI 0)] [mO h q ab be bl (nx By bl p) (tkL By bl (nx By bl p)) (tkK By bl (nx By bl p)) (tkV By bl (nx By bl p)), (q 7, ia Z 150 (ni By)), (q 8, ia Z 138 (ni An)), (q 9, ia Z 3 (ni Vs))] 0 0
    refine jn_if_ne hJ (q := 15) (tgt := 17) dX9_takesGo_12 (by decide) rfl (by omega) (fun c4 => ?_) (fun c4 => ?_)
    · skip
      exfalso; omega
    · skip
      refine j_iconst hJ (q := 16) dX9_takesGo_15 rfl ki_0 ?_
      have hth : toF By bl p An = (false, nx By bl p, An) := by unfold toF; rw [if_neg a2]
      exact hE.1 _ _ _ _ _ _ _ rfl rfl dX9_takesGo_16 (Nat.le_refl _) (Nat.le_refl _) (⟨Vs, congrArg (fun z => some (Value.int (bI z))) (show false = (toF By bl p An).1 by rw [hth]), by rw [hth]⟩)
