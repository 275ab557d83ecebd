set_option maxHeartbeats 4000000 in
set_option maxRecDepth 100000 in
theorem c_X9_takesItem (Z : jZ) (h : Nat) (q : Nat → Nat) (ab : Int) (be : Int) (bl : Nat) (p : Nat) (By : Nat → Nat) (An : Nat → Nat) (Vs : Nat → Nat) (hp : p ≤ bl) (hbl : bl ≤ 150) (hby : ∀ j, By j < 128) (hw : wf An) : CT Z yX9_takesItem cX9_takesItem 1 ((some FieldType.boolean)) 7 0 0 [.ref h] [mO h q ab be bl p (tkL By bl p) (tkK By bl p) (tkV By bl p), (q 7, ia Z 150 (ni By)), (q 8, ia Z 138 (ni An)), (q 9, ia Z 3 (ni Vs))] (fun rr ww => ∃ Vx : Nat → Nat, rr = some (.int (bI ((tiF By bl p An).1))) ∧ ww = [mO h q ab be bl ((tiF By bl p An).2.1) (tkL By bl ((tiF By bl p An).2.1)) (tkK By bl ((tiF By bl p An).2.1)) (tkV By bl ((tiF By bl p An).2.1)), (q 7, ia Z 150 (ni By)), (q 8, ia Z 138 (ni ((tiF By bl p An).2.2))), (q 9, ia Z 3 (ni Vx))]) := by
  refine CT.of RX9 false rfl (fun h => by cases h) (by decide +kernel) (Nat.le_of_ble_eq_true rfl) ?_
  intro J hJ hE
  show J 0 [(0, .ref h)] [] [mO h q ab be bl p (tkL By bl p) (tkK By bl p) (tkV By bl p), (q 7, ia Z 150 (ni By)), (q 8, ia Z 138 (ni An)), (q 9, ia Z 3 (ni Vs))] 0 0
  refine j_aload_n hJ (q := 1) dX9_takesItem_0 rfl 0 rfl rfl ?_
  refine j_iconst hJ (q := 2) dX9_takesItem_1 rfl ki_5 ?_
  refine j_bipush hJ (q := 4) dX9_takesItem_2 rfl kb_104 ?_
  refine j_bipush hJ (q := 6) dX9_takesItem_4 rfl kb_111 ?_
  refine j_bipush hJ (q := 8) dX9_takesItem_6 rfl kb_114 ?_
  refine j_bipush hJ (q := 10) dX9_takesItem_8 rfl kb_115 ?_
  refine j_bipush hJ (q := 12) dX9_takesItem_10 rfl kb_101 ?_
  refine j_iconst hJ (q := 13) dX9_takesItem_12 rfl ki_0 ?_
  refine j_vR hJ (q := 16) (rest := []) (As := [.int (nI 5), .int (nI 104), .int (nI 111), .int (nI 114), .int (nI 115), .int (nI 101), .int (nI 0)]) jl_X9_249 (c_X9_spells Z h q ab be bl p By 5 104 111 114 115 101 0 (by omega) (by omega) hby (by omega) (by omega)) 0 rfl rfl dX9_takesItem_13 rfl (by decide) (Nat.le_of_ble_eq_true rfl) [0, 1] rfl rfl (fun rv hp => ?_)
  obtain rfl := hp
  show J 16 [(0, .ref h)] [.int (bI (isW By bl p 5 (ltr 104 111 114 115 101 0)))] [mO h q ab be bl p (tkL By bl p) (tkK By bl p) (tkV By bl p), (q 7, ia Z 150 (ni By)), (q 8, ia Z 138 (ni An)), (q 9, ia Z 3 (ni Vs))] 0 0
  refine jb_if_eq hJ (q := 19) (tgt := 24) dX9_takesItem_16 (by decide) rfl (fun c1 => ?_) (fun c1 => ?_)
  · skip
    have hn1 := c1
    refine j_aload_n hJ (q := 25) dX9_takesItem_24 rfl 0 rfl rfl ?_
    refine j_iconst hJ (q := 26) dX9_takesItem_25 rfl ki_5 ?_
    refine j_bipush hJ (q := 28) dX9_takesItem_26 rfl kb_114 ?_
    refine j_bipush hJ (q := 30) dX9_takesItem_28 rfl kb_105 ?_
    refine j_bipush hJ (q := 32) dX9_takesItem_30 rfl kb_100 ?_
    refine j_bipush hJ (q := 34) dX9_takesItem_32 rfl kb_101 ?_
    refine j_bipush hJ (q := 36) dX9_takesItem_34 rfl kb_114 ?_
    refine j_iconst hJ (q := 37) dX9_takesItem_36 rfl ki_0 ?_
    refine j_vR hJ (q := 40) (rest := []) (As := [.int (nI 5), .int (nI 114), .int (nI 105), .int (nI 100), .int (nI 101), .int (nI 114), .int (nI 0)]) jl_X9_249 (c_X9_spells Z h q ab be bl p By 5 114 105 100 101 114 0 (by omega) (by omega) hby (by omega) (by omega)) 0 rfl rfl dX9_takesItem_37 rfl (by decide) (Nat.le_of_ble_eq_true rfl) [0, 1] rfl rfl (fun rv hp => ?_)
    obtain rfl := hp
    show J 40 [(0, .ref h)] [.int (bI (isW By bl p 5 (ltr 114 105 100 101 114 0)))] [mO h q ab be bl p (tkL By bl p) (tkK By bl p) (tkV By bl p), (q 7, ia Z 150 (ni By)), (q 8, ia Z 138 (ni An)), (q 9, ia Z 3 (ni Vs))] 0 0
    refine jb_if_eq hJ (q := 43) (tgt := 48) dX9_takesItem_40 (by decide) rfl (fun c2 => ?_) (fun c2 => ?_)
    · skip
      have hn2 := c2
      refine j_aload_n hJ (q := 49) dX9_takesItem_48 rfl 0 rfl rfl ?_
      refine j_iconst hJ (q := 50) dX9_takesItem_49 rfl ki_4 ?_
      refine j_bipush hJ (q := 52) dX9_takesItem_50 rfl kb_114 ?_
      refine j_bipush hJ (q := 54) dX9_takesItem_52 rfl kb_105 ?_
      refine j_bipush hJ (q := 56) dX9_takesItem_54 rfl kb_110 ?_
      refine j_bipush hJ (q := 58) dX9_takesItem_56 rfl kb_103 ?_
      refine j_iconst hJ (q := 59) dX9_takesItem_58 rfl ki_0 ?_
      refine j_iconst hJ (q := 60) dX9_takesItem_59 rfl ki_0 ?_
      refine j_vR hJ (q := 63) (rest := []) (As := [.int (nI 4), .int (nI 114), .int (nI 105), .int (nI 110), .int (nI 103), .int (nI 0), .int (nI 0)]) jl_X9_249 (c_X9_spells Z h q ab be bl p By 4 114 105 110 103 0 0 (by omega) (by omega) hby (by omega) (by omega)) 0 rfl rfl dX9_takesItem_60 rfl (by decide) (Nat.le_of_ble_eq_true rfl) [0, 1] rfl rfl (fun rv hp => ?_)
      obtain rfl := hp
      show J 63 [(0, .ref h)] [.int (bI (isW By bl p 4 (ltr 114 105 110 103 0 0)))] [mO h q ab be bl p (tkL By bl p) (tkK By bl p) (tkV By bl p), (q 7, ia Z 150 (ni By)), (q 8, ia Z 138 (ni An)), (q 9, ia Z 3 (ni Vs))] 0 0
      refine jb_if_eq hJ (q := 66) (tgt := 71) dX9_takesItem_63 (by decide) rfl (fun c3 => ?_) (fun c3 => ?_)
      · skip
        have hn3 := c3
        refine j_aload_n hJ (q := 72) dX9_takesItem_71 rfl 0 rfl rfl ?_
        refine j_iconst hJ (q := 73) dX9_takesItem_72 rfl ki_2 ?_
        refine j_bipush hJ (q := 75) dX9_takesItem_73 rfl kb_103 ?_
        refine j_bipush hJ (q := 77) dX9_takesItem_75 rfl kb_111 ?_
        refine j_iconst hJ (q := 78) dX9_takesItem_77 rfl ki_0 ?_
        refine j_iconst hJ (q := 79) dX9_takesItem_78 rfl ki_0 ?_
        refine j_iconst hJ (q := 80) dX9_takesItem_79 rfl ki_0 ?_
        refine j_iconst hJ (q := 81) dX9_takesItem_80 rfl ki_0 ?_
        refine j_vR hJ (q := 84) (rest := []) (As := [.int (nI 2), .int (nI 103), .int (nI 111), .int (nI 0), .int (nI 0), .int (nI 0), .int (nI 0)]) jl_X9_249 (c_X9_spells Z h q ab be bl p By 2 103 111 0 0 0 0 (by omega) (by omega) hby (by omega) (by omega)) 0 rfl rfl dX9_takesItem_81 rfl (by decide) (Nat.le_of_ble_eq_true rfl) [0, 1] rfl rfl (fun rv hp => ?_)
        obtain rfl := hp
        show J 84 [(0, .ref h)] [.int (bI (isW By bl p 2 (ltr 103 111 0 0 0 0)))] [mO h q ab be bl p (tkL By bl p) (tkK By bl p) (tkV By bl p), (q 7, ia Z 150 (ni By)), (q 8, ia Z 138 (ni An)), (q 9, ia Z 3 (ni Vs))] 0 0
        refine jb_if_eq hJ (q := 87) (tgt := 98) dX9_takesItem_84 (by decide) rfl (fun c4 => ?_) (fun c4 => ?_)
        · skip
          have hn4 := c4
          have hq4 : tiF By bl p An = (false, p, An) := by unfold tiF; rw [if_neg (by rw [hn1]; decide), if_neg (by rw [hn2]; decide), if_neg (by rw [hn3]; decide), if_neg (by rw [hn4]; decide)]
          refine j_iconst hJ (q := 99) dX9_takesItem_98 rfl ki_0 ?_
          exact hE.1 _ _ _ _ _ _ _ rfl rfl dX9_takesItem_99 (Nat.le_refl _) (Nat.le_refl _) (⟨Vs, congrArg (fun z => some (Value.int (bI z))) (show false = (tiF By bl p An).1 by rw [hq4]), by rw [hq4]⟩)
        · skip
          have hp4 := c4
          have hth : tiF By bl p An = toF By bl p An := by unfold tiF; rw [if_neg (by rw [hn1]; decide), if_neg (by rw [hn2]; decide), if_neg (by rw [hn3]; decide), if_pos hp4]
          refine j_aload_n hJ (q := 88) dX9_takesItem_87 rfl 0 rfl rfl ?_
          refine j_vW hJ (q := 91) (rest := []) (As := []) (wr := []) jl_X9_263 (c_X9_takesGo Z h q ab be bl p By An Vs (by omega) (by omega) hby hw) 0 rfl rfl dX9_takesItem_88 rfl (by decide) (Nat.le_of_ble_eq_true rfl) [0, 1, 2, 3] [] rfl rfl rfl rfl (by decide) rfl (fun rv wv hp => ?_)
          obtain ⟨Vx5, rfl, rfl⟩ := hp
          show J 91 [(0, .ref h)] [.int (bI ((toF By bl p An).1))] [mO h q ab be bl ((toF By bl p An).2.1) (tkL By bl ((toF By bl p An).2.1)) (tkK By bl ((toF By bl p An).2.1)) (tkV By bl ((toF By bl p An).2.1)), (q 7, ia Z 150 (ni By)), (q 8, ia Z 138 (ni ((toF By bl p An).2.2))), (q 9, ia Z 3 (ni Vx5))] 0 0
          refine jb_if_eq hJ (q := 94) (tgt := 98) dX9_takesItem_91 (by decide) rfl (fun c6 => ?_) (fun c6 => ?_)
          · skip
            have hz : (toF By bl p An).1 = false := c6
            refine j_iconst hJ (q := 99) dX9_takesItem_98 rfl ki_0 ?_
            exact hE.1 _ _ _ _ _ _ _ rfl rfl dX9_takesItem_99 (Nat.le_refl _) (Nat.le_refl _) (⟨Vx5, congrArg (fun z => some (Value.int (bI z))) (show false = (tiF By bl p An).1 by rw [hth, hz]), by rw [hth]⟩)
          · skip
            have hz : (toF By bl p An).1 = true := c6
            refine j_iconst hJ (q := 95) dX9_takesItem_94 rfl ki_1 ?_
            refine j_goto hJ (q := 99) dX9_takesItem_95 (by decide) ?_
            exact hE.1 _ _ _ _ _ _ _ rfl rfl dX9_takesItem_99 (Nat.le_refl _) (Nat.le_refl _) (⟨Vx5, congrArg (fun z => some (Value.int (bI z))) (show true = (tiF By bl p An).1 by rw [hth, hz]), by rw [hth]⟩)
      · skip
        have hp3 := c3
        refine j_aload_n hJ (q := 67) dX9_takesItem_66 rfl 0 rfl rfl ?_
        refine j_vW hJ (q := 70) (rest := []) (As := []) (wr := []) jl_X9_260 (c_X9_takesRing Z h q ab be bl p By An Vs (by omega) (by omega) hby hw) 0 rfl rfl dX9_takesItem_67 rfl (by decide) (Nat.le_of_ble_eq_true rfl) [0, 1, 2, 3] [] rfl rfl rfl rfl (by decide) rfl (fun rv wv hp => ?_)
        obtain ⟨Vx7, rfl, rfl⟩ := hp
        show J 70 [(0, .ref h)] [.int (bI ((tgF By bl p An).1))] [mO h q ab be bl ((tgF By bl p An).2.1) (tkL By bl ((tgF By bl p An).2.1)) (tkK By bl ((tgF By bl p An).2.1)) (tkV By bl ((tgF By bl p An).2.1)), (q 7, ia Z 150 (ni By)), (q 8, ia Z 138 (ni ((tgF By bl p An).2.2))), (q 9, ia Z 3 (ni Vx7))] 0 0
        have hth : tiF By bl p An = tgF By bl p An := by unfold tiF; rw [if_neg (by rw [hn1]; decide), if_neg (by rw [hn2]; decide), if_pos hp3]
        exact hE.1 _ _ _ _ _ _ _ rfl (bI_nar _) dX9_takesItem_70 (Nat.le_refl _) (Nat.le_refl _) (⟨Vx7, congrArg (fun z => some (Value.int (bI z))) (show (tgF By bl p An).1 = (tiF By bl p An).1 by rw [hth]), by rw [hth]⟩)
    · skip
      have hp2 := c2
      refine j_aload_n hJ (q := 44) dX9_takesItem_43 rfl 0 rfl rfl ?_
      refine j_vW hJ (q := 47) (rest := []) (As := []) (wr := []) jl_X9_257 (c_X9_takesRider Z h q ab be bl p By An Vs (by omega) (by omega) hby hw) 0 rfl rfl dX9_takesItem_44 rfl (by decide) (Nat.le_of_ble_eq_true rfl) [0, 1, 2, 3] [] rfl rfl rfl rfl (by decide) rfl (fun rv wv hp => ?_)
      obtain ⟨Vx8, rfl, rfl⟩ := hp
      show J 47 [(0, .ref h)] [.int (bI ((trF By bl p An).1))] [mO h q ab be bl ((trF By bl p An).2.1) (tkL By bl ((trF By bl p An).2.1)) (tkK By bl ((trF By bl p An).2.1)) (tkV By bl ((trF By bl p An).2.1)), (q 7, ia Z 150 (ni By)), (q 8, ia Z 138 (ni ((trF By bl p An).2.2))), (q 9, ia Z 3 (ni Vx8))] 0 0
      have hth : tiF By bl p An = trF By bl p An := by unfold tiF; rw [if_neg (by rw [hn1]; decide), if_pos hp2]
      exact hE.1 _ _ _ _ _ _ _ rfl (bI_nar _) dX9_takesItem_47 (Nat.le_refl _) (Nat.le_refl _) (⟨Vx8, congrArg (fun z => some (Value.int (bI z))) (show (trF By bl p An).1 = (tiF By bl p An).1 by rw [hth]), by rw [hth]⟩)
  · skip
    have hp1 := c1
    refine j_aload_n hJ (q := 20) dX9_takesItem_19 rfl 0 rfl rfl ?_
    refine j_vW hJ (q := 23) (rest := []) (As := []) (wr := []) jl_X9_253 (c_X9_takesHorse Z h q ab be bl p By An Vs (by omega) (by omega) hby hw) 0 rfl rfl dX9_takesItem_20 rfl (by decide) (Nat.le_of_ble_eq_true rfl) [0, 1, 2, 3] [] rfl rfl rfl rfl (by decide) rfl (fun rv wv hp => ?_)
    obtain ⟨Vx9, rfl, rfl⟩ := hp
    show J 23 [(0, .ref h)] [.int (bI ((thF By bl p An).1))] [mO h q ab be bl ((thF By bl p An).2.1) (tkL By bl ((thF By bl p An).2.1)) (tkK By bl ((thF By bl p An).2.1)) (tkV By bl ((thF By bl p An).2.1)), (q 7, ia Z 150 (ni By)), (q 8, ia Z 138 (ni ((thF By bl p An).2.2))), (q 9, ia Z 3 (ni Vx9))] 0 0
    have hth : tiF By bl p An = thF By bl p An := by unfold tiF; rw [if_pos hp1]
    exact hE.1 _ _ _ _ _ _ _ rfl (bI_nar _) dX9_takesItem_23 (Nat.le_refl _) (Nat.le_refl _) (⟨Vx9, congrArg (fun z => some (Value.int (bI z))) (show (thF By bl p An).1 = (tiF By bl p An).1 by rw [hth]), by rw [hth]⟩)

set_option maxHeartbeats 4000000 in
set_option maxRecDepth 100000 in
theorem c_X9_read (Z : jZ) (h : Nat) (q : Nat → Nat) (ab : Int) (be : Int) (bl : Nat) (ta : Nat) (tl : Nat) (tk : Nat) (va : Nat) (A : Nat → Nat) (By : Nat → Nat) (An : Nat → Nat) (Vs : Nat → Nat) (hbl : bl ≤ 150) (hby : ∀ j, By j < 128) : CT Z yX9_read cX9_read 3 ((some FieldType.int)) 8 0 0 [.ref h] [mO h q ab be bl ta tl tk va, (q 0, ia Z 266 (ni A)), (q 7, ia Z 150 (ni By)), (q 8, ia Z 138 (ni An)), (q 9, ia Z 3 (ni Vs))] (fun rr ww => ∃ ta2 : Nat, ∃ tl2 : Nat, ∃ tk2 : Nat, ∃ va2 : Nat, ∃ Ax : Nat → Nat, ∃ Vx : Nat → Nat, rr = some (.int (zI (rdZ By bl))) ∧ ww = [mO h q ab be bl ta2 tl2 tk2 va2, (q 0, ia Z 266 (ni (rdA By bl A))), (q 7, ia Z 150 (ni By)), (q 8, ia Z 138 (ni Ax)), (q 9, ia Z 3 (ni Vx))]) := by
  refine CT.of RX9 false rfl (fun h => by cases h) (by decide +kernel) (Nat.le_of_ble_eq_true rfl) ?_
  intro J hJ hE
  show J 0 [(0, .ref h)] [] [mO h q ab be bl ta tl tk va, (q 0, ia Z 266 (ni A)), (q 7, ia Z 150 (ni By)), (q 8, ia Z 138 (ni An)), (q 9, ia Z 3 (ni Vs))] 0 0
  have hn0 := sk_in (By := By) (show 0 ≤ bl by omega)
  have hn1 := nx_in (By := By) hn0.2
  have hn2 := nx_in (By := By) hn1.2
  have hn3 := nx_in (By := By) hn2.2
  have hn4 := nx_in (By := By) hn3.2
  refine j_aload_n hJ (q := 1) dX9_read_0 rfl 0 rfl rfl ?_
  refine j_iconst hJ (q := 2) dX9_read_1 rfl ki_0 ?_
  refine j_vW hJ (q := 5) (rest := []) (As := [.int (nI 0)]) (wr := [(q 0, ia Z 266 (ni A)), (q 8, ia Z 138 (ni An)), (q 9, ia Z 3 (ni Vs))]) jl_X9_238 (c_X9_lookAt Z h q ab be bl ta tl tk va By 0 (by omega) (by omega) hby) 0 rfl rfl dX9_read_2 rfl (by decide) (Nat.le_of_ble_eq_true rfl) [0, 2] [1, 3, 4] rfl rfl rfl rfl (by decide) rfl (fun rv wv hp => ?_)
  obtain ⟨rfl, rfl⟩ := hp
  refine j_world hJ (ws' := [mO h q ab be bl (sk By bl 0) (tkL By bl (sk By bl 0)) (tkK By bl (sk By bl 0)) (tkV By bl (sk By bl 0)), (q 0, ia Z 266 (ni A)), (q 7, ia Z 150 (ni By)), (q 8, ia Z 138 (ni An)), (q 9, ia Z 3 (ni Vs))]) [3, 0, 4, 1, 2] rfl rfl ?_
  show J 5 [(0, .ref h)] [] [mO h q ab be bl (sk By bl 0) (tkL By bl (sk By bl 0)) (tkK By bl (sk By bl 0)) (tkV By bl (sk By bl 0)), (q 0, ia Z 266 (ni A)), (q 7, ia Z 150 (ni By)), (q 8, ia Z 138 (ni An)), (q 9, ia Z 3 (ni Vs))] 0 0
  refine j_aload_n hJ (q := 6) dX9_read_5 rfl 0 rfl rfl ?_
  refine j_iconst hJ (q := 7) dX9_read_6 rfl ki_5 ?_
  refine j_bipush hJ (q := 9) dX9_read_7 rfl kb_114 ?_
  refine j_bipush hJ (q := 11) dX9_read_9 rfl kb_111 ?_
  refine j_bipush hJ (q := 13) dX9_read_11 rfl kb_117 ?_
  refine j_bipush hJ (q := 15) dX9_read_13 rfl kb_110 ?_
  refine j_bipush hJ (q := 17) dX9_read_15 rfl kb_100 ?_
  refine j_iconst hJ (q := 18) dX9_read_17 rfl ki_0 ?_
  refine j_vR hJ (q := 21) (rest := []) (As := [.int (nI 5), .int (nI 114), .int (nI 111), .int (nI 117), .int (nI 110), .int (nI 100), .int (nI 0)]) jl_X9_249 (c_X9_spells Z h q ab be bl (sk By bl 0) By 5 114 111 117 110 100 0 (by omega) (by omega) hby (by omega) (by omega)) 0 rfl rfl dX9_read_18 rfl (by decide) (Nat.le_of_ble_eq_true rfl) [0, 2] rfl rfl (fun rv hp => ?_)
  obtain rfl := hp
  show J 21 [(0, .ref h)] [.int (bI (isW By bl (sk By bl 0) 5 (ltr 114 111 117 110 100 0)))] [mO h q ab be bl (sk By bl 0) (tkL By bl (sk By bl 0)) (tkK By bl (sk By bl 0)) (tkV By bl (sk By bl 0)), (q 0, ia Z 266 (ni A)), (q 7, ia Z 150 (ni By)), (q 8, ia Z 138 (ni An)), (q 9, ia Z 3 (ni Vs))] 0 0
  refine jb_if_ne hJ (q := 24) (tgt := 32) dX9_read_21 (by decide) rfl (fun c1 => ?_) (fun c1 => ?_)
  · skip
    have hsp := c1
    refine j_aload_n hJ (q := 33) dX9_read_32 rfl 0 rfl rfl ?_
    refine j_vW hJ (q := 36) (rest := []) (As := []) (wr := [(q 0, ia Z 266 (ni A)), (q 8, ia Z 138 (ni An)), (q 9, ia Z 3 (ni Vs))]) jl_X9_242 (c_X9_goBehind Z h q ab be bl (sk By bl 0) By (by omega) (by omega) hby) 0 rfl rfl dX9_read_33 rfl (by decide) (Nat.le_of_ble_eq_true rfl) [0, 2] [1, 3, 4] rfl rfl rfl rfl (by decide) rfl (fun rv wv hp => ?_)
    obtain ⟨rfl, rfl⟩ := hp
    refine j_world hJ (ws' := [mO h q ab be bl (nx By bl (sk By bl 0)) (tkL By bl (nx By bl (sk By bl 0))) (tkK By bl (nx By bl (sk By bl 0))) (tkV By bl (nx By bl (sk By bl 0))), (q 0, ia Z 266 (ni A)), (q 7, ia Z 150 (ni By)), (q 8, ia Z 138 (ni An)), (q 9, ia Z 3 (ni Vs))]) [3, 0, 4, 1, 2] rfl rfl ?_
    show J 36 [(0, .ref h)] [] [mO h q ab be bl (nx By bl (sk By bl 0)) (tkL By bl (nx By bl (sk By bl 0))) (tkK By bl (nx By bl (sk By bl 0))) (tkV By bl (nx By bl (sk By bl 0))), (q 0, ia Z 266 (ni A)), (q 7, ia Z 150 (ni By)), (q 8, ia Z 138 (ni An)), (q 9, ia Z 3 (ni Vs))] 0 0
    refine j_aload_n hJ (q := 37) dX9_read_36 rfl 0 rfl rfl ?_
    refine j_iconst hJ (q := 38) dX9_read_37 rfl ki_0 ?_
    refine j_iconst hJ (q := 39) dX9_read_38 rfl ki_4 ?_
    refine j_bipush hJ (q := 41) dX9_read_39 rfl kb_12 ?_
    refine j_vW hJ (q := 44) (rest := []) (As := [.int (nI 0), .int (nI 4), .int (nI 12)]) (wr := [(q 0, ia Z 266 (ni A)), (q 8, ia Z 138 (ni An))]) jl_X9_245 (c_X9_takesNumber Z h q ab be bl (nx By bl (sk By bl 0)) By Vs 0 4 12 (by omega) (by omega) hby (by omega) (by omega)) 0 rfl rfl dX9_read_41 rfl (by decide) (Nat.le_of_ble_eq_true rfl) [0, 2, 4] [1, 3] rfl rfl rfl rfl (by decide) rfl (fun rv wv hp => ?_)
    rcases hp with ⟨a2, rfl, rfl⟩ | ⟨a3, rfl, rfl⟩
    · skip
      refine j_world hJ (ws' := [mO h q ab be bl (nx By bl (nx By bl (sk By bl 0))) (tkL By bl (nx By bl (nx By bl (sk By bl 0)))) (tkK By bl (nx By bl (nx By bl (sk By bl 0)))) (tkV By bl (nx By bl (nx By bl (sk By bl 0)))), (q 0, ia Z 266 (ni A)), (q 7, ia Z 150 (ni By)), (q 8, ia Z 138 (ni An)), (q 9, ia Z 3 (ni (va_up Vs 0 (tkV By bl (nx By bl (sk By bl 0))))))]) [2, 0, 3, 1, 4] rfl rfl ?_
      show J 44 [(0, .ref h)] [.int (nI 1)] [mO h q ab be bl (nx By bl (nx By bl (sk By bl 0))) (tkL By bl (nx By bl (nx By bl (sk By bl 0)))) (tkK By bl (nx By bl (nx By bl (sk By bl 0)))) (tkV By bl (nx By bl (nx By bl (sk By bl 0)))), (q 0, ia Z 266 (ni A)), (q 7, ia Z 150 (ni By)), (q 8, ia Z 138 (ni An)), (q 9, ia Z 3 (ni (va_up Vs 0 (tkV By bl (nx By bl (sk By bl 0))))))] 0 0
      refine jn_if_eq hJ (q := 47) (tgt := 65) dX9_read_44 (by decide) rfl (by omega) (fun c4 => ?_) (fun c4 => ?_)
      · skip
        exfalso; omega
      · skip
        refine j_aload_n hJ (q := 48) dX9_read_47 rfl 0 rfl rfl ?_
        refine j_iconst hJ (q := 49) dX9_read_48 rfl ki_1 ?_
        refine j_iconst hJ (q := 50) dX9_read_49 rfl ki_0 ?_
        refine j_iconst hJ (q := 51) dX9_read_50 rfl ki_3 ?_
        refine j_vW hJ (q := 54) (rest := []) (As := [.int (nI 1), .int (nI 0), .int (nI 3)]) (wr := [(q 0, ia Z 266 (ni A)), (q 8, ia Z 138 (ni An))]) jl_X9_245 (c_X9_takesNumber Z h q ab be bl (nx By bl (nx By bl (sk By bl 0))) By (va_up Vs 0 (tkV By bl (nx By bl (sk By bl 0)))) 1 0 3 (by omega) (by omega) hby (by omega) (by omega)) 0 rfl rfl dX9_read_51 rfl (by decide) (Nat.le_of_ble_eq_true rfl) [0, 2, 4] [1, 3] rfl rfl rfl rfl (by decide) rfl (fun rv wv hp => ?_)
        rcases hp with ⟨a5, rfl, rfl⟩ | ⟨a6, rfl, rfl⟩
        · skip
          refine j_world hJ (ws' := [mO h q ab be bl (nx By bl (nx By bl (nx By bl (sk By bl 0)))) (tkL By bl (nx By bl (nx By bl (nx By bl (sk By bl 0))))) (tkK By bl (nx By bl (nx By bl (nx By bl (sk By bl 0))))) (tkV By bl (nx By bl (nx By bl (nx By bl (sk By bl 0))))), (q 0, ia Z 266 (ni A)), (q 7, ia Z 150 (ni By)), (q 8, ia Z 138 (ni An)), (q 9, ia Z 3 (ni (va_up (va_up Vs 0 (tkV By bl (nx By bl (sk By bl 0)))) 1 (tkV By bl (nx By bl (nx By bl (sk By bl 0)))))))]) [2, 0, 3, 1, 4] rfl rfl ?_
          show J 54 [(0, .ref h)] [.int (nI 1)] [mO h q ab be bl (nx By bl (nx By bl (nx By bl (sk By bl 0)))) (tkL By bl (nx By bl (nx By bl (nx By bl (sk By bl 0))))) (tkK By bl (nx By bl (nx By bl (nx By bl (sk By bl 0))))) (tkV By bl (nx By bl (nx By bl (nx By bl (sk By bl 0))))), (q 0, ia Z 266 (ni A)), (q 7, ia Z 150 (ni By)), (q 8, ia Z 138 (ni An)), (q 9, ia Z 3 (ni (va_up (va_up Vs 0 (tkV By bl (nx By bl (sk By bl 0)))) 1 (tkV By bl (nx By bl (nx By bl (sk By bl 0)))))))] 0 0
          refine jn_if_eq hJ (q := 57) (tgt := 65) dX9_read_54 (by decide) rfl (by omega) (fun c7 => ?_) (fun c7 => ?_)
          · skip
            exfalso; omega
          · skip
            have htk3 := tkK_le (By := By) (L := bl) (p := nx By bl (nx By bl (nx By bl (sk By bl 0))))
            refine j_aload_n hJ (q := 58) dX9_read_57 rfl 0 rfl rfl ?_
            refine j_get hJ (q := 61) jf_X9_226 dX9_read_58 0 rfl rfl rfl ?_
            refine j_iconst hJ (q := 62) dX9_read_61 rfl ki_3 ?_
            refine jn_icmp_eq hJ (q := 65) (tgt := 73) dX9_read_62 (by decide) rfl (by omega) (by omega) (fun c8 => ?_) (fun c8 => ?_)
            · skip
              refine j_aload_n hJ (q := 74) dX9_read_73 rfl 0 rfl rfl ?_
              refine j_vW hJ (q := 77) (rest := []) (As := []) (wr := [(q 0, ia Z 266 (ni A)), (q 8, ia Z 138 (ni An)), (q 9, ia Z 3 (ni (va_up (va_up Vs 0 (tkV By bl (nx By bl (sk By bl 0)))) 1 (tkV By bl (nx By bl (nx By bl (sk By bl 0)))))))]) jl_X9_242 (c_X9_goBehind Z h q ab be bl (nx By bl (nx By bl (nx By bl (sk By bl 0)))) By (by omega) (by omega) hby) 0 rfl rfl dX9_read_74 rfl (by decide) (Nat.le_of_ble_eq_true rfl) [0, 2] [1, 3, 4] rfl rfl rfl rfl (by decide) rfl (fun rv wv hp => ?_)
              obtain ⟨rfl, rfl⟩ := hp
              refine j_world hJ (ws' := [mO h q ab be bl (nx By bl (nx By bl (nx By bl (nx By bl (sk By bl 0))))) (tkL By bl (nx By bl (nx By bl (nx By bl (nx By bl (sk By bl 0)))))) (tkK By bl (nx By bl (nx By bl (nx By bl (nx By bl (sk By bl 0)))))) (tkV By bl (nx By bl (nx By bl (nx By bl (nx By bl (sk By bl 0)))))), (q 0, ia Z 266 (ni A)), (q 7, ia Z 150 (ni By)), (q 8, ia Z 138 (ni An)), (q 9, ia Z 3 (ni (va_up (va_up Vs 0 (tkV By bl (nx By bl (sk By bl 0)))) 1 (tkV By bl (nx By bl (nx By bl (sk By bl 0)))))))]) [3, 0, 4, 1, 2] rfl rfl ?_
              show J 77 [(0, .ref h)] [] [mO h q ab be bl (nx By bl (nx By bl (nx By bl (nx By bl (sk By bl 0))))) (tkL By bl (nx By bl (nx By bl (nx By bl (nx By bl (sk By bl 0)))))) (tkK By bl (nx By bl (nx By bl (nx By bl (nx By bl (sk By bl 0)))))) (tkV By bl (nx By bl (nx By bl (nx By bl (nx By bl (sk By bl 0)))))), (q 0, ia Z 266 (ni A)), (q 7, ia Z 150 (ni By)), (q 8, ia Z 138 (ni An)), (q 9, ia Z 3 (ni (va_up (va_up Vs 0 (tkV By bl (nx By bl (sk By bl 0)))) 1 (tkV By bl (nx By bl (nx By bl (sk By bl 0)))))))] 0 0
              refine j_aload_n hJ (q := 78) dX9_read_77 rfl 0 rfl rfl ?_
              refine j_get hJ (q := 81) jf_X9_39 dX9_read_78 0 rfl rfl rfl ?_
              refine j_aload_n hJ (q := 82) dX9_read_81 rfl 0 rfl rfl ?_
              refine j_get hJ (q := 85) jf_X9_42 dX9_read_82 0 rfl rfl rfl ?_
              refine j_iconst hJ (q := 86) dX9_read_85 rfl ki_0 ?_
              refine j_ialdN hJ (q := 87) (z := nI (tkV By bl (nx By bl (sk By bl 0)))) dX9_read_86 4 rfl (by decide) (by decide) rfl rfl ?_
              refine j_aload_n hJ (q := 88) dX9_read_87 rfl 0 rfl rfl ?_
              refine j_get hJ (q := 91) jf_X9_42 dX9_read_88 0 rfl rfl rfl ?_
              refine j_iconst hJ (q := 92) dX9_read_91 rfl ki_1 ?_
              refine j_ialdN hJ (q := 93) (z := nI (tkV By bl (nx By bl (nx By bl (sk By bl 0))))) dX9_read_92 4 rfl (by decide) (by decide) rfl rfl ?_
              refine j_sW hJ (q := 96) (rest := []) (As := [.ref (q 8), .int (nI (tkV By bl (nx By bl (sk By bl 0)))), .int (nI (tkV By bl (nx By bl (nx By bl (sk By bl 0)))))]) (wr := [mO h q ab be bl (nx By bl (nx By bl (nx By bl (nx By bl (sk By bl 0))))) (tkL By bl (nx By bl (nx By bl (nx By bl (nx By bl (sk By bl 0)))))) (tkK By bl (nx By bl (nx By bl (nx By bl (nx By bl (sk By bl 0)))))) (tkV By bl (nx By bl (nx By bl (nx By bl (nx By bl (sk By bl 0)))))), (q 0, ia Z 266 (ni A)), (q 7, ia Z 150 (ni By)), (q 9, ia Z 3 (ni (va_up (va_up Vs 0 (tkV By bl (nx By bl (sk By bl 0)))) 1 (tkV By bl (nx By bl (nx By bl (sk By bl 0)))))))]) jl_X9_45 (c_X9_begin Z (q 8) 138 An (tkV By bl (nx By bl (sk By bl 0))) (tkV By bl (nx By bl (nx By bl (sk By bl 0)))) (by omega)) dX9_read_93 rfl (by decide) (Nat.le_of_ble_eq_true rfl) [3] [0, 1, 2, 4] rfl rfl rfl rfl (by decide) rfl (fun rv wv hp => ?_)
              obtain ⟨rfl, rfl⟩ := hp
              refine j_world hJ (ws' := [mO h q ab be bl (nx By bl (nx By bl (nx By bl (nx By bl (sk By bl 0))))) (tkL By bl (nx By bl (nx By bl (nx By bl (nx By bl (sk By bl 0)))))) (tkK By bl (nx By bl (nx By bl (nx By bl (nx By bl (sk By bl 0)))))) (tkV By bl (nx By bl (nx By bl (nx By bl (nx By bl (sk By bl 0)))))), (q 0, ia Z 266 (ni A)), (q 7, ia Z 150 (ni By)), ((q 8), ia Z 138 (ni (beg An (tkV By bl (nx By bl (sk By bl 0))) (tkV By bl (nx By bl (nx By bl (sk By bl 0))))))), (q 9, ia Z 3 (ni (va_up (va_up Vs 0 (tkV By bl (nx By bl (sk By bl 0)))) 1 (tkV By bl (nx By bl (nx By bl (sk By bl 0)))))))]) [0, 1, 2, 4, 3] rfl rfl ?_
              show J 96 [(0, .ref h)] [] [mO h q ab be bl (nx By bl (nx By bl (nx By bl (nx By bl (sk By bl 0))))) (tkL By bl (nx By bl (nx By bl (nx By bl (nx By bl (sk By bl 0)))))) (tkK By bl (nx By bl (nx By bl (nx By bl (nx By bl (sk By bl 0)))))) (tkV By bl (nx By bl (nx By bl (nx By bl (nx By bl (sk By bl 0)))))), (q 0, ia Z 266 (ni A)), (q 7, ia Z 150 (ni By)), ((q 8), ia Z 138 (ni (beg An (tkV By bl (nx By bl (sk By bl 0))) (tkV By bl (nx By bl (nx By bl (sk By bl 0))))))), (q 9, ia Z 3 (ni (va_up (va_up Vs 0 (tkV By bl (nx By bl (sk By bl 0)))) 1 (tkV By bl (nx By bl (nx By bl (sk By bl 0)))))))] 0 0
              refine j_ext hJ (ws' := [mO h q ab be bl (nx By bl (nx By bl (nx By bl (nx By bl (sk By bl 0))))) (tkL By bl (nx By bl (nx By bl (nx By bl (nx By bl (sk By bl 0)))))) (tkK By bl (nx By bl (nx By bl (nx By bl (nx By bl (sk By bl 0)))))) (tkV By bl (nx By bl (nx By bl (nx By bl (nx By bl (sk By bl 0)))))), (q 0, ia Z 266 (ni A)), (q 7, ia Z 150 (ni By)), ((q 8), ia Z 138 (ni (beg (fun _ => 0) (tkV By bl (nx By bl (sk By bl 0))) (tkV By bl (nx By bl (nx By bl (sk By bl 0))))))), (q 9, ia Z 3 (ni (va_up (va_up Vs 0 (tkV By bl (nx By bl (sk By bl 0)))) 1 (tkV By bl (nx By bl (nx By bl (sk By bl 0)))))))]) (g := ni (beg (fun _ => 0) (tkV By bl (nx By bl (sk By bl 0))) (tkV By bl (nx By bl (nx By bl (sk By bl 0)))))) 3 rfl (fun j hj => congrArg nI (beg_ext _ _ _ j hj)) rfl ?_
              have hR0 : rdR By bl = rdF By bl (bl + 1) (nx By bl (nx By bl (nx By bl (nx By bl (sk By bl 0))))) (beg (fun _ => 0) (tkV By bl (nx By bl (sk By bl 0))) (tkV By bl (nx By bl (nx By bl (sk By bl 0))))) 1 := by unfold rdR; rw [if_pos hsp, if_pos a2, if_pos a5, if_pos (by omega)]
              have hw0 : wf (beg (fun _ => 0) (tkV By bl (nx By bl (sk By bl 0))) (tkV By bl (nx By bl (nx By bl (sk By bl 0))))) := wf_beg (fun _ => by decide) ⟨a2.2.1, a2.2.2⟩ a5.2.2
              refine j_iconst hJ (q := 97) dX9_read_96 rfl ki_1 ?_
              refine j_istore_n hJ (q := 98) (lvs' := [(1, .int (nI 1)), (0, .ref h)]) dX9_read_97 rfl (by decide) rfl rfl ?_
              have L_98 : ∀ (fu_98 : Nat) (fl : Nat) (p : Nat) (B : Nat → Nat) (Vy : Nat → Nat) (it : Nat), fl < fu_98 → (p ≤ bl) → (bl < fl + p) → (wf B) → (rdR By bl = rdF By bl fl p B it) → J 98 [(0, .ref h), (1, .int (nI it))] [] [mO h q ab be bl p (tkL By bl p) (tkK By bl p) (tkV By bl p), (q 0, ia Z 266 (ni A)), (q 7, ia Z 150 (ni By)), (q 8, ia Z 138 (ni B)), (q 9, ia Z 3 (ni Vy))] 0 0 := by
                intro fu_98
                induction fu_98 with
                | zero => intro fl p B Vy it hm; exact absurd hm (Nat.not_lt_zero _)
                | succ fu_98 ih_98 =>
                  intro fl p B Vy it hm_98 hp hfl hwB hR
                  obtain ⟨f2, rfl⟩ : ∃ z, fl = z + 1 := ⟨fl - 1, by omega⟩
                  have htkp := tkK_le (By := By) (L := bl) (p := p)
                  have hti0 := tiF_in (By := By) (An := B) hp
                  have hnx := nx_in (By := By) hti0.2
                  have hgt := fun (z : tkK By bl (tiF By bl p B).2.1 ≠ 0) => nx_gt (By := By) hti0.2 z
                  have htk2 := tkK_le (By := By) (L := bl) (p := (tiF By bl p B).2.1)
                  refine j_aload_n hJ (q := 99) dX9_read_98 rfl 0 rfl rfl ?_
                  refine j_get hJ (q := 102) jf_X9_226 dX9_read_99 0 rfl rfl rfl ?_
                  refine jn_if_eq hJ (q := 105) (tgt := 138) dX9_read_102 (by decide) rfl (by omega) (fun c9 => ?_) (fun c9 => ?_)
                  · skip
                    refine j_iconst hJ (q := 139) dX9_read_138 rfl ki_0 ?_
                    refine j_istore_n hJ (q := 140) (lvs' := [(2, .int (nI 0)), (0, .ref h), (1, .int (nI it))]) dX9_read_139 rfl (by decide) rfl rfl ?_
                    have L_140 : ∀ (fu_140 : Nat) (C : Nat → Nat) (i : Nat), 138 - i < fu_140 → (i ≤ 138) → (C = cpK B A i) → J 140 [(0, .ref h), (1, .int (nI it)), (2, .int (nI i))] [] [mO h q ab be bl p (tkL By bl p) (tkK By bl p) (tkV By bl p), (q 0, ia Z 266 (ni C)), (q 7, ia Z 150 (ni By)), (q 8, ia Z 138 (ni B)), (q 9, ia Z 3 (ni Vy))] 0 0 := by
                      intro fu_140
                      induction fu_140 with
                      | zero => intro C i hm; exact absurd hm (Nat.not_lt_zero _)
                      | succ fu_140 ih_140 =>
                        intro C i hm_140 hi hC
                        refine j_iload_n hJ (q := 141) dX9_read_140 rfl 2 rfl rfl ?_
                        refine j_sipush hJ (q := 144) dX9_read_141 rfl ks_138 ?_
                        refine jn_icmp_ge hJ (q := 147) (tgt := 165) dX9_read_144 (by decide) rfl (by omega) (by omega) (fun c10 => ?_) (fun c10 => ?_)
                        · skip
                          refine j_iload_n hJ (q := 166) dX9_read_165 rfl 1 rfl rfl ?_
                          have hRR : rdR By bl = (true, it, B) := by rw [hR]; simp only [rdF]; rw [if_pos (by omega)]
                          have hZ := rd_ok hRR A
                          exact hE.1 _ _ _ _ _ _ _ rfl rfl dX9_read_166 (Nat.le_refl _) (Nat.le_refl _) (⟨p, (tkL By bl p), (tkK By bl p), (tkV By bl p), B, Vy, congrArg (fun z => some (Value.int z)) ((zI_nat _).symm.trans (congrArg zI (by exact hZ.1.symm))), by rw [hZ.2, hC, show i = 138 by omega]⟩)
                        · skip
                          refine j_aload_n hJ (q := 148) dX9_read_147 rfl 0 rfl rfl ?_
                          refine j_get hJ (q := 151) jf_X9_7 dX9_read_148 0 rfl rfl rfl ?_
                          refine j_iload_n hJ (q := 152) dX9_read_151 rfl 2 rfl rfl ?_
                          refine j_aload_n hJ (q := 153) dX9_read_152 rfl 0 rfl rfl ?_
                          refine j_get hJ (q := 156) jf_X9_39 dX9_read_153 0 rfl rfl rfl ?_
                          refine j_iload_n hJ (q := 157) dX9_read_156 rfl 2 rfl rfl ?_
                          refine j_ialdN hJ (q := 158) (z := nI (B i)) dX9_read_157 3 rfl (by omega) (by decide) rfl rfl ?_
                          refine j_iastN hJ (q := 159) (ws' := [mO h q ab be bl p (tkL By bl p) (tkK By bl p) (tkV By bl p), (q 0, ia Z 266 (ni (va_up C i (B i)))), (q 7, ia Z 150 (ni By)), (q 8, ia Z 138 (ni B)), (q 9, ia Z 3 (ni Vy))]) dX9_read_158 1 rfl (by omega) (by decide) (ni_up _ _ _) rfl rfl ?_
                          refine j_iinc hJ (q := 162) (lvs' := [(2, .int (nI (i + 1))), (0, .ref h), (1, .int (nI it))]) dX9_read_159 2 rfl (by rw [show Int32.ofInt 1 = nI 1 from by decide +kernel]; exact nI_add _ _) (by decide) rfl rfl ?_
                          refine j_goto hJ (q := 140) dX9_read_162 (by decide) ?_
                          refine j_locals hJ [1, 2, 0] rfl ?_
                          exact ih_140 (va_up C i (B i)) (i + 1) (by omega) (by omega) (by rw [hC]; exact cpK_up B A i)
                    refine j_locals hJ [1, 2, 0] rfl ?_
                    exact L_140 ((138 - 0) + 1) A 0 (Nat.lt_succ_self _) (by omega) (cpK_0 B A)
                  · skip
                    refine j_aload_n hJ (q := 106) dX9_read_105 rfl 0 rfl rfl ?_
                    refine j_vW hJ (q := 109) (rest := []) (As := []) (wr := [(q 0, ia Z 266 (ni A))]) jl_X9_266 (c_X9_takesItem Z h q ab be bl p By B Vy (by omega) (by omega) hby hwB) 0 rfl rfl dX9_read_106 rfl (by decide) (Nat.le_of_ble_eq_true rfl) [0, 2, 3, 4] [1] rfl rfl rfl rfl (by decide) rfl (fun rv wv hp => ?_)
                    obtain ⟨Vx11, rfl, rfl⟩ := hp
                    refine j_world hJ (ws' := [mO h q ab be bl ((tiF By bl p B).2.1) (tkL By bl ((tiF By bl p B).2.1)) (tkK By bl ((tiF By bl p B).2.1)) (tkV By bl ((tiF By bl p B).2.1)), (q 0, ia Z 266 (ni A)), (q 7, ia Z 150 (ni By)), (q 8, ia Z 138 (ni ((tiF By bl p B).2.2))), (q 9, ia Z 3 (ni Vx11))]) [1, 0, 2, 3, 4] rfl rfl ?_
                    show J 109 [(0, .ref h), (1, .int (nI it))] [.int (bI ((tiF By bl p B).1))] [mO h q ab be bl ((tiF By bl p B).2.1) (tkL By bl ((tiF By bl p B).2.1)) (tkK By bl ((tiF By bl p B).2.1)) (tkV By bl ((tiF By bl p B).2.1)), (q 0, ia Z 266 (ni A)), (q 7, ia Z 150 (ni By)), (q 8, ia Z 138 (ni ((tiF By bl p B).2.2))), (q 9, ia Z 3 (ni Vx11))] 0 0
                    refine jb_if_eq hJ (q := 112) (tgt := 120) dX9_read_109 (by decide) rfl (fun c12 => ?_) (fun c12 => ?_)
                    · skip
                      have hti : (tiF By bl p B).1 = false := c12
                      refine j_bipush hJ (q := 122) dX9_read_120 rfl kb_m10 ?_
                      refine j_aload_n hJ (q := 123) dX9_read_122 rfl 0 rfl rfl ?_
                      refine j_get hJ (q := 126) jf_X9_220 dX9_read_123 0 rfl rfl rfl ?_
                      refine j_isub hJ (q := 127) dX9_read_126 rfl (zI_sub rfl (zI_nat ((tiF By bl p B).2.1)).symm) ?_
                      have hRR : rdR By bl = (false, (tiF By bl p B).2.1, (tiF By bl p B).2.2) := by rw [hR]; simp only [rdF]; rw [if_neg (by omega), if_neg (by rintro ⟨z1, z2⟩; first | omega | (rw [z1] at hti; cases hti))]
                      have hZ := rd_no hRR A
                      exact hE.1 _ _ _ _ _ _ _ rfl rfl dX9_read_127 (Nat.le_refl _) (Nat.le_refl _) (⟨((tiF By bl p B).2.1), (tkL By bl ((tiF By bl p B).2.1)), (tkK By bl ((tiF By bl p B).2.1)), (tkV By bl ((tiF By bl p B).2.1)), ((tiF By bl p B).2.2), Vx11, congrArg (fun z => some (Value.int (zI z))) (by exact hZ.1.symm), by rw [hZ.2]⟩)
                    · skip
                      have hti : (tiF By bl p B).1 = true := c12
                      refine j_aload_n hJ (q := 113) dX9_read_112 rfl 0 rfl rfl ?_
                      refine j_get hJ (q := 116) jf_X9_226 dX9_read_113 0 rfl rfl rfl ?_
                      refine j_iconst hJ (q := 117) dX9_read_116 rfl ki_3 ?_
                      refine jn_icmp_eq hJ (q := 120) (tgt := 128) dX9_read_117 (by decide) rfl (by omega) (by omega) (fun c13 => ?_) (fun c13 => ?_)
                      · skip
                        refine j_aload_n hJ (q := 129) dX9_read_128 rfl 0 rfl rfl ?_
                        refine j_vW hJ (q := 132) (rest := []) (As := []) (wr := [(q 0, ia Z 266 (ni A)), (q 8, ia Z 138 (ni ((tiF By bl p B).2.2))), (q 9, ia Z 3 (ni Vx11))]) jl_X9_242 (c_X9_goBehind Z h q ab be bl ((tiF By bl p B).2.1) By (by omega) (by omega) hby) 0 rfl rfl dX9_read_129 rfl (by decide) (Nat.le_of_ble_eq_true rfl) [0, 2] [1, 3, 4] rfl rfl rfl rfl (by decide) rfl (fun rv wv hp => ?_)
                        obtain ⟨rfl, rfl⟩ := hp
                        refine j_world hJ (ws' := [mO h q ab be bl (nx By bl ((tiF By bl p B).2.1)) (tkL By bl (nx By bl ((tiF By bl p B).2.1))) (tkK By bl (nx By bl ((tiF By bl p B).2.1))) (tkV By bl (nx By bl ((tiF By bl p B).2.1))), (q 0, ia Z 266 (ni A)), (q 7, ia Z 150 (ni By)), (q 8, ia Z 138 (ni ((tiF By bl p B).2.2))), (q 9, ia Z 3 (ni Vx11))]) [3, 0, 4, 1, 2] rfl rfl ?_
                        show J 132 [(0, .ref h), (1, .int (nI it))] [] [mO h q ab be bl (nx By bl ((tiF By bl p B).2.1)) (tkL By bl (nx By bl ((tiF By bl p B).2.1))) (tkK By bl (nx By bl ((tiF By bl p B).2.1))) (tkV By bl (nx By bl ((tiF By bl p B).2.1))), (q 0, ia Z 266 (ni A)), (q 7, ia Z 150 (ni By)), (q 8, ia Z 138 (ni ((tiF By bl p B).2.2))), (q 9, ia Z 3 (ni Vx11))] 0 0
                        refine j_iinc hJ (q := 135) (lvs' := [(1, .int (nI (it + 1))), (0, .ref h)]) dX9_read_132 1 rfl (by rw [show Int32.ofInt 1 = nI 1 from by decide +kernel]; exact nI_add _ _) (by decide) rfl rfl ?_
                        refine j_goto hJ (q := 98) dX9_read_135 (by decide) ?_
                        refine j_locals hJ [1, 0] rfl ?_
                        exact ih_98 f2 (nx By bl ((tiF By bl p B).2.1)) ((tiF By bl p B).2.2) Vx11 (it + 1) (by omega) hnx.2 (by omega) (wf_tiF hwB) (by rw [hR]; simp only [rdF]; rw [if_neg (by omega), if_pos ⟨hti, by omega⟩])
                      · skip
                        refine j_bipush hJ (q := 122) dX9_read_120 rfl kb_m10 ?_
                        refine j_aload_n hJ (q := 123) dX9_read_122 rfl 0 rfl rfl ?_
                        refine j_get hJ (q := 126) jf_X9_220 dX9_read_123 0 rfl rfl rfl ?_
                        refine j_isub hJ (q := 127) dX9_read_126 rfl (zI_sub rfl (zI_nat ((tiF By bl p B).2.1)).symm) ?_
                        have hRR : rdR By bl = (false, (tiF By bl p B).2.1, (tiF By bl p B).2.2) := by rw [hR]; simp only [rdF]; rw [if_neg (by omega), if_neg (by rintro ⟨z1, z2⟩; first | omega | (rw [z1] at hti; cases hti))]
                        have hZ := rd_no hRR A
                        exact hE.1 _ _ _ _ _ _ _ rfl rfl dX9_read_127 (Nat.le_refl _) (Nat.le_refl _) (⟨((tiF By bl p B).2.1), (tkL By bl ((tiF By bl p B).2.1)), (tkK By bl ((tiF By bl p B).2.1)), (tkV By bl ((tiF By bl p B).2.1)), ((tiF By bl p B).2.2), Vx11, congrArg (fun z => some (Value.int (zI z))) (by exact hZ.1.symm), by rw [hZ.2]⟩)
              refine j_locals hJ [1, 0] rfl ?_
              exact L_98 ((bl + 1) + 1) (bl + 1) (nx By bl (nx By bl (nx By bl (nx By bl (sk By bl 0))))) (beg (fun _ => 0) (tkV By bl (nx By bl (sk By bl 0))) (tkV By bl (nx By bl (nx By bl (sk By bl 0))))) (va_up (va_up Vs 0 (tkV By bl (nx By bl (sk By bl 0)))) 1 (tkV By bl (nx By bl (nx By bl (sk By bl 0))))) 1 (Nat.lt_succ_self _) (by omega) (by omega) hw0 hR0
            · skip
              refine j_bipush hJ (q := 67) dX9_read_65 rfl kb_m10 ?_
              refine j_aload_n hJ (q := 68) dX9_read_67 rfl 0 rfl rfl ?_
              refine j_get hJ (q := 71) jf_X9_220 dX9_read_68 0 rfl rfl rfl ?_
              refine j_isub hJ (q := 72) dX9_read_71 rfl (zI_sub rfl (zI_nat (nx By bl (nx By bl (nx By bl (sk By bl 0))))).symm) ?_
              have hRR : rdR By bl = (false, nx By bl (nx By bl (nx By bl (sk By bl 0))), fun _ => 0) := by unfold rdR; rw [if_pos hsp, if_pos a2, if_pos a5, if_neg (by omega)]
              have hZ := rd_no hRR A
              exact hE.1 _ _ _ _ _ _ _ rfl rfl dX9_read_72 (Nat.le_refl _) (Nat.le_refl _) (⟨(nx By bl (nx By bl (nx By bl (sk By bl 0)))), (tkL By bl (nx By bl (nx By bl (nx By bl (sk By bl 0))))), (tkK By bl (nx By bl (nx By bl (nx By bl (sk By bl 0))))), (tkV By bl (nx By bl (nx By bl (nx By bl (sk By bl 0))))), An, (va_up (va_up Vs 0 (tkV By bl (nx By bl (sk By bl 0)))) 1 (tkV By bl (nx By bl (nx By bl (sk By bl 0))))), congrArg (fun z => some (Value.int (zI z))) (by exact hZ.1.symm), by rw [hZ.2]⟩)
        · skip
          refine j_world hJ (ws' := [mO h q ab be bl (nx By bl (nx By bl (sk By bl 0))) (tkL By bl (nx By bl (nx By bl (sk By bl 0)))) (tkK By bl (nx By bl (nx By bl (sk By bl 0)))) (tkV By bl (nx By bl (nx By bl (sk By bl 0)))), (q 0, ia Z 266 (ni A)), (q 7, ia Z 150 (ni By)), (q 8, ia Z 138 (ni An)), (q 9, ia Z 3 (ni (va_up Vs 0 (tkV By bl (nx By bl (sk By bl 0))))))]) [2, 0, 3, 1, 4] rfl rfl ?_
          show J 54 [(0, .ref h)] [.int (nI 0)] [mO h q ab be bl (nx By bl (nx By bl (sk By bl 0))) (tkL By bl (nx By bl (nx By bl (sk By bl 0)))) (tkK By bl (nx By bl (nx By bl (sk By bl 0)))) (tkV By bl (nx By bl (nx By bl (sk By bl 0)))), (q 0, ia Z 266 (ni A)), (q 7, ia Z 150 (ni By)), (q 8, ia Z 138 (ni An)), (q 9, ia Z 3 (ni (va_up Vs 0 (tkV By bl (nx By bl (sk By bl 0))))))] 0 0
          refine jn_if_eq hJ (q := 57) (tgt := 65) dX9_read_54 (by decide) rfl (by omega) (fun c14 => ?_) (fun c14 => ?_)
          · skip
            refine j_bipush hJ (q := 67) dX9_read_65 rfl kb_m10 ?_
            refine j_aload_n hJ (q := 68) dX9_read_67 rfl 0 rfl rfl ?_
            refine j_get hJ (q := 71) jf_X9_220 dX9_read_68 0 rfl rfl rfl ?_
            refine j_isub hJ (q := 72) dX9_read_71 rfl (zI_sub rfl (zI_nat (nx By bl (nx By bl (sk By bl 0)))).symm) ?_
            have hRR : rdR By bl = (false, nx By bl (nx By bl (sk By bl 0)), fun _ => 0) := by unfold rdR; rw [if_pos hsp, if_pos a2, if_neg a6]
            have hZ := rd_no hRR A
            exact hE.1 _ _ _ _ _ _ _ rfl rfl dX9_read_72 (Nat.le_refl _) (Nat.le_refl _) (⟨(nx By bl (nx By bl (sk By bl 0))), (tkL By bl (nx By bl (nx By bl (sk By bl 0)))), (tkK By bl (nx By bl (nx By bl (sk By bl 0)))), (tkV By bl (nx By bl (nx By bl (sk By bl 0)))), An, (va_up Vs 0 (tkV By bl (nx By bl (sk By bl 0)))), congrArg (fun z => some (Value.int (zI z))) (by exact hZ.1.symm), by rw [hZ.2]⟩)
          · skip
            exfalso; omega
    · skip
      refine j_world hJ (ws' := [mO h q ab be bl (nx By bl (sk By bl 0)) (tkL By bl (nx By bl (sk By bl 0))) (tkK By bl (nx By bl (sk By bl 0))) (tkV By bl (nx By bl (sk By bl 0))), (q 0, ia Z 266 (ni A)), (q 7, ia Z 150 (ni By)), (q 8, ia Z 138 (ni An)), (q 9, ia Z 3 (ni Vs))]) [2, 0, 3, 1, 4] rfl rfl ?_
      show J 44 [(0, .ref h)] [.int (nI 0)] [mO h q ab be bl (nx By bl (sk By bl 0)) (tkL By bl (nx By bl (sk By bl 0))) (tkK By bl (nx By bl (sk By bl 0))) (tkV By bl (nx By bl (sk By bl 0))), (q 0, ia Z 266 (ni A)), (q 7, ia Z 150 (ni By)), (q 8, ia Z 138 (ni An)), (q 9, ia Z 3 (ni Vs))] 0 0
      refine jn_if_eq hJ (q := 47) (tgt := 65) dX9_read_44 (by decide) rfl (by omega) (fun c15 => ?_) (fun c15 => ?_)
      · skip
        refine j_bipush hJ (q := 67) dX9_read_65 rfl kb_m10 ?_
        refine j_aload_n hJ (q := 68) dX9_read_67 rfl 0 rfl rfl ?_
        refine j_get hJ (q := 71) jf_X9_220 dX9_read_68 0 rfl rfl rfl ?_
        refine j_isub hJ (q := 72) dX9_read_71 rfl (zI_sub rfl (zI_nat (nx By bl (sk By bl 0))).symm) ?_
        have hRR : rdR By bl = (false, nx By bl (sk By bl 0), fun _ => 0) := by unfold rdR; rw [if_pos hsp, if_neg a3]
        have hZ := rd_no hRR A
        exact hE.1 _ _ _ _ _ _ _ rfl rfl dX9_read_72 (Nat.le_refl _) (Nat.le_refl _) (⟨(nx By bl (sk By bl 0)), (tkL By bl (nx By bl (sk By bl 0))), (tkK By bl (nx By bl (sk By bl 0))), (tkV By bl (nx By bl (sk By bl 0))), An, Vs, congrArg (fun z => some (Value.int (zI z))) (by exact hZ.1.symm), by rw [hZ.2]⟩)
      · skip
        exfalso; omega
  · skip
    have hsp := c1
    refine j_bipush hJ (q := 26) dX9_read_24 rfl kb_m10 ?_
    refine j_aload_n hJ (q := 27) dX9_read_26 rfl 0 rfl rfl ?_
    refine j_get hJ (q := 30) jf_X9_220 dX9_read_27 0 rfl rfl rfl ?_
    refine j_isub hJ (q := 31) dX9_read_30 rfl (zI_sub rfl (zI_nat (sk By bl 0)).symm) ?_
    have hRR : rdR By bl = (false, sk By bl 0, fun _ => 0) := by unfold rdR; rw [if_neg (by rw [hsp]; decide)]
    have hZ := rd_no hRR A
    exact hE.1 _ _ _ _ _ _ _ rfl rfl dX9_read_31 (Nat.le_refl _) (Nat.le_refl _) (⟨(sk By bl 0), (tkL By bl (sk By bl 0)), (tkK By bl (sk By bl 0)), (tkV By bl (sk By bl 0)), An, Vs, congrArg (fun z => some (Value.int (zI z))) (by exact hZ.1.symm), by rw [hZ.2]⟩)
