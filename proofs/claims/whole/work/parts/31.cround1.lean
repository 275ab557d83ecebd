set_option maxHeartbeats 4000000 in
set_option maxRecDepth 100000 in
theorem c_X1_high (Z : jZ) (k : Nat) (t : Nat) (p : Nat) (v : Nat) (h1 : k ≤ 5) (h2 : p < 1000000) (h3 : t < 1000000) (h4 : v ≤ 3) : CR Z yX1_high cX1_high 7 ((some FieldType.int)) 1 [.int (nI k), .int (nI t), .int (nI p), .int (nI v)] [] (fun rr => rr = some (.int (nI (hgh k p t v)))) := by
  refine CR.of RX1 rfl (by decide +kernel) (Nat.le_of_ble_eq_true rfl) ?_
  intro J hJ hE
  show J 0 [(0, .int (nI k)), (1, .int (nI t)), (2, .int (nI p)), (3, .int (nI v))] [] [] 0 0
  refine j_iload_n hJ (q := 1) dX1_high_0 rfl 1 rfl rfl ?_
  refine j_iload_n hJ (q := 2) dX1_high_1 rfl 2 rfl rfl ?_
  refine j_iadd hJ (q := 3) dX1_high_2 rfl (nI_add _ _) ?_
  refine j_bipush hJ (q := 5) dX1_high_3 rfl kb_8 ?_
  refine j_irem hJ (q := 6) dX1_high_5 rfl (nI_ne0 (by omega) (by omega)) (pk_rem (by omega) (by omega) (by omega)) ?_
  obtain ⟨u, e_u⟩ : ∃ k, k = (t + p) % 8 := ⟨_, rfl⟩
  refine j_top (congrArg nI e_u.symm) ?_
  have hu : u < 8 := by rw [e_u]; exact Nat.mod_lt _ (by decide)
  refine j_istore hJ (q := 8) (lvs' := [(4, .int (nI u)), (0, .int (nI k)), (1, .int (nI t)), (2, .int (nI p)), (3, .int (nI v))]) dX1_high_6 (by decide) rfl rfl ?_
  refine j_iconst hJ (q := 9) dX1_high_8 rfl ki_3 ?_
  refine j_istore hJ (q := 11) (lvs' := [(5, .int (nI 3)), (4, .int (nI u)), (0, .int (nI k)), (1, .int (nI t)), (2, .int (nI p)), (3, .int (nI v))]) dX1_high_9 (by decide) rfl rfl ?_
  refine j_iload hJ (q := 13) dX1_high_11 0 rfl rfl ?_
  refine j_iload hJ (q := 15) dX1_high_13 1 rfl rfl ?_
  refine j_iconst hJ (q := 16) dX1_high_15 rfl ki_4 ?_
  refine jn_icmp_gt hJ (q := 19) (tgt := 24) dX1_high_16 (by decide) rfl (by omega) (by omega) (fun c1 => ?_) (fun c1 => ?_)
  · skip
    refine j_bipush hJ (q := 26) dX1_high_24 rfl kb_8 ?_
    refine j_iload hJ (q := 28) dX1_high_26 1 rfl rfl ?_
    refine j_isub hJ (q := 29) dX1_high_28 rfl (pk_sub (by omega)) ?_
    refine j_iadd hJ (q := 30) dX1_high_29 rfl (nI_add _ _) ?_
    refine j_istore hJ (q := 32) (lvs' := [(6, .int (nI (3 + (8 - u)))), (5, .int (nI 3)), (4, .int (nI u)), (0, .int (nI k)), (1, .int (nI t)), (2, .int (nI p)), (3, .int (nI v))]) dX1_high_30 (by decide) rfl rfl ?_
    refine j_iload_n hJ (q := 33) dX1_high_32 rfl 3 rfl rfl ?_
    have c2 : k = 0 ∨ k = 1 ∨ k = 2 ∨ k = 3 ∨ k = 4 ∨ k = 5 := by omega
    rcases c2 with c2 | c2 | c2 | c2 | c2 | c2
    · skip
      refine jn_tableOut hJ (q := 104) (k := 0) c2 dX1_high_33 (by decide) (by decide) ?_
      refine j_iload hJ (q := 106) dX1_high_104 1 rfl rfl ?_
      exact hE.1 _ _ _ _ _ _ _ rfl rfl dX1_high_106 (Nat.le_refl _) (Nat.le_refl _) (congrArg (fun z => some (Value.int (nI z))) (by subst e_u; simp only [hgh, gal]; repeat' (first | omega | split)))
    · skip
      refine jn_tableIn hJ (q := 68) (off := 35) (k := 1) c2 dX1_high_33 (by decide) (by decide) (by decide) (by decide) ?_
      refine j_iload hJ (q := 70) dX1_high_68 0 rfl rfl ?_
      exact hE.1 _ _ _ _ _ _ _ rfl rfl dX1_high_70 (Nat.le_refl _) (Nat.le_refl _) (congrArg (fun z => some (Value.int (nI z))) (by subst e_u; simp only [hgh, gal]; repeat' (first | omega | split)))
    · skip
      refine jn_tableIn hJ (q := 71) (off := 38) (k := 2) c2 dX1_high_33 (by decide) (by decide) (by decide) (by decide) ?_
      refine j_iload hJ (q := 73) dX1_high_71 2 rfl rfl ?_
      refine j_iconst hJ (q := 74) dX1_high_73 rfl ki_4 ?_
      refine jn_icmp_lt hJ (q := 77) (tgt := 84) dX1_high_74 (by decide) rfl (by omega) (by omega) (fun c3 => ?_) (fun c3 => ?_)
      · skip
        refine j_iload hJ (q := 86) dX1_high_84 1 rfl rfl ?_
        exact hE.1 _ _ _ _ _ _ _ rfl rfl dX1_high_86 (Nat.le_refl _) (Nat.le_refl _) (congrArg (fun z => some (Value.int (nI z))) (by subst e_u; simp only [hgh, gal]; repeat' (first | omega | split)))
      · skip
        refine j_iload hJ (q := 79) dX1_high_77 1 rfl rfl ?_
        refine j_iconst hJ (q := 80) dX1_high_79 rfl ki_2 ?_
        refine j_iadd hJ (q := 81) dX1_high_80 rfl (nI_add _ _) ?_
        refine j_goto hJ (q := 86) dX1_high_81 (by decide) ?_
        exact hE.1 _ _ _ _ _ _ _ rfl rfl dX1_high_86 (Nat.le_refl _) (Nat.le_refl _) (congrArg (fun z => some (Value.int (nI z))) (by subst e_u; simp only [hgh, gal]; repeat' (first | omega | split)))
    · skip
      refine jn_tableIn hJ (q := 87) (off := 54) (k := 3) c2 dX1_high_33 (by decide) (by decide) (by decide) (by decide) ?_
      refine j_iload hJ (q := 89) dX1_high_87 1 rfl rfl ?_
      refine j_iload_n hJ (q := 90) dX1_high_89 rfl 6 rfl rfl ?_
      refine j_isub hJ (q := 91) dX1_high_90 rfl (pk_sub (by omega)) ?_
      exact hE.1 _ _ _ _ _ _ _ rfl rfl dX1_high_91 (Nat.le_refl _) (Nat.le_refl _) (congrArg (fun z => some (Value.int (nI z))) (by subst e_u; simp only [hgh, gal]; repeat' (first | omega | split)))
    · skip
      refine jn_tableIn hJ (q := 92) (off := 59) (k := 4) c2 dX1_high_33 (by decide) (by decide) (by decide) (by decide) ?_
      refine j_iload hJ (q := 94) dX1_high_92 0 rfl rfl ?_
      refine j_iload_n hJ (q := 95) dX1_high_94 rfl 6 rfl rfl ?_
      refine j_iadd hJ (q := 96) dX1_high_95 rfl (nI_add _ _) ?_
      exact hE.1 _ _ _ _ _ _ _ rfl rfl dX1_high_96 (Nat.le_refl _) (Nat.le_refl _) (congrArg (fun z => some (Value.int (nI z))) (by subst e_u; simp only [hgh, gal]; repeat' (first | omega | split)))
    · skip
      refine jn_tableIn hJ (q := 97) (off := 64) (k := 5) c2 dX1_high_33 (by decide) (by decide) (by decide) (by decide) ?_
      refine j_iload hJ (q := 99) dX1_high_97 0 rfl rfl ?_
      refine j_iconst hJ (q := 100) dX1_high_99 rfl ki_1 ?_
      refine j_iadd hJ (q := 101) dX1_high_100 rfl (nI_add _ _) ?_
      refine j_iconst hJ (q := 102) dX1_high_101 rfl ki_2 ?_
      refine j_idiv hJ (q := 103) dX1_high_102 rfl (nI_ne0 (by omega) (by omega)) (pk_div (by omega) (by omega) (by omega)) ?_
      exact hE.1 _ _ _ _ _ _ _ rfl rfl dX1_high_103 (Nat.le_refl _) (Nat.le_refl _) (congrArg (fun z => some (Value.int (nI z))) (by subst e_u; simp only [hgh, gal]; repeat' (first | omega | split)))
  · skip
    refine j_iload hJ (q := 21) dX1_high_19 1 rfl rfl ?_
    refine j_goto hJ (q := 29) dX1_high_21 (by decide) ?_
    refine j_iadd hJ (q := 30) dX1_high_29 rfl (nI_add _ _) ?_
    refine j_istore hJ (q := 32) (lvs' := [(6, .int (nI (3 + u))), (5, .int (nI 3)), (4, .int (nI u)), (0, .int (nI k)), (1, .int (nI t)), (2, .int (nI p)), (3, .int (nI v))]) dX1_high_30 (by decide) rfl rfl ?_
    refine j_iload_n hJ (q := 33) dX1_high_32 rfl 3 rfl rfl ?_
    have c4 : k = 0 ∨ k = 1 ∨ k = 2 ∨ k = 3 ∨ k = 4 ∨ k = 5 := by omega
    rcases c4 with c4 | c4 | c4 | c4 | c4 | c4
    · skip
      refine jn_tableOut hJ (q := 104) (k := 0) c4 dX1_high_33 (by decide) (by decide) ?_
      refine j_iload hJ (q := 106) dX1_high_104 1 rfl rfl ?_
      exact hE.1 _ _ _ _ _ _ _ rfl rfl dX1_high_106 (Nat.le_refl _) (Nat.le_refl _) (congrArg (fun z => some (Value.int (nI z))) (by subst e_u; simp only [hgh, gal]; repeat' (first | omega | split)))
    · skip
      refine jn_tableIn hJ (q := 68) (off := 35) (k := 1) c4 dX1_high_33 (by decide) (by decide) (by decide) (by decide) ?_
      refine j_iload hJ (q := 70) dX1_high_68 0 rfl rfl ?_
      exact hE.1 _ _ _ _ _ _ _ rfl rfl dX1_high_70 (Nat.le_refl _) (Nat.le_refl _) (congrArg (fun z => some (Value.int (nI z))) (by subst e_u; simp only [hgh, gal]; repeat' (first | omega | split)))
    · skip
      refine jn_tableIn hJ (q := 71) (off := 38) (k := 2) c4 dX1_high_33 (by decide) (by decide) (by decide) (by decide) ?_
      refine j_iload hJ (q := 73) dX1_high_71 2 rfl rfl ?_
      refine j_iconst hJ (q := 74) dX1_high_73 rfl ki_4 ?_
      refine jn_icmp_lt hJ (q := 77) (tgt := 84) dX1_high_74 (by decide) rfl (by omega) (by omega) (fun c5 => ?_) (fun c5 => ?_)
      · skip
        refine j_iload hJ (q := 86) dX1_high_84 1 rfl rfl ?_
        exact hE.1 _ _ _ _ _ _ _ rfl rfl dX1_high_86 (Nat.le_refl _) (Nat.le_refl _) (congrArg (fun z => some (Value.int (nI z))) (by subst e_u; simp only [hgh, gal]; repeat' (first | omega | split)))
      · skip
        refine j_iload hJ (q := 79) dX1_high_77 1 rfl rfl ?_
        refine j_iconst hJ (q := 80) dX1_high_79 rfl ki_2 ?_
        refine j_iadd hJ (q := 81) dX1_high_80 rfl (nI_add _ _) ?_
        refine j_goto hJ (q := 86) dX1_high_81 (by decide) ?_
        exact hE.1 _ _ _ _ _ _ _ rfl rfl dX1_high_86 (Nat.le_refl _) (Nat.le_refl _) (congrArg (fun z => some (Value.int (nI z))) (by subst e_u; simp only [hgh, gal]; repeat' (first | omega | split)))
    · skip
      refine jn_tableIn hJ (q := 87) (off := 54) (k := 3) c4 dX1_high_33 (by decide) (by decide) (by decide) (by decide) ?_
      refine j_iload hJ (q := 89) dX1_high_87 1 rfl rfl ?_
      refine j_iload_n hJ (q := 90) dX1_high_89 rfl 6 rfl rfl ?_
      refine j_isub hJ (q := 91) dX1_high_90 rfl (pk_sub (by omega)) ?_
      exact hE.1 _ _ _ _ _ _ _ rfl rfl dX1_high_91 (Nat.le_refl _) (Nat.le_refl _) (congrArg (fun z => some (Value.int (nI z))) (by subst e_u; simp only [hgh, gal]; repeat' (first | omega | split)))
    · skip
      refine jn_tableIn hJ (q := 92) (off := 59) (k := 4) c4 dX1_high_33 (by decide) (by decide) (by decide) (by decide) ?_
      refine j_iload hJ (q := 94) dX1_high_92 0 rfl rfl ?_
      refine j_iload_n hJ (q := 95) dX1_high_94 rfl 6 rfl rfl ?_
      refine j_iadd hJ (q := 96) dX1_high_95 rfl (nI_add _ _) ?_
      exact hE.1 _ _ _ _ _ _ _ rfl rfl dX1_high_96 (Nat.le_refl _) (Nat.le_refl _) (congrArg (fun z => some (Value.int (nI z))) (by subst e_u; simp only [hgh, gal]; repeat' (first | omega | split)))
    · skip
      refine jn_tableIn hJ (q := 97) (off := 64) (k := 5) c4 dX1_high_33 (by decide) (by decide) (by decide) (by decide) ?_
      refine j_iload hJ (q := 99) dX1_high_97 0 rfl rfl ?_
      refine j_iconst hJ (q := 100) dX1_high_99 rfl ki_1 ?_
      refine j_iadd hJ (q := 101) dX1_high_100 rfl (nI_add _ _) ?_
      refine j_iconst hJ (q := 102) dX1_high_101 rfl ki_2 ?_
      refine j_idiv hJ (q := 103) dX1_high_102 rfl (nI_ne0 (by omega) (by omega)) (pk_div (by omega) (by omega) (by omega)) ?_
      exact hE.1 _ _ _ _ _ _ _ rfl rfl dX1_high_103 (Nat.le_refl _) (Nat.le_refl _) (congrArg (fun z => some (Value.int (nI z))) (by subst e_u; simp only [hgh, gal]; repeat' (first | omega | split)))

set_option maxHeartbeats 4000000 in
set_option maxRecDepth 100000 in
theorem c_X0_reach (Z : jZ) (k : Nat) (a : Nat) (h : Nat) (r : Nat) (h1 : k ≤ 5) (h2 : a < 1000) (h3 : h < 1000) (h4 : r < 1000000) : CR Z yX0_reach cX0_reach 7 ((some FieldType.int)) 1 [.int (nI k), .int (nI a), .int (nI h), .int (nI r)] [] (fun rr => rr = some (.int (nI (rch k a h r)))) := by
  refine CR.of RX0 rfl (by decide +kernel) (Nat.le_of_ble_eq_true rfl) ?_
  intro J hJ hE
  show J 0 [(0, .int (nI k)), (1, .int (nI a)), (2, .int (nI h)), (3, .int (nI r))] [] [] 0 0
  refine j_iload_n hJ (q := 1) dX0_reach_0 rfl 1 rfl rfl ?_
  refine j_iload_n hJ (q := 2) dX0_reach_1 rfl 2 rfl rfl ?_
  refine j_iadd hJ (q := 3) dX0_reach_2 rfl (nI_add _ _) ?_
  refine j_istore hJ (q := 5) (lvs' := [(4, .int (nI (a + h))), (0, .int (nI k)), (1, .int (nI a)), (2, .int (nI h)), (3, .int (nI r))]) dX0_reach_3 (by decide) rfl rfl ?_
  refine j_iload hJ (q := 7) dX0_reach_5 0 rfl rfl ?_
  refine j_iconst hJ (q := 8) dX0_reach_7 rfl ki_2 ?_
  refine j_idiv hJ (q := 9) dX0_reach_8 rfl (nI_ne0 (by omega) (by omega)) (pk_div (by omega) (by omega) (by omega)) ?_
  refine j_istore hJ (q := 11) (lvs' := [(5, .int (nI ((a + h) / 2))), (4, .int (nI (a + h))), (0, .int (nI k)), (1, .int (nI a)), (2, .int (nI h)), (3, .int (nI r))]) dX0_reach_9 (by decide) rfl rfl ?_
  refine j_iload hJ (q := 13) dX0_reach_11 1 rfl rfl ?_
  refine j_iconst hJ (q := 14) dX0_reach_13 rfl ki_3 ?_
  refine j_iadd hJ (q := 15) dX0_reach_14 rfl (nI_add _ _) ?_
  refine j_istore hJ (q := 17) (lvs' := [(6, .int (nI (a + h + 3))), (5, .int (nI ((a + h) / 2))), (4, .int (nI (a + h))), (0, .int (nI k)), (1, .int (nI a)), (2, .int (nI h)), (3, .int (nI r))]) dX0_reach_15 (by decide) rfl rfl ?_
  refine j_iload_n hJ (q := 18) dX0_reach_17 rfl 3 rfl rfl ?_
  have c1 : k = 0 ∨ k = 1 ∨ k = 2 ∨ k = 3 ∨ k = 4 ∨ k = 5 := by omega
  rcases c1 with c1 | c1 | c1 | c1 | c1 | c1
  · skip
    refine jn_tableOut hJ (q := 101) (k := 0) c1 dX0_reach_18 (by decide) (by decide) ?_
    refine j_iload hJ (q := 103) dX0_reach_101 2 rfl rfl ?_
    exact hE.1 _ _ _ _ _ _ _ rfl rfl dX0_reach_103 (Nat.le_refl _) (Nat.le_refl _) (congrArg (fun z => some (Value.int (nI z))) (by simp only [rch]; repeat' (first | omega | split)))
  · skip
    refine jn_tableIn hJ (q := 52) (off := 34) (k := 1) c1 dX0_reach_18 (by decide) (by decide) (by decide) (by decide) ?_
    refine j_iload hJ (q := 54) dX0_reach_52 1 rfl rfl ?_
    exact hE.1 _ _ _ _ _ _ _ rfl rfl dX0_reach_54 (Nat.le_refl _) (Nat.le_refl _) (congrArg (fun z => some (Value.int (nI z))) (by simp only [rch]; repeat' (first | omega | split)))
  · skip
    refine jn_tableIn hJ (q := 55) (off := 37) (k := 2) c1 dX0_reach_18 (by decide) (by decide) (by decide) (by decide) ?_
    refine j_iload hJ (q := 57) dX0_reach_55 0 rfl rfl ?_
    exact hE.1 _ _ _ _ _ _ _ rfl rfl dX0_reach_57 (Nat.le_refl _) (Nat.le_refl _) (congrArg (fun z => some (Value.int (nI z))) (by simp only [rch]; repeat' (first | omega | split)))
  · skip
    refine jn_tableIn hJ (q := 58) (off := 40) (k := 3) c1 dX0_reach_18 (by decide) (by decide) (by decide) (by decide) ?_
    refine j_iload hJ (q := 60) dX0_reach_58 1 rfl rfl ?_
    refine j_iload_n hJ (q := 61) dX0_reach_60 rfl 6 rfl rfl ?_
    refine j_iconst hJ (q := 62) dX0_reach_61 rfl ki_5 ?_
    refine jn_icmp_ge hJ (q := 65) (tgt := 69) dX0_reach_62 (by decide) rfl (by omega) (by omega) (fun c2 => ?_) (fun c2 => ?_)
    · skip
      refine j_iconst hJ (q := 70) dX0_reach_69 rfl ki_5 ?_
      refine j_iadd hJ (q := 71) dX0_reach_70 rfl (nI_add _ _) ?_
      exact hE.1 _ _ _ _ _ _ _ rfl rfl dX0_reach_71 (Nat.le_refl _) (Nat.le_refl _) (congrArg (fun z => some (Value.int (nI z))) (by simp only [rch]; repeat' (first | omega | split)))
    · skip
      refine j_iload_n hJ (q := 66) dX0_reach_65 rfl 6 rfl rfl ?_
      refine j_goto hJ (q := 70) dX0_reach_66 (by decide) ?_
      refine j_iadd hJ (q := 71) dX0_reach_70 rfl (nI_add _ _) ?_
      exact hE.1 _ _ _ _ _ _ _ rfl rfl dX0_reach_71 (Nat.le_refl _) (Nat.le_refl _) (congrArg (fun z => some (Value.int (nI z))) (by simp only [rch]; repeat' (first | omega | split)))
  · skip
    refine jn_tableIn hJ (q := 72) (off := 54) (k := 4) c1 dX0_reach_18 (by decide) (by decide) (by decide) (by decide) ?_
    refine j_iload hJ (q := 74) dX0_reach_72 0 rfl rfl ?_
    refine j_iload_n hJ (q := 75) dX0_reach_74 rfl 6 rfl rfl ?_
    refine jn_icmp_le hJ (q := 78) (tgt := 85) dX0_reach_75 (by decide) rfl (by omega) (by omega) (fun c3 => ?_) (fun c3 => ?_)
    · skip
      refine j_iconst hJ (q := 86) dX0_reach_85 rfl ki_0 ?_
      exact hE.1 _ _ _ _ _ _ _ rfl rfl dX0_reach_86 (Nat.le_refl _) (Nat.le_refl _) (congrArg (fun z => some (Value.int (nI z))) (by simp only [rch]; repeat' (first | omega | split)))
    · skip
      refine j_iload hJ (q := 80) dX0_reach_78 0 rfl rfl ?_
      refine j_iload_n hJ (q := 81) dX0_reach_80 rfl 6 rfl rfl ?_
      refine j_isub hJ (q := 82) dX0_reach_81 rfl (pk_sub (by omega)) ?_
      refine j_goto hJ (q := 86) dX0_reach_82 (by decide) ?_
      exact hE.1 _ _ _ _ _ _ _ rfl rfl dX0_reach_86 (Nat.le_refl _) (Nat.le_refl _) (congrArg (fun z => some (Value.int (nI z))) (by simp only [rch]; repeat' (first | omega | split)))
  · skip
    refine jn_tableIn hJ (q := 87) (off := 69) (k := 5) c1 dX0_reach_18 (by decide) (by decide) (by decide) (by decide) ?_
    refine j_iload_n hJ (q := 88) dX0_reach_87 rfl 6 rfl rfl ?_
    refine jn_if_ne hJ (q := 91) (tgt := 98) dX0_reach_88 (by decide) rfl (by omega) (fun c4 => ?_) (fun c4 => ?_)
    · skip
      refine j_iload hJ (q := 100) dX0_reach_98 2 rfl rfl ?_
      exact hE.1 _ _ _ _ _ _ _ rfl rfl dX0_reach_100 (Nat.le_refl _) (Nat.le_refl _) (congrArg (fun z => some (Value.int (nI z))) (by simp only [rch]; repeat' (first | omega | split)))
    · skip
      refine j_iconst hJ (q := 92) dX0_reach_91 rfl ki_2 ?_
      refine j_iload hJ (q := 94) dX0_reach_92 2 rfl rfl ?_
      refine j_imul hJ (q := 95) dX0_reach_94 rfl (pk_mul _ _) ?_
      refine j_goto hJ (q := 100) dX0_reach_95 (by decide) ?_
      exact hE.1 _ _ _ _ _ _ _ rfl rfl dX0_reach_100 (Nat.le_refl _) (Nat.le_refl _) (congrArg (fun z => some (Value.int (nI z))) (by simp only [rch]; repeat' (first | omega | split)))

set_option maxHeartbeats 4000000 in
set_option maxRecDepth 100000 in
theorem c_X4_whoIsOn (Z : jZ) (h : Nat) (q : Nat → Nat) (A : Nat → Nat) (K : Nat → Nat) (P : Nat → Nat) (kd : Nat → Nat) (am : Nat → Nat) (st : Nat → Nat) (rg : Nat → Nat) (s : Nat) (hw : wf A) (hR : rR A K P kd am st rg) (h1 : s < 1000000) : CR Z yX4_whoIsOn cX4_whoIsOn 3 ((some FieldType.int)) 1 [.ref h, .int (nI s)] [cO h q (A 21) (A 5) (A 6) (A 7) (A 8) (A 0), (q 0, ia Z 12 (ni K)), (q 1, ia Z 12 (ni P)), (q 2, ia Z 6 (ni kd)), (q 3, ia Z 6 (ni am)), (q 4, ia Z 6 (ni st)), (q 5, ia Z 6 (ni rg))] (fun rr => rr = some (.int (oI (who A s)))) := by
  refine CR.of RX4 rfl (by decide +kernel) (Nat.le_of_ble_eq_true rfl) ?_
  intro J hJ hE
  show J 0 [(0, .ref h), (1, .int (nI s))] [] [cO h q (A 21) (A 5) (A 6) (A 7) (A 8) (A 0), (q 0, ia Z 12 (ni K)), (q 1, ia Z 12 (ni P)), (q 2, ia Z 6 (ni kd)), (q 3, ia Z 6 (ni am)), (q 4, ia Z 6 (ni st)), (q 5, ia Z 6 (ni rg))] 0 0
  obtain ⟨⟨w1, w2, w3, w4, w5, w6⟩, hb, wr, wh, wd⟩ := id hw
  refine j_iconst hJ (q := 1) dX4_whoIsOn_0 rfl ki_0 ?_
  refine j_istore_n hJ (q := 2) (lvs' := [(2, .int (nI 0)), (0, .ref h), (1, .int (nI s))]) dX4_whoIsOn_1 rfl (by decide) rfl rfl ?_
  have L_2 : ∀ (fu_2 : Nat) (i : Nat), A 0 - i < fu_2 → (i ≤ A 0) → (∀ j, j < i → ¬ A (15 + j) = s) → J 2 [(0, .ref h), (1, .int (nI s)), (2, .int (nI i))] [] [cO h q (A 21) (A 5) (A 6) (A 7) (A 8) (A 0), (q 0, ia Z 12 (ni K)), (q 1, ia Z 12 (ni P)), (q 2, ia Z 6 (ni kd)), (q 3, ia Z 6 (ni am)), (q 4, ia Z 6 (ni st)), (q 5, ia Z 6 (ni rg))] 0 0 := by
    intro fu_2
    induction fu_2 with
    | zero => intro i hm; exact absurd hm (Nat.not_lt_zero _)
    | succ fu_2 ih_2 =>
      intro i hm_2 hi hn
      refine j_iload_n hJ (q := 3) dX4_whoIsOn_2 rfl 2 rfl rfl ?_
      refine j_aload_n hJ (q := 4) dX4_whoIsOn_3 rfl 0 rfl rfl ?_
      refine j_get hJ (q := 7) jf_X4_50 dX4_whoIsOn_4 0 rfl rfl rfl ?_
      refine jn_icmp_ge hJ (q := 10) (tgt := 28) dX4_whoIsOn_7 (by decide) rfl (by omega) (by omega) (fun c1 => ?_) (fun c1 => ?_)
      · skip
        refine j_iconst hJ (q := 29) dX4_whoIsOn_28 rfl ki_m1 ?_
        exact hE.1 _ _ _ _ _ _ _ rfl rfl dX4_whoIsOn_29 (Nat.le_refl _) (Nat.le_refl _) (congrArg (fun z => some (Value.int (oI z))) (show none = who A s by exact (who_no (fun j hj => hn j (by omega))).symm))
      · skip
        refine j_aload_n hJ (q := 11) dX4_whoIsOn_10 rfl 0 rfl rfl ?_
        refine j_get hJ (q := 14) jf_X4_24 dX4_whoIsOn_11 0 rfl rfl rfl ?_
        refine j_iload_n hJ (q := 15) dX4_whoIsOn_14 rfl 2 rfl rfl ?_
        refine j_ialdN hJ (q := 16) (z := nI (st i)) dX4_whoIsOn_15 5 rfl (by omega) (by decide) rfl rfl ?_
        refine j_top (congrArg nI (rR_s hR (i := i) (by omega))) ?_
        have b2 := hb (15 + i)
        refine j_iload_n hJ (q := 17) dX4_whoIsOn_16 rfl 1 rfl rfl ?_
        refine jn_icmp_ne hJ (q := 20) (tgt := 22) dX4_whoIsOn_17 (by decide) rfl (by omega) (by omega) (fun c3 => ?_) (fun c3 => ?_)
        · skip
          refine j_iinc hJ (q := 25) (lvs' := [(2, .int (nI (i + 1))), (0, .ref h), (1, .int (nI s))]) dX4_whoIsOn_22 2 rfl (by rw [show Int32.ofInt 1 = nI 1 from by decide +kernel]; exact nI_add _ _) (by decide) rfl rfl ?_
          refine j_goto hJ (q := 2) dX4_whoIsOn_25 (by decide) ?_
          refine j_locals hJ [1, 2, 0] rfl ?_
          exact ih_2 (i + 1) (by omega) (by omega) (fun j hj => (Nat.lt_or_ge j i).elim (hn j) (fun h2 => by rw [show j = i by omega]; assumption))
        · skip
          refine j_iload_n hJ (q := 21) dX4_whoIsOn_20 rfl 2 rfl rfl ?_
          exact hE.1 _ _ _ _ _ _ _ rfl rfl dX4_whoIsOn_21 (Nat.le_refl _) (Nat.le_refl _) (congrArg (fun z => some (Value.int (oI z))) (show some i = who A s by exact (who_of hw (by omega) (by assumption)).symm))
  refine j_locals hJ [1, 2, 0] rfl ?_
  exact L_2 ((A 0 - 0) + 1) 0 (Nat.lt_succ_self _) (by omega) (fun j hj => absurd hj (Nat.not_lt_zero _))

set_option maxHeartbeats 4000000 in
set_option maxRecDepth 100000 in
theorem c_X4_around (Z : jZ) (h : Nat) (q : Nat → Nat) (A : Nat → Nat) (f : Nat) (h1 : 0 < A 21 ∧ A 21 < 100000) (h2 : f < 1000000) : CR Z yX4_around cX4_around 2 ((some FieldType.int)) 1 [.ref h, .int (nI f)] [cO h q (A 21) (A 5) (A 6) (A 7) (A 8) (A 0)] (fun rr => rr = some (.int (nI (f % A 21)))) := by
  refine CR.of RX4 rfl (by decide +kernel) (Nat.le_of_ble_eq_true rfl) ?_
  intro J hJ hE
  show J 0 [(0, .ref h), (1, .int (nI f))] [] [cO h q (A 21) (A 5) (A 6) (A 7) (A 8) (A 0)] 0 0
  refine j_aload_n hJ (q := 1) dX4_around_0 rfl 0 rfl rfl ?_
  refine j_get hJ (q := 4) jf_X4_34 dX4_around_1 0 rfl rfl rfl ?_
  refine jz_if_le hJ (q := 7) (tgt := 16) dX4_around_4 (by decide) rfl (zI_nat (A 21)).symm (by omega) (fun c1 => ?_) (fun c1 => ?_)
  · skip
    exfalso; omega
  · skip
    refine j_iload_n hJ (q := 8) dX4_around_7 rfl 1 rfl rfl ?_
    refine j_aload_n hJ (q := 9) dX4_around_8 rfl 0 rfl rfl ?_
    refine j_get hJ (q := 12) jf_X4_34 dX4_around_9 0 rfl rfl rfl ?_
    refine j_irem hJ (q := 13) dX4_around_12 rfl (nI_ne0 (by omega) (by omega)) (pk_rem (by omega) (by omega) (by omega)) ?_
    refine j_goto hJ (q := 17) dX4_around_13 (by decide) ?_
    exact hE.1 _ _ _ _ _ _ _ rfl rfl dX4_around_17 (Nat.le_refl _) (Nat.le_refl _) (congrArg (fun z => some (Value.int (nI z))) (by rfl))

set_option maxHeartbeats 4000000 in
set_option maxRecDepth 100000 in
theorem c_X4_placeOf (Z : jZ) (h : Nat) (q : Nat → Nat) (A : Nat → Nat) (K : Nat → Nat) (P : Nat → Nat) (kd : Nat → Nat) (am : Nat → Nat) (st : Nat → Nat) (rg : Nat → Nat) (i : Nat) (m : Nat) (hw : wf A) (hR : rR A K P kd am st rg) (h1 : i < A 0) (h2 : m < 1000) : CR Z yX4_placeOf cX4_placeOf 3 ((some FieldType.int)) 2 [.ref h, .int (nI i), .int (nI m)] [cO h q (A 21) (A 5) (A 6) (A 7) (A 8) (A 0), (q 0, ia Z 12 (ni K)), (q 1, ia Z 12 (ni P)), (q 2, ia Z 6 (ni kd)), (q 3, ia Z 6 (ni am)), (q 4, ia Z 6 (ni st)), (q 5, ia Z 6 (ni rg))] (fun rr => rr = some (.int (nI ((A (15 + i) + A 5 + A 6 * m) % A 21)))) := by
  refine CR.of RX4 rfl (by decide +kernel) (Nat.le_of_ble_eq_true rfl) ?_
  intro J hJ hE
  show J 0 [(0, .ref h), (1, .int (nI i)), (2, .int (nI m))] [] [cO h q (A 21) (A 5) (A 6) (A 7) (A 8) (A 0), (q 0, ia Z 12 (ni K)), (q 1, ia Z 12 (ni P)), (q 2, ia Z 6 (ni kd)), (q 3, ia Z 6 (ni am)), (q 4, ia Z 6 (ni st)), (q 5, ia Z 6 (ni rg))] 0 0
  obtain ⟨⟨w1, w2, w3, w4, w5, w6⟩, hb, wr, wh, wd⟩ := id hw
  refine j_aload_n hJ (q := 1) dX4_placeOf_0 rfl 0 rfl rfl ?_
  refine j_aload_n hJ (q := 2) dX4_placeOf_1 rfl 0 rfl rfl ?_
  refine j_get hJ (q := 5) jf_X4_24 dX4_placeOf_2 0 rfl rfl rfl ?_
  refine j_iload_n hJ (q := 6) dX4_placeOf_5 rfl 1 rfl rfl ?_
  refine j_ialdN hJ (q := 7) (z := nI (st i)) dX4_placeOf_6 5 rfl (by omega) (by decide) rfl rfl ?_
  refine j_top (congrArg nI (rR_s hR (i := i) (by omega))) ?_
  have b1 := hb (15 + i)
  refine j_aload_n hJ (q := 8) dX4_placeOf_7 rfl 0 rfl rfl ?_
  refine j_get hJ (q := 11) jf_X4_38 dX4_placeOf_8 0 rfl rfl rfl ?_
  refine j_iadd hJ (q := 12) dX4_placeOf_11 rfl (nI_add _ _) ?_
  refine j_aload_n hJ (q := 13) dX4_placeOf_12 rfl 0 rfl rfl ?_
  refine j_get hJ (q := 16) jf_X4_41 dX4_placeOf_13 0 rfl rfl rfl ?_
  refine j_iload_n hJ (q := 17) dX4_placeOf_16 rfl 2 rfl rfl ?_
  refine j_imul hJ (q := 18) dX4_placeOf_17 rfl (pk_mul _ _) ?_
  refine j_iadd hJ (q := 19) dX4_placeOf_18 rfl (nI_add _ _) ?_
  have hm : A 6 * m ≤ 3 * 1000 := Nat.mul_le_mul w4 (by omega)
  have hs := (wr i h1).1
  refine j_vR hJ (q := 22) (rest := []) (As := [.int (nI (A (15 + i) + (A 5) + ((A 6) * m)))]) jl_X4_63 (c_X4_around Z h q A (A (15 + i) + (A 5) + ((A 6) * m)) (by omega) (by omega)) 0 rfl rfl dX4_placeOf_19 rfl (by decide) (Nat.le_of_ble_eq_true rfl) [0] rfl rfl (fun rv hp => ?_)
  obtain rfl := hp
  show J 22 [(0, .ref h), (1, .int (nI i)), (2, .int (nI m))] [.int (nI ((A (15 + i) + (A 5) + ((A 6) * m)) % A 21))] [cO h q (A 21) (A 5) (A 6) (A 7) (A 8) (A 0), (q 0, ia Z 12 (ni K)), (q 1, ia Z 12 (ni P)), (q 2, ia Z 6 (ni kd)), (q 3, ia Z 6 (ni am)), (q 4, ia Z 6 (ni st)), (q 5, ia Z 6 (ni rg))] 0 0
  exact hE.1 _ _ _ _ _ _ _ rfl rfl dX4_placeOf_22 (Nat.le_refl _) (Nat.le_refl _) (congrArg (fun z => some (Value.int (nI z))) (by rfl))

set_option maxHeartbeats 4000000 in
set_option maxRecDepth 100000 in
theorem c_X4_highOn (Z : jZ) (h : Nat) (q : Nat → Nat) (A : Nat → Nat) (K : Nat → Nat) (P : Nat → Nat) (kd : Nat → Nat) (am : Nat → Nat) (st : Nat → Nat) (rg : Nat → Nat) (s : Nat) (m : Nat) (hw : wf A) (hR : rR A K P kd am st rg) (h1 : s < A 21) (h2 : m < 1000) : CR Z yX4_highOn cX4_highOn 3 ((some FieldType.int)) 2 [.ref h, .int (nI s), .int (nI m)] [cO h q (A 21) (A 5) (A 6) (A 7) (A 8) (A 0), (q 0, ia Z 12 (ni K)), (q 1, ia Z 12 (ni P)), (q 2, ia Z 6 (ni kd)), (q 3, ia Z 6 (ni am)), (q 4, ia Z 6 (ni st)), (q 5, ia Z 6 (ni rg))] (fun rr => rr = some (.int (nI (hgh (A (34 + s)) (A (46 + s)) (A 8 + m) (A 6))))) := by
  refine CR.of RX4 rfl (by decide +kernel) (Nat.le_of_ble_eq_true rfl) ?_
  intro J hJ hE
  show J 0 [(0, .ref h), (1, .int (nI s)), (2, .int (nI m))] [] [cO h q (A 21) (A 5) (A 6) (A 7) (A 8) (A 0), (q 0, ia Z 12 (ni K)), (q 1, ia Z 12 (ni P)), (q 2, ia Z 6 (ni kd)), (q 3, ia Z 6 (ni am)), (q 4, ia Z 6 (ni st)), (q 5, ia Z 6 (ni rg))] 0 0
  obtain ⟨⟨w1, w2, w3, w4, w5, w6⟩, hb, wr, wh, wd⟩ := id hw
  have hs := wh s (by omega)
  have hb8 := hb 8
  refine j_aload_n hJ (q := 1) dX4_highOn_0 rfl 0 rfl rfl ?_
  refine j_get hJ (q := 4) jf_X4_9 dX4_highOn_1 0 rfl rfl rfl ?_
  refine j_iload_n hJ (q := 5) dX4_highOn_4 rfl 1 rfl rfl ?_
  refine j_ialdN hJ (q := 6) (z := nI (K s)) dX4_highOn_5 1 rfl (by omega) (by decide) rfl rfl ?_
  refine j_top (congrArg nI (rR_K hR (i := s) (by omega))) ?_
  have b1 := hb (34 + s)
  refine j_aload_n hJ (q := 7) dX4_highOn_6 rfl 0 rfl rfl ?_
  refine j_get hJ (q := 10) jf_X4_47 dX4_highOn_7 0 rfl rfl rfl ?_
  refine j_iload_n hJ (q := 11) dX4_highOn_10 rfl 2 rfl rfl ?_
  refine j_iadd hJ (q := 12) dX4_highOn_11 rfl (nI_add _ _) ?_
  refine j_aload_n hJ (q := 13) dX4_highOn_12 rfl 0 rfl rfl ?_
  refine j_get hJ (q := 16) jf_X4_15 dX4_highOn_13 0 rfl rfl rfl ?_
  refine j_iload_n hJ (q := 17) dX4_highOn_16 rfl 1 rfl rfl ?_
  refine j_ialdN hJ (q := 18) (z := nI (P s)) dX4_highOn_17 2 rfl (by omega) (by decide) rfl rfl ?_
  refine j_top (congrArg nI (rR_P hR (i := s) (by omega))) ?_
  have b2 := hb (46 + s)
  refine j_aload_n hJ (q := 19) dX4_highOn_18 rfl 0 rfl rfl ?_
  refine j_get hJ (q := 22) jf_X4_41 dX4_highOn_19 0 rfl rfl rfl ?_
  refine j_sR hJ (q := 25) (rest := []) (As := [.int (nI (A (34 + s))), .int (nI (A 8 + m)), .int (nI (A (46 + s))), .int (nI (A 6))]) jl_X4_67 (c_X1_high Z (A (34 + s)) (A 8 + m) (A (46 + s)) (A 6) (by omega) (by omega) (by omega) (by omega)) dX4_highOn_22 rfl (by decide) (Nat.le_of_ble_eq_true rfl) [] rfl rfl (fun rv hp => ?_)
  obtain rfl := hp
  show J 25 [(0, .ref h), (1, .int (nI s)), (2, .int (nI m))] [.int (nI (hgh (A (34 + s)) (A (46 + s)) (A 8 + m) (A 6)))] [cO h q (A 21) (A 5) (A 6) (A 7) (A 8) (A 0), (q 0, ia Z 12 (ni K)), (q 1, ia Z 12 (ni P)), (q 2, ia Z 6 (ni kd)), (q 3, ia Z 6 (ni am)), (q 4, ia Z 6 (ni st)), (q 5, ia Z 6 (ni rg))] 0 0
  exact hE.1 _ _ _ _ _ _ _ rfl rfl dX4_highOn_25 (Nat.le_refl _) (Nat.le_refl _) (congrArg (fun z => some (Value.int (nI z))) (by rfl))

set_option maxHeartbeats 4000000 in
set_option maxRecDepth 100000 in
theorem c_X4_reachOf (Z : jZ) (h : Nat) (q : Nat → Nat) (A : Nat → Nat) (K : Nat → Nat) (P : Nat → Nat) (kd : Nat → Nat) (am : Nat → Nat) (st : Nat → Nat) (rg : Nat → Nat) (i : Nat) (hw : wf A) (hR : rR A K P kd am st rg) (h1 : i < A 0) : CR Z yX4_reachOf cX4_reachOf 3 ((some FieldType.int)) 2 [.ref h, .int (nI i)] [cO h q (A 21) (A 5) (A 6) (A 7) (A 8) (A 0), (q 0, ia Z 12 (ni K)), (q 1, ia Z 12 (ni P)), (q 2, ia Z 6 (ni kd)), (q 3, ia Z 6 (ni am)), (q 4, ia Z 6 (ni st)), (q 5, ia Z 6 (ni rg))] (fun rr => rr = some (.int (nI (rchO A i)))) := by
  refine CR.of RX4 rfl (by decide +kernel) (Nat.le_of_ble_eq_true rfl) ?_
  intro J hJ hE
  show J 0 [(0, .ref h), (1, .int (nI i))] [] [cO h q (A 21) (A 5) (A 6) (A 7) (A 8) (A 0), (q 0, ia Z 12 (ni K)), (q 1, ia Z 12 (ni P)), (q 2, ia Z 6 (ni kd)), (q 3, ia Z 6 (ni am)), (q 4, ia Z 6 (ni st)), (q 5, ia Z 6 (ni rg))] 0 0
  obtain ⟨⟨w1, w2, w3, w4, w5, w6⟩, hb, wr, wh, wd⟩ := id hw
  have hs := wr i h1
  have hh := wh (A (15 + i)) (by omega)
  have hb8 := hb 8
  refine j_aload_n hJ (q := 1) dX4_reachOf_0 rfl 0 rfl rfl ?_
  refine j_get hJ (q := 4) jf_X4_24 dX4_reachOf_1 0 rfl rfl rfl ?_
  refine j_iload_n hJ (q := 5) dX4_reachOf_4 rfl 1 rfl rfl ?_
  refine j_ialdN hJ (q := 6) (z := nI (st i)) dX4_reachOf_5 5 rfl (by omega) (by decide) rfl rfl ?_
  refine j_top (congrArg nI (rR_s hR (i := i) (by omega))) ?_
  have b1 := hb (15 + i)
  refine j_istore_n hJ (q := 7) (lvs' := [(2, .int (nI (A (15 + i)))), (0, .ref h), (1, .int (nI i))]) dX4_reachOf_6 rfl (by decide) rfl rfl ?_
  refine j_aload_n hJ (q := 8) dX4_reachOf_7 rfl 1 rfl rfl ?_
  refine j_get hJ (q := 11) jf_X4_18 dX4_reachOf_8 0 rfl rfl rfl ?_
  refine j_iload_n hJ (q := 12) dX4_reachOf_11 rfl 2 rfl rfl ?_
  refine j_ialdN hJ (q := 13) (z := nI (kd i)) dX4_reachOf_12 3 rfl (by omega) (by decide) rfl rfl ?_
  refine j_top (congrArg nI (rR_k hR (i := i) (by omega))) ?_
  have b2 := hb (22 + i)
  refine j_aload_n hJ (q := 14) dX4_reachOf_13 rfl 1 rfl rfl ?_
  refine j_get hJ (q := 17) jf_X4_21 dX4_reachOf_14 0 rfl rfl rfl ?_
  refine j_iload_n hJ (q := 18) dX4_reachOf_17 rfl 2 rfl rfl ?_
  refine j_ialdN hJ (q := 19) (z := nI (am i)) dX4_reachOf_18 4 rfl (by omega) (by decide) rfl rfl ?_
  refine j_top (congrArg nI (rR_a hR (i := i) (by omega))) ?_
  have b3 := hb (28 + i)
  refine j_aload_n hJ (q := 20) dX4_reachOf_19 rfl 1 rfl rfl ?_
  refine j_get hJ (q := 23) jf_X4_9 dX4_reachOf_20 0 rfl rfl rfl ?_
  refine j_iload_n hJ (q := 24) dX4_reachOf_23 rfl 0 rfl rfl ?_
  refine j_ialdN hJ (q := 25) (z := nI (K (A (15 + i)))) dX4_reachOf_24 1 rfl (by omega) (by decide) rfl rfl ?_
  refine j_top (congrArg nI (rR_K hR (i := A (15 + i)) (by omega))) ?_
  have b4 := hb (34 + (A (15 + i)))
  refine j_aload_n hJ (q := 26) dX4_reachOf_25 rfl 1 rfl rfl ?_
  refine j_get hJ (q := 29) jf_X4_47 dX4_reachOf_26 0 rfl rfl rfl ?_
  refine j_aload_n hJ (q := 30) dX4_reachOf_29 rfl 1 rfl rfl ?_
  refine j_get hJ (q := 33) jf_X4_15 dX4_reachOf_30 0 rfl rfl rfl ?_
  refine j_iload_n hJ (q := 34) dX4_reachOf_33 rfl 0 rfl rfl ?_
  refine j_ialdN hJ (q := 35) (z := nI (P (A (15 + i)))) dX4_reachOf_34 2 rfl (by omega) (by decide) rfl rfl ?_
  refine j_top (congrArg nI (rR_P hR (i := A (15 + i)) (by omega))) ?_
  have b5 := hb (46 + (A (15 + i)))
  refine j_aload_n hJ (q := 36) dX4_reachOf_35 rfl 1 rfl rfl ?_
  refine j_get hJ (q := 39) jf_X4_41 dX4_reachOf_36 0 rfl rfl rfl ?_
  refine j_sR hJ (q := 42) (rest := [.int (nI (A (28 + i))), .int (nI (A (22 + i)))]) (As := [.int (nI (A (34 + (A (15 + i))))), .int (nI (A 8)), .int (nI (A (46 + (A (15 + i))))), .int (nI (A 6))]) jl_X4_67 (c_X1_high Z (A (34 + (A (15 + i)))) (A 8) (A (46 + (A (15 + i)))) (A 6) (by omega) (by omega) (by omega) (by omega)) dX4_reachOf_39 rfl (by decide) (Nat.le_of_ble_eq_true rfl) [] rfl rfl (fun rv hp => ?_)
  obtain rfl := hp
  show J 42 [(2, .int (nI (A (15 + i)))), (0, .ref h), (1, .int (nI i))] [.int (nI (hgh (A (34 + (A (15 + i)))) (A (46 + (A (15 + i)))) (A 8) (A 6))), .int (nI (A (28 + i))), .int (nI (A (22 + i)))] [cO h q (A 21) (A 5) (A 6) (A 7) (A 8) (A 0), (q 0, ia Z 12 (ni K)), (q 1, ia Z 12 (ni P)), (q 2, ia Z 6 (ni kd)), (q 3, ia Z 6 (ni am)), (q 4, ia Z 6 (ni st)), (q 5, ia Z 6 (ni rg))] 0 0
  have hg : hgh (A (34 + A (15 + i))) (A (46 + A (15 + i))) (A 8) (A 6) ≤ 10 := hgh_le w4
  refine j_aload_n hJ (q := 43) dX4_reachOf_42 rfl 1 rfl rfl ?_
  refine j_get hJ (q := 46) jf_X4_27 dX4_reachOf_43 0 rfl rfl rfl ?_
  refine j_iload_n hJ (q := 47) dX4_reachOf_46 rfl 2 rfl rfl ?_
  refine j_ialdN hJ (q := 48) (z := nI (rg i)) dX4_reachOf_47 6 rfl (by omega) (by decide) rfl rfl ?_
  refine j_top (congrArg nI (rR_r hR (i := i) (by omega))) ?_
  have b6 := hb (9 + i)
  refine j_sR hJ (q := 51) (rest := []) (As := [.int (nI (A (22 + i))), .int (nI (A (28 + i))), .int (nI (hgh (A (34 + (A (15 + i)))) (A (46 + (A (15 + i)))) (A 8) (A 6))), .int (nI (A (9 + i)))]) jl_X4_73 (c_X0_reach Z (A (22 + i)) (A (28 + i)) (hgh (A (34 + (A (15 + i)))) (A (46 + (A (15 + i)))) (A 8) (A 6)) (A (9 + i)) (by omega) (by omega) (by omega) (by omega)) dX4_reachOf_48 rfl (by decide) (Nat.le_of_ble_eq_true rfl) [] rfl rfl (fun rv hp => ?_)
  obtain rfl := hp
  show J 51 [(2, .int (nI (A (15 + i)))), (0, .ref h), (1, .int (nI i))] [.int (nI (rch (A (22 + i)) (A (28 + i)) (hgh (A (34 + (A (15 + i)))) (A (46 + (A (15 + i)))) (A 8) (A 6)) (A (9 + i))))] [cO h q (A 21) (A 5) (A 6) (A 7) (A 8) (A 0), (q 0, ia Z 12 (ni K)), (q 1, ia Z 12 (ni P)), (q 2, ia Z 6 (ni kd)), (q 3, ia Z 6 (ni am)), (q 4, ia Z 6 (ni st)), (q 5, ia Z 6 (ni rg))] 0 0
  exact hE.1 _ _ _ _ _ _ _ rfl rfl dX4_reachOf_51 (Nat.le_refl _) (Nat.le_refl _) (congrArg (fun z => some (Value.int (nI z))) (by rfl))

set_option maxHeartbeats 4000000 in
set_option maxRecDepth 100000 in
theorem c_X4_allRings (Z : jZ) (h : Nat) (q : Nat → Nat) (A : Nat → Nat) (K : Nat → Nat) (P : Nat → Nat) (kd : Nat → Nat) (am : Nat → Nat) (st : Nat → Nat) (rg : Nat → Nat) (hw : wf A) (hR : rR A K P kd am st rg) : CR Z yX4_allRings cX4_allRings 3 ((some FieldType.int)) 1 [.ref h] [cO h q (A 21) (A 5) (A 6) (A 7) (A 8) (A 0), (q 0, ia Z 12 (ni K)), (q 1, ia Z 12 (ni P)), (q 2, ia Z 6 (ni kd)), (q 3, ia Z 6 (ni am)), (q 4, ia Z 6 (ni st)), (q 5, ia Z 6 (ni rg))] (fun rr => rr = some (.int (nI (sumR A (A 0))))) := by
  refine CR.of RX4 rfl (by decide +kernel) (Nat.le_of_ble_eq_true rfl) ?_
  intro J hJ hE
  show J 0 [(0, .ref h)] [] [cO h q (A 21) (A 5) (A 6) (A 7) (A 8) (A 0), (q 0, ia Z 12 (ni K)), (q 1, ia Z 12 (ni P)), (q 2, ia Z 6 (ni kd)), (q 3, ia Z 6 (ni am)), (q 4, ia Z 6 (ni st)), (q 5, ia Z 6 (ni rg))] 0 0
  obtain ⟨⟨w1, w2, w3, w4, w5, w6⟩, hb, wr, wh, wd⟩ := id hw
  refine j_iconst hJ (q := 1) dX4_allRings_0 rfl ki_0 ?_
  refine j_istore_n hJ (q := 2) (lvs' := [(1, .int (nI 0)), (0, .ref h)]) dX4_allRings_1 rfl (by decide) rfl rfl ?_
  refine j_iconst hJ (q := 3) dX4_allRings_2 rfl ki_0 ?_
  refine j_istore_n hJ (q := 4) (lvs' := [(2, .int (nI 0)), (1, .int (nI 0)), (0, .ref h)]) dX4_allRings_3 rfl (by decide) rfl rfl ?_
  have L_4 : ∀ (fu_4 : Nat) (al : Nat) (i : Nat), A 0 - i < fu_4 → (i ≤ A 0) → (al = sumR A i) → J 4 [(0, .ref h), (1, .int (nI al)), (2, .int (nI i))] [] [cO h q (A 21) (A 5) (A 6) (A 7) (A 8) (A 0), (q 0, ia Z 12 (ni K)), (q 1, ia Z 12 (ni P)), (q 2, ia Z 6 (ni kd)), (q 3, ia Z 6 (ni am)), (q 4, ia Z 6 (ni st)), (q 5, ia Z 6 (ni rg))] 0 0 := by
    intro fu_4
    induction fu_4 with
    | zero => intro al i hm; exact absurd hm (Nat.not_lt_zero _)
    | succ fu_4 ih_4 =>
      intro al i hm_4 hi ha
      refine j_iload_n hJ (q := 5) dX4_allRings_4 rfl 2 rfl rfl ?_
      refine j_aload_n hJ (q := 6) dX4_allRings_5 rfl 0 rfl rfl ?_
      refine j_get hJ (q := 9) jf_X4_50 dX4_allRings_6 0 rfl rfl rfl ?_
      refine jn_icmp_ge hJ (q := 12) (tgt := 27) dX4_allRings_9 (by decide) rfl (by omega) (by omega) (fun c1 => ?_) (fun c1 => ?_)
      · skip
        refine j_iload_n hJ (q := 28) dX4_allRings_27 rfl 1 rfl rfl ?_
        exact hE.1 _ _ _ _ _ _ _ rfl rfl dX4_allRings_28 (Nat.le_refl _) (Nat.le_refl _) (congrArg (fun z => some (Value.int (nI z))) (by rw [ha, show i = A 0 by omega]))
      · skip
        refine j_iload_n hJ (q := 13) dX4_allRings_12 rfl 1 rfl rfl ?_
        refine j_aload_n hJ (q := 14) dX4_allRings_13 rfl 0 rfl rfl ?_
        refine j_get hJ (q := 17) jf_X4_27 dX4_allRings_14 0 rfl rfl rfl ?_
        refine j_iload_n hJ (q := 18) dX4_allRings_17 rfl 2 rfl rfl ?_
        refine j_ialdN hJ (q := 19) (z := nI (rg i)) dX4_allRings_18 6 rfl (by omega) (by decide) rfl rfl ?_
        refine j_top (congrArg nI (rR_r hR (i := i) (by omega))) ?_
        have b2 := hb (9 + i)
        refine j_iadd hJ (q := 20) dX4_allRings_19 rfl (nI_add _ _) ?_
        refine j_istore_n hJ (q := 21) (lvs' := [(1, .int (nI (al + (A (9 + i))))), (0, .ref h), (2, .int (nI i))]) dX4_allRings_20 rfl (by decide) rfl rfl ?_
        refine j_iinc hJ (q := 24) (lvs' := [(2, .int (nI (i + 1))), (1, .int (nI (al + (A (9 + i))))), (0, .ref h)]) dX4_allRings_21 2 rfl (by rw [show Int32.ofInt 1 = nI 1 from by decide +kernel]; exact nI_add _ _) (by decide) rfl rfl ?_
        refine j_goto hJ (q := 4) dX4_allRings_24 (by decide) ?_
        refine j_locals hJ [2, 1, 0] rfl ?_
        exact ih_4 (al + (A (9 + i))) (i + 1) (by omega) (by omega) (by rw [ha]; rfl)
  refine j_locals hJ [2, 1, 0] rfl ?_
  exact L_4 ((A 0 - 0) + 1) 0 0 (Nat.lt_succ_self _) (by omega) rfl

set_option maxHeartbeats 4000000 in
set_option maxRecDepth 100000 in
theorem c_X4_mixInto (Z : jZ) (h : Nat) (q : Nat → Nat) (A : Nat → Nat) (K : Nat → Nat) (P : Nat → Nat) (kd : Nat → Nat) (am : Nat → Nat) (st : Nat → Nat) (rg : Nat → Nat) (x : Int) (hw : wf A) (hR : rR A K P kd am st rg) : CR Z yX4_mixInto cX4_mixInto 6 ((some FieldType.long)) 1 [.ref h, .long (zL x)] [cO h q (A 21) (A 5) (A 6) (A 7) (A 8) (A 0), (q 0, ia Z 12 (ni K)), (q 1, ia Z 12 (ni P)), (q 2, ia Z 6 (ni kd)), (q 3, ia Z 6 (ni am)), (q 4, ia Z 6 (ni st)), (q 5, ia Z 6 (ni rg))] (fun rr => rr = some (.long (zL (drN A (dsN A x (A 21)) (A 0))))) := by
  refine CR.of RX4 rfl (by decide +kernel) (Nat.le_of_ble_eq_true rfl) ?_
  intro J hJ hE
  show J 0 [(0, .ref h), (1, .long (zL x))] [] [cO h q (A 21) (A 5) (A 6) (A 7) (A 8) (A 0), (q 0, ia Z 12 (ni K)), (q 1, ia Z 12 (ni P)), (q 2, ia Z 6 (ni kd)), (q 3, ia Z 6 (ni am)), (q 4, ia Z 6 (ni st)), (q 5, ia Z 6 (ni rg))] 0 0
  obtain ⟨⟨w1, w2, w3, w4, w5, w6⟩, hb, wr, wh, wd⟩ := id hw
  refine j_lload_n hJ (q := 1) dX4_mixInto_0 rfl 1 rfl rfl ?_
  refine j_lstore_n hJ (q := 2) (lvs' := [(3, .long (zL x)), (0, .ref h), (1, .long (zL x))]) dX4_mixInto_1 rfl (by decide) rfl rfl ?_
  refine j_iconst hJ (q := 3) dX4_mixInto_2 rfl ki_0 ?_
  refine j_istore hJ (q := 5) (lvs' := [(5, .int (nI 0)), (3, .long (zL x)), (0, .ref h), (1, .long (zL x))]) dX4_mixInto_3 (by decide) rfl rfl ?_
  have L_5 : ∀ (fu_5 : Nat) (d1 : Int) (s : Nat), A 21 - s < fu_5 → (s ≤ A 21) → (d1 = dsN A x s) → J 5 [(0, .ref h), (1, .long (zL x)), (3, .long (zL d1)), (5, .int (nI s))] [] [cO h q (A 21) (A 5) (A 6) (A 7) (A 8) (A 0), (q 0, ia Z 12 (ni K)), (q 1, ia Z 12 (ni P)), (q 2, ia Z 6 (ni kd)), (q 3, ia Z 6 (ni am)), (q 4, ia Z 6 (ni st)), (q 5, ia Z 6 (ni rg))] 0 0 := by
    intro fu_5
    induction fu_5 with
    | zero => intro d1 s hm; exact absurd hm (Nat.not_lt_zero _)
    | succ fu_5 ih_5 =>
      intro d1 s hm_5 hs hd1
      refine j_iload hJ (q := 7) dX4_mixInto_5 3 rfl rfl ?_
      refine j_aload_n hJ (q := 8) dX4_mixInto_7 rfl 0 rfl rfl ?_
      refine j_get hJ (q := 11) jf_X4_34 dX4_mixInto_8 0 rfl rfl rfl ?_
      refine jn_icmp_ge hJ (q := 14) (tgt := 50) dX4_mixInto_11 (by decide) rfl (by omega) (by omega) (fun c1 => ?_) (fun c1 => ?_)
      · skip
        refine j_iconst hJ (q := 51) dX4_mixInto_50 rfl ki_0 ?_
        refine j_istore hJ (q := 53) (lvs' := [(5, .int (nI 0)), (0, .ref h), (1, .long (zL x)), (3, .long (zL d1))]) dX4_mixInto_51 (by decide) rfl rfl ?_
        have L_53 : ∀ (fu_53 : Nat) (d2 : Int) (i : Nat), A 0 - i < fu_53 → (i ≤ A 0) → (d2 = drN A (dsN A x (A 21)) i) → J 53 [(0, .ref h), (1, .long (zL x)), (3, .long (zL d2)), (5, .int (nI i))] [] [cO h q (A 21) (A 5) (A 6) (A 7) (A 8) (A 0), (q 0, ia Z 12 (ni K)), (q 1, ia Z 12 (ni P)), (q 2, ia Z 6 (ni kd)), (q 3, ia Z 6 (ni am)), (q 4, ia Z 6 (ni st)), (q 5, ia Z 6 (ni rg))] 0 0 := by
          intro fu_53
          induction fu_53 with
          | zero => intro d2 i hm; exact absurd hm (Nat.not_lt_zero _)
          | succ fu_53 ih_53 =>
            intro d2 i hm_53 hi hd2
            refine j_iload hJ (q := 55) dX4_mixInto_53 3 rfl rfl ?_
            refine j_aload_n hJ (q := 56) dX4_mixInto_55 rfl 0 rfl rfl ?_
            refine j_get hJ (q := 59) jf_X4_50 dX4_mixInto_56 0 rfl rfl rfl ?_
            refine jn_icmp_ge hJ (q := 62) (tgt := 128) dX4_mixInto_59 (by decide) rfl (by omega) (by omega) (fun c2 => ?_) (fun c2 => ?_)
            · skip
              refine j_lload_n hJ (q := 129) dX4_mixInto_128 rfl 2 rfl rfl ?_
              exact hE.2.1 _ _ _ _ _ _ rfl dX4_mixInto_129 (Nat.le_refl _) (Nat.le_refl _) (congrArg (fun z => some (Value.long (zL z))) (by rw [hd2, show i = A 0 by omega]))
            · skip
              refine j_ldc2 hJ (q := 65) (v' := zL 31) dX4_mixInto_62 tm_766 rfl rfl ?_
              refine j_lload_n hJ (q := 66) dX4_mixInto_65 rfl 2 rfl rfl ?_
              refine j_lmul hJ (q := 67) dX4_mixInto_66 rfl (zL_mul _ _) ?_
              refine j_aload_n hJ (q := 68) dX4_mixInto_67 rfl 0 rfl rfl ?_
              refine j_get hJ (q := 71) jf_X4_18 dX4_mixInto_68 0 rfl rfl rfl ?_
              refine j_iload hJ (q := 73) dX4_mixInto_71 3 rfl rfl ?_
              refine j_ialdN hJ (q := 74) (z := nI (kd i)) dX4_mixInto_73 3 rfl (by omega) (by decide) rfl rfl ?_
              refine j_top (congrArg nI (rR_k hR (i := i) (by omega))) ?_
              have b3 := hb (22 + i)
              refine j_i2l hJ (q := 75) dX4_mixInto_74 rfl (zL_i _ (zI_nat (A (22 + i))).symm (by omega)) ?_
              refine j_ladd hJ (q := 76) dX4_mixInto_75 rfl (zL_add _ _) ?_
              refine j_lstore_n hJ (q := 77) (lvs' := [(3, .long (zL (31 * d2 + ((A (22 + i)) : Int)))), (0, .ref h), (1, .long (zL x)), (5, .int (nI i))]) dX4_mixInto_76 rfl (by decide) rfl rfl ?_
              refine j_ldc2 hJ (q := 80) (v' := zL 31) dX4_mixInto_77 tm_766 rfl rfl ?_
              refine j_lload_n hJ (q := 81) dX4_mixInto_80 rfl 0 rfl rfl ?_
              refine j_lmul hJ (q := 82) dX4_mixInto_81 rfl (zL_mul _ _) ?_
              refine j_aload_n hJ (q := 83) dX4_mixInto_82 rfl 1 rfl rfl ?_
              refine j_get hJ (q := 86) jf_X4_21 dX4_mixInto_83 0 rfl rfl rfl ?_
              refine j_iload hJ (q := 88) dX4_mixInto_86 3 rfl rfl ?_
              refine j_ialdN hJ (q := 89) (z := nI (am i)) dX4_mixInto_88 4 rfl (by omega) (by decide) rfl rfl ?_
              refine j_top (congrArg nI (rR_a hR (i := i) (by omega))) ?_
              have b4 := hb (28 + i)
              refine j_i2l hJ (q := 90) dX4_mixInto_89 rfl (zL_i _ (zI_nat (A (28 + i))).symm (by omega)) ?_
              refine j_ladd hJ (q := 91) dX4_mixInto_90 rfl (zL_add _ _) ?_
              refine j_lstore_n hJ (q := 92) (lvs' := [(3, .long (zL (31 * (31 * d2 + ((A (22 + i)) : Int)) + ((A (28 + i)) : Int)))), (0, .ref h), (1, .long (zL x)), (5, .int (nI i))]) dX4_mixInto_91 rfl (by decide) rfl rfl ?_
              refine j_ldc2 hJ (q := 95) (v' := zL 31) dX4_mixInto_92 tm_766 rfl rfl ?_
              refine j_lload_n hJ (q := 96) dX4_mixInto_95 rfl 0 rfl rfl ?_
              refine j_lmul hJ (q := 97) dX4_mixInto_96 rfl (zL_mul _ _) ?_
              refine j_aload_n hJ (q := 98) dX4_mixInto_97 rfl 1 rfl rfl ?_
              refine j_get hJ (q := 101) jf_X4_24 dX4_mixInto_98 0 rfl rfl rfl ?_
              refine j_iload hJ (q := 103) dX4_mixInto_101 3 rfl rfl ?_
              refine j_ialdN hJ (q := 104) (z := nI (st i)) dX4_mixInto_103 5 rfl (by omega) (by decide) rfl rfl ?_
              refine j_top (congrArg nI (rR_s hR (i := i) (by omega))) ?_
              have b5 := hb (15 + i)
              refine j_i2l hJ (q := 105) dX4_mixInto_104 rfl (zL_i _ (zI_nat (A (15 + i))).symm (by omega)) ?_
              refine j_ladd hJ (q := 106) dX4_mixInto_105 rfl (zL_add _ _) ?_
              refine j_lstore_n hJ (q := 107) (lvs' := [(3, .long (zL (31 * (31 * (31 * d2 + ((A (22 + i)) : Int)) + ((A (28 + i)) : Int)) + ((A (15 + i)) : Int)))), (0, .ref h), (1, .long (zL x)), (5, .int (nI i))]) dX4_mixInto_106 rfl (by decide) rfl rfl ?_
              refine j_ldc2 hJ (q := 110) (v' := zL 31) dX4_mixInto_107 tm_766 rfl rfl ?_
              refine j_lload_n hJ (q := 111) dX4_mixInto_110 rfl 0 rfl rfl ?_
              refine j_lmul hJ (q := 112) dX4_mixInto_111 rfl (zL_mul _ _) ?_
              refine j_aload_n hJ (q := 113) dX4_mixInto_112 rfl 1 rfl rfl ?_
              refine j_get hJ (q := 116) jf_X4_27 dX4_mixInto_113 0 rfl rfl rfl ?_
              refine j_iload hJ (q := 118) dX4_mixInto_116 3 rfl rfl ?_
              refine j_ialdN hJ (q := 119) (z := nI (rg i)) dX4_mixInto_118 6 rfl (by omega) (by decide) rfl rfl ?_
              refine j_top (congrArg nI (rR_r hR (i := i) (by omega))) ?_
              have b6 := hb (9 + i)
              refine j_i2l hJ (q := 120) dX4_mixInto_119 rfl (zL_i _ (zI_nat (A (9 + i))).symm (by omega)) ?_
              refine j_ladd hJ (q := 121) dX4_mixInto_120 rfl (zL_add _ _) ?_
              refine j_lstore_n hJ (q := 122) (lvs' := [(3, .long (zL (31 * (31 * (31 * (31 * d2 + ((A (22 + i)) : Int)) + ((A (28 + i)) : Int)) + ((A (15 + i)) : Int)) + ((A (9 + i)) : Int)))), (0, .ref h), (1, .long (zL x)), (5, .int (nI i))]) dX4_mixInto_121 rfl (by decide) rfl rfl ?_
              refine j_iinc hJ (q := 125) (lvs' := [(5, .int (nI (i + 1))), (3, .long (zL (31 * (31 * (31 * (31 * d2 + ((A (22 + i)) : Int)) + ((A (28 + i)) : Int)) + ((A (15 + i)) : Int)) + ((A (9 + i)) : Int)))), (0, .ref h), (1, .long (zL x))]) dX4_mixInto_122 3 rfl (by rw [show Int32.ofInt 1 = nI 1 from by decide +kernel]; exact nI_add _ _) (by decide) rfl rfl ?_
              refine j_goto hJ (q := 53) dX4_mixInto_125 (by decide) ?_
              refine j_locals hJ [2, 3, 1, 0] rfl ?_
              exact ih_53 (31 * (31 * (31 * (31 * d2 + ((A (22 + i)) : Int)) + ((A (28 + i)) : Int)) + ((A (15 + i)) : Int)) + ((A (9 + i)) : Int)) (i + 1) (by omega) (by omega) (by simp only [drN]; rw [hd2])
        refine j_locals hJ [1, 2, 3, 0] rfl ?_
        exact L_53 ((A 0 - 0) + 1) d1 0 (Nat.lt_succ_self _) (by omega) (by rw [hd1, show s = A 21 by omega]; rfl)
      · skip
        refine j_ldc2 hJ (q := 17) (v' := zL 31) dX4_mixInto_14 tm_766 rfl rfl ?_
        refine j_lload_n hJ (q := 18) dX4_mixInto_17 rfl 2 rfl rfl ?_
        refine j_lmul hJ (q := 19) dX4_mixInto_18 rfl (zL_mul _ _) ?_
        refine j_aload_n hJ (q := 20) dX4_mixInto_19 rfl 0 rfl rfl ?_
        refine j_get hJ (q := 23) jf_X4_9 dX4_mixInto_20 0 rfl rfl rfl ?_
        refine j_iload hJ (q := 25) dX4_mixInto_23 3 rfl rfl ?_
        refine j_ialdN hJ (q := 26) (z := nI (K s)) dX4_mixInto_25 1 rfl (by omega) (by decide) rfl rfl ?_
        refine j_top (congrArg nI (rR_K hR (i := s) (by omega))) ?_
        have b7 := hb (34 + s)
        refine j_i2l hJ (q := 27) dX4_mixInto_26 rfl (zL_i _ (zI_nat (A (34 + s))).symm (by omega)) ?_
        refine j_ladd hJ (q := 28) dX4_mixInto_27 rfl (zL_add _ _) ?_
        refine j_lstore_n hJ (q := 29) (lvs' := [(3, .long (zL (31 * d1 + ((A (34 + s)) : Int)))), (0, .ref h), (1, .long (zL x)), (5, .int (nI s))]) dX4_mixInto_28 rfl (by decide) rfl rfl ?_
        refine j_ldc2 hJ (q := 32) (v' := zL 31) dX4_mixInto_29 tm_766 rfl rfl ?_
        refine j_lload_n hJ (q := 33) dX4_mixInto_32 rfl 0 rfl rfl ?_
        refine j_lmul hJ (q := 34) dX4_mixInto_33 rfl (zL_mul _ _) ?_
        refine j_aload_n hJ (q := 35) dX4_mixInto_34 rfl 1 rfl rfl ?_
        refine j_get hJ (q := 38) jf_X4_15 dX4_mixInto_35 0 rfl rfl rfl ?_
        refine j_iload hJ (q := 40) dX4_mixInto_38 3 rfl rfl ?_
        refine j_ialdN hJ (q := 41) (z := nI (P s)) dX4_mixInto_40 2 rfl (by omega) (by decide) rfl rfl ?_
        refine j_top (congrArg nI (rR_P hR (i := s) (by omega))) ?_
        have b8 := hb (46 + s)
        refine j_i2l hJ (q := 42) dX4_mixInto_41 rfl (zL_i _ (zI_nat (A (46 + s))).symm (by omega)) ?_
        refine j_ladd hJ (q := 43) dX4_mixInto_42 rfl (zL_add _ _) ?_
        refine j_lstore_n hJ (q := 44) (lvs' := [(3, .long (zL (31 * (31 * d1 + ((A (34 + s)) : Int)) + ((A (46 + s)) : Int)))), (0, .ref h), (1, .long (zL x)), (5, .int (nI s))]) dX4_mixInto_43 rfl (by decide) rfl rfl ?_
        refine j_iinc hJ (q := 47) (lvs' := [(5, .int (nI (s + 1))), (3, .long (zL (31 * (31 * d1 + ((A (34 + s)) : Int)) + ((A (46 + s)) : Int)))), (0, .ref h), (1, .long (zL x))]) dX4_mixInto_44 3 rfl (by rw [show Int32.ofInt 1 = nI 1 from by decide +kernel]; exact nI_add _ _) (by decide) rfl rfl ?_
        refine j_goto hJ (q := 5) dX4_mixInto_47 (by decide) ?_
        refine j_locals hJ [2, 3, 1, 0] rfl ?_
        exact ih_5 (31 * (31 * d1 + ((A (34 + s)) : Int)) + ((A (46 + s)) : Int)) (s + 1) (by omega) (by omega) (by simp only [dsN]; rw [hd1])
  refine j_locals hJ [2, 3, 1, 0] rfl ?_
  exact L_5 ((A 21 - 0) + 1) x 0 (Nat.lt_succ_self _) (by omega) rfl
