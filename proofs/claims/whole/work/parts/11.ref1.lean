set_option maxHeartbeats 4000000 in
set_option maxRecDepth 100000 in
theorem c_X9_highAs (Z : jZ) (k : Nat) (p : Nat) (t : Nat) (v : Nat) (h1 : k ≤ 5) (h2 : p < 1000000) (h3 : t < 1000000) (h4 : v ≤ 3) : CR Z yX9_highAs cX9_highAs 6 ((some FieldType.int)) 1 [.int (nI k), .int (nI p), .int (nI t), .int (nI v)] [] (fun rr => rr = some (.int (nI (hgh k p t v)))) := by
  refine CR.of RX9 rfl (by decide +kernel) (Nat.le_of_ble_eq_true rfl) ?_
  intro J hJ hE
  show J 0 [(0, .int (nI k)), (1, .int (nI p)), (2, .int (nI t)), (3, .int (nI v))] [] [] 0 0
  refine j_iload_n hJ (q := 1) dX9_highAs_0 rfl 2 rfl rfl ?_
  refine j_iload_n hJ (q := 2) dX9_highAs_1 rfl 1 rfl rfl ?_
  refine j_iadd hJ (q := 3) dX9_highAs_2 rfl (nI_add _ _) ?_
  refine j_bipush hJ (q := 5) dX9_highAs_3 rfl kb_8 ?_
  refine j_irem hJ (q := 6) dX9_highAs_5 rfl (nI_ne0 (by omega) (by omega)) (pk_rem (by omega) (by omega) (by omega)) ?_
  obtain ⟨u, e_u⟩ : ∃ k, k = (t + p) % 8 := ⟨_, rfl⟩
  refine j_top (congrArg nI e_u.symm) ?_
  have hu : u < 8 := by rw [e_u]; exact Nat.mod_lt _ (by decide)
  refine j_istore hJ (q := 8) (lvs' := [(4, .int (nI u)), (0, .int (nI k)), (1, .int (nI p)), (2, .int (nI t)), (3, .int (nI v))]) dX9_highAs_6 (by decide) rfl rfl ?_
  refine j_iload hJ (q := 10) dX9_highAs_8 0 rfl rfl ?_
  refine j_iconst hJ (q := 11) dX9_highAs_10 rfl ki_4 ?_
  refine jn_icmp_gt hJ (q := 14) (tgt := 21) dX9_highAs_11 (by decide) rfl (by omega) (by omega) (fun c1 => ?_) (fun c1 => ?_)
  · skip
    refine j_bipush hJ (q := 23) dX9_highAs_21 rfl kb_11 ?_
    refine j_iload hJ (q := 25) dX9_highAs_23 0 rfl rfl ?_
    refine j_isub hJ (q := 26) dX9_highAs_25 rfl (pk_sub (by omega)) ?_
    refine j_istore hJ (q := 28) (lvs' := [(5, .int (nI (11 - u))), (4, .int (nI u)), (0, .int (nI k)), (1, .int (nI p)), (2, .int (nI t)), (3, .int (nI v))]) dX9_highAs_26 (by decide) rfl rfl ?_
    refine j_iload_n hJ (q := 29) dX9_highAs_28 rfl 2 rfl rfl ?_
    have c2 : k = 0 ∨ k = 1 ∨ k = 2 ∨ k = 3 ∨ k = 4 ∨ k = 5 := by omega
    rcases c2 with c2 | c2 | c2 | c2 | c2 | c2
    · skip
      refine jn_tableOut hJ (q := 95) (k := 0) c2 dX9_highAs_29 (by decide) (by decide) ?_
      refine j_iconst hJ (q := 96) dX9_highAs_95 rfl ki_3 ?_
      exact hE.1 _ _ _ _ _ _ _ rfl rfl dX9_highAs_96 (Nat.le_refl _) (Nat.le_refl _) (congrArg (fun z => some (Value.int (nI z))) (by subst e_u; simp only [hgh, gal]; repeat' (first | omega | split)))
    · skip
      refine jn_tableIn hJ (q := 64) (off := 35) (k := 1) c2 dX9_highAs_29 (by decide) (by decide) (by decide) (by decide) ?_
      refine j_iload hJ (q := 66) dX9_highAs_64 0 rfl rfl ?_
      exact hE.1 _ _ _ _ _ _ _ rfl rfl dX9_highAs_66 (Nat.le_refl _) (Nat.le_refl _) (congrArg (fun z => some (Value.int (nI z))) (by subst e_u; simp only [hgh, gal]; repeat' (first | omega | split)))
    · skip
      refine jn_tableIn hJ (q := 67) (off := 38) (k := 2) c2 dX9_highAs_29 (by decide) (by decide) (by decide) (by decide) ?_
      refine j_iload hJ (q := 69) dX9_highAs_67 1 rfl rfl ?_
      refine j_iconst hJ (q := 70) dX9_highAs_69 rfl ki_4 ?_
      refine jn_icmp_lt hJ (q := 73) (tgt := 77) dX9_highAs_70 (by decide) rfl (by omega) (by omega) (fun c3 => ?_) (fun c3 => ?_)
      · skip
        refine j_iconst hJ (q := 78) dX9_highAs_77 rfl ki_3 ?_
        exact hE.1 _ _ _ _ _ _ _ rfl rfl dX9_highAs_78 (Nat.le_refl _) (Nat.le_refl _) (congrArg (fun z => some (Value.int (nI z))) (by subst e_u; simp only [hgh, gal]; repeat' (first | omega | split)))
      · skip
        refine j_iconst hJ (q := 74) dX9_highAs_73 rfl ki_5 ?_
        refine j_goto hJ (q := 78) dX9_highAs_74 (by decide) ?_
        exact hE.1 _ _ _ _ _ _ _ rfl rfl dX9_highAs_78 (Nat.le_refl _) (Nat.le_refl _) (congrArg (fun z => some (Value.int (nI z))) (by subst e_u; simp only [hgh, gal]; repeat' (first | omega | split)))
    · skip
      refine jn_tableIn hJ (q := 79) (off := 50) (k := 3) c2 dX9_highAs_29 (by decide) (by decide) (by decide) (by decide) ?_
      refine j_iconst hJ (q := 80) dX9_highAs_79 rfl ki_3 ?_
      refine j_iload_n hJ (q := 81) dX9_highAs_80 rfl 5 rfl rfl ?_
      refine j_isub hJ (q := 82) dX9_highAs_81 rfl (pk_sub (by omega)) ?_
      exact hE.1 _ _ _ _ _ _ _ rfl rfl dX9_highAs_82 (Nat.le_refl _) (Nat.le_refl _) (congrArg (fun z => some (Value.int (nI z))) (by subst e_u; simp only [hgh, gal]; repeat' (first | omega | split)))
    · skip
      refine jn_tableIn hJ (q := 83) (off := 54) (k := 4) c2 dX9_highAs_29 (by decide) (by decide) (by decide) (by decide) ?_
      refine j_iload hJ (q := 85) dX9_highAs_83 0 rfl rfl ?_
      refine j_iload_n hJ (q := 86) dX9_highAs_85 rfl 5 rfl rfl ?_
      refine j_iadd hJ (q := 87) dX9_highAs_86 rfl (nI_add _ _) ?_
      exact hE.1 _ _ _ _ _ _ _ rfl rfl dX9_highAs_87 (Nat.le_refl _) (Nat.le_refl _) (congrArg (fun z => some (Value.int (nI z))) (by subst e_u; simp only [hgh, gal]; repeat' (first | omega | split)))
    · skip
      refine jn_tableIn hJ (q := 88) (off := 59) (k := 5) c2 dX9_highAs_29 (by decide) (by decide) (by decide) (by decide) ?_
      refine j_iload hJ (q := 90) dX9_highAs_88 0 rfl rfl ?_
      refine j_iconst hJ (q := 91) dX9_highAs_90 rfl ki_1 ?_
      refine j_iadd hJ (q := 92) dX9_highAs_91 rfl (nI_add _ _) ?_
      refine j_iconst hJ (q := 93) dX9_highAs_92 rfl ki_2 ?_
      refine j_idiv hJ (q := 94) dX9_highAs_93 rfl (nI_ne0 (by omega) (by omega)) (pk_div (by omega) (by omega) (by omega)) ?_
      exact hE.1 _ _ _ _ _ _ _ rfl rfl dX9_highAs_94 (Nat.le_refl _) (Nat.le_refl _) (congrArg (fun z => some (Value.int (nI z))) (by subst e_u; simp only [hgh, gal]; repeat' (first | omega | split)))
  · skip
    refine j_iconst hJ (q := 15) dX9_highAs_14 rfl ki_3 ?_
    refine j_iload hJ (q := 17) dX9_highAs_15 0 rfl rfl ?_
    refine j_iadd hJ (q := 18) dX9_highAs_17 rfl (nI_add _ _) ?_
    refine j_goto hJ (q := 26) dX9_highAs_18 (by decide) ?_
    refine j_istore hJ (q := 28) (lvs' := [(5, .int (nI (3 + u))), (4, .int (nI u)), (0, .int (nI k)), (1, .int (nI p)), (2, .int (nI t)), (3, .int (nI v))]) dX9_highAs_26 (by decide) rfl rfl ?_
    refine j_iload_n hJ (q := 29) dX9_highAs_28 rfl 2 rfl rfl ?_
    have c4 : k = 0 ∨ k = 1 ∨ k = 2 ∨ k = 3 ∨ k = 4 ∨ k = 5 := by omega
    rcases c4 with c4 | c4 | c4 | c4 | c4 | c4
    · skip
      refine jn_tableOut hJ (q := 95) (k := 0) c4 dX9_highAs_29 (by decide) (by decide) ?_
      refine j_iconst hJ (q := 96) dX9_highAs_95 rfl ki_3 ?_
      exact hE.1 _ _ _ _ _ _ _ rfl rfl dX9_highAs_96 (Nat.le_refl _) (Nat.le_refl _) (congrArg (fun z => some (Value.int (nI z))) (by subst e_u; simp only [hgh, gal]; repeat' (first | omega | split)))
    · skip
      refine jn_tableIn hJ (q := 64) (off := 35) (k := 1) c4 dX9_highAs_29 (by decide) (by decide) (by decide) (by decide) ?_
      refine j_iload hJ (q := 66) dX9_highAs_64 0 rfl rfl ?_
      exact hE.1 _ _ _ _ _ _ _ rfl rfl dX9_highAs_66 (Nat.le_refl _) (Nat.le_refl _) (congrArg (fun z => some (Value.int (nI z))) (by subst e_u; simp only [hgh, gal]; repeat' (first | omega | split)))
    · skip
      refine jn_tableIn hJ (q := 67) (off := 38) (k := 2) c4 dX9_highAs_29 (by decide) (by decide) (by decide) (by decide) ?_
      refine j_iload hJ (q := 69) dX9_highAs_67 1 rfl rfl ?_
      refine j_iconst hJ (q := 70) dX9_highAs_69 rfl ki_4 ?_
      refine jn_icmp_lt hJ (q := 73) (tgt := 77) dX9_highAs_70 (by decide) rfl (by omega) (by omega) (fun c5 => ?_) (fun c5 => ?_)
      · skip
        refine j_iconst hJ (q := 78) dX9_highAs_77 rfl ki_3 ?_
        exact hE.1 _ _ _ _ _ _ _ rfl rfl dX9_highAs_78 (Nat.le_refl _) (Nat.le_refl _) (congrArg (fun z => some (Value.int (nI z))) (by subst e_u; simp only [hgh, gal]; repeat' (first | omega | split)))
      · skip
        refine j_iconst hJ (q := 74) dX9_highAs_73 rfl ki_5 ?_
        refine j_goto hJ (q := 78) dX9_highAs_74 (by decide) ?_
        exact hE.1 _ _ _ _ _ _ _ rfl rfl dX9_highAs_78 (Nat.le_refl _) (Nat.le_refl _) (congrArg (fun z => some (Value.int (nI z))) (by subst e_u; simp only [hgh, gal]; repeat' (first | omega | split)))
    · skip
      refine jn_tableIn hJ (q := 79) (off := 50) (k := 3) c4 dX9_highAs_29 (by decide) (by decide) (by decide) (by decide) ?_
      refine j_iconst hJ (q := 80) dX9_highAs_79 rfl ki_3 ?_
      refine j_iload_n hJ (q := 81) dX9_highAs_80 rfl 5 rfl rfl ?_
      refine j_isub hJ (q := 82) dX9_highAs_81 rfl (pk_sub (by omega)) ?_
      exact hE.1 _ _ _ _ _ _ _ rfl rfl dX9_highAs_82 (Nat.le_refl _) (Nat.le_refl _) (congrArg (fun z => some (Value.int (nI z))) (by subst e_u; simp only [hgh, gal]; repeat' (first | omega | split)))
    · skip
      refine jn_tableIn hJ (q := 83) (off := 54) (k := 4) c4 dX9_highAs_29 (by decide) (by decide) (by decide) (by decide) ?_
      refine j_iload hJ (q := 85) dX9_highAs_83 0 rfl rfl ?_
      refine j_iload_n hJ (q := 86) dX9_highAs_85 rfl 5 rfl rfl ?_
      refine j_iadd hJ (q := 87) dX9_highAs_86 rfl (nI_add _ _) ?_
      exact hE.1 _ _ _ _ _ _ _ rfl rfl dX9_highAs_87 (Nat.le_refl _) (Nat.le_refl _) (congrArg (fun z => some (Value.int (nI z))) (by subst e_u; simp only [hgh, gal]; repeat' (first | omega | split)))
    · skip
      refine jn_tableIn hJ (q := 88) (off := 59) (k := 5) c4 dX9_highAs_29 (by decide) (by decide) (by decide) (by decide) ?_
      refine j_iload hJ (q := 90) dX9_highAs_88 0 rfl rfl ?_
      refine j_iconst hJ (q := 91) dX9_highAs_90 rfl ki_1 ?_
      refine j_iadd hJ (q := 92) dX9_highAs_91 rfl (nI_add _ _) ?_
      refine j_iconst hJ (q := 93) dX9_highAs_92 rfl ki_2 ?_
      refine j_idiv hJ (q := 94) dX9_highAs_93 rfl (nI_ne0 (by omega) (by omega)) (pk_div (by omega) (by omega) (by omega)) ?_
      exact hE.1 _ _ _ _ _ _ _ rfl rfl dX9_highAs_94 (Nat.le_refl _) (Nat.le_refl _) (congrArg (fun z => some (Value.int (nI z))) (by subst e_u; simp only [hgh, gal]; repeat' (first | omega | split)))

set_option maxHeartbeats 4000000 in
set_option maxRecDepth 100000 in
theorem c_X9_reachAs (Z : jZ) (k : Nat) (a : Nat) (h : Nat) (r : Nat) (h1 : k ≤ 5) (h2 : a < 1000) (h3 : h < 1000) (h4 : r < 1000000) : CR Z yX9_reachAs cX9_reachAs 6 ((some FieldType.int)) 1 [.int (nI k), .int (nI a), .int (nI h), .int (nI r)] [] (fun rr => rr = some (.int (nI (rch k a h r)))) := by
  refine CR.of RX9 rfl (by decide +kernel) (Nat.le_of_ble_eq_true rfl) ?_
  intro J hJ hE
  show J 0 [(0, .int (nI k)), (1, .int (nI a)), (2, .int (nI h)), (3, .int (nI r))] [] [] 0 0
  refine j_iload_n hJ (q := 1) dX9_reachAs_0 rfl 1 rfl rfl ?_
  refine j_iload_n hJ (q := 2) dX9_reachAs_1 rfl 2 rfl rfl ?_
  refine j_iadd hJ (q := 3) dX9_reachAs_2 rfl (nI_add _ _) ?_
  refine j_istore hJ (q := 5) (lvs' := [(4, .int (nI (a + h))), (0, .int (nI k)), (1, .int (nI a)), (2, .int (nI h)), (3, .int (nI r))]) dX9_reachAs_3 (by decide) rfl rfl ?_
  refine j_iload hJ (q := 7) dX9_reachAs_5 0 rfl rfl ?_
  refine j_iconst hJ (q := 8) dX9_reachAs_7 rfl ki_3 ?_
  refine j_iadd hJ (q := 9) dX9_reachAs_8 rfl (nI_add _ _) ?_
  refine j_istore hJ (q := 11) (lvs' := [(5, .int (nI (a + h + 3))), (4, .int (nI (a + h))), (0, .int (nI k)), (1, .int (nI a)), (2, .int (nI h)), (3, .int (nI r))]) dX9_reachAs_9 (by decide) rfl rfl ?_
  refine j_iload_n hJ (q := 12) dX9_reachAs_11 rfl 2 rfl rfl ?_
  have c1 : k = 0 ∨ k = 1 ∨ k = 2 ∨ k = 3 ∨ k = 4 ∨ k = 5 := by omega
  rcases c1 with c1 | c1 | c1 | c1 | c1 | c1
  · skip
    refine jn_tableOut hJ (q := 101) (k := 0) c1 dX9_reachAs_12 (by decide) (by decide) ?_
    refine j_iload hJ (q := 103) dX9_reachAs_101 1 rfl rfl ?_
    exact hE.1 _ _ _ _ _ _ _ rfl rfl dX9_reachAs_103 (Nat.le_refl _) (Nat.le_refl _) (congrArg (fun z => some (Value.int (nI z))) (by simp only [rch]; repeat' (first | omega | split)))
  · skip
    refine jn_tableIn hJ (q := 48) (off := 36) (k := 1) c1 dX9_reachAs_12 (by decide) (by decide) (by decide) (by decide) ?_
    refine j_iload hJ (q := 50) dX9_reachAs_48 1 rfl rfl ?_
    refine j_iconst hJ (q := 51) dX9_reachAs_50 rfl ki_2 ?_
    refine j_idiv hJ (q := 52) dX9_reachAs_51 rfl (nI_ne0 (by omega) (by omega)) (pk_div (by omega) (by omega) (by omega)) ?_
    exact hE.1 _ _ _ _ _ _ _ rfl rfl dX9_reachAs_52 (Nat.le_refl _) (Nat.le_refl _) (congrArg (fun z => some (Value.int (nI z))) (by simp only [rch]; repeat' (first | omega | split)))
  · skip
    refine jn_tableIn hJ (q := 53) (off := 41) (k := 2) c1 dX9_reachAs_12 (by decide) (by decide) (by decide) (by decide) ?_
    refine j_iload hJ (q := 55) dX9_reachAs_53 0 rfl rfl ?_
    exact hE.1 _ _ _ _ _ _ _ rfl rfl dX9_reachAs_55 (Nat.le_refl _) (Nat.le_refl _) (congrArg (fun z => some (Value.int (nI z))) (by simp only [rch]; repeat' (first | omega | split)))
  · skip
    refine jn_tableIn hJ (q := 56) (off := 44) (k := 3) c1 dX9_reachAs_12 (by decide) (by decide) (by decide) (by decide) ?_
    refine j_iload hJ (q := 58) dX9_reachAs_56 1 rfl rfl ?_
    refine j_iconst hJ (q := 59) dX9_reachAs_58 rfl ki_2 ?_
    refine j_idiv hJ (q := 60) dX9_reachAs_59 rfl (nI_ne0 (by omega) (by omega)) (pk_div (by omega) (by omega) (by omega)) ?_
    refine j_iload_n hJ (q := 61) dX9_reachAs_60 rfl 5 rfl rfl ?_
    refine j_iconst hJ (q := 62) dX9_reachAs_61 rfl ki_5 ?_
    refine jn_icmp_le hJ (q := 65) (tgt := 69) dX9_reachAs_62 (by decide) rfl (by omega) (by omega) (fun c2 => ?_) (fun c2 => ?_)
    · skip
      refine j_iload_n hJ (q := 70) dX9_reachAs_69 rfl 5 rfl rfl ?_
      refine j_iadd hJ (q := 71) dX9_reachAs_70 rfl (nI_add _ _) ?_
      exact hE.1 _ _ _ _ _ _ _ rfl rfl dX9_reachAs_71 (Nat.le_refl _) (Nat.le_refl _) (congrArg (fun z => some (Value.int (nI z))) (by simp only [rch]; repeat' (first | omega | split)))
    · skip
      refine j_iconst hJ (q := 66) dX9_reachAs_65 rfl ki_5 ?_
      refine j_goto hJ (q := 70) dX9_reachAs_66 (by decide) ?_
      refine j_iadd hJ (q := 71) dX9_reachAs_70 rfl (nI_add _ _) ?_
      exact hE.1 _ _ _ _ _ _ _ rfl rfl dX9_reachAs_71 (Nat.le_refl _) (Nat.le_refl _) (congrArg (fun z => some (Value.int (nI z))) (by simp only [rch]; repeat' (first | omega | split)))
  · skip
    refine jn_tableIn hJ (q := 72) (off := 60) (k := 4) c1 dX9_reachAs_12 (by decide) (by decide) (by decide) (by decide) ?_
    refine j_iload hJ (q := 74) dX9_reachAs_72 0 rfl rfl ?_
    refine j_iload_n hJ (q := 75) dX9_reachAs_74 rfl 5 rfl rfl ?_
    refine jn_icmp_le hJ (q := 78) (tgt := 85) dX9_reachAs_75 (by decide) rfl (by omega) (by omega) (fun c3 => ?_) (fun c3 => ?_)
    · skip
      refine j_iconst hJ (q := 86) dX9_reachAs_85 rfl ki_0 ?_
      exact hE.1 _ _ _ _ _ _ _ rfl rfl dX9_reachAs_86 (Nat.le_refl _) (Nat.le_refl _) (congrArg (fun z => some (Value.int (nI z))) (by simp only [rch]; repeat' (first | omega | split)))
    · skip
      refine j_iload hJ (q := 80) dX9_reachAs_78 0 rfl rfl ?_
      refine j_iload_n hJ (q := 81) dX9_reachAs_80 rfl 5 rfl rfl ?_
      refine j_isub hJ (q := 82) dX9_reachAs_81 rfl (pk_sub (by omega)) ?_
      refine j_goto hJ (q := 86) dX9_reachAs_82 (by decide) ?_
      exact hE.1 _ _ _ _ _ _ _ rfl rfl dX9_reachAs_86 (Nat.le_refl _) (Nat.le_refl _) (congrArg (fun z => some (Value.int (nI z))) (by simp only [rch]; repeat' (first | omega | split)))
  · skip
    refine jn_tableIn hJ (q := 87) (off := 75) (k := 5) c1 dX9_reachAs_12 (by decide) (by decide) (by decide) (by decide) ?_
    refine j_iload_n hJ (q := 88) dX9_reachAs_87 rfl 5 rfl rfl ?_
    refine jn_if_ne hJ (q := 91) (tgt := 98) dX9_reachAs_88 (by decide) rfl (by omega) (fun c4 => ?_) (fun c4 => ?_)
    · skip
      refine j_iload hJ (q := 100) dX9_reachAs_98 1 rfl rfl ?_
      exact hE.1 _ _ _ _ _ _ _ rfl rfl dX9_reachAs_100 (Nat.le_refl _) (Nat.le_refl _) (congrArg (fun z => some (Value.int (nI z))) (by simp only [rch]; repeat' (first | omega | split)))
    · skip
      refine j_iconst hJ (q := 92) dX9_reachAs_91 rfl ki_2 ?_
      refine j_iload hJ (q := 94) dX9_reachAs_92 1 rfl rfl ?_
      refine j_imul hJ (q := 95) dX9_reachAs_94 rfl (pk_mul _ _) ?_
      refine j_goto hJ (q := 100) dX9_reachAs_95 (by decide) ?_
      exact hE.1 _ _ _ _ _ _ _ rfl rfl dX9_reachAs_100 (Nat.le_refl _) (Nat.le_refl _) (congrArg (fun z => some (Value.int (nI z))) (by simp only [rch]; repeat' (first | omega | split)))

set_option maxHeartbeats 4000000 in
set_option maxRecDepth 100000 in
theorem c_X9_whoIs (Z : jZ) (q : Nat) (n : Nat) (A : Nat → Nat) (s : Nat) (hn : 58 ≤ n ∧ n < 1000) (h1 : A 0 ≤ 6) (h2 : s < 1000000) (hb : ∀ j, A j < 100000) : CR Z yX9_whoIs cX9_whoIs 4 ((some FieldType.int)) 1 [.ref q, .int (nI s)] [(q, ia Z n (ni A))] (fun rr => rr = some (.int (oI (who A s)))) := by
  refine CR.of RX9 rfl (by decide +kernel) (Nat.le_of_ble_eq_true rfl) ?_
  intro J hJ hE
  show J 0 [(0, .ref q), (1, .int (nI s))] [] [(q, ia Z n (ni A))] 0 0
  refine j_iconst hJ (q := 1) dX9_whoIs_0 rfl ki_m1 ?_
  refine j_istore_n hJ (q := 2) (lvs' := [(2, .int (zI (-1))), (0, .ref q), (1, .int (nI s))]) dX9_whoIs_1 rfl (by decide) rfl rfl ?_
  refine j_iconst hJ (q := 3) dX9_whoIs_2 rfl ki_0 ?_
  refine j_istore_n hJ (q := 4) (lvs' := [(3, .int (nI 0)), (2, .int (zI (-1))), (0, .ref q), (1, .int (nI s))]) dX9_whoIs_3 rfl (by decide) rfl rfl ?_
  have L_4 : ∀ (fu_4 : Nat) (f : Option Nat) (i : Nat), A 0 - i < fu_4 → (i ≤ A 0) → (f = whoN A s i) → J 4 [(0, .ref q), (1, .int (nI s)), (2, .int (oI f)), (3, .int (nI i))] [] [(q, ia Z n (ni A))] 0 0 := by
    intro fu_4
    induction fu_4 with
    | zero => intro f i hm; exact absurd hm (Nat.not_lt_zero _)
    | succ fu_4 ih_4 =>
      intro f i hm_4 hi hf
      refine j_iload_n hJ (q := 5) dX9_whoIs_4 rfl 3 rfl rfl ?_
      refine j_aload_n hJ (q := 6) dX9_whoIs_5 rfl 0 rfl rfl ?_
      refine j_iconst hJ (q := 7) dX9_whoIs_6 rfl ki_0 ?_
      refine j_ialdN hJ (q := 8) (z := nI (A 0)) dX9_whoIs_7 0 rfl (by omega) (by omega) rfl rfl ?_
      have b1 := hb 0
      refine jn_icmp_ge hJ (q := 11) (tgt := 33) dX9_whoIs_8 (by decide) rfl (by omega) (by omega) (fun c2 => ?_) (fun c2 => ?_)
      · skip
        refine j_iload_n hJ (q := 34) dX9_whoIs_33 rfl 2 rfl rfl ?_
        exact hE.1 _ _ _ _ _ _ _ rfl rfl dX9_whoIs_34 (Nat.le_refl _) (Nat.le_refl _) (congrArg (fun z => some (Value.int (oI z))) (show f = who A s by rw [hf, show i = A 0 by omega]; rfl))
      · skip
        refine j_aload_n hJ (q := 12) dX9_whoIs_11 rfl 0 rfl rfl ?_
        refine j_bipush hJ (q := 14) dX9_whoIs_12 rfl kb_15 ?_
        refine j_iload_n hJ (q := 15) dX9_whoIs_14 rfl 3 rfl rfl ?_
        refine j_iadd hJ (q := 16) dX9_whoIs_15 rfl (nI_add _ _) ?_
        refine j_ialdN hJ (q := 17) (z := nI (A (15 + i))) dX9_whoIs_16 0 rfl (by omega) (by omega) rfl rfl ?_
        have b3 := hb (15 + i)
        refine j_iload_n hJ (q := 18) dX9_whoIs_17 rfl 1 rfl rfl ?_
        refine jn_icmp_ne hJ (q := 21) (tgt := 25) dX9_whoIs_18 (by decide) rfl (by omega) (by omega) (fun c4 => ?_) (fun c4 => ?_)
        · skip
          refine j_iload_n hJ (q := 26) dX9_whoIs_25 rfl 2 rfl rfl ?_
          refine j_istore_n hJ (q := 27) (lvs' := [(2, .int (oI f)), (0, .ref q), (1, .int (nI s)), (3, .int (nI i))]) dX9_whoIs_26 rfl (by decide) rfl rfl ?_
          refine j_iinc hJ (q := 30) (lvs' := [(3, .int (nI (i + 1))), (2, .int (oI f)), (0, .ref q), (1, .int (nI s))]) dX9_whoIs_27 3 rfl (by rw [show Int32.ofInt 1 = nI 1 from by decide +kernel]; exact nI_add _ _) (by decide) rfl rfl ?_
          refine j_goto hJ (q := 4) dX9_whoIs_30 (by decide) ?_
          refine j_locals hJ [2, 3, 1, 0] rfl ?_
          exact ih_4 f (i + 1) (by omega) (by omega) (by simp only [whoN]; split <;> first | rfl | assumption | (exfalso; omega))
        · skip
          refine j_iload_n hJ (q := 22) dX9_whoIs_21 rfl 3 rfl rfl ?_
          refine j_goto hJ (q := 26) dX9_whoIs_22 (by decide) ?_
          refine j_istore_n hJ (q := 27) (lvs' := [(2, .int (nI i)), (0, .ref q), (1, .int (nI s)), (3, .int (nI i))]) dX9_whoIs_26 rfl (by decide) rfl rfl ?_
          refine j_iinc hJ (q := 30) (lvs' := [(3, .int (nI (i + 1))), (2, .int (nI i)), (0, .ref q), (1, .int (nI s))]) dX9_whoIs_27 3 rfl (by rw [show Int32.ofInt 1 = nI 1 from by decide +kernel]; exact nI_add _ _) (by decide) rfl rfl ?_
          refine j_goto hJ (q := 4) dX9_whoIs_30 (by decide) ?_
          refine j_locals hJ [2, 3, 1, 0] rfl ?_
          exact ih_4 (some i) (i + 1) (by omega) (by omega) (by simp only [whoN]; split <;> first | rfl | assumption | (exfalso; omega))
  refine j_locals hJ [2, 3, 1, 0] rfl ?_
  exact L_4 ((A 0 - 0) + 1) none 0 (Nat.lt_succ_self _) (by omega) rfl

set_option maxHeartbeats 4000000 in
set_option maxRecDepth 100000 in
theorem c_X9_highOf (Z : jZ) (q : Nat) (n : Nat) (A : Nat → Nat) (s : Nat) (hn : 58 ≤ n ∧ n < 1000) (h1 : s < 12) (hb : ∀ j, A j < 100000) (h2 : A (34 + s) ≤ 5) (h3 : A 6 ≤ 3) : CR Z yX9_highOf cX9_highOf 2 ((some FieldType.int)) 2 [.ref q, .int (nI s)] [(q, ia Z n (ni A))] (fun rr => rr = some (.int (nI (hghO A s)))) := by
  refine CR.of RX9 rfl (by decide +kernel) (Nat.le_of_ble_eq_true rfl) ?_
  intro J hJ hE
  show J 0 [(0, .ref q), (1, .int (nI s))] [] [(q, ia Z n (ni A))] 0 0
  refine j_aload_n hJ (q := 1) dX9_highOf_0 rfl 0 rfl rfl ?_
  refine j_bipush hJ (q := 3) dX9_highOf_1 rfl kb_34 ?_
  refine j_iload_n hJ (q := 4) dX9_highOf_3 rfl 1 rfl rfl ?_
  refine j_iadd hJ (q := 5) dX9_highOf_4 rfl (nI_add _ _) ?_
  refine j_ialdN hJ (q := 6) (z := nI (A (34 + s))) dX9_highOf_5 0 rfl (by omega) (by omega) rfl rfl ?_
  have b1 := hb (34 + s)
  refine j_aload_n hJ (q := 7) dX9_highOf_6 rfl 0 rfl rfl ?_
  refine j_bipush hJ (q := 9) dX9_highOf_7 rfl kb_46 ?_
  refine j_iload_n hJ (q := 10) dX9_highOf_9 rfl 1 rfl rfl ?_
  refine j_iadd hJ (q := 11) dX9_highOf_10 rfl (nI_add _ _) ?_
  refine j_ialdN hJ (q := 12) (z := nI (A (46 + s))) dX9_highOf_11 0 rfl (by omega) (by omega) rfl rfl ?_
  have b2 := hb (46 + s)
  refine j_aload_n hJ (q := 13) dX9_highOf_12 rfl 0 rfl rfl ?_
  refine j_bipush hJ (q := 15) dX9_highOf_13 rfl kb_8 ?_
  refine j_ialdN hJ (q := 16) (z := nI (A 8)) dX9_highOf_15 0 rfl (by omega) (by omega) rfl rfl ?_
  have b3 := hb 8
  refine j_aload_n hJ (q := 17) dX9_highOf_16 rfl 0 rfl rfl ?_
  refine j_bipush hJ (q := 19) dX9_highOf_17 rfl kb_6 ?_
  refine j_ialdN hJ (q := 20) (z := nI (A 6)) dX9_highOf_19 0 rfl (by omega) (by omega) rfl rfl ?_
  have b4 := hb 6
  refine j_sR hJ (q := 23) (rest := []) (As := [.int (nI (A (34 + s))), .int (nI (A (46 + s))), .int (nI (A 8)), .int (nI (A 6))]) jl_X9_103 (c_X9_highAs Z (A (34 + s)) (A (46 + s)) (A 8) (A 6) (by omega) (by omega) (by omega) (by omega)) dX9_highOf_20 rfl (by decide) (Nat.le_of_ble_eq_true rfl) [] rfl rfl (fun rv hp => ?_)
  obtain rfl := hp
  show J 23 [(0, .ref q), (1, .int (nI s))] [.int (nI (hgh (A (34 + s)) (A (46 + s)) (A 8) (A 6)))] [(q, ia Z n (ni A))] 0 0
  exact hE.1 _ _ _ _ _ _ _ rfl rfl dX9_highOf_23 (Nat.le_refl _) (Nat.le_refl _) (congrArg (fun z => some (Value.int (nI z))) (by rfl))

set_option maxHeartbeats 4000000 in
set_option maxRecDepth 100000 in
theorem c_X9_reachOf (Z : jZ) (q : Nat) (n : Nat) (A : Nat → Nat) (i : Nat) (hn : 58 ≤ n ∧ n < 1000) (hw : wf A) (h1 : i < A 0) : CR Z yX9_reachOf cX9_reachOf 2 ((some FieldType.int)) 3 [.ref q, .int (nI i)] [(q, ia Z n (ni A))] (fun rr => rr = some (.int (nI (rchO A i)))) := by
  refine CR.of RX9 rfl (by decide +kernel) (Nat.le_of_ble_eq_true rfl) ?_
  intro J hJ hE
  show J 0 [(0, .ref q), (1, .int (nI i))] [] [(q, ia Z n (ni A))] 0 0
  obtain ⟨⟨a1, a2, a3, a4, a5, a6⟩, hb, hr, hh, hd⟩ := id hw
  obtain ⟨r1, r2, r3, r4⟩ := hr i h1
  have g1 := hh (A (15 + i)) (by omega)
  have g2 : hghO A (A (15 + i)) ≤ 10 := hgh_le a4
  refine j_aload_n hJ (q := 1) dX9_reachOf_0 rfl 0 rfl rfl ?_
  refine j_bipush hJ (q := 3) dX9_reachOf_1 rfl kb_22 ?_
  refine j_iload_n hJ (q := 4) dX9_reachOf_3 rfl 1 rfl rfl ?_
  refine j_iadd hJ (q := 5) dX9_reachOf_4 rfl (nI_add _ _) ?_
  refine j_ialdN hJ (q := 6) (z := nI (A (22 + i))) dX9_reachOf_5 0 rfl (by omega) (by omega) rfl rfl ?_
  have b1 := hb (22 + i)
  refine j_aload_n hJ (q := 7) dX9_reachOf_6 rfl 0 rfl rfl ?_
  refine j_bipush hJ (q := 9) dX9_reachOf_7 rfl kb_28 ?_
  refine j_iload_n hJ (q := 10) dX9_reachOf_9 rfl 1 rfl rfl ?_
  refine j_iadd hJ (q := 11) dX9_reachOf_10 rfl (nI_add _ _) ?_
  refine j_ialdN hJ (q := 12) (z := nI (A (28 + i))) dX9_reachOf_11 0 rfl (by omega) (by omega) rfl rfl ?_
  have b2 := hb (28 + i)
  refine j_aload_n hJ (q := 13) dX9_reachOf_12 rfl 0 rfl rfl ?_
  refine j_aload_n hJ (q := 14) dX9_reachOf_13 rfl 0 rfl rfl ?_
  refine j_bipush hJ (q := 16) dX9_reachOf_14 rfl kb_15 ?_
  refine j_iload_n hJ (q := 17) dX9_reachOf_16 rfl 1 rfl rfl ?_
  refine j_iadd hJ (q := 18) dX9_reachOf_17 rfl (nI_add _ _) ?_
  refine j_ialdN hJ (q := 19) (z := nI (A (15 + i))) dX9_reachOf_18 0 rfl (by omega) (by omega) rfl rfl ?_
  have b3 := hb (15 + i)
  refine j_sR hJ (q := 22) (rest := [.int (nI (A (28 + i))), .int (nI (A (22 + i)))]) (As := [.ref q, .int (nI (A (15 + i)))]) jl_X9_107 (c_X9_highOf Z q n A (A (15 + i)) (by omega) (by omega) hb g1.1 (by omega)) dX9_reachOf_19 rfl (by decide) (Nat.le_of_ble_eq_true rfl) [0] rfl rfl (fun rv hp => ?_)
  obtain rfl := hp
  show J 22 [(0, .ref q), (1, .int (nI i))] [.int (nI (hghO A (A (15 + i)))), .int (nI (A (28 + i))), .int (nI (A (22 + i)))] [(q, ia Z n (ni A))] 0 0
  refine j_aload_n hJ (q := 23) dX9_reachOf_22 rfl 0 rfl rfl ?_
  refine j_bipush hJ (q := 25) dX9_reachOf_23 rfl kb_9 ?_
  refine j_iload_n hJ (q := 26) dX9_reachOf_25 rfl 1 rfl rfl ?_
  refine j_iadd hJ (q := 27) dX9_reachOf_26 rfl (nI_add _ _) ?_
  refine j_ialdN hJ (q := 28) (z := nI (A (9 + i))) dX9_reachOf_27 0 rfl (by omega) (by omega) rfl rfl ?_
  have b4 := hb (9 + i)
  refine j_sR hJ (q := 31) (rest := []) (As := [.int (nI (A (22 + i))), .int (nI (A (28 + i))), .int (nI (hghO A (A (15 + i)))), .int (nI (A (9 + i)))]) jl_X9_110 (c_X9_reachAs Z (A (22 + i)) (A (28 + i)) (hghO A (A (15 + i))) (A (9 + i)) (by omega) (by omega) (by omega) (by omega)) dX9_reachOf_28 rfl (by decide) (Nat.le_of_ble_eq_true rfl) [] rfl rfl (fun rv hp => ?_)
  obtain rfl := hp
  show J 31 [(0, .ref q), (1, .int (nI i))] [.int (nI (rch (A (22 + i)) (A (28 + i)) (hghO A (A (15 + i))) (A (9 + i))))] [(q, ia Z n (ni A))] 0 0
  exact hE.1 _ _ _ _ _ _ _ rfl rfl dX9_reachOf_31 (Nat.le_refl _) (Nat.le_refl _) (congrArg (fun z => some (Value.int (nI z))) (by rfl))

set_option maxHeartbeats 4000000 in
set_option maxRecDepth 100000 in
theorem c_X9_placeOf (Z : jZ) (q : Nat) (n : Nat) (A : Nat → Nat) (s : Nat) (hn : 58 ≤ n ∧ n < 1000) (h1 : s < 100000) (h2 : 0 < A 21) (hb : ∀ j, A j < 100000) : CR Z yX9_placeOf cX9_placeOf 2 ((some FieldType.int)) 1 [.ref q, .int (nI s)] [(q, ia Z n (ni A))] (fun rr => rr = some (.int (nI (plc A s)))) := by
  refine CR.of RX9 rfl (by decide +kernel) (Nat.le_of_ble_eq_true rfl) ?_
  intro J hJ hE
  show J 0 [(0, .ref q), (1, .int (nI s))] [] [(q, ia Z n (ni A))] 0 0
  refine j_iload_n hJ (q := 1) dX9_placeOf_0 rfl 1 rfl rfl ?_
  refine j_aload_n hJ (q := 2) dX9_placeOf_1 rfl 0 rfl rfl ?_
  refine j_iconst hJ (q := 3) dX9_placeOf_2 rfl ki_5 ?_
  refine j_ialdN hJ (q := 4) (z := nI (A 5)) dX9_placeOf_3 0 rfl (by omega) (by omega) rfl rfl ?_
  have b1 := hb 5
  refine j_iadd hJ (q := 5) dX9_placeOf_4 rfl (nI_add _ _) ?_
  refine j_aload_n hJ (q := 6) dX9_placeOf_5 rfl 0 rfl rfl ?_
  refine j_bipush hJ (q := 8) dX9_placeOf_6 rfl kb_21 ?_
  refine j_ialdN hJ (q := 9) (z := nI (A 21)) dX9_placeOf_8 0 rfl (by omega) (by omega) rfl rfl ?_
  have b2 := hb 21
  refine j_irem hJ (q := 10) dX9_placeOf_9 rfl (nI_ne0 (by omega) (by omega)) (pk_rem (by omega) (by omega) (by omega)) ?_
  exact hE.1 _ _ _ _ _ _ _ rfl rfl dX9_placeOf_10 (Nat.le_refl _) (Nat.le_refl _) (congrArg (fun z => some (Value.int (nI z))) (by rfl))
