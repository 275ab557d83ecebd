set_option maxHeartbeats 4000000 in
set_option maxRecDepth 100000 in
theorem c_X8_part (Z : jZ) (h : Nat) (u : Nat → Nat) (ab : Int) (be : Int) (Rf : Nat → Nat) (a : Int32)  : CT Z yX8_part cX8_part 2 ((some FieldType.long)) 3 0 0 [.ref h, .int a] [xO h u ab be (Rf 0) (Rf 1) (Rf 2)] (fun rr ww => rr = some (.long (zL (z_part ab be a))) ∧ ww = [xO h u ab be ((if a.toInt = 0 ∨ a.toInt = 1 then Rf else bmp Rf 0) 0) ((if a.toInt = 0 ∨ a.toInt = 1 then Rf else bmp Rf 0) 1) ((if a.toInt = 0 ∨ a.toInt = 1 then Rf else bmp Rf 0) 2)]) := by
  refine CT.of RX8 false rfl (fun h => by cases h) (by decide +kernel) (Nat.le_of_ble_eq_true rfl) ?_
  intro J hJ hE
  show J 0 [(0, .ref h), (1, .int a)] [] [xO h u ab be (Rf 0) (Rf 1) (Rf 2)] 0 0
  have hr_a := zI_rng a
  refine j_iload_n hJ (q := 1) dX8_part_0 rfl 1 rfl rfl ?_
  refine j_iconst hJ (q := 2) dX8_part_1 rfl ki_0 ?_
  refine j_iconst hJ (q := 3) dX8_part_2 rfl ki_1 ?_
  refine j_sR hJ (q := 6) (rest := []) (As := [.int a, .int (zI 0), .int (zI 1)]) jl_X8_58 (c_X8_within Z a 0 1 (by omega) (by omega)) dX8_part_3 rfl (by decide) (Nat.le_of_ble_eq_true rfl) [] rfl rfl (fun rv hp => ?_)
  obtain rfl := hp
  show J 6 [(0, .ref h), (1, .int a)] [.int (bI (decide (0 ≤ a.toInt ∧ a.toInt ≤ 1)))] [xO h u ab be (Rf 0) (Rf 1) (Rf 2)] 0 0
  refine jp_if_ne hJ (q := 9) (tgt := 15) dX8_part_6 (by decide) rfl (fun c1 => ?_) (fun c1 => ?_)
  · skip
    refine j_iload_n hJ (q := 16) dX8_part_15 rfl 1 rfl rfl ?_
    refine jz_if_ne hJ (q := 19) (tgt := 26) dX8_part_16 (by decide) rfl (zI_of a) (zI_rng a) (fun c2 => ?_) (fun c2 => ?_)
    · skip
      refine j_aload_n hJ (q := 27) dX8_part_26 rfl 0 rfl rfl ?_
      refine j_get hJ (q := 30) jf_X8_31 dX8_part_27 0 rfl rfl rfl ?_
      have hQ0 : a.toInt = 0 ∨ a.toInt = 1 := by omega
      have hQ1 : ¬ (a.toInt = 0) := by omega
      have hQ2 : a.toInt = 1 := by omega
      have hRo : (if a.toInt = 0 ∨ a.toInt = 1 then Rf else bmp Rf 0) = Rf := by simp only [if_pos hQ0]
      exact hE.2.1 _ _ _ _ _ _ rfl dX8_part_30 (Nat.le_refl _) (Nat.le_refl _) (⟨congrArg (fun z => some (Value.long (zL z))) (by simp only [z_part, if_neg hQ1, if_pos hQ2]), by rw [hRo] <;> rfl⟩)
    · skip
      refine j_aload_n hJ (q := 20) dX8_part_19 rfl 0 rfl rfl ?_
      refine j_get hJ (q := 23) jf_X8_27 dX8_part_20 0 rfl rfl rfl ?_
      refine j_goto hJ (q := 30) dX8_part_23 (by decide) ?_
      have hQ0 : a.toInt = 0 ∨ a.toInt = 1 := by omega
      have hQ1 : a.toInt = 0 := by omega
      have hRo : (if a.toInt = 0 ∨ a.toInt = 1 then Rf else bmp Rf 0) = Rf := by simp only [if_pos hQ0]
      exact hE.2.1 _ _ _ _ _ _ rfl dX8_part_30 (Nat.le_refl _) (Nat.le_refl _) (⟨congrArg (fun z => some (Value.long (zL z))) (by simp only [z_part, if_pos hQ1]), by rw [hRo] <;> rfl⟩)
  · skip
    refine j_aload_n hJ (q := 10) dX8_part_9 rfl 0 rfl rfl ?_
    refine j_vW hJ (q := 13) (rest := []) (As := []) (wr := []) jl_X8_62 (c_X8_bad Z h u ab be Rf ) 0 rfl rfl dX8_part_10 rfl (by decide) (Nat.le_of_ble_eq_true rfl) [0] [] rfl rfl rfl rfl (by decide) rfl (fun rv wv hp => ?_)
    obtain ⟨rfl, rfl⟩ := hp
    show J 13 [(0, .ref h), (1, .int a)] [.int (zI (-2))] [xO h u ab be ((bmp Rf 0) 0) ((bmp Rf 0) 1) ((bmp Rf 0) 2)] 0 0
    refine j_i2l hJ (q := 14) dX8_part_13 rfl (zL_i _ rfl (by omega)) ?_
    have hQ0 : ¬ (a.toInt = 0 ∨ a.toInt = 1) := by omega
    have hQ1 : ¬ (a.toInt = 0) := by omega
    have hQ2 : ¬ (a.toInt = 1) := by omega
    have hRo : (if a.toInt = 0 ∨ a.toInt = 1 then Rf else bmp Rf 0) = bmp Rf 0 := by simp only [if_neg hQ0]
    exact hE.2.1 _ _ _ _ _ _ rfl dX8_part_14 (Nat.le_refl _) (Nat.le_refl _) (⟨congrArg (fun z => some (Value.long (zL z))) (by simp only [z_part, if_neg hQ1, if_neg hQ2]), by rw [hRo] <;> rfl⟩)

set_option maxHeartbeats 4000000 in
set_option maxRecDepth 100000 in
theorem c_X8_howMany (Z : jZ) (h : Nat) (u : Nat → Nat) (ab : Int) (be : Int) (Rf : Nat → Nat) (s : Nat → Nat) (q : Nat → Nat) (A : Nat → Nat) (K : Nat → Nat) (P : Nat → Nat) (kd : Nat → Nat) (am : Nat → Nat) (st : Nat → Nat) (rg : Nat → Nat) (Ro : Nat → Nat) (Sn : Nat → Nat) (Nt : Nat → Nat) (Mk : Nat → Nat) (L : Nat) (By : Nat → Nat) (tk : Nat) (fi : Nat) (be2 : Nat) (nb : Int32) (im : Nat) (w : Nat) (hg : wg A) (hA : rA A K P kd am st rg Ro Sn Nt Mk) (h1 : w ≤ 11) : CR Z yX8_howMany cX8_howMany 2 ((some FieldType.int)) 2 [.ref h, .int (nI w)] [xO h u ab be (Rf 0) (Rf 1) (Rf 2), (u 0, .inr (4, [.ref (s 0), .ref (s 1), .ref (s 3), .ref (s 5), .ref (s 7)])), cO (s 0) q (A 21) (A 5) (A 6) (A 7) (A 8) (A 0), (q 0, ia Z 12 (ni K)), (q 1, ia Z 12 (ni P)), (q 2, ia Z 6 (ni kd)), (q 3, ia Z 6 (ni am)), (q 4, ia Z 6 (ni st)), (q 5, ia Z 6 (ni rg)), (s 1, .inr (1, [.int (nI (A 4)), .ref (s 2)])), (s 2, ia Z 128 (ni Ro)), (s 3, .inr (3, [.int (nI (A 1)), .int (nI 4), .int (nI 5), .ref (s 4)])), (s 4, ia Z 30 (ni Sn)), (s 5, .inr (3, [.int (nI (A 2)), .int (nI 5), .int (nI 6), .ref (s 6)])), (s 6, ia Z 30 (ni Nt)), (s 7, .inr (3, [.int (nI (A 3)), .int (nI 5), .int (nI 6), .ref (s 8)])), (s 8, ia Z 30 (ni Mk)), (u 2, .inr (5, [.int (nI L), .ref (u 8), .int (nI tk), .int (nI fi), .int (nI be2), .int nb, .int (nI im), .ref (u 9)])), (u 8, ba Z 150 (ni By))] (fun rr => rr = some (.int (nI (cnt A L w)))) := by
  refine CR.of RX8 rfl (by decide +kernel) (Nat.le_of_ble_eq_true rfl) ?_
  intro J hJ hE
  show J 0 [(0, .ref h), (1, .int (nI w))] [] [xO h u ab be (Rf 0) (Rf 1) (Rf 2), (u 0, .inr (4, [.ref (s 0), .ref (s 1), .ref (s 3), .ref (s 5), .ref (s 7)])), cO (s 0) q (A 21) (A 5) (A 6) (A 7) (A 8) (A 0), (q 0, ia Z 12 (ni K)), (q 1, ia Z 12 (ni P)), (q 2, ia Z 6 (ni kd)), (q 3, ia Z 6 (ni am)), (q 4, ia Z 6 (ni st)), (q 5, ia Z 6 (ni rg)), (s 1, .inr (1, [.int (nI (A 4)), .ref (s 2)])), (s 2, ia Z 128 (ni Ro)), (s 3, .inr (3, [.int (nI (A 1)), .int (nI 4), .int (nI 5), .ref (s 4)])), (s 4, ia Z 30 (ni Sn)), (s 5, .inr (3, [.int (nI (A 2)), .int (nI 5), .int (nI 6), .ref (s 6)])), (s 6, ia Z 30 (ni Nt)), (s 7, .inr (3, [.int (nI (A 3)), .int (nI 5), .int (nI 6), .ref (s 8)])), (s 8, ia Z 30 (ni Mk)), (u 2, .inr (5, [.int (nI L), .ref (u 8), .int (nI tk), .int (nI fi), .int (nI be2), .int nb, .int (nI im), .ref (u 9)])), (u 8, ba Z 150 (ni By))] 0 0
  obtain ⟨hw, ⟨g1, g2, g3, g4, g8⟩, hrs, hrn, hrm, hpst⟩ := id hg
  obtain ⟨⟨w1, w2, w3, w4, w5, w6⟩, hb, wr, wh, wd⟩ := id hw
  obtain ⟨hR, hX⟩ := id hA
  obtain ⟨hP, hSn, hNt, hMk⟩ := id hX
  refine j_iload_n hJ (q := 1) dX8_howMany_0 rfl 1 rfl rfl ?_
  have c1 : w = 0 ∨ w = 1 ∨ w = 2 ∨ w = 3 ∨ w = 4 ∨ w = 5 ∨ w = 6 ∨ w = 7 ∨ w = 8 ∨ w = 9 ∨ w = 10 ∨ w = 11 := by omega
  rcases c1 with c1 | c1 | c1 | c1 | c1 | c1 | c1 | c1 | c1 | c1 | c1 | c1
  · skip
    refine jn_tableIn hJ (q := 60) (off := 59) (k := 0) c1 dX8_howMany_1 (by decide) (by decide) (by decide) (by decide) ?_
    refine j_aload_n hJ (q := 61) dX8_howMany_60 rfl 0 rfl rfl ?_
    refine j_get hJ (q := 64) jf_X8_10 dX8_howMany_61 0 rfl rfl rfl ?_
    refine j_get hJ (q := 67) jf_X8_66 dX8_howMany_64 1 rfl rfl rfl ?_
    refine j_get hJ (q := 70) jf_X8_278 dX8_howMany_67 2 rfl rfl rfl ?_
    exact hE.1 _ _ _ _ _ _ _ rfl rfl dX8_howMany_70 (Nat.le_refl _) (Nat.le_refl _) (congrArg (fun z => some (Value.int (nI z))) (by simp only [cnt]; rw [if_pos (by omega)]))
  · skip
    refine jn_tableIn hJ (q := 71) (off := 70) (k := 1) c1 dX8_howMany_1 (by decide) (by decide) (by decide) (by decide) ?_
    refine j_aload_n hJ (q := 72) dX8_howMany_71 rfl 0 rfl rfl ?_
    refine j_get hJ (q := 75) jf_X8_10 dX8_howMany_72 0 rfl rfl rfl ?_
    refine j_get hJ (q := 78) jf_X8_66 dX8_howMany_75 1 rfl rfl rfl ?_
    refine j_get hJ (q := 81) jf_X8_69 dX8_howMany_78 2 rfl rfl rfl ?_
    exact hE.1 _ _ _ _ _ _ _ rfl rfl dX8_howMany_81 (Nat.le_refl _) (Nat.le_refl _) (congrArg (fun z => some (Value.int (nI z))) (by simp only [cnt]; rw [if_neg (by omega), if_pos (by omega)]))
  · skip
    refine jn_tableIn hJ (q := 82) (off := 81) (k := 2) c1 dX8_howMany_1 (by decide) (by decide) (by decide) (by decide) ?_
    refine j_aload_n hJ (q := 83) dX8_howMany_82 rfl 0 rfl rfl ?_
    refine j_get hJ (q := 86) jf_X8_10 dX8_howMany_83 0 rfl rfl rfl ?_
    refine j_get hJ (q := 89) jf_X8_66 dX8_howMany_86 1 rfl rfl rfl ?_
    refine j_get hJ (q := 92) jf_X8_135 dX8_howMany_89 2 rfl rfl rfl ?_
    exact hE.1 _ _ _ _ _ _ _ rfl rfl dX8_howMany_92 (Nat.le_refl _) (Nat.le_refl _) (congrArg (fun z => some (Value.int (nI z))) (by simp only [cnt]; rw [if_neg (by omega), if_neg (by omega), if_pos (by omega)]))
  · skip
    refine jn_tableIn hJ (q := 93) (off := 92) (k := 3) c1 dX8_howMany_1 (by decide) (by decide) (by decide) (by decide) ?_
    refine j_aload_n hJ (q := 94) dX8_howMany_93 rfl 0 rfl rfl ?_
    refine j_get hJ (q := 97) jf_X8_10 dX8_howMany_94 0 rfl rfl rfl ?_
    refine j_get hJ (q := 100) jf_X8_66 dX8_howMany_97 1 rfl rfl rfl ?_
    refine j_get hJ (q := 103) jf_X8_138 dX8_howMany_100 2 rfl rfl rfl ?_
    exact hE.1 _ _ _ _ _ _ _ rfl rfl dX8_howMany_103 (Nat.le_refl _) (Nat.le_refl _) (congrArg (fun z => some (Value.int (nI z))) (by simp only [cnt]; rw [if_neg (by omega), if_neg (by omega), if_neg (by omega), if_pos (by omega)]))
  · skip
    refine jn_tableIn hJ (q := 104) (off := 103) (k := 4) c1 dX8_howMany_1 (by decide) (by decide) (by decide) (by decide) ?_
    refine j_aload_n hJ (q := 105) dX8_howMany_104 rfl 0 rfl rfl ?_
    refine j_get hJ (q := 108) jf_X8_10 dX8_howMany_105 0 rfl rfl rfl ?_
    refine j_get hJ (q := 111) jf_X8_66 dX8_howMany_108 1 rfl rfl rfl ?_
    refine j_get hJ (q := 114) jf_X8_147 dX8_howMany_111 2 rfl rfl rfl ?_
    exact hE.1 _ _ _ _ _ _ _ rfl rfl dX8_howMany_114 (Nat.le_refl _) (Nat.le_refl _) (congrArg (fun z => some (Value.int (nI z))) (by simp only [cnt]; rw [if_neg (by omega), if_neg (by omega), if_neg (by omega), if_neg (by omega), if_pos (by omega)]))
  · skip
    refine jn_tableIn hJ (q := 115) (off := 114) (k := 5) c1 dX8_howMany_1 (by decide) (by decide) (by decide) (by decide) ?_
    refine j_aload_n hJ (q := 116) dX8_howMany_115 rfl 0 rfl rfl ?_
    refine j_get hJ (q := 119) jf_X8_10 dX8_howMany_116 0 rfl rfl rfl ?_
    refine j_get hJ (q := 122) jf_X8_66 dX8_howMany_119 1 rfl rfl rfl ?_
    refine j_get hJ (q := 125) jf_X8_129 dX8_howMany_122 2 rfl rfl rfl ?_
    exact hE.1 _ _ _ _ _ _ _ rfl rfl dX8_howMany_125 (Nat.le_refl _) (Nat.le_refl _) (congrArg (fun z => some (Value.int (nI z))) (by simp only [cnt]; rw [if_neg (by omega), if_neg (by omega), if_neg (by omega), if_neg (by omega), if_neg (by omega), if_pos (by omega)]))
  · skip
    refine jn_tableIn hJ (q := 126) (off := 125) (k := 6) c1 dX8_howMany_1 (by decide) (by decide) (by decide) (by decide) ?_
    refine j_aload_n hJ (q := 127) dX8_howMany_126 rfl 0 rfl rfl ?_
    refine j_get hJ (q := 130) jf_X8_10 dX8_howMany_127 0 rfl rfl rfl ?_
    refine j_get hJ (q := 133) jf_X8_66 dX8_howMany_130 1 rfl rfl rfl ?_
    refine j_vR hJ (q := 136) (rest := []) (As := []) jl_X8_281 (c_X4_allRings Z (s 0) q A K P kd am st rg hw hR) 2 rfl rfl dX8_howMany_133 rfl (by decide) (Nat.le_of_ble_eq_true rfl) [2, 3, 4, 5, 6, 7, 8] rfl rfl (fun rv hp => ?_)
    obtain rfl := hp
    show J 136 [(0, .ref h), (1, .int (nI w))] [.int (nI (sumR A (A 0)))] [xO h u ab be (Rf 0) (Rf 1) (Rf 2), (u 0, .inr (4, [.ref (s 0), .ref (s 1), .ref (s 3), .ref (s 5), .ref (s 7)])), cO (s 0) q (A 21) (A 5) (A 6) (A 7) (A 8) (A 0), (q 0, ia Z 12 (ni K)), (q 1, ia Z 12 (ni P)), (q 2, ia Z 6 (ni kd)), (q 3, ia Z 6 (ni am)), (q 4, ia Z 6 (ni st)), (q 5, ia Z 6 (ni rg)), (s 1, .inr (1, [.int (nI (A 4)), .ref (s 2)])), (s 2, ia Z 128 (ni Ro)), (s 3, .inr (3, [.int (nI (A 1)), .int (nI 4), .int (nI 5), .ref (s 4)])), (s 4, ia Z 30 (ni Sn)), (s 5, .inr (3, [.int (nI (A 2)), .int (nI 5), .int (nI 6), .ref (s 6)])), (s 6, ia Z 30 (ni Nt)), (s 7, .inr (3, [.int (nI (A 3)), .int (nI 5), .int (nI 6), .ref (s 8)])), (s 8, ia Z 30 (ni Mk)), (u 2, .inr (5, [.int (nI L), .ref (u 8), .int (nI tk), .int (nI fi), .int (nI be2), .int nb, .int (nI im), .ref (u 9)])), (u 8, ba Z 150 (ni By))] 0 0
    exact hE.1 _ _ _ _ _ _ _ rfl rfl dX8_howMany_136 (Nat.le_refl _) (Nat.le_refl _) (congrArg (fun z => some (Value.int (nI z))) (by simp only [cnt]; rw [if_neg (by omega), if_neg (by omega), if_neg (by omega), if_neg (by omega), if_neg (by omega), if_neg (by omega), if_pos (by omega)]))
  · skip
    refine jn_tableIn hJ (q := 137) (off := 136) (k := 7) c1 dX8_howMany_1 (by decide) (by decide) (by decide) (by decide) ?_
    refine j_aload_n hJ (q := 138) dX8_howMany_137 rfl 0 rfl rfl ?_
    refine j_get hJ (q := 141) jf_X8_10 dX8_howMany_138 0 rfl rfl rfl ?_
    refine j_get hJ (q := 144) jf_X8_196 dX8_howMany_141 1 rfl rfl rfl ?_
    refine j_get hJ (q := 147) jf_X8_210 dX8_howMany_144 11 rfl rfl rfl ?_
    exact hE.1 _ _ _ _ _ _ _ rfl rfl dX8_howMany_147 (Nat.le_refl _) (Nat.le_refl _) (congrArg (fun z => some (Value.int (nI z))) (by simp only [cnt]; rw [if_neg (by omega), if_neg (by omega), if_neg (by omega), if_neg (by omega), if_neg (by omega), if_neg (by omega), if_neg (by omega), if_neg (by omega)]; rw [show 1 + w - 7 = 1 by omega]))
  · skip
    refine jn_tableIn hJ (q := 148) (off := 147) (k := 8) c1 dX8_howMany_1 (by decide) (by decide) (by decide) (by decide) ?_
    refine j_aload_n hJ (q := 149) dX8_howMany_148 rfl 0 rfl rfl ?_
    refine j_get hJ (q := 152) jf_X8_10 dX8_howMany_149 0 rfl rfl rfl ?_
    refine j_get hJ (q := 155) jf_X8_217 dX8_howMany_152 1 rfl rfl rfl ?_
    refine j_get hJ (q := 158) jf_X8_210 dX8_howMany_155 13 rfl rfl rfl ?_
    exact hE.1 _ _ _ _ _ _ _ rfl rfl dX8_howMany_158 (Nat.le_refl _) (Nat.le_refl _) (congrArg (fun z => some (Value.int (nI z))) (by simp only [cnt]; rw [if_neg (by omega), if_neg (by omega), if_neg (by omega), if_neg (by omega), if_neg (by omega), if_neg (by omega), if_neg (by omega), if_neg (by omega)]; rw [show 1 + w - 7 = 2 by omega]))
  · skip
    refine jn_tableIn hJ (q := 159) (off := 158) (k := 9) c1 dX8_howMany_1 (by decide) (by decide) (by decide) (by decide) ?_
    refine j_aload_n hJ (q := 160) dX8_howMany_159 rfl 0 rfl rfl ?_
    refine j_get hJ (q := 163) jf_X8_10 dX8_howMany_160 0 rfl rfl rfl ?_
    refine j_get hJ (q := 166) jf_X8_220 dX8_howMany_163 1 rfl rfl rfl ?_
    refine j_get hJ (q := 169) jf_X8_210 dX8_howMany_166 15 rfl rfl rfl ?_
    exact hE.1 _ _ _ _ _ _ _ rfl rfl dX8_howMany_169 (Nat.le_refl _) (Nat.le_refl _) (congrArg (fun z => some (Value.int (nI z))) (by simp only [cnt]; rw [if_neg (by omega), if_neg (by omega), if_neg (by omega), if_neg (by omega), if_neg (by omega), if_neg (by omega), if_neg (by omega), if_neg (by omega)]; rw [show 1 + w - 7 = 3 by omega]))
  · skip
    refine jn_tableIn hJ (q := 170) (off := 169) (k := 10) c1 dX8_howMany_1 (by decide) (by decide) (by decide) (by decide) ?_
    refine j_aload_n hJ (q := 171) dX8_howMany_170 rfl 0 rfl rfl ?_
    refine j_get hJ (q := 174) jf_X8_10 dX8_howMany_171 0 rfl rfl rfl ?_
    refine j_get hJ (q := 177) jf_X8_91 dX8_howMany_174 1 rfl rfl rfl ?_
    refine j_get hJ (q := 180) jf_X8_95 dX8_howMany_177 9 rfl rfl rfl ?_
    exact hE.1 _ _ _ _ _ _ _ rfl rfl dX8_howMany_180 (Nat.le_refl _) (Nat.le_refl _) (congrArg (fun z => some (Value.int (nI z))) (by simp only [cnt]; rw [if_neg (by omega), if_neg (by omega), if_neg (by omega), if_neg (by omega), if_neg (by omega), if_neg (by omega), if_neg (by omega), if_neg (by omega)]; rw [show 1 + w - 7 = 4 by omega]))
  · skip
    refine jn_tableOut hJ (q := 181) (k := 11) c1 dX8_howMany_1 (by decide) (by decide) ?_
    refine j_aload_n hJ (q := 182) dX8_howMany_181 rfl 0 rfl rfl ?_
    refine j_get hJ (q := 185) jf_X8_23 dX8_howMany_182 0 rfl rfl rfl ?_
    refine j_get hJ (q := 188) jf_X8_113 dX8_howMany_185 17 rfl rfl rfl ?_
    exact hE.1 _ _ _ _ _ _ _ rfl rfl dX8_howMany_188 (Nat.le_refl _) (Nat.le_refl _) (congrArg (fun z => some (Value.int (nI z))) (by simp only [cnt]; rw [if_neg (by omega), if_neg (by omega), if_neg (by omega), if_neg (by omega), if_neg (by omega), if_neg (by omega), if_neg (by omega), if_pos (by omega)]))

set_option maxHeartbeats 4000000 in
set_option maxRecDepth 100000 in
theorem c_X8_count (Z : jZ) (h : Nat) (u : Nat → Nat) (ab : Int) (be : Int) (Rf : Nat → Nat) (s : Nat → Nat) (q : Nat → Nat) (A : Nat → Nat) (K : Nat → Nat) (P : Nat → Nat) (kd : Nat → Nat) (am : Nat → Nat) (st : Nat → Nat) (rg : Nat → Nat) (Ro : Nat → Nat) (Sn : Nat → Nat) (Nt : Nat → Nat) (Mk : Nat → Nat) (L : Nat) (By : Nat → Nat) (tk : Nat) (fi : Nat) (be2 : Nat) (nb : Int32) (im : Nat) (a : Int32) (hg : wg A) (hA : rA A K P kd am st rg Ro Sn Nt Mk) : CT Z yX8_count cX8_count 2 ((some FieldType.int)) 3 0 0 [.ref h, .int a] [xO h u ab be (Rf 0) (Rf 1) (Rf 2), (u 0, .inr (4, [.ref (s 0), .ref (s 1), .ref (s 3), .ref (s 5), .ref (s 7)])), cO (s 0) q (A 21) (A 5) (A 6) (A 7) (A 8) (A 0), (q 0, ia Z 12 (ni K)), (q 1, ia Z 12 (ni P)), (q 2, ia Z 6 (ni kd)), (q 3, ia Z 6 (ni am)), (q 4, ia Z 6 (ni st)), (q 5, ia Z 6 (ni rg)), (s 1, .inr (1, [.int (nI (A 4)), .ref (s 2)])), (s 2, ia Z 128 (ni Ro)), (s 3, .inr (3, [.int (nI (A 1)), .int (nI 4), .int (nI 5), .ref (s 4)])), (s 4, ia Z 30 (ni Sn)), (s 5, .inr (3, [.int (nI (A 2)), .int (nI 5), .int (nI 6), .ref (s 6)])), (s 6, ia Z 30 (ni Nt)), (s 7, .inr (3, [.int (nI (A 3)), .int (nI 5), .int (nI 6), .ref (s 8)])), (s 8, ia Z 30 (ni Mk)), (u 2, .inr (5, [.int (nI L), .ref (u 8), .int (nI tk), .int (nI fi), .int (nI be2), .int nb, .int (nI im), .ref (u 9)])), (u 8, ba Z 150 (ni By))] (fun rr ww => rr = some (.int (zI (z_count A L a))) ∧ ww = [xO h u ab be ((if rgI 0 11 a then Rf else bmp Rf 0) 0) ((if rgI 0 11 a then Rf else bmp Rf 0) 1) ((if rgI 0 11 a then Rf else bmp Rf 0) 2), (u 0, .inr (4, [.ref (s 0), .ref (s 1), .ref (s 3), .ref (s 5), .ref (s 7)])), cO (s 0) q (A 21) (A 5) (A 6) (A 7) (A 8) (A 0), (q 0, ia Z 12 (ni K)), (q 1, ia Z 12 (ni P)), (q 2, ia Z 6 (ni kd)), (q 3, ia Z 6 (ni am)), (q 4, ia Z 6 (ni st)), (q 5, ia Z 6 (ni rg)), (s 1, .inr (1, [.int (nI (A 4)), .ref (s 2)])), (s 2, ia Z 128 (ni Ro)), (s 3, .inr (3, [.int (nI (A 1)), .int (nI 4), .int (nI 5), .ref (s 4)])), (s 4, ia Z 30 (ni Sn)), (s 5, .inr (3, [.int (nI (A 2)), .int (nI 5), .int (nI 6), .ref (s 6)])), (s 6, ia Z 30 (ni Nt)), (s 7, .inr (3, [.int (nI (A 3)), .int (nI 5), .int (nI 6), .ref (s 8)])), (s 8, ia Z 30 (ni Mk)), (u 2, .inr (5, [.int (nI L), .ref (u 8), .int (nI tk), .int (nI fi), .int (nI be2), .int nb, .int (nI im), .ref (u 9)])), (u 8, ba Z 150 (ni By))]) := by
  refine CT.of RX8 false rfl (fun h => by cases h) (by decide +kernel) (Nat.le_of_ble_eq_true rfl) ?_
  intro J hJ hE
  show J 0 [(0, .ref h), (1, .int a)] [] [xO h u ab be (Rf 0) (Rf 1) (Rf 2), (u 0, .inr (4, [.ref (s 0), .ref (s 1), .ref (s 3), .ref (s 5), .ref (s 7)])), cO (s 0) q (A 21) (A 5) (A 6) (A 7) (A 8) (A 0), (q 0, ia Z 12 (ni K)), (q 1, ia Z 12 (ni P)), (q 2, ia Z 6 (ni kd)), (q 3, ia Z 6 (ni am)), (q 4, ia Z 6 (ni st)), (q 5, ia Z 6 (ni rg)), (s 1, .inr (1, [.int (nI (A 4)), .ref (s 2)])), (s 2, ia Z 128 (ni Ro)), (s 3, .inr (3, [.int (nI (A 1)), .int (nI 4), .int (nI 5), .ref (s 4)])), (s 4, ia Z 30 (ni Sn)), (s 5, .inr (3, [.int (nI (A 2)), .int (nI 5), .int (nI 6), .ref (s 6)])), (s 6, ia Z 30 (ni Nt)), (s 7, .inr (3, [.int (nI (A 3)), .int (nI 5), .int (nI 6), .ref (s 8)])), (s 8, ia Z 30 (ni Mk)), (u 2, .inr (5, [.int (nI L), .ref (u 8), .int (nI tk), .int (nI fi), .int (nI be2), .int nb, .int (nI im), .ref (u 9)])), (u 8, ba Z 150 (ni By))] 0 0
  have hr_a := zI_rng a
  refine j_iload_n hJ (q := 1) dX8_count_0 rfl 1 rfl rfl ?_
  refine j_iconst hJ (q := 2) dX8_count_1 rfl ki_0 ?_
  refine j_bipush hJ (q := 4) dX8_count_2 rfl kb_11 ?_
  refine j_sR hJ (q := 7) (rest := []) (As := [.int a, .int (zI 0), .int (zI 11)]) jl_X8_58 (c_X8_within Z a 0 11 (by omega) (by omega)) dX8_count_4 rfl (by decide) (Nat.le_of_ble_eq_true rfl) [] rfl rfl (fun rv hp => ?_)
  obtain rfl := hp
  show J 7 [(0, .ref h), (1, .int a)] [.int (bI (decide (0 ≤ a.toInt ∧ a.toInt ≤ 11)))] [xO h u ab be (Rf 0) (Rf 1) (Rf 2), (u 0, .inr (4, [.ref (s 0), .ref (s 1), .ref (s 3), .ref (s 5), .ref (s 7)])), cO (s 0) q (A 21) (A 5) (A 6) (A 7) (A 8) (A 0), (q 0, ia Z 12 (ni K)), (q 1, ia Z 12 (ni P)), (q 2, ia Z 6 (ni kd)), (q 3, ia Z 6 (ni am)), (q 4, ia Z 6 (ni st)), (q 5, ia Z 6 (ni rg)), (s 1, .inr (1, [.int (nI (A 4)), .ref (s 2)])), (s 2, ia Z 128 (ni Ro)), (s 3, .inr (3, [.int (nI (A 1)), .int (nI 4), .int (nI 5), .ref (s 4)])), (s 4, ia Z 30 (ni Sn)), (s 5, .inr (3, [.int (nI (A 2)), .int (nI 5), .int (nI 6), .ref (s 6)])), (s 6, ia Z 30 (ni Nt)), (s 7, .inr (3, [.int (nI (A 3)), .int (nI 5), .int (nI 6), .ref (s 8)])), (s 8, ia Z 30 (ni Mk)), (u 2, .inr (5, [.int (nI L), .ref (u 8), .int (nI tk), .int (nI fi), .int (nI be2), .int nb, .int (nI im), .ref (u 9)])), (u 8, ba Z 150 (ni By))] 0 0
  refine jp_if_eq hJ (q := 10) (tgt := 18) dX8_count_7 (by decide) rfl (fun c1 => ?_) (fun c1 => ?_)
  · skip
    refine j_aload_n hJ (q := 19) dX8_count_18 rfl 0 rfl rfl ?_
    refine j_vW hJ (q := 22) (rest := []) (As := []) (wr := [(u 0, .inr (4, [.ref (s 0), .ref (s 1), .ref (s 3), .ref (s 5), .ref (s 7)])), cO (s 0) q (A 21) (A 5) (A 6) (A 7) (A 8) (A 0), (q 0, ia Z 12 (ni K)), (q 1, ia Z 12 (ni P)), (q 2, ia Z 6 (ni kd)), (q 3, ia Z 6 (ni am)), (q 4, ia Z 6 (ni st)), (q 5, ia Z 6 (ni rg)), (s 1, .inr (1, [.int (nI (A 4)), .ref (s 2)])), (s 2, ia Z 128 (ni Ro)), (s 3, .inr (3, [.int (nI (A 1)), .int (nI 4), .int (nI 5), .ref (s 4)])), (s 4, ia Z 30 (ni Sn)), (s 5, .inr (3, [.int (nI (A 2)), .int (nI 5), .int (nI 6), .ref (s 6)])), (s 6, ia Z 30 (ni Nt)), (s 7, .inr (3, [.int (nI (A 3)), .int (nI 5), .int (nI 6), .ref (s 8)])), (s 8, ia Z 30 (ni Mk)), (u 2, .inr (5, [.int (nI L), .ref (u 8), .int (nI tk), .int (nI fi), .int (nI be2), .int nb, .int (nI im), .ref (u 9)])), (u 8, ba Z 150 (ni By))]) jl_X8_62 (c_X8_bad Z h u ab be Rf ) 0 rfl rfl dX8_count_19 rfl (by decide) (Nat.le_of_ble_eq_true rfl) [0] [1, 2, 3, 4, 5, 6, 7, 8, 9, 10, 11, 12, 13, 14, 15, 16, 17, 18] rfl rfl rfl rfl (by decide) rfl (fun rv wv hp => ?_)
    obtain ⟨rfl, rfl⟩ := hp
    refine j_world hJ (ws' := [xO h u ab be ((bmp Rf 0) 0) ((bmp Rf 0) 1) ((bmp Rf 0) 2), (u 0, .inr (4, [.ref (s 0), .ref (s 1), .ref (s 3), .ref (s 5), .ref (s 7)])), cO (s 0) q (A 21) (A 5) (A 6) (A 7) (A 8) (A 0), (q 0, ia Z 12 (ni K)), (q 1, ia Z 12 (ni P)), (q 2, ia Z 6 (ni kd)), (q 3, ia Z 6 (ni am)), (q 4, ia Z 6 (ni st)), (q 5, ia Z 6 (ni rg)), (s 1, .inr (1, [.int (nI (A 4)), .ref (s 2)])), (s 2, ia Z 128 (ni Ro)), (s 3, .inr (3, [.int (nI (A 1)), .int (nI 4), .int (nI 5), .ref (s 4)])), (s 4, ia Z 30 (ni Sn)), (s 5, .inr (3, [.int (nI (A 2)), .int (nI 5), .int (nI 6), .ref (s 6)])), (s 6, ia Z 30 (ni Nt)), (s 7, .inr (3, [.int (nI (A 3)), .int (nI 5), .int (nI 6), .ref (s 8)])), (s 8, ia Z 30 (ni Mk)), (u 2, .inr (5, [.int (nI L), .ref (u 8), .int (nI tk), .int (nI fi), .int (nI be2), .int nb, .int (nI im), .ref (u 9)])), (u 8, ba Z 150 (ni By))]) [18, 0, 1, 2, 3, 4, 5, 6, 7, 8, 9, 10, 11, 12, 13, 14, 15, 16, 17] rfl rfl ?_
    show J 22 [(0, .ref h), (1, .int a)] [.int (zI (-2))] [xO h u ab be ((bmp Rf 0) 0) ((bmp Rf 0) 1) ((bmp Rf 0) 2), (u 0, .inr (4, [.ref (s 0), .ref (s 1), .ref (s 3), .ref (s 5), .ref (s 7)])), cO (s 0) q (A 21) (A 5) (A 6) (A 7) (A 8) (A 0), (q 0, ia Z 12 (ni K)), (q 1, ia Z 12 (ni P)), (q 2, ia Z 6 (ni kd)), (q 3, ia Z 6 (ni am)), (q 4, ia Z 6 (ni st)), (q 5, ia Z 6 (ni rg)), (s 1, .inr (1, [.int (nI (A 4)), .ref (s 2)])), (s 2, ia Z 128 (ni Ro)), (s 3, .inr (3, [.int (nI (A 1)), .int (nI 4), .int (nI 5), .ref (s 4)])), (s 4, ia Z 30 (ni Sn)), (s 5, .inr (3, [.int (nI (A 2)), .int (nI 5), .int (nI 6), .ref (s 6)])), (s 6, ia Z 30 (ni Nt)), (s 7, .inr (3, [.int (nI (A 3)), .int (nI 5), .int (nI 6), .ref (s 8)])), (s 8, ia Z 30 (ni Mk)), (u 2, .inr (5, [.int (nI L), .ref (u 8), .int (nI tk), .int (nI fi), .int (nI be2), .int nb, .int (nI im), .ref (u 9)])), (u 8, ba Z 150 (ni By))] 0 0
    have hP0 : ¬ (rgI 0 11 a) := by simp only [rgI, isS, isR, pNote, pMark, pFast, pLever, pHands, pSlip, pEven]; omega
    exact hE.1 _ _ _ _ _ _ _ rfl rfl dX8_count_22 (Nat.le_refl _) (Nat.le_refl _) (⟨congrArg (fun z => some (Value.int (zI z))) (by simp only [z_count, if_neg hP0]), by rw [if_neg hP0] <;> rfl⟩)
  · skip
    have hn_a := nt_cast (x := a) (by omega)
    refine j_eql (lvs' := [(0, .ref h), (1, .int (nI (nt a)))]) (by rw [← nt_eq (x := a) (by omega)]) ?_
    refine j_aload_n hJ (q := 11) dX8_count_10 rfl 0 rfl rfl ?_
    refine j_iload_n hJ (q := 12) dX8_count_11 rfl 1 rfl rfl ?_
    refine j_vR hJ (q := 15) (rest := []) (As := [.int (nI (nt a))]) jl_X8_266 (c_X8_howMany Z h u ab be Rf s q A K P kd am st rg Ro Sn Nt Mk L By tk fi be2 nb im (nt a) hg hA (by omega)) 0 rfl rfl dX8_count_12 rfl (by decide) (Nat.le_of_ble_eq_true rfl) [0, 1, 2, 3, 4, 5, 6, 7, 8, 9, 10, 11, 12, 13, 14, 15, 16, 17, 18] rfl rfl (fun rv hp => ?_)
    obtain rfl := hp
    show J 15 [(0, .ref h), (1, .int (nI (nt a)))] [.int (nI (cnt A L (nt a)))] [xO h u ab be (Rf 0) (Rf 1) (Rf 2), (u 0, .inr (4, [.ref (s 0), .ref (s 1), .ref (s 3), .ref (s 5), .ref (s 7)])), cO (s 0) q (A 21) (A 5) (A 6) (A 7) (A 8) (A 0), (q 0, ia Z 12 (ni K)), (q 1, ia Z 12 (ni P)), (q 2, ia Z 6 (ni kd)), (q 3, ia Z 6 (ni am)), (q 4, ia Z 6 (ni st)), (q 5, ia Z 6 (ni rg)), (s 1, .inr (1, [.int (nI (A 4)), .ref (s 2)])), (s 2, ia Z 128 (ni Ro)), (s 3, .inr (3, [.int (nI (A 1)), .int (nI 4), .int (nI 5), .ref (s 4)])), (s 4, ia Z 30 (ni Sn)), (s 5, .inr (3, [.int (nI (A 2)), .int (nI 5), .int (nI 6), .ref (s 6)])), (s 6, ia Z 30 (ni Nt)), (s 7, .inr (3, [.int (nI (A 3)), .int (nI 5), .int (nI 6), .ref (s 8)])), (s 8, ia Z 30 (ni Mk)), (u 2, .inr (5, [.int (nI L), .ref (u 8), .int (nI tk), .int (nI fi), .int (nI be2), .int nb, .int (nI im), .ref (u 9)])), (u 8, ba Z 150 (ni By))] 0 0
    refine j_goto hJ (q := 22) dX8_count_15 (by decide) ?_
    have hP0 : rgI 0 11 a := by simp only [rgI, isS, isR, pNote, pMark, pFast, pLever, pHands, pSlip, pEven]; omega
    exact hE.1 _ _ _ _ _ _ _ rfl rfl dX8_count_22 (Nat.le_refl _) (Nat.le_refl _) (⟨congrArg (fun z => some (Value.int z)) ((zI_nat _).symm.trans (congrArg zI (by simp only [z_count, if_pos hP0]))), by rw [if_pos hP0] <;> rfl⟩)

set_option maxHeartbeats 4000000 in
set_option maxRecDepth 100000 in
theorem c_X8_type (Z : jZ) (h : Nat) (u : Nat → Nat) (ab : Int) (be : Int) (Rf : Nat → Nat) (L : Nat) (By : Nat → Nat) (tk : Nat) (fi : Nat) (be2 : Nat) (nb : Int32) (im : Nat) (a : Int32) (hL : L ≤ 150) : CT Z yX8_type cX8_type 2 ((some FieldType.int)) 3 0 0 [.ref h, .int a] [xO h u ab be (Rf 0) (Rf 1) (Rf 2), (u 2, .inr (5, [.int (nI L), .ref (u 8), .int (nI tk), .int (nI fi), .int (nI be2), .int nb, .int (nI im), .ref (u 9)])), (u 8, ba Z 150 (ni By))] (fun rr ww => rr = some (.int (zI (z_type L a))) ∧ ww = [xO h u ab be ((r_type Rf L a) 0) ((r_type Rf L a) 1) ((r_type Rf L a) 2), (u 2, .inr (5, [.int (nI (l_type L a)), .ref (u 8), .int (nI tk), .int (nI fi), .int (nI be2), .int nb, .int (nI im), .ref (u 9)])), (u 8, ba Z 150 (ni (b_type By L a)))]) := by
  refine CT.of RX8 false rfl (fun h => by cases h) (by decide +kernel) (Nat.le_of_ble_eq_true rfl) ?_
  intro J hJ hE
  show J 0 [(0, .ref h), (1, .int a)] [] [xO h u ab be (Rf 0) (Rf 1) (Rf 2), (u 2, .inr (5, [.int (nI L), .ref (u 8), .int (nI tk), .int (nI fi), .int (nI be2), .int nb, .int (nI im), .ref (u 9)])), (u 8, ba Z 150 (ni By))] 0 0
  have hr_a := zI_rng a
  refine j_iload_n hJ (q := 1) dX8_type_0 rfl 1 rfl rfl ?_
  refine j_iconst hJ (q := 2) dX8_type_1 rfl ki_0 ?_
  refine j_bipush hJ (q := 4) dX8_type_2 rfl kb_127 ?_
  refine j_sR hJ (q := 7) (rest := []) (As := [.int a, .int (zI 0), .int (zI 127)]) jl_X8_58 (c_X8_within Z a 0 127 (by omega) (by omega)) dX8_type_4 rfl (by decide) (Nat.le_of_ble_eq_true rfl) [] rfl rfl (fun rv hp => ?_)
  obtain rfl := hp
  show J 7 [(0, .ref h), (1, .int a)] [.int (bI (decide (0 ≤ a.toInt ∧ a.toInt ≤ 127)))] [xO h u ab be (Rf 0) (Rf 1) (Rf 2), (u 2, .inr (5, [.int (nI L), .ref (u 8), .int (nI tk), .int (nI fi), .int (nI be2), .int nb, .int (nI im), .ref (u 9)])), (u 8, ba Z 150 (ni By))] 0 0
  refine jp_if_ne hJ (q := 10) (tgt := 15) dX8_type_7 (by decide) rfl (fun c1 => ?_) (fun c1 => ?_)
  · skip
    have hn_a := nt_cast (x := a) (by omega)
    refine j_eql (lvs' := [(0, .ref h), (1, .int (nI (nt a)))]) (by rw [← nt_eq (x := a) (by omega)]) ?_
    refine j_aload_n hJ (q := 16) dX8_type_15 rfl 0 rfl rfl ?_
    refine j_get hJ (q := 19) jf_X8_23 dX8_type_16 0 rfl rfl rfl ?_
    refine j_get hJ (q := 22) jf_X8_113 dX8_type_19 1 rfl rfl rfl ?_
    refine j_sipush hJ (q := 25) dX8_type_22 rfl ks_150 ?_
    refine jn_icmp_lt hJ (q := 28) (tgt := 33) dX8_type_25 (by decide) rfl (by omega) (by omega) (fun c2 => ?_) (fun c2 => ?_)
    · skip
      refine j_aload_n hJ (q := 34) dX8_type_33 rfl 0 rfl rfl ?_
      refine j_get hJ (q := 37) jf_X8_23 dX8_type_34 0 rfl rfl rfl ?_
      refine j_iload_n hJ (q := 38) dX8_type_37 rfl 1 rfl rfl ?_
      refine j_vW hJ (q := 41) (rest := []) (As := [.int (nI (nt a))]) (wr := [xO h u ab be (Rf 0) (Rf 1) (Rf 2)]) jl_X8_114 (c_X7_put Z (u 2) (u 8) (u 9) L By tk fi be2 nb im (nt a) (by omega) (by omega)) 1 rfl rfl dX8_type_38 rfl (by decide) (Nat.le_of_ble_eq_true rfl) [1, 2] [0] rfl rfl rfl rfl (by decide) rfl (fun rv wv hp => ?_)
      obtain ⟨rfl, rfl⟩ := hp
      show J 41 [(0, .ref h), (1, .int (nI (nt a)))] [] [xO h u ab be (Rf 0) (Rf 1) (Rf 2), ((u 2), .inr (5, [.int (nI (L + 1)), .ref (u 8), .int (nI tk), .int (nI fi), .int (nI be2), .int nb, .int (nI im), .ref (u 9)])), ((u 8), ba Z 150 (ni (va_up By L (nt a))))] 0 0
      refine j_aload_n hJ (q := 42) dX8_type_41 rfl 0 rfl rfl ?_
      refine j_get hJ (q := 45) jf_X8_23 dX8_type_42 0 rfl rfl rfl ?_
      refine j_get hJ (q := 48) jf_X8_113 dX8_type_45 1 rfl rfl rfl ?_
      have hP0 : rgI 0 127 a := by simp only [rgI, isS, isR, pNote, pMark, pFast, pLever, pHands, pSlip, pEven]; omega
      have hQ0 : ¬ L = 150 := by omega
      exact hE.1 _ _ _ _ _ _ _ rfl rfl dX8_type_48 (Nat.le_refl _) (Nat.le_refl _) (⟨congrArg (fun z => some (Value.int z)) ((zI_nat _).symm.trans (congrArg zI (by simp only [z_type, if_pos hP0, if_neg hQ0]; omega))), by simp only [l_type, b_type, r_type, if_pos hP0, if_neg hQ0] <;> rfl⟩)
    · skip
      refine j_aload_n hJ (q := 29) dX8_type_28 rfl 0 rfl rfl ?_
      refine j_vW hJ (q := 32) (rest := []) (As := []) (wr := [(u 2, .inr (5, [.int (nI L), .ref (u 8), .int (nI tk), .int (nI fi), .int (nI be2), .int nb, .int (nI im), .ref (u 9)])), (u 8, ba Z 150 (ni By))]) jl_X8_107 (c_X8_full Z h u ab be Rf ) 0 rfl rfl dX8_type_29 rfl (by decide) (Nat.le_of_ble_eq_true rfl) [0] [1, 2] rfl rfl rfl rfl (by decide) rfl (fun rv wv hp => ?_)
      obtain ⟨rfl, rfl⟩ := hp
      refine j_world hJ (ws' := [xO h u ab be ((bmp Rf 2) 0) ((bmp Rf 2) 1) ((bmp Rf 2) 2), (u 2, .inr (5, [.int (nI L), .ref (u 8), .int (nI tk), .int (nI fi), .int (nI be2), .int nb, .int (nI im), .ref (u 9)])), (u 8, ba Z 150 (ni By))]) [2, 0, 1] rfl rfl ?_
      show J 32 [(0, .ref h), (1, .int (nI (nt a)))] [.int (zI (-4))] [xO h u ab be ((bmp Rf 2) 0) ((bmp Rf 2) 1) ((bmp Rf 2) 2), (u 2, .inr (5, [.int (nI L), .ref (u 8), .int (nI tk), .int (nI fi), .int (nI be2), .int nb, .int (nI im), .ref (u 9)])), (u 8, ba Z 150 (ni By))] 0 0
      have hP0 : rgI 0 127 a := by simp only [rgI, isS, isR, pNote, pMark, pFast, pLever, pHands, pSlip, pEven]; omega
      have hQ0 : L = 150 := by omega
      exact hE.1 _ _ _ _ _ _ _ rfl rfl dX8_type_32 (Nat.le_refl _) (Nat.le_refl _) (⟨congrArg (fun z => some (Value.int (zI z))) (by simp only [z_type, if_pos hP0, if_pos hQ0]), by simp only [l_type, b_type, r_type, if_pos hP0, if_pos hQ0] <;> rfl⟩)
  · skip
    refine j_aload_n hJ (q := 11) dX8_type_10 rfl 0 rfl rfl ?_
    refine j_vW hJ (q := 14) (rest := []) (As := []) (wr := [(u 2, .inr (5, [.int (nI L), .ref (u 8), .int (nI tk), .int (nI fi), .int (nI be2), .int nb, .int (nI im), .ref (u 9)])), (u 8, ba Z 150 (ni By))]) jl_X8_62 (c_X8_bad Z h u ab be Rf ) 0 rfl rfl dX8_type_11 rfl (by decide) (Nat.le_of_ble_eq_true rfl) [0] [1, 2] rfl rfl rfl rfl (by decide) rfl (fun rv wv hp => ?_)
    obtain ⟨rfl, rfl⟩ := hp
    refine j_world hJ (ws' := [xO h u ab be ((bmp Rf 0) 0) ((bmp Rf 0) 1) ((bmp Rf 0) 2), (u 2, .inr (5, [.int (nI L), .ref (u 8), .int (nI tk), .int (nI fi), .int (nI be2), .int nb, .int (nI im), .ref (u 9)])), (u 8, ba Z 150 (ni By))]) [2, 0, 1] rfl rfl ?_
    show J 14 [(0, .ref h), (1, .int a)] [.int (zI (-2))] [xO h u ab be ((bmp Rf 0) 0) ((bmp Rf 0) 1) ((bmp Rf 0) 2), (u 2, .inr (5, [.int (nI L), .ref (u 8), .int (nI tk), .int (nI fi), .int (nI be2), .int nb, .int (nI im), .ref (u 9)])), (u 8, ba Z 150 (ni By))] 0 0
    have hP0 : ¬ (rgI 0 127 a) := by simp only [rgI, isS, isR, pNote, pMark, pFast, pLever, pHands, pSlip, pEven]; omega
    exact hE.1 _ _ _ _ _ _ _ rfl rfl dX8_type_14 (Nat.le_refl _) (Nat.le_refl _) (⟨congrArg (fun z => some (Value.int (zI z))) (by simp only [z_type, if_neg hP0]), by simp only [l_type, b_type, r_type, if_neg hP0] <;> rfl⟩)

set_option maxHeartbeats 4000000 in
set_option maxRecDepth 100000 in
theorem c_X8_clear (Z : jZ) (h : Nat) (u : Nat → Nat) (ab : Int) (be : Int) (Rf : Nat → Nat) (L : Nat) (By : Nat → Nat) (tk : Nat) (fi : Nat) (be2 : Nat) (nb : Int32) (im : Nat)  : CT Z yX8_clear cX8_clear 2 ((some FieldType.int)) 1 0 0 [.ref h] [xO h u ab be (Rf 0) (Rf 1) (Rf 2), (u 2, .inr (5, [.int (nI L), .ref (u 8), .int (nI tk), .int (nI fi), .int (nI be2), .int nb, .int (nI im), .ref (u 9)])), (u 8, ba Z 150 (ni By))] (fun rr ww => rr = some (.int (zI (L : Int))) ∧ ww = [xO h u ab be (Rf 0) (Rf 1) (Rf 2), (u 2, .inr (5, [.int (nI 0), .ref (u 8), .int (nI tk), .int (nI fi), .int (nI be2), .int nb, .int (nI im), .ref (u 9)])), (u 8, ba Z 150 (ni By))]) := by
  refine CT.of RX8 false rfl (fun h => by cases h) (by decide +kernel) (Nat.le_of_ble_eq_true rfl) ?_
  intro J hJ hE
  show J 0 [(0, .ref h)] [] [xO h u ab be (Rf 0) (Rf 1) (Rf 2), (u 2, .inr (5, [.int (nI L), .ref (u 8), .int (nI tk), .int (nI fi), .int (nI be2), .int nb, .int (nI im), .ref (u 9)])), (u 8, ba Z 150 (ni By))] 0 0
  refine j_aload_n hJ (q := 1) dX8_clear_0 rfl 0 rfl rfl ?_
  refine j_get hJ (q := 4) jf_X8_23 dX8_clear_1 0 rfl rfl rfl ?_
  refine j_get hJ (q := 7) jf_X8_113 dX8_clear_4 1 rfl rfl rfl ?_
  refine j_istore_n hJ (q := 8) (lvs' := [(1, .int (nI L)), (0, .ref h)]) dX8_clear_7 rfl (by decide) rfl rfl ?_
  refine j_aload_n hJ (q := 9) dX8_clear_8 rfl 1 rfl rfl ?_
  refine j_get hJ (q := 12) jf_X8_23 dX8_clear_9 0 rfl rfl rfl ?_
  refine j_iconst hJ (q := 13) dX8_clear_12 rfl ki_0 ?_
  refine j_put hJ (q := 16) (ws' := [xO h u ab be (Rf 0) (Rf 1) (Rf 2), (u 2, .inr (5, [.int (nI 0), .ref (u 8), .int (nI tk), .int (nI fi), .int (nI be2), .int nb, .int (nI im), .ref (u 9)])), (u 8, ba Z 150 (ni By))]) jp_X8_113 dX8_clear_13 1 rfl rfl rfl (Nat.le_of_ble_eq_true rfl) rfl rfl ?_
  refine j_iload_n hJ (q := 17) dX8_clear_16 rfl 0 rfl rfl ?_
  exact hE.1 _ _ _ _ _ _ _ rfl rfl dX8_clear_17 (Nat.le_refl _) (Nat.le_refl _) (⟨congrArg (fun z => some (Value.int z)) ((zI_nat _).symm.trans (congrArg zI (by rfl))), rfl⟩)

set_option maxHeartbeats 4000000 in
set_option maxRecDepth 100000 in
theorem c_X8_where (Z : jZ) (h : Nat) (u : Nat → Nat) (ab : Int) (be : Int) (Rf : Nat → Nat) (s : Nat → Nat) (q : Nat → Nat) (A : Nat → Nat) (K : Nat → Nat) (P : Nat → Nat) (kd : Nat → Nat) (am : Nat → Nat) (st : Nat → Nat) (rg : Nat → Nat) (a : Int32) (b : Int32) (c : Int32) (hg : wg A) (hR : rR A K P kd am st rg) : CT Z yX8_where cX8_where 5 ((some FieldType.int)) 4 0 0 [.ref h, .int a, .int b, .int c] [xO h u ab be (Rf 0) (Rf 1) (Rf 2), (u 0, .inr (4, [.ref (s 0), .ref (s 1), .ref (s 3), .ref (s 5), .ref (s 7)])), cO (s 0) q (A 21) (A 5) (A 6) (A 7) (A 8) (A 0), (q 0, ia Z 12 (ni K)), (q 1, ia Z 12 (ni P)), (q 2, ia Z 6 (ni kd)), (q 3, ia Z 6 (ni am)), (q 4, ia Z 6 (ni st)), (q 5, ia Z 6 (ni rg))] (fun rr ww => rr = some (.int (zI (z_where A a b c))) ∧ ww = [xO h u ab be ((if isR A a ∧ rgI 0 60 b ∧ rgI 0 1 c then Rf else bmp Rf 0) 0) ((if isR A a ∧ rgI 0 60 b ∧ rgI 0 1 c then Rf else bmp Rf 0) 1) ((if isR A a ∧ rgI 0 60 b ∧ rgI 0 1 c then Rf else bmp Rf 0) 2), (u 0, .inr (4, [.ref (s 0), .ref (s 1), .ref (s 3), .ref (s 5), .ref (s 7)])), cO (s 0) q (A 21) (A 5) (A 6) (A 7) (A 8) (A 0), (q 0, ia Z 12 (ni K)), (q 1, ia Z 12 (ni P)), (q 2, ia Z 6 (ni kd)), (q 3, ia Z 6 (ni am)), (q 4, ia Z 6 (ni st)), (q 5, ia Z 6 (ni rg))]) := by
  refine CT.of RX8 false rfl (fun h => by cases h) (by decide +kernel) (Nat.le_of_ble_eq_true rfl) ?_
  intro J hJ hE
  show J 0 [(0, .ref h), (1, .int a), (2, .int b), (3, .int c)] [] [xO h u ab be (Rf 0) (Rf 1) (Rf 2), (u 0, .inr (4, [.ref (s 0), .ref (s 1), .ref (s 3), .ref (s 5), .ref (s 7)])), cO (s 0) q (A 21) (A 5) (A 6) (A 7) (A 8) (A 0), (q 0, ia Z 12 (ni K)), (q 1, ia Z 12 (ni P)), (q 2, ia Z 6 (ni kd)), (q 3, ia Z 6 (ni am)), (q 4, ia Z 6 (ni st)), (q 5, ia Z 6 (ni rg))] 0 0
  obtain ⟨hw, ⟨g1, g2, g3, g4, g8⟩, hrs, hrn, hrm, hpst⟩ := id hg
  obtain ⟨⟨w1, w2, w3, w4, w5, w6⟩, hb, wr, wh, wd⟩ := id hw
  have hr_a := zI_rng a
  have hr_b := zI_rng b
  have hr_c := zI_rng c
  refine j_aload_n hJ (q := 1) dX8_where_0 rfl 0 rfl rfl ?_
  refine j_iload_n hJ (q := 2) dX8_where_1 rfl 1 rfl rfl ?_
  refine j_vR hJ (q := 5) (rest := []) (As := [.int a]) jl_X8_141 (c_X8_isRider Z h u ab be Rf s q A K P kd am st rg a (by omega)) 0 rfl rfl dX8_where_2 rfl (by decide) (Nat.le_of_ble_eq_true rfl) [0, 1, 2, 3, 4, 5, 6, 7, 8] rfl rfl (fun rv hp => ?_)
  obtain rfl := hp
  show J 5 [(0, .ref h), (1, .int a), (2, .int b), (3, .int c)] [.int (bI (decide (0 ≤ a.toInt ∧ a.toInt ≤ (A 0 : Int) - 1)))] [xO h u ab be (Rf 0) (Rf 1) (Rf 2), (u 0, .inr (4, [.ref (s 0), .ref (s 1), .ref (s 3), .ref (s 5), .ref (s 7)])), cO (s 0) q (A 21) (A 5) (A 6) (A 7) (A 8) (A 0), (q 0, ia Z 12 (ni K)), (q 1, ia Z 12 (ni P)), (q 2, ia Z 6 (ni kd)), (q 3, ia Z 6 (ni am)), (q 4, ia Z 6 (ni st)), (q 5, ia Z 6 (ni rg))] 0 0
  refine jp_if_eq hJ (q := 8) (tgt := 27) dX8_where_5 (by decide) rfl (fun c1 => ?_) (fun c1 => ?_)
  · skip
    refine j_aload_n hJ (q := 28) dX8_where_27 rfl 0 rfl rfl ?_
    refine j_vW hJ (q := 31) (rest := []) (As := []) (wr := [(u 0, .inr (4, [.ref (s 0), .ref (s 1), .ref (s 3), .ref (s 5), .ref (s 7)])), cO (s 0) q (A 21) (A 5) (A 6) (A 7) (A 8) (A 0), (q 0, ia Z 12 (ni K)), (q 1, ia Z 12 (ni P)), (q 2, ia Z 6 (ni kd)), (q 3, ia Z 6 (ni am)), (q 4, ia Z 6 (ni st)), (q 5, ia Z 6 (ni rg))]) jl_X8_62 (c_X8_bad Z h u ab be Rf ) 0 rfl rfl dX8_where_28 rfl (by decide) (Nat.le_of_ble_eq_true rfl) [0] [1, 2, 3, 4, 5, 6, 7, 8] rfl rfl rfl rfl (by decide) rfl (fun rv wv hp => ?_)
    obtain ⟨rfl, rfl⟩ := hp
    refine j_world hJ (ws' := [xO h u ab be ((bmp Rf 0) 0) ((bmp Rf 0) 1) ((bmp Rf 0) 2), (u 0, .inr (4, [.ref (s 0), .ref (s 1), .ref (s 3), .ref (s 5), .ref (s 7)])), cO (s 0) q (A 21) (A 5) (A 6) (A 7) (A 8) (A 0), (q 0, ia Z 12 (ni K)), (q 1, ia Z 12 (ni P)), (q 2, ia Z 6 (ni kd)), (q 3, ia Z 6 (ni am)), (q 4, ia Z 6 (ni st)), (q 5, ia Z 6 (ni rg))]) [8, 0, 1, 2, 3, 4, 5, 6, 7] rfl rfl ?_
    show J 31 [(0, .ref h), (1, .int a), (2, .int b), (3, .int c)] [.int (zI (-2))] [xO h u ab be ((bmp Rf 0) 0) ((bmp Rf 0) 1) ((bmp Rf 0) 2), (u 0, .inr (4, [.ref (s 0), .ref (s 1), .ref (s 3), .ref (s 5), .ref (s 7)])), cO (s 0) q (A 21) (A 5) (A 6) (A 7) (A 8) (A 0), (q 0, ia Z 12 (ni K)), (q 1, ia Z 12 (ni P)), (q 2, ia Z 6 (ni kd)), (q 3, ia Z 6 (ni am)), (q 4, ia Z 6 (ni st)), (q 5, ia Z 6 (ni rg))] 0 0
    have hP0 : ¬ (isR A a ∧ rgI 0 60 b ∧ rgI 0 1 c) := by simp only [rgI, isS, isR, pNote, pMark, pFast, pLever, pHands, pSlip, pEven]; omega
    have hRo : (if isR A a ∧ rgI 0 60 b ∧ rgI 0 1 c then Rf else bmp Rf 0) = bmp Rf 0 := by simp only [if_neg hP0]
    exact hE.1 _ _ _ _ _ _ _ rfl rfl dX8_where_31 (Nat.le_refl _) (Nat.le_refl _) (⟨congrArg (fun z => some (Value.int (zI z))) (by simp only [z_where, if_neg hP0]), by rw [hRo] <;> rfl⟩)
  · skip
    refine j_iload_n hJ (q := 9) dX8_where_8 rfl 2 rfl rfl ?_
    refine j_iconst hJ (q := 10) dX8_where_9 rfl ki_0 ?_
    refine j_bipush hJ (q := 12) dX8_where_10 rfl kb_60 ?_
    refine j_sR hJ (q := 15) (rest := []) (As := [.int b, .int (zI 0), .int (zI 60)]) jl_X8_58 (c_X8_within Z b 0 60 (by omega) (by omega)) dX8_where_12 rfl (by decide) (Nat.le_of_ble_eq_true rfl) [] rfl rfl (fun rv hp => ?_)
    obtain rfl := hp
    show J 15 [(0, .ref h), (1, .int a), (2, .int b), (3, .int c)] [.int (bI (decide (0 ≤ b.toInt ∧ b.toInt ≤ 60)))] [xO h u ab be (Rf 0) (Rf 1) (Rf 2), (u 0, .inr (4, [.ref (s 0), .ref (s 1), .ref (s 3), .ref (s 5), .ref (s 7)])), cO (s 0) q (A 21) (A 5) (A 6) (A 7) (A 8) (A 0), (q 0, ia Z 12 (ni K)), (q 1, ia Z 12 (ni P)), (q 2, ia Z 6 (ni kd)), (q 3, ia Z 6 (ni am)), (q 4, ia Z 6 (ni st)), (q 5, ia Z 6 (ni rg))] 0 0
    refine jp_if_eq hJ (q := 18) (tgt := 27) dX8_where_15 (by decide) rfl (fun c2 => ?_) (fun c2 => ?_)
    · skip
      refine j_aload_n hJ (q := 28) dX8_where_27 rfl 0 rfl rfl ?_
      refine j_vW hJ (q := 31) (rest := []) (As := []) (wr := [(u 0, .inr (4, [.ref (s 0), .ref (s 1), .ref (s 3), .ref (s 5), .ref (s 7)])), cO (s 0) q (A 21) (A 5) (A 6) (A 7) (A 8) (A 0), (q 0, ia Z 12 (ni K)), (q 1, ia Z 12 (ni P)), (q 2, ia Z 6 (ni kd)), (q 3, ia Z 6 (ni am)), (q 4, ia Z 6 (ni st)), (q 5, ia Z 6 (ni rg))]) jl_X8_62 (c_X8_bad Z h u ab be Rf ) 0 rfl rfl dX8_where_28 rfl (by decide) (Nat.le_of_ble_eq_true rfl) [0] [1, 2, 3, 4, 5, 6, 7, 8] rfl rfl rfl rfl (by decide) rfl (fun rv wv hp => ?_)
      obtain ⟨rfl, rfl⟩ := hp
      refine j_world hJ (ws' := [xO h u ab be ((bmp Rf 0) 0) ((bmp Rf 0) 1) ((bmp Rf 0) 2), (u 0, .inr (4, [.ref (s 0), .ref (s 1), .ref (s 3), .ref (s 5), .ref (s 7)])), cO (s 0) q (A 21) (A 5) (A 6) (A 7) (A 8) (A 0), (q 0, ia Z 12 (ni K)), (q 1, ia Z 12 (ni P)), (q 2, ia Z 6 (ni kd)), (q 3, ia Z 6 (ni am)), (q 4, ia Z 6 (ni st)), (q 5, ia Z 6 (ni rg))]) [8, 0, 1, 2, 3, 4, 5, 6, 7] rfl rfl ?_
      show J 31 [(0, .ref h), (1, .int a), (2, .int b), (3, .int c)] [.int (zI (-2))] [xO h u ab be ((bmp Rf 0) 0) ((bmp Rf 0) 1) ((bmp Rf 0) 2), (u 0, .inr (4, [.ref (s 0), .ref (s 1), .ref (s 3), .ref (s 5), .ref (s 7)])), cO (s 0) q (A 21) (A 5) (A 6) (A 7) (A 8) (A 0), (q 0, ia Z 12 (ni K)), (q 1, ia Z 12 (ni P)), (q 2, ia Z 6 (ni kd)), (q 3, ia Z 6 (ni am)), (q 4, ia Z 6 (ni st)), (q 5, ia Z 6 (ni rg))] 0 0
      have hP0 : ¬ (isR A a ∧ rgI 0 60 b ∧ rgI 0 1 c) := by simp only [rgI, isS, isR, pNote, pMark, pFast, pLever, pHands, pSlip, pEven]; omega
      have hRo : (if isR A a ∧ rgI 0 60 b ∧ rgI 0 1 c then Rf else bmp Rf 0) = bmp Rf 0 := by simp only [if_neg hP0]
      exact hE.1 _ _ _ _ _ _ _ rfl rfl dX8_where_31 (Nat.le_refl _) (Nat.le_refl _) (⟨congrArg (fun z => some (Value.int (zI z))) (by simp only [z_where, if_neg hP0]), by rw [hRo] <;> rfl⟩)
    · skip
      refine j_iload_n hJ (q := 19) dX8_where_18 rfl 3 rfl rfl ?_
      refine j_iconst hJ (q := 20) dX8_where_19 rfl ki_0 ?_
      refine j_iconst hJ (q := 21) dX8_where_20 rfl ki_1 ?_
      refine j_sR hJ (q := 24) (rest := []) (As := [.int c, .int (zI 0), .int (zI 1)]) jl_X8_58 (c_X8_within Z c 0 1 (by omega) (by omega)) dX8_where_21 rfl (by decide) (Nat.le_of_ble_eq_true rfl) [] rfl rfl (fun rv hp => ?_)
      obtain rfl := hp
      show J 24 [(0, .ref h), (1, .int a), (2, .int b), (3, .int c)] [.int (bI (decide (0 ≤ c.toInt ∧ c.toInt ≤ 1)))] [xO h u ab be (Rf 0) (Rf 1) (Rf 2), (u 0, .inr (4, [.ref (s 0), .ref (s 1), .ref (s 3), .ref (s 5), .ref (s 7)])), cO (s 0) q (A 21) (A 5) (A 6) (A 7) (A 8) (A 0), (q 0, ia Z 12 (ni K)), (q 1, ia Z 12 (ni P)), (q 2, ia Z 6 (ni kd)), (q 3, ia Z 6 (ni am)), (q 4, ia Z 6 (ni st)), (q 5, ia Z 6 (ni rg))] 0 0
      refine jp_if_ne hJ (q := 27) (tgt := 32) dX8_where_24 (by decide) rfl (fun c3 => ?_) (fun c3 => ?_)
      · skip
        have hn_a := nt_cast (x := a) (by omega)
        refine j_eql (lvs' := [(0, .ref h), (1, .int (nI (nt a))), (2, .int b), (3, .int c)]) (by rw [← nt_eq (x := a) (by omega)]) ?_
        have hn_b := nt_cast (x := b) (by omega)
        refine j_eql (lvs' := [(0, .ref h), (1, .int (nI (nt a))), (2, .int (nI (nt b))), (3, .int c)]) (by rw [← nt_eq (x := b) (by omega)]) ?_
        have hn_c := nt_cast (x := c) (by omega)
        refine j_eql (lvs' := [(0, .ref h), (1, .int (nI (nt a))), (2, .int (nI (nt b))), (3, .int (nI (nt c)))]) (by rw [← nt_eq (x := c) (by omega)]) ?_
        refine j_aload_n hJ (q := 33) dX8_where_32 rfl 0 rfl rfl ?_
        refine j_get hJ (q := 36) jf_X8_10 dX8_where_33 0 rfl rfl rfl ?_
        refine j_get hJ (q := 39) jf_X8_66 dX8_where_36 1 rfl rfl rfl ?_
        refine j_astore hJ (q := 41) (lvs' := [(4, .ref (s 0)), (0, .ref h), (1, .int (nI (nt a))), (2, .int (nI (nt b))), (3, .int (nI (nt c)))]) dX8_where_39 (by decide) rfl rfl ?_
        obtain ⟨r1, r2, r3, r4⟩ := wr (nt a) (by omega)
        have hh1 := wh (A (15 + nt a)) (by omega)
        refine j_iload_n hJ (q := 42) dX8_where_41 rfl 4 rfl rfl ?_
        refine jn_if_ne hJ (q := 45) (tgt := 55) dX8_where_42 (by decide) rfl (by omega) (fun c4 => ?_) (fun c4 => ?_)
        · skip
          refine j_aload hJ (q := 57) dX8_where_55 0 rfl rfl ?_
          refine j_aload hJ (q := 59) dX8_where_57 0 rfl rfl ?_
          refine j_get hJ (q := 62) jf_X8_144 dX8_where_59 2 rfl rfl rfl ?_
          refine j_iload_n hJ (q := 63) dX8_where_62 rfl 2 rfl rfl ?_
          refine j_ialdN hJ (q := 64) (z := nI (st (nt a))) dX8_where_63 7 rfl (by omega) (by decide) rfl rfl ?_
          refine j_top (congrArg nI (rR_s hR (i := nt a) (by omega))) ?_
          refine j_iload_n hJ (q := 65) dX8_where_64 rfl 3 rfl rfl ?_
          refine j_vR hJ (q := 68) (rest := []) (As := [.int (nI (A (15 + (nt a)))), .int (nI (nt b))]) jl_X8_166 (c_X4_highOn Z (s 0) q A K P kd am st rg (A (15 + (nt a))) (nt b) hw hR (by omega) (by omega)) 2 rfl rfl dX8_where_65 rfl (by decide) (Nat.le_of_ble_eq_true rfl) [2, 3, 4, 5, 6, 7, 8] rfl rfl (fun rv hp => ?_)
          obtain rfl := hp
          show J 68 [(4, .ref (s 0)), (0, .ref h), (1, .int (nI (nt a))), (2, .int (nI (nt b))), (3, .int (nI (nt c)))] [.int (nI (hgh (A (34 + (A (15 + (nt a))))) (A (46 + (A (15 + (nt a))))) (A 8 + (nt b)) (A 6)))] [xO h u ab be (Rf 0) (Rf 1) (Rf 2), (u 0, .inr (4, [.ref (s 0), .ref (s 1), .ref (s 3), .ref (s 5), .ref (s 7)])), cO (s 0) q (A 21) (A 5) (A 6) (A 7) (A 8) (A 0), (q 0, ia Z 12 (ni K)), (q 1, ia Z 12 (ni P)), (q 2, ia Z 6 (ni kd)), (q 3, ia Z 6 (ni am)), (q 4, ia Z 6 (ni st)), (q 5, ia Z 6 (ni rg))] 0 0
          have hP0 : isR A a ∧ rgI 0 60 b ∧ rgI 0 1 c := by simp only [rgI, isS, isR, pNote, pMark, pFast, pLever, pHands, pSlip, pEven]; omega
          have hQ0 : ¬ (nt c = 0) := by omega
          have hRo : (if isR A a ∧ rgI 0 60 b ∧ rgI 0 1 c then Rf else bmp Rf 0) = Rf := by simp only [if_pos hP0, if_neg hQ0]
          exact hE.1 _ _ _ _ _ _ _ rfl rfl dX8_where_68 (Nat.le_refl _) (Nat.le_refl _) (⟨congrArg (fun z => some (Value.int z)) ((zI_nat _).symm.trans (congrArg zI (by simp only [z_where, if_pos hP0, if_neg hQ0]; rw [where_1 w6]))), by rw [hRo] <;> rfl⟩)
        · skip
          refine j_aload hJ (q := 47) dX8_where_45 0 rfl rfl ?_
          refine j_iload_n hJ (q := 48) dX8_where_47 rfl 2 rfl rfl ?_
          refine j_iload_n hJ (q := 49) dX8_where_48 rfl 3 rfl rfl ?_
          refine j_vR hJ (q := 52) (rest := []) (As := [.int (nI (nt a)), .int (nI (nt b))]) jl_X8_162 (c_X4_placeOf Z (s 0) q A K P kd am st rg (nt a) (nt b) hw hR (by omega) (by omega)) 2 rfl rfl dX8_where_49 rfl (by decide) (Nat.le_of_ble_eq_true rfl) [2, 3, 4, 5, 6, 7, 8] rfl rfl (fun rv hp => ?_)
          obtain rfl := hp
          show J 52 [(4, .ref (s 0)), (0, .ref h), (1, .int (nI (nt a))), (2, .int (nI (nt b))), (3, .int (nI (nt c)))] [.int (nI ((A (15 + (nt a)) + A 5 + A 6 * (nt b)) % A 21))] [xO h u ab be (Rf 0) (Rf 1) (Rf 2), (u 0, .inr (4, [.ref (s 0), .ref (s 1), .ref (s 3), .ref (s 5), .ref (s 7)])), cO (s 0) q (A 21) (A 5) (A 6) (A 7) (A 8) (A 0), (q 0, ia Z 12 (ni K)), (q 1, ia Z 12 (ni P)), (q 2, ia Z 6 (ni kd)), (q 3, ia Z 6 (ni am)), (q 4, ia Z 6 (ni st)), (q 5, ia Z 6 (ni rg))] 0 0
          refine j_goto hJ (q := 68) dX8_where_52 (by decide) ?_
          have hP0 : isR A a ∧ rgI 0 60 b ∧ rgI 0 1 c := by simp only [rgI, isS, isR, pNote, pMark, pFast, pLever, pHands, pSlip, pEven]; omega
          have hQ0 : nt c = 0 := by omega
          have hRo : (if isR A a ∧ rgI 0 60 b ∧ rgI 0 1 c then Rf else bmp Rf 0) = Rf := by simp only [if_pos hP0, if_pos hQ0]
          exact hE.1 _ _ _ _ _ _ _ rfl rfl dX8_where_68 (Nat.le_refl _) (Nat.le_refl _) (⟨congrArg (fun z => some (Value.int z)) ((zI_nat _).symm.trans (congrArg zI (by simp only [z_where, if_pos hP0, if_pos hQ0]; rw [where_0 w6]))), by rw [hRo] <;> rfl⟩)
      · skip
        refine j_aload_n hJ (q := 28) dX8_where_27 rfl 0 rfl rfl ?_
        refine j_vW hJ (q := 31) (rest := []) (As := []) (wr := [(u 0, .inr (4, [.ref (s 0), .ref (s 1), .ref (s 3), .ref (s 5), .ref (s 7)])), cO (s 0) q (A 21) (A 5) (A 6) (A 7) (A 8) (A 0), (q 0, ia Z 12 (ni K)), (q 1, ia Z 12 (ni P)), (q 2, ia Z 6 (ni kd)), (q 3, ia Z 6 (ni am)), (q 4, ia Z 6 (ni st)), (q 5, ia Z 6 (ni rg))]) jl_X8_62 (c_X8_bad Z h u ab be Rf ) 0 rfl rfl dX8_where_28 rfl (by decide) (Nat.le_of_ble_eq_true rfl) [0] [1, 2, 3, 4, 5, 6, 7, 8] rfl rfl rfl rfl (by decide) rfl (fun rv wv hp => ?_)
        obtain ⟨rfl, rfl⟩ := hp
        refine j_world hJ (ws' := [xO h u ab be ((bmp Rf 0) 0) ((bmp Rf 0) 1) ((bmp Rf 0) 2), (u 0, .inr (4, [.ref (s 0), .ref (s 1), .ref (s 3), .ref (s 5), .ref (s 7)])), cO (s 0) q (A 21) (A 5) (A 6) (A 7) (A 8) (A 0), (q 0, ia Z 12 (ni K)), (q 1, ia Z 12 (ni P)), (q 2, ia Z 6 (ni kd)), (q 3, ia Z 6 (ni am)), (q 4, ia Z 6 (ni st)), (q 5, ia Z 6 (ni rg))]) [8, 0, 1, 2, 3, 4, 5, 6, 7] rfl rfl ?_
        show J 31 [(0, .ref h), (1, .int a), (2, .int b), (3, .int c)] [.int (zI (-2))] [xO h u ab be ((bmp Rf 0) 0) ((bmp Rf 0) 1) ((bmp Rf 0) 2), (u 0, .inr (4, [.ref (s 0), .ref (s 1), .ref (s 3), .ref (s 5), .ref (s 7)])), cO (s 0) q (A 21) (A 5) (A 6) (A 7) (A 8) (A 0), (q 0, ia Z 12 (ni K)), (q 1, ia Z 12 (ni P)), (q 2, ia Z 6 (ni kd)), (q 3, ia Z 6 (ni am)), (q 4, ia Z 6 (ni st)), (q 5, ia Z 6 (ni rg))] 0 0
        have hP0 : ¬ (isR A a ∧ rgI 0 60 b ∧ rgI 0 1 c) := by simp only [rgI, isS, isR, pNote, pMark, pFast, pLever, pHands, pSlip, pEven]; omega
        have hRo : (if isR A a ∧ rgI 0 60 b ∧ rgI 0 1 c then Rf else bmp Rf 0) = bmp Rf 0 := by simp only [if_neg hP0]
        exact hE.1 _ _ _ _ _ _ _ rfl rfl dX8_where_31 (Nat.le_refl _) (Nat.le_refl _) (⟨congrArg (fun z => some (Value.int (zI z))) (by simp only [z_where, if_neg hP0]), by rw [hRo] <;> rfl⟩)

set_option maxHeartbeats 4000000 in
set_option maxRecDepth 100000 in
theorem c_X8_takes (Z : jZ) (h : Nat) (u : Nat → Nat) (ab : Int) (be : Int) (Rf : Nat → Nat) (s : Nat → Nat) (q : Nat → Nat) (A : Nat → Nat) (K : Nat → Nat) (P : Nat → Nat) (kd : Nat → Nat) (am : Nat → Nat) (st : Nat → Nat) (rg : Nat → Nat) (qt : Nat → Nat) (t1 : Nat) (t2 : Nat) (t3 : Nat) (t4 : Nat) (t5 : Nat) (t6 : Nat) (Kt : Nat → Nat) (Pt : Nat → Nat) (kt : Nat → Nat) (mt : Nat → Nat) (stt : Nat → Nat) (gt : Nat → Nat) (a : Int32) (hg : wg A) (hR : rR A K P kd am st rg) : CT Z yX8_takes cX8_takes 3 ((some FieldType.int)) 6 0 0 [.ref h, .int a] [xO h u ab be (Rf 0) (Rf 1) (Rf 2), (u 0, .inr (4, [.ref (s 0), .ref (s 1), .ref (s 3), .ref (s 5), .ref (s 7)])), cO (s 0) q (A 21) (A 5) (A 6) (A 7) (A 8) (A 0), (q 0, ia Z 12 (ni K)), (q 1, ia Z 12 (ni P)), (q 2, ia Z 6 (ni kd)), (q 3, ia Z 6 (ni am)), (q 4, ia Z 6 (ni st)), (q 5, ia Z 6 (ni rg)), cO (u 3) qt t1 t2 t3 t4 t5 t6, (qt 0, ia Z 12 (ni Kt)), (qt 1, ia Z 12 (ni Pt)), (qt 2, ia Z 6 (ni kt)), (qt 3, ia Z 6 (ni mt)), (qt 4, ia Z 6 (ni stt)), (qt 5, ia Z 6 (ni gt))] (fun rr ww => ∃ y1 : Nat, ∃ y2 : Nat, ∃ y3 : Nat, ∃ y4 : Nat, ∃ y5 : Nat, ∃ y6 : Nat, ∃ Kx : Nat → Nat, ∃ Px : Nat → Nat, ∃ kx : Nat → Nat, ∃ mx : Nat → Nat, ∃ sx : Nat → Nat, ∃ gx : Nat → Nat, rr = some (.int (zI (z_takes A a))) ∧ ww = [xO h u ab be ((if isR A a then Rf else bmp Rf 0) 0) ((if isR A a then Rf else bmp Rf 0) 1) ((if isR A a then Rf else bmp Rf 0) 2), (u 0, .inr (4, [.ref (s 0), .ref (s 1), .ref (s 3), .ref (s 5), .ref (s 7)])), cO (s 0) q (A 21) (A 5) (A 6) (A 7) (A 8) (A 0), (q 0, ia Z 12 (ni K)), (q 1, ia Z 12 (ni P)), (q 2, ia Z 6 (ni kd)), (q 3, ia Z 6 (ni am)), (q 4, ia Z 6 (ni st)), (q 5, ia Z 6 (ni rg)), cO (u 3) qt y1 y2 y3 y4 y5 y6, (qt 0, ia Z 12 (ni Kx)), (qt 1, ia Z 12 (ni Px)), (qt 2, ia Z 6 (ni kx)), (qt 3, ia Z 6 (ni mx)), (qt 4, ia Z 6 (ni sx)), (qt 5, ia Z 6 (ni gx))]) := by
  refine CT.of RX8 false rfl (fun h => by cases h) (by decide +kernel) (Nat.le_of_ble_eq_true rfl) ?_
  intro J hJ hE
  show J 0 [(0, .ref h), (1, .int a)] [] [xO h u ab be (Rf 0) (Rf 1) (Rf 2), (u 0, .inr (4, [.ref (s 0), .ref (s 1), .ref (s 3), .ref (s 5), .ref (s 7)])), cO (s 0) q (A 21) (A 5) (A 6) (A 7) (A 8) (A 0), (q 0, ia Z 12 (ni K)), (q 1, ia Z 12 (ni P)), (q 2, ia Z 6 (ni kd)), (q 3, ia Z 6 (ni am)), (q 4, ia Z 6 (ni st)), (q 5, ia Z 6 (ni rg)), cO (u 3) qt t1 t2 t3 t4 t5 t6, (qt 0, ia Z 12 (ni Kt)), (qt 1, ia Z 12 (ni Pt)), (qt 2, ia Z 6 (ni kt)), (qt 3, ia Z 6 (ni mt)), (qt 4, ia Z 6 (ni stt)), (qt 5, ia Z 6 (ni gt))] 0 0
  obtain ⟨hw, ⟨g1, g2, g3, g4, g8⟩, hrs, hrn, hrm, hpst⟩ := id hg
  obtain ⟨⟨w1, w2, w3, w4, w5, w6⟩, hb, wr, wh, wd⟩ := id hw
  have hr_a := zI_rng a
  refine j_aload_n hJ (q := 1) dX8_takes_0 rfl 0 rfl rfl ?_
  refine j_iload_n hJ (q := 2) dX8_takes_1 rfl 1 rfl rfl ?_
  refine j_vR hJ (q := 5) (rest := []) (As := [.int a]) jl_X8_141 (c_X8_isRider Z h u ab be Rf s q A K P kd am st rg a (by omega)) 0 rfl rfl dX8_takes_2 rfl (by decide) (Nat.le_of_ble_eq_true rfl) [0, 1, 2, 3, 4, 5, 6, 7, 8] rfl rfl (fun rv hp => ?_)
  obtain rfl := hp
  show J 5 [(0, .ref h), (1, .int a)] [.int (bI (decide (0 ≤ a.toInt ∧ a.toInt ≤ (A 0 : Int) - 1)))] [xO h u ab be (Rf 0) (Rf 1) (Rf 2), (u 0, .inr (4, [.ref (s 0), .ref (s 1), .ref (s 3), .ref (s 5), .ref (s 7)])), cO (s 0) q (A 21) (A 5) (A 6) (A 7) (A 8) (A 0), (q 0, ia Z 12 (ni K)), (q 1, ia Z 12 (ni P)), (q 2, ia Z 6 (ni kd)), (q 3, ia Z 6 (ni am)), (q 4, ia Z 6 (ni st)), (q 5, ia Z 6 (ni rg)), cO (u 3) qt t1 t2 t3 t4 t5 t6, (qt 0, ia Z 12 (ni Kt)), (qt 1, ia Z 12 (ni Pt)), (qt 2, ia Z 6 (ni kt)), (qt 3, ia Z 6 (ni mt)), (qt 4, ia Z 6 (ni stt)), (qt 5, ia Z 6 (ni gt))] 0 0
  refine jp_if_ne hJ (q := 8) (tgt := 13) dX8_takes_5 (by decide) rfl (fun c1 => ?_) (fun c1 => ?_)
  · skip
    have hn_a := nt_cast (x := a) (by omega)
    refine j_eql (lvs' := [(0, .ref h), (1, .int (nI (nt a)))]) (by rw [← nt_eq (x := a) (by omega)]) ?_
    refine j_aload_n hJ (q := 14) dX8_takes_13 rfl 0 rfl rfl ?_
    refine j_get hJ (q := 17) jf_X8_37 dX8_takes_14 0 rfl rfl rfl ?_
    refine j_aload_n hJ (q := 18) dX8_takes_17 rfl 0 rfl rfl ?_
    refine j_get hJ (q := 21) jf_X8_10 dX8_takes_18 0 rfl rfl rfl ?_
    refine j_get hJ (q := 24) jf_X8_66 dX8_takes_21 1 rfl rfl rfl ?_
    refine j_vW hJ (q := 27) (rest := []) (As := [.ref (s 0)]) (wr := [xO h u ab be (Rf 0) (Rf 1) (Rf 2), (u 0, .inr (4, [.ref (s 0), .ref (s 1), .ref (s 3), .ref (s 5), .ref (s 7)]))]) jl_X8_122 (c_X4_copyOf Z (u 3) qt t1 t2 t3 t4 t5 t6 Kt Pt kt mt stt gt (s 0) q A K P kd am st rg ) 9 rfl rfl dX8_takes_24 rfl (by decide) (Nat.le_of_ble_eq_true rfl) [9, 10, 11, 12, 13, 14, 15, 2, 3, 4, 5, 6, 7, 8] [0, 1] rfl rfl rfl rfl (by decide) rfl (fun rv wv hp => ?_)
    obtain ⟨rfl, rfl⟩ := hp
    refine j_world hJ (ws' := [xO h u ab be (Rf 0) (Rf 1) (Rf 2), (u 0, .inr (4, [.ref (s 0), .ref (s 1), .ref (s 3), .ref (s 5), .ref (s 7)])), cO (s 0) q (A 21) (A 5) (A 6) (A 7) (A 8) (A 0), (q 0, ia Z 12 (ni K)), (q 1, ia Z 12 (ni P)), (q 2, ia Z 6 (ni kd)), (q 3, ia Z 6 (ni am)), (q 4, ia Z 6 (ni st)), (q 5, ia Z 6 (ni rg)), cO (u 3) qt (A 21) (A 5) (A 6) (A 7) (A 8) (A 0), (qt 0, ia Z 12 (ni K)), (qt 1, ia Z 12 (ni P)), (qt 2, ia Z 6 (ni kd)), (qt 3, ia Z 6 (ni am)), (qt 4, ia Z 6 (ni st)), (qt 5, ia Z 6 (ni rg))]) [0, 1, 9, 10, 11, 12, 13, 14, 15, 2, 3, 4, 5, 6, 7, 8] rfl rfl ?_
    show J 27 [(0, .ref h), (1, .int (nI (nt a)))] [] [xO h u ab be (Rf 0) (Rf 1) (Rf 2), (u 0, .inr (4, [.ref (s 0), .ref (s 1), .ref (s 3), .ref (s 5), .ref (s 7)])), cO (s 0) q (A 21) (A 5) (A 6) (A 7) (A 8) (A 0), (q 0, ia Z 12 (ni K)), (q 1, ia Z 12 (ni P)), (q 2, ia Z 6 (ni kd)), (q 3, ia Z 6 (ni am)), (q 4, ia Z 6 (ni st)), (q 5, ia Z 6 (ni rg)), cO (u 3) qt (A 21) (A 5) (A 6) (A 7) (A 8) (A 0), (qt 0, ia Z 12 (ni K)), (qt 1, ia Z 12 (ni P)), (qt 2, ia Z 6 (ni kd)), (qt 3, ia Z 6 (ni am)), (qt 4, ia Z 6 (ni st)), (qt 5, ia Z 6 (ni rg))] 0 0
    refine j_iconst hJ (q := 28) dX8_takes_27 rfl ki_1 ?_
    refine j_istore_n hJ (q := 29) (lvs' := [(2, .int (nI 1)), (0, .ref h), (1, .int (nI (nt a)))]) dX8_takes_28 rfl (by decide) rfl rfl ?_
    have L_29 : ∀ (fu_29 : Nat) (B : Nat → Nat) (rb : Nat → Nat) (m : Nat), 61 - m < fu_29 → (1 ≤ m ∧ m ≤ 61) → (tks (nt a) (61 - m) m B = tks (nt a) 60 1 A) → (B 8 + (61 - m) < 90000) → (wf B) → (rR B K P kd am st rb) → J 29 [(0, .ref h), (1, .int (nI (nt a))), (2, .int (nI m))] [] [xO h u ab be (Rf 0) (Rf 1) (Rf 2), (u 0, .inr (4, [.ref (s 0), .ref (s 1), .ref (s 3), .ref (s 5), .ref (s 7)])), cO (s 0) q (A 21) (A 5) (A 6) (A 7) (A 8) (A 0), (q 0, ia Z 12 (ni K)), (q 1, ia Z 12 (ni P)), (q 2, ia Z 6 (ni kd)), (q 3, ia Z 6 (ni am)), (q 4, ia Z 6 (ni st)), (q 5, ia Z 6 (ni rg)), cO (u 3) qt (B 21) (B 5) (B 6) (B 7) (B 8) (B 0), (qt 0, ia Z 12 (ni K)), (qt 1, ia Z 12 (ni P)), (qt 2, ia Z 6 (ni kd)), (qt 3, ia Z 6 (ni am)), (qt 4, ia Z 6 (ni st)), (qt 5, ia Z 6 (ni rb))] 0 0 := by
      intro fu_29
      induction fu_29 with
      | zero => intro B rb m hm; exact absurd hm (Nat.not_lt_zero _)
      | succ fu_29 ih_29 =>
        intro B rb m hm_29 hk hB hBt hwB hRB
        obtain ⟨⟨b1, b2, b3, b4, b5, b6⟩, hbb, -⟩ := id hwB
        refine j_iload_n hJ (q := 30) dX8_takes_29 rfl 2 rfl rfl ?_
        refine j_bipush hJ (q := 32) dX8_takes_30 rfl kb_60 ?_
        refine jn_icmp_gt hJ (q := 35) (tgt := 54) dX8_takes_32 (by decide) rfl (by omega) (by omega) (fun c2 => ?_) (fun c2 => ?_)
        · skip
          refine j_iconst hJ (q := 55) dX8_takes_54 rfl ki_m1 ?_
          have hP0 : isR A a := by simp only [rgI, isS, isR, pNote, pMark, pFast, pLever, pHands, pSlip, pEven]; omega
          have hRo : (if isR A a then Rf else bmp Rf 0) = Rf := by rw [if_pos hP0]
          exact hE.1 _ _ _ _ _ _ _ rfl rfl dX8_takes_55 (Nat.le_refl _) (Nat.le_refl _) (⟨(B 21), (B 5), (B 6), (B 7), (B 8), (B 0), K, P, kd, am, st, rb, congrArg (fun z => some (Value.int (zI z))) (by simp only [z_takes, if_pos hP0]; rw [← hB, show 61 - m = 0 by omega]; rfl), by rw [hRo] <;> rfl⟩)
        · skip
          refine j_aload_n hJ (q := 36) dX8_takes_35 rfl 0 rfl rfl ?_
          refine j_get hJ (q := 39) jf_X8_37 dX8_takes_36 0 rfl rfl rfl ?_
          refine j_vW hJ (q := 42) (rest := []) (As := []) (wr := [xO h u ab be (Rf 0) (Rf 1) (Rf 2), (u 0, .inr (4, [.ref (s 0), .ref (s 1), .ref (s 3), .ref (s 5), .ref (s 7)])), cO (s 0) q (A 21) (A 5) (A 6) (A 7) (A 8) (A 0), (q 0, ia Z 12 (ni K)), (q 1, ia Z 12 (ni P)), (q 2, ia Z 6 (ni kd)), (q 3, ia Z 6 (ni am)), (q 4, ia Z 6 (ni st)), (q 5, ia Z 6 (ni rg))]) jl_X8_132 (c_X4_step Z (u 3) qt B K P kd am st rb hwB hRB (by omega)) 9 rfl rfl dX8_takes_39 rfl (by decide) (Nat.le_of_ble_eq_true rfl) [9, 10, 11, 12, 13, 14, 15] [0, 1, 2, 3, 4, 5, 6, 7, 8] rfl rfl rfl rfl (by decide) rfl (fun rv wv hp => ?_)
          obtain ⟨rz3, rfl, rfl, f4⟩ := hp
          show J 42 [(0, .ref h), (1, .int (nI (nt a))), (2, .int (nI m))] [.int (oI ((goT B false).1))] [xO h u ab be (Rf 0) (Rf 1) (Rf 2), (u 0, .inr (4, [.ref (s 0), .ref (s 1), .ref (s 3), .ref (s 5), .ref (s 7)])), cO (s 0) q (A 21) (A 5) (A 6) (A 7) (A 8) (A 0), (q 0, ia Z 12 (ni K)), (q 1, ia Z 12 (ni P)), (q 2, ia Z 6 (ni kd)), (q 3, ia Z 6 (ni am)), (q 4, ia Z 6 (ni st)), (q 5, ia Z 6 (ni rg)), cO (u 3) qt ((goT B false).2 21) ((goT B false).2 5) ((goT B false).2 6) ((goT B false).2 7) ((goT B false).2 8) ((goT B false).2 0), (qt 0, ia Z 12 (ni K)), (qt 1, ia Z 12 (ni P)), (qt 2, ia Z 6 (ni kd)), (qt 3, ia Z 6 (ni am)), (qt 4, ia Z 6 (ni st)), (qt 5, ia Z 6 (ni rz3))] 0 0
          refine j_caseo (fun o5 => ?_) (fun i6 o5 => ?_)
          · skip
            refine j_iload_n hJ (q := 43) dX8_takes_42 rfl 1 rfl rfl ?_
            refine jz_icmp_ne hJ (q := 46) (tgt := 48) dX8_takes_43 (by decide) rfl rfl (zI_nat (nt a)).symm (by omega) (by omega) (fun c7 => ?_) (fun c7 => ?_)
            · skip
              refine j_iinc hJ (q := 51) (lvs' := [(2, .int (nI (m + 1))), (0, .ref h), (1, .int (nI (nt a)))]) dX8_takes_48 2 rfl (by rw [show Int32.ofInt 1 = nI 1 from by decide +kernel]; exact nI_add _ _) (by decide) rfl rfl ?_
              refine j_goto hJ (q := 29) dX8_takes_51 (by decide) ?_
              refine j_locals hJ [1, 2, 0] rfl ?_
              exact ih_29 ((goT B false).2) rz3 (m + 1) (by omega) (by omega) (by rw [← hB, show 61 - m = (61 - (m + 1)) + 1 by omega]; simp only [tks]; rw [if_neg (by simp_all)]) (by rw [goT_8]; omega) (wf_goT false hwB (by omega)) (by assumption)
            · skip
              exfalso; omega
          · skip
            have hlt := goT_lt o5
            refine j_iload_n hJ (q := 43) dX8_takes_42 rfl 1 rfl rfl ?_
            refine jn_icmp_ne hJ (q := 46) (tgt := 48) dX8_takes_43 (by decide) rfl (by omega) (by omega) (fun c8 => ?_) (fun c8 => ?_)
            · skip
              refine j_iinc hJ (q := 51) (lvs' := [(2, .int (nI (m + 1))), (0, .ref h), (1, .int (nI (nt a)))]) dX8_takes_48 2 rfl (by rw [show Int32.ofInt 1 = nI 1 from by decide +kernel]; exact nI_add _ _) (by decide) rfl rfl ?_
              refine j_goto hJ (q := 29) dX8_takes_51 (by decide) ?_
              refine j_locals hJ [1, 2, 0] rfl ?_
              exact ih_29 ((goT B false).2) rz3 (m + 1) (by omega) (by omega) (by rw [← hB, show 61 - m = (61 - (m + 1)) + 1 by omega]; simp only [tks]; rw [if_neg (by simp_all)]) (by rw [goT_8]; omega) (wf_goT false hwB (by omega)) (by assumption)
            · skip
              refine j_iload_n hJ (q := 47) dX8_takes_46 rfl 2 rfl rfl ?_
              have hP0 : isR A a := by simp only [rgI, isS, isR, pNote, pMark, pFast, pLever, pHands, pSlip, pEven]; omega
              have hRo : (if isR A a then Rf else bmp Rf 0) = Rf := by rw [if_pos hP0]
              exact hE.1 _ _ _ _ _ _ _ rfl rfl dX8_takes_47 (Nat.le_refl _) (Nat.le_refl _) (⟨((goT B false).2 21), ((goT B false).2 5), ((goT B false).2 6), ((goT B false).2 7), ((goT B false).2 8), ((goT B false).2 0), K, P, kd, am, st, rz3, congrArg (fun z => some (Value.int z)) ((zI_nat _).symm.trans (congrArg zI (by simp only [z_takes, if_pos hP0]; rw [← hB, show 61 - m = (61 - (m + 1)) + 1 by omega]; simp only [tks]; rw [if_pos (by simp_all)]; rfl))), by rw [hRo] <;> rfl⟩)
    refine j_locals hJ [1, 2, 0] rfl ?_
    exact L_29 ((61 - 1) + 1) A rg 1 (Nat.lt_succ_self _) (by omega) rfl (by omega) hw hR
  · skip
    refine j_aload_n hJ (q := 9) dX8_takes_8 rfl 0 rfl rfl ?_
    refine j_vW hJ (q := 12) (rest := []) (As := []) (wr := [(u 0, .inr (4, [.ref (s 0), .ref (s 1), .ref (s 3), .ref (s 5), .ref (s 7)])), cO (s 0) q (A 21) (A 5) (A 6) (A 7) (A 8) (A 0), (q 0, ia Z 12 (ni K)), (q 1, ia Z 12 (ni P)), (q 2, ia Z 6 (ni kd)), (q 3, ia Z 6 (ni am)), (q 4, ia Z 6 (ni st)), (q 5, ia Z 6 (ni rg)), cO (u 3) qt t1 t2 t3 t4 t5 t6, (qt 0, ia Z 12 (ni Kt)), (qt 1, ia Z 12 (ni Pt)), (qt 2, ia Z 6 (ni kt)), (qt 3, ia Z 6 (ni mt)), (qt 4, ia Z 6 (ni stt)), (qt 5, ia Z 6 (ni gt))]) jl_X8_62 (c_X8_bad Z h u ab be Rf ) 0 rfl rfl dX8_takes_9 rfl (by decide) (Nat.le_of_ble_eq_true rfl) [0] [1, 2, 3, 4, 5, 6, 7, 8, 9, 10, 11, 12, 13, 14, 15] rfl rfl rfl rfl (by decide) rfl (fun rv wv hp => ?_)
    obtain ⟨rfl, rfl⟩ := hp
    refine j_world hJ (ws' := [xO h u ab be ((bmp Rf 0) 0) ((bmp Rf 0) 1) ((bmp Rf 0) 2), (u 0, .inr (4, [.ref (s 0), .ref (s 1), .ref (s 3), .ref (s 5), .ref (s 7)])), cO (s 0) q (A 21) (A 5) (A 6) (A 7) (A 8) (A 0), (q 0, ia Z 12 (ni K)), (q 1, ia Z 12 (ni P)), (q 2, ia Z 6 (ni kd)), (q 3, ia Z 6 (ni am)), (q 4, ia Z 6 (ni st)), (q 5, ia Z 6 (ni rg)), cO (u 3) qt t1 t2 t3 t4 t5 t6, (qt 0, ia Z 12 (ni Kt)), (qt 1, ia Z 12 (ni Pt)), (qt 2, ia Z 6 (ni kt)), (qt 3, ia Z 6 (ni mt)), (qt 4, ia Z 6 (ni stt)), (qt 5, ia Z 6 (ni gt))]) [15, 0, 1, 2, 3, 4, 5, 6, 7, 8, 9, 10, 11, 12, 13, 14] rfl rfl ?_
    show J 12 [(0, .ref h), (1, .int a)] [.int (zI (-2))] [xO h u ab be ((bmp Rf 0) 0) ((bmp Rf 0) 1) ((bmp Rf 0) 2), (u 0, .inr (4, [.ref (s 0), .ref (s 1), .ref (s 3), .ref (s 5), .ref (s 7)])), cO (s 0) q (A 21) (A 5) (A 6) (A 7) (A 8) (A 0), (q 0, ia Z 12 (ni K)), (q 1, ia Z 12 (ni P)), (q 2, ia Z 6 (ni kd)), (q 3, ia Z 6 (ni am)), (q 4, ia Z 6 (ni st)), (q 5, ia Z 6 (ni rg)), cO (u 3) qt t1 t2 t3 t4 t5 t6, (qt 0, ia Z 12 (ni Kt)), (qt 1, ia Z 12 (ni Pt)), (qt 2, ia Z 6 (ni kt)), (qt 3, ia Z 6 (ni mt)), (qt 4, ia Z 6 (ni stt)), (qt 5, ia Z 6 (ni gt))] 0 0
    have hP0 : ¬ (isR A a) := by simp only [rgI, isS, isR, pNote, pMark, pFast, pLever, pHands, pSlip, pEven]; omega
    have hRo : (if isR A a then Rf else bmp Rf 0) = bmp Rf 0 := by rw [if_neg hP0]
    exact hE.1 _ _ _ _ _ _ _ rfl rfl dX8_takes_12 (Nat.le_refl _) (Nat.le_refl _) (⟨t1, t2, t3, t4, t5, t6, Kt, Pt, kt, mt, stt, gt, congrArg (fun z => some (Value.int (zI z))) (by simp only [z_takes, if_neg hP0]), by rw [hRo] <;> rfl⟩)

set_option maxHeartbeats 4000000 in
set_option maxRecDepth 100000 in
theorem c_X8_again (Z : jZ) (h : Nat) (u : Nat → Nat) (ab : Int) (be : Int) (Rf : Nat → Nat) (s : Nat → Nat) (q : Nat → Nat) (A : Nat → Nat) (K : Nat → Nat) (P : Nat → Nat) (kd : Nat → Nat) (am : Nat → Nat) (st : Nat → Nat) (rg : Nat → Nat) (qt : Nat → Nat) (t1 : Nat) (t2 : Nat) (t3 : Nat) (t4 : Nat) (t5 : Nat) (t6 : Nat) (Kt : Nat → Nat) (Pt : Nat → Nat) (kt : Nat → Nat) (mt : Nat → Nat) (stt : Nat → Nat) (gt : Nat → Nat) (hg : wg A) (hR : rR A K P kd am st rg) : CT Z yX8_again cX8_again 2 ((some FieldType.int)) 6 0 0 [.ref h] [xO h u ab be (Rf 0) (Rf 1) (Rf 2), (u 0, .inr (4, [.ref (s 0), .ref (s 1), .ref (s 3), .ref (s 5), .ref (s 7)])), cO (s 0) q (A 21) (A 5) (A 6) (A 7) (A 8) (A 0), (q 0, ia Z 12 (ni K)), (q 1, ia Z 12 (ni P)), (q 2, ia Z 6 (ni kd)), (q 3, ia Z 6 (ni am)), (q 4, ia Z 6 (ni st)), (q 5, ia Z 6 (ni rg)), cO (u 3) qt t1 t2 t3 t4 t5 t6, (qt 0, ia Z 12 (ni Kt)), (qt 1, ia Z 12 (ni Pt)), (qt 2, ia Z 6 (ni kt)), (qt 3, ia Z 6 (ni mt)), (qt 4, ia Z 6 (ni stt)), (qt 5, ia Z 6 (ni gt))] (fun rr ww => ∃ y1 : Nat, ∃ y2 : Nat, ∃ y3 : Nat, ∃ y4 : Nat, ∃ y5 : Nat, ∃ y6 : Nat, ∃ Kx : Nat → Nat, ∃ Px : Nat → Nat, ∃ kx : Nat → Nat, ∃ mx : Nat → Nat, ∃ sx : Nat → Nat, ∃ gx : Nat → Nat, rr = some (.int (zI (z_again A))) ∧ ww = [xO h u ab be (Rf 0) (Rf 1) (Rf 2), (u 0, .inr (4, [.ref (s 0), .ref (s 1), .ref (s 3), .ref (s 5), .ref (s 7)])), cO (s 0) q (A 21) (A 5) (A 6) (A 7) (A 8) (A 0), (q 0, ia Z 12 (ni K)), (q 1, ia Z 12 (ni P)), (q 2, ia Z 6 (ni kd)), (q 3, ia Z 6 (ni am)), (q 4, ia Z 6 (ni st)), (q 5, ia Z 6 (ni rg)), cO (u 3) qt y1 y2 y3 y4 y5 y6, (qt 0, ia Z 12 (ni Kx)), (qt 1, ia Z 12 (ni Px)), (qt 2, ia Z 6 (ni kx)), (qt 3, ia Z 6 (ni mx)), (qt 4, ia Z 6 (ni sx)), (qt 5, ia Z 6 (ni gx))]) := by
  refine CT.of RX8 false rfl (fun h => by cases h) (by decide +kernel) (Nat.le_of_ble_eq_true rfl) ?_
  intro J hJ hE
  show J 0 [(0, .ref h)] [] [xO h u ab be (Rf 0) (Rf 1) (Rf 2), (u 0, .inr (4, [.ref (s 0), .ref (s 1), .ref (s 3), .ref (s 5), .ref (s 7)])), cO (s 0) q (A 21) (A 5) (A 6) (A 7) (A 8) (A 0), (q 0, ia Z 12 (ni K)), (q 1, ia Z 12 (ni P)), (q 2, ia Z 6 (ni kd)), (q 3, ia Z 6 (ni am)), (q 4, ia Z 6 (ni st)), (q 5, ia Z 6 (ni rg)), cO (u 3) qt t1 t2 t3 t4 t5 t6, (qt 0, ia Z 12 (ni Kt)), (qt 1, ia Z 12 (ni Pt)), (qt 2, ia Z 6 (ni kt)), (qt 3, ia Z 6 (ni mt)), (qt 4, ia Z 6 (ni stt)), (qt 5, ia Z 6 (ni gt))] 0 0
  obtain ⟨hw, ⟨g1, g2, g3, g4, g8⟩, hrs, hrn, hrm, hpst⟩ := id hg
  obtain ⟨⟨w1, w2, w3, w4, w5, w6⟩, hb, wr, wh, wd⟩ := id hw
  refine j_aload_n hJ (q := 1) dX8_again_0 rfl 0 rfl rfl ?_
  refine j_get hJ (q := 4) jf_X8_37 dX8_again_1 0 rfl rfl rfl ?_
  refine j_aload_n hJ (q := 5) dX8_again_4 rfl 0 rfl rfl ?_
  refine j_get hJ (q := 8) jf_X8_10 dX8_again_5 0 rfl rfl rfl ?_
  refine j_get hJ (q := 11) jf_X8_66 dX8_again_8 1 rfl rfl rfl ?_
  refine j_vW hJ (q := 14) (rest := []) (As := [.ref (s 0)]) (wr := [xO h u ab be (Rf 0) (Rf 1) (Rf 2), (u 0, .inr (4, [.ref (s 0), .ref (s 1), .ref (s 3), .ref (s 5), .ref (s 7)]))]) jl_X8_122 (c_X4_copyOf Z (u 3) qt t1 t2 t3 t4 t5 t6 Kt Pt kt mt stt gt (s 0) q A K P kd am st rg ) 9 rfl rfl dX8_again_11 rfl (by decide) (Nat.le_of_ble_eq_true rfl) [9, 10, 11, 12, 13, 14, 15, 2, 3, 4, 5, 6, 7, 8] [0, 1] rfl rfl rfl rfl (by decide) rfl (fun rv wv hp => ?_)
  obtain ⟨rfl, rfl⟩ := hp
  refine j_world hJ (ws' := [xO h u ab be (Rf 0) (Rf 1) (Rf 2), (u 0, .inr (4, [.ref (s 0), .ref (s 1), .ref (s 3), .ref (s 5), .ref (s 7)])), cO (s 0) q (A 21) (A 5) (A 6) (A 7) (A 8) (A 0), (q 0, ia Z 12 (ni K)), (q 1, ia Z 12 (ni P)), (q 2, ia Z 6 (ni kd)), (q 3, ia Z 6 (ni am)), (q 4, ia Z 6 (ni st)), (q 5, ia Z 6 (ni rg)), cO (u 3) qt (A 21) (A 5) (A 6) (A 7) (A 8) (A 0), (qt 0, ia Z 12 (ni K)), (qt 1, ia Z 12 (ni P)), (qt 2, ia Z 6 (ni kd)), (qt 3, ia Z 6 (ni am)), (qt 4, ia Z 6 (ni st)), (qt 5, ia Z 6 (ni rg))]) [0, 1, 9, 10, 11, 12, 13, 14, 15, 2, 3, 4, 5, 6, 7, 8] rfl rfl ?_
  show J 14 [(0, .ref h)] [] [xO h u ab be (Rf 0) (Rf 1) (Rf 2), (u 0, .inr (4, [.ref (s 0), .ref (s 1), .ref (s 3), .ref (s 5), .ref (s 7)])), cO (s 0) q (A 21) (A 5) (A 6) (A 7) (A 8) (A 0), (q 0, ia Z 12 (ni K)), (q 1, ia Z 12 (ni P)), (q 2, ia Z 6 (ni kd)), (q 3, ia Z 6 (ni am)), (q 4, ia Z 6 (ni st)), (q 5, ia Z 6 (ni rg)), cO (u 3) qt (A 21) (A 5) (A 6) (A 7) (A 8) (A 0), (qt 0, ia Z 12 (ni K)), (qt 1, ia Z 12 (ni P)), (qt 2, ia Z 6 (ni kd)), (qt 3, ia Z 6 (ni am)), (qt 4, ia Z 6 (ni st)), (qt 5, ia Z 6 (ni rg))] 0 0
  refine j_iconst hJ (q := 15) dX8_again_14 rfl ki_1 ?_
  refine j_istore_n hJ (q := 16) (lvs' := [(1, .int (nI 1)), (0, .ref h)]) dX8_again_15 rfl (by decide) rfl rfl ?_
  have L_16 : ∀ (fu_16 : Nat) (B : Nat → Nat) (rb : Nat → Nat) (m : Nat), 61 - m < fu_16 → (1 ≤ m ∧ m ≤ 61) → (agF A (61 - m) m B = agF A 60 1 A) → (B 8 + 1 = A 8 + m) → (B 0 = A 0) → (wf B) → (rR B K P kd am st rb) → J 16 [(0, .ref h), (1, .int (nI m))] [] [xO h u ab be (Rf 0) (Rf 1) (Rf 2), (u 0, .inr (4, [.ref (s 0), .ref (s 1), .ref (s 3), .ref (s 5), .ref (s 7)])), cO (s 0) q (A 21) (A 5) (A 6) (A 7) (A 8) (A 0), (q 0, ia Z 12 (ni K)), (q 1, ia Z 12 (ni P)), (q 2, ia Z 6 (ni kd)), (q 3, ia Z 6 (ni am)), (q 4, ia Z 6 (ni st)), (q 5, ia Z 6 (ni rg)), cO (u 3) qt (B 21) (B 5) (B 6) (B 7) (B 8) (B 0), (qt 0, ia Z 12 (ni K)), (qt 1, ia Z 12 (ni P)), (qt 2, ia Z 6 (ni kd)), (qt 3, ia Z 6 (ni am)), (qt 4, ia Z 6 (ni st)), (qt 5, ia Z 6 (ni rb))] 0 0 := by
    intro fu_16
    induction fu_16 with
    | zero => intro B rb m hm; exact absurd hm (Nat.not_lt_zero _)
    | succ fu_16 ih_16 =>
      intro B rb m hm_16 hk hB hBt hB0 hwB hRB
      obtain ⟨⟨b1, b2, b3, b4, b5, b6⟩, hbb, -⟩ := id hwB
      refine j_iload_n hJ (q := 17) dX8_again_16 rfl 1 rfl rfl ?_
      refine j_bipush hJ (q := 19) dX8_again_17 rfl kb_60 ?_
      refine jn_icmp_gt hJ (q := 22) (tgt := 55) dX8_again_19 (by decide) rfl (by omega) (by omega) (fun c1 => ?_) (fun c1 => ?_)
      · skip
        refine j_iconst hJ (q := 56) dX8_again_55 rfl ki_m1 ?_
        exact hE.1 _ _ _ _ _ _ _ rfl rfl dX8_again_56 (Nat.le_refl _) (Nat.le_refl _) (⟨(B 21), (B 5), (B 6), (B 7), (B 8), (B 0), K, P, kd, am, st, rb, congrArg (fun z => some (Value.int (zI z))) (by unfold z_again; rw [← hB, show 61 - m = 0 by omega]; rfl), rfl⟩)
      · skip
        refine j_aload_n hJ (q := 23) dX8_again_22 rfl 0 rfl rfl ?_
        refine j_get hJ (q := 26) jf_X8_37 dX8_again_23 0 rfl rfl rfl ?_
        refine j_vW hJ (q := 29) (rest := []) (As := []) (wr := [xO h u ab be (Rf 0) (Rf 1) (Rf 2), (u 0, .inr (4, [.ref (s 0), .ref (s 1), .ref (s 3), .ref (s 5), .ref (s 7)])), cO (s 0) q (A 21) (A 5) (A 6) (A 7) (A 8) (A 0), (q 0, ia Z 12 (ni K)), (q 1, ia Z 12 (ni P)), (q 2, ia Z 6 (ni kd)), (q 3, ia Z 6 (ni am)), (q 4, ia Z 6 (ni st)), (q 5, ia Z 6 (ni rg))]) jl_X8_132 (c_X4_step Z (u 3) qt B K P kd am st rb hwB hRB (by omega)) 9 rfl rfl dX8_again_26 rfl (by decide) (Nat.le_of_ble_eq_true rfl) [9, 10, 11, 12, 13, 14, 15] [0, 1, 2, 3, 4, 5, 6, 7, 8] rfl rfl rfl rfl (by decide) rfl (fun rv wv hp => ?_)
        obtain ⟨rz2, rfl, rfl, f3⟩ := hp
        show J 29 [(0, .ref h), (1, .int (nI m))] [.int (oI ((goT B false).1))] [xO h u ab be (Rf 0) (Rf 1) (Rf 2), (u 0, .inr (4, [.ref (s 0), .ref (s 1), .ref (s 3), .ref (s 5), .ref (s 7)])), cO (s 0) q (A 21) (A 5) (A 6) (A 7) (A 8) (A 0), (q 0, ia Z 12 (ni K)), (q 1, ia Z 12 (ni P)), (q 2, ia Z 6 (ni kd)), (q 3, ia Z 6 (ni am)), (q 4, ia Z 6 (ni st)), (q 5, ia Z 6 (ni rg)), cO (u 3) qt ((goT B false).2 21) ((goT B false).2 5) ((goT B false).2 6) ((goT B false).2 7) ((goT B false).2 8) ((goT B false).2 0), (qt 0, ia Z 12 (ni K)), (qt 1, ia Z 12 (ni P)), (qt 2, ia Z 6 (ni kd)), (qt 3, ia Z 6 (ni am)), (qt 4, ia Z 6 (ni st)), (qt 5, ia Z 6 (ni rz2))] 0 0
        have hRC := f3
        have hwC := wf_goT false hwB (show B 8 + 1 < 100000 by omega)
        have hC0 : (goT B false).2 0 = A 0 := (goT_0 B false).trans hB0
        have hC8 := goT_8 B false
        refine j_pop hJ (q := 30) dX8_again_29 rfl rfl ?_
        refine j_aload_n hJ (q := 31) dX8_again_30 rfl 0 rfl rfl ?_
        refine j_get hJ (q := 34) jf_X8_37 dX8_again_31 0 rfl rfl rfl ?_
        refine j_aload_n hJ (q := 35) dX8_again_34 rfl 0 rfl rfl ?_
        refine j_get hJ (q := 38) jf_X8_10 dX8_again_35 0 rfl rfl rfl ?_
        refine j_get hJ (q := 41) jf_X8_66 dX8_again_38 1 rfl rfl rfl ?_
        refine j_vR hJ (q := 44) (rest := []) (As := [.ref (s 0)]) jl_X8_178 (c_X4_looksLike Z (u 3) qt ((goT B false).2) K P kd am st rz2 (s 0) q A K P kd am st rg hwC hRC hw hR hC0) 9 rfl rfl dX8_again_41 rfl (by decide) (Nat.le_of_ble_eq_true rfl) [9, 10, 11, 12, 13, 14, 15, 2, 3, 4, 5, 6, 7, 8] rfl rfl (fun rv hp => ?_)
        obtain rfl := hp
        show J 44 [(0, .ref h), (1, .int (nI m))] [.int (bI (decide (((goT B false).2) 5 = A 5 ∧ ((goT B false).2) 8 % 8 = A 8 % 8) && rgN A ((goT B false).2) (((goT B false).2) 0)))] [xO h u ab be (Rf 0) (Rf 1) (Rf 2), (u 0, .inr (4, [.ref (s 0), .ref (s 1), .ref (s 3), .ref (s 5), .ref (s 7)])), cO (s 0) q (A 21) (A 5) (A 6) (A 7) (A 8) (A 0), (q 0, ia Z 12 (ni K)), (q 1, ia Z 12 (ni P)), (q 2, ia Z 6 (ni kd)), (q 3, ia Z 6 (ni am)), (q 4, ia Z 6 (ni st)), (q 5, ia Z 6 (ni rg)), cO (u 3) qt ((goT B false).2 21) ((goT B false).2 5) ((goT B false).2 6) ((goT B false).2 7) ((goT B false).2 8) ((goT B false).2 0), (qt 0, ia Z 12 (ni K)), (qt 1, ia Z 12 (ni P)), (qt 2, ia Z 6 (ni kd)), (qt 3, ia Z 6 (ni am)), (qt 4, ia Z 6 (ni st)), (qt 5, ia Z 6 (ni rz2))] 0 0
        have hAg : agT A (goT B false).2 m = (decide ((goT B false).2 5 = A 5 ∧ (goT B false).2 8 % 8 = A 8 % 8) && rgN A (goT B false).2 ((goT B false).2 0)) := by unfold agT; rw [hC0]; congr 1; apply decide_eq_decide.mpr; rw [hC8]; omega
        refine jb_if_eq hJ (q := 47) (tgt := 49) dX8_again_44 (by decide) rfl (fun c4 => ?_) (fun c4 => ?_)
        · skip
          refine j_iinc hJ (q := 52) (lvs' := [(1, .int (nI (m + 1))), (0, .ref h)]) dX8_again_49 1 rfl (by rw [show Int32.ofInt 1 = nI 1 from by decide +kernel]; exact nI_add _ _) (by decide) rfl rfl ?_
          refine j_goto hJ (q := 16) dX8_again_52 (by decide) ?_
          refine j_locals hJ [1, 0] rfl ?_
          exact ih_16 ((goT B false).2) rz2 (m + 1) (by omega) (by omega) (by rw [← hB, show 61 - m = (61 - (m + 1)) + 1 by omega]; simp only [agF]; rw [if_neg (by rw [hAg]; simp_all)]) (by rw [hC8]; omega) hC0 hwC (by assumption)
        · skip
          refine j_iload_n hJ (q := 48) dX8_again_47 rfl 1 rfl rfl ?_
          exact hE.1 _ _ _ _ _ _ _ rfl rfl dX8_again_48 (Nat.le_refl _) (Nat.le_refl _) (⟨((goT B false).2 21), ((goT B false).2 5), ((goT B false).2 6), ((goT B false).2 7), ((goT B false).2 8), ((goT B false).2 0), K, P, kd, am, st, rz2, congrArg (fun z => some (Value.int z)) ((zI_nat _).symm.trans (congrArg zI (by unfold z_again; rw [← hB, show 61 - m = (61 - (m + 1)) + 1 by omega]; simp only [agF]; rw [if_pos (hAg.trans (by assumption))]; rfl))), rfl⟩)
  refine j_locals hJ [1, 0] rfl ?_
  exact L_16 ((61 - 1) + 1) A rg 1 (Nat.lt_succ_self _) (by omega) rfl (by omega) rfl hw hR

set_option maxHeartbeats 4000000 in
set_option maxRecDepth 100000 in
theorem c_X8_evenings (Z : jZ) (h : Nat) (u : Nat → Nat) (ab : Int) (be : Int) (Rf : Nat → Nat) (s : Nat → Nat) (q : Nat → Nat) (A : Nat → Nat) (K : Nat → Nat) (P : Nat → Nat) (kd : Nat → Nat) (am : Nat → Nat) (st : Nat → Nat) (rg : Nat → Nat) (qt : Nat → Nat) (t1 : Nat) (t2 : Nat) (t3 : Nat) (t4 : Nat) (t5 : Nat) (t6 : Nat) (Kt : Nat → Nat) (Pt : Nat → Nat) (kt : Nat → Nat) (mt : Nat → Nat) (stt : Nat → Nat) (gt : Nat → Nat) (a : Int32) (b : Int32) (hg : wg A) (hR : rR A K P kd am st rg) : CT Z yX8_evenings cX8_evenings 7 ((some FieldType.int)) 6 0 0 [.ref h, .int a, .int b] [xO h u ab be (Rf 0) (Rf 1) (Rf 2), (u 0, .inr (4, [.ref (s 0), .ref (s 1), .ref (s 3), .ref (s 5), .ref (s 7)])), cO (s 0) q (A 21) (A 5) (A 6) (A 7) (A 8) (A 0), (q 0, ia Z 12 (ni K)), (q 1, ia Z 12 (ni P)), (q 2, ia Z 6 (ni kd)), (q 3, ia Z 6 (ni am)), (q 4, ia Z 6 (ni st)), (q 5, ia Z 6 (ni rg)), cO (u 3) qt t1 t2 t3 t4 t5 t6, (qt 0, ia Z 12 (ni Kt)), (qt 1, ia Z 12 (ni Pt)), (qt 2, ia Z 6 (ni kt)), (qt 3, ia Z 6 (ni mt)), (qt 4, ia Z 6 (ni stt)), (qt 5, ia Z 6 (ni gt))] (fun rr ww => ∃ y1 : Nat, ∃ y2 : Nat, ∃ y3 : Nat, ∃ y4 : Nat, ∃ y5 : Nat, ∃ y6 : Nat, ∃ Kx : Nat → Nat, ∃ Px : Nat → Nat, ∃ kx : Nat → Nat, ∃ mx : Nat → Nat, ∃ sx : Nat → Nat, ∃ gx : Nat → Nat, rr = some (.int (zI (z_even A a b))) ∧ ww = [xO h u ab be ((if pEven a b then Rf else bmp Rf 0) 0) ((if pEven a b then Rf else bmp Rf 0) 1) ((if pEven a b then Rf else bmp Rf 0) 2), (u 0, .inr (4, [.ref (s 0), .ref (s 1), .ref (s 3), .ref (s 5), .ref (s 7)])), cO (s 0) q (A 21) (A 5) (A 6) (A 7) (A 8) (A 0), (q 0, ia Z 12 (ni K)), (q 1, ia Z 12 (ni P)), (q 2, ia Z 6 (ni kd)), (q 3, ia Z 6 (ni am)), (q 4, ia Z 6 (ni st)), (q 5, ia Z 6 (ni rg)), cO (u 3) qt y1 y2 y3 y4 y5 y6, (qt 0, ia Z 12 (ni Kx)), (qt 1, ia Z 12 (ni Px)), (qt 2, ia Z 6 (ni kx)), (qt 3, ia Z 6 (ni mx)), (qt 4, ia Z 6 (ni sx)), (qt 5, ia Z 6 (ni gx))]) := by
  refine CT.of RX8 false rfl (fun h => by cases h) (by decide +kernel) (Nat.le_of_ble_eq_true rfl) ?_
  intro J hJ hE
  show J 0 [(0, .ref h), (1, .int a), (2, .int b)] [] [xO h u ab be (Rf 0) (Rf 1) (Rf 2), (u 0, .inr (4, [.ref (s 0), .ref (s 1), .ref (s 3), .ref (s 5), .ref (s 7)])), cO (s 0) q (A 21) (A 5) (A 6) (A 7) (A 8) (A 0), (q 0, ia Z 12 (ni K)), (q 1, ia Z 12 (ni P)), (q 2, ia Z 6 (ni kd)), (q 3, ia Z 6 (ni am)), (q 4, ia Z 6 (ni st)), (q 5, ia Z 6 (ni rg)), cO (u 3) qt t1 t2 t3 t4 t5 t6, (qt 0, ia Z 12 (ni Kt)), (qt 1, ia Z 12 (ni Pt)), (qt 2, ia Z 6 (ni kt)), (qt 3, ia Z 6 (ni mt)), (qt 4, ia Z 6 (ni stt)), (qt 5, ia Z 6 (ni gt))] 0 0
  obtain ⟨hw, ⟨g1, g2, g3, g4, g8⟩, hrs, hrn, hrm, hpst⟩ := id hg
  obtain ⟨⟨w1, w2, w3, w4, w5, w6⟩, hb, wr, wh, wd⟩ := id hw
  have hr_a := zI_rng a
  have hr_b := zI_rng b
  refine j_iload_n hJ (q := 1) dX8_evenings_0 rfl 1 rfl rfl ?_
  refine j_iconst hJ (q := 2) dX8_evenings_1 rfl ki_0 ?_
  refine j_ldc hJ (q := 4) (v' := nI 999999) dX8_evenings_2 tm_708 rfl rfl ?_
  refine j_sR hJ (q := 7) (rest := []) (As := [.int a, .int (zI 0), .int (zI 999999)]) jl_X8_58 (c_X8_within Z a 0 999999 (by omega) (by omega)) dX8_evenings_4 rfl (by decide) (Nat.le_of_ble_eq_true rfl) [] rfl rfl (fun rv hp => ?_)
  obtain rfl := hp
  show J 7 [(0, .ref h), (1, .int a), (2, .int b)] [.int (bI (decide (0 ≤ a.toInt ∧ a.toInt ≤ 999999)))] [xO h u ab be (Rf 0) (Rf 1) (Rf 2), (u 0, .inr (4, [.ref (s 0), .ref (s 1), .ref (s 3), .ref (s 5), .ref (s 7)])), cO (s 0) q (A 21) (A 5) (A 6) (A 7) (A 8) (A 0), (q 0, ia Z 12 (ni K)), (q 1, ia Z 12 (ni P)), (q 2, ia Z 6 (ni kd)), (q 3, ia Z 6 (ni am)), (q 4, ia Z 6 (ni st)), (q 5, ia Z 6 (ni rg)), cO (u 3) qt t1 t2 t3 t4 t5 t6, (qt 0, ia Z 12 (ni Kt)), (qt 1, ia Z 12 (ni Pt)), (qt 2, ia Z 6 (ni kt)), (qt 3, ia Z 6 (ni mt)), (qt 4, ia Z 6 (ni stt)), (qt 5, ia Z 6 (ni gt))] 0 0
  refine jp_if_eq hJ (q := 10) (tgt := 20) dX8_evenings_7 (by decide) rfl (fun c1 => ?_) (fun c1 => ?_)
  · skip
    refine j_aload_n hJ (q := 21) dX8_evenings_20 rfl 0 rfl rfl ?_
    refine j_vW hJ (q := 24) (rest := []) (As := []) (wr := [(u 0, .inr (4, [.ref (s 0), .ref (s 1), .ref (s 3), .ref (s 5), .ref (s 7)])), cO (s 0) q (A 21) (A 5) (A 6) (A 7) (A 8) (A 0), (q 0, ia Z 12 (ni K)), (q 1, ia Z 12 (ni P)), (q 2, ia Z 6 (ni kd)), (q 3, ia Z 6 (ni am)), (q 4, ia Z 6 (ni st)), (q 5, ia Z 6 (ni rg)), cO (u 3) qt t1 t2 t3 t4 t5 t6, (qt 0, ia Z 12 (ni Kt)), (qt 1, ia Z 12 (ni Pt)), (qt 2, ia Z 6 (ni kt)), (qt 3, ia Z 6 (ni mt)), (qt 4, ia Z 6 (ni stt)), (qt 5, ia Z 6 (ni gt))]) jl_X8_62 (c_X8_bad Z h u ab be Rf ) 0 rfl rfl dX8_evenings_21 rfl (by decide) (Nat.le_of_ble_eq_true rfl) [0] [1, 2, 3, 4, 5, 6, 7, 8, 9, 10, 11, 12, 13, 14, 15] rfl rfl rfl rfl (by decide) rfl (fun rv wv hp => ?_)
    obtain ⟨rfl, rfl⟩ := hp
    refine j_world hJ (ws' := [xO h u ab be ((bmp Rf 0) 0) ((bmp Rf 0) 1) ((bmp Rf 0) 2), (u 0, .inr (4, [.ref (s 0), .ref (s 1), .ref (s 3), .ref (s 5), .ref (s 7)])), cO (s 0) q (A 21) (A 5) (A 6) (A 7) (A 8) (A 0), (q 0, ia Z 12 (ni K)), (q 1, ia Z 12 (ni P)), (q 2, ia Z 6 (ni kd)), (q 3, ia Z 6 (ni am)), (q 4, ia Z 6 (ni st)), (q 5, ia Z 6 (ni rg)), cO (u 3) qt t1 t2 t3 t4 t5 t6, (qt 0, ia Z 12 (ni Kt)), (qt 1, ia Z 12 (ni Pt)), (qt 2, ia Z 6 (ni kt)), (qt 3, ia Z 6 (ni mt)), (qt 4, ia Z 6 (ni stt)), (qt 5, ia Z 6 (ni gt))]) [15, 0, 1, 2, 3, 4, 5, 6, 7, 8, 9, 10, 11, 12, 13, 14] rfl rfl ?_
    show J 24 [(0, .ref h), (1, .int a), (2, .int b)] [.int (zI (-2))] [xO h u ab be ((bmp Rf 0) 0) ((bmp Rf 0) 1) ((bmp Rf 0) 2), (u 0, .inr (4, [.ref (s 0), .ref (s 1), .ref (s 3), .ref (s 5), .ref (s 7)])), cO (s 0) q (A 21) (A 5) (A 6) (A 7) (A 8) (A 0), (q 0, ia Z 12 (ni K)), (q 1, ia Z 12 (ni P)), (q 2, ia Z 6 (ni kd)), (q 3, ia Z 6 (ni am)), (q 4, ia Z 6 (ni st)), (q 5, ia Z 6 (ni rg)), cO (u 3) qt t1 t2 t3 t4 t5 t6, (qt 0, ia Z 12 (ni Kt)), (qt 1, ia Z 12 (ni Pt)), (qt 2, ia Z 6 (ni kt)), (qt 3, ia Z 6 (ni mt)), (qt 4, ia Z 6 (ni stt)), (qt 5, ia Z 6 (ni gt))] 0 0
    have hP0 : ¬ pEven a b := by simp only [rgI, isS, isR, pNote, pMark, pFast, pLever, pHands, pSlip, pEven]; omega
    exact hE.1 _ _ _ _ _ _ _ rfl rfl dX8_evenings_24 (Nat.le_refl _) (Nat.le_refl _) (⟨t1, t2, t3, t4, t5, t6, Kt, Pt, kt, mt, stt, gt, congrArg (fun z => some (Value.int (zI z))) (by simp only [z_even, if_neg hP0]), by rw [if_neg hP0] <;> rfl⟩)
  · skip
    refine j_iload_n hJ (q := 11) dX8_evenings_10 rfl 2 rfl rfl ?_
    refine j_iconst hJ (q := 12) dX8_evenings_11 rfl ki_0 ?_
    refine j_bipush hJ (q := 14) dX8_evenings_12 rfl kb_60 ?_
    refine j_sR hJ (q := 17) (rest := []) (As := [.int b, .int (zI 0), .int (zI 60)]) jl_X8_58 (c_X8_within Z b 0 60 (by omega) (by omega)) dX8_evenings_14 rfl (by decide) (Nat.le_of_ble_eq_true rfl) [] rfl rfl (fun rv hp => ?_)
    obtain rfl := hp
    show J 17 [(0, .ref h), (1, .int a), (2, .int b)] [.int (bI (decide (0 ≤ b.toInt ∧ b.toInt ≤ 60)))] [xO h u ab be (Rf 0) (Rf 1) (Rf 2), (u 0, .inr (4, [.ref (s 0), .ref (s 1), .ref (s 3), .ref (s 5), .ref (s 7)])), cO (s 0) q (A 21) (A 5) (A 6) (A 7) (A 8) (A 0), (q 0, ia Z 12 (ni K)), (q 1, ia Z 12 (ni P)), (q 2, ia Z 6 (ni kd)), (q 3, ia Z 6 (ni am)), (q 4, ia Z 6 (ni st)), (q 5, ia Z 6 (ni rg)), cO (u 3) qt t1 t2 t3 t4 t5 t6, (qt 0, ia Z 12 (ni Kt)), (qt 1, ia Z 12 (ni Pt)), (qt 2, ia Z 6 (ni kt)), (qt 3, ia Z 6 (ni mt)), (qt 4, ia Z 6 (ni stt)), (qt 5, ia Z 6 (ni gt))] 0 0
    refine jp_if_ne hJ (q := 20) (tgt := 25) dX8_evenings_17 (by decide) rfl (fun c2 => ?_) (fun c2 => ?_)
    · skip
      have hn_a := nt_cast (x := a) (by omega)
      refine j_eql (lvs' := [(0, .ref h), (1, .int (nI (nt a))), (2, .int b)]) (by rw [← nt_eq (x := a) (by omega)]) ?_
      have hn_b := nt_cast (x := b) (by omega)
      refine j_eql (lvs' := [(0, .ref h), (1, .int (nI (nt a))), (2, .int (nI (nt b)))]) (by rw [← nt_eq (x := b) (by omega)]) ?_
      refine j_aload_n hJ (q := 26) dX8_evenings_25 rfl 0 rfl rfl ?_
      refine j_get hJ (q := 29) jf_X8_37 dX8_evenings_26 0 rfl rfl rfl ?_
      refine j_aload_n hJ (q := 30) dX8_evenings_29 rfl 0 rfl rfl ?_
      refine j_get hJ (q := 33) jf_X8_10 dX8_evenings_30 0 rfl rfl rfl ?_
      refine j_get hJ (q := 36) jf_X8_66 dX8_evenings_33 1 rfl rfl rfl ?_
      refine j_vW hJ (q := 39) (rest := []) (As := [.ref (s 0)]) (wr := [xO h u ab be (Rf 0) (Rf 1) (Rf 2), (u 0, .inr (4, [.ref (s 0), .ref (s 1), .ref (s 3), .ref (s 5), .ref (s 7)]))]) jl_X8_122 (c_X4_copyOf Z (u 3) qt t1 t2 t3 t4 t5 t6 Kt Pt kt mt stt gt (s 0) q A K P kd am st rg ) 9 rfl rfl dX8_evenings_36 rfl (by decide) (Nat.le_of_ble_eq_true rfl) [9, 10, 11, 12, 13, 14, 15, 2, 3, 4, 5, 6, 7, 8] [0, 1] rfl rfl rfl rfl (by decide) rfl (fun rv wv hp => ?_)
      obtain ⟨rfl, rfl⟩ := hp
      refine j_world hJ (ws' := [xO h u ab be (Rf 0) (Rf 1) (Rf 2), (u 0, .inr (4, [.ref (s 0), .ref (s 1), .ref (s 3), .ref (s 5), .ref (s 7)])), cO (s 0) q (A 21) (A 5) (A 6) (A 7) (A 8) (A 0), (q 0, ia Z 12 (ni K)), (q 1, ia Z 12 (ni P)), (q 2, ia Z 6 (ni kd)), (q 3, ia Z 6 (ni am)), (q 4, ia Z 6 (ni st)), (q 5, ia Z 6 (ni rg)), cO (u 3) qt (A 21) (A 5) (A 6) (A 7) (A 8) (A 0), (qt 0, ia Z 12 (ni K)), (qt 1, ia Z 12 (ni P)), (qt 2, ia Z 6 (ni kd)), (qt 3, ia Z 6 (ni am)), (qt 4, ia Z 6 (ni st)), (qt 5, ia Z 6 (ni rg))]) [0, 1, 9, 10, 11, 12, 13, 14, 15, 2, 3, 4, 5, 6, 7, 8] rfl rfl ?_
      show J 39 [(0, .ref h), (1, .int (nI (nt a))), (2, .int (nI (nt b)))] [] [xO h u ab be (Rf 0) (Rf 1) (Rf 2), (u 0, .inr (4, [.ref (s 0), .ref (s 1), .ref (s 3), .ref (s 5), .ref (s 7)])), cO (s 0) q (A 21) (A 5) (A 6) (A 7) (A 8) (A 0), (q 0, ia Z 12 (ni K)), (q 1, ia Z 12 (ni P)), (q 2, ia Z 6 (ni kd)), (q 3, ia Z 6 (ni am)), (q 4, ia Z 6 (ni st)), (q 5, ia Z 6 (ni rg)), cO (u 3) qt (A 21) (A 5) (A 6) (A 7) (A 8) (A 0), (qt 0, ia Z 12 (ni K)), (qt 1, ia Z 12 (ni P)), (qt 2, ia Z 6 (ni kd)), (qt 3, ia Z 6 (ni am)), (qt 4, ia Z 6 (ni st)), (qt 5, ia Z 6 (ni rg))] 0 0
      refine j_iload_n hJ (q := 40) dX8_evenings_39 rfl 1 rfl rfl ?_
      refine j_i2l hJ (q := 41) dX8_evenings_40 rfl (zL_i _ (zI_nat (nt a)).symm (by omega)) ?_
      refine j_lstore_n hJ (q := 42) (lvs' := [(3, .long (zL ((nt a) : Int))), (0, .ref h), (1, .int (nI (nt a))), (2, .int (nI (nt b)))]) dX8_evenings_41 rfl (by decide) rfl rfl ?_
      refine j_iconst hJ (q := 43) dX8_evenings_42 rfl ki_0 ?_
      refine j_istore hJ (q := 45) (lvs' := [(5, .int (nI 0)), (3, .long (zL ((nt a) : Int))), (0, .ref h), (1, .int (nI (nt a))), (2, .int (nI (nt b)))]) dX8_evenings_43 (by decide) rfl rfl ?_
      refine j_iconst hJ (q := 46) dX8_evenings_45 rfl ki_0 ?_
      refine j_istore hJ (q := 48) (lvs' := [(6, .int (nI 0)), (5, .int (nI 0)), (3, .long (zL ((nt a) : Int))), (0, .ref h), (1, .int (nI (nt a))), (2, .int (nI (nt b)))]) dX8_evenings_46 (by decide) rfl rfl ?_
      have L_48 : ∀ (fu_48 : Nat) (B : Nat → Nat) (rb : Nat → Nat) (X : Int) (sm : Nat) (k : Nat), nt b - k < fu_48 → (k ≤ nt b) → (0 ≤ X ∧ X < 2147483648) → (sm + evF (nt b - k) X B = evF (nt b) (nt a : Int) A) → (wf B) → (rR B K P kd am st rb) → (B 8 + (nt b - k) < 90000) → J 48 [(0, .ref h), (1, .int (nI (nt a))), (2, .int (nI (nt b))), (3, .long (zL X)), (5, .int (nI sm)), (6, .int (nI k))] [] [xO h u ab be (Rf 0) (Rf 1) (Rf 2), (u 0, .inr (4, [.ref (s 0), .ref (s 1), .ref (s 3), .ref (s 5), .ref (s 7)])), cO (s 0) q (A 21) (A 5) (A 6) (A 7) (A 8) (A 0), (q 0, ia Z 12 (ni K)), (q 1, ia Z 12 (ni P)), (q 2, ia Z 6 (ni kd)), (q 3, ia Z 6 (ni am)), (q 4, ia Z 6 (ni st)), (q 5, ia Z 6 (ni rg)), cO (u 3) qt (B 21) (B 5) (B 6) (B 7) (B 8) (B 0), (qt 0, ia Z 12 (ni K)), (qt 1, ia Z 12 (ni P)), (qt 2, ia Z 6 (ni kd)), (qt 3, ia Z 6 (ni am)), (qt 4, ia Z 6 (ni st)), (qt 5, ia Z 6 (ni rb))] 0 0 := by
        intro fu_48
        induction fu_48 with
        | zero => intro B rb X sm k hm; exact absurd hm (Nat.not_lt_zero _)
        | succ fu_48 ih_48 =>
          intro B rb X sm k hm_48 hk hX hS hwB hRB hBt
          obtain ⟨⟨b1, b2, b3, b4, b5, b6⟩, hbb, -⟩ := id hwB
          refine j_iload hJ (q := 50) dX8_evenings_48 5 rfl rfl ?_
          refine j_iload_n hJ (q := 51) dX8_evenings_50 rfl 2 rfl rfl ?_
          refine jn_icmp_ge hJ (q := 54) (tgt := 105) dX8_evenings_51 (by decide) rfl (by omega) (by omega) (fun c3 => ?_) (fun c3 => ?_)
          · skip
            refine j_iload hJ (q := 107) dX8_evenings_105 4 rfl rfl ?_
            have hP0 : pEven a b := by simp only [rgI, isS, isR, pNote, pMark, pFast, pLever, pHands, pSlip, pEven]; omega
            exact hE.1 _ _ _ _ _ _ _ rfl rfl dX8_evenings_107 (Nat.le_refl _) (Nat.le_refl _) (⟨(B 21), (B 5), (B 6), (B 7), (B 8), (B 0), K, P, kd, am, st, rb, congrArg (fun z => some (Value.int z)) ((zI_nat _).symm.trans (congrArg zI (by simp only [z_even, if_pos hP0]; rw [← hS, show nt b - k = 0 by omega]; rfl))), by rw [if_pos hP0] <;> rfl⟩)
          · skip
            refine j_lload_n hJ (q := 55) dX8_evenings_54 rfl 3 rfl rfl ?_
            refine j_ldc2 hJ (q := 58) (v' := zL 1103515245) dX8_evenings_55 tm_709 rfl rfl ?_
            refine j_lmul hJ (q := 59) dX8_evenings_58 rfl (zL_mul _ _) ?_
            refine j_ldc2 hJ (q := 62) (v' := zL 12345) dX8_evenings_59 tm_710 rfl rfl ?_
            refine j_ladd hJ (q := 63) dX8_evenings_62 rfl (zL_add _ _) ?_
            refine j_ldc2 hJ (q := 66) (v' := zL 2147483648) dX8_evenings_63 tm_711 rfl rfl ?_
            refine j_lrem hJ (q := 67) dX8_evenings_66 rfl (zL_ne0 (by omega) (by omega)) (zL_rem (by omega) (by omega) (by omega)) ?_
            refine j_lstore_n hJ (q := 68) (lvs' := [(3, .long (zL ((X * 1103515245 + 12345) % 2147483648))), (0, .ref h), (1, .int (nI (nt a))), (2, .int (nI (nt b))), (5, .int (nI sm)), (6, .int (nI k))]) dX8_evenings_67 rfl (by decide) rfl rfl ?_
            refine j_aload_n hJ (q := 69) dX8_evenings_68 rfl 1 rfl rfl ?_
            refine j_get hJ (q := 72) jf_X8_37 dX8_evenings_69 0 rfl rfl rfl ?_
            refine j_lload_n hJ (q := 73) dX8_evenings_72 rfl 0 rfl rfl ?_
            refine j_ldc2 hJ (q := 76) (v' := zL 65536) dX8_evenings_73 tm_712 rfl rfl ?_
            refine j_ldiv hJ (q := 77) dX8_evenings_76 rfl (zL_ne0 (by omega) (by omega)) (zL_div (by omega) (by omega) (by omega)) ?_
            refine j_ldc2 hJ (q := 80) (v' := zL 4) dX8_evenings_77 tm_713 rfl rfl ?_
            refine j_lrem hJ (q := 81) dX8_evenings_80 rfl (zL_ne0 (by omega) (by omega)) (zL_rem (by omega) (by omega) (by omega)) ?_
            refine j_l2i hJ (q := 82) dX8_evenings_81 rfl (zI_l (by omega)) ?_
            have hsp : ((((X * 1103515245 + 12345) % 2147483648) / 65536) % 4) = ((evV X : Nat) : Int) := (Int.toNat_of_nonneg (show 0 ≤ ((((X * 1103515245 + 12345) % 2147483648) / 65536) % 4) by omega)).symm
            refine j_top (show zI ((((X * 1103515245 + 12345) % 2147483648) / 65536) % 4) = nI (evV X) from by rw [hsp, zI_nat]) ?_
            have hev : evV X ≤ 3 := by omega
            refine j_put hJ (q := 85) (ws' := [xO h u ab be (Rf 0) (Rf 1) (Rf 2), (u 0, .inr (4, [.ref (s 0), .ref (s 1), .ref (s 3), .ref (s 5), .ref (s 7)])), cO (s 0) q (A 21) (A 5) (A 6) (A 7) (A 8) (A 0), (q 0, ia Z 12 (ni K)), (q 1, ia Z 12 (ni P)), (q 2, ia Z 6 (ni kd)), (q 3, ia Z 6 (ni am)), (q 4, ia Z 6 (ni st)), (q 5, ia Z 6 (ni rg)), cO (u 3) qt (B 21) (B 5) (evV X) (B 7) (B 8) (B 0), (qt 0, ia Z 12 (ni K)), (qt 1, ia Z 12 (ni P)), (qt 2, ia Z 6 (ni kd)), (qt 3, ia Z 6 (ni am)), (qt 4, ia Z 6 (ni st)), (qt 5, ia Z 6 (ni rb))]) jp_X8_138 dX8_evenings_82 9 rfl rfl rfl (Nat.le_of_ble_eq_true rfl) rfl rfl ?_
            refine j_eqw (ws' := [xO h u ab be (Rf 0) (Rf 1) (Rf 2), (u 0, .inr (4, [.ref (s 0), .ref (s 1), .ref (s 3), .ref (s 5), .ref (s 7)])), cO (s 0) q (A 21) (A 5) (A 6) (A 7) (A 8) (A 0), (q 0, ia Z 12 (ni K)), (q 1, ia Z 12 (ni P)), (q 2, ia Z 6 (ni kd)), (q 3, ia Z 6 (ni am)), (q 4, ia Z 6 (ni st)), (q 5, ia Z 6 (ni rg)), cO (u 3) qt ((va_up B 6 (evV X)) 21) ((va_up B 6 (evV X)) 5) ((va_up B 6 (evV X)) 6) ((va_up B 6 (evV X)) 7) ((va_up B 6 (evV X)) 8) ((va_up B 6 (evV X)) 0), (qt 0, ia Z 12 (ni K)), (qt 1, ia Z 12 (ni P)), (qt 2, ia Z 6 (ni kd)), (qt 3, ia Z 6 (ni am)), (qt 4, ia Z 6 (ni st)), (qt 5, ia Z 6 (ni rb))]) rfl ?_
            refine j_aload_n hJ (q := 86) dX8_evenings_85 rfl 1 rfl rfl ?_
            refine j_get hJ (q := 89) jf_X8_37 dX8_evenings_86 0 rfl rfl rfl ?_
            refine j_vW hJ (q := 92) (rest := []) (As := []) (wr := [xO h u ab be (Rf 0) (Rf 1) (Rf 2), (u 0, .inr (4, [.ref (s 0), .ref (s 1), .ref (s 3), .ref (s 5), .ref (s 7)])), cO (s 0) q (A 21) (A 5) (A 6) (A 7) (A 8) (A 0), (q 0, ia Z 12 (ni K)), (q 1, ia Z 12 (ni P)), (q 2, ia Z 6 (ni kd)), (q 3, ia Z 6 (ni am)), (q 4, ia Z 6 (ni st)), (q 5, ia Z 6 (ni rg))]) jl_X8_132 (c_X4_step Z (u 3) qt (va_up B 6 (evV X)) K P kd am st rb (wf_speed hwB hev) (rR_speed hRB b6 b2) (by simp only [va_up]; rw [if_neg (by decide)]; omega)) 9 rfl rfl dX8_evenings_89 rfl (by decide) (Nat.le_of_ble_eq_true rfl) [9, 10, 11, 12, 13, 14, 15] [0, 1, 2, 3, 4, 5, 6, 7, 8] rfl rfl rfl rfl (by decide) rfl (fun rv wv hp => ?_)
            obtain ⟨rz4, rfl, rfl, f5⟩ := hp
            show J 92 [(3, .long (zL ((X * 1103515245 + 12345) % 2147483648))), (0, .ref h), (1, .int (nI (nt a))), (2, .int (nI (nt b))), (5, .int (nI sm)), (6, .int (nI k))] [.int (oI ((goT (va_up B 6 (evV X)) false).1))] [xO h u ab be (Rf 0) (Rf 1) (Rf 2), (u 0, .inr (4, [.ref (s 0), .ref (s 1), .ref (s 3), .ref (s 5), .ref (s 7)])), cO (s 0) q (A 21) (A 5) (A 6) (A 7) (A 8) (A 0), (q 0, ia Z 12 (ni K)), (q 1, ia Z 12 (ni P)), (q 2, ia Z 6 (ni kd)), (q 3, ia Z 6 (ni am)), (q 4, ia Z 6 (ni st)), (q 5, ia Z 6 (ni rg)), cO (u 3) qt ((goT (va_up B 6 (evV X)) false).2 21) ((goT (va_up B 6 (evV X)) false).2 5) ((goT (va_up B 6 (evV X)) false).2 6) ((goT (va_up B 6 (evV X)) false).2 7) ((goT (va_up B 6 (evV X)) false).2 8) ((goT (va_up B 6 (evV X)) false).2 0), (qt 0, ia Z 12 (ni K)), (qt 1, ia Z 12 (ni P)), (qt 2, ia Z 6 (ni kd)), (qt 3, ia Z 6 (ni am)), (qt 4, ia Z 6 (ni st)), (qt 5, ia Z 6 (ni rz4))] 0 0
            refine j_caseo (fun o6 => ?_) (fun i7 o6 => ?_)
            · skip
              refine j_iconst hJ (q := 93) dX8_evenings_92 rfl ki_m1 ?_
              refine jz_icmp_eq hJ (q := 96) (tgt := 99) dX8_evenings_93 (by decide) rfl rfl rfl (by omega) (by omega) (fun c8 => ?_) (fun c8 => ?_)
              · skip
                refine j_iinc hJ (q := 102) (lvs' := [(6, .int (nI (k + 1))), (3, .long (zL ((X * 1103515245 + 12345) % 2147483648))), (0, .ref h), (1, .int (nI (nt a))), (2, .int (nI (nt b))), (5, .int (nI sm))]) dX8_evenings_99 5 rfl (by rw [show Int32.ofInt 1 = nI 1 from by decide +kernel]; exact nI_add _ _) (by decide) rfl rfl ?_
                refine j_goto hJ (q := 48) dX8_evenings_102 (by decide) ?_
                refine j_locals hJ [2, 3, 4, 1, 5, 0] rfl ?_
                exact ih_48 ((goT (va_up B 6 (evV X)) false).2) rz4 ((X * 1103515245 + 12345) % 2147483648) sm (k + 1) (by omega) (by omega) (by omega) (by rw [← hS, show nt b - k = (nt b - (k + 1)) + 1 by omega]; simp only [evF, evX]; split <;> simp_all <;> omega) (wf_goT false (wf_speed hwB hev) (by simp only [va_up]; rw [if_neg (by decide)]; omega)) (by assumption) (by rw [goT_8]; simp only [va_up]; rw [if_neg (by decide)]; omega)
              · skip
                exfalso; omega
            · skip
              have hlt := goT_lt o6
              have hl7 : va_up B 6 (evV X) 0 = B 0 := by simp [va_up]
              refine j_iconst hJ (q := 93) dX8_evenings_92 rfl ki_m1 ?_
              refine jz_icmp_eq hJ (q := 96) (tgt := 99) dX8_evenings_93 (by decide) rfl (zI_nat i7).symm rfl (by omega) (by omega) (fun c9 => ?_) (fun c9 => ?_)
              · skip
                exfalso; omega
              · skip
                refine j_iinc hJ (q := 99) (lvs' := [(5, .int (nI (sm + 1))), (3, .long (zL ((X * 1103515245 + 12345) % 2147483648))), (0, .ref h), (1, .int (nI (nt a))), (2, .int (nI (nt b))), (6, .int (nI k))]) dX8_evenings_96 4 rfl (by rw [show Int32.ofInt 1 = nI 1 from by decide +kernel]; exact nI_add _ _) (by decide) rfl rfl ?_
                refine j_iinc hJ (q := 102) (lvs' := [(6, .int (nI (k + 1))), (5, .int (nI (sm + 1))), (3, .long (zL ((X * 1103515245 + 12345) % 2147483648))), (0, .ref h), (1, .int (nI (nt a))), (2, .int (nI (nt b)))]) dX8_evenings_99 5 rfl (by rw [show Int32.ofInt 1 = nI 1 from by decide +kernel]; exact nI_add _ _) (by decide) rfl rfl ?_
                refine j_goto hJ (q := 48) dX8_evenings_102 (by decide) ?_
                refine j_locals hJ [3, 4, 5, 2, 1, 0] rfl ?_
                exact ih_48 ((goT (va_up B 6 (evV X)) false).2) rz4 ((X * 1103515245 + 12345) % 2147483648) (sm + 1) (k + 1) (by omega) (by omega) (by omega) (by rw [← hS, show nt b - k = (nt b - (k + 1)) + 1 by omega]; simp only [evF, evX]; split <;> simp_all <;> omega) (wf_goT false (wf_speed hwB hev) (by simp only [va_up]; rw [if_neg (by decide)]; omega)) (by assumption) (by rw [goT_8]; simp only [va_up]; rw [if_neg (by decide)]; omega)
      refine j_locals hJ [3, 4, 5, 2, 1, 0] rfl ?_
      exact L_48 ((nt b - 0) + 1) A rg ((nt a) : Int) 0 0 (Nat.lt_succ_self _) (by omega) (by omega) (by rw [Nat.zero_add]; rfl) hw hR (by omega)
    · skip
      refine j_aload_n hJ (q := 21) dX8_evenings_20 rfl 0 rfl rfl ?_
      refine j_vW hJ (q := 24) (rest := []) (As := []) (wr := [(u 0, .inr (4, [.ref (s 0), .ref (s 1), .ref (s 3), .ref (s 5), .ref (s 7)])), cO (s 0) q (A 21) (A 5) (A 6) (A 7) (A 8) (A 0), (q 0, ia Z 12 (ni K)), (q 1, ia Z 12 (ni P)), (q 2, ia Z 6 (ni kd)), (q 3, ia Z 6 (ni am)), (q 4, ia Z 6 (ni st)), (q 5, ia Z 6 (ni rg)), cO (u 3) qt t1 t2 t3 t4 t5 t6, (qt 0, ia Z 12 (ni Kt)), (qt 1, ia Z 12 (ni Pt)), (qt 2, ia Z 6 (ni kt)), (qt 3, ia Z 6 (ni mt)), (qt 4, ia Z 6 (ni stt)), (qt 5, ia Z 6 (ni gt))]) jl_X8_62 (c_X8_bad Z h u ab be Rf ) 0 rfl rfl dX8_evenings_21 rfl (by decide) (Nat.le_of_ble_eq_true rfl) [0] [1, 2, 3, 4, 5, 6, 7, 8, 9, 10, 11, 12, 13, 14, 15] rfl rfl rfl rfl (by decide) rfl (fun rv wv hp => ?_)
      obtain ⟨rfl, rfl⟩ := hp
      refine j_world hJ (ws' := [xO h u ab be ((bmp Rf 0) 0) ((bmp Rf 0) 1) ((bmp Rf 0) 2), (u 0, .inr (4, [.ref (s 0), .ref (s 1), .ref (s 3), .ref (s 5), .ref (s 7)])), cO (s 0) q (A 21) (A 5) (A 6) (A 7) (A 8) (A 0), (q 0, ia Z 12 (ni K)), (q 1, ia Z 12 (ni P)), (q 2, ia Z 6 (ni kd)), (q 3, ia Z 6 (ni am)), (q 4, ia Z 6 (ni st)), (q 5, ia Z 6 (ni rg)), cO (u 3) qt t1 t2 t3 t4 t5 t6, (qt 0, ia Z 12 (ni Kt)), (qt 1, ia Z 12 (ni Pt)), (qt 2, ia Z 6 (ni kt)), (qt 3, ia Z 6 (ni mt)), (qt 4, ia Z 6 (ni stt)), (qt 5, ia Z 6 (ni gt))]) [15, 0, 1, 2, 3, 4, 5, 6, 7, 8, 9, 10, 11, 12, 13, 14] rfl rfl ?_
      show J 24 [(0, .ref h), (1, .int a), (2, .int b)] [.int (zI (-2))] [xO h u ab be ((bmp Rf 0) 0) ((bmp Rf 0) 1) ((bmp Rf 0) 2), (u 0, .inr (4, [.ref (s 0), .ref (s 1), .ref (s 3), .ref (s 5), .ref (s 7)])), cO (s 0) q (A 21) (A 5) (A 6) (A 7) (A 8) (A 0), (q 0, ia Z 12 (ni K)), (q 1, ia Z 12 (ni P)), (q 2, ia Z 6 (ni kd)), (q 3, ia Z 6 (ni am)), (q 4, ia Z 6 (ni st)), (q 5, ia Z 6 (ni rg)), cO (u 3) qt t1 t2 t3 t4 t5 t6, (qt 0, ia Z 12 (ni Kt)), (qt 1, ia Z 12 (ni Pt)), (qt 2, ia Z 6 (ni kt)), (qt 3, ia Z 6 (ni mt)), (qt 4, ia Z 6 (ni stt)), (qt 5, ia Z 6 (ni gt))] 0 0
      have hP0 : ¬ pEven a b := by simp only [rgI, isS, isR, pNote, pMark, pFast, pLever, pHands, pSlip, pEven]; omega
      exact hE.1 _ _ _ _ _ _ _ rfl rfl dX8_evenings_24 (Nat.le_refl _) (Nat.le_refl _) (⟨t1, t2, t3, t4, t5, t6, Kt, Pt, kt, mt, stt, gt, congrArg (fun z => some (Value.int (zI z))) (by simp only [z_even, if_neg hP0]), by rw [if_neg hP0] <;> rfl⟩)
