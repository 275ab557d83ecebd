set_option maxHeartbeats 4000000 in
set_option maxRecDepth 100000 in
theorem law_loop {Z : jZ} {J : JT} {b h h9 L0 : Nat} {u s q qt w q9 : Nat → Nat} {xs : Nat → Int32} (hJ : JLR Z J) (hS : JS J b L0 xs) (hL0 : L0 ≤ 3072) (hEnd : ∀ (pc : Nat) (lvs : List (Nat × Value)) (ws : va_W) (nc ns : Nat), decode cL_law pc = .ok (.ireturn, 1) → nc ≤ 600000 → ns ≤ 7302250 → J pc lvs [.int (nI 1)] ws nc ns) : ∀ (fu i nc ns : Nat), L0 + 6 - i < fu → i ≤ L0 + 6 → nc + 16 * fu ≤ 600000 ∧ ns + 297 * fu ≤ 7302250 → lwK Z J b h u s q qt w h9 q9 18 i nc ns := by
  intro fu
  induction fu with
  | zero => intro i nc ns hm; exact absurd hm (Nat.not_lt_zero _)
  | succ fu ih =>
    intro i nc ns hm hi0 hroom A K P kd am st rg Ro Sn Nt Mk ab be Rf L By tk fi be2 nb im Td t1 t2 t3 t4 t5 t6 Kt Pt kt mt stt gt lm li ln M R Fo T1 T2 fI ta tl tk9 va Kp Ik Hd Tl Ts An Vs F hg hA hL hby htl hik hkp him
    have hr : nc + 16 ≤ 600000 ∧ ns + 297 ≤ 7302250 := by omega
    show J 18 [(0, .ref b), (1, .ref h), (2, .ref h9), (3, .int (nI i))] [] ([xO h u ab be (Rf 0) (Rf 1) (Rf 2), (u 0, .inr (4, [.ref (s 0), .ref (s 1), .ref (s 3), .ref (s 5), .ref (s 7)])), cO (s 0) q (A 21) (A 5) (A 6) (A 7) (A 8) (A 0), (q 0, ia Z 12 (ni K)), (q 1, ia Z 12 (ni P)), (q 2, ia Z 6 (ni kd)), (q 3, ia Z 6 (ni am)), (q 4, ia Z 6 (ni st)), (q 5, ia Z 6 (ni rg)), (s 1, .inr (1, [.int (nI (A 4)), .ref (s 2)])), (s 2, ia Z 128 (ni Ro)), (s 3, .inr (3, [.int (nI (A 1)), .int (nI 4), .int (nI 5), .ref (s 4)])), (s 4, ia Z 30 (ni Sn)), (s 5, .inr (3, [.int (nI (A 2)), .int (nI 5), .int (nI 6), .ref (s 6)])), (s 6, ia Z 30 (ni Nt)), (s 7, .inr (3, [.int (nI (A 3)), .int (nI 5), .int (nI 6), .ref (s 8)])), (s 8, ia Z 30 (ni Mk)), (u 1, qa Z 2 fI), (u 2, .inr (5, [.int (nI L), .ref (u 8), .int (nI tk), .int (nI fi), .int (nI be2), .int nb, .int (nI im), .ref (u 9)])), (u 8, ba Z 150 (ni By)), (u 9, ia Z 3 Td), cO (u 3) qt t1 t2 t3 t4 t5 t6, (qt 0, ia Z 12 (ni Kt)), (qt 1, ia Z 12 (ni Pt)), (qt 2, ia Z 6 (ni kt)), (qt 3, ia Z 6 (ni mt)), (qt 4, ia Z 6 (ni stt)), (qt 5, ia Z 6 (ni gt)), (u 4, .inr (0, [.int (zI lm), .ref (w 0), .ref (w 1), .int (nI li), .int (nI ln)])), (w 0, ia Z 6 (ni M)), (w 1, ia Z 6 (ni R)), (u 5, ia Z 8 (ni Fo)), (u 6, ia Z 4 (ni T1)), (u 7, ia Z 4 (ni T2)), mO h9 q9 ab be L ta tl tk9 va, (q9 0, ia Z 266 (ni A)), (q9 1, ia Z 532 (ni Kp)), (q9 2, za Z 2 (ni Ik)), (q9 3, ia Z 3 (ni Rf)), (q9 4, ia Z 58 (ni Hd)), (q9 5, ia Z 8 (ni Tl)), (q9 6, ia Z 8 (ni Ts)), (q9 7, ia Z 150 (ni By)), (q9 8, ia Z 138 (ni An)), (q9 9, ia Z 3 (ni Vs))] ++ F) nc ns
    refine j_iload_n hJ (q := 19) dL_law_18 rfl 3 rfl rfl ?_
    refine j_aload_n hJ (q := 20) dL_law_19 rfl 0 rfl rfl ?_
    refine hS.2 20 21 _ _ _ _ _ dL_law_20 rfl ?_
    refine j_bipush hJ (q := 23) dL_law_21 rfl kb_6 ?_
    refine j_isub hJ (q := 24) dL_law_23 rfl (zI_sub (zI_nat L0).symm (zI_nat 6).symm) ?_
    refine jz_icmp_gt hJ (q := 27) (tgt := 1389) dL_law_24 (by decide) rfl (zI_nat i).symm rfl (by omega) (by omega) (fun c1 => ?_) (fun c1 => ?_)
    · skip
      refine j_iconst hJ (q := 1390) dL_law_1389 rfl ki_1 ?_
      exact hEnd _ _ _ _ _ dL_law_1390 (by omega) (by omega)
    · skip
      have hi : i + 6 ≤ L0 := by omega
      refine j_aload_n hJ (q := 28) dL_law_27 rfl 0 rfl rfl ?_
      refine j_iload_n hJ (q := 29) dL_law_28 rfl 3 rfl rfl ?_
      refine hS.1 29 30 _ _ _ _ _ (i) dL_law_29 (by omega) rfl ?_
      refine j_bipush hJ (q := 32) dL_law_30 rfl kb_63 ?_
      obtain ⟨y, e_y⟩ : ∃ z : Int32, xs (i) &&& nI 63 = z := ⟨_, rfl⟩
      refine j_iand hJ (q := 33) dL_law_32 rfl e_y ?_
      have hK1 : lwK Z J b h u s q qt w h9 q9 1383 i (nc + 16) (ns + 297) := by
        intro A K P kd am st rg Ro Sn Nt Mk ab be Rf L By tk fi be2 nb im Td t1 t2 t3 t4 t5 t6 Kt Pt kt mt stt gt lm li ln M R Fo T1 T2 fI ta tl tk9 va Kp Ik Hd Tl Ts An Vs F hg hA hL hby htl hik hkp him
        show J 1383 [(0, .ref b), (1, .ref h), (2, .ref h9), (3, .int (nI i))] [] ([xO h u ab be (Rf 0) (Rf 1) (Rf 2), (u 0, .inr (4, [.ref (s 0), .ref (s 1), .ref (s 3), .ref (s 5), .ref (s 7)])), cO (s 0) q (A 21) (A 5) (A 6) (A 7) (A 8) (A 0), (q 0, ia Z 12 (ni K)), (q 1, ia Z 12 (ni P)), (q 2, ia Z 6 (ni kd)), (q 3, ia Z 6 (ni am)), (q 4, ia Z 6 (ni st)), (q 5, ia Z 6 (ni rg)), (s 1, .inr (1, [.int (nI (A 4)), .ref (s 2)])), (s 2, ia Z 128 (ni Ro)), (s 3, .inr (3, [.int (nI (A 1)), .int (nI 4), .int (nI 5), .ref (s 4)])), (s 4, ia Z 30 (ni Sn)), (s 5, .inr (3, [.int (nI (A 2)), .int (nI 5), .int (nI 6), .ref (s 6)])), (s 6, ia Z 30 (ni Nt)), (s 7, .inr (3, [.int (nI (A 3)), .int (nI 5), .int (nI 6), .ref (s 8)])), (s 8, ia Z 30 (ni Mk)), (u 1, qa Z 2 fI), (u 2, .inr (5, [.int (nI L), .ref (u 8), .int (nI tk), .int (nI fi), .int (nI be2), .int nb, .int (nI im), .ref (u 9)])), (u 8, ba Z 150 (ni By)), (u 9, ia Z 3 Td), cO (u 3) qt t1 t2 t3 t4 t5 t6, (qt 0, ia Z 12 (ni Kt)), (qt 1, ia Z 12 (ni Pt)), (qt 2, ia Z 6 (ni kt)), (qt 3, ia Z 6 (ni mt)), (qt 4, ia Z 6 (ni stt)), (qt 5, ia Z 6 (ni gt)), (u 4, .inr (0, [.int (zI lm), .ref (w 0), .ref (w 1), .int (nI li), .int (nI ln)])), (w 0, ia Z 6 (ni M)), (w 1, ia Z 6 (ni R)), (u 5, ia Z 8 (ni Fo)), (u 6, ia Z 4 (ni T1)), (u 7, ia Z 4 (ni T2)), mO h9 q9 ab be L ta tl tk9 va, (q9 0, ia Z 266 (ni A)), (q9 1, ia Z 532 (ni Kp)), (q9 2, za Z 2 (ni Ik)), (q9 3, ia Z 3 (ni Rf)), (q9 4, ia Z 58 (ni Hd)), (q9 5, ia Z 8 (ni Tl)), (q9 6, ia Z 8 (ni Ts)), (q9 7, ia Z 150 (ni By)), (q9 8, ia Z 138 (ni An)), (q9 9, ia Z 3 (ni Vs))] ++ F) (nc + 16) (ns + 297)
        refine j_iinc hJ (q := 1386) (lvs' := [(3, .int (nI (i + 6))), (0, .ref b), (1, .ref h), (2, .ref h9)]) dL_law_1383 3 rfl (by rw [show Int32.ofInt 6 = nI 6 from by decide +kernel]; exact nI_add _ _) (by decide) rfl rfl ?_
        refine j_goto hJ (q := 18) dL_law_1386 (by decide) ?_
        refine j_locals hJ [1, 2, 3, 0] rfl ?_
        exact ih (i + 6) (nc + 16) (ns + 297) (by omega) (by omega) (by omega) A K P kd am st rg Ro Sn Nt Mk ab be Rf L By tk fi be2 nb im Td t1 t2 t3 t4 t5 t6 Kt Pt kt mt stt gt lm li ln M R Fo T1 T2 fI ta tl tk9 va Kp Ik Hd Tl Ts An Vs F hg hA hL hby htl hik hkp him
      have hy := zI_rng y
      rcases Classical.em (0 ≤ y.toInt ∧ y.toInt ≤ 38) with c2 | c2
      · skip
        rcases (show y.toInt < 13 ∨ (13 ≤ y.toInt ∧ y.toInt < 26) ∨ 26 ≤ y.toInt by omega) with c4 | c4 | c4
        · skip
          have c3 : y.toInt = 0 ∨ y.toInt = 1 ∨ y.toInt = 2 ∨ y.toInt = 3 ∨ y.toInt = 4 ∨ y.toInt = 5 ∨ y.toInt = 6 ∨ y.toInt = 7 ∨ y.toInt = 8 ∨ y.toInt = 9 ∨ y.toInt = 10 ∨ y.toInt = 11 ∨ y.toInt = 12 := by omega
          rcases c3 with c3 | c3 | c3 | c3 | c3 | c3 | c3 | c3 | c3 | c3 | c3 | c3 | c3
          · skip
            refine j_top (show y = nI 0 from (zI_of y).trans ((congrArg zI c3).trans (zI_nat 0))) ?_
            refine jn_tableIn hJ (q := 204) (off := 171) (k := 0) rfl dL_law_33 (by decide) (by decide) (by decide) (by decide) ?_
            exact lk_round hJ hS hi hL0 hr hK1 A K P kd am st rg Ro Sn Nt Mk ab be Rf L By tk fi be2 nb im Td t1 t2 t3 t4 t5 t6 Kt Pt kt mt stt gt lm li ln M R Fo T1 T2 fI ta tl tk9 va Kp Ik Hd Tl Ts An Vs F hg hA hL hby htl hik hkp him
          · skip
            refine j_top (show y = nI 1 from (zI_of y).trans ((congrArg zI c3).trans (zI_nat 1))) ?_
            refine jn_tableIn hJ (q := 237) (off := 204) (k := 1) rfl dL_law_33 (by decide) (by decide) (by decide) (by decide) ?_
            exact lk_horse hJ hS hi hL0 hr hK1 A K P kd am st rg Ro Sn Nt Mk ab be Rf L By tk fi be2 nb im Td t1 t2 t3 t4 t5 t6 Kt Pt kt mt stt gt lm li ln M R Fo T1 T2 fI ta tl tk9 va Kp Ik Hd Tl Ts An Vs F hg hA hL hby htl hik hkp him
          · skip
            refine j_top (show y = nI 2 from (zI_of y).trans ((congrArg zI c3).trans (zI_nat 2))) ?_
            refine jn_tableIn hJ (q := 280) (off := 247) (k := 2) rfl dL_law_33 (by decide) (by decide) (by decide) (by decide) ?_
            exact lk_rider hJ hS hi hL0 hr hK1 A K P kd am st rg Ro Sn Nt Mk ab be Rf L By tk fi be2 nb im Td t1 t2 t3 t4 t5 t6 Kt Pt kt mt stt gt lm li ln M R Fo T1 T2 fI ta tl tk9 va Kp Ik Hd Tl Ts An Vs F hg hA hL hby htl hik hkp him
          · skip
            refine j_top (show y = nI 3 from (zI_of y).trans ((congrArg zI c3).trans (zI_nat 3))) ?_
            refine jn_tableIn hJ (q := 323) (off := 290) (k := 3) rfl dL_law_33 (by decide) (by decide) (by decide) (by decide) ?_
            exact lk_type hJ hS hi hL0 hr hK1 A K P kd am st rg Ro Sn Nt Mk ab be Rf L By tk fi be2 nb im Td t1 t2 t3 t4 t5 t6 Kt Pt kt mt stt gt lm li ln M R Fo T1 T2 fI ta tl tk9 va Kp Ik Hd Tl Ts An Vs F hg hA hL hby htl hik hkp him
          · skip
            refine j_top (show y = nI 4 from (zI_of y).trans ((congrArg zI c3).trans (zI_nat 4))) ?_
            refine jn_tableIn hJ (q := 346) (off := 313) (k := 4) rfl dL_law_33 (by decide) (by decide) (by decide) (by decide) ?_
            exact lk_clear hJ hS hi hL0 hr hK1 A K P kd am st rg Ro Sn Nt Mk ab be Rf L By tk fi be2 nb im Td t1 t2 t3 t4 t5 t6 Kt Pt kt mt stt gt lm li ln M R Fo T1 T2 fI ta tl tk9 va Kp Ik Hd Tl Ts An Vs F hg hA hL hby htl hik hkp him
          · skip
            refine j_top (show y = nI 5 from (zI_of y).trans ((congrArg zI c3).trans (zI_nat 5))) ?_
            refine jn_tableIn hJ (q := 359) (off := 326) (k := 5) rfl dL_law_33 (by decide) (by decide) (by decide) (by decide) ?_
            exact lk_read hJ hS hi hL0 hr hK1 A K P kd am st rg Ro Sn Nt Mk ab be Rf L By tk fi be2 nb im Td t1 t2 t3 t4 t5 t6 Kt Pt kt mt stt gt lm li ln M R Fo T1 T2 fI ta tl tk9 va Kp Ik Hd Tl Ts An Vs F hg hA hL hby htl hik hkp him
          · skip
            refine j_top (show y = nI 6 from (zI_of y).trans ((congrArg zI c3).trans (zI_nat 6))) ?_
            refine jn_tableIn hJ (q := 372) (off := 339) (k := 6) rfl dL_law_33 (by decide) (by decide) (by decide) (by decide) ?_
            exact lk_ticks hJ hS hi hL0 hr hK1 A K P kd am st rg Ro Sn Nt Mk ab be Rf L By tk fi be2 nb im Td t1 t2 t3 t4 t5 t6 Kt Pt kt mt stt gt lm li ln M R Fo T1 T2 fI ta tl tk9 va Kp Ik Hd Tl Ts An Vs F hg hA hL hby htl hik hkp him
          · skip
            refine j_top (show y = nI 7 from (zI_of y).trans ((congrArg zI c3).trans (zI_nat 7))) ?_
            refine jn_tableIn hJ (q := 395) (off := 362) (k := 7) rfl dL_law_33 (by decide) (by decide) (by decide) (by decide) ?_
            exact lk_speed hJ hS hi hL0 hr hK1 A K P kd am st rg Ro Sn Nt Mk ab be Rf L By tk fi be2 nb im Td t1 t2 t3 t4 t5 t6 Kt Pt kt mt stt gt lm li ln M R Fo T1 T2 fI ta tl tk9 va Kp Ik Hd Tl Ts An Vs F hg hA hL hby htl hik hkp him
          · skip
            refine j_top (show y = nI 8 from (zI_of y).trans ((congrArg zI c3).trans (zI_nat 8))) ?_
            refine jn_tableIn hJ (q := 418) (off := 385) (k := 8) rfl dL_law_33 (by decide) (by decide) (by decide) (by decide) ?_
            exact lk_changes hJ hS hi hL0 hr hK1 A K P kd am st rg Ro Sn Nt Mk ab be Rf L By tk fi be2 nb im Td t1 t2 t3 t4 t5 t6 Kt Pt kt mt stt gt lm li ln M R Fo T1 T2 fI ta tl tk9 va Kp Ik Hd Tl Ts An Vs F hg hA hL hby htl hik hkp him
          · skip
            refine j_top (show y = nI 9 from (zI_of y).trans ((congrArg zI c3).trans (zI_nat 9))) ?_
            refine jn_tableIn hJ (q := 451) (off := 418) (k := 9) rfl dL_law_33 (by decide) (by decide) (by decide) (by decide) ?_
            exact lk_hangs hJ hS hi hL0 hr hK1 A K P kd am st rg Ro Sn Nt Mk ab be Rf L By tk fi be2 nb im Td t1 t2 t3 t4 t5 t6 Kt Pt kt mt stt gt lm li ln M R Fo T1 T2 fI ta tl tk9 va Kp Ik Hd Tl Ts An Vs F hg hA hL hby htl hik hkp him
          · skip
            refine j_top (show y = nI 10 from (zI_of y).trans ((congrArg zI c3).trans (zI_nat 10))) ?_
            refine jn_tableIn hJ (q := 474) (off := 441) (k := 10) rfl dL_law_33 (by decide) (by decide) (by decide) (by decide) ?_
            exact lk_undo hJ hS hi hL0 hr hK1 A K P kd am st rg Ro Sn Nt Mk ab be Rf L By tk fi be2 nb im Td t1 t2 t3 t4 t5 t6 Kt Pt kt mt stt gt lm li ln M R Fo T1 T2 fI ta tl tk9 va Kp Ik Hd Tl Ts An Vs F hg hA hL hby htl hik hkp him
          · skip
            refine j_top (show y = nI 11 from (zI_of y).trans ((congrArg zI c3).trans (zI_nat 11))) ?_
            refine jn_tableIn hJ (q := 487) (off := 454) (k := 11) rfl dL_law_33 (by decide) (by decide) (by decide) (by decide) ?_
            exact lk_of hJ hS hi hL0 hr hK1 A K P kd am st rg Ro Sn Nt Mk ab be Rf L By tk fi be2 nb im Td t1 t2 t3 t4 t5 t6 Kt Pt kt mt stt gt lm li ln M R Fo T1 T2 fI ta tl tk9 va Kp Ik Hd Tl Ts An Vs F hg hA hL hby htl hik hkp him
          · skip
            refine j_top (show y = nI 12 from (zI_of y).trans ((congrArg zI c3).trans (zI_nat 12))) ?_
            refine jn_tableIn hJ (q := 520) (off := 487) (k := 12) rfl dL_law_33 (by decide) (by decide) (by decide) (by decide) ?_
            exact lk_about hJ hS hi hL0 hr hK1 A K P kd am st rg Ro Sn Nt Mk ab be Rf L By tk fi be2 nb im Td t1 t2 t3 t4 t5 t6 Kt Pt kt mt stt gt lm li ln M R Fo T1 T2 fI ta tl tk9 va Kp Ik Hd Tl Ts An Vs F hg hA hL hby htl hik hkp him
        · skip
          have c3 : y.toInt = 13 ∨ y.toInt = 14 ∨ y.toInt = 15 ∨ y.toInt = 16 ∨ y.toInt = 17 ∨ y.toInt = 18 ∨ y.toInt = 19 ∨ y.toInt = 20 ∨ y.toInt = 21 ∨ y.toInt = 22 ∨ y.toInt = 23 ∨ y.toInt = 24 ∨ y.toInt = 25 := by omega
          rcases c3 with c3 | c3 | c3 | c3 | c3 | c3 | c3 | c3 | c3 | c3 | c3 | c3 | c3
          · skip
            refine j_top (show y = nI 13 from (zI_of y).trans ((congrArg zI c3).trans (zI_nat 13))) ?_
            refine jn_tableIn hJ (q := 553) (off := 520) (k := 13) rfl dL_law_33 (by decide) (by decide) (by decide) (by decide) ?_
            exact lk_where hJ hS hi hL0 hr hK1 A K P kd am st rg Ro Sn Nt Mk ab be Rf L By tk fi be2 nb im Td t1 t2 t3 t4 t5 t6 Kt Pt kt mt stt gt lm li ln M R Fo T1 T2 fI ta tl tk9 va Kp Ik Hd Tl Ts An Vs F hg hA hL hby htl hik hkp him
          · skip
            refine j_top (show y = nI 14 from (zI_of y).trans ((congrArg zI c3).trans (zI_nat 14))) ?_
            refine jn_tableIn hJ (q := 596) (off := 563) (k := 14) rfl dL_law_33 (by decide) (by decide) (by decide) (by decide) ?_
            exact lk_takes hJ hS hi hL0 hr hK1 A K P kd am st rg Ro Sn Nt Mk ab be Rf L By tk fi be2 nb im Td t1 t2 t3 t4 t5 t6 Kt Pt kt mt stt gt lm li ln M R Fo T1 T2 fI ta tl tk9 va Kp Ik Hd Tl Ts An Vs F hg hA hL hby htl hik hkp him
          · skip
            refine j_top (show y = nI 15 from (zI_of y).trans ((congrArg zI c3).trans (zI_nat 15))) ?_
            refine jn_tableIn hJ (q := 619) (off := 586) (k := 15) rfl dL_law_33 (by decide) (by decide) (by decide) (by decide) ?_
            exact lk_level hJ hS hi hL0 hr hK1 A K P kd am st rg Ro Sn Nt Mk ab be Rf L By tk fi be2 nb im Td t1 t2 t3 t4 t5 t6 Kt Pt kt mt stt gt lm li ln M R Fo T1 T2 fI ta tl tk9 va Kp Ik Hd Tl Ts An Vs F hg hA hL hby htl hik hkp him
          · skip
            refine j_top (show y = nI 16 from (zI_of y).trans ((congrArg zI c3).trans (zI_nat 16))) ?_
            refine jn_tableIn hJ (q := 642) (off := 609) (k := 16) rfl dL_law_33 (by decide) (by decide) (by decide) (by decide) ?_
            exact lk_again hJ hS hi hL0 hr hK1 A K P kd am st rg Ro Sn Nt Mk ab be Rf L By tk fi be2 nb im Td t1 t2 t3 t4 t5 t6 Kt Pt kt mt stt gt lm li ln M R Fo T1 T2 fI ta tl tk9 va Kp Ik Hd Tl Ts An Vs F hg hA hL hby htl hik hkp him
          · skip
            refine j_top (show y = nI 17 from (zI_of y).trans ((congrArg zI c3).trans (zI_nat 17))) ?_
            refine jn_tableIn hJ (q := 655) (off := 622) (k := 17) rfl dL_law_33 (by decide) (by decide) (by decide) (by decide) ?_
            exact lk_fast hJ hS hi hL0 hr hK1 A K P kd am st rg Ro Sn Nt Mk ab be Rf L By tk fi be2 nb im Td t1 t2 t3 t4 t5 t6 Kt Pt kt mt stt gt lm li ln M R Fo T1 T2 fI ta tl tk9 va Kp Ik Hd Tl Ts An Vs F hg hA hL hby htl hik hkp him
          · skip
            refine j_top (show y = nI 18 from (zI_of y).trans ((congrArg zI c3).trans (zI_nat 18))) ?_
            refine jn_tableIn hJ (q := 698) (off := 665) (k := 18) rfl dL_law_33 (by decide) (by decide) (by decide) (by decide) ?_
            exact lk_seat hJ hS hi hL0 hr hK1 A K P kd am st rg Ro Sn Nt Mk ab be Rf L By tk fi be2 nb im Td t1 t2 t3 t4 t5 t6 Kt Pt kt mt stt gt lm li ln M R Fo T1 T2 fI ta tl tk9 va Kp Ik Hd Tl Ts An Vs F hg hA hL hby htl hik hkp him
          · skip
            refine j_top (show y = nI 19 from (zI_of y).trans ((congrArg zI c3).trans (zI_nat 19))) ?_
            refine jn_tableIn hJ (q := 741) (off := 708) (k := 19) rfl dL_law_33 (by decide) (by decide) (by decide) (by decide) ?_
            exact lk_lever hJ hS hi hL0 hr hK1 A K P kd am st rg Ro Sn Nt Mk ab be Rf L By tk fi be2 nb im Td t1 t2 t3 t4 t5 t6 Kt Pt kt mt stt gt lm li ln M R Fo T1 T2 fI ta tl tk9 va Kp Ik Hd Tl Ts An Vs F hg hA hL hby htl hik hkp him
          · skip
            refine j_top (show y = nI 20 from (zI_of y).trans ((congrArg zI c3).trans (zI_nat 20))) ?_
            refine jn_tableIn hJ (q := 784) (off := 751) (k := 20) rfl dL_law_33 (by decide) (by decide) (by decide) (by decide) ?_
            exact lk_seen hJ hS hi hL0 hr hK1 A K P kd am st rg Ro Sn Nt Mk ab be Rf L By tk fi be2 nb im Td t1 t2 t3 t4 t5 t6 Kt Pt kt mt stt gt lm li ln M R Fo T1 T2 fI ta tl tk9 va Kp Ik Hd Tl Ts An Vs F hg hA hL hby htl hik hkp him
          · skip
            refine j_top (show y = nI 21 from (zI_of y).trans ((congrArg zI c3).trans (zI_nat 21))) ?_
            refine jn_tableIn hJ (q := 837) (off := 804) (k := 21) rfl dL_law_33 (by decide) (by decide) (by decide) (by decide) ?_
            exact lk_phases hJ hS hi hL0 hr hK1 A K P kd am st rg Ro Sn Nt Mk ab be Rf L By tk fi be2 nb im Td t1 t2 t3 t4 t5 t6 Kt Pt kt mt stt gt lm li ln M R Fo T1 T2 fI ta tl tk9 va Kp Ik Hd Tl Ts An Vs F hg hA hL hby htl hik hkp him
          · skip
            refine j_top (show y = nI 22 from (zI_of y).trans ((congrArg zI c3).trans (zI_nat 22))) ?_
            refine jn_tableIn hJ (q := 860) (off := 827) (k := 22) rfl dL_law_33 (by decide) (by decide) (by decide) (by decide) ?_
            exact lk_tell hJ hS hi hL0 hr hK1 A K P kd am st rg Ro Sn Nt Mk ab be Rf L By tk fi be2 nb im Td t1 t2 t3 t4 t5 t6 Kt Pt kt mt stt gt lm li ln M R Fo T1 T2 fI ta tl tk9 va Kp Ik Hd Tl Ts An Vs F hg hA hL hby htl hik hkp him
          · skip
            refine j_top (show y = nI 23 from (zI_of y).trans ((congrArg zI c3).trans (zI_nat 23))) ?_
            refine jn_tableIn hJ (q := 883) (off := 850) (k := 23) rfl dL_law_33 (by decide) (by decide) (by decide) (by decide) ?_
            exact lk_note hJ hS hi hL0 hr hK1 A K P kd am st rg Ro Sn Nt Mk ab be Rf L By tk fi be2 nb im Td t1 t2 t3 t4 t5 t6 Kt Pt kt mt stt gt lm li ln M R Fo T1 T2 fI ta tl tk9 va Kp Ik Hd Tl Ts An Vs F hg hA hL hby htl hik hkp him
          · skip
            refine j_top (show y = nI 24 from (zI_of y).trans ((congrArg zI c3).trans (zI_nat 24))) ?_
            refine jn_tableIn hJ (q := 946) (off := 913) (k := 24) rfl dL_law_33 (by decide) (by decide) (by decide) (by decide) ?_
            exact lk_mark hJ hS hi hL0 hr hK1 A K P kd am st rg Ro Sn Nt Mk ab be Rf L By tk fi be2 nb im Td t1 t2 t3 t4 t5 t6 Kt Pt kt mt stt gt lm li ln M R Fo T1 T2 fI ta tl tk9 va Kp Ik Hd Tl Ts An Vs F hg hA hL hby htl hik hkp him
          · skip
            refine j_top (show y = nI 25 from (zI_of y).trans ((congrArg zI c3).trans (zI_nat 25))) ?_
            refine jn_tableIn hJ (q := 1009) (off := 976) (k := 25) rfl dL_law_33 (by decide) (by decide) (by decide) (by decide) ?_
            exact lk_forget hJ hS hi hL0 hr hK1 A K P kd am st rg Ro Sn Nt Mk ab be Rf L By tk fi be2 nb im Td t1 t2 t3 t4 t5 t6 Kt Pt kt mt stt gt lm li ln M R Fo T1 T2 fI ta tl tk9 va Kp Ik Hd Tl Ts An Vs F hg hA hL hby htl hik hkp him
        · skip
          have c3 : y.toInt = 26 ∨ y.toInt = 27 ∨ y.toInt = 28 ∨ y.toInt = 29 ∨ y.toInt = 30 ∨ y.toInt = 31 ∨ y.toInt = 32 ∨ y.toInt = 33 ∨ y.toInt = 34 ∨ y.toInt = 35 ∨ y.toInt = 36 ∨ y.toInt = 37 ∨ y.toInt = 38 := by omega
          rcases c3 with c3 | c3 | c3 | c3 | c3 | c3 | c3 | c3 | c3 | c3 | c3 | c3 | c3
          · skip
            refine j_top (show y = nI 26 from (zI_of y).trans ((congrArg zI c3).trans (zI_nat 26))) ?_
            refine jn_tableIn hJ (q := 1032) (off := 999) (k := 26) rfl dL_law_33 (by decide) (by decide) (by decide) (by decide) ?_
            exact lk_is hJ hS hi hL0 hr hK1 A K P kd am st rg Ro Sn Nt Mk ab be Rf L By tk fi be2 nb im Td t1 t2 t3 t4 t5 t6 Kt Pt kt mt stt gt lm li ln M R Fo T1 T2 fI ta tl tk9 va Kp Ik Hd Tl Ts An Vs F hg hA hL hby htl hik hkp him
          · skip
            refine j_top (show y = nI 27 from (zI_of y).trans ((congrArg zI c3).trans (zI_nat 27))) ?_
            refine jn_tableIn hJ (q := 1055) (off := 1022) (k := 27) rfl dL_law_33 (by decide) (by decide) (by decide) (by decide) ?_
            exact lk_look hJ hS hi hL0 hr hK1 A K P kd am st rg Ro Sn Nt Mk ab be Rf L By tk fi be2 nb im Td t1 t2 t3 t4 t5 t6 Kt Pt kt mt stt gt lm li ln M R Fo T1 T2 fI ta tl tk9 va Kp Ik Hd Tl Ts An Vs F hg hA hL hby htl hik hkp him
          · skip
            refine j_top (show y = nI 28 from (zI_of y).trans ((congrArg zI c3).trans (zI_nat 28))) ?_
            refine jn_tableIn hJ (q := 1078) (off := 1045) (k := 28) rfl dL_law_33 (by decide) (by decide) (by decide) (by decide) ?_
            exact lk_kinds hJ hS hi hL0 hr hK1 A K P kd am st rg Ro Sn Nt Mk ab be Rf L By tk fi be2 nb im Td t1 t2 t3 t4 t5 t6 Kt Pt kt mt stt gt lm li ln M R Fo T1 T2 fI ta tl tk9 va Kp Ik Hd Tl Ts An Vs F hg hA hL hby htl hik hkp him
          · skip
            refine j_top (show y = nI 29 from (zI_of y).trans ((congrArg zI c3).trans (zI_nat 29))) ?_
            refine jn_tableIn hJ (q := 1101) (off := 1068) (k := 29) rfl dL_law_33 (by decide) (by decide) (by decide) (by decide) ?_
            exact lk_ask hJ hS hi hL0 hr hK1 A K P kd am st rg Ro Sn Nt Mk ab be Rf L By tk fi be2 nb im Td t1 t2 t3 t4 t5 t6 Kt Pt kt mt stt gt lm li ln M R Fo T1 T2 fI ta tl tk9 va Kp Ik Hd Tl Ts An Vs F hg hA hL hby htl hik hkp him
          · skip
            refine j_top (show y = nI 30 from (zI_of y).trans ((congrArg zI c3).trans (zI_nat 30))) ?_
            refine jn_tableIn hJ (q := 1124) (off := 1091) (k := 30) rfl dL_law_33 (by decide) (by decide) (by decide) (by decide) ?_
            exact lk_hands hJ hS hi hL0 hr hK1 A K P kd am st rg Ro Sn Nt Mk ab be Rf L By tk fi be2 nb im Td t1 t2 t3 t4 t5 t6 Kt Pt kt mt stt gt lm li ln M R Fo T1 T2 fI ta tl tk9 va Kp Ik Hd Tl Ts An Vs F hg hA hL hby htl hik hkp him
          · skip
            refine j_top (show y = nI 31 from (zI_of y).trans ((congrArg zI c3).trans (zI_nat 31))) ?_
            refine jn_tableIn hJ (q := 1167) (off := 1134) (k := 31) rfl dL_law_33 (by decide) (by decide) (by decide) (by decide) ?_
            exact lk_slip hJ hS hi hL0 hr hK1 A K P kd am st rg Ro Sn Nt Mk ab be Rf L By tk fi be2 nb im Td t1 t2 t3 t4 t5 t6 Kt Pt kt mt stt gt lm li ln M R Fo T1 T2 fI ta tl tk9 va Kp Ik Hd Tl Ts An Vs F hg hA hL hby htl hik hkp him
          · skip
            refine j_top (show y = nI 32 from (zI_of y).trans ((congrArg zI c3).trans (zI_nat 32))) ?_
            refine jn_tableIn hJ (q := 1220) (off := 1187) (k := 32) rfl dL_law_33 (by decide) (by decide) (by decide) (by decide) ?_
            exact lk_evenings hJ hS hi hL0 hr hK1 A K P kd am st rg Ro Sn Nt Mk ab be Rf L By tk fi be2 nb im Td t1 t2 t3 t4 t5 t6 Kt Pt kt mt stt gt lm li ln M R Fo T1 T2 fI ta tl tk9 va Kp Ik Hd Tl Ts An Vs F hg hA hL hby htl hik hkp him
          · skip
            refine j_top (show y = nI 33 from (zI_of y).trans ((congrArg zI c3).trans (zI_nat 33))) ?_
            refine jn_tableIn hJ (q := 1253) (off := 1220) (k := 33) rfl dL_law_33 (by decide) (by decide) (by decide) (by decide) ?_
            exact lk_part hJ hS hi hL0 hr hK1 A K P kd am st rg Ro Sn Nt Mk ab be Rf L By tk fi be2 nb im Td t1 t2 t3 t4 t5 t6 Kt Pt kt mt stt gt lm li ln M R Fo T1 T2 fI ta tl tk9 va Kp Ik Hd Tl Ts An Vs F hg hA hL hby htl hik hkp him
          · skip
            refine j_top (show y = nI 34 from (zI_of y).trans ((congrArg zI c3).trans (zI_nat 34))) ?_
            refine jn_tableIn hJ (q := 1277) (off := 1244) (k := 34) rfl dL_law_33 (by decide) (by decide) (by decide) (by decide) ?_
            exact lk_image hJ hS hi hL0 hr hK1 A K P kd am st rg Ro Sn Nt Mk ab be Rf L By tk fi be2 nb im Td t1 t2 t3 t4 t5 t6 Kt Pt kt mt stt gt lm li ln M R Fo T1 T2 fI ta tl tk9 va Kp Ik Hd Tl Ts An Vs F hg hA hL hby htl hik hkp him
          · skip
            refine j_top (show y = nI 35 from (zI_of y).trans ((congrArg zI c3).trans (zI_nat 35))) ?_
            refine jn_tableIn hJ (q := 1300) (off := 1267) (k := 35) rfl dL_law_33 (by decide) (by decide) (by decide) (by decide) ?_
            exact lk_from hJ hS hi hL0 hr hK1 A K P kd am st rg Ro Sn Nt Mk ab be Rf L By tk fi be2 nb im Td t1 t2 t3 t4 t5 t6 Kt Pt kt mt stt gt lm li ln M R Fo T1 T2 fI ta tl tk9 va Kp Ik Hd Tl Ts An Vs F hg hA hL hby htl hik hkp him
          · skip
            refine j_top (show y = nI 36 from (zI_of y).trans ((congrArg zI c3).trans (zI_nat 36))) ?_
            refine jn_tableIn hJ (q := 1323) (off := 1290) (k := 36) rfl dL_law_33 (by decide) (by decide) (by decide) (by decide) ?_
            exact lk_status hJ hS hi hL0 hr hK1 A K P kd am st rg Ro Sn Nt Mk ab be Rf L By tk fi be2 nb im Td t1 t2 t3 t4 t5 t6 Kt Pt kt mt stt gt lm li ln M R Fo T1 T2 fI ta tl tk9 va Kp Ik Hd Tl Ts An Vs F hg hA hL hby htl hik hkp him
          · skip
            refine j_top (show y = nI 37 from (zI_of y).trans ((congrArg zI c3).trans (zI_nat 37))) ?_
            refine jn_tableIn hJ (q := 1346) (off := 1313) (k := 37) rfl dL_law_33 (by decide) (by decide) (by decide) (by decide) ?_
            exact lk_count hJ hS hi hL0 hr hK1 A K P kd am st rg Ro Sn Nt Mk ab be Rf L By tk fi be2 nb im Td t1 t2 t3 t4 t5 t6 Kt Pt kt mt stt gt lm li ln M R Fo T1 T2 fI ta tl tk9 va Kp Ik Hd Tl Ts An Vs F hg hA hL hby htl hik hkp him
          · skip
            refine j_top (show y = nI 38 from (zI_of y).trans ((congrArg zI c3).trans (zI_nat 38))) ?_
            refine jn_tableIn hJ (q := 1369) (off := 1336) (k := 38) rfl dL_law_33 (by decide) (by decide) (by decide) (by decide) ?_
            exact lk_digest hJ hS hi hL0 hr hK1 A K P kd am st rg Ro Sn Nt Mk ab be Rf L By tk fi be2 nb im Td t1 t2 t3 t4 t5 t6 Kt Pt kt mt stt gt lm li ln M R Fo T1 T2 fI ta tl tk9 va Kp Ik Hd Tl Ts An Vs F hg hA hL hby htl hik hkp him
      · skip
        refine j_tableOut hJ (q := 1383) dL_law_33 (by omega) (by decide) ?_
        refine j_widen hJ (show nc ≤ nc + 16 by omega) (show ns ≤ ns + 297 by omega) ?_
        exact hK1 A K P kd am st rg Ro Sn Nt Mk ab be Rf L By tk fi be2 nb im Td t1 t2 t3 t4 t5 t6 Kt Pt kt mt stt gt lm li ln M R Fo T1 T2 fI ta tl tk9 va Kp Ik Hd Tl Ts An Vs F hg hA hL hby htl hik hkp him
set_option maxHeartbeats 4000000 in
set_option maxRecDepth 100000 in
theorem law_start {Z : jZ} {J : JT} {b L0 : Nat} {xs : Nat → Int32} (hJ : JLR Z J) (hS : JS J b L0 xs) (hL0 : L0 ≤ 3072) (hEnd : ∀ (pc : Nat) (lvs : List (Nat × Value)) (ws : va_W) (nc ns : Nat), decode cL_law pc = .ok (.ireturn, 1) → nc ≤ 600000 → ns ≤ 7302250 → J pc lvs [.int (nI 1)] ws nc ns) : J 0 [(0, .ref b)] [] [] 0 0 := by
  show J 0 [(0, .ref b)] [] [] 0 0
  refine j_new hJ (q := 3) (C := RX8) (T := TX8) (ty := tyX8) (ci := 6) (N := 13) (fs := [.null, .null, .null, .long (zL 0), .long (zL 0), .int (nI 0), .int (nI 0), .int (nI 0), .null, .null, .null, .null, .null]) rfl jin_X8 tyX8_ok tm_17 tm_18 tm_1 df_X8 dL_law_0 (by decide) rfl (fun a1 => ?_)
  show J 3 [(0, .ref b)] [.ref a1] [(a1, .inr (6, [.null, .null, .null, .long (zL 0), .long (zL 0), .int (nI 0), .int (nI 0), .int (nI 0), .null, .null, .null, .null, .null]))] 1 13
  refine j_dup hJ (q := 4) dL_law_3 rfl rfl ?_
  refine j_iW hJ (q := 7) (rest := [.ref a1]) (As := []) (wr := []) jl_L_9 (c_X8_init Z a1 ) dL_law_4 rfl (by decide) (Nat.le_of_ble_eq_true rfl) [0] [] rfl rfl rfl rfl (by decide) rfl (fun rv wv hp => ?_)
  obtain ⟨u2, s3, q4, Kz5, Pz6, qt7, Kt8, Pt9, w10, rfl, rfl, f11⟩ := hp
  show J 7 [(0, .ref b)] [.ref a1] [xO a1 u2 0 1 ((fun _ => 0) 0) ((fun _ => 0) 1) ((fun _ => 0) 2), (u2 0, .inr (4, [.ref (s3 0), .ref (s3 1), .ref (s3 3), .ref (s3 5), .ref (s3 7)])), cO (s3 0) q4 (A0 21) (A0 5) (A0 6) (A0 7) (A0 8) (A0 0), (q4 0, ia Z 12 (ni Kz5)), (q4 1, ia Z 12 (ni Pz6)), (q4 2, ia Z 6 (ni (fun _ => 0))), (q4 3, ia Z 6 (ni (fun _ => 0))), (q4 4, ia Z 6 (ni (fun _ => 0))), (q4 5, ia Z 6 (ni (fun _ => 0))), (s3 1, .inr (1, [.int (nI (A0 4)), .ref (s3 2)])), (s3 2, ia Z 128 (ni (fun _ => 0))), (s3 3, .inr (3, [.int (nI (A0 1)), .int (nI 4), .int (nI 5), .ref (s3 4)])), (s3 4, ia Z 30 (ni (fun _ => 0))), (s3 5, .inr (3, [.int (nI (A0 2)), .int (nI 5), .int (nI 6), .ref (s3 6)])), (s3 6, ia Z 30 (ni (fun _ => 0))), (s3 7, .inr (3, [.int (nI (A0 3)), .int (nI 5), .int (nI 6), .ref (s3 8)])), (s3 8, ia Z 30 (ni (fun _ => 0))), (u2 1, qa Z 2 (fun _ => none)), (u2 2, .inr (5, [.int (nI 0), .ref (u2 8), .int (nI 0), .int (nI 0), .int (nI 0), .int (nI 0), .int (nI 0), .ref (u2 9)])), (u2 8, ba Z 150 (ni (fun _ => 0))), (u2 9, ia Z 3 (ni (fun _ => 0))), cO (u2 3) qt7 4 0 1 8 0 0, (qt7 0, ia Z 12 (ni Kt8)), (qt7 1, ia Z 12 (ni Pt9)), (qt7 2, ia Z 6 (ni (fun _ => 0))), (qt7 3, ia Z 6 (ni (fun _ => 0))), (qt7 4, ia Z 6 (ni (fun _ => 0))), (qt7 5, ia Z 6 (ni (fun _ => 0))), (u2 4, .inr (0, [.int (zI 0), .ref (w10 0), .ref (w10 1), .int (nI 0), .int (nI 0)])), (w10 0, ia Z 6 (ni (fun _ => 0))), (w10 1, ia Z 6 (ni (fun _ => 0))), (u2 5, ia Z 8 (ni (fun _ => 0))), (u2 6, ia Z 4 (ni (fun _ => 0))), (u2 7, ia Z 4 (ni (fun _ => 0)))] 34 566
  have hrA := f11
  refine j_astore_n hJ (q := 8) (lvs' := [(1, .ref a1), (0, .ref b)]) dL_law_7 rfl (by decide) rfl rfl ?_
  refine j_new hJ (q := 11) (C := RX9) (T := TX9) (ty := tyX9) (ci := 7) (N := 17) (fs := [.null, .null, .null, .null, .long (zL 0), .long (zL 0), .null, .null, .null, .null, .int (nI 0), .int (nI 0), .int (nI 0), .int (nI 0), .int (nI 0), .null, .null]) rfl jin_X9 tyX9_ok tm_773 tm_774 tm_8 df_X9 dL_law_8 (by decide) rfl (fun a12 => ?_)
  show J 11 [(1, .ref a1), (0, .ref b)] [.ref a12] [xO a1 u2 0 1 ((fun _ => 0) 0) ((fun _ => 0) 1) ((fun _ => 0) 2), (u2 0, .inr (4, [.ref (s3 0), .ref (s3 1), .ref (s3 3), .ref (s3 5), .ref (s3 7)])), cO (s3 0) q4 (A0 21) (A0 5) (A0 6) (A0 7) (A0 8) (A0 0), (q4 0, ia Z 12 (ni Kz5)), (q4 1, ia Z 12 (ni Pz6)), (q4 2, ia Z 6 (ni (fun _ => 0))), (q4 3, ia Z 6 (ni (fun _ => 0))), (q4 4, ia Z 6 (ni (fun _ => 0))), (q4 5, ia Z 6 (ni (fun _ => 0))), (s3 1, .inr (1, [.int (nI (A0 4)), .ref (s3 2)])), (s3 2, ia Z 128 (ni (fun _ => 0))), (s3 3, .inr (3, [.int (nI (A0 1)), .int (nI 4), .int (nI 5), .ref (s3 4)])), (s3 4, ia Z 30 (ni (fun _ => 0))), (s3 5, .inr (3, [.int (nI (A0 2)), .int (nI 5), .int (nI 6), .ref (s3 6)])), (s3 6, ia Z 30 (ni (fun _ => 0))), (s3 7, .inr (3, [.int (nI (A0 3)), .int (nI 5), .int (nI 6), .ref (s3 8)])), (s3 8, ia Z 30 (ni (fun _ => 0))), (u2 1, qa Z 2 (fun _ => none)), (u2 2, .inr (5, [.int (nI 0), .ref (u2 8), .int (nI 0), .int (nI 0), .int (nI 0), .int (nI 0), .int (nI 0), .ref (u2 9)])), (u2 8, ba Z 150 (ni (fun _ => 0))), (u2 9, ia Z 3 (ni (fun _ => 0))), cO (u2 3) qt7 4 0 1 8 0 0, (qt7 0, ia Z 12 (ni Kt8)), (qt7 1, ia Z 12 (ni Pt9)), (qt7 2, ia Z 6 (ni (fun _ => 0))), (qt7 3, ia Z 6 (ni (fun _ => 0))), (qt7 4, ia Z 6 (ni (fun _ => 0))), (qt7 5, ia Z 6 (ni (fun _ => 0))), (u2 4, .inr (0, [.int (zI 0), .ref (w10 0), .ref (w10 1), .int (nI 0), .int (nI 0)])), (w10 0, ia Z 6 (ni (fun _ => 0))), (w10 1, ia Z 6 (ni (fun _ => 0))), (u2 5, ia Z 8 (ni (fun _ => 0))), (u2 6, ia Z 4 (ni (fun _ => 0))), (u2 7, ia Z 4 (ni (fun _ => 0))), (a12, .inr (7, [.null, .null, .null, .null, .long (zL 0), .long (zL 0), .null, .null, .null, .null, .int (nI 0), .int (nI 0), .int (nI 0), .int (nI 0), .int (nI 0), .null, .null]))] 35 583
  refine j_dup hJ (q := 12) dL_law_11 rfl rfl ?_
  refine j_iW hJ (q := 15) (rest := [.ref a12]) (As := []) (wr := [xO a1 u2 0 1 ((fun _ => 0) 0) ((fun _ => 0) 1) ((fun _ => 0) 2), (u2 0, .inr (4, [.ref (s3 0), .ref (s3 1), .ref (s3 3), .ref (s3 5), .ref (s3 7)])), cO (s3 0) q4 (A0 21) (A0 5) (A0 6) (A0 7) (A0 8) (A0 0), (q4 0, ia Z 12 (ni Kz5)), (q4 1, ia Z 12 (ni Pz6)), (q4 2, ia Z 6 (ni (fun _ => 0))), (q4 3, ia Z 6 (ni (fun _ => 0))), (q4 4, ia Z 6 (ni (fun _ => 0))), (q4 5, ia Z 6 (ni (fun _ => 0))), (s3 1, .inr (1, [.int (nI (A0 4)), .ref (s3 2)])), (s3 2, ia Z 128 (ni (fun _ => 0))), (s3 3, .inr (3, [.int (nI (A0 1)), .int (nI 4), .int (nI 5), .ref (s3 4)])), (s3 4, ia Z 30 (ni (fun _ => 0))), (s3 5, .inr (3, [.int (nI (A0 2)), .int (nI 5), .int (nI 6), .ref (s3 6)])), (s3 6, ia Z 30 (ni (fun _ => 0))), (s3 7, .inr (3, [.int (nI (A0 3)), .int (nI 5), .int (nI 6), .ref (s3 8)])), (s3 8, ia Z 30 (ni (fun _ => 0))), (u2 1, qa Z 2 (fun _ => none)), (u2 2, .inr (5, [.int (nI 0), .ref (u2 8), .int (nI 0), .int (nI 0), .int (nI 0), .int (nI 0), .int (nI 0), .ref (u2 9)])), (u2 8, ba Z 150 (ni (fun _ => 0))), (u2 9, ia Z 3 (ni (fun _ => 0))), cO (u2 3) qt7 4 0 1 8 0 0, (qt7 0, ia Z 12 (ni Kt8)), (qt7 1, ia Z 12 (ni Pt9)), (qt7 2, ia Z 6 (ni (fun _ => 0))), (qt7 3, ia Z 6 (ni (fun _ => 0))), (qt7 4, ia Z 6 (ni (fun _ => 0))), (qt7 5, ia Z 6 (ni (fun _ => 0))), (u2 4, .inr (0, [.int (zI 0), .ref (w10 0), .ref (w10 1), .int (nI 0), .int (nI 0)])), (w10 0, ia Z 6 (ni (fun _ => 0))), (w10 1, ia Z 6 (ni (fun _ => 0))), (u2 5, ia Z 8 (ni (fun _ => 0))), (u2 6, ia Z 4 (ni (fun _ => 0))), (u2 7, ia Z 4 (ni (fun _ => 0)))]) jl_L_12 (c_X9_init Z a12 ) dL_law_12 rfl (by decide) (Nat.le_of_ble_eq_true rfl) [34] [0, 1, 2, 3, 4, 5, 6, 7, 8, 9, 10, 11, 12, 13, 14, 15, 16, 17, 18, 19, 20, 21, 22, 23, 24, 25, 26, 27, 28, 29, 30, 31, 32, 33] rfl rfl rfl rfl (by decide) rfl (fun rv wv hp => ?_)
  obtain ⟨q13, rfl, rfl⟩ := hp
  show J 15 [(1, .ref a1), (0, .ref b)] [.ref a12] [xO a1 u2 0 1 ((fun _ => 0) 0) ((fun _ => 0) 1) ((fun _ => 0) 2), (u2 0, .inr (4, [.ref (s3 0), .ref (s3 1), .ref (s3 3), .ref (s3 5), .ref (s3 7)])), cO (s3 0) q4 (A0 21) (A0 5) (A0 6) (A0 7) (A0 8) (A0 0), (q4 0, ia Z 12 (ni Kz5)), (q4 1, ia Z 12 (ni Pz6)), (q4 2, ia Z 6 (ni (fun _ => 0))), (q4 3, ia Z 6 (ni (fun _ => 0))), (q4 4, ia Z 6 (ni (fun _ => 0))), (q4 5, ia Z 6 (ni (fun _ => 0))), (s3 1, .inr (1, [.int (nI (A0 4)), .ref (s3 2)])), (s3 2, ia Z 128 (ni (fun _ => 0))), (s3 3, .inr (3, [.int (nI (A0 1)), .int (nI 4), .int (nI 5), .ref (s3 4)])), (s3 4, ia Z 30 (ni (fun _ => 0))), (s3 5, .inr (3, [.int (nI (A0 2)), .int (nI 5), .int (nI 6), .ref (s3 6)])), (s3 6, ia Z 30 (ni (fun _ => 0))), (s3 7, .inr (3, [.int (nI (A0 3)), .int (nI 5), .int (nI 6), .ref (s3 8)])), (s3 8, ia Z 30 (ni (fun _ => 0))), (u2 1, qa Z 2 (fun _ => none)), (u2 2, .inr (5, [.int (nI 0), .ref (u2 8), .int (nI 0), .int (nI 0), .int (nI 0), .int (nI 0), .int (nI 0), .ref (u2 9)])), (u2 8, ba Z 150 (ni (fun _ => 0))), (u2 9, ia Z 3 (ni (fun _ => 0))), cO (u2 3) qt7 4 0 1 8 0 0, (qt7 0, ia Z 12 (ni Kt8)), (qt7 1, ia Z 12 (ni Pt9)), (qt7 2, ia Z 6 (ni (fun _ => 0))), (qt7 3, ia Z 6 (ni (fun _ => 0))), (qt7 4, ia Z 6 (ni (fun _ => 0))), (qt7 5, ia Z 6 (ni (fun _ => 0))), (u2 4, .inr (0, [.int (zI 0), .ref (w10 0), .ref (w10 1), .int (nI 0), .int (nI 0)])), (w10 0, ia Z 6 (ni (fun _ => 0))), (w10 1, ia Z 6 (ni (fun _ => 0))), (u2 5, ia Z 8 (ni (fun _ => 0))), (u2 6, ia Z 4 (ni (fun _ => 0))), (u2 7, ia Z 4 (ni (fun _ => 0))), mO a12 q13 0 1 0 0 0 0 0, (q13 0, ia Z 266 (ni A0)), (q13 1, ia Z 532 (ni (fun _ => 0))), (q13 2, za Z 2 (ni (fun _ => 0))), (q13 3, ia Z 3 (ni (fun _ => 0))), (q13 4, ia Z 58 (ni (fun _ => 0))), (q13 5, ia Z 8 (ni (fun _ => 0))), (q13 6, ia Z 8 (ni (fun _ => 0))), (q13 7, ia Z 150 (ni (fun _ => 0))), (q13 8, ia Z 138 (ni (fun _ => 0))), (q13 9, ia Z 3 (ni (fun _ => 0)))] 45 1751
  refine j_astore_n hJ (q := 16) (lvs' := [(2, .ref a12), (1, .ref a1), (0, .ref b)]) dL_law_15 rfl (by decide) rfl rfl ?_
  refine j_iconst hJ (q := 17) dL_law_16 rfl ki_0 ?_
  refine j_istore_n hJ (q := 18) (lvs' := [(3, .int (nI 0)), (2, .ref a12), (1, .ref a1), (0, .ref b)]) dL_law_17 rfl (by decide) rfl rfl ?_
  refine j_locals hJ [3, 2, 1, 0] rfl ?_
  exact law_loop (u := u2) (s := s3) (q := q4) (qt := qt7) (w := w10) (q9 := q13) hJ hS hL0 hEnd (L0 + 7) 0 45 1751 (by omega) (by omega) (by omega) A0 Kz5 Pz6 (fun _ => 0) (fun _ => 0) (fun _ => 0) (fun _ => 0) (fun _ => 0) (fun _ => 0) (fun _ => 0) (fun _ => 0) 0 1 (fun _ => 0) 0 (fun _ => 0) 0 0 0 (nI 0) 0 (ni (fun _ => 0)) 4 0 1 8 0 0 Kt8 Pt9 (fun _ => 0) (fun _ => 0) (fun _ => 0) (fun _ => 0) 0 0 0 (fun _ => 0) (fun _ => 0) (fun _ => 0) (fun _ => 0) (fun _ => 0) (fun _ => none) 0 0 0 0 (fun _ => 0) (fun _ => 0) (fun _ => 0) (fun _ => 0) (fun _ => 0) (fun _ => 0) (fun _ => 0) ([]) wg_A0 hrA (Nat.zero_le _) (fun _ => by decide) (fun _ => by decide) (fun _ => by decide) (fun _ => by decide) (im_0 Z)
