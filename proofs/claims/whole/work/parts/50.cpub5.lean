set_option maxHeartbeats 4000000 in
set_option maxRecDepth 100000 in
theorem c_X8_read (Z : jZ) (h : Nat) (u : Nat → Nat) (ab : Int) (be : Int) (Rf : Nat → Nat) (s : Nat → Nat) (q : Nat → Nat) (A : Nat → Nat) (K : Nat → Nat) (P : Nat → Nat) (kd : Nat → Nat) (am : Nat → Nat) (st : Nat → Nat) (rg : Nat → Nat) (Ro : Nat → Nat) (Sn : Nat → Nat) (Nt : Nat → Nat) (Mk : Nat → Nat) (L : Nat) (By : Nat → Nat) (tk : Nat) (fi : Nat) (be2 : Nat) (nb : Int32) (im : Nat) (Td : Nat → Int32) (qt : Nat → Nat) (t1 : Nat) (t2 : Nat) (t3 : Nat) (t4 : Nat) (t5 : Nat) (t6 : Nat) (Kt : Nat → Nat) (Pt : Nat → Nat) (kt : Nat → Nat) (mt : Nat → Nat) (stt : Nat → Nat) (gt : Nat → Nat) (hg : wg A) (hA : rA A K P kd am st rg Ro Sn Nt Mk) (hL : L ≤ 150) (hby : ∀ j, By j < 128) : CT Z yX8_read cX8_read 2 ((some FieldType.int)) 8 0 0 [.ref h] [xO h u ab be (Rf 0) (Rf 1) (Rf 2), (u 0, .inr (4, [.ref (s 0), .ref (s 1), .ref (s 3), .ref (s 5), .ref (s 7)])), cO (s 0) q (A 21) (A 5) (A 6) (A 7) (A 8) (A 0), (q 0, ia Z 12 (ni K)), (q 1, ia Z 12 (ni P)), (q 2, ia Z 6 (ni kd)), (q 3, ia Z 6 (ni am)), (q 4, ia Z 6 (ni st)), (q 5, ia Z 6 (ni rg)), (s 1, .inr (1, [.int (nI (A 4)), .ref (s 2)])), (s 2, ia Z 128 (ni Ro)), (s 3, .inr (3, [.int (nI (A 1)), .int (nI 4), .int (nI 5), .ref (s 4)])), (s 4, ia Z 30 (ni Sn)), (s 5, .inr (3, [.int (nI (A 2)), .int (nI 5), .int (nI 6), .ref (s 6)])), (s 6, ia Z 30 (ni Nt)), (s 7, .inr (3, [.int (nI (A 3)), .int (nI 5), .int (nI 6), .ref (s 8)])), (s 8, ia Z 30 (ni Mk)), (u 2, .inr (5, [.int (nI L), .ref (u 8), .int (nI tk), .int (nI fi), .int (nI be2), .int nb, .int (nI im), .ref (u 9)])), (u 8, ba Z 150 (ni By)), (u 9, ia Z 3 Td), cO (u 3) qt t1 t2 t3 t4 t5 t6, (qt 0, ia Z 12 (ni Kt)), (qt 1, ia Z 12 (ni Pt)), (qt 2, ia Z 6 (ni kt)), (qt 3, ia Z 6 (ni mt)), (qt 4, ia Z 6 (ni stt)), (qt 5, ia Z 6 (ni gt))] (fun rr ww => ∃ Kz : Nat → Nat, ∃ Pz : Nat → Nat, ∃ kdz : Nat → Nat, ∃ amz : Nat → Nat, ∃ stz : Nat → Nat, ∃ rgz : Nat → Nat, ∃ Roz : Nat → Nat, ∃ Snz : Nat → Nat, ∃ Ntz : Nat → Nat, ∃ Mkz : Nat → Nat, ∃ tkz : Nat, ∃ fiz : Nat, ∃ bez : Nat, ∃ nbz : Int32, ∃ imz : Nat, ∃ Tdz : Nat → Int32, ∃ y1 : Nat, ∃ y2 : Nat, ∃ y3 : Nat, ∃ y4 : Nat, ∃ y5 : Nat, ∃ y6 : Nat, ∃ Kx : Nat → Nat, ∃ Px : Nat → Nat, ∃ kx : Nat → Nat, ∃ mx : Nat → Nat, ∃ sx : Nat → Nat, ∃ gx : Nat → Nat, rr = some (.int (zI (rdZ By L))) ∧ ww = [xO h u ab be (Rf 0) (Rf 1) (Rf 2), (u 0, .inr (4, [.ref (s 0), .ref (s 1), .ref (s 3), .ref (s 5), .ref (s 7)])), cO (s 0) q ((rdA By L A) 21) ((rdA By L A) 5) ((rdA By L A) 6) ((rdA By L A) 7) ((rdA By L A) 8) ((rdA By L A) 0), (q 0, ia Z 12 (ni Kz)), (q 1, ia Z 12 (ni Pz)), (q 2, ia Z 6 (ni kdz)), (q 3, ia Z 6 (ni amz)), (q 4, ia Z 6 (ni stz)), (q 5, ia Z 6 (ni rgz)), (s 1, .inr (1, [.int (nI ((rdA By L A) 4)), .ref (s 2)])), (s 2, ia Z 128 (ni Roz)), (s 3, .inr (3, [.int (nI ((rdA By L A) 1)), .int (nI 4), .int (nI 5), .ref (s 4)])), (s 4, ia Z 30 (ni Snz)), (s 5, .inr (3, [.int (nI ((rdA By L A) 2)), .int (nI 5), .int (nI 6), .ref (s 6)])), (s 6, ia Z 30 (ni Ntz)), (s 7, .inr (3, [.int (nI ((rdA By L A) 3)), .int (nI 5), .int (nI 6), .ref (s 8)])), (s 8, ia Z 30 (ni Mkz)), (u 2, .inr (5, [.int (nI L), .ref (u 8), .int (nI tkz), .int (nI fiz), .int (nI bez), .int nbz, .int (nI imz), .ref (u 9)])), (u 8, ba Z 150 (ni By)), (u 9, ia Z 3 Tdz), cO (u 3) qt y1 y2 y3 y4 y5 y6, (qt 0, ia Z 12 (ni Kx)), (qt 1, ia Z 12 (ni Px)), (qt 2, ia Z 6 (ni kx)), (qt 3, ia Z 6 (ni mx)), (qt 4, ia Z 6 (ni sx)), (qt 5, ia Z 6 (ni gx))] ∧ (rA (rdA By L A) Kz Pz kdz amz stz rgz Roz Snz Ntz Mkz)) := by
  refine CT.of RX8 false rfl (fun h => by cases h) (by decide +kernel) (Nat.le_of_ble_eq_true rfl) ?_
  intro J hJ hE
  show J 0 [(0, .ref h)] [] [xO h u ab be (Rf 0) (Rf 1) (Rf 2), (u 0, .inr (4, [.ref (s 0), .ref (s 1), .ref (s 3), .ref (s 5), .ref (s 7)])), cO (s 0) q (A 21) (A 5) (A 6) (A 7) (A 8) (A 0), (q 0, ia Z 12 (ni K)), (q 1, ia Z 12 (ni P)), (q 2, ia Z 6 (ni kd)), (q 3, ia Z 6 (ni am)), (q 4, ia Z 6 (ni st)), (q 5, ia Z 6 (ni rg)), (s 1, .inr (1, [.int (nI (A 4)), .ref (s 2)])), (s 2, ia Z 128 (ni Ro)), (s 3, .inr (3, [.int (nI (A 1)), .int (nI 4), .int (nI 5), .ref (s 4)])), (s 4, ia Z 30 (ni Sn)), (s 5, .inr (3, [.int (nI (A 2)), .int (nI 5), .int (nI 6), .ref (s 6)])), (s 6, ia Z 30 (ni Nt)), (s 7, .inr (3, [.int (nI (A 3)), .int (nI 5), .int (nI 6), .ref (s 8)])), (s 8, ia Z 30 (ni Mk)), (u 2, .inr (5, [.int (nI L), .ref (u 8), .int (nI tk), .int (nI fi), .int (nI be2), .int nb, .int (nI im), .ref (u 9)])), (u 8, ba Z 150 (ni By)), (u 9, ia Z 3 Td), cO (u 3) qt t1 t2 t3 t4 t5 t6, (qt 0, ia Z 12 (ni Kt)), (qt 1, ia Z 12 (ni Pt)), (qt 2, ia Z 6 (ni kt)), (qt 3, ia Z 6 (ni mt)), (qt 4, ia Z 6 (ni stt)), (qt 5, ia Z 6 (ni gt))] 0 0
  obtain ⟨hw, ⟨g1, g2, g3, g4, g8⟩, hrs, hrn, hrm, hpst⟩ := id hg
  obtain ⟨⟨w1, w2, w3, w4, w5, w6⟩, hb, wr, wh, wd⟩ := id hw
  obtain ⟨hR, hX⟩ := id hA
  obtain ⟨hP, hSn, hNt, hMk⟩ := id hX
  refine j_aload_n hJ (q := 1) dX8_read_0 rfl 0 rfl rfl ?_
  refine j_get hJ (q := 4) jf_X8_23 dX8_read_1 0 rfl rfl rfl ?_
  refine j_aload_n hJ (q := 5) dX8_read_4 rfl 0 rfl rfl ?_
  refine j_get hJ (q := 8) jf_X8_37 dX8_read_5 0 rfl rfl rfl ?_
  refine j_vW hJ (q := 11) (rest := []) (As := [.ref (u 3)]) (wr := [xO h u ab be (Rf 0) (Rf 1) (Rf 2), (u 0, .inr (4, [.ref (s 0), .ref (s 1), .ref (s 3), .ref (s 5), .ref (s 7)])), cO (s 0) q (A 21) (A 5) (A 6) (A 7) (A 8) (A 0), (q 0, ia Z 12 (ni K)), (q 1, ia Z 12 (ni P)), (q 2, ia Z 6 (ni kd)), (q 3, ia Z 6 (ni am)), (q 4, ia Z 6 (ni st)), (q 5, ia Z 6 (ni rg)), (s 1, .inr (1, [.int (nI (A 4)), .ref (s 2)])), (s 2, ia Z 128 (ni Ro)), (s 3, .inr (3, [.int (nI (A 1)), .int (nI 4), .int (nI 5), .ref (s 4)])), (s 4, ia Z 30 (ni Sn)), (s 5, .inr (3, [.int (nI (A 2)), .int (nI 5), .int (nI 6), .ref (s 6)])), (s 6, ia Z 30 (ni Nt)), (s 7, .inr (3, [.int (nI (A 3)), .int (nI 5), .int (nI 6), .ref (s 8)])), (s 8, ia Z 30 (ni Mk))]) jl_X8_118 (c_X7_tellRound Z (u 2) (u 8) (u 9) L By tk fi be2 nb im Td (u 3) qt t1 t2 t3 t4 t5 t6 Kt Pt kt mt stt gt (by omega) hby) 17 rfl rfl dX8_read_8 rfl (by decide) (Nat.le_of_ble_eq_true rfl) [17, 18, 19, 20, 21, 22, 23, 24, 25, 26] [0, 1, 2, 3, 4, 5, 6, 7, 8, 9, 10, 11, 12, 13, 14, 15, 16] rfl rfl rfl rfl (by decide) rfl (fun rv wv hp => ?_)
  obtain ⟨tkz1, fiz2, bez3, nbz4, imz5, Tdz6, nz7, anz8, spz9, riz10, tiz11, rdz12, Kz13, Pz14, kdz15, amz16, stz17, rgz18, rfl, rfl, f19⟩ := hp
  show J 11 [(0, .ref h)] [.int (zI (rdZ By L))] [xO h u ab be (Rf 0) (Rf 1) (Rf 2), (u 0, .inr (4, [.ref (s 0), .ref (s 1), .ref (s 3), .ref (s 5), .ref (s 7)])), cO (s 0) q (A 21) (A 5) (A 6) (A 7) (A 8) (A 0), (q 0, ia Z 12 (ni K)), (q 1, ia Z 12 (ni P)), (q 2, ia Z 6 (ni kd)), (q 3, ia Z 6 (ni am)), (q 4, ia Z 6 (ni st)), (q 5, ia Z 6 (ni rg)), (s 1, .inr (1, [.int (nI (A 4)), .ref (s 2)])), (s 2, ia Z 128 (ni Ro)), (s 3, .inr (3, [.int (nI (A 1)), .int (nI 4), .int (nI 5), .ref (s 4)])), (s 4, ia Z 30 (ni Sn)), (s 5, .inr (3, [.int (nI (A 2)), .int (nI 5), .int (nI 6), .ref (s 6)])), (s 6, ia Z 30 (ni Nt)), (s 7, .inr (3, [.int (nI (A 3)), .int (nI 5), .int (nI 6), .ref (s 8)])), (s 8, ia Z 30 (ni Mk)), ((u 2), .inr (5, [.int (nI L), .ref (u 8), .int (nI tkz1), .int (nI fiz2), .int (nI bez3), .int nbz4, .int (nI imz5), .ref (u 9)])), ((u 8), ba Z 150 (ni By)), ((u 9), ia Z 3 Tdz6), cO (u 3) qt nz7 anz8 spz9 riz10 tiz11 rdz12, (qt 0, ia Z 12 (ni Kz13)), (qt 1, ia Z 12 (ni Pz14)), (qt 2, ia Z 6 (ni kdz15)), (qt 3, ia Z 6 (ni amz16)), (qt 4, ia Z 6 (ni stz17)), (qt 5, ia Z 6 (ni rgz18))] 0 0
  have hgood := f19
  have hzb := rdZ_b (By := By) hL
  refine j_istore_n hJ (q := 12) (lvs' := [(1, .int (zI (rdZ By L))), (0, .ref h)]) dX8_read_11 rfl (by decide) rfl rfl ?_
  refine j_iload_n hJ (q := 13) dX8_read_12 rfl 0 rfl rfl ?_
  refine jz_if_le hJ (q := 16) (tgt := 37) dX8_read_13 (by decide) rfl rfl (by omega) (fun c20 => ?_) (fun c20 => ?_)
  · skip
    refine j_iload_n hJ (q := 38) dX8_read_37 rfl 0 rfl rfl ?_
    have hno := rdZ_neg (By := By) (L := L) (by omega)
    have hAo : rdA By L A = A := by unfold rdA; rw [if_neg hno]
    exact hE.1 _ _ _ _ _ _ _ rfl rfl dX8_read_38 (Nat.le_refl _) (Nat.le_refl _) (⟨K, P, kd, am, st, rg, Ro, Sn, Nt, Mk, tkz1, fiz2, bez3, nbz4, imz5, Tdz6, nz7, anz8, spz9, riz10, tiz11, rdz12, Kz13, Pz14, kdz15, amz16, stz17, rgz18, congrArg (fun z => some (Value.int (zI z))) (by rfl), by rw [hAo], by rw [hAo]; exact hA⟩)
  · skip
    have hok := rdZ_pos (By := By) (L := L) (by omega)
    obtain ⟨⟨v1, v2, v3, v4, v5, v6⟩, hwR, hRR⟩ := hgood hok
    refine j_eqw (ws' := [xO h u ab be (Rf 0) (Rf 1) (Rf 2), (u 0, .inr (4, [.ref (s 0), .ref (s 1), .ref (s 3), .ref (s 5), .ref (s 7)])), cO (s 0) q (A 21) (A 5) (A 6) (A 7) (A 8) (A 0), (q 0, ia Z 12 (ni K)), (q 1, ia Z 12 (ni P)), (q 2, ia Z 6 (ni kd)), (q 3, ia Z 6 (ni am)), (q 4, ia Z 6 (ni st)), (q 5, ia Z 6 (ni rg)), (s 1, .inr (1, [.int (nI (A 4)), .ref (s 2)])), (s 2, ia Z 128 (ni Ro)), (s 3, .inr (3, [.int (nI (A 1)), .int (nI 4), .int (nI 5), .ref (s 4)])), (s 4, ia Z 30 (ni Sn)), (s 5, .inr (3, [.int (nI (A 2)), .int (nI 5), .int (nI 6), .ref (s 6)])), (s 6, ia Z 30 (ni Nt)), (s 7, .inr (3, [.int (nI (A 3)), .int (nI 5), .int (nI 6), .ref (s 8)])), (s 8, ia Z 30 (ni Mk)), ((u 2), .inr (5, [.int (nI L), .ref (u 8), .int (nI tkz1), .int (nI fiz2), .int (nI bez3), .int nbz4, .int (nI imz5), .ref (u 9)])), ((u 8), ba Z 150 (ni By)), ((u 9), ia Z 3 Tdz6), cO (u 3) qt (((rdR By L).2.2) 21) (((rdR By L).2.2) 5) (((rdR By L).2.2) 6) (((rdR By L).2.2) 7) (((rdR By L).2.2) 8) (((rdR By L).2.2) 0), (qt 0, ia Z 12 (ni Kz13)), (qt 1, ia Z 12 (ni Pz14)), (qt 2, ia Z 6 (ni kdz15)), (qt 3, ia Z 6 (ni amz16)), (qt 4, ia Z 6 (ni stz17)), (qt 5, ia Z 6 (ni rgz18))]) (by rw [v1, v2, v3, v4, v5, v6]) ?_
    refine j_aload_n hJ (q := 17) dX8_read_16 rfl 1 rfl rfl ?_
    refine j_get hJ (q := 20) jf_X8_10 dX8_read_17 0 rfl rfl rfl ?_
    refine j_get hJ (q := 23) jf_X8_66 dX8_read_20 1 rfl rfl rfl ?_
    refine j_aload_n hJ (q := 24) dX8_read_23 rfl 1 rfl rfl ?_
    refine j_get hJ (q := 27) jf_X8_37 dX8_read_24 0 rfl rfl rfl ?_
    refine j_vW hJ (q := 30) (rest := []) (As := [.ref (u 3)]) (wr := [xO h u ab be (Rf 0) (Rf 1) (Rf 2), (u 0, .inr (4, [.ref (s 0), .ref (s 1), .ref (s 3), .ref (s 5), .ref (s 7)])), (s 1, .inr (1, [.int (nI (A 4)), .ref (s 2)])), (s 2, ia Z 128 (ni Ro)), (s 3, .inr (3, [.int (nI (A 1)), .int (nI 4), .int (nI 5), .ref (s 4)])), (s 4, ia Z 30 (ni Sn)), (s 5, .inr (3, [.int (nI (A 2)), .int (nI 5), .int (nI 6), .ref (s 6)])), (s 6, ia Z 30 (ni Nt)), (s 7, .inr (3, [.int (nI (A 3)), .int (nI 5), .int (nI 6), .ref (s 8)])), (s 8, ia Z 30 (ni Mk)), ((u 2), .inr (5, [.int (nI L), .ref (u 8), .int (nI tkz1), .int (nI fiz2), .int (nI bez3), .int nbz4, .int (nI imz5), .ref (u 9)])), ((u 8), ba Z 150 (ni By)), ((u 9), ia Z 3 Tdz6)]) jl_X8_122 (c_X4_copyOf Z (s 0) q (A 21) (A 5) (A 6) (A 7) (A 8) (A 0) K P kd am st rg (u 3) qt ((rdR By L).2.2) Kz13 Pz14 kdz15 amz16 stz17 rgz18 ) 2 rfl rfl dX8_read_27 rfl (by decide) (Nat.le_of_ble_eq_true rfl) [2, 3, 4, 5, 6, 7, 8, 20, 21, 22, 23, 24, 25, 26] [0, 1, 9, 10, 11, 12, 13, 14, 15, 16, 17, 18, 19] rfl rfl rfl rfl (by decide) rfl (fun rv wv hp => ?_)
    obtain ⟨rfl, rfl⟩ := hp
    refine j_world hJ (ws' := [xO h u ab be (Rf 0) (Rf 1) (Rf 2), (u 0, .inr (4, [.ref (s 0), .ref (s 1), .ref (s 3), .ref (s 5), .ref (s 7)])), cO (s 0) q (((rdR By L).2.2) 21) (((rdR By L).2.2) 5) (((rdR By L).2.2) 6) (((rdR By L).2.2) 7) (((rdR By L).2.2) 8) (((rdR By L).2.2) 0), (q 0, ia Z 12 (ni Kz13)), (q 1, ia Z 12 (ni Pz14)), (q 2, ia Z 6 (ni kdz15)), (q 3, ia Z 6 (ni amz16)), (q 4, ia Z 6 (ni stz17)), (q 5, ia Z 6 (ni rgz18)), (s 1, .inr (1, [.int (nI (A 4)), .ref (s 2)])), (s 2, ia Z 128 (ni Ro)), (s 3, .inr (3, [.int (nI (A 1)), .int (nI 4), .int (nI 5), .ref (s 4)])), (s 4, ia Z 30 (ni Sn)), (s 5, .inr (3, [.int (nI (A 2)), .int (nI 5), .int (nI 6), .ref (s 6)])), (s 6, ia Z 30 (ni Nt)), (s 7, .inr (3, [.int (nI (A 3)), .int (nI 5), .int (nI 6), .ref (s 8)])), (s 8, ia Z 30 (ni Mk)), ((u 2), .inr (5, [.int (nI L), .ref (u 8), .int (nI tkz1), .int (nI fiz2), .int (nI bez3), .int nbz4, .int (nI imz5), .ref (u 9)])), ((u 8), ba Z 150 (ni By)), ((u 9), ia Z 3 Tdz6), cO (u 3) qt (((rdR By L).2.2) 21) (((rdR By L).2.2) 5) (((rdR By L).2.2) 6) (((rdR By L).2.2) 7) (((rdR By L).2.2) 8) (((rdR By L).2.2) 0), (qt 0, ia Z 12 (ni Kz13)), (qt 1, ia Z 12 (ni Pz14)), (qt 2, ia Z 6 (ni kdz15)), (qt 3, ia Z 6 (ni amz16)), (qt 4, ia Z 6 (ni stz17)), (qt 5, ia Z 6 (ni rgz18))]) [0, 1, 13, 14, 15, 16, 17, 18, 19, 2, 3, 4, 5, 6, 7, 8, 9, 10, 11, 12, 20, 21, 22, 23, 24, 25, 26] rfl rfl ?_
    show J 30 [(1, .int (zI (rdZ By L))), (0, .ref h)] [] [xO h u ab be (Rf 0) (Rf 1) (Rf 2), (u 0, .inr (4, [.ref (s 0), .ref (s 1), .ref (s 3), .ref (s 5), .ref (s 7)])), cO (s 0) q (((rdR By L).2.2) 21) (((rdR By L).2.2) 5) (((rdR By L).2.2) 6) (((rdR By L).2.2) 7) (((rdR By L).2.2) 8) (((rdR By L).2.2) 0), (q 0, ia Z 12 (ni Kz13)), (q 1, ia Z 12 (ni Pz14)), (q 2, ia Z 6 (ni kdz15)), (q 3, ia Z 6 (ni amz16)), (q 4, ia Z 6 (ni stz17)), (q 5, ia Z 6 (ni rgz18)), (s 1, .inr (1, [.int (nI (A 4)), .ref (s 2)])), (s 2, ia Z 128 (ni Ro)), (s 3, .inr (3, [.int (nI (A 1)), .int (nI 4), .int (nI 5), .ref (s 4)])), (s 4, ia Z 30 (ni Sn)), (s 5, .inr (3, [.int (nI (A 2)), .int (nI 5), .int (nI 6), .ref (s 6)])), (s 6, ia Z 30 (ni Nt)), (s 7, .inr (3, [.int (nI (A 3)), .int (nI 5), .int (nI 6), .ref (s 8)])), (s 8, ia Z 30 (ni Mk)), ((u 2), .inr (5, [.int (nI L), .ref (u 8), .int (nI tkz1), .int (nI fiz2), .int (nI bez3), .int nbz4, .int (nI imz5), .ref (u 9)])), ((u 8), ba Z 150 (ni By)), ((u 9), ia Z 3 Tdz6), cO (u 3) qt (((rdR By L).2.2) 21) (((rdR By L).2.2) 5) (((rdR By L).2.2) 6) (((rdR By L).2.2) 7) (((rdR By L).2.2) 8) (((rdR By L).2.2) 0), (qt 0, ia Z 12 (ni Kz13)), (qt 1, ia Z 12 (ni Pz14)), (qt 2, ia Z 6 (ni kdz15)), (qt 3, ia Z 6 (ni amz16)), (qt 4, ia Z 6 (ni stz17)), (qt 5, ia Z 6 (ni rgz18))] 0 0
    refine j_aload_n hJ (q := 31) dX8_read_30 rfl 1 rfl rfl ?_
    refine j_get hJ (q := 34) jf_X8_10 dX8_read_31 0 rfl rfl rfl ?_
    refine j_vW hJ (q := 37) (rest := []) (As := []) (wr := [xO h u ab be (Rf 0) (Rf 1) (Rf 2), cO (s 0) q (((rdR By L).2.2) 21) (((rdR By L).2.2) 5) (((rdR By L).2.2) 6) (((rdR By L).2.2) 7) (((rdR By L).2.2) 8) (((rdR By L).2.2) 0), (q 0, ia Z 12 (ni Kz13)), (q 1, ia Z 12 (ni Pz14)), (q 2, ia Z 6 (ni kdz15)), (q 3, ia Z 6 (ni amz16)), (q 4, ia Z 6 (ni stz17)), (q 5, ia Z 6 (ni rgz18)), ((u 2), .inr (5, [.int (nI L), .ref (u 8), .int (nI tkz1), .int (nI fiz2), .int (nI bez3), .int nbz4, .int (nI imz5), .ref (u 9)])), ((u 8), ba Z 150 (ni By)), ((u 9), ia Z 3 Tdz6), cO (u 3) qt (((rdR By L).2.2) 21) (((rdR By L).2.2) 5) (((rdR By L).2.2) 6) (((rdR By L).2.2) 7) (((rdR By L).2.2) 8) (((rdR By L).2.2) 0), (qt 0, ia Z 12 (ni Kz13)), (qt 1, ia Z 12 (ni Pz14)), (qt 2, ia Z 6 (ni kdz15)), (qt 3, ia Z 6 (ni amz16)), (qt 4, ia Z 6 (ni stz17)), (qt 5, ia Z 6 (ni rgz18))]) jl_X8_77 (c_X6_dropRest Z (u 0) s (A 4) (A 1) (A 2) (A 3) Ro Sn Nt Mk ) 1 rfl rfl dX8_read_34 rfl (by decide) (Nat.le_of_ble_eq_true rfl) [1, 9, 10, 11, 12, 13, 14, 15, 16] [0, 2, 3, 4, 5, 6, 7, 8, 17, 18, 19, 20, 21, 22, 23, 24, 25, 26] rfl rfl rfl rfl (by decide) rfl (fun rv wv hp => ?_)
    obtain ⟨rfl, rfl⟩ := hp
    refine j_world hJ (ws' := [xO h u ab be (Rf 0) (Rf 1) (Rf 2), ((u 0), .inr (4, [.ref (s 0), .ref (s 1), .ref (s 3), .ref (s 5), .ref (s 7)])), cO (s 0) q (((rdR By L).2.2) 21) (((rdR By L).2.2) 5) (((rdR By L).2.2) 6) (((rdR By L).2.2) 7) (((rdR By L).2.2) 8) (((rdR By L).2.2) 0), (q 0, ia Z 12 (ni Kz13)), (q 1, ia Z 12 (ni Pz14)), (q 2, ia Z 6 (ni kdz15)), (q 3, ia Z 6 (ni amz16)), (q 4, ia Z 6 (ni stz17)), (q 5, ia Z 6 (ni rgz18)), (s 1, .inr (1, [.int (nI 0), .ref (s 2)])), (s 2, ia Z 128 (ni Ro)), (s 3, .inr (3, [.int (nI 0), .int (nI 4), .int (nI 5), .ref (s 4)])), (s 4, ia Z 30 (ni Sn)), (s 5, .inr (3, [.int (nI 0), .int (nI 5), .int (nI 6), .ref (s 6)])), (s 6, ia Z 30 (ni Nt)), (s 7, .inr (3, [.int (nI 0), .int (nI 5), .int (nI 6), .ref (s 8)])), (s 8, ia Z 30 (ni Mk)), ((u 2), .inr (5, [.int (nI L), .ref (u 8), .int (nI tkz1), .int (nI fiz2), .int (nI bez3), .int nbz4, .int (nI imz5), .ref (u 9)])), ((u 8), ba Z 150 (ni By)), ((u 9), ia Z 3 Tdz6), cO (u 3) qt (((rdR By L).2.2) 21) (((rdR By L).2.2) 5) (((rdR By L).2.2) 6) (((rdR By L).2.2) 7) (((rdR By L).2.2) 8) (((rdR By L).2.2) 0), (qt 0, ia Z 12 (ni Kz13)), (qt 1, ia Z 12 (ni Pz14)), (qt 2, ia Z 6 (ni kdz15)), (qt 3, ia Z 6 (ni amz16)), (qt 4, ia Z 6 (ni stz17)), (qt 5, ia Z 6 (ni rgz18))]) [0, 18, 1, 2, 3, 4, 5, 6, 7, 19, 20, 21, 22, 23, 24, 25, 26, 8, 9, 10, 11, 12, 13, 14, 15, 16, 17] rfl rfl ?_
    show J 37 [(1, .int (zI (rdZ By L))), (0, .ref h)] [] [xO h u ab be (Rf 0) (Rf 1) (Rf 2), ((u 0), .inr (4, [.ref (s 0), .ref (s 1), .ref (s 3), .ref (s 5), .ref (s 7)])), cO (s 0) q (((rdR By L).2.2) 21) (((rdR By L).2.2) 5) (((rdR By L).2.2) 6) (((rdR By L).2.2) 7) (((rdR By L).2.2) 8) (((rdR By L).2.2) 0), (q 0, ia Z 12 (ni Kz13)), (q 1, ia Z 12 (ni Pz14)), (q 2, ia Z 6 (ni kdz15)), (q 3, ia Z 6 (ni amz16)), (q 4, ia Z 6 (ni stz17)), (q 5, ia Z 6 (ni rgz18)), (s 1, .inr (1, [.int (nI 0), .ref (s 2)])), (s 2, ia Z 128 (ni Ro)), (s 3, .inr (3, [.int (nI 0), .int (nI 4), .int (nI 5), .ref (s 4)])), (s 4, ia Z 30 (ni Sn)), (s 5, .inr (3, [.int (nI 0), .int (nI 5), .int (nI 6), .ref (s 6)])), (s 6, ia Z 30 (ni Nt)), (s 7, .inr (3, [.int (nI 0), .int (nI 5), .int (nI 6), .ref (s 8)])), (s 8, ia Z 30 (ni Mk)), ((u 2), .inr (5, [.int (nI L), .ref (u 8), .int (nI tkz1), .int (nI fiz2), .int (nI bez3), .int nbz4, .int (nI imz5), .ref (u 9)])), ((u 8), ba Z 150 (ni By)), ((u 9), ia Z 3 Tdz6), cO (u 3) qt (((rdR By L).2.2) 21) (((rdR By L).2.2) 5) (((rdR By L).2.2) 6) (((rdR By L).2.2) 7) (((rdR By L).2.2) 8) (((rdR By L).2.2) 0), (qt 0, ia Z 12 (ni Kz13)), (qt 1, ia Z 12 (ni Pz14)), (qt 2, ia Z 6 (ni kdz15)), (qt 3, ia Z 6 (ni amz16)), (qt 4, ia Z 6 (ni stz17)), (qt 5, ia Z 6 (ni rgz18))] 0 0
    refine j_iload_n hJ (q := 38) dX8_read_37 rfl 0 rfl rfl ?_
    have hAo : rdA By L A = cp138 ((rdR By L).2.2) A := by unfold rdA; rw [if_pos hok]
    have hzz := zR_rdR hok
    have es1 : cp138 ((rdR By L).2.2) A 1 = 0 := (show (rdR By L).2.2 1 = 0 from hzz.1)
    have es2 : cp138 ((rdR By L).2.2) A 2 = 0 := (show (rdR By L).2.2 2 = 0 from hzz.2.1)
    have es3 : cp138 ((rdR By L).2.2) A 3 = 0 := (show (rdR By L).2.2 3 = 0 from hzz.2.2.1)
    have es4 : cp138 ((rdR By L).2.2) A 4 = 0 := (show (rdR By L).2.2 4 = 0 from hzz.2.2.2)
    exact hE.1 _ _ _ _ _ _ _ rfl rfl dX8_read_38 (Nat.le_refl _) (Nat.le_refl _) (⟨Kz13, Pz14, kdz15, amz16, stz17, rgz18, Ro, Sn, Nt, Mk, tkz1, fiz2, bez3, nbz4, imz5, Tdz6, (((rdR By L).2.2) 21), (((rdR By L).2.2) 5), (((rdR By L).2.2) 6), (((rdR By L).2.2) 7), (((rdR By L).2.2) 8), (((rdR By L).2.2) 0), Kz13, Pz14, kdz15, amz16, stz17, rgz18, congrArg (fun z => some (Value.int (zI z))) (by rfl), by rw [hAo, es1, es2, es3, es4] <;> rfl, by rw [hAo]; exact ⟨rR_cp hRR hwR, rX_0 ⟨es1, es2, es3, es4⟩⟩⟩)

set_option maxHeartbeats 4000000 in
set_option maxRecDepth 100000 in
theorem c_X8_level (Z : jZ) (h : Nat) (u : Nat → Nat) (ab : Int) (be : Int) (Rf : Nat → Nat) (s : Nat → Nat) (q : Nat → Nat) (A : Nat → Nat) (K : Nat → Nat) (P : Nat → Nat) (kd : Nat → Nat) (am : Nat → Nat) (st : Nat → Nat) (rg : Nat → Nat) (a : Int32) (hg : wg A) (hR : rR A K P kd am st rg) : CT Z yX8_level cX8_level 6 ((some FieldType.int)) 4 0 0 [.ref h, .int a] [xO h u ab be (Rf 0) (Rf 1) (Rf 2), (u 0, .inr (4, [.ref (s 0), .ref (s 1), .ref (s 3), .ref (s 5), .ref (s 7)])), cO (s 0) q (A 21) (A 5) (A 6) (A 7) (A 8) (A 0), (q 0, ia Z 12 (ni K)), (q 1, ia Z 12 (ni P)), (q 2, ia Z 6 (ni kd)), (q 3, ia Z 6 (ni am)), (q 4, ia Z 6 (ni st)), (q 5, ia Z 6 (ni rg))] (fun rr ww => rr = some (.int (zI (z_level A a))) ∧ ww = [xO h u ab be ((if -1 ≤ a.toInt then Rf else bmp Rf 0) 0) ((if -1 ≤ a.toInt then Rf else bmp Rf 0) 1) ((if -1 ≤ a.toInt then Rf else bmp Rf 0) 2), (u 0, .inr (4, [.ref (s 0), .ref (s 1), .ref (s 3), .ref (s 5), .ref (s 7)])), cO (s 0) q (A 21) (A 5) (A 6) (A 7) (A 8) (A 0), (q 0, ia Z 12 (ni K)), (q 1, ia Z 12 (ni P)), (q 2, ia Z 6 (ni kd)), (q 3, ia Z 6 (ni am)), (q 4, ia Z 6 (ni st)), (q 5, ia Z 6 (ni rg))]) := by
  refine CT.of RX8 false rfl (fun h => by cases h) (by decide +kernel) (Nat.le_of_ble_eq_true rfl) ?_
  intro J hJ hE
  show J 0 [(0, .ref h), (1, .int a)] [] [xO h u ab be (Rf 0) (Rf 1) (Rf 2), (u 0, .inr (4, [.ref (s 0), .ref (s 1), .ref (s 3), .ref (s 5), .ref (s 7)])), cO (s 0) q (A 21) (A 5) (A 6) (A 7) (A 8) (A 0), (q 0, ia Z 12 (ni K)), (q 1, ia Z 12 (ni P)), (q 2, ia Z 6 (ni kd)), (q 3, ia Z 6 (ni am)), (q 4, ia Z 6 (ni st)), (q 5, ia Z 6 (ni rg))] 0 0
  obtain ⟨hw, ⟨g1, g2, g3, g4, g8⟩, hrs, hrn, hrm, hpst⟩ := id hg
  obtain ⟨⟨w1, w2, w3, w4, w5, w6⟩, hb, wr, wh, wd⟩ := id hw
  have hr_a := zI_rng a
  refine j_iload_n hJ (q := 1) dX8_level_0 rfl 1 rfl rfl ?_
  refine j_iconst hJ (q := 2) dX8_level_1 rfl ki_m1 ?_
  refine jz_icmp_ge hJ (q := 5) (tgt := 10) dX8_level_2 (by decide) rfl (zI_of a) rfl (zI_rng a) (by omega) (fun c1 => ?_) (fun c1 => ?_)
  · skip
    refine j_aload_n hJ (q := 11) dX8_level_10 rfl 0 rfl rfl ?_
    refine j_get hJ (q := 14) jf_X8_10 dX8_level_11 0 rfl rfl rfl ?_
    refine j_get hJ (q := 17) jf_X8_66 dX8_level_14 1 rfl rfl rfl ?_
    refine j_astore_n hJ (q := 18) (lvs' := [(2, .ref (s 0)), (0, .ref h), (1, .int a)]) dX8_level_17 rfl (by decide) rfl rfl ?_
    refine j_iconst hJ (q := 19) dX8_level_18 rfl ki_0 ?_
    refine j_istore_n hJ (q := 20) (lvs' := [(3, .int (nI 0)), (2, .ref (s 0)), (0, .ref h), (1, .int a)]) dX8_level_19 rfl (by decide) rfl rfl ?_
    refine j_iconst hJ (q := 21) dX8_level_20 rfl ki_0 ?_
    refine j_istore hJ (q := 23) (lvs' := [(4, .int (nI 0)), (3, .int (nI 0)), (2, .ref (s 0)), (0, .ref h), (1, .int a)]) dX8_level_21 (by decide) rfl rfl ?_
    have L_23 : ∀ (fu_23 : Nat) (ct : Nat) (i : Nat), A 0 - i < fu_23 → (i ≤ A 0) → (ct ≤ 6 * i) → (lvI A a.toInt (A 0 - i) i ct = lvI A a.toInt (A 0) 0 0) → J 23 [(0, .ref h), (1, .int a), (2, .ref (s 0)), (3, .int (nI ct)), (4, .int (nI i))] [] [xO h u ab be (Rf 0) (Rf 1) (Rf 2), (u 0, .inr (4, [.ref (s 0), .ref (s 1), .ref (s 3), .ref (s 5), .ref (s 7)])), cO (s 0) q (A 21) (A 5) (A 6) (A 7) (A 8) (A 0), (q 0, ia Z 12 (ni K)), (q 1, ia Z 12 (ni P)), (q 2, ia Z 6 (ni kd)), (q 3, ia Z 6 (ni am)), (q 4, ia Z 6 (ni st)), (q 5, ia Z 6 (ni rg))] 0 0 := by
      intro fu_23
      induction fu_23 with
      | zero => intro ct i hm; exact absurd hm (Nat.not_lt_zero _)
      | succ fu_23 ih_23 =>
        intro ct i hm_23 hi hc hL
        refine j_iload hJ (q := 25) dX8_level_23 4 rfl rfl ?_
        refine j_aload_n hJ (q := 26) dX8_level_25 rfl 2 rfl rfl ?_
        refine j_get hJ (q := 29) jf_X8_69 dX8_level_26 2 rfl rfl rfl ?_
        refine jn_icmp_ge hJ (q := 32) (tgt := 103) dX8_level_29 (by decide) rfl (by omega) (by omega) (fun c2 => ?_) (fun c2 => ?_)
        · skip
          refine j_iload_n hJ (q := 104) dX8_level_103 rfl 1 rfl rfl ?_
          refine j_iconst hJ (q := 105) dX8_level_104 rfl ki_m1 ?_
          refine jz_icmp_ne hJ (q := 108) (tgt := 112) dX8_level_105 (by decide) rfl (zI_of a) rfl (zI_rng a) (by omega) (fun c3 => ?_) (fun c3 => ?_)
          · skip
            refine j_bipush hJ (q := 114) dX8_level_112 rfl kb_m5 ?_
            have hP0 : -1 ≤ a.toInt := by omega
            have hRl : lvI A a.toInt (A 0) 0 0 = .inr ct := by rw [← hL]; exact lvI_end (by omega)
            exact hE.1 _ _ _ _ _ _ _ rfl rfl dX8_level_114 (Nat.le_refl _) (Nat.le_refl _) (⟨congrArg (fun z => some (Value.int (zI z))) (by simp only [z_level, if_pos hP0]; rw [hRl]; simp only [lvz]; rw [if_neg (by omega)]), by rw [if_pos hP0] <;> rfl⟩)
          · skip
            refine j_iload_n hJ (q := 109) dX8_level_108 rfl 3 rfl rfl ?_
            refine j_goto hJ (q := 114) dX8_level_109 (by decide) ?_
            have hP0 : -1 ≤ a.toInt := by omega
            have hRl : lvI A a.toInt (A 0) 0 0 = .inr ct := by rw [← hL]; exact lvI_end (by omega)
            exact hE.1 _ _ _ _ _ _ _ rfl rfl dX8_level_114 (Nat.le_refl _) (Nat.le_refl _) (⟨congrArg (fun z => some (Value.int z)) ((zI_nat _).symm.trans (congrArg zI (by simp only [z_level, if_pos hP0]; rw [hRl]; simp only [lvz]; rw [if_pos (by omega)]))), by rw [if_pos hP0] <;> rfl⟩)
        · skip
          refine j_iload hJ (q := 34) dX8_level_32 4 rfl rfl ?_
          refine j_iconst hJ (q := 35) dX8_level_34 rfl ki_1 ?_
          refine j_iadd hJ (q := 36) dX8_level_35 rfl (nI_add _ _) ?_
          refine j_istore hJ (q := 38) (lvs' := [(5, .int (nI (i + 1))), (0, .ref h), (1, .int a), (2, .ref (s 0)), (3, .int (nI ct)), (4, .int (nI i))]) dX8_level_36 (by decide) rfl rfl ?_
          have L_38 : ∀ (fu_38 : Nat) (cu : Nat) (j : Nat), A 0 - j < fu_38 → (i < j ∧ j ≤ A 0) → (cu + i + 1 ≤ 6 * i + j) → (lvC A a.toInt i (A 0 - j) j cu = lvI A a.toInt (A 0) 0 0) → J 38 [(0, .ref h), (1, .int a), (2, .ref (s 0)), (3, .int (nI cu)), (4, .int (nI i)), (5, .int (nI j))] [] [xO h u ab be (Rf 0) (Rf 1) (Rf 2), (u 0, .inr (4, [.ref (s 0), .ref (s 1), .ref (s 3), .ref (s 5), .ref (s 7)])), cO (s 0) q (A 21) (A 5) (A 6) (A 7) (A 8) (A 0), (q 0, ia Z 12 (ni K)), (q 1, ia Z 12 (ni P)), (q 2, ia Z 6 (ni kd)), (q 3, ia Z 6 (ni am)), (q 4, ia Z 6 (ni st)), (q 5, ia Z 6 (ni rg))] 0 0 := by
            intro fu_38
            induction fu_38 with
            | zero => intro cu j hm; exact absurd hm (Nat.not_lt_zero _)
            | succ fu_38 ih_38 =>
              intro cu j hm_38 hj hc2 hLJ
              refine j_iload hJ (q := 40) dX8_level_38 5 rfl rfl ?_
              refine j_aload_n hJ (q := 41) dX8_level_40 rfl 2 rfl rfl ?_
              refine j_get hJ (q := 44) jf_X8_69 dX8_level_41 2 rfl rfl rfl ?_
              refine jn_icmp_ge hJ (q := 47) (tgt := 97) dX8_level_44 (by decide) rfl (by omega) (by omega) (fun c4 => ?_) (fun c4 => ?_)
              · skip
                refine j_iinc hJ (q := 100) (lvs' := [(4, .int (nI (i + 1))), (0, .ref h), (1, .int a), (2, .ref (s 0)), (3, .int (nI cu)), (5, .int (nI j))]) dX8_level_97 4 rfl (by rw [show Int32.ofInt 1 = nI 1 from by decide +kernel]; exact nI_add _ _) (by decide) rfl rfl ?_
                refine j_goto hJ (q := 23) dX8_level_100 (by decide) ?_
                refine j_locals hJ [1, 2, 3, 4, 0] rfl ?_
                exact ih_23 cu (i + 1) (by omega) (by omega) (by omega) (by rw [← hLJ]; exact (lvC_end (by omega)).symm)
              · skip
                obtain ⟨r1, r2, r3, r4⟩ := wr i (by omega)
                obtain ⟨s1, s2, s3, s4⟩ := wr j (by omega)
                have hh1 := wh (A (15 + i)) (by omega)
                have hh2 := wh (A (15 + j)) (by omega)
                have q1 : hghO A (A (15 + i)) ≤ 10 := hgh_le w4
                have q2 : hghO A (A (15 + j)) ≤ 10 := hgh_le w4
                refine j_aload_n hJ (q := 48) dX8_level_47 rfl 2 rfl rfl ?_
                refine j_aload_n hJ (q := 49) dX8_level_48 rfl 2 rfl rfl ?_
                refine j_get hJ (q := 52) jf_X8_144 dX8_level_49 2 rfl rfl rfl ?_
                refine j_iload hJ (q := 54) dX8_level_52 4 rfl rfl ?_
                refine j_ialdN hJ (q := 55) (z := nI (st i)) dX8_level_54 7 rfl (by omega) (by decide) rfl rfl ?_
                refine j_top (congrArg nI (rR_s hR (i := i) (by omega))) ?_
                refine j_iconst hJ (q := 56) dX8_level_55 rfl ki_0 ?_
                refine j_vR hJ (q := 59) (rest := []) (As := [.int (nI (A (15 + i))), .int (nI 0)]) jl_X8_166 (c_X4_highOn Z (s 0) q A K P kd am st rg (A (15 + i)) 0 hw hR (by omega) (by decide)) 2 rfl rfl dX8_level_56 rfl (by decide) (Nat.le_of_ble_eq_true rfl) [2, 3, 4, 5, 6, 7, 8] rfl rfl (fun rv hp => ?_)
                obtain rfl := hp
                show J 59 [(0, .ref h), (1, .int a), (2, .ref (s 0)), (3, .int (nI cu)), (4, .int (nI i)), (5, .int (nI j))] [.int (nI (hgh (A (34 + (A (15 + i)))) (A (46 + (A (15 + i)))) (A 8 + 0) (A 6)))] [xO h u ab be (Rf 0) (Rf 1) (Rf 2), (u 0, .inr (4, [.ref (s 0), .ref (s 1), .ref (s 3), .ref (s 5), .ref (s 7)])), cO (s 0) q (A 21) (A 5) (A 6) (A 7) (A 8) (A 0), (q 0, ia Z 12 (ni K)), (q 1, ia Z 12 (ni P)), (q 2, ia Z 6 (ni kd)), (q 3, ia Z 6 (ni am)), (q 4, ia Z 6 (ni st)), (q 5, ia Z 6 (ni rg))] 0 0
                refine j_top (show nI (hgh (A (34 + (A (15 + i)))) (A (46 + (A (15 + i)))) (A 8 + 0) (A 6)) = nI (hghO A (A (15 + i))) from rfl) ?_
                refine j_aload_n hJ (q := 60) dX8_level_59 rfl 2 rfl rfl ?_
                refine j_aload_n hJ (q := 61) dX8_level_60 rfl 2 rfl rfl ?_
                refine j_get hJ (q := 64) jf_X8_144 dX8_level_61 2 rfl rfl rfl ?_
                refine j_iload hJ (q := 66) dX8_level_64 5 rfl rfl ?_
                refine j_ialdN hJ (q := 67) (z := nI (st j)) dX8_level_66 7 rfl (by omega) (by decide) rfl rfl ?_
                refine j_top (congrArg nI (rR_s hR (i := j) (by omega))) ?_
                refine j_iconst hJ (q := 68) dX8_level_67 rfl ki_0 ?_
                refine j_vR hJ (q := 71) (rest := [.int (nI (hghO A (A (15 + i))))]) (As := [.int (nI (A (15 + j))), .int (nI 0)]) jl_X8_166 (c_X4_highOn Z (s 0) q A K P kd am st rg (A (15 + j)) 0 hw hR (by omega) (by decide)) 2 rfl rfl dX8_level_68 rfl (by decide) (Nat.le_of_ble_eq_true rfl) [2, 3, 4, 5, 6, 7, 8] rfl rfl (fun rv hp => ?_)
                obtain rfl := hp
                show J 71 [(0, .ref h), (1, .int a), (2, .ref (s 0)), (3, .int (nI cu)), (4, .int (nI i)), (5, .int (nI j))] [.int (nI (hgh (A (34 + (A (15 + j)))) (A (46 + (A (15 + j)))) (A 8 + 0) (A 6))), .int (nI (hghO A (A (15 + i))))] [xO h u ab be (Rf 0) (Rf 1) (Rf 2), (u 0, .inr (4, [.ref (s 0), .ref (s 1), .ref (s 3), .ref (s 5), .ref (s 7)])), cO (s 0) q (A 21) (A 5) (A 6) (A 7) (A 8) (A 0), (q 0, ia Z 12 (ni K)), (q 1, ia Z 12 (ni P)), (q 2, ia Z 6 (ni kd)), (q 3, ia Z 6 (ni am)), (q 4, ia Z 6 (ni st)), (q 5, ia Z 6 (ni rg))] 0 0
                refine j_top (show nI (hgh (A (34 + (A (15 + j)))) (A (46 + (A (15 + j)))) (A 8 + 0) (A 6)) = nI (hghO A (A (15 + j))) from rfl) ?_
                refine jn_icmp_ne hJ (q := 74) (tgt := 91) dX8_level_71 (by decide) rfl (by omega) (by omega) (fun c5 => ?_) (fun c5 => ?_)
                · skip
                  refine j_iinc hJ (q := 94) (lvs' := [(5, .int (nI (j + 1))), (0, .ref h), (1, .int a), (2, .ref (s 0)), (3, .int (nI cu)), (4, .int (nI i))]) dX8_level_91 5 rfl (by rw [show Int32.ofInt 1 = nI 1 from by decide +kernel]; exact nI_add _ _) (by decide) rfl rfl ?_
                  refine j_goto hJ (q := 38) dX8_level_94 (by decide) ?_
                  refine j_locals hJ [1, 2, 3, 4, 5, 0] rfl ?_
                  exact ih_38 cu (j + 1) (by omega) (by omega) (by omega) (by rw [← hLJ]; exact (lvC_n2 (by omega) (by omega)).symm)
                · skip
                  refine j_iload_n hJ (q := 75) dX8_level_74 rfl 3 rfl rfl ?_
                  refine j_iload_n hJ (q := 76) dX8_level_75 rfl 1 rfl rfl ?_
                  refine jz_icmp_ne hJ (q := 79) (tgt := 88) dX8_level_76 (by decide) rfl (zI_nat cu).symm (zI_of a) (by omega) (zI_rng a) (fun c6 => ?_) (fun c6 => ?_)
                  · skip
                    refine j_iinc hJ (q := 91) (lvs' := [(3, .int (nI (cu + 1))), (0, .ref h), (1, .int a), (2, .ref (s 0)), (4, .int (nI i)), (5, .int (nI j))]) dX8_level_88 3 rfl (by rw [show Int32.ofInt 1 = nI 1 from by decide +kernel]; exact nI_add _ _) (by decide) rfl rfl ?_
                    refine j_iinc hJ (q := 94) (lvs' := [(5, .int (nI (j + 1))), (3, .int (nI (cu + 1))), (0, .ref h), (1, .int a), (2, .ref (s 0)), (4, .int (nI i))]) dX8_level_91 5 rfl (by rw [show Int32.ofInt 1 = nI 1 from by decide +kernel]; exact nI_add _ _) (by decide) rfl rfl ?_
                    refine j_goto hJ (q := 38) dX8_level_94 (by decide) ?_
                    refine j_locals hJ [2, 3, 4, 1, 5, 0] rfl ?_
                    exact ih_38 (cu + 1) (j + 1) (by omega) (by omega) (by omega) (by rw [← hLJ]; exact (lvC_n1 (by omega) (by omega) (by omega)).symm)
                  · skip
                    refine j_bipush hJ (q := 81) dX8_level_79 rfl kb_10 ?_
                    refine j_iload hJ (q := 83) dX8_level_81 4 rfl rfl ?_
                    refine j_imul hJ (q := 84) dX8_level_83 rfl (pk_mul _ _) ?_
                    refine j_iload hJ (q := 86) dX8_level_84 5 rfl rfl ?_
                    refine j_iadd hJ (q := 87) dX8_level_86 rfl (nI_add _ _) ?_
                    have hP0 : -1 ≤ a.toInt := by omega
                    have hRl : lvI A a.toInt (A 0) 0 0 = .inl (10 * i + j) := by rw [← hLJ]; exact lvC_eq (by omega) (by omega) (by omega)
                    exact hE.1 _ _ _ _ _ _ _ rfl rfl dX8_level_87 (Nat.le_refl _) (Nat.le_refl _) (⟨congrArg (fun z => some (Value.int z)) ((zI_nat _).symm.trans (congrArg zI (by simp only [z_level, if_pos hP0]; rw [hRl]; rfl))), by rw [if_pos hP0] <;> rfl⟩)
          refine j_locals hJ [1, 2, 3, 4, 5, 0] rfl ?_
          exact L_38 ((A 0 - (i + 1)) + 1) ct (i + 1) (Nat.lt_succ_self _) (by omega) (by omega) (by rw [← hL]; exact (lvI_go (by omega)).symm)
    refine j_locals hJ [3, 4, 2, 1, 0] rfl ?_
    exact L_23 ((A 0 - 0) + 1) 0 0 (Nat.lt_succ_self _) (by omega) (by omega) rfl
  · skip
    refine j_aload_n hJ (q := 6) dX8_level_5 rfl 0 rfl rfl ?_
    refine j_vW hJ (q := 9) (rest := []) (As := []) (wr := [(u 0, .inr (4, [.ref (s 0), .ref (s 1), .ref (s 3), .ref (s 5), .ref (s 7)])), cO (s 0) q (A 21) (A 5) (A 6) (A 7) (A 8) (A 0), (q 0, ia Z 12 (ni K)), (q 1, ia Z 12 (ni P)), (q 2, ia Z 6 (ni kd)), (q 3, ia Z 6 (ni am)), (q 4, ia Z 6 (ni st)), (q 5, ia Z 6 (ni rg))]) jl_X8_175 (c_X8_badOfList Z h u ab be Rf ) 0 rfl rfl dX8_level_6 rfl (by decide) (Nat.le_of_ble_eq_true rfl) [0] [1, 2, 3, 4, 5, 6, 7, 8] rfl rfl rfl rfl (by decide) rfl (fun rv wv hp => ?_)
    obtain ⟨rfl, rfl⟩ := hp
    refine j_world hJ (ws' := [xO h u ab be ((bmp Rf 0) 0) ((bmp Rf 0) 1) ((bmp Rf 0) 2), (u 0, .inr (4, [.ref (s 0), .ref (s 1), .ref (s 3), .ref (s 5), .ref (s 7)])), cO (s 0) q (A 21) (A 5) (A 6) (A 7) (A 8) (A 0), (q 0, ia Z 12 (ni K)), (q 1, ia Z 12 (ni P)), (q 2, ia Z 6 (ni kd)), (q 3, ia Z 6 (ni am)), (q 4, ia Z 6 (ni st)), (q 5, ia Z 6 (ni rg))]) [8, 0, 1, 2, 3, 4, 5, 6, 7] rfl rfl ?_
    show J 9 [(0, .ref h), (1, .int a)] [.int (zI (-10))] [xO h u ab be ((bmp Rf 0) 0) ((bmp Rf 0) 1) ((bmp Rf 0) 2), (u 0, .inr (4, [.ref (s 0), .ref (s 1), .ref (s 3), .ref (s 5), .ref (s 7)])), cO (s 0) q (A 21) (A 5) (A 6) (A 7) (A 8) (A 0), (q 0, ia Z 12 (ni K)), (q 1, ia Z 12 (ni P)), (q 2, ia Z 6 (ni kd)), (q 3, ia Z 6 (ni am)), (q 4, ia Z 6 (ni st)), (q 5, ia Z 6 (ni rg))] 0 0
    have hP0 : ¬ -1 ≤ a.toInt := by omega
    exact hE.1 _ _ _ _ _ _ _ rfl rfl dX8_level_9 (Nat.le_refl _) (Nat.le_refl _) (⟨congrArg (fun z => some (Value.int (zI z))) (by simp only [z_level, if_neg hP0]), by rw [if_neg hP0] <;> rfl⟩)

set_option maxHeartbeats 4000000 in
set_option maxRecDepth 100000 in
theorem c_X8_digest (Z : jZ) (h : Nat) (u : Nat → Nat) (ab : Int) (be : Int) (Rf : Nat → Nat) (s : Nat → Nat) (q : Nat → Nat) (A : Nat → Nat) (K : Nat → Nat) (P : Nat → Nat) (kd : Nat → Nat) (am : Nat → Nat) (st : Nat → Nat) (rg : Nat → Nat) (Ro : Nat → Nat) (Sn : Nat → Nat) (Nt : Nat → Nat) (Mk : Nat → Nat) (L : Nat) (By : Nat → Nat) (tk : Nat) (fi : Nat) (be2 : Nat) (nb : Int32) (im : Nat) (hg : wg A) (hA : rA A K P kd am st rg Ro Sn Nt Mk) (hL : L ≤ 150) : CR Z yX8_digest cX8_digest 4 ((some FieldType.long)) 3 [.ref h] [xO h u ab be (Rf 0) (Rf 1) (Rf 2), (u 0, .inr (4, [.ref (s 0), .ref (s 1), .ref (s 3), .ref (s 5), .ref (s 7)])), cO (s 0) q (A 21) (A 5) (A 6) (A 7) (A 8) (A 0), (q 0, ia Z 12 (ni K)), (q 1, ia Z 12 (ni P)), (q 2, ia Z 6 (ni kd)), (q 3, ia Z 6 (ni am)), (q 4, ia Z 6 (ni st)), (q 5, ia Z 6 (ni rg)), (s 1, .inr (1, [.int (nI (A 4)), .ref (s 2)])), (s 2, ia Z 128 (ni Ro)), (s 3, .inr (3, [.int (nI (A 1)), .int (nI 4), .int (nI 5), .ref (s 4)])), (s 4, ia Z 30 (ni Sn)), (s 5, .inr (3, [.int (nI (A 2)), .int (nI 5), .int (nI 6), .ref (s 6)])), (s 6, ia Z 30 (ni Nt)), (s 7, .inr (3, [.int (nI (A 3)), .int (nI 5), .int (nI 6), .ref (s 8)])), (s 8, ia Z 30 (ni Mk)), (u 2, .inr (5, [.int (nI L), .ref (u 8), .int (nI tk), .int (nI fi), .int (nI be2), .int nb, .int (nI im), .ref (u 9)])), (u 8, ba Z 150 (ni By))] (fun rr => rr = some (.long (zL (dgs A L ab be)))) := by
  refine CR.of RX8 rfl (by decide +kernel) (Nat.le_of_ble_eq_true rfl) ?_
  intro J hJ hE
  show J 0 [(0, .ref h)] [] [xO h u ab be (Rf 0) (Rf 1) (Rf 2), (u 0, .inr (4, [.ref (s 0), .ref (s 1), .ref (s 3), .ref (s 5), .ref (s 7)])), cO (s 0) q (A 21) (A 5) (A 6) (A 7) (A 8) (A 0), (q 0, ia Z 12 (ni K)), (q 1, ia Z 12 (ni P)), (q 2, ia Z 6 (ni kd)), (q 3, ia Z 6 (ni am)), (q 4, ia Z 6 (ni st)), (q 5, ia Z 6 (ni rg)), (s 1, .inr (1, [.int (nI (A 4)), .ref (s 2)])), (s 2, ia Z 128 (ni Ro)), (s 3, .inr (3, [.int (nI (A 1)), .int (nI 4), .int (nI 5), .ref (s 4)])), (s 4, ia Z 30 (ni Sn)), (s 5, .inr (3, [.int (nI (A 2)), .int (nI 5), .int (nI 6), .ref (s 6)])), (s 6, ia Z 30 (ni Nt)), (s 7, .inr (3, [.int (nI (A 3)), .int (nI 5), .int (nI 6), .ref (s 8)])), (s 8, ia Z 30 (ni Mk)), (u 2, .inr (5, [.int (nI L), .ref (u 8), .int (nI tk), .int (nI fi), .int (nI be2), .int nb, .int (nI im), .ref (u 9)])), (u 8, ba Z 150 (ni By))] 0 0
  obtain ⟨hw, ⟨g1, g2, g3, g4, g8⟩, hrs, hrn, hrm, hpst⟩ := id hg
  obtain ⟨⟨w1, w2, w3, w4, w5, w6⟩, hb, wr, wh, wd⟩ := id hw
  obtain ⟨hR, hX⟩ := id hA
  obtain ⟨hP, hSn, hNt, hMk⟩ := id hX
  refine j_ldc2 hJ (q := 3) (v' := zL 1811) dX8_digest_0 tm_760 rfl rfl ?_
  refine j_lstore_n hJ (q := 4) (lvs' := [(1, .long (zL 1811)), (0, .ref h)]) dX8_digest_3 rfl (by decide) rfl rfl ?_
  refine j_iconst hJ (q := 5) dX8_digest_4 rfl ki_0 ?_
  refine j_istore_n hJ (q := 6) (lvs' := [(3, .int (nI 0)), (1, .long (zL 1811)), (0, .ref h)]) dX8_digest_5 rfl (by decide) rfl rfl ?_
  have L_6 : ∀ (fu_6 : Nat) (d1 : Int) (w : Nat), 12 - w < fu_6 → (w ≤ 12) → (d1 = dcN A L w) → J 6 [(0, .ref h), (1, .long (zL d1)), (3, .int (nI w))] [] [xO h u ab be (Rf 0) (Rf 1) (Rf 2), (u 0, .inr (4, [.ref (s 0), .ref (s 1), .ref (s 3), .ref (s 5), .ref (s 7)])), cO (s 0) q (A 21) (A 5) (A 6) (A 7) (A 8) (A 0), (q 0, ia Z 12 (ni K)), (q 1, ia Z 12 (ni P)), (q 2, ia Z 6 (ni kd)), (q 3, ia Z 6 (ni am)), (q 4, ia Z 6 (ni st)), (q 5, ia Z 6 (ni rg)), (s 1, .inr (1, [.int (nI (A 4)), .ref (s 2)])), (s 2, ia Z 128 (ni Ro)), (s 3, .inr (3, [.int (nI (A 1)), .int (nI 4), .int (nI 5), .ref (s 4)])), (s 4, ia Z 30 (ni Sn)), (s 5, .inr (3, [.int (nI (A 2)), .int (nI 5), .int (nI 6), .ref (s 6)])), (s 6, ia Z 30 (ni Nt)), (s 7, .inr (3, [.int (nI (A 3)), .int (nI 5), .int (nI 6), .ref (s 8)])), (s 8, ia Z 30 (ni Mk)), (u 2, .inr (5, [.int (nI L), .ref (u 8), .int (nI tk), .int (nI fi), .int (nI be2), .int nb, .int (nI im), .ref (u 9)])), (u 8, ba Z 150 (ni By))] 0 0 := by
    intro fu_6
    induction fu_6 with
    | zero => intro d1 w hm; exact absurd hm (Nat.not_lt_zero _)
    | succ fu_6 ih_6 =>
      intro d1 w hm_6 hw1 hd1
      have hct : cnt A L w < 2147483648 := cnt_lt hb w6 hL w
      refine j_iload_n hJ (q := 7) dX8_digest_6 rfl 2 rfl rfl ?_
      refine j_bipush hJ (q := 9) dX8_digest_7 rfl kb_12 ?_
      refine jn_icmp_ge hJ (q := 12) (tgt := 31) dX8_digest_9 (by decide) rfl (by omega) (by omega) (fun c1 => ?_) (fun c1 => ?_)
      · skip
        refine j_aload_n hJ (q := 32) dX8_digest_31 rfl 0 rfl rfl ?_
        refine j_get hJ (q := 35) jf_X8_10 dX8_digest_32 0 rfl rfl rfl ?_
        refine j_get hJ (q := 38) jf_X8_66 dX8_digest_35 1 rfl rfl rfl ?_
        refine j_lload_n hJ (q := 39) dX8_digest_38 rfl 1 rfl rfl ?_
        refine j_vR hJ (q := 42) (rest := []) (As := [.long (zL d1)]) jl_X8_273 (c_X4_mixInto Z (s 0) q A K P kd am st rg d1 hw hR) 2 rfl rfl dX8_digest_39 rfl (by decide) (Nat.le_of_ble_eq_true rfl) [2, 3, 4, 5, 6, 7, 8] rfl rfl (fun rv hp => ?_)
        obtain rfl := hp
        show J 42 [(0, .ref h), (1, .long (zL d1)), (3, .int (nI w))] [.long (zL (drN A (dsN A d1 (A 21)) (A 0)))] [xO h u ab be (Rf 0) (Rf 1) (Rf 2), (u 0, .inr (4, [.ref (s 0), .ref (s 1), .ref (s 3), .ref (s 5), .ref (s 7)])), cO (s 0) q (A 21) (A 5) (A 6) (A 7) (A 8) (A 0), (q 0, ia Z 12 (ni K)), (q 1, ia Z 12 (ni P)), (q 2, ia Z 6 (ni kd)), (q 3, ia Z 6 (ni am)), (q 4, ia Z 6 (ni st)), (q 5, ia Z 6 (ni rg)), (s 1, .inr (1, [.int (nI (A 4)), .ref (s 2)])), (s 2, ia Z 128 (ni Ro)), (s 3, .inr (3, [.int (nI (A 1)), .int (nI 4), .int (nI 5), .ref (s 4)])), (s 4, ia Z 30 (ni Sn)), (s 5, .inr (3, [.int (nI (A 2)), .int (nI 5), .int (nI 6), .ref (s 6)])), (s 6, ia Z 30 (ni Nt)), (s 7, .inr (3, [.int (nI (A 3)), .int (nI 5), .int (nI 6), .ref (s 8)])), (s 8, ia Z 30 (ni Mk)), (u 2, .inr (5, [.int (nI L), .ref (u 8), .int (nI tk), .int (nI fi), .int (nI be2), .int nb, .int (nI im), .ref (u 9)])), (u 8, ba Z 150 (ni By))] 0 0
        refine j_lstore_n hJ (q := 43) (lvs' := [(1, .long (zL (drN A (dsN A d1 (A 21)) (A 0)))), (0, .ref h), (3, .int (nI w))]) dX8_digest_42 rfl (by decide) rfl rfl ?_
        refine j_aload_n hJ (q := 44) dX8_digest_43 rfl 1 rfl rfl ?_
        refine j_get hJ (q := 47) jf_X8_10 dX8_digest_44 0 rfl rfl rfl ?_
        refine j_get hJ (q := 50) jf_X8_196 dX8_digest_47 1 rfl rfl rfl ?_
        refine j_lload_n hJ (q := 51) dX8_digest_50 rfl 0 rfl rfl ?_
        refine j_vR hJ (q := 54) (rest := []) (As := [.long (zL (drN A (dsN A d1 (A 21)) (A 0)))]) jl_X8_277 (c_X5_mixInto Z (s 3) (s 4) (A 1) 4 5 Sn A 58 (drN A (dsN A d1 (A 21)) (A 0)) hSn (by omega) (by omega) hb) 11 rfl rfl dX8_digest_51 rfl (by decide) (Nat.le_of_ble_eq_true rfl) [11, 12] rfl rfl (fun rv hp => ?_)
        obtain rfl := hp
        show J 54 [(1, .long (zL (drN A (dsN A d1 (A 21)) (A 0)))), (0, .ref h), (3, .int (nI w))] [.long (zL (smN A 58 (drN A (dsN A d1 (A 21)) (A 0)) (4 * (A 1))))] [xO h u ab be (Rf 0) (Rf 1) (Rf 2), (u 0, .inr (4, [.ref (s 0), .ref (s 1), .ref (s 3), .ref (s 5), .ref (s 7)])), cO (s 0) q (A 21) (A 5) (A 6) (A 7) (A 8) (A 0), (q 0, ia Z 12 (ni K)), (q 1, ia Z 12 (ni P)), (q 2, ia Z 6 (ni kd)), (q 3, ia Z 6 (ni am)), (q 4, ia Z 6 (ni st)), (q 5, ia Z 6 (ni rg)), (s 1, .inr (1, [.int (nI (A 4)), .ref (s 2)])), (s 2, ia Z 128 (ni Ro)), (s 3, .inr (3, [.int (nI (A 1)), .int (nI 4), .int (nI 5), .ref (s 4)])), (s 4, ia Z 30 (ni Sn)), (s 5, .inr (3, [.int (nI (A 2)), .int (nI 5), .int (nI 6), .ref (s 6)])), (s 6, ia Z 30 (ni Nt)), (s 7, .inr (3, [.int (nI (A 3)), .int (nI 5), .int (nI 6), .ref (s 8)])), (s 8, ia Z 30 (ni Mk)), (u 2, .inr (5, [.int (nI L), .ref (u 8), .int (nI tk), .int (nI fi), .int (nI be2), .int nb, .int (nI im), .ref (u 9)])), (u 8, ba Z 150 (ni By))] 0 0
        refine j_lstore_n hJ (q := 55) (lvs' := [(1, .long (zL (smN A 58 (drN A (dsN A d1 (A 21)) (A 0)) (4 * (A 1))))), (0, .ref h), (3, .int (nI w))]) dX8_digest_54 rfl (by decide) rfl rfl ?_
        refine j_aload_n hJ (q := 56) dX8_digest_55 rfl 1 rfl rfl ?_
        refine j_get hJ (q := 59) jf_X8_10 dX8_digest_56 0 rfl rfl rfl ?_
        refine j_get hJ (q := 62) jf_X8_217 dX8_digest_59 1 rfl rfl rfl ?_
        refine j_lload_n hJ (q := 63) dX8_digest_62 rfl 0 rfl rfl ?_
        refine j_vR hJ (q := 66) (rest := []) (As := [.long (zL (smN A 58 (drN A (dsN A d1 (A 21)) (A 0)) (4 * (A 1))))]) jl_X8_277 (c_X5_mixInto Z (s 5) (s 6) (A 2) 5 6 Nt A 78 (smN A 58 (drN A (dsN A d1 (A 21)) (A 0)) (4 * (A 1))) hNt (by omega) (by omega) hb) 13 rfl rfl dX8_digest_63 rfl (by decide) (Nat.le_of_ble_eq_true rfl) [13, 14] rfl rfl (fun rv hp => ?_)
        obtain rfl := hp
        show J 66 [(1, .long (zL (smN A 58 (drN A (dsN A d1 (A 21)) (A 0)) (4 * (A 1))))), (0, .ref h), (3, .int (nI w))] [.long (zL (smN A 78 (smN A 58 (drN A (dsN A d1 (A 21)) (A 0)) (4 * (A 1))) (5 * (A 2))))] [xO h u ab be (Rf 0) (Rf 1) (Rf 2), (u 0, .inr (4, [.ref (s 0), .ref (s 1), .ref (s 3), .ref (s 5), .ref (s 7)])), cO (s 0) q (A 21) (A 5) (A 6) (A 7) (A 8) (A 0), (q 0, ia Z 12 (ni K)), (q 1, ia Z 12 (ni P)), (q 2, ia Z 6 (ni kd)), (q 3, ia Z 6 (ni am)), (q 4, ia Z 6 (ni st)), (q 5, ia Z 6 (ni rg)), (s 1, .inr (1, [.int (nI (A 4)), .ref (s 2)])), (s 2, ia Z 128 (ni Ro)), (s 3, .inr (3, [.int (nI (A 1)), .int (nI 4), .int (nI 5), .ref (s 4)])), (s 4, ia Z 30 (ni Sn)), (s 5, .inr (3, [.int (nI (A 2)), .int (nI 5), .int (nI 6), .ref (s 6)])), (s 6, ia Z 30 (ni Nt)), (s 7, .inr (3, [.int (nI (A 3)), .int (nI 5), .int (nI 6), .ref (s 8)])), (s 8, ia Z 30 (ni Mk)), (u 2, .inr (5, [.int (nI L), .ref (u 8), .int (nI tk), .int (nI fi), .int (nI be2), .int nb, .int (nI im), .ref (u 9)])), (u 8, ba Z 150 (ni By))] 0 0
        refine j_lstore_n hJ (q := 67) (lvs' := [(1, .long (zL (smN A 78 (smN A 58 (drN A (dsN A d1 (A 21)) (A 0)) (4 * (A 1))) (5 * (A 2))))), (0, .ref h), (3, .int (nI w))]) dX8_digest_66 rfl (by decide) rfl rfl ?_
        refine j_aload_n hJ (q := 68) dX8_digest_67 rfl 1 rfl rfl ?_
        refine j_get hJ (q := 71) jf_X8_10 dX8_digest_68 0 rfl rfl rfl ?_
        refine j_get hJ (q := 74) jf_X8_220 dX8_digest_71 1 rfl rfl rfl ?_
        refine j_lload_n hJ (q := 75) dX8_digest_74 rfl 0 rfl rfl ?_
        refine j_vR hJ (q := 78) (rest := []) (As := [.long (zL (smN A 78 (smN A 58 (drN A (dsN A d1 (A 21)) (A 0)) (4 * (A 1))) (5 * (A 2))))]) jl_X8_277 (c_X5_mixInto Z (s 7) (s 8) (A 3) 5 6 Mk A 108 (smN A 78 (smN A 58 (drN A (dsN A d1 (A 21)) (A 0)) (4 * (A 1))) (5 * (A 2))) hMk (by omega) (by omega) hb) 15 rfl rfl dX8_digest_75 rfl (by decide) (Nat.le_of_ble_eq_true rfl) [15, 16] rfl rfl (fun rv hp => ?_)
        obtain rfl := hp
        show J 78 [(1, .long (zL (smN A 78 (smN A 58 (drN A (dsN A d1 (A 21)) (A 0)) (4 * (A 1))) (5 * (A 2))))), (0, .ref h), (3, .int (nI w))] [.long (zL (smN A 108 (smN A 78 (smN A 58 (drN A (dsN A d1 (A 21)) (A 0)) (4 * (A 1))) (5 * (A 2))) (5 * (A 3))))] [xO h u ab be (Rf 0) (Rf 1) (Rf 2), (u 0, .inr (4, [.ref (s 0), .ref (s 1), .ref (s 3), .ref (s 5), .ref (s 7)])), cO (s 0) q (A 21) (A 5) (A 6) (A 7) (A 8) (A 0), (q 0, ia Z 12 (ni K)), (q 1, ia Z 12 (ni P)), (q 2, ia Z 6 (ni kd)), (q 3, ia Z 6 (ni am)), (q 4, ia Z 6 (ni st)), (q 5, ia Z 6 (ni rg)), (s 1, .inr (1, [.int (nI (A 4)), .ref (s 2)])), (s 2, ia Z 128 (ni Ro)), (s 3, .inr (3, [.int (nI (A 1)), .int (nI 4), .int (nI 5), .ref (s 4)])), (s 4, ia Z 30 (ni Sn)), (s 5, .inr (3, [.int (nI (A 2)), .int (nI 5), .int (nI 6), .ref (s 6)])), (s 6, ia Z 30 (ni Nt)), (s 7, .inr (3, [.int (nI (A 3)), .int (nI 5), .int (nI 6), .ref (s 8)])), (s 8, ia Z 30 (ni Mk)), (u 2, .inr (5, [.int (nI L), .ref (u 8), .int (nI tk), .int (nI fi), .int (nI be2), .int nb, .int (nI im), .ref (u 9)])), (u 8, ba Z 150 (ni By))] 0 0
        refine j_lstore_n hJ (q := 79) (lvs' := [(1, .long (zL (smN A 108 (smN A 78 (smN A 58 (drN A (dsN A d1 (A 21)) (A 0)) (4 * (A 1))) (5 * (A 2))) (5 * (A 3))))), (0, .ref h), (3, .int (nI w))]) dX8_digest_78 rfl (by decide) rfl rfl ?_
        refine j_ldc2 hJ (q := 82) (v' := zL 31) dX8_digest_79 tm_761 rfl rfl ?_
        refine j_lload_n hJ (q := 83) dX8_digest_82 rfl 0 rfl rfl ?_
        refine j_lmul hJ (q := 84) dX8_digest_83 rfl (zL_mul _ _) ?_
        refine j_aload_n hJ (q := 85) dX8_digest_84 rfl 1 rfl rfl ?_
        refine j_get hJ (q := 88) jf_X8_27 dX8_digest_85 0 rfl rfl rfl ?_
        refine j_ladd hJ (q := 89) dX8_digest_88 rfl (zL_add _ _) ?_
        refine j_lstore_n hJ (q := 90) (lvs' := [(1, .long (zL (31 * (smN A 108 (smN A 78 (smN A 58 (drN A (dsN A d1 (A 21)) (A 0)) (4 * (A 1))) (5 * (A 2))) (5 * (A 3))) + ab))), (0, .ref h), (3, .int (nI w))]) dX8_digest_89 rfl (by decide) rfl rfl ?_
        refine j_ldc2 hJ (q := 93) (v' := zL 31) dX8_digest_90 tm_761 rfl rfl ?_
        refine j_lload_n hJ (q := 94) dX8_digest_93 rfl 0 rfl rfl ?_
        refine j_lmul hJ (q := 95) dX8_digest_94 rfl (zL_mul _ _) ?_
        refine j_aload_n hJ (q := 96) dX8_digest_95 rfl 1 rfl rfl ?_
        refine j_get hJ (q := 99) jf_X8_31 dX8_digest_96 0 rfl rfl rfl ?_
        refine j_ladd hJ (q := 100) dX8_digest_99 rfl (zL_add _ _) ?_
        exact hE.2.1 _ _ _ _ _ _ rfl dX8_digest_100 (Nat.le_refl _) (Nat.le_refl _) (congrArg (fun z => some (Value.long (zL z))) (by unfold dgs; rw [hd1, show w = 12 by omega]))
      · skip
        refine j_ldc2 hJ (q := 15) (v' := zL 31) dX8_digest_12 tm_761 rfl rfl ?_
        refine j_lload_n hJ (q := 16) dX8_digest_15 rfl 1 rfl rfl ?_
        refine j_lmul hJ (q := 17) dX8_digest_16 rfl (zL_mul _ _) ?_
        refine j_aload_n hJ (q := 18) dX8_digest_17 rfl 0 rfl rfl ?_
        refine j_iload_n hJ (q := 19) dX8_digest_18 rfl 2 rfl rfl ?_
        refine j_vR hJ (q := 22) (rest := [.long (zL (31 * d1))]) (As := [.int (nI w)]) jl_X8_266 (c_X8_howMany Z h u ab be Rf s q A K P kd am st rg Ro Sn Nt Mk L By tk fi be2 nb im w hg hA (by omega)) 0 rfl rfl dX8_digest_19 rfl (by decide) (Nat.le_of_ble_eq_true rfl) [0, 1, 2, 3, 4, 5, 6, 7, 8, 9, 10, 11, 12, 13, 14, 15, 16, 17, 18] rfl rfl (fun rv hp => ?_)
        obtain rfl := hp
        show J 22 [(0, .ref h), (1, .long (zL d1)), (3, .int (nI w))] [.int (nI (cnt A L w)), .long (zL (31 * d1))] [xO h u ab be (Rf 0) (Rf 1) (Rf 2), (u 0, .inr (4, [.ref (s 0), .ref (s 1), .ref (s 3), .ref (s 5), .ref (s 7)])), cO (s 0) q (A 21) (A 5) (A 6) (A 7) (A 8) (A 0), (q 0, ia Z 12 (ni K)), (q 1, ia Z 12 (ni P)), (q 2, ia Z 6 (ni kd)), (q 3, ia Z 6 (ni am)), (q 4, ia Z 6 (ni st)), (q 5, ia Z 6 (ni rg)), (s 1, .inr (1, [.int (nI (A 4)), .ref (s 2)])), (s 2, ia Z 128 (ni Ro)), (s 3, .inr (3, [.int (nI (A 1)), .int (nI 4), .int (nI 5), .ref (s 4)])), (s 4, ia Z 30 (ni Sn)), (s 5, .inr (3, [.int (nI (A 2)), .int (nI 5), .int (nI 6), .ref (s 6)])), (s 6, ia Z 30 (ni Nt)), (s 7, .inr (3, [.int (nI (A 3)), .int (nI 5), .int (nI 6), .ref (s 8)])), (s 8, ia Z 30 (ni Mk)), (u 2, .inr (5, [.int (nI L), .ref (u 8), .int (nI tk), .int (nI fi), .int (nI be2), .int nb, .int (nI im), .ref (u 9)])), (u 8, ba Z 150 (ni By))] 0 0
        refine j_i2l hJ (q := 23) dX8_digest_22 rfl (zL_i _ (zI_nat (cnt A L w)).symm (by omega)) ?_
        refine j_ladd hJ (q := 24) dX8_digest_23 rfl (zL_add _ _) ?_
        refine j_lstore_n hJ (q := 25) (lvs' := [(1, .long (zL (31 * d1 + ((cnt A L w) : Int)))), (0, .ref h), (3, .int (nI w))]) dX8_digest_24 rfl (by decide) rfl rfl ?_
        refine j_iinc hJ (q := 28) (lvs' := [(3, .int (nI (w + 1))), (1, .long (zL (31 * d1 + ((cnt A L w) : Int)))), (0, .ref h)]) dX8_digest_25 2 rfl (by rw [show Int32.ofInt 1 = nI 1 from by decide +kernel]; exact nI_add _ _) (by decide) rfl rfl ?_
        refine j_goto hJ (q := 6) dX8_digest_28 (by decide) ?_
        refine j_locals hJ [2, 1, 0] rfl ?_
        exact ih_6 (31 * d1 + ((cnt A L w) : Int)) (w + 1) (by omega) (by omega) (by simp only [dcN]; rw [hd1])
  refine j_locals hJ [2, 1, 0] rfl ?_
  exact L_6 ((12 - 0) + 1) 1811 0 (Nat.lt_succ_self _) (by omega) rfl
