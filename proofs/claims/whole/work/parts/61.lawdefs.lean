/-- an image: none, or a state that holds the row B0 -/
def im1 (Z : jZ) (o : Option Nat) (k : Nat) (B0 : Nat → Nat) (I : va_W) : Prop := (o = none ∧ k = 0 ∧ I = []) ∨ (∃ (h2 : Nat) (s2 q2 B K2 P2 kd2 am2 st2 rg2 Ro2 Sn2 Nt2 Mk2 : Nat → Nat), o = some h2 ∧ ¬ k = 0 ∧ I = [(h2, .inr (4, [.ref (s2 0), .ref (s2 1), .ref (s2 3), .ref (s2 5), .ref (s2 7)])), cO (s2 0) q2 (B 21) (B 5) (B 6) (B 7) (B 8) (B 0), (q2 0, ia Z 12 (ni K2)), (q2 1, ia Z 12 (ni P2)), (q2 2, ia Z 6 (ni kd2)), (q2 3, ia Z 6 (ni am2)), (q2 4, ia Z 6 (ni st2)), (q2 5, ia Z 6 (ni rg2)), (s2 1, .inr (1, [.int (nI (B 4)), .ref (s2 2)])), (s2 2, ia Z 128 (ni Ro2)), (s2 3, .inr (3, [.int (nI (B 1)), .int (nI 4), .int (nI 5), .ref (s2 4)])), (s2 4, ia Z 30 (ni Sn2)), (s2 5, .inr (3, [.int (nI (B 2)), .int (nI 5), .int (nI 6), .ref (s2 6)])), (s2 6, ia Z 30 (ni Nt2)), (s2 7, .inr (3, [.int (nI (B 3)), .int (nI 5), .int (nI 6), .ref (s2 8)])), (s2 8, ia Z 30 (ni Mk2))] ∧ wg B ∧ rA B K2 P2 kd2 am2 st2 rg2 Ro2 Sn2 Nt2 Mk2 ∧ ∀ j, j < 266 → B0 j = B j)
def imI (Z : jZ) (fI : Nat → Option Nat) (Ik Kp : Nat → Nat) (F : va_W) : Prop := ∃ I0 I1 : va_W, F = I0 ++ I1 ∧ im1 Z (fI 0) (Ik 0) (fun j => Kp (266 * 0 + j)) I0 ∧ im1 Z (fI 1) (Ik 1) (fun j => Kp (266 * 1 + j)) I1
theorem im1_of {Z : jZ} {o o' : Option Nat} {k k' : Nat} {B0 B1 : Nat → Nat} {I : va_W} (h : im1 Z o k B0 I) (ho : o' = o) (hk : k' = k) (hB : ∀ j, j < 266 → B1 j = B0 j) : im1 Z o' k' B1 I := by
  subst ho
  subst hk
  rcases h with h | ⟨h2, s2, q2, B, K2, P2, kd2, am2, st2, rg2, Ro2, Sn2, Nt2, Mk2, e1, e2, e3, e4, e5, e6⟩
  · exact Or.inl h
  · exact Or.inr ⟨h2, s2, q2, B, K2, P2, kd2, am2, st2, rg2, Ro2, Sn2, Nt2, Mk2, e1, e2, e3, e4, e5, fun j hj => (hB j hj).trans (e6 j hj)⟩
theorem im_pick {Z : jZ} {fI : Nat → Option Nat} {Ik Kp : Nat → Nat} {F : va_W} {k : Nat} (hk : k < 2) (h : imI Z fI Ik Kp F) : ∃ Ia Ib : va_W, im1 Z (fI k) (Ik k) (fun j => Kp (266 * k + j)) Ia ∧ im1 Z (fI (1 - k)) (Ik (1 - k)) (fun j => Kp (266 * (1 - k) + j)) Ib ∧ ∀ (J : JT), JLR Z J → ∀ (pc : Nat) (lvs : List (Nat × Value)) (st : List Value) (X : va_W) (nc ns : Nat), J pc lvs st (X ++ (Ia ++ Ib)) nc ns → J pc lvs st (X ++ F) nc ns := by
  obtain ⟨I0, I1, rfl, h0, h1⟩ := h
  rcases (show k = 0 ∨ k = 1 by omega) with rfl | rfl
  · exact ⟨I0, I1, h0, h1, fun J hJ pc lvs st X nc ns K => K⟩
  · exact ⟨I1, I0, h1, h0, fun J hJ pc lvs st X nc ns K => j_swapF hJ K⟩
theorem im_put {Z : jZ} {fI : Nat → Option Nat} {Ik Kp : Nat → Nat} {Ia Ib : va_W} {k : Nat} (hk : k < 2) (ha : im1 Z (fI k) (Ik k) (fun j => Kp (266 * k + j)) Ia) (hb : im1 Z (fI (1 - k)) (Ik (1 - k)) (fun j => Kp (266 * (1 - k) + j)) Ib) : ∃ F : va_W, imI Z fI Ik Kp F ∧ ∀ (J : JT), JLR Z J → ∀ (pc : Nat) (lvs : List (Nat × Value)) (st : List Value) (X : va_W) (nc ns : Nat), J pc lvs st (X ++ F) nc ns → J pc lvs st (X ++ (Ia ++ Ib)) nc ns := by
  rcases (show k = 0 ∨ k = 1 by omega) with rfl | rfl
  · exact ⟨Ia ++ Ib, ⟨Ia, Ib, rfl, ha, hb⟩, fun J hJ pc lvs st X nc ns K => K⟩
  · exact ⟨Ib ++ Ia, ⟨Ib, Ia, rfl, hb, ha⟩, fun J hJ pc lvs st X nc ns K => j_swapF hJ K⟩
theorem im_0 (Z : jZ) : imI Z (fun _ => none) (fun _ => 0) (fun _ => 0) [] := ⟨[], [], rfl, Or.inl ⟨rfl, rfl, rfl⟩, Or.inl ⟨rfl, rfl, rfl⟩⟩
theorem k_image_lt {Kp A : Nat → Nat} (hk : ∀ j, Kp j < 100000) (hA : ∀ j, A j < 100000) (a : Int32) : ∀ j, k_image Kp A a j < 100000 := by
  intro j
  unfold k_image
  split
  · simp only [cpI]
    split
    · exact hA _
    · exact hk j
  · exact hk j
theorem i_image_lt {Ik : Nat → Nat} (hk : ∀ j, Ik j < 100000) (a : Int32) : ∀ j, i_image Ik a j < 100000 := by
  intro j
  have hj := hk j
  unfold i_image
  split
  · simp only [va_up]; split <;> omega
  · exact hj
/-- the law at pc, the script's place i: from every state of its two objects it comes to its end -/
def lwK (Z : jZ) (J : JT) (b h : Nat) (u s q qt w : Nat → Nat) (h9 : Nat) (q9 : Nat → Nat) (pc i nc ns : Nat) : Prop := ∀ (A : Nat → Nat) (K : Nat → Nat) (P : Nat → Nat) (kd : Nat → Nat) (am : Nat → Nat) (st : Nat → Nat) (rg : Nat → Nat) (Ro : Nat → Nat) (Sn : Nat → Nat) (Nt : Nat → Nat) (Mk : Nat → Nat) (ab : Int) (be : Int) (Rf : Nat → Nat) (L : Nat) (By : Nat → Nat) (tk : Nat) (fi : Nat) (be2 : Nat) (nb : Int32) (im : Nat) (Td : Nat → Int32) (t1 : Nat) (t2 : Nat) (t3 : Nat) (t4 : Nat) (t5 : Nat) (t6 : Nat) (Kt : Nat → Nat) (Pt : Nat → Nat) (kt : Nat → Nat) (mt : Nat → Nat) (stt : Nat → Nat) (gt : Nat → Nat) (lm : Int) (li : Nat) (ln : Nat) (M : Nat → Nat) (R : Nat → Nat) (Fo : Nat → Nat) (T1 : Nat → Nat) (T2 : Nat → Nat) (fI : Nat → Option Nat) (ta : Nat) (tl : Nat) (tk9 : Nat) (va : Nat) (Kp : Nat → Nat) (Ik : Nat → Nat) (Hd : Nat → Nat) (Tl : Nat → Nat) (Ts : Nat → Nat) (An : Nat → Nat) (Vs : Nat → Nat) (F : va_W), (wg A) → (rA A K P kd am st rg Ro Sn Nt Mk) → (L ≤ 150) → (∀ j, By j < 128) → (∀ j, Tl j < 100000) → (∀ j, Ik j < 100000) → (∀ j, Kp j < 100000) → (imI Z fI Ik Kp F) → J pc [(0, .ref b), (1, .ref h), (2, .ref h9), (3, .int (nI i))] [] ([xO h u ab be (Rf 0) (Rf 1) (Rf 2), (u 0, .inr (4, [.ref (s 0), .ref (s 1), .ref (s 3), .ref (s 5), .ref (s 7)])), cO (s 0) q (A 21) (A 5) (A 6) (A 7) (A 8) (A 0), (q 0, ia Z 12 (ni K)), (q 1, ia Z 12 (ni P)), (q 2, ia Z 6 (ni kd)), (q 3, ia Z 6 (ni am)), (q 4, ia Z 6 (ni st)), (q 5, ia Z 6 (ni rg)), (s 1, .inr (1, [.int (nI (A 4)), .ref (s 2)])), (s 2, ia Z 128 (ni Ro)), (s 3, .inr (3, [.int (nI (A 1)), .int (nI 4), .int (nI 5), .ref (s 4)])), (s 4, ia Z 30 (ni Sn)), (s 5, .inr (3, [.int (nI (A 2)), .int (nI 5), .int (nI 6), .ref (s 6)])), (s 6, ia Z 30 (ni Nt)), (s 7, .inr (3, [.int (nI (A 3)), .int (nI 5), .int (nI 6), .ref (s 8)])), (s 8, ia Z 30 (ni Mk)), (u 1, qa Z 2 fI), (u 2, .inr (5, [.int (nI L), .ref (u 8), .int (nI tk), .int (nI fi), .int (nI be2), .int nb, .int (nI im), .ref (u 9)])), (u 8, ba Z 150 (ni By)), (u 9, ia Z 3 Td), cO (u 3) qt t1 t2 t3 t4 t5 t6, (qt 0, ia Z 12 (ni Kt)), (qt 1, ia Z 12 (ni Pt)), (qt 2, ia Z 6 (ni kt)), (qt 3, ia Z 6 (ni mt)), (qt 4, ia Z 6 (ni stt)), (qt 5, ia Z 6 (ni gt)), (u 4, .inr (0, [.int (zI lm), .ref (w 0), .ref (w 1), .int (nI li), .int (nI ln)])), (w 0, ia Z 6 (ni M)), (w 1, ia Z 6 (ni R)), (u 5, ia Z 8 (ni Fo)), (u 6, ia Z 4 (ni T1)), (u 7, ia Z 4 (ni T2)), mO h9 q9 ab be L ta tl tk9 va, (q9 0, ia Z 266 (ni A)), (q9 1, ia Z 532 (ni Kp)), (q9 2, za Z 2 (ni Ik)), (q9 3, ia Z 3 (ni Rf)), (q9 4, ia Z 58 (ni Hd)), (q9 5, ia Z 8 (ni Tl)), (q9 6, ia Z 8 (ni Ts)), (q9 7, ia Z 150 (ni By)), (q9 8, ia Z 138 (ni An)), (q9 9, ia Z 3 (ni Vs))] ++ F) nc ns
