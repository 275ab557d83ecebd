def oz (o : Option Nat) : Int := match o with
  | none => -1
  | some i => (i : Int)
theorem oI_oz (o : Option Nat) : oI o = zI (oz o) := by
  cases o with
  | none => rfl
  | some i => exact (zI_nat i).symm
abbrev isS (A : Nat → Nat) (x : Int32) : Prop := 0 ≤ x.toInt ∧ x.toInt ≤ (A 21 : Int) - 1
abbrev isR (A : Nat → Nat) (x : Int32) : Prop := 0 ≤ x.toInt ∧ x.toInt ≤ (A 0 : Int) - 1
abbrev rgI (lo hi : Int) (x : Int32) : Prop := lo ≤ x.toInt ∧ x.toInt ≤ hi
def bmp (Rf : Nat → Nat) (k : Nat) : Nat → Nat := va_up Rf k (Rf k + 1)
/-- a row of the past -/
def pst (A : Nat → Nat) (k : Nat) : Prop := A (138 + 16 * k) < A 21 ∧ A (139 + 16 * k) ≤ 3 ∧ A (140 + 16 * k) ≤ 20 ∧ A (141 + 16 * k) ≤ 9999 ∧ (∀ i, i < A 0 → A (142 + 16 * k + i) ≤ 99 ∧ A (148 + 16 * k + i) < A 21) ∧ (∀ i j, i < A 0 → j < A 0 → A (148 + 16 * k + i) = A (148 + 16 * k + j) → i = j)
/-- the reference's row, between calls -/
def wg (A : Nat → Nat) : Prop := wf A ∧ (A 1 ≤ 5 ∧ A 2 ≤ 6 ∧ A 3 ≤ 6 ∧ A 4 ≤ 8 ∧ A 8 ≤ 9999) ∧ (∀ k, k < A 1 → A (58 + 4 * k + 2) ≤ 3) ∧ (∀ k, k < A 2 → A (78 + 5 * k + 3) ≤ 3) ∧ (∀ k, k < A 3 → A (108 + 5 * k + 1) ≤ 9 ∧ A (108 + 5 * k + 2) ≤ 15) ∧ (∀ k, k < A 4 → pst A k)
def pRound (a b : Int32) : Prop := rgI 4 12 a ∧ rgI 0 3 b
def z_round (A : Nat → Nat) (a b : Int32) : Int := if rgI 4 12 a ∧ rgI 0 3 b then (A 0 : Int) else -2
def a_round (A : Nat → Nat) (a b : Int32) : Nat → Nat := if rgI 4 12 a ∧ rgI 0 3 b then beg A (nt a) (nt b) else A
def z_horse (A : Nat → Nat) (a b c : Int32) : Int := if isS A a ∧ rgI 0 5 b ∧ rgI 0 7 c then (A (34 + nt a) : Int) else -2
def a_horse (A : Nat → Nat) (a b c : Int32) : Nat → Nat := if isS A a ∧ rgI 0 5 b ∧ rgI 0 7 c then va_up (va_up (va_up A (34 + nt a) (nt b)) (46 + nt a) (nt c)) 4 0 else A
def z_rider (A : Nat → Nat) (a b c : Int32) : Int := if rgI 0 5 a ∧ rgI 1 9 b ∧ isS A c then (if who A (nt c) = none then (if A 0 = 6 then -4 else (A 0 : Int)) else -3) else -2
def a_rider (A : Nat → Nat) (a b c : Int32) : Nat → Nat := if rgI 0 5 a ∧ rgI 1 9 b ∧ isS A c then (if who A (nt c) = none then (if A 0 = 6 then A else va_up (layR A (nt a) (nt b) (nt c)) 4 0) else A) else A
def r_rider (A Rf : Nat → Nat) (a b c : Int32) : Nat → Nat := if rgI 0 5 a ∧ rgI 1 9 b ∧ isS A c then (if who A (nt c) = none then (if A 0 = 6 then bmp Rf 2 else Rf) else bmp Rf 1) else bmp Rf 0
def z_ticks (A : Nat → Nat) (a : Int32) : Int := if rgI 1 60 a then (goN (nt a) (saved A) 5 : Int) else -2
def a_ticks (A : Nat → Nat) (a : Int32) : Nat → Nat := if rgI 1 60 a then goN (nt a) (saved A) else A
def z_speed (A : Nat → Nat) (a : Int32) : Int := if rgI 0 3 a then (if A 6 = nt a then -3 else (A 6 : Int)) else -2
def a_speed (A : Nat → Nat) (a : Int32) : Nat → Nat := if rgI 0 3 a then (if A 6 = nt a then A else va_up (saved A) 6 (nt a)) else A
def r_speed (A Rf : Nat → Nat) (a : Int32) : Nat → Nat := if rgI 0 3 a then (if A 6 = nt a then bmp Rf 1 else Rf) else bmp Rf 0
def z_hangs (A : Nat → Nat) (a : Int32) : Int := if rgI 0 20 a then (if A 7 = nt a then -3 else (A 7 : Int)) else -2
def a_hangs (A : Nat → Nat) (a : Int32) : Nat → Nat := if rgI 0 20 a then (if A 7 = nt a then A else va_up (saved A) 7 (nt a)) else A
def r_hangs (A Rf : Nat → Nat) (a : Int32) : Nat → Nat := if rgI 0 20 a then (if A 7 = nt a then bmp Rf 1 else Rf) else bmp Rf 0
def z_changes (A : Nat → Nat) (a b : Int32) : Int := if isR A a ∧ isS A b then (if who A (nt b) = none then (A (15 + nt a) : Int) else -3) else -2
def a_changes (A : Nat → Nat) (a b : Int32) : Nat → Nat := if isR A a ∧ isS A b then (if who A (nt b) = none then va_up (saved A) (15 + nt a) (nt b) else A) else A
def r_changes (A Rf : Nat → Nat) (a b : Int32) : Nat → Nat := if isR A a ∧ isS A b then (if who A (nt b) = none then Rf else bmp Rf 1) else bmp Rf 0
def resN (A : Nat → Nat) (u k : Nat) : Nat → Nat := fun j => if 5 ≤ j ∧ j < 5 + k then A (138 + 16 * u + (j - 5)) else A j
theorem resN_0 (A : Nat → Nat) (u : Nat) : A = resN A u 0 := by funext j; simp only [resN]; rw [if_neg (by omega)]
theorem resN_up (A : Nat → Nat) {u k : Nat} (hk : k < 16) : va_up (resN A u k) (5 + k) (resN A u k (138 + 16 * u + k)) = resN A u (k + 1) := by
  funext j
  simp only [va_up, resN]
  by_cases h1 : j = 5 + k
  · subst h1
    rw [if_pos rfl, if_neg (by omega), if_pos (by omega)]
    congr 1
    omega
  · rw [if_neg h1]
    by_cases h2 : 5 ≤ j ∧ j < 5 + k
    · rw [if_pos h2, if_pos (by omega)]
    · rw [if_neg h2, if_neg (by omega)]
def und (A : Nat → Nat) : Nat → Nat := resN (va_up A 4 (A 4 - 1)) (A 4 - 1) 16
def z_undo (A : Nat → Nat) : Int := if A 4 = 0 then -3 else (und A 8 : Int)
def a_undo (A : Nat → Nat) : Nat → Nat := if A 4 = 0 then A else und A
def r_undo (A Rf : Nat → Nat) : Nat → Nat := if A 4 = 0 then bmp Rf 1 else Rf
def z_of (A : Nat → Nat) (a b : Int32) : Int := if isR A a ∧ rgI 0 6 b then (if nt b = 0 then (A (22 + nt a) : Int) else if nt b = 1 then (A (28 + nt a) : Int) else if nt b = 2 then (A (15 + nt a) : Int) else if nt b = 3 then (A (9 + nt a) : Int) else if nt b = 4 then (plc A (A (15 + nt a)) : Int) else if nt b = 5 then (hghO A (A (15 + nt a)) : Int) else (rchO A (nt a) : Int)) else -2
def z_about (A : Nat → Nat) (a b : Int32) : Int := if isS A a ∧ rgI 0 3 b then (if nt b = 0 then (A (34 + nt a) : Int) else if nt b = 1 then (A (46 + nt a) : Int) else if nt b = 2 then (hghO A (nt a) : Int) else oz (who A (nt a))) else -2
def z_seen (A : Nat → Nat) (a b c d : Int32) : Int := if isS A a ∧ rgI 0 99 b ∧ rgI 0 3 c ∧ rgI 0 15 d then (if A 1 = 5 then -4 else (A 1 : Int) + 1) else -2
def lay4 (A : Nat → Nat) (t a b c d : Nat) : Nat → Nat := va_up (va_up (va_up (va_up A t a) (t + 1) b) (t + 2) c) (t + 3) d
def a_seen (A : Nat → Nat) (a b c d : Int32) : Nat → Nat := if isS A a ∧ rgI 0 99 b ∧ rgI 0 3 c ∧ rgI 0 15 d then (if A 1 = 5 then A else va_up (lay4 A (58 + 4 * A 1) (nt a) (nt b) (nt c) (nt d)) 1 (A 1 + 1)) else A
def r_seen (A Rf : Nat → Nat) (a b c d : Int32) : Nat → Nat := if isS A a ∧ rgI 0 99 b ∧ rgI 0 3 c ∧ rgI 0 15 d then (if A 1 = 5 then bmp Rf 2 else Rf) else bmp Rf 0
abbrev pNote (A : Nat → Nat) (a b c d e : Int32) : Prop := isS A a ∧ rgI 0 7 b ∧ rgI 0 99 c ∧ rgI 0 3 d ∧ rgI 0 15 e
def z_note (A : Nat → Nat) (a b c d e : Int32) : Int := if pNote A a b c d e then (if A 2 = 6 then -4 else (A 2 : Int) + 1) else -2
def a_note (A : Nat → Nat) (a b c d e : Int32) : Nat → Nat := if pNote A a b c d e then (if A 2 = 6 then A else va_up (lay5 A (78 + 5 * A 2) (nt a) (nt b) (nt c) (nt d) (nt e)) 2 (A 2 + 1)) else A
def r_note (A Rf : Nat → Nat) (a b c d e : Int32) : Nat → Nat := if pNote A a b c d e then (if A 2 = 6 then bmp Rf 2 else Rf) else bmp Rf 0
abbrev pMark (A : Nat → Nat) (a b c d e : Int32) : Prop := isR A a ∧ rgI 1 9 b ∧ rgI 0 15 c ∧ rgI 0 99 d ∧ rgI 0 60 e
def z_mark (A : Nat → Nat) (a b c d e : Int32) : Int := if pMark A a b c d e then (if A 3 = 6 then -4 else (A 3 : Int) + 1) else -2
def a_mark (A : Nat → Nat) (a b c d e : Int32) : Nat → Nat := if pMark A a b c d e then (if A 3 = 6 then A else va_up (lay5 A (108 + 5 * A 3) (nt a) (nt b) (nt c) (nt d) (nt e)) 3 (A 3 + 1)) else A
def r_mark (A Rf : Nat → Nat) (a b c d e : Int32) : Nat → Nat := if pMark A a b c d e then (if A 3 = 6 then bmp Rf 2 else Rf) else bmp Rf 0
def z_forget (A : Nat → Nat) (a : Int32) : Int := if rgI 0 2 a then (A (1 + nt a) : Int) else -2
def a_forget (A : Nat → Nat) (a : Int32) : Nat → Nat := if rgI 0 2 a then va_up A (1 + nt a) 0 else A
def z_phases (A : Nat → Nat) (a : Int32) : Int := if isS A a then (phs A (nt a) : Int) else -2
def z_is (A : Nat → Nat) (a : Int32) : Int := if isS A a then (kds A (nt a) 78 (A 2) true : Int) else -2
def z_kinds (A : Nat → Nat) (a : Int32) : Int := if isR A a then (kds A (nt a) 108 (A 3) false : Int) else -2
def z_type (bl : Nat) (a : Int32) : Int := if rgI 0 127 a then (if bl = 150 then -4 else (bl : Int) + 1) else -2
def b_type (By : Nat → Nat) (bl : Nat) (a : Int32) : Nat → Nat := if rgI 0 127 a then (if bl = 150 then By else va_up By bl (nt a)) else By
def l_type (bl : Nat) (a : Int32) : Nat := if rgI 0 127 a then (if bl = 150 then bl else bl + 1) else bl
def r_type (Rf : Nat → Nat) (bl : Nat) (a : Int32) : Nat → Nat := if rgI 0 127 a then (if bl = 150 then bmp Rf 2 else Rf) else bmp Rf 0
def z_status (Rf : Nat → Nat) (a : Int32) : Int := if rgI 0 2 a then (Rf (nt a) : Int) else -1
def z_count (A : Nat → Nat) (bl : Nat) (a : Int32) : Int := if rgI 0 11 a then (cnt A bl (nt a) : Int) else -2
def z_part (ab be : Int) (a : Int32) : Int := if a.toInt = 0 then ab else if a.toInt = 1 then be else -2
def cpI (Kp A : Nat → Nat) (b k : Nat) : Nat → Nat := fun j => if b ≤ j ∧ j < b + k then A (j - b) else Kp j
theorem cpI_0 (Kp A : Nat → Nat) (b : Nat) : Kp = cpI Kp A b 0 := by funext j; simp only [cpI]; rw [if_neg (by omega)]
theorem cpI_up (Kp A : Nat → Nat) (b k : Nat) : va_up (cpI Kp A b k) (b + k) (A k) = cpI Kp A b (k + 1) := by
  funext j
  simp only [va_up, cpI]
  by_cases h1 : j = b + k
  · subst h1
    rw [if_pos rfl, if_pos (by omega)]
    congr 1
    omega
  · rw [if_neg h1]
    by_cases h2 : b ≤ j ∧ j < b + k
    · rw [if_pos h2, if_pos (by omega)]
    · rw [if_neg h2, if_neg (by omega)]
def z_image (a : Int32) : Int := if rgI 0 1 a then 1 else -2
def k_image (Kp A : Nat → Nat) (a : Int32) : Nat → Nat := if rgI 0 1 a then cpI Kp A (266 * nt a) 266 else Kp
def i_image (Ik : Nat → Nat) (a : Int32) : Nat → Nat := if rgI 0 1 a then va_up Ik (nt a) 1 else Ik
def z_from (Ik : Nat → Nat) (a : Int32) : Int := if rgI 0 1 a then (if Ik (nt a) = 0 then -3 else 1) else -2
def a_from (A Kp Ik : Nat → Nat) (a : Int32) : Nat → Nat := if rgI 0 1 a then (if Ik (nt a) = 0 then A else fun j => Kp (266 * nt a + j)) else A
def r_from (Rf Ik : Nat → Nat) (a : Int32) : Nat → Nat := if rgI 0 1 a then (if Ik (nt a) = 0 then bmp Rf 1 else Rf) else bmp Rf 0
theorem saved_lo {A : Nat → Nat} : ∀ j, j ≠ 4 → j < 138 → saved A j = A j := by
  intro j h1 h2
  have hp : pushed A j = A j := by
    unfold pushed
    split
    · simp only [va_up, shf]; rw [if_neg h1, if_neg (by omega)]
    · rfl
  simp only [saved, va_up, put16]
  rw [if_neg h1, if_neg (by omega)]
  exact hp
theorem saved_4 {A : Nat → Nat} (h : A 4 ≤ 8) : saved A 4 ≤ 8 := by
  simp only [saved, va_up]
  rw [if_pos trivial]
  unfold pushed
  split
  · simp only [va_up]; rw [if_pos trivial]; decide
  · omega
theorem pushed_b {A : Nat → Nat} (h : ∀ j, A j < 100000) : ∀ j, pushed A j < 100000 := by
  intro j
  unfold pushed
  split
  · simp only [va_up, shf]
    have h1 := h j
    have h2 := h (j + 16)
    (repeat' split) <;> omega
  · exact h j
theorem saved_b {A : Nat → Nat} (h : ∀ j, A j < 100000) (h4 : A 4 ≤ 8) : ∀ j, saved A j < 100000 := by
  intro j
  have hp := pushed_b h
  have hs := saved_4 h4
  by_cases hj : j = 4
  · subst hj; omega
  · simp only [saved, va_up]
    rw [if_neg hj]
    simp only [put16]
    split
    · exact hp _
    · exact hp _
theorem wf_lo {A B : Nat → Nat} (h : wf A) (hB : ∀ j, B j < 100000) (he : ∀ j, j < 58 → j = 0 ∨ 5 ≤ j → B j = A j) : wf B := by
  obtain ⟨⟨a1, a2, a3, a4, a5, a6⟩, hb, hr, hh, hd⟩ := h
  have e0 := he 0 (by decide) (by decide)
  have e21 := he 21 (by decide) (by decide)
  refine ⟨?_, hB, ?_, ?_, ?_⟩
  · rw [e21, he 5 (by decide) (by decide), he 6 (by decide) (by decide), he 7 (by decide) (by decide), e0]; exact ⟨a1, a2, a3, a4, a5, a6⟩
  · intro i hi
    rw [e0] at hi
    rw [he (15 + i) (by omega) (by omega), e21, he (22 + i) (by omega) (by omega), he (28 + i) (by omega) (by omega), he (9 + i) (by omega) (by omega)]
    exact hr i hi
  · intro s hs
    rw [he (34 + s) (by omega) (by omega), he (46 + s) (by omega) (by omega)]; exact hh s hs
  · intro i j hi hj
    rw [e0] at hi hj
    rw [he (15 + i) (by omega) (by omega), he (15 + j) (by omega) (by omega)]
    exact hd i j hi hj
theorem wf_saved {A : Nat → Nat} (h : wf A) (h4 : A 4 ≤ 8) : wf (saved A) := wf_lo h (saved_b h.2.1 h4) (fun j h1 h2 => saved_lo j (by omega) (by omega))
