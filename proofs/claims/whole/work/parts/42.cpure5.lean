/-- the rest of a state: past, seen, notes, marks -/
def rX (A Ro Sn Nt Mk : Nat → Nat) : Prop := rP A Ro ∧ rC A Sn 58 4 (A 1) ∧ rC A Nt 78 5 (A 2) ∧ rC A Mk 108 5 (A 3)
def rA (A K P kd am st rg Ro Sn Nt Mk : Nat → Nat) : Prop := rR A K P kd am st rg ∧ rX A Ro Sn Nt Mk
theorem rP_of {A B Ro : Nat → Nat} (h : rP A Ro) (e : ∀ j, j = 0 ∨ j = 4 ∨ 138 ≤ j → B j = A j) : rP B Ro := by
  intro k hk
  rw [e 4 (by omega)] at hk
  rw [e 0 (by omega)]
  obtain ⟨p1, p2⟩ := h k hk
  exact ⟨fun t ht => by rw [e _ (by omega)]; exact p1 t ht, fun i hi => ⟨by rw [e _ (by omega)]; exact (p2 i hi).1, by rw [e _ (by omega)]; exact (p2 i hi).2⟩⟩
theorem rC_of {A B C : Nat → Nat} {fr w sz : Nat} (h : rC A C fr w sz) (e : ∀ j, fr ≤ j → B j = A j) : rC B C fr w sz := fun r hr c hc => by rw [e _ (by omega)]; exact h r hr c hc
theorem rX_of {A B Ro Sn Nt Mk : Nat → Nat} (h : rX A Ro Sn Nt Mk) (e : ∀ j, j < 5 ∨ 58 ≤ j → B j = A j) : rX B Ro Sn Nt Mk := by
  obtain ⟨h1, h2, h3, h4⟩ := h
  refine ⟨rP_of h1 (fun j hj => e j (by omega)), ?_, ?_, ?_⟩
  · rw [e 1 (by omega)]; exact rC_of h2 (fun j hj => e j (by omega))
  · rw [e 2 (by omega)]; exact rC_of h3 (fun j hj => e j (by omega))
  · rw [e 3 (by omega)]; exact rC_of h4 (fun j hj => e j (by omega))
theorem rP_0 {A Ro : Nat → Nat} (h : A 4 = 0) : rP A Ro := fun k hk => by omega
theorem rX_0 {A Ro Sn Nt Mk : Nat → Nat} (h : A 1 = 0 ∧ A 2 = 0 ∧ A 3 = 0 ∧ A 4 = 0) : rX A Ro Sn Nt Mk :=
  ⟨rP_0 h.2.2.2, fun r hr => by omega, fun r hr => by omega, fun r hr => by omega⟩
/-- the past is dropped, or changed: the rows of seen, notes, marks stay -/
theorem rX_p {A B Ro Rz Sn Nt Mk : Nat → Nat} (h : rX A Ro Sn Nt Mk) (hp : rP B Rz) (e : ∀ j, j = 1 ∨ j = 2 ∨ j = 3 ∨ (58 ≤ j ∧ j < 138) → B j = A j) (hs : A 1 ≤ 5 ∧ A 2 ≤ 6 ∧ A 3 ≤ 6) : rX B Rz Sn Nt Mk := by
  obtain ⟨h1, h2, h3, h4⟩ := h
  refine ⟨hp, ?_, ?_, ?_⟩
  · rw [e 1 (by omega)]; exact fun r hr c hc => by rw [e _ (by omega)]; exact h2 r hr c hc
  · rw [e 2 (by omega)]; exact fun r hr c hc => by rw [e _ (by omega)]; exact h3 r hr c hc
  · rw [e 3 (by omega)]; exact fun r hr c hc => by rw [e _ (by omega)]; exact h4 r hr c hc
theorem goT_hi {A : Nat → Nat} {sl : Bool} (h6 : A 0 ≤ 6) {j : Nat} (hj : j < 5 ∨ j = 6 ∨ 15 ≤ j) : (goT A sl).2 j = A j := by
  unfold goT
  split
  · simp only [tick1, va_up]; rw [if_neg (by omega), if_neg (by omega)]
  · rename_i i hi
    have hl : i < A 0 := by
      split at hi
      · cases hi
      · exact (show i < tick1 A 0 from rchr_some hi)
    show takeR (tick1 A) i j = A j
    rw [takeR_ne _ (by omega) (by omega)]
    simp only [tick1, va_up]; rw [if_neg (by omega), if_neg (by omega)]
theorem goN_hi : ∀ (n : Nat) {A : Nat → Nat} (h6 : A 0 ≤ 6) {j : Nat} (hj : j < 5 ∨ j = 6 ∨ 15 ≤ j), goN n A j = A j := by
  intro n
  induction n with
  | zero => intro A h6 j hj; rfl
  | succ n ih =>
    intro A h6 j hj
    simp only [goN]
    split
    · rw [ih (by rw [goT_hi h6 (by omega)]; exact h6) hj, goT_hi h6 hj]
    · rfl
theorem svd_hi {A : Nat → Nat} (h4 : A 4 ≤ 8) {j : Nat} (hj : 58 ≤ j ∧ j < 138) : saved A j = A j := svd_lo hj.2 (by omega)
theorem rC_add {A C : Nat → Nat} {fr w sz : Nat} {B D : Nat → Nat} (h : rC A C fr w sz) (e1 : ∀ r, r < sz → ∀ c, c < w → D (r * 5 + c) = C (r * 5 + c) ∧ B (fr + (w * r + c)) = A (fr + (w * r + c))) (e2 : ∀ c, c < w → D (sz * 5 + c) = B (fr + (w * sz + c))) : rC B D fr w (sz + 1) := by
  intro r hr c hc
  by_cases hrs : r = sz
  · subst hrs; exact e2 c hc
  · obtain ⟨a1, a2⟩ := e1 r (by omega) c hc
    rw [a1, a2]
    exact h r (by omega) c hc
theorem lay5_lt {A : Nat → Nat} {t a b c d e j : Nat} (h : j < t) : lay5 A t a b c d e j = A j := by
  simp only [lay5, va_up]
  rw [if_neg (by omega), if_neg (by omega), if_neg (by omega), if_neg (by omega), if_neg (by omega)]
theorem lay5_at {A : Nat → Nat} {t a b c d e : Nat} : lay5 A t a b c d e t = a ∧ lay5 A t a b c d e (t + 1) = b ∧ lay5 A t a b c d e (t + 2) = c ∧ lay5 A t a b c d e (t + 3) = d ∧ lay5 A t a b c d e (t + 4) = e := by
  refine ⟨?_, ?_, ?_, ?_, ?_⟩ <;> simp [lay5, va_up]
theorem lay5_ge {A : Nat → Nat} {t a b c d e j : Nat} (h : t + 5 ≤ j) : lay5 A t a b c d e j = A j := by
  simp only [lay5, va_up]
  rw [if_neg (by omega), if_neg (by omega), if_neg (by omega), if_neg (by omega), if_neg (by omega)]
theorem lay4_lt {A : Nat → Nat} {t a b c d j : Nat} (h : j < t ∨ t + 4 ≤ j) : lay4 A t a b c d j = A j := by
  simp only [lay4, va_up]
  rw [if_neg (by omega), if_neg (by omega), if_neg (by omega), if_neg (by omega)]
theorem lay4_at {A : Nat → Nat} {t a b c d : Nat} : lay4 A t a b c d t = a ∧ lay4 A t a b c d (t + 1) = b ∧ lay4 A t a b c d (t + 2) = c ∧ lay4 A t a b c d (t + 3) = d := by
  refine ⟨?_, ?_, ?_, ?_⟩ <;> simp [lay4, va_up]
/-- the component's own object -/
abbrev xO (h : Nat) (u : Nat → Nat) (ab be : Int) (r0 r1 r2 : Nat) : Nat × va_E := (h, .inr (6, [.ref (u 0), .ref (u 1), .ref (u 2), .long (zL ab), .long (zL be), .int (nI r0), .int (nI r1), .int (nI r2), .ref (u 3), .ref (u 4), .ref (u 5), .ref (u 6), .ref (u 7)]))
section ROWS
variable {A K P kd am st rg Ro Sn Nt Mk : Nat → Nat}
theorem rX_seen {a b c d : Nat} (h : rX A Ro Sn Nt Mk) (hs : A 1 < 5) : rX (va_up (lay4 A (58 + 4 * A 1) a b c d) 1 (A 1 + 1)) Ro (lay5 Sn (A 1 * 5) a b c d 0) Nt Mk := by
  obtain ⟨h1, h2, h3, h4⟩ := h
  have e : ∀ j, j ≠ 1 → j < 58 ∨ 78 ≤ j → va_up (lay4 A (58 + 4 * A 1) a b c d) 1 (A 1 + 1) j = A j := fun j g1 g2 => by simp only [va_up]; rw [if_neg g1]; exact lay4_lt (by omega)
  have e1 : va_up (lay4 A (58 + 4 * A 1) a b c d) 1 (A 1 + 1) 1 = A 1 + 1 := rfl
  refine ⟨rP_of h1 (fun j hj => e j (by omega) (by omega)), ?_, ?_, ?_⟩
  · rw [e1]
    refine rC_add h2 (fun r hr c hc => ⟨lay5_lt (by omega), ?_⟩) (fun k hk => ?_)
    · simp only [va_up]; rw [if_neg (by omega)]; exact lay4_lt (by omega)
    · obtain ⟨p0, p1, p2, p3, -⟩ := lay5_at (A := Sn) (t := A 1 * 5) (a := a) (b := b) (c := c) (d := d) (e := 0)
      obtain ⟨q0, q1, q2, q3⟩ := lay4_at (A := A) (t := 58 + 4 * A 1) (a := a) (b := b) (c := c) (d := d)
      have ev : va_up (lay4 A (58 + 4 * A 1) a b c d) 1 (A 1 + 1) (58 + (4 * A 1 + k)) = lay4 A (58 + 4 * A 1) a b c d (58 + 4 * A 1 + k) := by simp only [va_up]; rw [if_neg (by omega), show 58 + (4 * A 1 + k) = 58 + 4 * A 1 + k by omega]
      rw [ev]
      rcases (show k = 0 ∨ k = 1 ∨ k = 2 ∨ k = 3 by omega) with h | h | h | h <;> subst h
      · exact p0.trans q0.symm
      · exact p1.trans q1.symm
      · exact p2.trans q2.symm
      · exact p3.trans q3.symm
  · rw [e 2 (by omega) (by omega)]; exact rC_of h3 (fun j hj => e j (by omega) (by omega))
  · rw [e 3 (by omega) (by omega)]; exact rC_of h4 (fun j hj => e j (by omega) (by omega))
theorem rX_note {a b c d x : Nat} (h : rX A Ro Sn Nt Mk) (hs : A 2 < 6) (h1' : A 1 ≤ 5) : rX (va_up (lay5 A (78 + 5 * A 2) a b c d x) 2 (A 2 + 1)) Ro Sn (lay5 Nt (A 2 * 5) a b c d x) Mk := by
  obtain ⟨h1, h2, h3, h4⟩ := h
  have e : ∀ j, j ≠ 2 → j < 78 ∨ 108 ≤ j → va_up (lay5 A (78 + 5 * A 2) a b c d x) 2 (A 2 + 1) j = A j := fun j g1 g2 => by
    simp only [va_up]; rw [if_neg g1]
    rcases g2 with g | g
    · exact lay5_lt (by omega)
    · exact lay5_ge (by omega)
  have e1 : va_up (lay5 A (78 + 5 * A 2) a b c d x) 2 (A 2 + 1) 2 = A 2 + 1 := rfl
  refine ⟨rP_of h1 (fun j hj => e j (by omega) (by omega)), ?_, ?_, ?_⟩
  · rw [e 1 (by omega) (by omega)]; exact fun r hr c hc => by rw [e _ (by omega) (by omega)]; exact h2 r hr c hc
  · rw [e1]
    refine rC_add h3 (fun r hr c hc => ⟨lay5_lt (by omega), ?_⟩) (fun k hk => ?_)
    · simp only [va_up]; rw [if_neg (by omega)]; exact lay5_lt (by omega)
    · obtain ⟨p0, p1, p2, p3, p4⟩ := lay5_at (A := Nt) (t := A 2 * 5) (a := a) (b := b) (c := c) (d := d) (e := x)
      obtain ⟨q0, q1, q2, q3, q4⟩ := lay5_at (A := A) (t := 78 + 5 * A 2) (a := a) (b := b) (c := c) (d := d) (e := x)
      have ev : va_up (lay5 A (78 + 5 * A 2) a b c d x) 2 (A 2 + 1) (78 + (5 * A 2 + k)) = lay5 A (78 + 5 * A 2) a b c d x (78 + 5 * A 2 + k) := by simp only [va_up]; rw [if_neg (by omega), show 78 + (5 * A 2 + k) = 78 + 5 * A 2 + k by omega]
      rw [ev]
      rcases (show k = 0 ∨ k = 1 ∨ k = 2 ∨ k = 3 ∨ k = 4 by omega) with h | h | h | h | h <;> subst h
      · exact p0.trans q0.symm
      · exact p1.trans q1.symm
      · exact p2.trans q2.symm
      · exact p3.trans q3.symm
      · exact p4.trans q4.symm
  · rw [e 3 (by omega) (by omega)]; exact rC_of h4 (fun j hj => e j (by omega) (by omega))
theorem rX_mark {a b c d x : Nat} (h : rX A Ro Sn Nt Mk) (hs : A 3 < 6) (h1' : A 1 ≤ 5) (h2' : A 2 ≤ 6) : rX (va_up (lay5 A (108 + 5 * A 3) a b c d x) 3 (A 3 + 1)) Ro Sn Nt (lay5 Mk (A 3 * 5) a b c d x) := by
  obtain ⟨h1, h2, h3, h4⟩ := h
  have e : ∀ j, j ≠ 3 → j < 108 ∨ 138 ≤ j → va_up (lay5 A (108 + 5 * A 3) a b c d x) 3 (A 3 + 1) j = A j := fun j g1 g2 => by
    simp only [va_up]; rw [if_neg g1]
    rcases g2 with g | g
    · exact lay5_lt (by omega)
    · exact lay5_ge (by omega)
  have e1 : va_up (lay5 A (108 + 5 * A 3) a b c d x) 3 (A 3 + 1) 3 = A 3 + 1 := rfl
  refine ⟨rP_of h1 (fun j hj => e j (by omega) (by omega)), ?_, ?_, ?_⟩
  · rw [e 1 (by omega) (by omega)]; exact fun r hr c hc => by rw [e _ (by omega) (by omega)]; exact h2 r hr c hc
  · rw [e 2 (by omega) (by omega)]; exact fun r hr c hc => by rw [e _ (by omega) (by omega)]; exact h3 r hr c hc
  · rw [e1]
    refine rC_add h4 (fun r hr c hc => ⟨lay5_lt (by omega), ?_⟩) (fun k hk => ?_)
    · simp only [va_up]; rw [if_neg (by omega)]; exact lay5_lt (by omega)
    · obtain ⟨p0, p1, p2, p3, p4⟩ := lay5_at (A := Mk) (t := A 3 * 5) (a := a) (b := b) (c := c) (d := d) (e := x)
      obtain ⟨q0, q1, q2, q3, q4⟩ := lay5_at (A := A) (t := 108 + 5 * A 3) (a := a) (b := b) (c := c) (d := d) (e := x)
      have ev : va_up (lay5 A (108 + 5 * A 3) a b c d x) 3 (A 3 + 1) (108 + (5 * A 3 + k)) = lay5 A (108 + 5 * A 3) a b c d x (108 + 5 * A 3 + k) := by simp only [va_up]; rw [if_neg (by omega), show 108 + (5 * A 3 + k) = 108 + 5 * A 3 + k by omega]
      rw [ev]
      rcases (show k = 0 ∨ k = 1 ∨ k = 2 ∨ k = 3 ∨ k = 4 by omega) with h | h | h | h | h <;> subst h
      · exact p0.trans q0.symm
      · exact p1.trans q1.symm
      · exact p2.trans q2.symm
      · exact p3.trans q3.symm
      · exact p4.trans q4.symm
theorem rR_seat {i s : Nat} (h : rR A K P kd am st rg) (hi : i < A 0) (h6 : A 0 ≤ 6) (h12 : A 21 ≤ 12) : rR (va_up A (15 + i) s) K P kd am (va_up st i s) rg := by
  have e : ∀ j, j ≠ 15 + i → va_up A (15 + i) s j = A j := fun j h1 => by simp [va_up, h1]
  refine ⟨fun t ht => ?_, fun k hk => ?_⟩
  · rw [e 21 (by omega)] at ht
    rw [e (34 + t) (by omega), e (46 + t) (by omega)]
    exact h.1 t ht
  · rw [e 0 (by omega)] at hk
    rw [e (22 + k) (by omega), e (28 + k) (by omega), e (9 + k) (by omega)]
    refine ⟨(h.2 k hk).1, (h.2 k hk).2.1, ?_, (h.2 k hk).2.2.2⟩
    by_cases hki : k = i
    · subst hki; simp [va_up]
    · rw [e (15 + k) (by omega)]; simp only [va_up]; rw [if_neg hki]; exact (h.2 k hk).2.2.1
end ROWS
