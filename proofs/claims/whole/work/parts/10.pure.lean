/-! The reference's numbers, as plain functions of a row A : Nat → Nat (places as in the reference's own row). -/
def gal (u : Nat) : Nat := if u ≤ 4 then 3 + u else 11 - u
def hgh (k p t v : Nat) : Nat := if k = 1 then gal ((t + p) % 8) else if k = 2 then (if 4 ≤ (t + p) % 8 then 5 else 3) else if k = 3 then 3 - v else if k = 4 then gal ((t + p) % 8) + v else if k = 5 then (gal ((t + p) % 8) + 1) / 2 else 3
def rch (k a h r : Nat) : Nat := if k = 1 then (a + h) / 2 else if k = 2 then a + h + 3 else if k = 3 then (a + h) / 2 + (if r ≤ 5 then r else 5) else if k = 4 then a + h + 3 - r else if k = 5 then (if r = 0 then 2 * (a + h) else a + h) else a + h
def whoN (A : Nat → Nat) (s : Nat) : Nat → Option Nat
  | 0 => none
  | n + 1 => if A (15 + n) = s then some n else whoN A s n
def who (A : Nat → Nat) (s : Nat) : Option Nat := whoN A s (A 0)
def hghO (A : Nat → Nat) (s : Nat) : Nat := hgh (A (34 + s)) (A (46 + s)) (A 8) (A 6)
def rchO (A : Nat → Nat) (i : Nat) : Nat := rch (A (22 + i)) (A (28 + i)) (hghO A (A (15 + i))) (A (9 + i))
def plc (A : Nat → Nat) (s : Nat) : Nat := (s + A 5) % A 21
def tick1 (A : Nat → Nat) : Nat → Nat := va_up (va_up A 8 (A 8 + 1)) 5 ((A 5 + A 6) % A 21)
def rchr (A : Nat → Nat) : Option Nat := match who A ((A 21 - A 5) % A 21) with
  | none => none
  | some i => if A 7 ≤ rchO A i then some i else none
def takeR (A : Nat → Nat) (i : Nat) : Nat → Nat := va_up (va_up A (9 + i) (A (9 + i) + if A (9 + i) < 99 then 1 else 0)) 7 (A 7 + if A 7 < 20 then 1 else 0)
/-- a tick: who takes the ring, the row behind it -/
def goT (A : Nat → Nat) (sl : Bool) : Option Nat × (Nat → Nat) := match (if sl = true then none else rchr (tick1 A)) with
  | none => (none, tick1 A)
  | some i => (some i, takeR (tick1 A) i)
/-- a row as it is between calls -/
def wf (A : Nat → Nat) : Prop := (4 ≤ A 21 ∧ A 21 ≤ 12 ∧ A 5 < A 21 ∧ A 6 ≤ 3 ∧ A 7 ≤ 20 ∧ A 0 ≤ 6) ∧ (∀ j, A j < 100000) ∧ (∀ i, i < A 0 → A (15 + i) < A 21 ∧ A (22 + i) ≤ 5 ∧ A (28 + i) ≤ 9 ∧ A (9 + i) ≤ 99) ∧ (∀ s, s < 12 → A (34 + s) ≤ 5 ∧ A (46 + s) ≤ 7) ∧ (∀ i j, i < A 0 → j < A 0 → A (15 + i) = A (15 + j) → i = j)
theorem whoN_some {A : Nat → Nat} {s i : Nat} : ∀ n, whoN A s n = some i → i < n ∧ A (15 + i) = s := by
  intro n
  induction n with
  | zero => intro h; cases h
  | succ n ih =>
    intro h
    simp only [whoN] at h
    split at h
    · cases h; exact ⟨by omega, by assumption⟩
    · obtain ⟨h1, h2⟩ := ih h; exact ⟨by omega, h2⟩
theorem who_some {A : Nat → Nat} {s i : Nat} (h : who A s = some i) : i < A 0 ∧ A (15 + i) = s := whoN_some _ h
theorem wf_tick1 {A : Nat → Nat} (h : wf A) (ht : A 8 + 1 < 100000) : wf (tick1 A) := by
  obtain ⟨⟨a1, a2, a3, a4, a5, a6⟩, hb, hr, hh, hd⟩ := h
  have hm : (A 5 + A 6) % A 21 < A 21 := Nat.mod_lt _ (by omega)
  have e : ∀ j, j ≠ 5 → j ≠ 8 → tick1 A j = A j := fun j h1 h2 => by simp [tick1, va_up, h1, h2]
  have e5 : tick1 A 5 = (A 5 + A 6) % A 21 := rfl
  have e8 : tick1 A 8 = A 8 + 1 := rfl
  refine ⟨?_, ?_, ?_, ?_, ?_⟩
  · rw [e 21 (by decide) (by decide), e5, e 6 (by decide) (by decide), e 7 (by decide) (by decide), e 0 (by decide) (by decide)]
    exact ⟨a1, a2, hm, a4, a5, a6⟩
  · intro j
    by_cases h5 : j = 5
    · subst h5; rw [e5]; omega
    · by_cases h8 : j = 8
      · subst h8; rw [e8]; exact ht
      · rw [e j h5 h8]; exact hb j
  · intro i hi
    rw [e 0 (by decide) (by decide)] at hi
    rw [e (15 + i) (by omega) (by omega), e 21 (by decide) (by decide), e (22 + i) (by omega) (by omega), e (28 + i) (by omega) (by omega), e (9 + i) (by omega) (by omega)]
    exact hr i hi
  · intro s hs
    rw [e (34 + s) (by omega) (by omega), e (46 + s) (by omega) (by omega)]
    exact hh s hs
  · intro i j hi hj
    rw [e 0 (by decide) (by decide)] at hi hj
    rw [e (15 + i) (by omega) (by omega), e (15 + j) (by omega) (by omega)]
    exact hd i j hi hj
theorem wf_takeR {A : Nat → Nat} {i : Nat} (h : wf A) (hi : i < A 0) : wf (takeR A i) := by
  obtain ⟨⟨a1, a2, a3, a4, a5, a6⟩, hb, hr, hh, hd⟩ := h
  have e : ∀ j, j ≠ 7 → j ≠ 9 + i → takeR A i j = A j := fun j h1 h2 => by simp [takeR, va_up, h1, h2]
  have e7 : takeR A i 7 = A 7 + if A 7 < 20 then 1 else 0 := by simp [takeR, va_up]
  have e9 : takeR A i (9 + i) = A (9 + i) + if A (9 + i) < 99 then 1 else 0 := by
    simp only [takeR, va_up]; rw [if_neg (by omega)]; simp
  have b7 : takeR A i 7 ≤ 20 := by rw [e7]; split <;> omega
  have b9 : takeR A i (9 + i) ≤ 99 := by have := (hr i hi).2.2.2; rw [e9]; split <;> omega
  refine ⟨?_, ?_, ?_, ?_, ?_⟩
  · rw [e 21 (by decide) (by omega), e 5 (by decide) (by omega), e 6 (by decide) (by omega), e 0 (by decide) (by omega)]
    exact ⟨a1, a2, a3, a4, b7, a6⟩
  · intro j
    by_cases h7 : j = 7
    · subst h7; omega
    · by_cases h9 : j = 9 + i
      · subst h9; omega
      · rw [e j h7 h9]; exact hb j
  · intro k hk
    rw [e 0 (by decide) (by omega)] at hk
    rw [e (15 + k) (by omega) (by omega), e 21 (by decide) (by omega), e (22 + k) (by omega) (by omega), e (28 + k) (by omega) (by omega)]
    refine ⟨(hr k hk).1, (hr k hk).2.1, (hr k hk).2.2.1, ?_⟩
    by_cases hki : k = i
    · subst hki; exact b9
    · rw [e (9 + k) (by omega) (by omega)]; exact (hr k hk).2.2.2
  · intro s hs
    rw [e (34 + s) (by omega) (by omega), e (46 + s) (by omega) (by omega)]
    exact hh s hs
  · intro k j hk hj
    rw [e 0 (by decide) (by omega)] at hk hj
    rw [e (15 + k) (by omega) (by omega), e (15 + j) (by omega) (by omega)]
    exact hd k j hk hj
theorem rchr_some {A : Nat → Nat} {i : Nat} (h : rchr A = some i) : i < A 0 := by
  unfold rchr at h
  split at h
  · cases h
  · rename_i k hk
    split at h
    · cases h; exact (who_some hk).1
    · cases h
theorem tick1_0 (A : Nat → Nat) : tick1 A 0 = A 0 := rfl
theorem tick1_8 (A : Nat → Nat) : tick1 A 8 = A 8 + 1 := rfl
theorem takeR_8 (A : Nat → Nat) {i : Nat} (h : 9 ≤ 9 + i) : takeR A i 8 = A 8 := by simp only [takeR, va_up]; rw [if_neg (by decide), if_neg (by omega)]
theorem goT_8 (A : Nat → Nat) (sl : Bool) : (goT A sl).2 8 = A 8 + 1 := by
  unfold goT
  split
  · rfl
  · exact (takeR_8 _ (by omega)).trans rfl
theorem wf_goT {A : Nat → Nat} (sl : Bool) (h : wf A) (ht : A 8 + 1 < 100000) : wf (goT A sl).2 := by
  unfold goT
  split
  · exact wf_tick1 h ht
  · rename_i i hi
    refine wf_takeR (wf_tick1 h ht) ?_
    cases sl with
    | true => simp at hi
    | false => exact rchr_some (by simpa using hi)
theorem hgh_le {k p t v : Nat} (hv : v ≤ 3) : hgh k p t v ≤ 10 := by
  have h : (t + p) % 8 < 8 := Nat.mod_lt _ (by decide)
  have g : gal ((t + p) % 8) ≤ 7 := by unfold gal; split <;> omega
  unfold hgh
  repeat' split
  all_goals omega
theorem rch_le {k a h r : Nat} (ha : a ≤ 9) (hh : h ≤ 15) : rch k a h r ≤ 60 := by
  unfold rch
  repeat' split
  all_goals omega
