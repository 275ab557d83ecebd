abbrev num (By : Nat → Nat) (L p lo hi : Nat) : Prop := tkK By L p = 2 ∧ lo ≤ tkV By L p ∧ tkV By L p ≤ hi
theorem num_iff {By : Nat → Nat} {L p lo hi : Nat} : num By L p lo hi ↔ tkK By L p = 2 ∧ lo ≤ tkV By L p ∧ tkV By L p ≤ hi := Iff.rfl
theorem tkK_le {By : Nat → Nat} {L p : Nat} : tkK By L p ≤ 4 := by
  have := cls_12 (By p)
  unfold tkK
  (repeat' split) <;> omega
theorem isW_f {By : Nat → Nat} {L p size k : Nat} {w : Nat → Nat} (h : false = (decide (tkK By L p = 1 ∧ tkL By L p = size) && spN By p w k)) (hk : k ≤ size) : isW By L p size w = false := by
  unfold isW
  cases hd : decide (tkK By L p = 1 ∧ tkL By L p = size) with
  | false => rfl
  | true =>
    rw [hd, Bool.true_and] at h
    rw [Bool.true_and]
    exact spN_mono h.symm size hk
theorem spl_t {By : Nat → Nat} {L p size k : Nat} {w : Nat → Nat} {t : Bool} (h : t = (decide (tkK By L p = 1 ∧ tkL By L p = size) && spN By p w k)) (ht : t = true) : (tkK By L p = 1 ∧ tkL By L p = size) ∧ spN By p w k = true := by
  rw [ht] at h
  have h2 := h.symm
  rw [Bool.and_eq_true, decide_eq_true_eq] at h2
  exact h2
theorem spl_1 {By : Nat → Nat} {L p size k : Nat} {w : Nat → Nat} (h : (tkK By L p = 1 ∧ tkL By L p = size) ∧ spN By p w k = true) (hb : By (p + k) = w k) : true = (decide (tkK By L p = 1 ∧ tkL By L p = size) && spN By p w (k + 1)) := by
  simp only [spN]
  rw [decide_eq_true h.1, h.2, decide_eq_true hb]
  rfl
theorem spl_0 {By : Nat → Nat} {L p size k : Nat} {w : Nat → Nat} (hb : ¬ By (p + k) = w k) : false = (decide (tkK By L p = 1 ∧ tkL By L p = size) && spN By p w (k + 1)) := by
  simp only [spN]
  rw [decide_eq_false hb, Bool.and_false, Bool.and_false]

def thF (By : Nat → Nat) (L p : Nat) (An : Nat → Nat) : Bool × Nat × (Nat → Nat) :=
  if num By L (nx By L p) 0 (An 21 - 1) then
    if num By L (nx By L (nx By L p)) 0 5 then
      if num By L (nx By L (nx By L (nx By L p))) 0 7 then (true, nx By L (nx By L (nx By L (nx By L p))), va_up (va_up An (34 + tkV By L (nx By L p)) (tkV By L (nx By L (nx By L p)))) (46 + tkV By L (nx By L p)) (tkV By L (nx By L (nx By L (nx By L p)))))
      else (false, nx By L (nx By L (nx By L p)), An)
    else (false, nx By L (nx By L p), An)
  else (false, nx By L p, An)
def trF (By : Nat → Nat) (L p : Nat) (An : Nat → Nat) : Bool × Nat × (Nat → Nat) :=
  if An 0 = 6 then (false, p, An)
  else if num By L (nx By L p) 0 5 then
    if num By L (nx By L (nx By L p)) 1 9 then
      if who An (tkV By L (nx By L (nx By L (nx By L p)))) = none ∧ num By L (nx By L (nx By L (nx By L p))) 0 (An 21 - 1) then (true, nx By L (nx By L (nx By L (nx By L p))), layR An (tkV By L (nx By L p)) (tkV By L (nx By L (nx By L p))) (tkV By L (nx By L (nx By L (nx By L p)))))
      else (false, nx By L (nx By L (nx By L p)), An)
    else (false, nx By L (nx By L p), An)
  else (false, nx By L p, An)
def tgF (By : Nat → Nat) (L p : Nat) (An : Nat → Nat) : Bool × Nat × (Nat → Nat) :=
  if num By L (nx By L p) 0 20 then (true, nx By L (nx By L p), va_up An 7 (tkV By L (nx By L p))) else (false, nx By L p, An)
def toF (By : Nat → Nat) (L p : Nat) (An : Nat → Nat) : Bool × Nat × (Nat → Nat) :=
  if num By L (nx By L p) 1 99 then (true, nx By L (nx By L p), goN (tkV By L (nx By L p)) An) else (false, nx By L p, An)
abbrev wHorse : Nat → Nat := ltr 104 111 114 115 101 0
abbrev wRider : Nat → Nat := ltr 114 105 100 101 114 0
abbrev wRing : Nat → Nat := ltr 114 105 110 103 0 0
abbrev wGo : Nat → Nat := ltr 103 111 0 0 0 0
abbrev wRound : Nat → Nat := ltr 114 111 117 110 100 0
def tiF (By : Nat → Nat) (L p : Nat) (An : Nat → Nat) : Bool × Nat × (Nat → Nat) :=
  if isW By L p 5 wHorse = true then thF By L p An
  else if isW By L p 5 wRider = true then trF By L p An
  else if isW By L p 4 wRing = true then tgF By L p An
  else if isW By L p 2 wGo = true then toF By L p An
  else (false, p, An)
def rdF (By : Nat → Nat) (L : Nat) : Nat → Nat → (Nat → Nat) → Nat → Bool × Nat × (Nat → Nat)
  | 0, p, An, _ => (false, p, An)
  | n + 1, p, An, it => if tkK By L p = 0 then (true, it, An) else
      if (tiF By L p An).1 = true ∧ tkK By L (tiF By L p An).2.1 = 3 then rdF By L n (nx By L (tiF By L p An).2.1) (tiF By L p An).2.2 (it + 1)
      else (false, (tiF By L p An).2.1, (tiF By L p An).2.2)
/-- the round that a text tells: (true, how many items, the row), or (false, the fault, ..) -/
def rdR (By : Nat → Nat) (L : Nat) : Bool × Nat × (Nat → Nat) :=
  if isW By L (sk By L 0) 5 wRound = true then
    if num By L (nx By L (sk By L 0)) 4 12 then
      if num By L (nx By L (nx By L (sk By L 0))) 0 3 then
        if tkK By L (nx By L (nx By L (nx By L (sk By L 0)))) = 3 then rdF By L (L + 1) (nx By L (nx By L (nx By L (nx By L (sk By L 0))))) (beg (fun _ => 0) (tkV By L (nx By L (sk By L 0))) (tkV By L (nx By L (nx By L (sk By L 0))))) 1
        else (false, nx By L (nx By L (nx By L (sk By L 0))), fun _ => 0)
      else (false, nx By L (nx By L (sk By L 0)), fun _ => 0)
    else (false, nx By L (sk By L 0), fun _ => 0)
  else (false, sk By L 0, fun _ => 0)
def rdZ (By : Nat → Nat) (L : Nat) : Int := if (rdR By L).1 = true then ((rdR By L).2.1 : Int) else -10 - ((rdR By L).2.1 : Int)
def cp138 (An A : Nat → Nat) : Nat → Nat := fun j => if j < 138 then An j else A j
def rdA (By : Nat → Nat) (L : Nat) (A : Nat → Nat) : Nat → Nat := if (rdR By L).1 = true then cp138 (rdR By L).2.2 A else A
theorem beg_ext (A : Nat → Nat) (k v : Nat) : ∀ j, j < 138 → beg A k v j = beg (fun _ => 0) k v j := by
  intro j hj
  simp only [beg, va_up, zer, if_pos hj]
theorem wf_beg {A : Nat → Nat} {k v : Nat} (hA : ∀ j, A j < 100000) (hk : 4 ≤ k ∧ k ≤ 12) (hv : v ≤ 3) : wf (beg A k v) := by
  have e : ∀ j, j ≠ 7 → j ≠ 6 → j ≠ 21 → beg A k v j = if j < 138 then 0 else A j := fun j h1 h2 h3 => by simp [beg, va_up, zer, h1, h2, h3]
  have e7 : beg A k v 7 = 8 := by simp [beg, va_up]
  have e6 : beg A k v 6 = v := by simp [beg, va_up]
  have e21 : beg A k v 21 = k := by simp [beg, va_up]
  have e0 : beg A k v 0 = 0 := by simp [beg, va_up, zer]
  have e5 : beg A k v 5 = 0 := by simp [beg, va_up, zer]
  refine ⟨?_, ?_, ?_, ?_, ?_⟩
  · rw [e21, e5, e6, e7, e0]; omega
  · intro j
    by_cases h1 : j = 7
    · subst h1; omega
    · by_cases h2 : j = 6
      · subst h2; omega
      · by_cases h3 : j = 21
        · subst h3; omega
        · rw [e j h1 h2 h3]; have := hA j; split <;> omega
  · intro i hi; rw [e0] at hi; omega
  · intro s hs
    rw [e (34 + s) (by omega) (by omega) (by omega), e (46 + s) (by omega) (by omega) (by omega), if_pos (by omega), if_pos (by omega)]
    omega
  · intro i j hi; rw [e0] at hi; omega
theorem wf_goN : ∀ (n : Nat) {A : Nat → Nat}, wf A → wf (goN n A) := by
  intro n
  induction n with
  | zero => intro A h; exact h
  | succ n ih =>
    intro A h
    simp only [goN]
    split
    · exact ih (wf_goT false h (by omega))
    · exact h
theorem who_none {A : Nat → Nat} {s : Nat} : ∀ n, whoN A s n = none → ∀ i, i < n → A (15 + i) ≠ s := by
  intro n
  induction n with
  | zero => intro h i hi; omega
  | succ n ih =>
    intro h i hi
    simp only [whoN] at h
    split at h
    · cases h
    · by_cases hh : i = n
      · subst hh; assumption
      · exact ih h i (by omega)
theorem layR_at {A : Nat → Nat} {k a s : Nat} (h0 : A 0 < 6) : layR A k a s 0 = A 0 + 1 ∧ layR A k a s (22 + A 0) = k ∧ layR A k a s (28 + A 0) = a ∧ layR A k a s (15 + A 0) = s ∧ layR A k a s (9 + A 0) = 0 ∧ ∀ j, j ≠ 0 → j ≠ 22 + A 0 → j ≠ 28 + A 0 → j ≠ 15 + A 0 → j ≠ 9 + A 0 → layR A k a s j = A j := by
  refine ⟨?_, ?_, ?_, ?_, ?_, ?_⟩
  · simp [layR, va_up]
  · simp only [layR, va_up]; rw [if_neg (by omega), if_neg (by omega), if_neg (by omega), if_neg (by omega), if_pos trivial]
  · simp only [layR, va_up]; rw [if_neg (by omega), if_neg (by omega), if_neg (by omega), if_pos trivial]
  · simp only [layR, va_up]; rw [if_neg (by omega), if_neg (by omega), if_pos trivial]
  · simp only [layR, va_up]; rw [if_neg (by omega), if_pos trivial]
  · intro j h1 h2 h3 h4 h5; simp only [layR, va_up]; rw [if_neg h1, if_neg h5, if_neg h4, if_neg h3, if_neg h2]
theorem wf_layR {A : Nat → Nat} {k a s : Nat} (h : wf A) (h0 : A 0 < 6) (hk : k ≤ 5) (ha : a ≤ 9) (hs : s < A 21) (hn : who A s = none) : wf (layR A k a s) := by
  obtain ⟨e0, e1, e2, e3, e4, e⟩ := layR_at (A := A) (k := k) (a := a) (s := s) h0
  obtain ⟨⟨a1, a2, a3, a4, a5, a6⟩, hb, hr, hh, hd⟩ := h
  have hw := who_none _ hn
  refine ⟨?_, ?_, ?_, ?_, ?_⟩
  · rw [e 21 (by omega) (by omega) (by omega) (by omega) (by omega), e 5 (by omega) (by omega) (by omega) (by omega) (by omega), e 6 (by omega) (by omega) (by omega) (by omega) (by omega), e 7 (by omega) (by omega) (by omega) (by omega) (by omega), e0]
    omega
  · intro j
    by_cases h1 : j = 0
    · subst h1; omega
    · by_cases h2 : j = 22 + A 0
      · subst h2; omega
      · by_cases h3 : j = 28 + A 0
        · subst h3; omega
        · by_cases h4 : j = 15 + A 0
          · subst h4; omega
          · by_cases h5 : j = 9 + A 0
            · subst h5; omega
            · rw [e j h1 h2 h3 h4 h5]; exact hb j
  · intro i hi
    rw [e0] at hi
    rw [e 21 (by omega) (by omega) (by omega) (by omega) (by omega)]
    by_cases hi2 : i = A 0
    · subst hi2; rw [e1, e2, e3, e4]; omega
    · rw [e (15 + i) (by omega) (by omega) (by omega) (by omega) (by omega), e (22 + i) (by omega) (by omega) (by omega) (by omega) (by omega), e (28 + i) (by omega) (by omega) (by omega) (by omega) (by omega), e (9 + i) (by omega) (by omega) (by omega) (by omega) (by omega)]
      exact hr i (by omega)
  · intro t ht
    rw [e (34 + t) (by omega) (by omega) (by omega) (by omega) (by omega), e (46 + t) (by omega) (by omega) (by omega) (by omega) (by omega)]
    exact hh t ht
  · intro i j hi hj
    rw [e0] at hi hj
    by_cases hi2 : i = A 0
    · by_cases hj2 : j = A 0
      · intro _; omega
      · subst hi2; rw [e3, e (15 + j) (by omega) (by omega) (by omega) (by omega) (by omega)]
        intro hx; exact absurd hx.symm (hw j (by omega))
    · by_cases hj2 : j = A 0
      · subst hj2; rw [e3, e (15 + i) (by omega) (by omega) (by omega) (by omega) (by omega)]
        intro hx; exact absurd hx (hw i (by omega))
      · rw [e (15 + i) (by omega) (by omega) (by omega) (by omega) (by omega), e (15 + j) (by omega) (by omega) (by omega) (by omega) (by omega)]
        exact hd i j (by omega) (by omega)
theorem wf_horse {A : Nat → Nat} {s k p : Nat} (h : wf A) (hs : s < 12) (hk : k ≤ 5) (hp : p ≤ 7) : wf (va_up (va_up A (34 + s) k) (46 + s) p) := by
  obtain ⟨⟨a1, a2, a3, a4, a5, a6⟩, hb, hr, hh, hd⟩ := h
  have e : ∀ j, j ≠ 34 + s → j ≠ 46 + s → va_up (va_up A (34 + s) k) (46 + s) p j = A j := fun j h1 h2 => by simp [va_up, h1, h2]
  have e1 : va_up (va_up A (34 + s) k) (46 + s) p (34 + s) = k := by simp only [va_up]; rw [if_neg (by omega), if_pos trivial]
  have e2 : va_up (va_up A (34 + s) k) (46 + s) p (46 + s) = p := by simp [va_up]
  refine ⟨?_, ?_, ?_, ?_, ?_⟩
  · rw [e 21 (by omega) (by omega), e 5 (by omega) (by omega), e 6 (by omega) (by omega), e 7 (by omega) (by omega), e 0 (by omega) (by omega)]; exact ⟨a1, a2, a3, a4, a5, a6⟩
  · intro j
    by_cases h1 : j = 34 + s
    · subst h1; omega
    · by_cases h2 : j = 46 + s
      · subst h2; omega
      · rw [e j h1 h2]; exact hb j
  · intro i hi
    rw [e 0 (by omega) (by omega)] at hi
    rw [e (15 + i) (by omega) (by omega), e 21 (by omega) (by omega), e (22 + i) (by omega) (by omega), e (28 + i) (by omega) (by omega), e (9 + i) (by omega) (by omega)]
    exact hr i hi
  · intro t ht
    by_cases hts : t = s
    · subst hts; rw [e1, e2]; omega
    · rw [e (34 + t) (by omega) (by omega), e (46 + t) (by omega) (by omega)]; exact hh t ht
  · intro i j hi hj
    rw [e 0 (by omega) (by omega)] at hi hj
    rw [e (15 + i) (by omega) (by omega), e (15 + j) (by omega) (by omega)]
    exact hd i j hi hj
theorem wf_ring {A : Nat → Nat} {v : Nat} (h : wf A) (hv : v ≤ 20) : wf (va_up A 7 v) := by
  obtain ⟨⟨a1, a2, a3, a4, a5, a6⟩, hb, hr, hh, hd⟩ := h
  have e : ∀ j, j ≠ 7 → va_up A 7 v j = A j := fun j h1 => by simp [va_up, h1]
  have e7 : va_up A 7 v 7 = v := by simp [va_up]
  refine ⟨?_, ?_, ?_, ?_, ?_⟩
  · rw [e 21 (by decide), e 5 (by decide), e7, e 6 (by decide), e 0 (by decide)]; exact ⟨a1, a2, a3, a4, hv, a6⟩
  · intro j
    by_cases h6 : j = 7
    · subst h6; rw [e7]; omega
    · rw [e j h6]; exact hb j
  · intro i hi
    rw [e 0 (by decide)] at hi
    rw [e (15 + i) (by omega), e 21 (by decide), e (22 + i) (by omega), e (28 + i) (by omega), e (9 + i) (by omega)]
    exact hr i hi
  · intro s hs
    rw [e (34 + s) (by omega), e (46 + s) (by omega)]; exact hh s hs
  · intro i j hi hj
    rw [e 0 (by decide)] at hi hj
    rw [e (15 + i) (by omega), e (15 + j) (by omega)]
    exact hd i j hi hj
theorem wf_tiF {By : Nat → Nat} {L p : Nat} {An : Nat → Nat} (h : wf An) : wf (tiF By L p An).2.2 := by
  have h21 := h.1.2.1
  unfold tiF
  split
  · unfold thF
    split
    · rename_i c1
      split
      · rename_i c2
        split
        · rename_i c3
          exact wf_horse h (by have := c1.2.2; have := h.1.1; omega) c2.2.2 c3.2.2
        · exact h
      · exact h
    · exact h
  · split
    · unfold trF
      split
      · exact h
      · rename_i c0
        split
        · rename_i c1
          split
          · rename_i c2
            split
            · rename_i c3
              exact wf_layR h (by have := h.1.2.2.2.2.2; omega) c1.2.2 c2.2.2 (by have := c3.2.2.2; have := h.1.1; omega) c3.1
            · exact h
          · exact h
        · exact h
    · split
      · unfold tgF
        split
        · rename_i c1; exact wf_ring h c1.2.2
        · exact h
      · split
        · unfold toF
          split
          · exact wf_goN _ h
          · exact h
        · exact h
theorem tiF_in {By : Nat → Nat} {L p : Nat} {An : Nat → Nat} (h : p ≤ L) : p ≤ (tiF By L p An).2.1 ∧ (tiF By L p An).2.1 ≤ L := by
  have h1 := nx_in (By := By) h
  have h2 := nx_in (By := By) h1.2
  have h3 := nx_in (By := By) h2.2
  have h4 := nx_in (By := By) h3.2
  unfold tiF thF trF tgF toF
  (repeat' split) <;> (dsimp only; omega)
