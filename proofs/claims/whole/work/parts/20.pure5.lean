def cpK (B A : Nat → Nat) (k : Nat) : Nat → Nat := fun j => if j < k then B j else A j
theorem cpK_0 (B A : Nat → Nat) : A = cpK B A 0 := by funext j; simp [cpK]
theorem cpK_up (B A : Nat → Nat) (k : Nat) : va_up (cpK B A k) k (B k) = cpK B A (k + 1) := by
  funext j
  simp only [va_up, cpK]
  by_cases h : j = k
  · subst h; rw [if_pos rfl, if_pos (by omega)]
  · rw [if_neg h]
    by_cases h2 : j < k
    · rw [if_pos h2, if_pos (by omega)]
    · rw [if_neg h2, if_neg (by omega)]
theorem rd_ok {By : Nat → Nat} {L it : Nat} {B : Nat → Nat} (h : rdR By L = (true, it, B)) (A : Nat → Nat) : rdZ By L = it ∧ rdA By L A = cpK B A 138 := by
  unfold rdZ rdA
  rw [h]
  exact ⟨rfl, rfl⟩
theorem rd_no {By : Nat → Nat} {L it : Nat} {B : Nat → Nat} (h : rdR By L = (false, it, B)) (A : Nat → Nat) : rdZ By L = -10 - (it : Int) ∧ rdA By L A = A := by
  unfold rdZ rdA
  rw [h]
  exact ⟨rfl, rfl⟩
