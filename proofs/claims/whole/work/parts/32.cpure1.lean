theorem takeR_sc (A : Nat → Nat) {i : Nat} : takeR A i 21 = A (21) ∨ 5 < i := by
  rcases Nat.lt_or_ge 5 i with h | h
  · exact Or.inr h
  · exact Or.inl (takeR_ne A (by omega) (by omega))
theorem rgN_f {A B : Nat → Nat} {i : Nat} (h : ¬ B (9 + i) = A (9 + i)) : ∀ n, i < n → rgN A B n = false := by
  intro n
  induction n with
  | zero => intro h; omega
  | succ n ih =>
    intro hi
    simp only [rgN]
    by_cases hn : i = n
    · subst hn; simp [h]
    · rw [ih (by omega)]; rfl
theorem rgN_t {A B : Nat → Nat} : ∀ n, (∀ i, i < n → B (9 + i) = A (9 + i)) → rgN A B n = true := by
  intro n
  induction n with
  | zero => intro _; rfl
  | succ n ih => intro h; simp only [rgN]; rw [ih (fun i hi => h i (by omega))]; simp [h n (by omega)]
theorem rR_tick {A K P kd am st rg : Nat → Nat} (h : rR A K P kd am st rg) (h6 : A 0 ≤ 6) (h12 : A 21 ≤ 12) : rR (tick1 A) K P kd am st rg :=
  rR_of h (fun j hj => by simp only [tick1, va_up]; rw [if_neg (by omega), if_neg (by omega)]) h6 h12
