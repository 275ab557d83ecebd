/-- the past's rows hold A's where they are live -/
def rP (A Ro : Nat → Nat) : Prop := ∀ k, k < A 4 → (∀ t, t < 4 → Ro (16 * k + t) = A (138 + 16 * k + t)) ∧ (∀ i, i < A 0 → Ro (16 * k + 4 + i) = A (148 + 16 * k + i) ∧ Ro (16 * k + 10 + i) = A (142 + 16 * k + i))
def kpR (R st rg : Nat → Nat) (t an sp ri ti : Nat) : Nat → Nat := va_cpy rg (va_cpy st (va_up (va_up (va_up (va_up R t an) (t + 1) sp) (t + 2) ri) (t + 3) ti) 0 (t + 4) 6) 0 (t + 4 + 6) 6
section KP
variable {R st rg : Nat → Nat} {t an sp ri ti : Nat}
theorem kpR_lt {j : Nat} (h : j < t) : kpR R st rg t an sp ri ti j = R j := by
  simp only [kpR, va_cpy, va_up]
  rw [if_neg (by omega), if_neg (by omega), if_neg (by omega), if_neg (by omega), if_neg (by omega), if_neg (by omega)]
theorem kpR_0 : kpR R st rg t an sp ri ti t = an := by
  simp only [kpR, va_cpy, va_up]
  rw [if_neg (by omega), if_neg (by omega), if_neg (by omega), if_neg (by omega), if_neg (by omega), if_pos trivial]
theorem kpR_1 : kpR R st rg t an sp ri ti (t + 1) = sp := by
  simp only [kpR, va_cpy, va_up]
  rw [if_neg (by omega), if_neg (by omega), if_neg (by omega), if_neg (by omega), if_pos trivial]
theorem kpR_2 : kpR R st rg t an sp ri ti (t + 2) = ri := by
  simp only [kpR, va_cpy, va_up]
  rw [if_neg (by omega), if_neg (by omega), if_neg (by omega), if_pos trivial]
theorem kpR_3 : kpR R st rg t an sp ri ti (t + 3) = ti := by
  simp only [kpR, va_cpy, va_up]
  rw [if_neg (by omega), if_neg (by omega), if_pos trivial]
theorem kpR_s {i : Nat} (h : i < 6) : kpR R st rg t an sp ri ti (t + 4 + i) = st i := by
  simp only [kpR, va_cpy]
  rw [if_neg (by omega), if_pos (by omega)]
  congr 1
  omega
theorem kpR_r {i : Nat} (h : i < 6) : kpR R st rg t an sp ri ti (t + 10 + i) = rg i := by
  simp only [kpR, va_cpy]
  rw [if_pos (by omega)]
  congr 1
  omega
end KP
theorem rP_put {B R st rg : Nat → Nat} (hP : rP B R) (hu : B 4 < 8) (h0 : B 0 ≤ 6) (hst : ∀ i, i < B 0 → st i = B (15 + i)) (hrg : ∀ i, i < B 0 → rg i = B (9 + i)) : rP (va_up (put16 B (B 4) 16) 4 (B 4 + 1)) (kpR R st rg (B 4 * 16) (B 5) (B 6) (B 7) (B 8)) := by
  intro k hk
  have e4 : va_up (put16 B (B 4) 16) 4 (B 4 + 1) 4 = B 4 + 1 := rfl
  have e0 : va_up (put16 B (B 4) 16) 4 (B 4 + 1) 0 = B 0 := by simp only [va_up, put16]; rw [if_neg (by decide), if_neg (by omega)]
  rw [e4] at hk
  rw [e0]
  have lo : ∀ j, 138 ≤ j → j < 138 + 16 * B 4 → va_up (put16 B (B 4) 16) 4 (B 4 + 1) j = B j := fun j h1 h2 => by simp only [va_up, put16]; rw [if_neg (by omega), if_neg (by omega)]
  have hi : ∀ t, t < 16 → va_up (put16 B (B 4) 16) 4 (B 4 + 1) (138 + 16 * B 4 + t) = B (5 + t) := fun t ht => by simp only [va_up, put16]; rw [if_neg (by omega), if_pos (by omega)]; congr 1; omega
  by_cases hku : k = B 4
  · subst hku
    refine ⟨fun t ht => ?_, fun i hi' => ⟨?_, ?_⟩⟩
    · rw [hi t (by omega), show 16 * B 4 + t = B 4 * 16 + t by omega]
      rcases (show t = 0 ∨ t = 1 ∨ t = 2 ∨ t = 3 by omega) with h | h | h | h <;> subst h
      · exact kpR_0
      · exact kpR_1
      · exact kpR_2
      · exact kpR_3
    · rw [show 16 * B 4 + 4 + i = B 4 * 16 + 4 + i by omega, kpR_s (by omega), show 148 + 16 * B 4 + i = 138 + 16 * B 4 + (10 + i) by omega, hi (10 + i) (by omega), hst i hi']
      congr 1
      omega
    · rw [show 16 * B 4 + 10 + i = B 4 * 16 + 10 + i by omega, kpR_r (by omega), show 142 + 16 * B 4 + i = 138 + 16 * B 4 + (4 + i) by omega, hi (4 + i) (by omega), hrg i hi']
      congr 1
      omega
  · obtain ⟨p1, p2⟩ := hP k (by omega)
    refine ⟨fun t ht => ?_, fun i hi' => ⟨?_, ?_⟩⟩
    · rw [kpR_lt (by omega), lo _ (by omega) (by omega)]; exact p1 t ht
    · rw [kpR_lt (by omega), lo _ (by omega) (by omega)]; exact (p2 i hi').1
    · rw [kpR_lt (by omega), lo _ (by omega) (by omega)]; exact (p2 i hi').2
theorem rP_push {A Ro : Nat → Nat} (hP : rP A Ro) (h8 : A 4 = 8) (h0 : A 0 ≤ 6) : rP (va_up (shf A 112) 4 7) (va_cpy Ro Ro 16 0 112) := by
  intro k hk
  have e4 : va_up (shf A 112) 4 7 4 = 7 := rfl
  have e0 : va_up (shf A 112) 4 7 0 = A 0 := by simp only [va_up, shf]; rw [if_neg (by decide), if_neg (by omega)]
  rw [e4] at hk
  rw [e0]
  have lo : ∀ j, 138 ≤ j → j < 250 → va_up (shf A 112) 4 7 j = A (j + 16) := fun j h1 h2 => by simp only [va_up, shf]; rw [if_neg (by omega), if_pos (by omega)]
  have ro : ∀ j, j < 112 → va_cpy Ro Ro 16 0 112 j = Ro (16 + j) := fun j h => by simp only [va_cpy]; rw [if_pos (by omega)]; rfl
  obtain ⟨p1, p2⟩ := hP (k + 1) (by omega)
  refine ⟨fun t ht => ?_, fun i hi' => ⟨?_, ?_⟩⟩
  · rw [ro _ (by omega), lo _ (by omega) (by omega), show 16 + (16 * k + t) = 16 * (k + 1) + t by omega, p1 t ht]; congr 1; omega
  · rw [ro _ (by omega), lo _ (by omega) (by omega), show 16 + (16 * k + 4 + i) = 16 * (k + 1) + 4 + i by omega, (p2 i hi').1]; congr 1; omega
  · rw [ro _ (by omega), lo _ (by omega) (by omega), show 16 + (16 * k + 10 + i) = 16 * (k + 1) + 10 + i by omega, (p2 i hi').2]; congr 1; omega
theorem svd_lo {A : Nat → Nat} {j : Nat} (h : j < 138) (h4 : j ≠ 4) : saved A j = A j := by
  have e : pushed A j = A j := by
    unfold pushed
    split
    · simp only [va_up, shf]; rw [if_neg h4, if_neg (by omega)]
    · rfl
  simp only [saved, va_up, put16]
  rw [if_neg h4, if_neg (by omega)]
  exact e
theorem rP_sv1 {A Ro K P kd am st rg : Nat → Nat} (hP : rP A Ro) (hR : rR A K P kd am st rg) (h4 : A 4 < 8) (h0 : A 0 ≤ 6) : rP (saved A) (kpR Ro st rg (A 4 * 16) (A 5) (A 6) (A 7) (A 8)) := by
  have e : pushed A = A := by unfold pushed; rw [if_neg (by omega)]
  unfold saved
  rw [e]
  exact rP_put hP h4 h0 (fun i hi => rR_s hR hi) (fun i hi => rR_r hR hi)
theorem rP_sv2 {A Ro K P kd am st rg : Nat → Nat} (hP : rP A Ro) (hR : rR A K P kd am st rg) (h4 : A 4 = 8) (h0 : A 0 ≤ 6) : rP (saved A) (kpR (va_cpy Ro Ro 16 0 112) st rg (7 * 16) (A 5) (A 6) (A 7) (A 8)) := by
  have e : pushed A = va_up (shf A 112) 4 7 := by unfold pushed; rw [if_pos h4]
  have ej : ∀ j, j < 138 → j ≠ 4 → va_up (shf A 112) 4 7 j = A j := fun j h1 h2 => by simp only [va_up, shf]; rw [if_neg h2, if_neg (by omega)]
  unfold saved
  rw [e]
  have := rP_put (st := st) (rg := rg) (rP_push hP h4 h0) (show 7 < 8 by decide) (by rw [ej 0 (by decide) (by decide)]; exact h0) (fun i hi => by rw [ej 0 (by decide) (by decide)] at hi; rw [ej (15 + i) (by omega) (by omega)]; exact rR_s hR hi) (fun i hi => by rw [ej 0 (by decide) (by decide)] at hi; rw [ej (9 + i) (by omega) (by omega)]; exact rR_r hR hi)
  rw [ej 5 (by decide) (by decide), ej 6 (by decide) (by decide), ej 7 (by decide) (by decide), ej 8 (by decide) (by decide)] at this
  exact this
theorem svd_4 {A : Nat → Nat} : saved A 4 = (if A 4 = 8 then 7 else A 4) + 1 := by
  show pushed A 4 + 1 = _
  unfold pushed
  split <;> rfl
theorem und_lo {A : Nat → Nat} {j : Nat} (h : j < 5 ∨ 21 ≤ j) (h4 : j ≠ 4) : und A j = A j := by
  simp only [und, resN, va_up]
  rw [if_neg (by omega), if_neg h4]
theorem und_mid {A : Nat → Nat} {t : Nat} (h : t < 16) : und A (5 + t) = A (138 + 16 * (A 4 - 1) + t) := by
  simp only [und, resN, va_up]
  rw [if_pos (by omega), if_neg (by omega)]
  congr 1
  omega
theorem und_4 {A : Nat → Nat} : und A 4 = A 4 - 1 := by
  simp only [und, resN, va_up]
  rw [if_neg (by omega)]
  rfl
theorem rP_und {A Ro : Nat → Nat} (hP : rP A Ro) (h0 : A 0 ≤ 6) : rP (und A) Ro := by
  intro k hk
  rw [und_4] at hk
  rw [und_lo (j := 0) (by omega) (by decide)]
  obtain ⟨p1, p2⟩ := hP k (by omega)
  exact ⟨fun t ht => by rw [und_lo (by omega) (by omega)]; exact p1 t ht, fun i hi => ⟨by rw [und_lo (by omega) (by omega)]; exact (p2 i hi).1, by rw [und_lo (by omega) (by omega)]; exact (p2 i hi).2⟩⟩
theorem rR_und {A Ro K P kd am st rg : Nat → Nat} (hP : rP A Ro) (hR : rR A K P kd am st rg) (h4 : 0 < A 4) (h0 : A 0 ≤ 6) (h12 : A 21 ≤ 12) : rR (und A) K P kd am (va_cpy Ro st ((A 4 - 1) * 16 + 4) 0 6) (va_cpy Ro rg ((A 4 - 1) * 16 + 4 + 6) 0 6) := by
  obtain ⟨p1, p2⟩ := hP (A 4 - 1) (by omega)
  refine ⟨fun s hs => ?_, fun i hi => ?_⟩
  · rw [und_lo (j := 21) (by omega) (by decide)] at hs
    rw [und_lo (j := 34 + s) (by omega) (by omega), und_lo (j := 46 + s) (by omega) (by omega)]
    exact hR.1 s hs
  · rw [und_lo (j := 0) (by omega) (by decide)] at hi
    rw [und_lo (j := 22 + i) (by omega) (by omega), und_lo (j := 28 + i) (by omega) (by omega), show 15 + i = 5 + (10 + i) by omega, und_mid (by omega), show 9 + i = 5 + (4 + i) by omega, und_mid (by omega)]
    refine ⟨(hR.2 i hi).1, (hR.2 i hi).2.1, ?_, ?_⟩
    · simp only [va_cpy]
      rw [if_pos (by omega), show (A 4 - 1) * 16 + 4 + (i - 0) = 16 * (A 4 - 1) + 4 + i by omega, (p2 i hi).1]
      congr 1
      omega
    · simp only [va_cpy]
      rw [if_pos (by omega), show (A 4 - 1) * 16 + 4 + 6 + (i - 0) = 16 * (A 4 - 1) + 10 + i by omega, (p2 i hi).2]
      congr 1
      omega
theorem rP_at {A Ro : Nat → Nat} (hP : rP A Ro) (h4 : 0 < A 4) {t : Nat} (ht : t < 4) {j : Nat} (hj : j = (A 4 - 1) * 16 + t) : Ro j = und A (5 + t) := by
  rw [und_mid (by omega), ← (hP (A 4 - 1) (by omega)).1 t ht]
  congr 1
  omega
/-- rows of five places hold A's from fr on, w a row -/
def rC (A C : Nat → Nat) (fr w sz : Nat) : Prop := ∀ r, r < sz → ∀ c, c < w → C (r * 5 + c) = A (fr + (w * r + c))
