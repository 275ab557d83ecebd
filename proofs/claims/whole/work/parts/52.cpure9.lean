/-- takes of two riders by speeds: the component's two rows as the reference's one -/
def tw (T U : Nat → Nat) : Nat → Nat := fun k => if k < 4 then T k else U (k - 4)
theorem rstN_ext {T U : Nat → Nat} {i j : Nat} (hi : i < 4) (hj : j < 4) (h : ∀ k, k < 8 → T k = U k) : ∀ n, n ≤ 4 → rstN T i j n = rstN U i j n := by
  intro n
  induction n with
  | zero => intro _; rfl
  | succ n ih =>
    intro hn
    have a1 := h (4 * 0 + (n + j) / 2) (by omega)
    have a2 := h (4 * 0 + (i + j) / 2) (by omega)
    have a3 := h (4 * 1 + (i + n) / 2) (by omega)
    have a4 := h (4 * 1 + (i + j) / 2) (by omega)
    have b1 : gts T 0 n (n + j) = gts U 0 n (n + j) := by unfold gts; rw [a1]
    have b2 : gts T 0 i (i + j) = gts U 0 i (i + j) := by unfold gts; rw [a2]
    have b3 : gts T 1 n (i + n) = gts U 1 n (i + n) := by unfold gts; rw [a3]
    have b4 : gts T 1 j (i + j) = gts U 1 j (i + j) := by unfold gts; rw [a4]
    simp only [rstN]
    rw [ih (by omega), b1, b2, b3, b4]
theorem rstN_f {T : Nat → Nat} {i j k : Nat} (h : rstN T i j k = false) : ∀ n, k ≤ n → rstN T i j n = false := by
  intro n hn
  induction n with
  | zero => rw [show k = 0 by omega] at h; exact h
  | succ n ih =>
    by_cases hk : k = n + 1
    · rw [← hk]; exact h
    · simp only [rstN]; rw [ih (by omega)]; rfl
theorem tw_lo {T U : Nat → Nat} {k : Nat} (h : k < 4) : tw T U (4 * 0 + k) = T k := by unfold tw; rw [show 4 * 0 + k = k by omega, if_pos h]
theorem tw_hi {T U : Nat → Nat} {k : Nat} (h : k < 4) : tw T U (4 * 1 + k) = U k := by unfold tw; rw [if_neg (by omega), show 4 * 1 + k - 4 = k by omega]
theorem hd_y {T : Nat → Nat} {k : Int} {cd ct : Nat} (hc : cd < 16) (h : rstN T (cd / 4) (cd % 4) 4 = true) (he : (ct : Int) = k) : hdF T k (16 - cd) cd ct = .inl (10 * (cd / 4) + cd % 4) := by
  rw [show 16 - cd = (16 - (cd + 1)) + 1 by omega]; simp only [hdF]; rw [if_pos h, if_pos he]
theorem hd_n1 {T : Nat → Nat} {k : Int} {cd ct : Nat} (hc : cd < 16) (h : rstN T (cd / 4) (cd % 4) 4 = true) (he : ¬ (ct : Int) = k) : hdF T k (16 - cd) cd ct = hdF T k (16 - (cd + 1)) (cd + 1) (ct + 1) := by
  rw [show 16 - cd = (16 - (cd + 1)) + 1 by omega]; simp only [hdF]; rw [if_pos h, if_neg he]
theorem hd_n2 {T : Nat → Nat} {k : Int} {cd ct : Nat} (hc : cd < 16) (h : ¬ rstN T (cd / 4) (cd % 4) 4 = true) : hdF T k (16 - cd) cd ct = hdF T k (16 - (cd + 1)) (cd + 1) ct := by
  rw [show 16 - cd = (16 - (cd + 1)) + 1 by omega]; simp only [hdF]; rw [if_neg h]
