theorem cnt_lt {A : Nat → Nat} {bl : Nat} (hb : ∀ j, A j < 100000) (h0 : A 0 ≤ 6) (hbl : bl ≤ 150) (w : Nat) : cnt A bl w < 2147483648 := by
  have h1 := sumR_le hb (A 0)
  have a21 := hb 21
  have a0 := hb 0
  have a5 := hb 5
  have a6 := hb 6
  have a7 := hb 7
  have a8 := hb 8
  have aw := hb (1 + w - 7)
  have h2 : A 0 * 100000 ≤ 600000 := Nat.mul_le_mul_right 100000 h0
  unfold cnt
  (repeat' split) <;> omega
