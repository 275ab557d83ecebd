def orN (f : Nat → Bool) : Nat → Nat
  | 0 => 0
  | p + 1 => orN f p ||| (if f p = true then 1 * 2 ^ p else 0)
theorem orN_lt (f : Nat → Bool) : ∀ n, orN f n < 2 ^ n := by
  intro n
  induction n with
  | zero => simp [orN]
  | succ n ih =>
    simp only [orN]
    have h2 : 2 ^ n < 2 ^ (n + 1) := Nat.pow_lt_pow_right (by decide) (by omega)
    refine Nat.or_lt_two_pow (by omega) ?_
    split <;> omega
theorem orN_lt8 (f : Nat → Bool) {n : Nat} (h : n ≤ 8) : orN f n < 256 := Nat.lt_of_lt_of_le (orN_lt f n) (Nat.pow_le_pow_right (n := 2) (by decide) h)
theorem pow_le8 {p : Nat} (h : p ≤ 8) : 2 ^ p ≤ 256 := Nat.pow_le_pow_right (n := 2) (by decide) h
def likeN (T : Nat → Nat) (set a : Nat) : Nat → Nat
  | 0 => 0
  | b + 1 => likeN T set a b + (if set / 2 ^ b % 2 = 1 ∧ T a = T b then 1 else 0)
def like (T : Nat → Nat) (set a : Nat) : Nat := if set / 2 ^ a % 2 = 1 then likeN T set a 8 else 0
def topN (T : Nat → Nat) (set : Nat) : Nat → Nat
  | 0 => 0
  | a + 1 => if topN T set a < like T set a then like T set a else topN T set a
theorem likeN_le (T : Nat → Nat) (set a : Nat) : ∀ b, likeN T set a b ≤ b := by
  intro b
  induction b with
  | zero => simp [likeN]
  | succ b ih => simp only [likeN]; split <;> omega
theorem like_le (T : Nat → Nat) (set a : Nat) : like T set a ≤ 8 := by
  unfold like
  split
  · exact likeN_le T set a 8
  · omega
theorem topN_le (T : Nat → Nat) (set : Nat) : ∀ a, topN T set a ≤ 8 := by
  intro a
  induction a with
  | zero => simp [topN]
  | succ a ih => simp only [topN]; have := like_le T set a; split <;> omega
theorem like_of {T : Nat → Nat} {set a l b : Nat} (hl : l = likeN T set a b) (hz : b = 0 ∨ set / 2 ^ a % 2 = 1) (he : b = 8 ∨ ¬ set / 2 ^ a % 2 = 1) : like T set a = l := by
  unfold like
  rcases hz with rfl | hz
  · rw [if_neg (by omega), hl]; rfl
  · rw [if_pos hz, hl, show b = 8 by omega]
/-- all that was seen of the horse on s is so, by phase p: the first k rows -/
def okN (A : Nat → Nat) (s p : Nat) : Nat → Bool
  | 0 => true
  | k + 1 => okN A s p k && (decide (A (58 + 4 * k) ≠ s) || decide (hgh (A (34 + s)) p (A (58 + 4 * k + 1)) (A (58 + 4 * k + 2)) = A (58 + 4 * k + 3)))
def rowv (isN : Bool) (kd : Nat) (A : Nat → Nat) (at_ : Nat) : Nat := if isN = true then hgh kd (A (at_ + 1)) (A (at_ + 2)) (A (at_ + 3)) else rch kd (A (at_ + 1)) (A (at_ + 2)) (A (at_ + 3))
def kkN (A : Nat → Nat) (of_ fr : Nat) (isN : Bool) (kd : Nat) : Nat → Bool
  | 0 => true
  | k + 1 => kkN A of_ fr isN kd k && (decide (A (fr + 5 * k) ≠ of_) || decide (rowv isN kd A (fr + 5 * k) = A (fr + 5 * k + 4)))
def phs (A : Nat → Nat) (s : Nat) : Nat := orN (fun p => okN A s p (A 1)) 8
def kds (A : Nat → Nat) (of_ fr n : Nat) (isN : Bool) : Nat := orN (fun kd => kkN A of_ fr isN kd n) 6
def lay5 (A : Nat → Nat) (t a b c d e : Nat) : Nat → Nat := va_up (va_up (va_up (va_up (va_up A t a) (t + 1) b) (t + 2) c) (t + 3) d) (t + 4) e
def gts (T : Nat → Nat) (w own both : Nat) : Int := ((2 * T (4 * w + both / 2) : Nat) : Int) - (own : Int)
def rstN (T : Nat → Nat) (i j : Nat) : Nat → Bool
  | 0 => true
  | k + 1 => rstN T i j k && (decide (gts T 0 k (k + j) ≤ gts T 0 i (i + j)) && decide (gts T 1 k (i + k) ≤ gts T 1 j (i + j)))
theorem gcd_step {a b : Int} (ha : 0 ≤ a) (hb : 0 ≤ b) : Int.gcd b (a % b) = Int.gcd a b := by
  obtain ⟨x, rfl⟩ := Int.eq_ofNat_of_zero_le ha
  obtain ⟨y, rfl⟩ := Int.eq_ofNat_of_zero_le hb
  show Nat.gcd y (x % y) = Nat.gcd x y
  rw [Nat.gcd_comm y (x % y), ← Nat.gcd_rec y x, Nat.gcd_comm y x]
