def orN (f : Nat → Bool) : Nat → Nat
  | 0 => 0
  | p + 1 => orN f p ||| (if f p = true then 1 * 2 ^ p else 0)
theorem orN_lt (f : Nat → Bool) : ∀ n, orN f n < 2 ^ n := by
  intro n
  induction n with
  | zero => simp [orN]
  | succ n ih =>
    simp only [orN]
    have h2 : 2 ^ n < 2 ^ (n + 1) := Nat.pow_lt_pow_right (by decide) (by omega)
    refine Nat.or_lt_two_pow (by omega) ?_
    split <;> omega
theorem orN_lt8 (f : Nat → Bool) {n : Nat} (h : n ≤ 8) : orN f n < 256 := Nat.lt_of_lt_of_le (orN_lt f n) (Nat.pow_le_pow_right (n := 2) (by decide) h)
theorem pow_le8 {p : Nat} (h : p ≤ 8) : 2 ^ p ≤ 256 := Nat.pow_le_pow_right (n := 2) (by decide) h
def likeN (T : Nat → Nat) (set a : Nat) : Nat → Nat
  | 0 => 0
  | b + 1 => likeN T set a b + (if set / 2 ^ b % 2 = 1 ∧ T a = T b then 1 else 0)
def like (T : Nat → Nat) (set a : Nat) : Nat := if set / 2 ^ a % 2 = 1 then likeN T set a 8 else 0
def topN (T : Nat → Nat) (set : Nat) : Nat → Nat
  | 0 => 0
  | a + 1 => if topN T set a < like T set a then like T set a else topN T set a
theorem likeN_le (T : Nat → Nat) (set a : Nat) : ∀ b, likeN T set a b ≤ b := by
  intro b
  induction b with
  | zero => simp [likeN]
  | succ b ih => simp only [likeN]; split <;> omega
theorem like_le (T : Nat → Nat) (set a : Nat) : like T set a ≤ 8 := by
  unfold like
  split
  · exact likeN_le T set a 8
  · omega
theorem topN_le (T : Nat → Nat) (set : Nat) : ∀ a, topN T set a ≤ 8 := by
  intro a
  induction a with
  | zero => simp [topN]
  | succ a ih => simp only [topN]; have := like_le T set a; split <;> omega
theorem like_of {T : Nat → Nat} {set a l b : Nat} (hl : l = likeN T set a b) (hz : b = 0 ∨ set / 2 ^ a % 2 = 1) (he : b = 8 ∨ ¬ set / 2 ^ a % 2 = 1) : like T set a = l := by
  unfold like
  rcases hz with rfl | hz
  · rw [if_neg (by omega), hl]; rfl
  · rw [if_pos hz, hl, show b = 8 by omega]
/-- all that was seen of the horse on s is so, by phase p: the first k rows -/
def okN (A : Nat → Nat) (s p : Nat) : Nat → Bool
  | 0 => true
  | k + 1 => okN A s p k && (decide (A (58 + 4 * k) ≠ s) || decide (hgh (A (34 + s)) p (A (58 + 4 * k + 1)) (A (58 + 4 * k + 2)) = A (58 + 4 * k + 3)))
def rowv (isN : Bool) (kd : Nat) (A : Nat → Nat) (at_ : Nat) : Nat := if isN = true then hgh kd (A (at_ + 1)) (A (at_ + 2)) (A (at_ + 3)) else rch kd (A (at_ + 1)) (A (at_ + 2)) (A (at_ + 3))
def kkN (A : Nat → Nat) (of_ fr : Nat) (isN : Bool) (kd : Nat) : Nat → Bool
  | 0 => true
  | k + 1 => kkN A of_ fr isN kd k && (decide (A (fr + 5 * k) ≠ of_) || decide (rowv isN kd A (fr + 5 * k) = A (fr + 5 * k + 4)))
def phs (A : Nat → Nat) (s : Nat) : Nat := orN (fun p => okN A s p (A 1)) 8
def kds (A : Nat → Nat) (of_ fr n : Nat) (isN : Bool) : Nat := orN (fun kd => kkN A of_ fr isN kd n) 6
def lay5 (A : Nat → Nat) (t a b c d e : Nat) : Nat → Nat := va_up (va_up (va_up (va_up (va_up A t a) (t + 1) b) (t + 2) c) (t + 3) d) (t + 4) e
def gts (T : Nat → Nat) (w own both : Nat) : Int := ((2 * T (4 * w + both / 2) : Nat) : Int) - (own : Int)
def rstN (T : Nat → Nat) (i j : Nat) : Nat → Bool
  | 0 => true
  | k + 1 => rstN T i j k && (decide (gts T 0 k (k + j) ≤ gts T 0 i (i + j)) && decide (gts T 1 k (i + k) ≤ gts T 1 j (i + j)))
theorem gcd_step {a b : Int} (ha : 0 ≤ a) (hb : 0 ≤ b) : Int.gcd b (a % b) = Int.gcd a b := by
  obtain ⟨x, rfl⟩ := Int.eq_ofNat_of_zero_le ha
  obtain ⟨y, rfl⟩ := Int.eq_ofNat_of_zero_le hb
  show Nat.gcd y (x % y) = Nat.gcd x y
  rw [Nat.gcd_comm y (x % y), ← Nat.gcd_rec y x, Nat.gcd_comm y x]
theorem j_casep {J : JT} {pc : Nat} {lvs : List (Nat × Value)} {st : List Value} {ws : va_W} {nc ns : Nat} {p : Prop} [inst : Decidable p] (kt : p → J pc lvs (.int (nI 1) :: st) ws nc ns) (kf : ¬ p → J pc lvs (.int (nI 0) :: st) ws nc ns) : J pc lvs (.int (bI (decide p)) :: st) ws nc ns := by
  by_cases h : p
  · rw [decide_eq_true h]; exact kt h
  · rw [decide_eq_false h]; exact kf h
/-! ### the text: tokens by their place -/
def cls (c : Nat) : Nat := if 97 ≤ c ∧ c ≤ 122 then 1 else if 48 ≤ c ∧ c ≤ 57 then 2 else if c = 59 then 3 else 4
def skF (By : Nat → Nat) (L : Nat) : Nat → Nat → Nat
  | 0, f => f
  | n + 1, f => if f < L ∧ By f = 32 then skF By L n (f + 1) else f
def sk (By : Nat → Nat) (L f : Nat) : Nat := skF By L (L - f) f
theorem sk_go {By : Nat → Nat} {L f : Nat} (h : f < L ∧ By f = 32) : sk By L f = sk By L (f + 1) := by
  unfold sk
  rw [show L - f = (L - (f + 1)) + 1 by omega]
  simp only [skF]
  rw [if_pos h]
theorem sk_stop {By : Nat → Nat} {L f : Nat} (h : ¬ (f < L ∧ By f = 32)) : sk By L f = f := by
  unfold sk
  cases hh : L - f with
  | zero => rfl
  | succ n => simp only [skF]; rw [if_neg h]
def rnF (k : Nat) (By : Nat → Nat) (L : Nat) : Nat → Nat → Nat
  | 0, _ => 0
  | n + 1, p => if p < L ∧ cls (By p) = k then 1 + rnF k By L n (p + 1) else 0
def rn (k : Nat) (By : Nat → Nat) (L p : Nat) : Nat := rnF k By L (L - p) p
theorem rn_go {k : Nat} {By : Nat → Nat} {L p : Nat} (h : p < L ∧ cls (By p) = k) : rn k By L p = 1 + rn k By L (p + 1) := by
  unfold rn
  rw [show L - p = (L - (p + 1)) + 1 by omega]
  simp only [rnF]
  rw [if_pos h]
theorem rn_stop {k : Nat} {By : Nat → Nat} {L p : Nat} (h : ¬ (p < L ∧ cls (By p) = k)) : rn k By L p = 0 := by
  unfold rn
  cases hh : L - p with
  | zero => rfl
  | succ n => simp only [rnF]; rw [if_neg h]
theorem rnF_in {k : Nat} {By : Nat → Nat} {L : Nat} : ∀ n p j, j < rnF k By L n p → cls (By (p + j)) = k ∧ p + j < L := by
  intro n
  induction n with
  | zero => intro p j h; simp [rnF] at h
  | succ n ih =>
    intro p j h
    simp only [rnF] at h
    split at h
    · rename_i hp
      cases j with
      | zero => exact ⟨hp.2, hp.1⟩
      | succ j =>
        have := ih (p + 1) j (by omega)
        rw [show p + (j + 1) = p + 1 + j by omega]
        exact this
    · omega
theorem rn_in {k : Nat} {By : Nat → Nat} {L p j : Nat} (h : j < rn k By L p) : cls (By (p + j)) = k ∧ p + j < L := rnF_in _ _ _ h
def tkL (By : Nat → Nat) (L a : Nat) : Nat := if L ≤ a then 0 else if cls (By a) ≤ 2 then 1 + rn (cls (By a)) By L (a + 1) else 1
def tkK (By : Nat → Nat) (L a : Nat) : Nat := if L ≤ a then 0 else if cls (By a) = 2 ∧ 2 < tkL By L a then 4 else cls (By a)
def vN (By : Nat → Nat) (a : Nat) : Nat → Nat
  | 0 => 0
  | k + 1 => 10 * vN By a k + By (a + k) - 48
def tkV (By : Nat → Nat) (L a : Nat) : Nat := if L ≤ a then 0 else if cls (By a) = 2 then vN By a (min (tkL By L a) 2) else 0
theorem cls_12 (c : Nat) : 1 ≤ cls c ∧ cls c ≤ 4 := by unfold cls; (repeat' split) <;> omega
theorem cls_2 {c : Nat} (h : cls c = 2) : 48 ≤ c ∧ c ≤ 57 := by
  unfold cls at h
  split at h
  · cases h
  · split at h
    · assumption
    · split at h <;> cases h
theorem tkL_in {By : Nat → Nat} {L a : Nat} (h : a ≤ L) : a + tkL By L a ≤ L := by
  unfold tkL
  split
  · omega
  · split
    · rcases Nat.eq_zero_or_pos (rn (cls (By a)) By L (a + 1)) with h0 | h0
      · omega
      · have := (rn_in (k := cls (By a)) (By := By) (L := L) (p := a + 1) (j := rn (cls (By a)) By L (a + 1) - 1) (by omega)).2
        omega
    · omega
theorem tkL_dig {By : Nat → Nat} {L a j : Nat} (h : cls (By a) = 2) (hj : j < tkL By L a) : 48 ≤ By (a + j) ∧ By (a + j) ≤ 57 := by
  unfold tkL at hj
  split at hj
  · omega
  · rw [if_pos (by omega)] at hj
    cases j with
    | zero => exact cls_2 h
    | succ j =>
      have := (rn_in (k := cls (By a)) (By := By) (L := L) (p := a + 1) (j := j) (by omega)).1
      rw [show a + (j + 1) = a + 1 + j by omega]
      exact cls_2 (this.trans h)
/-- the length of a token of class k at a, where it has one -/
def tl0 (k : Nat) (By : Nat → Nat) (L a : Nat) : Nat := if k ≤ 2 then 1 + rn k By L (a + 1) else 1
theorem tkL_of {By : Nat → Nat} {L a k : Nat} (h : a < L) (hk : cls (By a) = k) : tkL By L a = tl0 k By L a := by
  unfold tkL tl0
  rw [if_neg (by omega), hk]
theorem tkL_0 {By : Nat → Nat} {L a : Nat} (h : L ≤ a) : tkL By L a = 0 ∧ tkK By L a = 0 ∧ tkV By L a = 0 := by
  unfold tkK tkV tkL
  simp [h]
theorem sk_le {By : Nat → Nat} {L : Nat} : ∀ n f, L - f = n → f ≤ L → f ≤ sk By L f ∧ sk By L f ≤ L := by
  intro n
  induction n with
  | zero => intro f h hf; rw [sk_stop (by omega)]; omega
  | succ n ih =>
    intro f h hf
    by_cases hc : f < L ∧ By f = 32
    · rw [sk_go hc]; have := ih (f + 1) (by omega) (by omega); omega
    · rw [sk_stop hc]; omega
theorem sk_in {By : Nat → Nat} {L f : Nat} (h : f ≤ L) : f ≤ sk By L f ∧ sk By L f ≤ L := sk_le _ f rfl h
/-- the place of the next token -/
def nx (By : Nat → Nat) (L p : Nat) : Nat := sk By L (p + tkL By L p)
theorem nx_in {By : Nat → Nat} {L p : Nat} (h : p ≤ L) : p ≤ nx By L p ∧ nx By L p ≤ L := by
  have h1 := tkL_in (By := By) h
  have h2 := sk_in (By := By) h1
  unfold nx
  omega
theorem nx_gt {By : Nat → Nat} {L p : Nat} (h : p ≤ L) (hk : tkK By L p ≠ 0) : p < nx By L p := by
  have h1 := tkL_in (By := By) h
  have h2 := sk_in (By := By) h1
  have h3 : 0 < tkL By L p := by
    unfold tkK at hk
    unfold tkL
    split
    · rename_i hh; rw [if_pos hh] at hk; exact absurd rfl hk
    · split <;> omega
  unfold nx
  omega
theorem vN_le {By : Nat → Nat} {a : Nat} (hb : ∀ j, By j < 128) : ∀ k, k ≤ 2 → vN By a k < 1000 := by
  intro k hk
  have h0 := hb a
  have h1 := hb (a + 1)
  have h2 := hb (a + 0)
  rcases (show k = 0 ∨ k = 1 ∨ k = 2 by omega) with rfl | rfl | rfl
  · simp [vN]
  · simp only [vN]; omega
  · simp only [vN]; omega
theorem tkV_le {By : Nat → Nat} {L a : Nat} (hb : ∀ j, By j < 128) : tkV By L a < 1000 := by
  unfold tkV
  split
  · omega
  · split
    · exact vN_le hb _ (by omega)
    · omega
def ltr (a b c d e f : Nat) (k : Nat) : Nat := if k = 0 then a else if k = 1 then b else if k = 2 then c else if k = 3 then d else if k = 4 then e else f
def spN (By : Nat → Nat) (p : Nat) (w : Nat → Nat) : Nat → Bool
  | 0 => true
  | k + 1 => spN By p w k && decide (By (p + k) = w k)
theorem spN_mono {By : Nat → Nat} {p : Nat} {w : Nat → Nat} {k : Nat} (h : spN By p w k = false) : ∀ m, k ≤ m → spN By p w m = false := by
  intro m hm
  induction m with
  | zero => rw [show k = 0 by omega] at h; exact h
  | succ m ih =>
    by_cases hk : k = m + 1
    · rw [← hk]; exact h
    · simp only [spN]; rw [ih (by omega)]; rfl
/-- the token at p is this word -/
def isW (By : Nat → Nat) (L p size : Nat) (w : Nat → Nat) : Bool := decide (tkK By L p = 1 ∧ tkL By L p = size) && spN By p w size
