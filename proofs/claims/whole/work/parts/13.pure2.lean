def goN : Nat → (Nat → Nat) → (Nat → Nat)
  | 0, A => A
  | n + 1, A => if A 8 < 9999 then goN n (goT A false).2 else A
def tkn (i : Nat) : Nat → (Nat → Nat) → Nat
  | 0, _ => 0
  | m + 1, A => (if (goT A false).1 = some i then 1 else 0) + tkn i m (goT A false).2
def zer (A : Nat → Nat) (k : Nat) : Nat → Nat := fun j => if j < k then 0 else A j
theorem zer_0 (A : Nat → Nat) : A = zer A 0 := by funext j; simp [zer]
theorem zer_up (A : Nat → Nat) (k : Nat) : va_up (zer A k) k 0 = zer A (k + 1) := by
  funext j
  simp only [va_up, zer]
  by_cases h : j = k
  · subst h; simp
  · rw [if_neg h]
    by_cases h2 : j < k
    · rw [if_pos h2, if_pos (by omega)]
    · rw [if_neg h2, if_neg (by omega)]
def beg (A : Nat → Nat) (n v : Nat) : Nat → Nat := va_up (va_up (va_up (zer A 138) 21 n) 6 v) 7 8
def layR (A : Nat → Nat) (k a s : Nat) : Nat → Nat := va_up (va_up (va_up (va_up (va_up A (22 + A 0) k) (28 + A 0) a) (15 + A 0) s) (9 + A 0) 0) 0 (A 0 + 1)
def hasb (set k : Nat) : Prop := set / 2 ^ k % 2 = 1
theorem hasb_iff (set k : Nat) : hasb set k ↔ set / 2 ^ k % 2 = 1 := Iff.rfl
/-- rows of the past: the oldest goes, or a new one comes -/
def shf (A : Nat → Nat) (k : Nat) : Nat → Nat := fun j => if 138 ≤ j ∧ j < 138 + k then A (j + 16) else A j
theorem shf_0 (A : Nat → Nat) : A = shf A 0 := by funext j; simp only [shf]; rw [if_neg (by omega)]
theorem shf_up (A : Nat → Nat) {k : Nat} (h : k < 112) : va_up (shf A k) (138 + k) (shf A k (154 + k)) = shf A (k + 1) := by
  funext j
  simp only [va_up, shf]
  by_cases h1 : j = 138 + k
  · subst h1
    rw [if_pos rfl, if_neg (by omega), if_pos (by omega)]
    congr 1
    omega
  · rw [if_neg h1]
    by_cases h2 : 138 ≤ j ∧ j < 138 + k
    · rw [if_pos h2, if_pos (by omega)]
    · rw [if_neg h2, if_neg (by omega)]
def put16 (A : Nat → Nat) (u k : Nat) : Nat → Nat := fun j => if 138 + 16 * u ≤ j ∧ j < 138 + 16 * u + k then A (5 + (j - (138 + 16 * u))) else A j
theorem put16_0 (A : Nat → Nat) (u : Nat) : A = put16 A u 0 := by funext j; simp only [put16]; rw [if_neg (by omega)]
theorem put16_up (A : Nat → Nat) {u k : Nat} (hk : k < 16) : va_up (put16 A u k) (138 + 16 * u + k) (put16 A u k (5 + k)) = put16 A u (k + 1) := by
  funext j
  simp only [va_up, put16]
  by_cases h1 : j = 138 + 16 * u + k
  · subst h1
    rw [if_pos rfl, if_neg (by omega), if_pos (by omega)]
    congr 1
    omega
  · rw [if_neg h1]
    by_cases h2 : 138 + 16 * u ≤ j ∧ j < 138 + 16 * u + k
    · rw [if_pos h2, if_pos (by omega)]
    · rw [if_neg h2, if_neg (by omega)]
def pushed (A : Nat → Nat) : Nat → Nat := if A 4 = 8 then va_up (shf A 112) 4 7 else A
def saved (A : Nat → Nat) : Nat → Nat := va_up (put16 (pushed A) (pushed A 4) 16) 4 (pushed A 4 + 1)
def sumR (A : Nat → Nat) : Nat → Nat
  | 0 => 0
  | n + 1 => sumR A n + A (9 + n)
def cnt (A : Nat → Nat) (bl w : Nat) : Nat := if w = 0 then A 21 else if w = 1 then A 0 else if w = 2 then A 5 else if w = 3 then A 6 else if w = 4 then A 7 else if w = 5 then A 8 else if w = 6 then sumR A (A 0) else if w = 11 then bl else A (1 + w - 7)
def smN (A : Nat → Nat) (fr : Nat) (h : Int) : Nat → Int
  | 0 => h
  | k + 1 => 31 * smN A fr h k + (A (fr + k) : Int)
theorem goN_out {n : Nat} {A : Nat → Nat} (h : ¬ A 8 < 9999) : goN n A = A := by
  cases n with
  | zero => rfl
  | succ n => simp only [goN]; rw [if_neg h]
theorem sumR_le {A : Nat → Nat} (h : ∀ j, A j < 100000) : ∀ k, sumR A k ≤ k * 100000 := by
  intro k
  induction k with
  | zero => simp [sumR]
  | succ k ih => simp only [sumR]; have := h (9 + k); omega
theorem tick1_row {A B : Nat → Nat} (h : ∀ j, j < 58 → A j = B j) : ∀ j, j < 58 → tick1 A j = tick1 B j := by
  intro j hj
  simp only [tick1, va_up, h 8 (by omega), h 5 (by omega), h 6 (by omega), h 21 (by omega), h j hj]
theorem goT_n {A B : Nat → Nat} {sl : Bool} (e : B = tick1 A) (h : sl = true ∨ rchr B = none) : goT A sl = (none, B) := by
  subst e
  unfold goT
  rcases h with h | h
  · rw [if_pos h]
  · rw [h]
    cases sl <;> rfl
theorem goT_s {A B : Nat → Nat} {sl : Bool} {i : Nat} (e : B = tick1 A) (h1 : sl = false) (h : rchr B = some i) : goT A sl = (some i, takeR B i) := by
  subst e
  subst h1
  unfold goT
  rw [if_neg (by decide), h]
theorem rchr_n0 {B : Nat → Nat} (h : who B ((B 21 - B 5) % B 21) = none) : rchr B = none := by unfold rchr; rw [h]
theorem rchr_n1 {B : Nat → Nat} {i : Nat} (h : who B ((B 21 - B 5) % B 21) = some i) (h2 : rchO B i < B 7) : rchr B = none := by
  unfold rchr
  rw [h]
  exact if_neg (by omega)
theorem rchr_s {B : Nat → Nat} {i : Nat} (h : who B ((B 21 - B 5) % B 21) = some i) (h2 : B 7 ≤ rchO B i) : rchr B = some i := by
  unfold rchr
  rw [h]
  exact if_pos h2
theorem rchO_le {A : Nat → Nat} {i : Nat} (h : wf A) (hi : i < A 0) : rchO A i ≤ 60 := rch_le (h.2.2.1 i hi).2.2.1 (Nat.le_trans (hgh_le h.1.2.2.2.1) (by decide))
theorem takeR_of {B C : Nat → Nat} {i x y : Nat} (e : C = va_up B (9 + i) x) (hx : x = B (9 + i) + if B (9 + i) < 99 then 1 else 0) (hy : y = B 7 + if B 7 < 20 then 1 else 0) : va_up C 7 y = takeR B i := by
  subst e; subst hx; subst hy; rfl
theorem goT_row {A B : Nat → Nat} (sl : Bool) (h : A = B) : goT A sl = goT B sl := by rw [h]
def tkb (i code : Nat) : Nat → (Nat → Nat) → Nat
  | 0, _ => 0
  | k + 1, B => (if (goT (va_up B 6 (code / 2 ^ (2 * k) % 4)) false).1 = some i then 1 else 0) + tkb i code k (goT (va_up B 6 (code / 2 ^ (2 * k) % 4)) false).2
theorem wf_speed {A : Nat → Nat} {v : Nat} (h : wf A) (hv : v ≤ 3) : wf (va_up A 6 v) := by
  obtain ⟨⟨a1, a2, a3, a4, a5, a6⟩, hb, hr, hh, hd⟩ := h
  have e : ∀ j, j ≠ 6 → va_up A 6 v j = A j := fun j h1 => by simp [va_up, h1]
  have e6 : va_up A 6 v 6 = v := by simp [va_up]
  refine ⟨?_, ?_, ?_, ?_, ?_⟩
  · rw [e 21 (by decide), e 5 (by decide), e6, e 7 (by decide), e 0 (by decide)]; exact ⟨a1, a2, a3, hv, a5, a6⟩
  · intro j
    by_cases h6 : j = 6
    · subst h6; rw [e6]; omega
    · rw [e j h6]; exact hb j
  · intro i hi
    rw [e 0 (by decide)] at hi
    rw [e (15 + i) (by omega), e 21 (by decide), e (22 + i) (by omega), e (28 + i) (by omega), e (9 + i) (by omega)]
    exact hr i hi
  · intro s hs
    rw [e (34 + s) (by omega), e (46 + s) (by omega)]; exact hh s hs
  · intro i j hi hj
    rw [e 0 (by decide)] at hi hj
    rw [e (15 + i) (by omega), e (15 + j) (by omega)]
    exact hd i j hi hj
theorem tkn_le (i : Nat) : ∀ (m : Nat) (A : Nat → Nat), tkn i m A ≤ m := by
  intro m
  induction m with
  | zero => intro A; simp [tkn]
  | succ m ih => intro A; simp only [tkn]; have := ih (goT A false).2; split <;> omega
theorem tkb_le (i code : Nat) : ∀ (m : Nat) (A : Nat → Nat), tkb i code m A ≤ m := by
  intro m
  induction m with
  | zero => intro A; simp [tkb]
  | succ m ih => intro A; simp only [tkb]; have := ih (goT (va_up A 6 (code / 2 ^ (2 * m) % 4)) false).2; split <;> omega
theorem goT_lt {A : Nat → Nat} {sl : Bool} {i : Nat} (h : (goT A sl).1 = some i) : i < A 0 := by
  unfold goT at h
  split at h
  · cases h
  · rename_i k hk
    cases h
    cases sl with
    | true => simp at hk
    | false => exact rchr_some (A := tick1 A) (by simpa using hk)
