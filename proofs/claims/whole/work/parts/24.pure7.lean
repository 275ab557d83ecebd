def gI : Nat → (Nat → Nat) → (Nat → Nat)
  | 0, A => A
  | m + 1, A => gI m (goT A false).2
def z_where (A : Nat → Nat) (a b c : Int32) : Int := if isR A a ∧ rgI 0 60 b ∧ rgI 0 1 c then (if nt c = 0 then (plc (gI (nt b) A) (gI (nt b) A (15 + nt a)) : Int) else (hghO (gI (nt b) A) (gI (nt b) A (15 + nt a)) : Int)) else -2
def tks (i : Nat) : Nat → Nat → (Nat → Nat) → Option Nat
  | 0, _, _ => none
  | f + 1, m, A => if (goT A false).1 = some i then some m else tks i f (m + 1) (goT A false).2
def z_takes (A : Nat → Nat) (a : Int32) : Int := if isR A a then oz (tks (nt a) 60 1 A) else -2
def lvJ (A : Nat → Nat) (k : Int) (i : Nat) : Nat → Nat → Nat → Nat ⊕ Nat
  | 0, _, c => .inr c
  | f + 1, j, c => if hghO A (A (15 + i)) = hghO A (A (15 + j)) then (if (c : Int) = k then .inl (10 * i + j) else lvJ A k i f (j + 1) (c + 1)) else lvJ A k i f (j + 1) c
def lvI (A : Nat → Nat) (k : Int) : Nat → Nat → Nat → Nat ⊕ Nat
  | 0, _, c => .inr c
  | f + 1, i, c => match lvJ A k i (A 0 - (i + 1)) (i + 1) c with
    | .inl r => .inl r
    | .inr c2 => lvI A k f (i + 1) c2
def lvC (A : Nat → Nat) (k : Int) (i f j c : Nat) : Nat ⊕ Nat := match lvJ A k i f j c with
    | .inl r => .inl r
    | .inr c2 => lvI A k (A 0 - (i + 1)) (i + 1) c2
theorem lvI_go {A : Nat → Nat} {k : Int} {i c : Nat} (h : i < A 0) : lvI A k (A 0 - i) i c = lvC A k i (A 0 - (i + 1)) (i + 1) c := by
  rw [show A 0 - i = (A 0 - (i + 1)) + 1 by omega]
  rfl
theorem lvI_end {A : Nat → Nat} {k : Int} {i c : Nat} (h : A 0 ≤ i) : lvI A k (A 0 - i) i c = .inr c := by
  rw [show A 0 - i = 0 by omega]
  rfl
theorem lvC_end {A : Nat → Nat} {k : Int} {i j c : Nat} (h : A 0 ≤ j) : lvC A k i (A 0 - j) j c = lvI A k (A 0 - (i + 1)) (i + 1) c := by
  unfold lvC
  rw [show A 0 - j = 0 by omega]
  rfl
theorem lvC_eq {A : Nat → Nat} {k : Int} {i j c : Nat} (h : j < A 0) (e : hghO A (A (15 + i)) = hghO A (A (15 + j))) (hk : (c : Int) = k) : lvC A k i (A 0 - j) j c = .inl (10 * i + j) := by
  unfold lvC
  rw [show A 0 - j = (A 0 - (j + 1)) + 1 by omega]
  simp only [lvJ, if_pos e, if_pos hk]
theorem lvC_n1 {A : Nat → Nat} {k : Int} {i j c : Nat} (h : j < A 0) (e : hghO A (A (15 + i)) = hghO A (A (15 + j))) (hk : ¬ (c : Int) = k) : lvC A k i (A 0 - j) j c = lvC A k i (A 0 - (j + 1)) (j + 1) (c + 1) := by
  unfold lvC
  rw [show A 0 - j = (A 0 - (j + 1)) + 1 by omega]
  simp only [lvJ, if_pos e, if_neg hk]
theorem lvC_n2 {A : Nat → Nat} {k : Int} {i j c : Nat} (h : j < A 0) (e : ¬ hghO A (A (15 + i)) = hghO A (A (15 + j))) : lvC A k i (A 0 - j) j c = lvC A k i (A 0 - (j + 1)) (j + 1) c := by
  unfold lvC
  rw [show A 0 - j = (A 0 - (j + 1)) + 1 by omega]
  simp only [lvJ, if_neg e]
def lvz (r : Nat ⊕ Nat) (k : Int) : Int := match r with
  | .inl v => (v : Int)
  | .inr c => if k = -1 then (c : Int) else -5
def z_level (A : Nat → Nat) (a : Int32) : Int := if -1 ≤ a.toInt then lvz (lvI A a.toInt (A 0) 0 0) a.toInt else -10
def rgN (A B : Nat → Nat) : Nat → Bool
  | 0 => true
  | i + 1 => rgN A B i && decide (B (9 + i) = A (9 + i))
def agT (A B : Nat → Nat) (m : Nat) : Bool := decide (B 5 = A 5 ∧ m % 8 = 0) && rgN A B (A 0)
def agF (A : Nat → Nat) : Nat → Nat → (Nat → Nat) → Option Nat
  | 0, _, _ => none
  | f + 1, m, B => if agT A (goT B false).2 m = true then some m else agF A f (m + 1) (goT B false).2
def z_again (A : Nat → Nat) : Int := oz (agF A 60 1 A)
/-- the first of the greatest -/
def bst (f : Nat → Int) : Nat → Int × Int
  | 0 => (-1, -1)
  | v + 1 => if (bst f v).2 < f v then ((v : Int), f v) else bst f v
theorem bst_go {f : Nat → Int} {v : Nat} {b m : Int} (h : bst f v = (b, m)) (c : m < f v) : bst f (v + 1) = ((v : Int), f v) := by
  simp only [bst, h]
  rw [if_pos c]
theorem bst_no {f : Nat → Int} {v : Nat} {b m : Int} (h : bst f v = (b, m)) (c : f v ≤ m) : bst f (v + 1) = (b, m) := by
  simp only [bst, h]
  rw [if_neg (by omega)]
theorem bst_le {f : Nat → Int} {M : Int} (hM : -1 ≤ M) : ∀ v, (∀ u, u < v → f u ≤ M) → -1 ≤ (bst f v).2 ∧ (bst f v).2 ≤ M ∧ -1 ≤ (bst f v).1 ∧ (bst f v).1 < v := by
  intro v
  induction v with
  | zero => intro _; simp only [bst]; omega
  | succ v ih =>
    intro h
    have := ih (fun u hu => h u (by omega))
    have hv := h v (by omega)
    simp only [bst]
    split
    · dsimp only; omega
    · omega
theorem bst_pos {f : Nat → Int} (h0 : ∀ u, 0 ≤ f u) : ∀ v, 0 < v → 0 ≤ (bst f v).1 ∧ (bst f v).1 < v ∧ 0 ≤ (bst f v).2 := by
  intro v
  induction v with
  | zero => intro h; omega
  | succ v ih =>
    intro _
    have hf := h0 v
    by_cases hv : v = 0
    · subst hv
      rw [bst_go (f := f) (v := 0) (b := -1) (m := -1) rfl (by omega)]
      dsimp only
      omega
    · have := ih (by omega)
      simp only [bst]
      split
      · dsimp only; omega
      · omega
abbrev pFast (A : Nat → Nat) (a b c : Int32) : Prop := isR A a ∧ rgI 1 60 b ∧ rgI 0 1 c
def fFast (A : Nat → Nat) (i m : Nat) : Nat → Int := fun v => (tkn i m (va_up A 6 v) : Int)
def z_fast (A : Nat → Nat) (a b c : Int32) : Int := if pFast A a b c then (if nt c = 0 then (bst (fFast A (nt a) (nt b)) 4).1 else (bst (fFast A (nt a) (nt b)) 4).2) else -2
def fSeat (A : Nat → Nat) (i m : Nat) : Nat → Int := fun s => if who A s = none ∨ who A s = some i then (tkn i m (va_up A (15 + i) s) : Int) else -1
def z_seat (A : Nat → Nat) (a b c : Int32) : Int := if pFast A a b c then (if nt c = 0 then (bst (fSeat A (nt a) (nt b)) (A 21)).1 else (bst (fSeat A (nt a) (nt b)) (A 21)).2) else -2
def fLever (A : Nat → Nat) (i m : Nat) : Nat → Int := fun code => (tkb i code m A : Int)
abbrev pLever (A : Nat → Nat) (a b c : Int32) : Prop := isR A a ∧ rgI 1 6 b ∧ -1 ≤ c.toInt
def z_lever (A : Nat → Nat) (a b c : Int32) : Int := if pLever A a b c then (if c.toInt = -1 then (bst (fLever A (nt a) (nt b)) (1 * 2 ^ (2 * nt b))).2 else if (nt b : Int) ≤ c.toInt then -5 else (((bst (fLever A (nt a) (nt b)) (1 * 2 ^ (2 * nt b))).1.toNat / 2 ^ (2 * (nt b - 1 - nt c)) % 4 : Nat) : Int)) else -10
theorem wf_seat {A : Nat → Nat} {i s : Nat} (h : wf A) (hi : i < A 0) (hs : s < A 21) (hw : who A s = none ∨ who A s = some i) : wf (va_up A (15 + i) s) := by
  obtain ⟨⟨a1, a2, a3, a4, a5, a6⟩, hb, hr, hh, hd⟩ := h
  have e : ∀ j, j ≠ 15 + i → va_up A (15 + i) s j = A j := fun j h1 => by simp [va_up, h1]
  have es : va_up A (15 + i) s (15 + i) = s := by simp [va_up]
  have key : ∀ k, k < A 0 → k ≠ i → A (15 + k) ≠ s := by
    intro k hk hki he
    rcases hw with hw | hw
    · exact who_none _ hw k hk he
    · exact hki (hd k i hk hi (he.trans (who_some hw).2.symm))
  refine ⟨?_, ?_, ?_, ?_, ?_⟩
  · rw [e 21 (by omega), e 5 (by omega), e 6 (by omega), e 7 (by omega), e 0 (by omega)]; exact ⟨a1, a2, a3, a4, a5, a6⟩
  · intro j
    by_cases h6 : j = 15 + i
    · subst h6; rw [es]; omega
    · rw [e j h6]; exact hb j
  · intro k hk
    rw [e 0 (by omega)] at hk
    rw [e 21 (by omega), e (22 + k) (by omega), e (28 + k) (by omega), e (9 + k) (by omega)]
    refine ⟨?_, (hr k hk).2.1, (hr k hk).2.2.1, (hr k hk).2.2.2⟩
    by_cases hki : k = i
    · subst hki; rw [es]; exact hs
    · rw [e (15 + k) (by omega)]; exact (hr k hk).1
  · intro t ht
    rw [e (34 + t) (by omega), e (46 + t) (by omega)]; exact hh t ht
  · intro k j hk hj
    rw [e 0 (by omega)] at hk hj
    by_cases hki : k = i
    · by_cases hji : j = i
      · intro _; omega
      · subst hki; rw [es, e (15 + j) (by omega)]; intro hx; exact absurd hx.symm (key j hj hji)
    · by_cases hji : j = i
      · subst hji; rw [es, e (15 + k) (by omega)]; intro hx; exact absurd hx (key k hk hki)
      · rw [e (15 + k) (by omega), e (15 + j) (by omega)]; exact hd k j hk hj
/-- the first of the least, over two numbers -/
def mnJ (f : Nat → Nat) (t : Nat) : Nat → Int × Nat → Int × Nat
  | 0, s => s
  | v + 1, s => if f v < (mnJ f t v s).2 then (((10 * t + v : Nat) : Int), f v) else mnJ f t v s
def mnI (f : Nat → Nat → Nat) (V : Nat) : Nat → Int × Nat
  | 0 => (-1, 1000000)
  | t + 1 => mnJ (f t) t V (mnI f V t)
theorem mnJ_go {f : Nat → Nat} {t v : Nat} {s : Int × Nat} {b : Int} {m : Nat} (h : (b, m) = mnJ f t v s) (c : f v < m) : (((10 * t + v : Nat) : Int), f v) = mnJ f t (v + 1) s := by
  simp only [mnJ, ← h]
  rw [if_pos c]
theorem mnJ_no {f : Nat → Nat} {t v : Nat} {s : Int × Nat} {b : Int} {m : Nat} (h : (b, m) = mnJ f t v s) (c : m ≤ f v) : (b, m) = mnJ f t (v + 1) s := by
  simp only [mnJ, ← h]
  rw [if_neg (by omega)]
theorem likeN_ext {T U : Nat → Nat} {set a : Nat} (ha : T a = U a) : ∀ n, (∀ b, b < n → set / 2 ^ b % 2 = 1 → T b = U b) → likeN T set a n = likeN U set a n := by
  intro n
  induction n with
  | zero => intro _; rfl
  | succ n ih =>
    intro h
    simp only [likeN]
    rw [ih (fun b hb => h b (by omega))]
    by_cases hbit : set / 2 ^ n % 2 = 1
    · rw [h n (by omega) hbit, ha]
    · simp [hbit]
theorem like_ext {T U : Nat → Nat} {set a : Nat} (h : ∀ b, b < 8 → set / 2 ^ b % 2 = 1 → T b = U b) (ha : a < 8) : like T set a = like U set a := by
  unfold like
  split
  · rename_i hb; exact likeN_ext (h a ha hb) 8 h
  · rfl
theorem topN_ext {T U : Nat → Nat} {set : Nat} (h : ∀ b, b < 8 → set / 2 ^ b % 2 = 1 → T b = U b) : ∀ n, n ≤ 8 → topN T set n = topN U set n := by
  intro n
  induction n with
  | zero => intro _; rfl
  | succ n ih => intro hn; simp only [topN]; rw [ih (by omega), like_ext h (show n < 8 by omega)]
theorem bit_hi {set b : Nat} (h : set < 64) (hb : 6 ≤ b) : ¬ set / 2 ^ b % 2 = 1 := by
  have : 2 ^ 6 ≤ 2 ^ b := Nat.pow_le_pow_right (by decide) hb
  rw [Nat.div_eq_of_lt (by omega)]
  decide
theorem kds_lt (A : Nat → Nat) (o f m : Nat) (t : Bool) : kds A o f m t < 64 := orN_lt _ 6
theorem phs_lt (A : Nat → Nat) (s : Nat) : phs A s < 256 := orN_lt _ 8
def fTell (A : Nat → Nat) (s set : Nat) (t v : Nat) : Nat := topN (fun p => hgh (A (34 + s)) p t v) set 8
def fLook (A : Nat → Nat) (s set : Nat) (t v : Nat) : Nat := topN (fun k => hgh k (A (46 + s)) t v) set 8
def fAsk (A : Nat → Nat) (i set : Nat) (h r : Nat) : Nat := topN (fun k => rch k (A (28 + i)) h r) set 8
def mnz (f : Nat → Nat → Nat) (V T set : Nat) : Int := if set = 0 then -1 else (mnI f V T).1
def z_tell (A : Nat → Nat) (a : Int32) : Int := if isS A a then mnz (fTell A (nt a) (phs A (nt a))) 4 8 (phs A (nt a)) else -2
def z_look (A : Nat → Nat) (a : Int32) : Int := if isS A a then mnz (fLook A (nt a) (kds A (nt a) 78 (A 2) true)) 4 8 (kds A (nt a) 78 (A 2) true) else -2
def z_ask (A : Nat → Nat) (a : Int32) : Int := if isR A a then mnz (fAsk A (nt a) (kds A (nt a) 108 (A 3) false)) 10 11 (kds A (nt a) 108 (A 3) false) else -2
def hT (A : Nat → Nat) (i j : Nat) : Nat → Nat := fun k => if k < 4 then tkn i 8 (va_up A 6 k) else tkn j 8 (va_up A 6 (k - 4))
def hdF (T : Nat → Nat) (k : Int) : Nat → Nat → Nat → Nat ⊕ Nat
  | 0, _, c => .inr c
  | f + 1, code, c => if rstN T (code / 4) (code % 4) 4 = true then (if (c : Int) = k then .inl (10 * (code / 4) + code % 4) else hdF T k f (code + 1) (c + 1)) else hdF T k f (code + 1) c
abbrev pHands (A : Nat → Nat) (a b c : Int32) : Prop := isR A a ∧ isR A b ∧ ¬ a.toInt = b.toInt ∧ -1 ≤ c.toInt
def z_hands (A : Nat → Nat) (a b c : Int32) : Int := if pHands A a b c then lvz (hdF (hT A (nt a) (nt b)) c.toInt 16 0 0) c.toInt else -10
def slN (A : Nat → Nat) (set c : Nat) : Nat → Int × (Nat → Nat)
  | 0 => (1, A)
  | k + 1 => ((slN A set c k).1 * (if set / 2 ^ k % 2 = 1 then (c : Int) else ((10 - c : Nat) : Int)), (goT (slN A set c k).2 (decide (set / 2 ^ k % 2 = 1))).2)
def ssum (A : Nat → Nat) (i x n c : Nat) : Nat → Int
  | 0 => 0
  | set + 1 => ssum A i x n c set + (if x ≤ (slN A set c n).2 (9 + i) then (slN A set c n).1 else 0)
def p10 : Nat → Int
  | 0 => 1
  | n + 1 => p10 n * 10
theorem p10_le : ∀ n, n ≤ 6 → 1 ≤ p10 n ∧ p10 n ≤ 1000000 := by decide
theorem p10_pos : ∀ n, 1 ≤ p10 n := by
  intro n
  induction n with
  | zero => decide
  | succ n ih => simp only [p10]; omega
theorem slN_b {A : Nat → Nat} {set c : Nat} (hc : c ≤ 10) : ∀ k, 0 ≤ (slN A set c k).1 ∧ (slN A set c k).1 ≤ p10 k := by
  intro k
  induction k with
  | zero => simp only [slN, p10]; omega
  | succ k ih =>
    simp only [slN, p10]
    split
    · constructor
      · exact Int.mul_nonneg ih.1 (by omega)
      · exact Int.mul_le_mul ih.2 (by omega) (by omega) (by have := p10_pos k; omega)
    · constructor
      · exact Int.mul_nonneg ih.1 (by omega)
      · exact Int.mul_le_mul ih.2 (by omega) (by omega) (by have := p10_pos k; omega)
theorem ssum_b {A : Nat → Nat} {i x n c : Nat} (hc : c ≤ 10) (hn : n ≤ 6) : ∀ s, 0 ≤ ssum A i x n c s ∧ ssum A i x n c s ≤ s * 1000000 := by
  intro s
  induction s with
  | zero => simp [ssum]
  | succ s ih =>
    have h1 := slN_b (A := A) (set := s) hc n
    have h2 := p10_le n hn
    simp only [ssum]
    split <;> omega
theorem slN_8 {A : Nat → Nat} {set c : Nat} : ∀ k, (slN A set c k).2 8 = A 8 + k := by
  intro k
  induction k with
  | zero => rfl
  | succ k ih => simp only [slN]; rw [goT_8, ih]; omega
theorem wf_slN {A : Nat → Nat} {set c : Nat} (h : wf A) : ∀ k, A 8 + k < 90000 → wf (slN A set c k).2 := by
  intro k
  induction k with
  | zero => intro _; exact h
  | succ k ih => intro hk; simp only [slN]; exact wf_goT _ (ih (by omega)) (by rw [slN_8]; omega)
abbrev pSlip (A : Nat → Nat) (a b c d : Int32) : Prop := isR A a ∧ rgI 0 99 b ∧ rgI 0 6 c ∧ rgI 0 10 d
def z_slip (A : Nat → Nat) (a b c d : Int32) : Int := if pSlip A a b c d then 1 else -2
def s_slip (A : Nat → Nat) (a b c d : Int32) : Int := ssum A (nt a) (nt b) (nt c) (nt d) (1 * 2 ^ nt c)
def ab_slip (A : Nat → Nat) (ab : Int) (a b c d : Int32) : Int := if pSlip A a b c d then s_slip A a b c d / (Int.gcd (s_slip A a b c d) (p10 (nt c)) : Int) else ab
def be_slip (A : Nat → Nat) (be : Int) (a b c d : Int32) : Int := if pSlip A a b c d then p10 (nt c) / (Int.gcd (s_slip A a b c d) (p10 (nt c)) : Int) else be
def evX (x : Int) : Int := (x * 1103515245 + 12345) % 2147483648
def evV (x : Int) : Nat := (evX x / 65536 % 4).toNat
def evF : Nat → Int → (Nat → Nat) → Nat
  | 0, _, _ => 0
  | n + 1, x, B => (if (goT (va_up B 6 (evV x)) false).1 = none then 0 else 1) + evF n (evX x) (goT (va_up B 6 (evV x)) false).2
abbrev pEven (a b : Int32) : Prop := rgI 0 999999 a ∧ rgI 0 60 b
def z_even (A : Nat → Nat) (a b : Int32) : Int := if pEven a b then (evF (nt b) (nt a : Int) A : Int) else -2
def dcN (A : Nat → Nat) (bl : Nat) : Nat → Int
  | 0 => 1811
  | w + 1 => 31 * dcN A bl w + (cnt A bl w : Int)
def dsN (A : Nat → Nat) (h : Int) : Nat → Int
  | 0 => h
  | s + 1 => 31 * (31 * dsN A h s + (A (34 + s) : Int)) + (A (46 + s) : Int)
def drN (A : Nat → Nat) (h : Int) : Nat → Int
  | 0 => h
  | i + 1 => 31 * (31 * (31 * (31 * drN A h i + (A (22 + i) : Int)) + (A (28 + i) : Int)) + (A (15 + i) : Int)) + (A (9 + i) : Int)
def dgs (A : Nat → Nat) (bl : Nat) (ab be : Int) : Int := 31 * (31 * smN A 108 (smN A 78 (smN A 58 (drN A (dsN A (dcN A bl 12) (A 21)) (A 0)) (4 * A 1)) (5 * A 2)) (5 * A 3) + ab) + be
theorem takeR_0 (A : Nat → Nat) (i : Nat) : takeR A i 0 = A 0 := by simp only [takeR, va_up]; rw [if_neg (by decide), if_neg (by omega)]
theorem goT_0 (A : Nat → Nat) (sl : Bool) : (goT A sl).2 0 = A 0 := by
  unfold goT
  split
  · rfl
  · exact (takeR_0 _ _).trans rfl
