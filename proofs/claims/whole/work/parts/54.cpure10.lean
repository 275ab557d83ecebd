/-! the lever: codes by four, a prefix p of them, n figures left -/
theorem pw4 (n : Nat) : 2 ^ (2 * n) = 4 ^ n := by rw [Nat.pow_mul]
theorem tkb_ext {i c d : Nat} : ∀ (n : Nat) (B : Nat → Nat), (∀ k, k < n → c / 2 ^ (2 * k) % 4 = d / 2 ^ (2 * k) % 4) → tkb i c n B = tkb i d n B := by
  intro n
  induction n with
  | zero => intro B _; rfl
  | succ n ih =>
    intro B h
    simp only [tkb]
    rw [h n (by omega), ih _ (fun k hk => h k (by omega))]
theorem dg_lo {v x k n : Nat} (h : k < n) : (v * 4 ^ n + x) / 2 ^ (2 * k) % 4 = x / 2 ^ (2 * k) % 4 := by
  have e : 4 ^ n = 4 ^ k * (4 * 4 ^ (n - 1 - k)) := by
    rw [← Nat.mul_assoc, ← Nat.pow_succ, ← Nat.pow_add]
    congr 1
    omega
  have hp : 0 < 4 ^ k := (Nat.pow_pos (by decide))
  rw [pw4, e, show v * (4 ^ k * (4 * 4 ^ (n - 1 - k))) = 4 ^ k * (4 * (v * 4 ^ (n - 1 - k))) by
    rw [Nat.mul_left_comm, Nat.mul_left_comm v 4], Nat.mul_add_div hp]
  omega
theorem dg_hi {v x n : Nat} (hv : v < 4) (hx : x < 4 ^ n) : (v * 4 ^ n + x) / 2 ^ (2 * n) % 4 = v := by
  have hp : 0 < 4 ^ n := Nat.pow_pos (by decide)
  rw [pw4, Nat.mul_comm v, Nat.mul_add_div hp, Nat.div_eq_of_lt hx]
  omega
theorem tkb_step {i n v x : Nat} {B : Nat → Nat} (hv : v < 4) (hx : x < 4 ^ n) : tkb i (v * 4 ^ n + x) (n + 1) B = (if (goT (va_up B 6 v) false).1 = some i then 1 else 0) + tkb i x n (goT (va_up B 6 v) false).2 := by
  simp only [tkb]
  rw [dg_hi hv hx, tkb_ext (c := v * 4 ^ n + x) (d := x) n _ (fun k hk => dg_lo hk)]
theorem bst_skip {f : Nat → Int} {a : Nat} {bs mo : Int} (h : bst f a = (bs, mo)) : ∀ n, (∀ x, x < n → f (a + x) ≤ mo) → bst f (a + n) = (bs, mo) := by
  intro n
  induction n with
  | zero => intro _; exact h
  | succ n ih => intro hl; exact bst_no (ih (fun x hx => hl x (by omega))) (hl n (by omega))
/-- f's numbers behind the prefix p -/
def hfL (f : Nat → Int) (i n p t : Nat) (B : Nat → Nat) : Prop := ∀ x, x < 4 ^ n → f (p * 4 ^ n + x) = ((t + tkb i x n B : Nat) : Int)
theorem p4a (p n : Nat) : p * 4 ^ (n + 1) = (p * 4 + 0) * 4 ^ n := by rw [Nat.pow_succ, Nat.add_zero, Nat.mul_comm (4 ^ n), Nat.mul_assoc]
theorem p4b (p n : Nat) : (p + 1) * 4 ^ (n + 1) = (p * 4 + 4) * 4 ^ n := by rw [Nat.pow_succ, Nat.mul_comm (4 ^ n), ← Nat.mul_assoc, Nat.add_mul, Nat.one_mul]
theorem hfL_step {f : Nat → Int} {i n p t : Nat} {B : Nat → Nat} (h : hfL f i (n + 1) p t B) {v : Nat} (hv : v < 4) {t' : Nat} {B' : Nat → Nat} (ht : t' = t + (if (goT (va_up B 6 v) false).1 = some i then 1 else 0)) (hB : B' = (goT (va_up B 6 v) false).2) : hfL f i n (p * 4 + v) t' B' := by
  intro x hx
  have hl : v * 4 ^ n + x < 4 ^ (n + 1) := by
    rw [Nat.pow_succ]
    have : v * 4 ^ n ≤ 3 * 4 ^ n := Nat.mul_le_mul_right _ (by omega)
    omega
  have h1 := h (v * 4 ^ n + x) hl
  rw [p4a, tkb_step hv hx] at h1
  rw [Nat.add_mul, Nat.add_assoc, show p * 4 * 4 ^ n + (v * 4 ^ n + x) = (p * 4 + 0) * 4 ^ n + (v * 4 ^ n + x) from rfl, h1, ht, hB, Nat.add_assoc]
theorem hfL_prune {f : Nat → Int} {i n p t : Nat} {B : Nat → Nat} {bs mo : Int} (h : hfL f i n p t B) (hb : bst f (p * 4 ^ n) = (bs, mo)) (hm : ((t + n : Nat) : Int) ≤ mo) : bst f ((p + 1) * 4 ^ n) = (bs, mo) := by
  rw [Nat.add_mul, Nat.one_mul]
  refine bst_skip hb _ (fun x hx => ?_)
  rw [h x hx]
  have := tkb_le i x n B
  omega
theorem hfL_leaf {f : Nat → Int} {i p t : Nat} {B : Nat → Nat} {bs mo : Int} (h : hfL f i 0 p t B) (hb : bst f (p * 4 ^ 0) = (bs, mo)) (hm : mo < (t : Int)) : bst f ((p + 1) * 4 ^ 0) = ((p : Int), (t : Int)) := by
  have h0 := h 0 (by decide)
  rw [show p * 4 ^ 0 + 0 = p by simp] at h0
  rw [show p * 4 ^ 0 = p by simp] at hb
  rw [show (p + 1) * 4 ^ 0 = p + 1 by simp]
  have e : f p = (t : Int) := h0
  rw [bst_go hb (by omega), e]
def rowL (m : Nat) (bs : Int) (M : Nat → Nat) : Prop := 0 ≤ bs → ∀ k, k < m → M k = bs.toNat / 2 ^ (2 * (m - 1 - k)) % 4
def preL (p dp : Nat) (R : Nat → Nat) : Prop := ∀ k, k < dp → R k = p / 2 ^ (2 * (dp - 1 - k)) % 4
theorem preL_step {p dp v : Nat} {R R1 : Nat → Nat} (h : preL p dp R) (ha : ∀ k, k < dp → R1 k = R k) (hv : v < 4) : preL (p * 4 + v) (dp + 1) (va_up R1 dp v) := by
  intro k hk
  simp only [va_up]
  by_cases hkd : k = dp
  · subst hkd
    rw [if_pos rfl, show k + 1 - 1 - k = 0 by omega]
    simp only [Nat.mul_zero, Nat.pow_zero, Nat.div_one]
    omega
  · rw [if_neg hkd, ha k (by omega), h k (by omega), show dp + 1 - 1 - k = (dp - 1 - k) + 1 by omega, pw4, pw4, Nat.pow_succ, Nat.mul_comm (4 ^ _) 4, ← Nat.div_div_eq_div_mul, show (p * 4 + v) / 4 = p by omega]
theorem rowL_leaf {p m : Nat} {R : Nat → Nat} (h : preL p m R) : rowL m (p : Int) R := fun _ k hk => h k hk
theorem preL_0 (R : Nat → Nat) : preL 0 0 R := fun k hk => absurd hk (Nat.not_lt_zero _)
theorem rR_untake {T K P kd am st rz : Nat → Nat} {w : Nat} (h : rR (takeR T w) K P kd am st rz) (hw : w < T 0) (h6 : T 0 ≤ 6) (h12 : T 21 ≤ 12) : rR T K P kd am st (va_up rz w (T (9 + w))) := by
  have e : ∀ j, j ≠ 7 → j ≠ 9 + w → takeR T w j = T j := fun j h1 h2 => takeR_ne T h1 h2
  obtain ⟨h1, h2⟩ := h
  rw [e 21 (by omega) (by omega)] at h1
  rw [e 0 (by omega) (by omega)] at h2
  refine ⟨fun s hs => ?_, fun i hi => ?_⟩
  · have := h1 s hs
    rw [e (34 + s) (by omega) (by omega), e (46 + s) (by omega) (by omega)] at this
    exact this
  · have := h2 i hi
    rw [e (22 + i) (by omega) (by omega), e (28 + i) (by omega) (by omega), e (15 + i) (by omega) (by omega)] at this
    refine ⟨this.1, this.2.1, this.2.2.1, ?_⟩
    simp only [va_up]
    by_cases hiw : i = w
    · subst hiw; rw [if_pos rfl]
    · rw [if_neg hiw, this.2.2.2, e (9 + i) (by omega) (by omega)]
/-- a tick back: what a Round shows of its rows is as before -/
theorem rR_untick {B K P kd am st rz : Nat → Nat} {v : Nat} (h : rR (tick1 (va_up B 6 v)) K P kd am st rz) (h6 : B 0 ≤ 6) (h12 : B 21 ≤ 12) : rR B K P kd am st rz :=
  rR_of h (fun j hj => by simp only [tick1, va_up]; rw [if_neg (by omega), if_neg (by omega), if_neg (by omega)]) h6 h12
theorem rR_untick0 {B K P kd am st rz : Nat → Nat} (h : rR (tick1 B) K P kd am st rz) (h6 : B 0 ≤ 6) (h12 : B 21 ≤ 12) : rR B K P kd am st rz :=
  rR_of h (fun j hj => by simp only [tick1, va_up]; rw [if_neg (by omega), if_neg (by omega)]) h6 h12
/-! slips: by the first tick -/
def chF (i x c : Nat) : Nat → (Nat → Nat) → Int
  | 0, B => if x ≤ B (9 + i) then 1 else 0
  | n + 1, B => match rchr (tick1 B) with
    | none => chF i x c n (tick1 B) * 10
    | some w => (c : Int) * chF i x c n (tick1 B) + ((10 - c : Nat) : Int) * chF i x c n (takeR (tick1 B) w)
theorem chF_none {i x c n : Nat} {B : Nat → Nat} (h : rchr (tick1 B) = none) : chF i x c (n + 1) B = chF i x c n (tick1 B) * 10 := by simp only [chF]; rw [h]
theorem chF_some {i x c n w : Nat} {B : Nat → Nat} (h : rchr (tick1 B) = some w) : chF i x c (n + 1) B = (c : Int) * chF i x c n (tick1 B) + ((10 - c : Nat) : Int) * chF i x c n (takeR (tick1 B) w) := by simp only [chF]; rw [h]
def fcS (c : Nat) (t : Bool) : Int := if t = true then (c : Int) else ((10 - c : Nat) : Int)
/-- a set of slips, its first figure ahead -/
theorem slN_first {A : Nat → Nat} {c : Nat} {t : Bool} {s e : Nat} (he : e = 2 * s + (if t = true then 1 else 0)) : ∀ k, slN A e c (k + 1) = ((slN (goT A t).2 s c k).1 * fcS c t, (slN (goT A t).2 s c k).2) := by
  have hb : e / 2 ^ 0 % 2 = (if t = true then 1 else 0) := by rw [Nat.pow_zero, Nat.div_one, he]; split <;> omega
  have hn : ∀ k, e / 2 ^ (k + 1) = s / 2 ^ k := by
    intro k
    rw [Nat.pow_succ, Nat.mul_comm, ← Nat.div_div_eq_div_mul]
    congr 1
    rw [he]; split <;> omega
  have hd : decide (e / 2 ^ 0 % 2 = 1) = t := by rw [hb]; cases t <;> rfl
  have hf : (if e / 2 ^ 0 % 2 = 1 then (c : Int) else ((10 - c : Nat) : Int)) = fcS c t := by rw [hb]; cases t <;> rfl
  intro k
  induction k with
  | zero =>
    simp only [slN]
    rw [hd, hf]
  | succ k ih =>
    rw [show slN A e c (k + 1 + 1) = ((slN A e c (k + 1)).1 * (if e / 2 ^ (k + 1) % 2 = 1 then (c : Int) else ((10 - c : Nat) : Int)), (goT (slN A e c (k + 1)).2 (decide (e / 2 ^ (k + 1) % 2 = 1))).2) from rfl, ih, hn k]
    simp only [slN]
    congr 1
    rw [Int.mul_assoc, Int.mul_assoc, Int.mul_comm (fcS c t)]
theorem ssum_two {A : Nat → Nat} {i x n c : Nat} : ∀ s, ssum A i x (n + 1) c (2 * s) = ssum (goT A false).2 i x n c s * fcS c false + ssum (goT A true).2 i x n c s * fcS c true := by
  intro s
  induction s with
  | zero => simp [ssum]
  | succ s ih =>
    rw [show 2 * (s + 1) = 2 * s + 1 + 1 by omega]
    have e0 := slN_first (A := A) (c := c) (t := false) (s := s) (e := 2 * s) rfl n
    have e1 := slN_first (A := A) (c := c) (t := true) (s := s) (e := 2 * s + 1) rfl n
    simp only [ssum]
    rw [ih, e0, e1]
    dsimp only
    generalize slN (goT A false).2 s c n = y0
    generalize slN (goT A true).2 s c n = y1
    rw [Int.add_mul, Int.add_mul]
    have m0 : (if x ≤ y0.2 (9 + i) then y0.1 * fcS c false else 0) = (if x ≤ y0.2 (9 + i) then y0.1 else 0) * fcS c false := by split <;> simp
    have m1 : (if x ≤ y1.2 (9 + i) then y1.1 * fcS c true else 0) = (if x ≤ y1.2 (9 + i) then y1.1 else 0) * fcS c true := by split <;> simp
    rw [m0, m1]
    omega
theorem goT_true (A : Nat → Nat) : (goT A true).2 = tick1 A := rfl
theorem chF_sum {i x c : Nat} (hc : c ≤ 10) : ∀ (n : Nat) (A : Nat → Nat), chF i x c n A = ssum A i x n c (1 * 2 ^ n) := by
  intro n
  induction n with
  | zero =>
    intro A
    show (if x ≤ A (9 + i) then (1 : Int) else 0) = 0 + (if x ≤ A (9 + i) then (1 : Int) else 0)
    exact (Int.zero_add _).symm
  | succ n ih =>
    intro A
    rw [show 1 * 2 ^ (n + 1) = 2 * (1 * 2 ^ n) by rw [Nat.pow_succ]; omega, ssum_two, ← ih, ← ih, goT_true]
    have hf : fcS c false = ((10 - c : Nat) : Int) := rfl
    have ht : fcS c true = (c : Int) := rfl
    rw [hf, ht]
    cases h : rchr (tick1 A) with
    | none =>
      rw [chF_none h, goT_n (sl := false) rfl (Or.inr h)]
      dsimp only
      rw [← Int.mul_add]
      congr 1
      omega
    | some w =>
      rw [chF_some h, goT_s rfl rfl h]
      dsimp only
      rw [Int.mul_comm (c : Int), Int.mul_comm ((10 - c : Nat) : Int), Int.add_comm]
/-! Euclid's way ends before its hundredth step -/
def EU (ov un : Int) (k : Nat) (a b : Int) : Prop := 0 ≤ a ∧ 0 ≤ b ∧ Int.gcd a b = Int.gcd ov un ∧ a ≤ 100000000 ∧ b ≤ 100000000 ∧ ((k = 0 ∧ a = ov ∧ b = un) ∨ (b < a ∧ a * b * (2 : Int) ^ k ≤ (2 : Int) ^ 60))
theorem EU_0 {ov un : Int} (h1 : 0 ≤ ov ∧ ov ≤ 100000000) (h2 : 0 ≤ un ∧ un ≤ 100000000) : EU ov un 0 ov un := ⟨h1.1, h2.1, rfl, h1.2, h2.2, Or.inl ⟨rfl, rfl, rfl⟩⟩
theorem EU_go {ov un a b : Int} {k : Nat} (h : EU ov un k a b) (hb : 0 < b) : EU ov un (k + 1) b (a % b) := by
  obtain ⟨h1, h2, h3, h4, h5, h6⟩ := h
  have hm0 : 0 ≤ a % b := Int.emod_nonneg a (by omega)
  have hm1 : a % b < b := Int.emod_lt_of_pos a hb
  refine ⟨h2, hm0, (gcd_step h1 h2).trans h3, h5, by omega, Or.inr ⟨hm1, ?_⟩⟩
  rw [Int.pow_succ]
  rcases h6 with ⟨rfl, -, -⟩ | ⟨h7, h8⟩
  · have : b * (a % b) ≤ 100000000 * 100000000 := Int.mul_le_mul h5 (by omega) hm0 (by omega)
    rw [Int.pow_zero]
    have e60 : (2 : Int) ^ 60 = 1152921504606846976 := by decide
    rw [e60]
    omega
  · have hh : a % b * 2 ≤ a := by
      have := Int.emod_add_mul_ediv a b
      have hq : 1 ≤ a / b := by
        rw [Int.le_ediv_iff_mul_le hb]; omega
      have : b * 1 ≤ b * (a / b) := Int.mul_le_mul_of_nonneg_left hq (by omega)
      omega
    have hp : (0 : Int) ≤ 2 ^ k := Int.le_of_lt (Int.pow_pos (by decide))
    have e1 : b * (a % b) * (2 ^ k * 2) = b * (a % b * 2) * 2 ^ k := by
      rw [Int.mul_comm (2 ^ k) 2, ← Int.mul_assoc, Int.mul_assoc b]
    rw [e1]
    refine Int.le_trans (Int.mul_le_mul_of_nonneg_right ?_ hp) h8
    rw [Int.mul_comm a b]
    exact Int.mul_le_mul_of_nonneg_left hh (by omega)
theorem EU_lt {ov un a b : Int} {k : Nat} (h : EU ov un k a b) (hb : 0 < b) : k < 100 := by
  obtain ⟨h1, h2, h3, h4, h5, h6⟩ := h
  rcases h6 with ⟨rfl, -, -⟩ | ⟨h7, h8⟩
  · decide
  · rcases Nat.lt_or_ge k 100 with hk | hk
    · exact hk
    · exfalso
      have hab : 1 ≤ a * b := by
        have : 1 * 1 ≤ a * b := Int.mul_le_mul (by omega) (by omega) (by omega) (by omega)
        omega
      have hp : (2 : Int) ^ 100 ≤ 2 ^ k := by
        have := Nat.pow_le_pow_right (n := 2) (by decide) hk
        have h10 : ((2 ^ 100 : Nat) : Int) ≤ ((2 ^ k : Nat) : Int) := Int.ofNat_le.mpr this
        rw [Int.natCast_pow, Int.natCast_pow] at h10
        exact h10
      have h9 : 1 * (2 : Int) ^ k ≤ a * b * 2 ^ k := Int.mul_le_mul_of_nonneg_right hab (Int.le_of_lt (Int.pow_pos (by decide)))
      have e60 : (2 : Int) ^ 60 = 1152921504606846976 := by decide
      have e100 : (2 : Int) ^ 100 = 1267650600228229401496703205376 := by decide
      rw [e60] at h8
      rw [e100] at hp
      omega
theorem EU_end {ov un a b : Int} {k : Nat} (h : EU ov un k a b) (hb : b ≤ 0) (hu : 1 ≤ un) : a = (Int.gcd ov un : Int) ∧ 0 < a := by
  obtain ⟨h1, h2, h3, h4, h5, h6⟩ := h
  have hb0 : b = 0 := by omega
  subst hb0
  rw [Int.gcd_zero_right] at h3
  have e : a = (Int.gcd ov un : Int) := by rw [← h3]; exact (Int.natAbs_of_nonneg h1).symm
  refine ⟨e, ?_⟩
  rw [e]
  have : 0 < Int.gcd ov un := Nat.pos_of_ne_zero (fun h0 => by rw [Int.gcd_eq_zero_iff] at h0; omega)
  omega
