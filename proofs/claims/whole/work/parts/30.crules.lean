section JCopy
variable {cc : ByteArray} {own : String} {nL d mc ms : Nat} {ini : Bool} {Z : jZ} {J : JT} {pc q : Nat} {lvs : List (Nat × Value)} {rest : List Value} {ws ws' : va_W} {nc ns : Nat}
theorem nI_nneg {k : Nat} (h : k < 2 ^ 31) : ¬ nI k < 0 := by
  rw [Int32.not_lt, Int32.le_iff_toInt_le]
  have : (nI k).toInt = (k : Int) := nI_toI h
  rw [this]
  show (0 : Int) ≤ _
  omega
/-- a part of a row of ints is copied -/
theorem j_copyN (h : JR true cc own nL d mc ms ini Z J) {index a0 a1 n0 n1 sp dp n : Nat} {f g g' : Nat → Nat} (hl : Cond.methodLink own index arraycopyName ∈ jg) (dg : decode cc pc = .ok (.invokestatic index, 3)) (q0 q1 : Nat) (he0 : ws[q0]? = some (a0, ia Z n0 (ni f))) (he1 : ws[q1]? = some (a1, ia Z n1 (ni g))) (h4 : sp + n ≤ n0) (h5 : dp + n ≤ n1) (hn0 : n0 < 2 ^ 31) (hn1 : n1 < 2 ^ 31) (hd : 1 ≤ d) (hrest : (rest.map fun v => v.category).sum ≤ 8) (hg : ∀ j, j < n1 → va_cpy f g sp dp n j = g' j) (hw : ws.set q1 (a1, ia Z n1 (ni g')) = ws') (hq : pc + 3 = q) (K : J q lvs rest ws' nc ns) : J pc lvs (.int (nI n) :: .int (nI dp) :: .ref a1 :: .int (nI sp) :: .ref a0 :: rest) ws nc ns := by
  have hext : J q lvs rest (ws.set q1 (a1, ia Z n1 (va_cpy (ni f) (ni g) sp dp n))) nc ns := by
    refine j_ext h (g := ni g') q1 (List.getElem?_set_self (List.getElem?_eq_some_iff.mp he1).1) (fun j hj => ?_) (by rw [List.set_set]; exact hw) K
    show va_cpy (ni f) (ni g) sp dp n j = nI (g' j)
    rw [← hg j hj]
    simp only [va_cpy, ni]
    split <;> rfl
  clear hw K
  obtain ⟨p, l, ev, R, s, m, args, below, meth, c, A, Q, hR, hx, hb, hml, hown, hts, hK, hA, hX, hin, rfl⟩ := h
  subst hq
  intro H locs ls hl' hP hB
  have c1 : (nI n).toNatClampNeg = n := nI_clamp (by omega)
  have c2 : (nI sp).toNatClampNeg = sp := nI_clamp (by omega)
  have c3 : (nI dp).toNatClampNeg = dp := nI_clamp (by omega)
  refine va_copyi hx hb (hml.trans hl'.1.symm) hown (hts _ hl) (hts _ tm_470) (hts _ tm_469) (hts _ tm_16) hK hP hB.1 hB.2 q0 q1 0 0 he0 he1 rfl rfl rfl (nI_nneg (by omega)) (nI_nneg (by omega)) (nI_nneg (by omega)) (by rw [c1, c2]; exact h4) (by rw [c1, c3]; exact h5) (fun _ _ => rfl) (by omega) ?_ dg (fun H1 locs1 hP1 hD1 hS1 => ?_)
  · have e : nativeFrameWords "java/lang/System" "arraycopy" 5 = 7 := by decide
    rw [e]
    omega
  · rw [c1, c2, c3] at hP1 hD1
    exact hext H1 locs1 ls hl' hP1 ⟨hD1, hS1⟩
end JCopy
/-- a Round's object: its rows' addresses by q -/
abbrev cO (h : Nat) (q : Nat → Nat) (n an sp ri ti rd : Nat) : Nat × va_E := (h, .inr (2, [.int (nI n), .int (nI an), .int (nI sp), .int (nI ri), .int (nI ti), .int (nI rd), .ref (q 0), .ref (q 1), .ref (q 2), .ref (q 3), .ref (q 4), .ref (q 5)]))
/-- a Round's rows hold A where A is live -/
def rR (A K P kd am st rg : Nat → Nat) : Prop := (∀ s, s < A 21 → K s = A (34 + s) ∧ P s = A (46 + s)) ∧ (∀ i, i < A 0 → kd i = A (22 + i) ∧ am i = A (28 + i) ∧ st i = A (15 + i) ∧ rg i = A (9 + i))
section RR
variable {A K P kd am st rg : Nat → Nat} {i : Nat}
theorem rR_K (h : rR A K P kd am st rg) (hi : i < A 21) : K i = A (34 + i) := (h.1 i hi).1
theorem rR_P (h : rR A K P kd am st rg) (hi : i < A 21) : P i = A (46 + i) := (h.1 i hi).2
theorem rR_k (h : rR A K P kd am st rg) (hi : i < A 0) : kd i = A (22 + i) := (h.2 i hi).1
theorem rR_a (h : rR A K P kd am st rg) (hi : i < A 0) : am i = A (28 + i) := (h.2 i hi).2.1
theorem rR_s (h : rR A K P kd am st rg) (hi : i < A 0) : st i = A (15 + i) := (h.2 i hi).2.2.1
theorem rR_r (h : rR A K P kd am st rg) (hi : i < A 0) : rg i = A (9 + i) := (h.2 i hi).2.2.2
/-- places that a Round doesn't show may change -/
theorem rR_of {B : Nat → Nat} (h : rR A K P kd am st rg) (e : ∀ j, (j = 0 ∨ j = 21 ∨ 9 ≤ j ∧ j < 58) → B j = A j) (h6 : A 0 ≤ 6) (h12 : A 21 ≤ 12) : rR B K P kd am st rg := by
  refine ⟨fun s hs => ?_, fun i hi => ?_⟩
  · rw [e 21 (by omega)] at hs
    rw [e (34 + s) (by omega), e (46 + s) (by omega)]
    exact h.1 s hs
  · rw [e 0 (by omega)] at hi
    rw [e (22 + i) (by omega), e (28 + i) (by omega), e (15 + i) (by omega), e (9 + i) (by omega)]
    exact h.2 i hi
theorem rR_take (h : rR A K P kd am st rg) (hi : i < A 0) (h6 : A 0 ≤ 6) (h12 : A 21 ≤ 12) {v : Nat} (hv : v = takeR A i (9 + i)) : rR (takeR A i) K P kd am st (va_up rg i v) := by
  have e : ∀ j, j ≠ 7 → j ≠ 9 + i → takeR A i j = A j := fun j h1 h2 => by simp [takeR, va_up, h1, h2]
  refine ⟨fun s hs => ?_, fun k hk => ?_⟩
  · rw [e 21 (by omega) (by omega)] at hs
    rw [e (34 + s) (by omega) (by omega), e (46 + s) (by omega) (by omega)]
    exact h.1 s hs
  · rw [e 0 (by omega) (by omega)] at hk
    rw [e (22 + k) (by omega) (by omega), e (28 + k) (by omega) (by omega), e (15 + k) (by omega) (by omega)]
    refine ⟨(h.2 k hk).1, (h.2 k hk).2.1, (h.2 k hk).2.2.1, ?_⟩
    by_cases hki : k = i
    · subst hki; rw [← hv]; simp [va_up]
    · rw [e (9 + k) (by omega) (by omega)]; simp only [va_up]; rw [if_neg hki]; exact (h.2 k hk).2.2.2
end RR
theorem takeR_7 (A : Nat → Nat) (i : Nat) : takeR A i 7 = A 7 + if A 7 < 20 then 1 else 0 := by simp [takeR, va_up]
theorem takeR_9 (A : Nat → Nat) (i : Nat) : takeR A i (9 + i) = A (9 + i) + if A (9 + i) < 99 then 1 else 0 := by
  simp only [takeR, va_up]; rw [if_neg (by omega)]; simp
theorem takeR_ne (A : Nat → Nat) {i j : Nat} (h1 : j ≠ 7) (h2 : j ≠ 9 + i) : takeR A i j = A j := by simp [takeR, va_up, h1, h2]
theorem whoN_none {A : Nat → Nat} {s : Nat} : ∀ n, (∀ j, j < n → ¬ A (15 + j) = s) → whoN A s n = none := by
  intro n
  induction n with
  | zero => intro _; rfl
  | succ n ih => intro h; simp only [whoN]; rw [if_neg (h n (by omega))]; exact ih (fun j hj => h j (by omega))
theorem whoN_eq {A : Nat → Nat} {s i : Nat} (hs : A (15 + i) = s) : ∀ n, i < n → (∀ j, j < n → A (15 + j) = s → j = i) → whoN A s n = some i := by
  intro n
  induction n with
  | zero => intro h; omega
  | succ n ih =>
    intro hi h
    simp only [whoN]
    by_cases hn : A (15 + n) = s
    · rw [if_pos hn, h n (by omega) hn]
    · rw [if_neg hn]
      exact ih (by rcases Nat.lt_or_ge i n with h1 | h1; exact h1; exact absurd ((show i = n by omega) ▸ hs) hn) (fun j hj => h j (by omega))
theorem who_of {A : Nat → Nat} {s i : Nat} (hw : wf A) (hi : i < A 0) (hs : A (15 + i) = s) : who A s = some i := whoN_eq hs _ hi (fun j hj he => hw.2.2.2.2 j i hj hi (he.trans hs.symm))
theorem who_no {A : Nat → Nat} {s : Nat} (h : ∀ j, j < A 0 → ¬ A (15 + j) = s) : who A s = none := whoN_none _ h
theorem cpy_all {f g : Nat → Nat} {n j : Nat} (h : j < n) : va_cpy f g 0 0 n j = f j := by
  simp only [va_cpy]
  rw [if_pos (by omega), show 0 + (j - 0) = j by omega]
theorem cMin_eq : cJ9_min_7cf53 = Lib.Math.min.code := by first | rfl | decide +kernel
theorem cMax_eq : cJ9_max_7cf53 = Lib.Math.max.code := by first | rfl | decide +kernel
theorem nI_lt_if {a b : Nat} (ha : a < 2147483648) (hb : b < 2147483648) : (nI b < nI a) = (b < a) := by
  apply propext
  rw [Int32.lt_iff_toInt_lt, nI_toI ha, nI_toI hb]
  omega
section JMin
variable {b : Bool} {cc : ByteArray} {own : String} {nL d mc ms : Nat} {ini : Bool} {Z : jZ} {J : JT} {pc q : Nat} {lvs : List (Nat × Value)} {rest : List Value} {ws : va_W} {nc ns : Nat}
theorem j_min (h : JR b cc own nL d mc ms ini Z J) {index x y : Nat} (hl : Cond.methodLink own index yJ9_min_7cf53 ∈ jg) (dg : decode cc pc = .ok (.invokestatic index, 3)) (hx' : x < 2147483648) (hy' : y < 2147483648) (hd : 1 ≤ d) (hrest : (rest.map fun v => v.category).sum ≤ 8) (hc : nc ≤ mc) (hs : ns ≤ ms) (hq : pc + 3 = q) (K : J q lvs (.int (nI (if y < x then y else x)) :: rest) ws nc ns) : J pc lvs (.int (nI y) :: .int (nI x) :: rest) ws nc ns := by
  obtain ⟨p, l, ev, R, s, m, args, below, meth, c, A, Q, hR, hx, hb, hml, hown, hts, hK, hA, hX, hin, rfl⟩ := h
  subst hq
  intro H locs ls hl' hP hB
  refine va_mmin hx hb (hml.trans hl'.1.symm) hown (hts _ hl) (hts _ tm_462) (hts _ tm_15) (by have := hts _ tm_463; rw [cMin_eq] at this; exact this) (by omega) (by omega) (by omega) (by omega) dg ?_
  have e : (if nI y < nI x then nI y else nI x) = nI (if y < x then y else x) := by
    simp only [nI_lt_if hx' hy']
    split <;> rfl
  rw [e]
  exact K H locs ls hl' hP hB
theorem j_max (h : JR b cc own nL d mc ms ini Z J) {index x y : Nat} (hl : Cond.methodLink own index yJ9_max_7cf53 ∈ jg) (dg : decode cc pc = .ok (.invokestatic index, 3)) (hx' : x < 2147483648) (hy' : y < 2147483648) (hd : 1 ≤ d) (hrest : (rest.map fun v => v.category).sum ≤ 8) (hc : nc ≤ mc) (hs : ns ≤ ms) (hq : pc + 3 = q) (K : J q lvs (.int (nI (if x < y then y else x)) :: rest) ws nc ns) : J pc lvs (.int (nI y) :: .int (nI x) :: rest) ws nc ns := by
  obtain ⟨p, l, ev, R, s, m, args, below, meth, c, A, Q, hR, hx, hb, hml, hown, hts, hK, hA, hX, hin, rfl⟩ := h
  subst hq
  intro H locs ls hl' hP hB
  refine va_mmax hx hb (hml.trans hl'.1.symm) hown (hts _ hl) (hts _ tm_644) (hts _ tm_15) (by have := hts _ tm_645; rw [cMax_eq] at this; exact this) (by omega) (by omega) (by omega) (by omega) dg ?_
  have e : (if nI x < nI y then nI y else nI x) = nI (if x < y then y else x) := by
    simp only [nI_lt_if hy' hx']
    split <;> rfl
  rw [e]
  exact K H locs ls hl' hP hB
end JMin
