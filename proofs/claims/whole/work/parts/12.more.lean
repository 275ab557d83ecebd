theorem j_eql {J : JT} {pc : Nat} {lvs lvs' : List (Nat × Value)} {st : List Value} {ws : va_W} {nc ns : Nat} (e : lvs = lvs') (K : J pc lvs' st ws nc ns) : J pc lvs st ws nc ns := e ▸ K
theorem j_eqst {J : JT} {pc : Nat} {lvs : List (Nat × Value)} {st st' : List Value} {ws : va_W} {nc ns : Nat} (e : st = st') (K : J pc lvs st' ws nc ns) : J pc lvs st ws nc ns := e ▸ K
theorem arrV_ext {cA : ClassId} {n : Nat} {f g : Nat → Value} (h : ∀ j, j < n → f j = g j) : arrV cA n f = arrV cA n g := by
  unfold arrV
  congr 1
  apply Array.ext
  · simp
  · intro i h1 h2
    simp only [Array.getElem_ofFn]
    exact h i (by simpa using h1)
/-- what a row holds beyond its length is free -/
theorem j_ext {b : Bool} {cc : ByteArray} {own : String} {nL d mc ms : Nat} {ini : Bool} {Z : jZ} {J : JT} {pc : Nat} {lvs : List (Nat × Value)} {st : List Value} {ws ws' : va_W} {nc ns : Nat} (h : JR b cc own nL d mc ms ini Z J) {a n : Nat} {cA : ClassId} {f g : Nat → Int32} (q0 : Nat) (he : ws[q0]? = some (a, .inl (cA, n, .inl f))) (hf : ∀ j, j < n → f j = g j) (hw : ws.set q0 (a, .inl (cA, n, .inl g)) = ws') (K : J pc lvs st ws' nc ns) : J pc lvs st ws nc ns := by
  obtain ⟨p, l, ev, R, s, m, args, below, meth, c, A, Q, hR, hx, hb, hml, hown, hts, hK, hA, hX, hin, rfl⟩ := h
  subst hw
  intro H locs ls hl' hP hB
  have hl := (List.getElem?_eq_some_iff.mp he).1
  have e1 : vp_cell cA (n, .inl f) = vp_cell cA (n, .inl g) := by
    rw [vp_cell_i, vp_cell_i]
    exact arrV_ext (fun j hj => by rw [hf j hj])
  refine K H locs ls hl' ?_ ?_
  · intro k q hk
    by_cases hkq : k = q0
    · subst hkq
      rw [List.getElem?_set_self hl] at hk
      cases hk
      have := hP k _ he
      show H[a]? = some (vp_cell cA (n, .inl g))
      rw [← e1]
      exact this
    · rw [List.getElem?_set_ne (Ne.symm hkq)] at hk
      exact hP k q hk
  · cases b with
    | true => exact ⟨hB.1.set he, hB.2⟩
    | false => exact hB
def nt (x : Int32) : Nat := x.toInt.toNat
theorem nt_eq {x : Int32} (h : 0 ≤ x.toInt) : x = nI (nt x) := by
  unfold nt
  rw [← zI_nat, Int.toNat_of_nonneg h]
  exact zI_of x
theorem nt_nI {k : Nat} (h : k < 2147483648) : nt (nI k) = k := by
  unfold nt
  rw [nI_toI h]
  rfl
theorem nt_cast {x : Int32} (h : 0 ≤ x.toInt) : ((nt x : Nat) : Int) = x.toInt := Int.toNat_of_nonneg h
/-- the reference's object: its rows' addresses by q -/
abbrev mO (h : Nat) (q : Nat → Nat) (ab be : Int) (bl ta tl tk va : Nat) : Nat × va_E := (h, .inr (7, [.ref (q 0), .ref (q 1), .ref (q 2), .ref (q 3), .long (zL ab), .long (zL be), .ref (q 4), .ref (q 5), .ref (q 6), .ref (q 7), .int (nI bl), .int (nI ta), .int (nI tl), .int (nI tk), .int (nI va), .ref (q 8), .ref (q 9)]))
theorem bI_nar (t : Bool) : narrow .boolean (.int (bI t)) = .int (bI t) := by cases t <;> rfl
theorem bI_nar' (t : Bool) : narrow .boolean (.int (nI (cond t 1 0))) = .int (nI (cond t 1 0)) := by cases t <;> rfl
