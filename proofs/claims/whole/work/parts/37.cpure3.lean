theorem tk_let {By : Nat → Nat} {L f e : Nat} (hf : f < L) (hc : 97 ≤ By f ∧ By f ≤ 122) (he : e + rn 1 By L e = f + rn 1 By L f) (hs : ¬ (e < L ∧ 97 ≤ By e ∧ By e ≤ 122)) : tkK By L f = 1 ∧ f + tkL By L f = e := by
  have c1 : cls (By f) = 1 := by unfold cls; rw [if_pos hc]
  have c2 : ∀ c, cls c = 1 → 97 ≤ c ∧ c ≤ 122 := by
    intro c h
    unfold cls at h
    split at h
    · assumption
    · (repeat' split at h) <;> cases h
  rw [rn_stop (p := e) (fun z => hs ⟨z.1, c2 _ z.2⟩), rn_go (p := f) ⟨hf, c1⟩] at he
  refine ⟨?_, ?_⟩
  · unfold tkK
    rw [if_neg (by omega), c1, if_neg (by omega)]
  · rw [tkL_of hf c1]
    unfold tl0
    rw [if_pos (by omega)]
    omega
theorem tk_fig {By : Nat → Nat} {L f e : Nat} (hf : f < L) (hc : 48 ≤ By f ∧ By f ≤ 57) (he : e + rn 2 By L e = f + rn 2 By L f) (hs : ¬ (e < L ∧ 48 ≤ By e ∧ By e ≤ 57)) : cls (By f) = 2 ∧ f + tkL By L f = e := by
  have c1 : cls (By f) = 2 := by unfold cls; rw [if_neg (by omega), if_pos hc]
  rw [rn_stop (p := e) (fun z => hs ⟨z.1, cls_2 z.2⟩), rn_go (p := f) ⟨hf, c1⟩] at he
  refine ⟨c1, ?_⟩
  rw [tkL_of hf c1]
  unfold tl0
  rw [if_pos (by omega)]
  omega
theorem tk_num {By : Nat → Nat} {L f e : Nat} (hf : f < L) (h : cls (By f) = 2 ∧ f + tkL By L f = e) (h2 : e - f ≤ 2) : tkK By L f = 2 ∧ tkV By L f = vN By f (e - f) := by
  unfold tkK tkV
  rw [if_neg (by omega), if_neg (by omega), if_neg (by omega), if_pos h.1, show min (tkL By L f) 2 = e - f by omega]
  exact ⟨h.1, rfl⟩
theorem tk_wrong {By : Nat → Nat} {L f e : Nat} (hf : f < L) (h : cls (By f) = 2 ∧ f + tkL By L f = e) (h2 : 2 < e - f) : tkK By L f = 4 := by
  unfold tkK
  rw [if_neg (by omega), if_pos ⟨h.1, by omega⟩]
theorem tk_sgn {By : Nat → Nat} {L f : Nat} (hf : f < L) (h1 : ¬ (97 ≤ By f ∧ By f ≤ 122)) (h2 : ¬ (48 ≤ By f ∧ By f ≤ 57)) : tkK By L f = (if By f = 59 then 3 else 4) ∧ tkL By L f = 1 := by
  have c1 : cls (By f) = if By f = 59 then 3 else 4 := by unfold cls; rw [if_neg h1, if_neg h2]
  have c3 : 3 ≤ cls (By f) := by rw [c1]; split <;> omega
  constructor
  · unfold tkK
    rw [if_neg (by omega), if_neg (by omega), c1]
  · unfold tkL
    rw [if_neg (by omega), if_neg (by omega)]
theorem num_st {By : Nat → Nat} {f e : Nat} {nb : Int32} (hb : ∀ j, By j < 128) (hfe : f ≤ e) (h : e - f ≤ 2 → nb = nI (vN By f (e - f))) (hd : 48 ≤ By e) (h2 : e + 1 - f ≤ 2) : zI ((10 : Int) * nb.toInt + ((By e : Int) - (48 : Int))) = nI (vN By f (e + 1 - f)) := by
  have hv := vN_le (a := f) hb (e - f) (by omega)
  have h3 := h (by omega)
  rw [show e + 1 - f = (e - f) + 1 by omega]
  simp only [vN]
  rw [h3, nI_toI (by omega), show f + (e - f) = e by omega, ← zI_nat]
  congr 1
  omega
theorem spN_ext {By : Nat → Nat} {p : Nat} {w u : Nat → Nat} : ∀ k, (∀ j, j < k → w j = u j) → spN By p w k = spN By p u k := by
  intro k
  induction k with
  | zero => intro _; rfl
  | succ k ih => intro h; simp only [spN]; rw [ih (fun j hj => h j (by omega)), h k (by omega)]
theorem isW_w {By : Nat → Nat} {L p size : Nat} {w u : Nat → Nat} (h : ∀ j, j < size → w j = u j) : isW By L p size w = isW By L p size u := by
  unfold isW
  rw [spN_ext size h]
theorem isW_no {By : Nat → Nat} {L p size : Nat} {w : Nat → Nat} (h : ¬ (tkK By L p = 1 ∧ tkL By L p = size)) : false = isW By L p size w := by
  unfold isW
  rw [decide_eq_false h]
  rfl
theorem isW_nok {By : Nat → Nat} {L p size k : Nat} {w : Nat → Nat} (hk : k < size) (h : ¬ By (p + k) = w k) : false = isW By L p size w := by
  unfold isW
  rw [spN_mono (k := k + 1) (by simp only [spN]; rw [decide_eq_false h, Bool.and_false]) size hk, Bool.and_false]
theorem isW_yes {By : Nat → Nat} {L p size : Nat} {w : Nat → Nat} (h : tkK By L p = 1 ∧ tkL By L p = size) (h2 : spN By p w size = true) : true = isW By L p size w := by
  unfold isW
  rw [decide_eq_true h, h2]
  rfl
theorem spN_go {By : Nat → Nat} {p k : Nat} {w : Nat → Nat} (h : spN By p w k = true) (h2 : By (p + k) = w k) : spN By p w (k + 1) = true := by
  simp only [spN]
  rw [h, decide_eq_true h2]
  rfl
