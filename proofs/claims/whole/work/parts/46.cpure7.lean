section JLook
variable {b : Bool} {cc : ByteArray} {own : String} {nL d mc ms : Nat} {ini : Bool} {Z : jZ} {J : JT} {pc q : Nat} {lvs : List (Nat × Value)} {st : List Value} {ws : va_W} {nc ns : Nat}
theorem jn_lookup (h : JR b cc own nL d mc ms ini Z J) {dflt off : Int} {ps : Array (Int × Int)} {len k : Nat} (dg : decode cc pc = .ok (.lookupswitch dflt ps, len)) (hp : (ps.toList.zip (ps.toList.drop 1)).all (fun (a, next) => a.1 < next.1) = true) (ho : Op.lookupswitch.offset ps.toList dflt (nI k).toInt = off) (ht : (pc : Int) + off = (q : Int)) (K : J q lvs st ws nc ns) : J pc lvs (.int (nI k) :: st) ws nc ns := by
  obtain ⟨p, l, ev, R, s, m, args, below, meth, c, A, Q, hR, hx, hb, hml, hown, hts, hK, hA, hX, hin, rfl⟩ := h
  intro H locs ls hl' hP hB
  exact lv_lookup hx hb dg hp ho ht (K H locs ls hl' hP hB)
end JLook
section FIT
variable {A : Nat → Nat} {s p : Nat}
theorem okN_f {k : Nat} (h : okN A s p k = false) : ∀ n, k ≤ n → okN A s p n = false := by
  intro n hn
  induction n with
  | zero => rw [show k = 0 by omega] at h; exact h
  | succ n ih =>
    by_cases hk : k = n + 1
    · rw [← hk]; exact h
    · simp only [okN]; rw [ih (by omega)]; rfl
theorem okN_no {k n : Nat} (hk : k < n) (h1 : A (58 + 4 * k) = s) (h2 : ¬ hgh (A (34 + s)) p (A (58 + 4 * k + 1)) (A (58 + 4 * k + 2)) = A (58 + 4 * k + 3)) : okN A s p n = false :=
  okN_f (k := k + 1) (by simp only [okN]; rw [decide_eq_false (by omega), decide_eq_false h2]; simp) n hk
theorem okN_y1 {k : Nat} (h : okN A s p k = true) (h1 : ¬ A (58 + 4 * k) = s) : okN A s p (k + 1) = true := by
  simp only [okN]; rw [h, decide_eq_true (by omega)]; rfl
theorem okN_y2 {k : Nat} (h : okN A s p k = true) (h2 : hgh (A (34 + s)) p (A (58 + 4 * k + 1)) (A (58 + 4 * k + 2)) = A (58 + 4 * k + 3)) : okN A s p (k + 1) = true := by
  simp only [okN]; rw [h, decide_eq_true h2]; simp
variable {of_ fr kd : Nat} {isN : Bool}
theorem kkN_f {k : Nat} (h : kkN A of_ fr isN kd k = false) : ∀ n, k ≤ n → kkN A of_ fr isN kd n = false := by
  intro n hn
  induction n with
  | zero => rw [show k = 0 by omega] at h; exact h
  | succ n ih =>
    by_cases hk : k = n + 1
    · rw [← hk]; exact h
    · simp only [kkN]; rw [ih (by omega)]; rfl
theorem kkN_no {k n : Nat} (hk : k < n) (h1 : A (fr + 5 * k) = of_) (h2 : ¬ rowv isN kd A (fr + 5 * k) = A (fr + 5 * k + 4)) : kkN A of_ fr isN kd n = false :=
  kkN_f (k := k + 1) (by simp only [kkN]; rw [decide_eq_false (by omega), decide_eq_false h2]; simp) n hk
theorem kkN_y1 {k : Nat} (h : kkN A of_ fr isN kd k = true) (h1 : ¬ A (fr + 5 * k) = of_) : kkN A of_ fr isN kd (k + 1) = true := by
  simp only [kkN]; rw [h, decide_eq_true (by omega)]; rfl
theorem kkN_y2 {k : Nat} (h : kkN A of_ fr isN kd k = true) (h2 : rowv isN kd A (fr + 5 * k) = A (fr + 5 * k + 4)) : kkN A of_ fr isN kd (k + 1) = true := by
  simp only [kkN]; rw [h, decide_eq_true h2]; simp
end FIT
/-! the greatest class of alike ones, by the last of each -/
def mxN (T : Nat → Nat) (set : Nat) : Nat → Nat
  | 0 => 0
  | g + 1 => if set / 2 ^ g % 2 = 1 then (if mxN T set g < 1 + likeN T set g g then 1 + likeN T set g g else mxN T set g) else mxN T set g
section ALIKE
variable {T : Nat → Nat} {set : Nat}
theorem likeN_val {a c : Nat} (h : T a = T c) : ∀ n, likeN T set a n = likeN T set c n := by
  intro n
  induction n with
  | zero => rfl
  | succ n ih => simp only [likeN]; rw [ih, h]
theorem likeN_self {g : Nat} (hb : set / 2 ^ g % 2 = 1) : likeN T set g (g + 1) = 1 + likeN T set g g := by
  simp only [likeN]; rw [if_pos ⟨hb, trivial⟩]; omega
theorem likeN_mono {a m : Nat} : ∀ n, m ≤ n → likeN T set a m ≤ likeN T set a n := by
  intro n
  induction n with
  | zero => intro h; rw [show m = 0 by omega]; exact Nat.le_refl _
  | succ n ih =>
    intro h
    by_cases hm : m = n + 1
    · rw [hm]; exact Nat.le_refl _
    · have := ih (by omega); simp only [likeN]; split <;> omega
theorem like_last : ∀ n a, a < n → set / 2 ^ a % 2 = 1 → ∃ g, g < n ∧ set / 2 ^ g % 2 = 1 ∧ likeN T set a n = likeN T set g (g + 1) := by
  intro n
  induction n with
  | zero => intro a h; omega
  | succ n ih =>
    intro a ha hb
    by_cases hc : set / 2 ^ n % 2 = 1 ∧ T a = T n
    · exact ⟨n, by omega, hc.1, likeN_val hc.2 (n + 1)⟩
    · have han : a < n := by
        rcases Nat.lt_or_ge a n with h | h
        · exact h
        · have : a = n := by omega
          subst this; exact absurd ⟨hb, rfl⟩ hc
      obtain ⟨g, h1, h2, h3⟩ := ih a han hb
      refine ⟨g, by omega, h2, ?_⟩
      rw [← h3]
      simp only [likeN]; rw [if_neg hc]; rfl
theorem mxN_ge {g : Nat} (hb : set / 2 ^ g % 2 = 1) : ∀ n, g < n → 1 + likeN T set g g ≤ mxN T set n := by
  intro n
  induction n with
  | zero => intro h; omega
  | succ n ih =>
    intro h
    simp only [mxN]
    by_cases hg : g = n
    · subst hg; rw [if_pos hb]; split <;> omega
    · have := ih (by omega)
      (repeat' split) <;> omega
theorem mxN_le {M : Nat} : ∀ n, (∀ g, g < n → set / 2 ^ g % 2 = 1 → 1 + likeN T set g g ≤ M) → mxN T set n ≤ M := by
  intro n
  induction n with
  | zero => intro _; exact Nat.zero_le _
  | succ n ih =>
    intro h
    have := ih (fun g hg => h g (by omega))
    simp only [mxN]
    split
    · rename_i hb; have := h n (by omega) hb; split <;> omega
    · exact this
theorem topN_ge {a : Nat} : ∀ n, a < n → like T set a ≤ topN T set n := by
  intro n
  induction n with
  | zero => intro h; omega
  | succ n ih =>
    intro h
    simp only [topN]
    by_cases ha : a = n
    · subst ha; split <;> omega
    · have := ih (by omega); split <;> omega
theorem topN_lub {M : Nat} : ∀ n, (∀ a, a < n → like T set a ≤ M) → topN T set n ≤ M := by
  intro n
  induction n with
  | zero => intro _; exact Nat.zero_le _
  | succ n ih =>
    intro h
    have h1 := ih (fun a ha => h a (by omega))
    have h2 := h n (by omega)
    simp only [topN]; split <;> omega
theorem mxN_top : mxN T set 8 = topN T set 8 := by
  apply Nat.le_antisymm
  · refine mxN_le 8 (fun g hg hb => ?_)
    refine Nat.le_trans ?_ (topN_ge 8 hg)
    unfold like
    rw [if_pos hb, ← likeN_self hb]
    exact likeN_mono 8 (by omega)
  · refine topN_lub 8 (fun a ha => ?_)
    unfold like
    split
    · rename_i hb
      obtain ⟨g, h1, h2, h3⟩ := like_last (T := T) 8 a ha hb
      rw [h3, likeN_self h2]
      exact mxN_ge h2 8 h1
    · exact Nat.zero_le _
theorem mxN_68 (h : set < 64) : mxN T set 6 = mxN T set 8 := by
  simp only [mxN]
  rw [if_neg (bit_hi h (b := 7) (by omega)), if_neg (bit_hi h (b := 6) (by omega))]
theorem mxN_ext {U : Nat → Nat} : ∀ n, (∀ j, j < n → T j = U j) → mxN T set n = mxN U set n := by
  intro n
  induction n with
  | zero => intro _; rfl
  | succ n ih =>
    intro h
    simp only [mxN]
    rw [ih (fun j hj => h j (by omega)), likeN_ext (h n (by omega)) n (fun b hb _ => h b (by omega))]
end ALIKE
def cm9 (s : Int × Nat) : Int × Nat := (s.1, min s.2 9)
theorem cm_go {f : Nat → Nat} {t v : Nat} {s : Int × Nat} {b : Int} {m : Nat} (h : (b, m) = cm9 (mnJ f t v s)) (h8 : f v ≤ 8) (c : f v < m) : (((10 * t + v : Nat) : Int), f v) = cm9 (mnJ f t (v + 1) s) := by
  have h2 : m = min (mnJ f t v s).2 9 := congrArg Prod.snd h
  simp only [mnJ]
  rw [if_pos (by omega)]
  simp only [cm9]
  rw [show min (f v) 9 = f v by omega]
theorem cm_no {f : Nat → Nat} {t v : Nat} {s : Int × Nat} {b : Int} {m : Nat} (h : (b, m) = cm9 (mnJ f t v s)) (h8 : f v ≤ 8) (c : m ≤ f v) : (b, m) = cm9 (mnJ f t (v + 1) s) := by
  have h2 : m = min (mnJ f t v s).2 9 := congrArg Prod.snd h
  simp only [mnJ]
  rw [if_neg (by omega)]
  exact h
