/-! the row between calls: every call keeps it well -/
section WG
variable {A B : Nat → Nat}
theorem pst_of {k : Nat} (h : pst A k) (e : ∀ j, j = 0 ∨ j = 21 ∨ 138 ≤ j → B j = A j) : pst B k := by
  obtain ⟨p1, p2, p3, p4, p5, p6⟩ := h
  have e0 := e 0 (by omega)
  have e21 := e 21 (by omega)
  refine ⟨?_, ?_, ?_, ?_, fun i hi => ?_, fun i j hi hj => ?_⟩
  · rw [e _ (by omega), e21]; exact p1
  · rw [e _ (by omega)]; exact p2
  · rw [e _ (by omega)]; exact p3
  · rw [e _ (by omega)]; exact p4
  · rw [e0] at hi
    rw [e (142 + 16 * k + i) (by omega), e (148 + 16 * k + i) (by omega), e21]
    exact p5 i hi
  · rw [e0] at hi hj
    rw [e (148 + 16 * k + i) (by omega), e (148 + 16 * k + j) (by omega)]
    exact p6 i j hi hj
theorem wg_of (h : wg A) (hw : wf B) (e : ∀ j, j = 1 ∨ j = 2 ∨ j = 3 ∨ (58 ≤ j ∧ j < 138) → B j = A j) (h4 : B 4 ≤ 8) (h8 : B 8 ≤ 9999) (hp : ∀ k, k < B 4 → pst B k) : wg B := by
  obtain ⟨-, ⟨g1, g2, g3, g4, g8⟩, hrs, hrn, hrm, -⟩ := h
  have e1 := e 1 (by omega)
  have e2 := e 2 (by omega)
  have e3 := e 3 (by omega)
  refine ⟨hw, ⟨by omega, by omega, by omega, h4, h8⟩, fun k hk => ?_, fun k hk => ?_, fun k hk => ?_, hp⟩
  · rw [e1] at hk; rw [e _ (by omega)]; exact hrs k hk
  · rw [e2] at hk; rw [e _ (by omega)]; exact hrn k hk
  · rw [e3] at hk; rw [e (108 + 5 * k + 1) (by omega), e (108 + 5 * k + 2) (by omega)]; exact hrm k hk
/-- nothing to undo, nothing seen, noted, marked -/
theorem wg_zR (hw : wf B) (hz : zR B) (h8 : B 8 ≤ 9999) : wg B := by
  obtain ⟨z1, z2, z3, z4⟩ := hz
  exact ⟨hw, ⟨by omega, by omega, by omega, by omega, h8⟩, fun k hk => by omega, fun k hk => by omega, fun k hk => by omega, fun k hk => by omega⟩
theorem wf_4 (h : wf A) : wf (va_up A 4 0) := wf_lo h (fun j => by simp only [va_up]; have := h.2.1 j; split <;> omega) (fun j h1 h2 => by simp only [va_up]; rw [if_neg (by omega)])
theorem wg_drop (h : wg A) (hw : wf B) (e : ∀ j, j = 1 ∨ j = 2 ∨ j = 3 ∨ (58 ≤ j ∧ j < 138) → B j = A j) (h8 : B 8 ≤ 9999) : wg (va_up B 4 0) := by
  refine wg_of h (wf_4 hw) (fun j hj => ?_) ?_ ?_ ?_
  · simp only [va_up]; rw [if_neg (by omega)]; exact e j hj
  · simp [va_up]
  · simp only [va_up]; rw [if_neg (by decide)]; exact h8
  · intro k hk; simp [va_up] at hk
theorem wg_round (h : wg A) (a b : Int32) : wg (a_round A a b) := by
  unfold a_round
  split
  · rename_i hc
    obtain ⟨⟨h1, h2⟩, h3, h4⟩ := hc
    have c1 := nt_cast (x := a) (by omega)
    have c2 := nt_cast (x := b) h3
    refine wg_zR (wf_beg h.1.2.1 (by omega) (by omega)) ⟨rfl, rfl, rfl, rfl⟩ (by show 0 ≤ 9999; omega)
  · exact h
theorem wg_horse (h : wg A) (a b c : Int32) : wg (a_horse A a b c) := by
  unfold a_horse
  split
  · rename_i hc
    obtain ⟨hs, hk, hp⟩ := hc
    have c1 := nt_cast (x := a) hs.1
    have c2 := nt_cast (x := b) hk.1
    have c3 := nt_cast (x := c) hp.1
    have h21 := h.1.1.2.1
    have s1 := hs.2
    have s2 := hk.2
    have s3 := hp.2
    have g8 := h.2.1.2.2.2.2
    refine wg_drop h (wf_horse h.1 (by omega) (by omega) (by omega)) (fun j hj => ?_) ?_
    · simp only [va_up]; rw [if_neg (by omega), if_neg (by omega)]
    · simp only [va_up]; rw [if_neg (by omega), if_neg (by omega)]; exact g8
  · exact h
theorem wg_rider (h : wg A) (a b c : Int32) : wg (a_rider A a b c) := by
  unfold a_rider
  split
  · rename_i hc
    obtain ⟨hs, hk, hp⟩ := hc
    have c1 := nt_cast (x := a) hs.1
    have c2 := nt_cast (x := b) (by have := hk.1; omega)
    have c3 := nt_cast (x := c) hp.1
    have s1 := hs.2
    have s2 := hk.2
    have s3 := hp.2
    have g8 := h.2.1.2.2.2.2
    have g0 := h.1.1.2.2.2.2.2
    split
    · rename_i hw
      split
      · exact h
      · rename_i h6
        obtain ⟨-, -, -, -, -, e⟩ := layR_at (A := A) (k := nt a) (a := nt b) (s := nt c) (by omega)
        refine wg_drop h (wf_layR h.1 (by omega) (by omega) (by omega) (by omega) hw) (fun j hj => ?_) ?_
        · exact e j (by omega) (by omega) (by omega) (by omega) (by omega)
        · rw [e 8 (by omega) (by omega) (by omega) (by omega) (by omega)]; exact g8
    · exact h
  · exact h
theorem pst_put (hw : wf B) (h8 : B 8 ≤ 9999) (hp : ∀ k, k < B 4 → pst B k) (hu : B 4 < 8) : ∀ k, k < B 4 + 1 → pst (va_up (put16 B (B 4) 16) 4 (B 4 + 1)) k := by
  intro k hk
  obtain ⟨⟨a1, a2, a3, a4, a5, a6⟩, hb, hr, hh, hd⟩ := hw
  have lo : ∀ j, j ≠ 4 → j < 138 + 16 * B 4 → va_up (put16 B (B 4) 16) 4 (B 4 + 1) j = B j := fun j h1 h2 => by simp only [va_up, put16]; rw [if_neg (by omega), if_neg (by omega)]
  have hi : ∀ t, t < 16 → ∀ j, j = 138 + 16 * B 4 + t → va_up (put16 B (B 4) 16) 4 (B 4 + 1) j = B (5 + t) := fun t ht j hj => by subst hj; simp only [va_up, put16]; rw [if_neg (by omega), if_pos (by omega)]; congr 1; omega
  have l0 := lo 0 (by omega) (by omega)
  have l21 := lo 21 (by omega) (by omega)
  by_cases hku : k = B 4
  · subst hku
    refine ⟨?_, ?_, ?_, ?_, fun i hi' => ?_, fun i j hi' hj' => ?_⟩
    · rw [hi 0 (by omega) _ (by omega), l21]; exact a3
    · rw [hi 1 (by omega) _ (by omega)]; exact a4
    · rw [hi 2 (by omega) _ (by omega)]; exact a5
    · rw [hi 3 (by omega) _ (by omega)]; exact h8
    · rw [l0] at hi'
      rw [hi (4 + i) (by omega) (142 + 16 * B 4 + i) (by omega), hi (10 + i) (by omega) (148 + 16 * B 4 + i) (by omega), l21, show 5 + (4 + i) = 9 + i by omega, show 5 + (10 + i) = 15 + i by omega]
      exact ⟨(hr i hi').2.2.2, (hr i hi').1⟩
    · rw [l0] at hi' hj'
      rw [hi (10 + i) (by omega) (148 + 16 * B 4 + i) (by omega), hi (10 + j) (by omega) (148 + 16 * B 4 + j) (by omega), show 5 + (10 + i) = 15 + i by omega, show 5 + (10 + j) = 15 + j by omega]
      exact hd i j hi' hj'
  · obtain ⟨p1, p2, p3, p4, p5, p6⟩ := hp k (by omega)
    refine ⟨?_, ?_, ?_, ?_, fun i hi' => ?_, fun i j hi' hj' => ?_⟩
    · rw [lo _ (by omega) (by omega), l21]; exact p1
    · rw [lo _ (by omega) (by omega)]; exact p2
    · rw [lo _ (by omega) (by omega)]; exact p3
    · rw [lo _ (by omega) (by omega)]; exact p4
    · rw [l0] at hi'
      rw [lo (142 + 16 * k + i) (by omega) (by omega), lo (148 + 16 * k + i) (by omega) (by omega), l21]
      exact p5 i hi'
    · rw [l0] at hi' hj'
      rw [lo (148 + 16 * k + i) (by omega) (by omega), lo (148 + 16 * k + j) (by omega) (by omega)]
      exact p6 i j hi' hj'
theorem pst_push (h0 : A 0 ≤ 6) (hp : ∀ k, k < 8 → pst A k) : ∀ k, k < 7 → pst (va_up (shf A 112) 4 7) k := by
  intro k hk
  obtain ⟨p1, p2, p3, p4, p5, p6⟩ := hp (k + 1) (by omega)
  have lo : ∀ j, j ≠ 4 → j < 138 → va_up (shf A 112) 4 7 j = A j := fun j h1 h2 => by simp only [va_up, shf]; rw [if_neg h1, if_neg (by omega)]
  have hi : ∀ j, 138 ≤ j → j < 250 → ∀ i, i = j + 16 → va_up (shf A 112) 4 7 j = A i := fun j h1 h2 i hi => by subst hi; simp only [va_up, shf]; rw [if_neg (by omega), if_pos (by omega)]
  have l0 := lo 0 (by omega) (by omega)
  have l21 := lo 21 (by omega) (by omega)
  refine ⟨?_, ?_, ?_, ?_, fun i hi' => ?_, fun i j hi' hj' => ?_⟩
  · rw [hi _ (by omega) (by omega) (138 + 16 * (k + 1)) (by omega), l21]; exact p1
  · rw [hi _ (by omega) (by omega) (139 + 16 * (k + 1)) (by omega)]; exact p2
  · rw [hi _ (by omega) (by omega) (140 + 16 * (k + 1)) (by omega)]; exact p3
  · rw [hi _ (by omega) (by omega) (141 + 16 * (k + 1)) (by omega)]; exact p4
  · rw [l0] at hi'
    rw [hi (142 + 16 * k + i) (by omega) (by omega) (142 + 16 * (k + 1) + i) (by omega), hi (148 + 16 * k + i) (by omega) (by omega) (148 + 16 * (k + 1) + i) (by omega), l21]
    exact p5 i hi'
  · rw [l0] at hi' hj'
    rw [hi (148 + 16 * k + i) (by omega) (by omega) (148 + 16 * (k + 1) + i) (by omega), hi (148 + 16 * k + j) (by omega) (by omega) (148 + 16 * (k + 1) + j) (by omega)]
    exact p6 i j hi' hj'
theorem wf_pushed (h : wf A) (h4 : A 4 ≤ 8) : wf (pushed A) := wf_lo h (pushed_b h.2.1) (fun j h1 h2 => by
  unfold pushed
  split
  · simp only [va_up, shf]; rw [if_neg (by omega), if_neg (by omega)]
  · rfl)
theorem pst_saved (h : wg A) : ∀ k, k < saved A 4 → pst (saved A) k := by
  obtain ⟨hw, ⟨g1, g2, g3, g4, g8⟩, -, -, -, hp⟩ := h
  have hs : saved A 4 = pushed A 4 + 1 := rfl
  rw [hs]
  by_cases h8 : A 4 = 8
  · have e : pushed A = va_up (shf A 112) 4 7 := by unfold pushed; rw [if_pos h8]
    have e4 : pushed A 4 = 7 := by rw [e]; rfl
    have e8 : pushed A 8 = A 8 := by rw [e]; simp only [va_up, shf]; rw [if_neg (by omega), if_neg (by omega)]
    refine pst_put (wf_pushed hw g4) (by omega) (fun k hk => ?_) (by omega)
    rw [e]
    exact pst_push hw.1.2.2.2.2.2 (fun k hk => hp k (by omega)) k (by omega)
  · have e : pushed A = A := by unfold pushed; rw [if_neg h8]
    rw [e]
    refine fun k hk => ?_
    unfold saved
    rw [e]
    exact pst_put hw g8 hp (by omega) k hk
theorem wg_saved (h : wg A) : wg (saved A) := wg_of h (wf_saved h.1 h.2.1.2.2.2.1) (fun j hj => saved_lo j (by omega) (by omega)) (saved_4 h.2.1.2.2.2.1) (by rw [saved_lo 8 (by omega) (by omega)]; exact h.2.1.2.2.2.2) (pst_saved h)
theorem goN_8 : ∀ (n : Nat) {A : Nat → Nat}, A 8 ≤ 9999 → goN n A 8 ≤ 9999 := by
  intro n
  induction n with
  | zero => intro A h; exact h
  | succ n ih =>
    intro A h
    simp only [goN]
    split
    · exact ih (by rw [goT_8]; omega)
    · exact h
theorem wg_ticks (h : wg A) (a : Int32) : wg (a_ticks A a) := by
  unfold a_ticks
  split
  · have hs := wg_saved h
    have h6 := hs.1.1.2.2.2.2.2
    have h4 : goN (nt a) (saved A) 4 = saved A 4 := goN_hi _ h6 (by omega)
    refine wg_of hs (wf_goN _ hs.1) (fun j hj => goN_hi _ h6 (by omega)) (by rw [h4]; exact hs.2.1.2.2.2.1) (goN_8 _ hs.2.1.2.2.2.2) (fun k hk => ?_)
    rw [h4] at hk
    exact pst_of (hs.2.2.2.2.2 k hk) (fun j hj => goN_hi _ h6 (by omega))
  · exact h
theorem wg_up {k v : Nat} (h : wg A) (hk : 5 ≤ k ∧ k < 21) (hk8 : k ≠ 8) (hw : wf (va_up A k v)) : wg (va_up A k v) := by
  have e : ∀ j, j ≠ k → va_up A k v j = A j := fun j hj => by simp [va_up, hj]
  have h4 := e 4 (by omega)
  refine wg_of h hw (fun j hj => e j (by omega)) (by rw [h4]; exact h.2.1.2.2.2.1) (by rw [e 8 (by omega)]; exact h.2.1.2.2.2.2) (fun j hj => ?_)
  rw [h4] at hj
  exact pst_of (h.2.2.2.2.2 j hj) (fun i hi => e i (by omega))
theorem wg_speed (h : wg A) (a : Int32) : wg (a_speed A a) := by
  unfold a_speed
  split
  · rename_i hc
    have c1 := nt_cast (x := a) hc.1
    have s1 := hc.2
    split
    · exact h
    · exact wg_up (wg_saved h) (by omega) (by omega) (wf_speed (wg_saved h).1 (by omega))
  · exact h
theorem wg_hangs (h : wg A) (a : Int32) : wg (a_hangs A a) := by
  unfold a_hangs
  split
  · rename_i hc
    have c1 := nt_cast (x := a) hc.1
    have s1 := hc.2
    split
    · exact h
    · exact wg_up (wg_saved h) (by omega) (by omega) (wf_ring (wg_saved h).1 (by omega))
  · exact h
theorem whoN_ext {s : Nat} : ∀ n, (∀ j, j < n → B (15 + j) = A (15 + j)) → whoN B s n = whoN A s n := by
  intro n
  induction n with
  | zero => intro _; rfl
  | succ n ih => intro h; simp only [whoN]; rw [h n (by omega), ih (fun j hj => h j (by omega))]
theorem who_saved (h : wg A) (s : Nat) : who (saved A) s = who A s := by
  have h6 := h.1.1.2.2.2.2.2
  unfold who
  rw [saved_lo (A := A) 0 (by omega) (by omega)]
  exact whoN_ext _ (fun j hj => saved_lo _ (by omega) (by omega))
theorem wg_changes (h : wg A) (a b : Int32) : wg (a_changes A a b) := by
  unfold a_changes
  split
  · rename_i hc
    obtain ⟨ha, hb⟩ := hc
    have c1 := nt_cast (x := a) ha.1
    have c2 := nt_cast (x := b) hb.1
    have s1 := ha.2
    have s2 := hb.2
    have h6 := h.1.1.2.2.2.2.2
    split
    · rename_i hw
      refine wg_up (wg_saved h) (by omega) (by omega) (wf_seat (wg_saved h).1 ?_ ?_ (Or.inl (by rw [who_saved h]; exact hw)))
      · rw [saved_lo (A := A) 0 (by omega) (by omega)]; omega
      · rw [saved_lo (A := A) 21 (by omega) (by omega)]; omega
    · exact h
  · exact h
theorem wf_und (h : wg A) (h4 : 0 < A 4) : wf (und A) := by
  obtain ⟨hw, ⟨g1, g2, g3, g4, g8⟩, -, -, -, hp⟩ := h
  obtain ⟨⟨a1, a2, a3, a4, a5, a6⟩, hb, hr, hh, hd⟩ := hw
  obtain ⟨p1, p2, p3, p4, p5, p6⟩ := hp (A 4 - 1) (by omega)
  have lo : ∀ j, j < 5 ∨ 21 ≤ j → j ≠ 4 → und A j = A j := fun j h1 h2 => und_lo h1 h2
  have mi : ∀ t, t < 16 → ∀ j, j = 5 + t → ∀ i, i = 138 + 16 * (A 4 - 1) + t → und A j = A i := fun t ht j hj i hi => by subst hj; subst hi; exact und_mid ht
  have l0 := lo 0 (by omega) (by omega)
  have l21 := lo 21 (by omega) (by omega)
  refine ⟨?_, fun j => ?_, fun i hi => ?_, fun s hs => ?_, fun i j hi hj => ?_⟩
  · rw [l21, mi 0 (by omega) 5 (by omega) (138 + 16 * (A 4 - 1)) (by omega), mi 1 (by omega) 6 (by omega) (139 + 16 * (A 4 - 1)) (by omega), mi 2 (by omega) 7 (by omega) (140 + 16 * (A 4 - 1)) (by omega), l0]
    exact ⟨a1, a2, p1, p2, p3, a6⟩
  · by_cases h5 : j < 5 ∨ 21 ≤ j
    · by_cases hj4 : j = 4
      · subst hj4; rw [und_4]; omega
      · rw [lo j h5 hj4]; exact hb j
    · rw [mi (j - 5) (by omega) j (by omega) (138 + 16 * (A 4 - 1) + (j - 5)) rfl]; exact hb _
  · rw [l0] at hi
    rw [mi (10 + i) (by omega) (15 + i) (by omega) (148 + 16 * (A 4 - 1) + i) (by omega), l21, lo (22 + i) (by omega) (by omega), lo (28 + i) (by omega) (by omega), mi (4 + i) (by omega) (9 + i) (by omega) (142 + 16 * (A 4 - 1) + i) (by omega)]
    exact ⟨(p5 i hi).2, (hr i hi).2.1, (hr i hi).2.2.1, (p5 i hi).1⟩
  · rw [lo (34 + s) (by omega) (by omega), lo (46 + s) (by omega) (by omega)]; exact hh s hs
  · rw [l0] at hi hj
    rw [mi (10 + i) (by omega) (15 + i) (by omega) (148 + 16 * (A 4 - 1) + i) (by omega), mi (10 + j) (by omega) (15 + j) (by omega) (148 + 16 * (A 4 - 1) + j) (by omega)]
    exact p6 i j hi hj
theorem wg_undo (h : wg A) : wg (a_undo A) := by
  unfold a_undo
  split
  · exact h
  · have g4 := h.2.1.2.2.2.1
    obtain ⟨p1, p2, p3, p4, p5, p6⟩ := h.2.2.2.2.2 (A 4 - 1) (by omega)
    refine wg_of h (wf_und h (by omega)) (fun j hj => und_lo (by omega) (by omega)) (by rw [und_4]; omega) ?_ (fun k hk => ?_)
    · rw [show (8 : Nat) = 5 + 3 from rfl, und_mid (by omega), show 138 + 16 * (A 4 - 1) + 3 = 141 + 16 * (A 4 - 1) by omega]; exact p4
    · rw [und_4] at hk
      exact pst_of (h.2.2.2.2.2 k (by omega)) (fun j hj => und_lo (by omega) (by omega))
theorem wf_hi (h : wf A) (hB : ∀ j, B j < 100000) (e : ∀ j, j < 58 → j ≠ 1 → j ≠ 2 → j ≠ 3 → B j = A j) : wf B := wf_lo h hB (fun j h1 h2 => e j h1 (by omega) (by omega) (by omega))
theorem wg_seen (h : wg A) (a b c d : Int32) : wg (a_seen A a b c d) := by
  unfold a_seen
  split
  · rename_i hc
    obtain ⟨ha, hb, hc, hd⟩ := hc
    have c1 := nt_cast (x := a) ha.1
    have c2 := nt_cast (x := b) hb.1
    have c3 := nt_cast (x := c) hc.1
    have c4 := nt_cast (x := d) hd.1
    have s1 := ha.2
    have s2 := hb.2
    have s3 := hc.2
    have s4 := hd.2
    have h21 := h.1.1.2.1
    split
    · exact h
    · obtain ⟨hw, ⟨g1, g2, g3, g4, g8⟩, hrs, hrn, hrm, hp⟩ := h
      have hA := hw.2.1
      have e : ∀ j, j ≠ 1 → j < 58 + 4 * A 1 ∨ 62 + 4 * A 1 ≤ j → va_up (lay4 A (58 + 4 * A 1) (nt a) (nt b) (nt c) (nt d)) 1 (A 1 + 1) j = A j := fun j h1 h2 => by simp only [va_up]; rw [if_neg h1]; exact lay4_lt (by omega)
      have e1 : va_up (lay4 A (58 + 4 * A 1) (nt a) (nt b) (nt c) (nt d)) 1 (A 1 + 1) 1 = A 1 + 1 := rfl
      have e2 : va_up (lay4 A (58 + 4 * A 1) (nt a) (nt b) (nt c) (nt d)) 1 (A 1 + 1) (58 + 4 * A 1 + 2) = nt c := by simp only [va_up]; rw [if_neg (by omega)]; exact lay4_at.2.2.1
      have l2 := e 2 (by omega) (by omega)
      have l3 := e 3 (by omega) (by omega)
      have l4 := e 4 (by omega) (by omega)
      have l8 := e 8 (by omega) (by omega)
      refine ⟨wf_hi hw (fun j => ?_) (fun j h1 h2 h3 h4 => e j h2 (by omega)), ⟨by omega, by omega, by omega, by omega, by omega⟩, fun k hk => ?_, fun k hk => ?_, fun k hk => ?_, fun k hk => ?_⟩
      · have := hA j
        simp only [va_up, lay4]
        (repeat' split) <;> omega
      · rw [e1] at hk
        by_cases hk1 : k = A 1
        · subst hk1; rw [e2]; omega
        · rw [e _ (by omega) (by omega)]; exact hrs k (by omega)
      · rw [l2] at hk; rw [e _ (by omega) (by omega)]; exact hrn k hk
      · rw [l3] at hk; rw [e _ (by omega) (by omega), e _ (by omega) (by omega)]; exact hrm k hk
      · rw [l4] at hk; exact pst_of (hp k hk) (fun j hj => e j (by omega) (by omega))
  · exact h
theorem wg_note (h : wg A) (a b c d x : Int32) : wg (a_note A a b c d x) := by
  unfold a_note
  split
  · rename_i hc
    obtain ⟨ha, hb, hc, hd, hx⟩ := hc
    have c1 := nt_cast (x := a) ha.1
    have c2 := nt_cast (x := b) hb.1
    have c3 := nt_cast (x := c) hc.1
    have c4 := nt_cast (x := d) hd.1
    have c5 := nt_cast (x := x) hx.1
    have s1 := ha.2
    have s2 := hb.2
    have s3 := hc.2
    have s4 := hd.2
    have s5 := hx.2
    have h21 := h.1.1.2.1
    split
    · exact h
    · obtain ⟨hw, ⟨g1, g2, g3, g4, g8⟩, hrs, hrn, hrm, hp⟩ := h
      have hA := hw.2.1
      have e : ∀ j, j ≠ 2 → j < 78 + 5 * A 2 ∨ 83 + 5 * A 2 ≤ j → va_up (lay5 A (78 + 5 * A 2) (nt a) (nt b) (nt c) (nt d) (nt x)) 2 (A 2 + 1) j = A j := fun j h1 h2 => by
        simp only [va_up]; rw [if_neg h1]
        rcases h2 with h2 | h2
        · exact lay5_lt h2
        · exact lay5_ge (by omega)
      have e1 : va_up (lay5 A (78 + 5 * A 2) (nt a) (nt b) (nt c) (nt d) (nt x)) 2 (A 2 + 1) 2 = A 2 + 1 := rfl
      have e2 : va_up (lay5 A (78 + 5 * A 2) (nt a) (nt b) (nt c) (nt d) (nt x)) 2 (A 2 + 1) (78 + 5 * A 2 + 3) = nt d := by simp only [va_up]; rw [if_neg (by omega)]; exact lay5_at.2.2.2.1
      have l1 := e 1 (by omega) (by omega)
      have l3 := e 3 (by omega) (by omega)
      have l4 := e 4 (by omega) (by omega)
      have l8 := e 8 (by omega) (by omega)
      refine ⟨wf_hi hw (fun j => ?_) (fun j h1 h2 h3 h4 => e j h3 (by omega)), ⟨by omega, by omega, by omega, by omega, by omega⟩, fun k hk => ?_, fun k hk => ?_, fun k hk => ?_, fun k hk => ?_⟩
      · have := hA j
        simp only [va_up, lay5]
        (repeat' split) <;> omega
      · rw [l1] at hk; rw [e _ (by omega) (by omega)]; exact hrs k hk
      · rw [e1] at hk
        by_cases hk1 : k = A 2
        · subst hk1; rw [e2]; omega
        · rw [e _ (by omega) (by omega)]; exact hrn k (by omega)
      · rw [l3] at hk; rw [e _ (by omega) (by omega), e _ (by omega) (by omega)]; exact hrm k hk
      · rw [l4] at hk; exact pst_of (hp k hk) (fun j hj => e j (by omega) (by omega))
  · exact h
theorem wg_mark (h : wg A) (a b c d x : Int32) : wg (a_mark A a b c d x) := by
  unfold a_mark
  split
  · rename_i hc
    obtain ⟨ha, hb, hc, hd, hx⟩ := hc
    have c1 := nt_cast (x := a) ha.1
    have c2 := nt_cast (x := b) (by have := hb.1; omega)
    have c3 := nt_cast (x := c) hc.1
    have c4 := nt_cast (x := d) hd.1
    have c5 := nt_cast (x := x) hx.1
    have s1 := ha.2
    have s2 := hb.2
    have s3 := hc.2
    have s4 := hd.2
    have s5 := hx.2
    have h6 := h.1.1.2.2.2.2.2
    split
    · exact h
    · obtain ⟨hw, ⟨g1, g2, g3, g4, g8⟩, hrs, hrn, hrm, hp⟩ := h
      have hA := hw.2.1
      have e : ∀ j, j ≠ 3 → j < 108 + 5 * A 3 ∨ 113 + 5 * A 3 ≤ j → va_up (lay5 A (108 + 5 * A 3) (nt a) (nt b) (nt c) (nt d) (nt x)) 3 (A 3 + 1) j = A j := fun j h1 h2 => by
        simp only [va_up]; rw [if_neg h1]
        rcases h2 with h2 | h2
        · exact lay5_lt h2
        · exact lay5_ge (by omega)
      have e1 : va_up (lay5 A (108 + 5 * A 3) (nt a) (nt b) (nt c) (nt d) (nt x)) 3 (A 3 + 1) 3 = A 3 + 1 := rfl
      have e2 : va_up (lay5 A (108 + 5 * A 3) (nt a) (nt b) (nt c) (nt d) (nt x)) 3 (A 3 + 1) (108 + 5 * A 3 + 1) = nt b := by simp only [va_up]; rw [if_neg (by omega)]; exact lay5_at.2.1
      have e3 : va_up (lay5 A (108 + 5 * A 3) (nt a) (nt b) (nt c) (nt d) (nt x)) 3 (A 3 + 1) (108 + 5 * A 3 + 2) = nt c := by simp only [va_up]; rw [if_neg (by omega)]; exact lay5_at.2.2.1
      have l1 := e 1 (by omega) (by omega)
      have l2 := e 2 (by omega) (by omega)
      have l4 := e 4 (by omega) (by omega)
      have l8 := e 8 (by omega) (by omega)
      refine ⟨wf_hi hw (fun j => ?_) (fun j h1 h2 h3 h4 => e j h4 (by omega)), ⟨by omega, by omega, by omega, by omega, by omega⟩, fun k hk => ?_, fun k hk => ?_, fun k hk => ?_, fun k hk => ?_⟩
      · have := hA j
        simp only [va_up, lay5]
        (repeat' split) <;> omega
      · rw [l1] at hk; rw [e _ (by omega) (by omega)]; exact hrs k hk
      · rw [l2] at hk; rw [e _ (by omega) (by omega)]; exact hrn k hk
      · rw [e1] at hk
        by_cases hk1 : k = A 3
        · subst hk1; rw [e2, e3]; omega
        · rw [e _ (by omega) (by omega), e _ (by omega) (by omega)]; exact hrm k (by omega)
      · rw [l4] at hk; exact pst_of (hp k hk) (fun j hj => e j (by omega) (by omega))
  · exact h
theorem wg_forget (h : wg A) (a : Int32) : wg (a_forget A a) := by
  unfold a_forget
  split
  · rename_i hc
    have c1 := nt_cast (x := a) hc.1
    have s1 := hc.2
    obtain ⟨hw, ⟨g1, g2, g3, g4, g8⟩, hrs, hrn, hrm, hp⟩ := h
    have hA := hw.2.1
    have e : ∀ j, j = 0 ∨ 4 ≤ j → va_up A (1 + nt a) 0 j = A j := fun j hj => by simp only [va_up]; rw [if_neg (by omega)]
    have f : ∀ j, va_up A (1 + nt a) 0 j ≤ A j := fun j => by simp only [va_up]; split <;> omega
    have f1 := f 1
    have f2 := f 2
    have f3 := f 3
    have l4 := e 4 (by omega)
    have l8 := e 8 (by omega)
    refine ⟨wf_hi hw (fun j => by have := f j; have := hA j; omega) (fun j h1 h2 h3 h4 => e j (by omega)), ⟨by omega, by omega, by omega, by omega, by omega⟩, fun k hk => ?_, fun k hk => ?_, fun k hk => ?_, fun k hk => ?_⟩
    · rw [e _ (by omega)]; exact hrs k (by omega)
    · rw [e _ (by omega)]; exact hrn k (by omega)
    · rw [e _ (by omega), e _ (by omega)]; exact hrm k (by omega)
    · rw [l4] at hk; exact pst_of (hp k hk) (fun j hj => e j (by omega))
  · exact h
theorem t8_tiF {By : Nat → Nat} {L p : Nat} {An : Nat → Nat} (hw : wf An) (h : An 8 ≤ 9999) : (tiF By L p An).2.2 8 ≤ 9999 := by
  have h6 := hw.1.2.2.2.2.2
  unfold tiF
  split
  · unfold thF
    (repeat' split) <;> first | exact h | (simp only [va_up]; rw [if_neg (by omega), if_neg (by omega)]; exact h)
  · split
    · unfold trF
      (repeat' split) <;> first | exact h | (simp only [layR, va_up]; rw [if_neg (by omega), if_neg (by omega), if_neg (by omega), if_neg (by omega), if_neg (by omega)]; exact h)
    · split
      · unfold tgF
        split <;> first | exact h | (simp only [va_up]; rw [if_neg (by omega)]; exact h)
      · split
        · unfold toF
          split <;> first | exact h | exact goN_8 _ h
        · exact h
theorem wf_rdF {By : Nat → Nat} {L : Nat} : ∀ (n p : Nat) (An : Nat → Nat) (it : Nat), wf An → An 8 ≤ 9999 → wf (rdF By L n p An it).2.2 ∧ (rdF By L n p An it).2.2 8 ≤ 9999 := by
  intro n
  induction n with
  | zero => intro p An it hw h; exact ⟨hw, h⟩
  | succ n ih =>
    intro p An it hw h
    simp only [rdF]
    split
    · exact ⟨hw, h⟩
    · split
      · exact ih _ _ _ (wf_tiF hw) (t8_tiF hw h)
      · exact ⟨wf_tiF hw, t8_tiF hw h⟩
theorem wf_rdR {By : Nat → Nat} {L : Nat} (h : (rdR By L).1 = true) : wf (rdR By L).2.2 ∧ (rdR By L).2.2 8 ≤ 9999 := by
  unfold rdR at h ⊢
  split at h
  · rename_i h1; rw [if_pos h1]
    split at h
    · rename_i h2; rw [if_pos h2]
      split at h
      · rename_i h3; rw [if_pos h3]
        split at h
        · rename_i h4; rw [if_pos h4]
          exact wf_rdF _ _ _ _ (wf_beg (fun _ => by decide) h2.2 h3.2.2) (by show 0 ≤ 9999; omega)
        · cases h
      · cases h
    · cases h
  · cases h
theorem wg_read {By : Nat → Nat} {L : Nat} (h : wg A) : wg (rdA By L A) := by
  unfold rdA
  split
  · rename_i hc
    obtain ⟨hw, h8⟩ := wf_rdR hc
    have hz := zR_rdR hc
    have e : ∀ j, j < 138 → cp138 (rdR By L).2.2 A j = (rdR By L).2.2 j := fun j hj => by simp only [cp138]; rw [if_pos hj]
    refine wg_zR (wf_lo hw (fun j => ?_) (fun j h1 h2 => e j (by omega))) (zR_of hz (fun j h1 h2 => e j (by omega))) (by rw [e 8 (by omega)]; exact h8)
    simp only [cp138]
    split
    · exact hw.2.1 j
    · exact h.1.2.1 j
  · exact h
/-- rows that agree up to 266 -/
theorem wg_ext (h : wg A) (hB : ∀ j, B j < 100000) (e : ∀ j, j < 266 → B j = A j) : wg B := by
  have e4 := e 4 (by omega)
  have g4 := h.2.1.2.2.2.1
  have h6 := h.1.1.2.2.2.2.2
  refine wg_of h (wf_lo h.1 hB (fun j h1 _ => e j (by omega))) (fun j hj => e j (by omega)) (by omega) (by rw [e 8 (by omega)]; exact h.2.1.2.2.2.2) (fun k hk => ?_)
  rw [e4] at hk
  obtain ⟨p1, p2, p3, p4, p5, p6⟩ := h.2.2.2.2.2 k hk
  have e0 := e 0 (by omega)
  have e21 := e 21 (by omega)
  refine ⟨?_, ?_, ?_, ?_, fun i hi => ?_, fun i j hi hj => ?_⟩
  · rw [e _ (by omega), e21]; exact p1
  · rw [e _ (by omega)]; exact p2
  · rw [e _ (by omega)]; exact p3
  · rw [e _ (by omega)]; exact p4
  · rw [e0] at hi
    rw [e (142 + 16 * k + i) (by omega), e (148 + 16 * k + i) (by omega), e21]
    exact p5 i hi
  · rw [e0] at hi hj
    rw [e (148 + 16 * k + i) (by omega), e (148 + 16 * k + j) (by omega)]
    exact p6 i j hi hj
theorem rA_ext {K P kd am st rg Ro Sn Nt Mk : Nat → Nat} (h : wg A) (hA : rA A K P kd am st rg Ro Sn Nt Mk) (e : ∀ j, j < 266 → B j = A j) : rA B K P kd am st rg Ro Sn Nt Mk := by
  obtain ⟨hR, hP, hS, hN, hM⟩ := hA
  obtain ⟨⟨⟨a1, a2, a3, a4, a5, a6⟩, -⟩, ⟨g1, g2, g3, g4, g8⟩, -⟩ := h
  refine ⟨rR_of hR (fun j hj => e j (by omega)) a6 a2, ?_, ?_, ?_, ?_⟩
  · intro k hk
    rw [e 4 (by omega)] at hk
    rw [e 0 (by omega)]
    obtain ⟨p1, p2⟩ := hP k hk
    exact ⟨fun t ht => by rw [e _ (by omega)]; exact p1 t ht, fun i hi => ⟨by rw [e _ (by omega)]; exact (p2 i hi).1, by rw [e _ (by omega)]; exact (p2 i hi).2⟩⟩
  · rw [e 1 (by omega)]; exact fun r hr c hc => by rw [e _ (by omega)]; exact hS r hr c hc
  · rw [e 2 (by omega)]; exact fun r hr c hc => by rw [e _ (by omega)]; exact hN r hr c hc
  · rw [e 3 (by omega)]; exact fun r hr c hc => by rw [e _ (by omega)]; exact hM r hr c hc
theorem wg_A0 : wg A0 := wg_zR (wf_beg (fun _ => by decide) (by decide) (by decide)) ⟨rfl, rfl, rfl, rfl⟩ (by decide)
end WG
