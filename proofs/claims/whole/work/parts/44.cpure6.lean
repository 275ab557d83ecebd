theorem goT_5 {A : Nat → Nat} {sl : Bool} : (goT A sl).2 5 = (A 5 + A 6) % A 21 := by
  unfold goT
  split
  · rfl
  · exact (takeR_ne (tick1 A) (j := 5) (by decide) (by omega)).trans rfl
theorem gI_hi : ∀ (m : Nat) {A : Nat → Nat} (h6 : A 0 ≤ 6) {j : Nat} (hj : j < 5 ∨ j = 6 ∨ 15 ≤ j), gI m A j = A j := by
  intro m
  induction m with
  | zero => intro A h6 j hj; rfl
  | succ m ih =>
    intro A h6 j hj
    simp only [gI]
    rw [ih (by rw [goT_hi h6 (by omega)]; exact h6) hj, goT_hi h6 hj]
theorem gI_8 : ∀ (m : Nat) {A : Nat → Nat}, gI m A 8 = A 8 + m := by
  intro m
  induction m with
  | zero => intro A; rfl
  | succ m ih => intro A; simp only [gI]; rw [ih, goT_8]; omega
theorem gI_5 : ∀ (m : Nat) {A : Nat → Nat} (h6 : A 0 ≤ 6) (x : Nat), (x + gI m A 5) % A 21 = (x + A 5 + A 6 * m) % A 21 := by
  intro m
  induction m with
  | zero => intro A h6 x; simp [gI]
  | succ m ih =>
    intro A h6 x
    simp only [gI]
    have e21 : (goT A false).2 21 = A 21 := goT_hi h6 (by omega)
    have e6 : (goT A false).2 6 = A 6 := goT_hi h6 (by omega)
    have := ih (A := (goT A false).2) (by rw [goT_hi h6 (by omega)]; exact h6) x
    rw [e21, e6, goT_5] at this
    rw [this, Nat.add_assoc, Nat.add_comm ((A 5 + A 6) % A 21), ← Nat.add_assoc, Nat.add_mod_mod]
    congr 1
    rw [Nat.mul_succ]
    omega
theorem where_0 {A : Nat → Nat} {m i : Nat} (h6 : A 0 ≤ 6) : plc (gI m A) (gI m A (15 + i)) = (A (15 + i) + A 5 + A 6 * m) % A 21 := by
  unfold plc
  rw [gI_hi m h6 (j := 15 + i) (by omega), gI_hi m h6 (j := 21) (by omega)]
  exact gI_5 m h6 _
theorem where_1 {A : Nat → Nat} {m i : Nat} (h6 : A 0 ≤ 6) : hghO (gI m A) (gI m A (15 + i)) = hgh (A (34 + A (15 + i))) (A (46 + A (15 + i))) (A 8 + m) (A 6) := by
  unfold hghO
  rw [gI_hi m h6 (j := 15 + i) (by omega), gI_hi m h6 (by omega), gI_hi m h6 (by omega), gI_hi m h6 (j := 6) (by omega), gI_8]
theorem rdF_pos {By : Nat → Nat} {L : Nat} : ∀ (n p : Nat) (An : Nat → Nat) (it : Nat), 1 ≤ it → (rdF By L n p An it).1 = true → 1 ≤ (rdF By L n p An it).2.1 := by
  intro n
  induction n with
  | zero => intro p An it hi h; cases h
  | succ n ih =>
    intro p An it hi h
    simp only [rdF] at h ⊢
    split at h
    · rename_i hk; rw [if_pos hk]; exact hi
    · rename_i hk
      rw [if_neg hk]
      split at h
      · rename_i hc; rw [if_pos hc]; exact ih _ _ _ (by omega) h
      · cases h
theorem rdR_pos {By : Nat → Nat} {L : Nat} (h : (rdR By L).1 = true) : 1 ≤ (rdR By L).2.1 := by
  unfold rdR at h ⊢
  split at h
  · rename_i h1; rw [if_pos h1]
    split at h
    · rename_i h2; rw [if_pos h2]
      split at h
      · rename_i h3; rw [if_pos h3]
        split at h
        · rename_i h4; rw [if_pos h4]; exact rdF_pos _ _ _ _ (by omega) h
        · cases h
      · cases h
    · cases h
  · cases h
/-- a row that has nothing to undo, nothing seen, noted, marked -/
def zR (A : Nat → Nat) : Prop := A 1 = 0 ∧ A 2 = 0 ∧ A 3 = 0 ∧ A 4 = 0
theorem zR_of {A B : Nat → Nat} (h : zR A) (e : ∀ j, 1 ≤ j → j < 5 → B j = A j) : zR B := ⟨by rw [e 1 (by omega) (by omega)]; exact h.1, by rw [e 2 (by omega) (by omega)]; exact h.2.1, by rw [e 3 (by omega) (by omega)]; exact h.2.2.1, by rw [e 4 (by omega) (by omega)]; exact h.2.2.2⟩
theorem zR_tiF {By : Nat → Nat} {L p : Nat} {An : Nat → Nat} (hw : wf An) (h : zR An) : zR (tiF By L p An).2.2 := by
  have h6 := hw.1.2.2.2.2.2
  unfold tiF
  split
  · unfold thF
    (repeat' split) <;> first | exact h | exact zR_of h (fun j h1 h2 => by simp only [va_up]; rw [if_neg (by omega), if_neg (by omega)])
  · split
    · unfold trF
      (repeat' split) <;> first | exact h | exact zR_of h (fun j h1 h2 => by simp only [layR, va_up]; rw [if_neg (by omega), if_neg (by omega), if_neg (by omega), if_neg (by omega), if_neg (by omega)])
    · split
      · unfold tgF
        split <;> first | exact h | exact zR_of h (fun j h1 h2 => by simp only [va_up]; rw [if_neg (by omega)])
      · split
        · unfold toF
          split <;> first | exact h | exact zR_of h (fun j h1 h2 => goN_hi _ h6 (by omega))
        · exact h
theorem zR_rdF {By : Nat → Nat} {L : Nat} : ∀ (n p : Nat) (An : Nat → Nat) (it : Nat), wf An → zR An → zR (rdF By L n p An it).2.2 := by
  intro n
  induction n with
  | zero => intro p An it hw h; exact h
  | succ n ih =>
    intro p An it hw h
    simp only [rdF]
    split
    · exact h
    · split
      · exact ih _ _ _ (wf_tiF hw) (zR_tiF hw h)
      · exact zR_tiF hw h
theorem zR_rdR {By : Nat → Nat} {L : Nat} (h : (rdR By L).1 = true) : zR (rdR By L).2.2 := by
  unfold rdR at h ⊢
  split at h
  · rename_i h1; rw [if_pos h1]
    split at h
    · rename_i h2; rw [if_pos h2]
      split at h
      · rename_i h3; rw [if_pos h3]
        split at h
        · rename_i h4; rw [if_pos h4]
          exact zR_rdF _ _ _ _ (wf_beg (fun _ => by decide) h2.2 h3.2.2) ⟨rfl, rfl, rfl, rfl⟩
        · cases h
      · cases h
    · cases h
  · cases h
theorem rR_cp {R A K P kd am st rg : Nat → Nat} (h : rR R K P kd am st rg) (hw : wf R) : rR (cp138 R A) K P kd am st rg := rR_of h (fun j hj => by simp only [cp138]; rw [if_pos (by omega)]) hw.1.2.2.2.2.2 hw.1.2.1
