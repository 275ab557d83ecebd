theorem rdF_b {By : Nat → Nat} {L : Nat} : ∀ (n p : Nat) (An : Nat → Nat) (it : Nat), p ≤ L → (rdF By L n p An it).2.1 ≤ L + it + n := by
  intro n
  induction n with
  | zero => intro p An it hp; show p ≤ _; omega
  | succ n ih =>
    intro p An it hp
    have h1 := tiF_in (By := By) (An := An) hp
    simp only [rdF]
    split
    · show it ≤ _; omega
    · split
      · have := ih (nx By L (tiF By L p An).2.1) (tiF By L p An).2.2 (it + 1) (nx_in h1.2).2
        omega
      · show (tiF By L p An).2.1 ≤ _; omega
theorem rdR_b {By : Nat → Nat} {L : Nat} : (rdR By L).2.1 ≤ 2 * L + 2 := by
  have p0 := sk_in (By := By) (L := L) (f := 0) (Nat.zero_le _)
  have p1 := nx_in (By := By) p0.2
  have p2 := nx_in (By := By) p1.2
  have p3 := nx_in (By := By) p2.2
  have p4 := nx_in (By := By) p3.2
  unfold rdR
  split
  · split
    · split
      · split
        · have := rdF_b (By := By) (L := L) (L + 1) _ (beg (fun _ => 0) (tkV By L (nx By L (sk By L 0))) (tkV By L (nx By L (nx By L (sk By L 0))))) 1 p4.2
          omega
        · show nx By L (nx By L (nx By L (sk By L 0))) ≤ _; omega
      · show nx By L (nx By L (sk By L 0)) ≤ _; omega
    · show nx By L (sk By L 0) ≤ _; omega
  · show sk By L 0 ≤ _; omega
theorem rdZ_t {By : Nat → Nat} {L : Nat} (h : (rdR By L).1 = true) : rdZ By L = ((rdR By L).2.1 : Int) := by unfold rdZ; rw [if_pos h]
theorem rdZ_f {By : Nat → Nat} {L : Nat} (h : ¬ (rdR By L).1 = true) : rdZ By L = -10 - ((rdR By L).2.1 : Int) := by unfold rdZ; rw [if_neg h]
theorem rdZ_b {By : Nat → Nat} {L : Nat} (hL : L ≤ 150) : -1000 ≤ rdZ By L ∧ rdZ By L ≤ 1000 := by
  have := rdR_b (By := By) (L := L)
  by_cases h : (rdR By L).1 = true
  · rw [rdZ_t h]; omega
  · rw [rdZ_f h]; omega
theorem rdZ_pos {By : Nat → Nat} {L : Nat} (h : 0 < rdZ By L) : (rdR By L).1 = true := by
  by_cases hc : (rdR By L).1 = true
  · exact hc
  · rw [rdZ_f hc] at h; omega
theorem rdZ_neg {By : Nat → Nat} {L : Nat} (h : rdZ By L ≤ 0) : ¬ (rdR By L).1 = true := by
  intro hc
  have := rdR_pos hc
  rw [rdZ_t hc] at h
  omega
