theorem rR_horse {A K P kd am st rg : Nat → Nat} {s k p : Nat} (h : rR A K P kd am st rg) (hs : s < 12) (h12 : A 21 ≤ 12) (h6 : A 0 ≤ 6) : rR (va_up (va_up A (34 + s) k) (46 + s) p) (va_up K s k) (va_up P s p) kd am st rg := by
  have e : ∀ j, j ≠ 34 + s → j ≠ 46 + s → va_up (va_up A (34 + s) k) (46 + s) p j = A j := fun j h1 h2 => by simp [va_up, h1, h2]
  refine ⟨fun t ht => ?_, fun i hi => ?_⟩
  · rw [e 21 (by omega) (by omega)] at ht
    by_cases hts : t = s
    · subst hts
      simp only [va_up]
      rw [if_neg (show ¬ 34 + t = 46 + t by omega)]
      simp
    · rw [e (34 + t) (by omega) (by omega), e (46 + t) (by omega) (by omega)]
      simp only [va_up]
      rw [if_neg hts, if_neg hts]
      exact h.1 t ht
  · rw [e 0 (by omega) (by omega)] at hi
    rw [e (22 + i) (by omega) (by omega), e (28 + i) (by omega) (by omega), e (15 + i) (by omega) (by omega), e (9 + i) (by omega) (by omega)]
    exact h.2 i hi
theorem rR_rider {A K P kd am st rg : Nat → Nat} {k a s : Nat} (h : rR A K P kd am st rg) (h0 : A 0 < 6) (h12 : A 21 ≤ 12) : rR (layR A k a s) K P (va_up kd (A 0) k) (va_up am (A 0) a) (va_up st (A 0) s) (va_up rg (A 0) 0) := by
  obtain ⟨l0, l1, l2, l3, l4, e⟩ := layR_at (A := A) (k := k) (a := a) (s := s) h0
  refine ⟨fun t ht => ?_, fun i hi => ?_⟩
  · rw [e 21 (by omega) (by omega) (by omega) (by omega) (by omega)] at ht
    rw [e (34 + t) (by omega) (by omega) (by omega) (by omega) (by omega), e (46 + t) (by omega) (by omega) (by omega) (by omega) (by omega)]
    exact h.1 t ht
  · rw [l0] at hi
    by_cases hi0 : i = A 0
    · subst hi0
      rw [l1, l2, l3, l4]
      simp [va_up]
    · rw [e (22 + i) (by omega) (by omega) (by omega) (by omega) (by omega), e (28 + i) (by omega) (by omega) (by omega) (by omega) (by omega), e (15 + i) (by omega) (by omega) (by omega) (by omega) (by omega), e (9 + i) (by omega) (by omega) (by omega) (by omega) (by omega)]
      simp only [va_up]
      rw [if_neg hi0, if_neg hi0, if_neg hi0, if_neg hi0]
      exact h.2 i (by omega)
theorem rR_ring {A K P kd am st rg : Nat → Nat} {v : Nat} (h : rR A K P kd am st rg) (h6 : A 0 ≤ 6) (h12 : A 21 ≤ 12) : rR (va_up A 7 v) K P kd am st rg := rR_of h (fun j hj => by simp only [va_up]; rw [if_neg (by omega)]) h6 h12
theorem rR_speed {A K P kd am st rg : Nat → Nat} {v : Nat} (h : rR A K P kd am st rg) (h6 : A 0 ≤ 6) (h12 : A 21 ≤ 12) : rR (va_up A 6 v) K P kd am st rg := rR_of h (fun j hj => by simp only [va_up]; rw [if_neg (by omega)]) h6 h12
theorem rR_beg {A K P kd am st rg : Nat → Nat} {n v : Nat} (h12 : n ≤ 12) (hz : ∀ j, j < 12 → K j = 0 ∧ P j = 0) : rR (beg A n v) K P kd am st rg := by
  have e : ∀ j, j < 138 → j ≠ 7 → j ≠ 6 → j ≠ 21 → beg A n v j = 0 := fun j h0 h1 h2 h3 => by simp [beg, va_up, zer, h0, h1, h2, h3]
  refine ⟨fun t ht => ?_, fun i hi => ?_⟩
  · rw [show beg A n v 21 = n from rfl] at ht
    rw [e (34 + t) (by omega) (by omega) (by omega) (by omega), e (46 + t) (by omega) (by omega) (by omega) (by omega)]
    exact hz t (by omega)
  · rw [show beg A n v 0 = 0 from rfl] at hi
    omega
theorem goN_st {n : Nat} {A B : Nat → Nat} {a k : Nat} (h : goN (a - k) B = goN n A) (hk : k < a) (ht : B 8 < 9999) : goN (a - (k + 1)) (goT B false).2 = goN n A := by
  rw [← h, show a - k = (a - (k + 1)) + 1 by omega]
  simp only [goN]
  rw [if_pos ht]
theorem w0_eq : ∀ j, j < 5 → wRound j = chW 0 j := by decide +kernel
theorem w1_eq : ∀ j, j < 5 → wHorse j = chW 1 j := by decide +kernel
theorem w2_eq : ∀ j, j < 5 → wRider j = chW 2 j := by decide +kernel
theorem w3_eq : ∀ j, j < 4 → wRing j = chW 3 j := by decide +kernel
theorem w4_eq : ∀ j, j < 2 → wGo j = chW 4 j := by decide +kernel
theorem rd_f0 {By : Nat → Nat} {L : Nat} (h : isW By L (sk By L 0) 5 wRound = false) : (rdR By L).1 = false ∧ (rdR By L).2.1 = sk By L 0 := by
  unfold rdR
  rw [if_neg (by rw [h]; decide)]
  exact ⟨rfl, rfl⟩
theorem rd_f1 {By : Nat → Nat} {L : Nat} (h : isW By L (sk By L 0) 5 wRound = true) (hc : ¬ (num By L (nx By L (sk By L 0)) 4 12 ∧ num By L (nx By L (nx By L (sk By L 0))) 0 3 ∧ tkK By L (nx By L (nx By L (nx By L (sk By L 0)))) = 3)) : (rdR By L).1 = false ∧ (rdR By L).2.1 = (if num By L (nx By L (sk By L 0)) 4 12 then if num By L (nx By L (nx By L (sk By L 0))) 0 3 then nx By L (nx By L (nx By L (sk By L 0))) else nx By L (nx By L (sk By L 0)) else nx By L (sk By L 0)) := by
  unfold rdR
  rw [if_pos h]
  by_cases h1 : num By L (nx By L (sk By L 0)) 4 12
  · rw [if_pos h1, if_pos h1]
    by_cases h2 : num By L (nx By L (nx By L (sk By L 0))) 0 3
    · rw [if_pos h2, if_pos h2, if_neg (fun z => hc ⟨h1, h2, z⟩)]
      exact ⟨rfl, rfl⟩
    · rw [if_neg h2, if_neg h2]
      exact ⟨rfl, rfl⟩
  · rw [if_neg h1, if_neg h1]
    exact ⟨rfl, rfl⟩
theorem rd_1 {By : Nat → Nat} {L : Nat} (h : isW By L (sk By L 0) 5 wRound = true) (hc : num By L (nx By L (sk By L 0)) 4 12 ∧ num By L (nx By L (nx By L (sk By L 0))) 0 3 ∧ tkK By L (nx By L (nx By L (nx By L (sk By L 0)))) = 3) : rdR By L = rdF By L (L + 1) (nx By L (nx By L (nx By L (nx By L (sk By L 0))))) (beg (fun _ => 0) (tkV By L (nx By L (sk By L 0))) (tkV By L (nx By L (nx By L (sk By L 0))))) (0 + 1) := by
  unfold rdR
  rw [if_pos h, if_pos hc.1, if_pos hc.2.1, if_pos hc.2.2]
section RD
variable {By B : Nat → Nat} {L fl p it : Nat}
theorem rd_end (hR : rdR By L = rdF By L fl p B it) (hk : tkK By L p = 0) (hf : 0 < fl) : rdR By L = (true, it, B) := by
  rw [hR, show fl = (fl - 1) + 1 by omega]
  simp only [rdF]
  rw [if_pos hk]
theorem rd_fl {X : Bool × Nat × (Nat → Nat)} (hR : rdR By L = rdF By L fl p B it) (hk : ¬ tkK By L p = 0) (hf : 0 < fl) (hti : tiF By L p B = X) (h : ¬ (X.1 = true ∧ tkK By L X.2.1 = 3)) : (rdR By L).1 = false ∧ (rdR By L).2.1 = X.2.1 := by
  rw [hR, show fl = (fl - 1) + 1 by omega]
  simp only [rdF]
  rw [if_neg hk, hti, if_neg h]
  exact ⟨rfl, rfl⟩
theorem rd_go {X : Bool × Nat × (Nat → Nat)} {C : Nat → Nat} (hR : rdR By L = rdF By L fl p B it) (hk : ¬ tkK By L p = 0) (hf : 0 < fl) (hti : tiF By L p B = X) (h : X.1 = true ∧ tkK By L X.2.1 = 3) (hc : X.2.2 = C) : rdR By L = rdF By L (fl - 1) (nx By L X.2.1) C (it + 1) := by
  rw [hR, show fl = (fl - 1) + 1 by omega]
  simp only [rdF]
  rw [if_neg hk, hti, if_pos h, hc]
  rfl
variable {An : Nat → Nat}
theorem thF_row (h : (thF By L p An).1 = true) : (thF By L p An).2.2 = va_up (va_up An (34 + tkV By L (nx By L p)) (tkV By L (nx By L (nx By L p)))) (46 + tkV By L (nx By L p)) (tkV By L (nx By L (nx By L (nx By L p)))) := by
  unfold thF at h ⊢
  split at h
  · split at h
    · split at h
      · rename_i h1 h2 h3; rw [if_pos h1, if_pos h2, if_pos h3]
      · cases h
    · cases h
  · cases h
theorem th_ok (h : (thF By L p An).1 = true) : num By L (nx By L p) 0 (An 21 - 1) := by
  unfold thF at h
  split at h
  · assumption
  · cases h
theorem trF_row (h : (trF By L p An).1 = true) : (trF By L p An).2.2 = layR An (tkV By L (nx By L p)) (tkV By L (nx By L (nx By L p))) (tkV By L (nx By L (nx By L (nx By L p)))) := by
  unfold trF at h ⊢
  split at h
  · cases h
  · split at h
    · split at h
      · split at h
        · rename_i h0 h1 h2 h3; rw [if_neg h0, if_pos h1, if_pos h2, if_pos h3]
        · cases h
      · cases h
    · cases h
theorem tgF_row (h : (tgF By L p An).1 = true) : (tgF By L p An).2.2 = va_up An 7 (tkV By L (nx By L p)) := by
  unfold tgF at h ⊢
  split at h
  · rename_i h1; rw [if_pos h1]
  · cases h
theorem toF_row (h : (toF By L p An).1 = true) : (toF By L p An).2.2 = goN (tkV By L (nx By L p)) An := by
  unfold toF at h ⊢
  split at h
  · rename_i h1; rw [if_pos h1]
  · cases h
end RD
