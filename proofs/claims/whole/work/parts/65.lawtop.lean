def lwT (i : Nat) : Term := .string RX7 ([53, 59, 61, 63, 65].getD i 0)
def lwG : Cond := Jvm.Cond.and given_1 narrow_1
theorem lwG_ex : ∀ i, i < 5 → (Cond.exactly (lwT i) "java/lang/String") ∈ flatC lwG := by decide +kernel
theorem lwG_co : ∀ i, i < 5 → (Cond.eq (.field (lwT i) "java/lang/String" "coder" "B") (.int 0)) ∈ flatC lwG := by decide +kernel
theorem lwG_ar : ∀ i, i < 5 → (Cond.arrayOf (.field (lwT i) "java/lang/String" "value" "[B") .byte) ∈ flatC lwG := by decide +kernel
theorem lwG_le : ∀ i, i < 5 → (Cond.eq (.length (.field (lwT i) "java/lang/String" "value" "[B")) (.int (Int32.ofNat (jlen.getD i 0)))) ∈ flatC lwG := by decide +kernel
theorem lwG_el : ∀ i, i < 5 → ∀ j, j < jlen.getD i 0 → (Cond.eq (.elem (.field (lwT i) "java/lang/String" "value" "[B") (.int (Int32.ofNat j))) (.int ((jbyt.getD i []).getD j 0))) ∈ flatC lwG := by decide +kernel
theorem lwG_ne : ∀ i, i < 5 → ∀ j, j < 5 → i ≠ j → (Cond.not (Cond.eq (lwT i) (lwT j))) ∈ flatC lwG ∨ (Cond.not (Cond.eq (lwT j) (lwT i))) ∈ flatC lwG := by decide +kernel
theorem lwG_z : (Cond.eq (.static RJ0 "COMPACT_STRINGS" "Z") (.int 1)) ∈ flatC lwG := by decide +kernel
theorem lwG_q : (Cond.isRef (.static RJ3 "SIOOBE_FORMATTER" "Ljava/util/function/BiFunction;")) ∈ flatC lwG := by decide +kernel
/-- what stands outside, at the start -/
theorem lw_jX {s : State} {b : Nat} (hts : ∀ w ∈ lw_tbl, w.before #[Value.ref b] s = true) (hgv : lwG.before #[Value.ref b] s = true) : ∃ g : Nat → Nat, jX g (fun q => s.heap.size ≤ q) s := by
  have hs := flat_of_before lwG hgv
  have hA : ∀ a : Nat, a < s.heap.size → ¬ (fun q : Nat => s.heap.size ≤ q) a := fun a h => Nat.not_le.mpr h
  obtain ⟨adK, adV, hS, he⟩ := vk_Sof (args := #[Value.ref b]) (s := s) (N := 5) (tm := lwT) (len := jlen) (byt := jbyt) (A := fun q => s.heap.size ≤ q) jl_all (fun i hi => hs _ (lwG_ex i hi)) (fun i hi => hs _ (lwG_co i hi)) (fun i hi => hs _ (lwG_ar i hi)) (fun i hi => hs _ (lwG_le i hi)) (fun i hi j hj => hs _ (lwG_el i hi j hj)) (fun i j hi hj hij => (lwG_ne i hi j hj hij).elim (fun h => Or.inl (hs _ h)) (fun h => Or.inr (hs _ h))) hA
  obtain ⟨g, hg1, hg2⟩ : ∃ g : Nat → Nat, (∀ i, i < 5 → g i = adK i) ∧ (∀ i, g (5 + i) = adV i) := ⟨fun k => if k < 5 then adK k else adV (k - 5), fun i hi => if_pos hi, fun i => (if_neg (by omega)).trans (congrArg adV (by omega))⟩
  have hr : ∀ i, i < 5 → (lwT i).eval #[Value.ref b] s none [] s = some (.ref (g i)) := fun i hi => by rw [hg1 i hi]; exact he i hi
  refine ⟨g, ?_, ⟨vk_R.of (hts _ tm_348) (hr 0 (by decide)), vk_R.of (hts _ tm_405) (hr 1 (by decide)), vk_R.of (hts _ tm_406) (hr 2 (by decide)), vk_R.of (hts _ tm_407) (hr 3 (by decide)), vk_R.of (hts _ tm_408) (hr 4 (by decide))⟩, ⟨fun i hi => ?_, fun i j hi hj e => hS.2 i j hi hj (by rw [← hg1 i hi, ← hg1 j hj]; exact e)⟩, va_Zof (hts _ tm_362) (hts _ (List.mem_filter.mp tm_9).1) (va_eqi (hs _ lwG_z)) hA, va_AO.of (hts _ tm_165), va_Zqof (hts _ tm_378) (hts _ (List.mem_filter.mp tm_11).1) (hs _ lwG_q) hA⟩
  · intro q hq
    rcases List.mem_cons.mp hq with rfl | hq
    · exact hts _ tm_27
    · rcases List.mem_cons.mp hq with rfl | hq
      · exact hts _ tm_111
      · rcases List.mem_cons.mp hq with rfl | hq
        · exact hts _ tm_168
        · rcases List.mem_cons.mp hq with rfl | hq
          · exact hts _ tm_203
          · rcases List.mem_cons.mp hq with rfl | hq
            · exact hts _ tm_417
            · exact absurd hq List.not_mem_nil
  · show va_O "java/lang/String" (g i) _ _ _ ∧ va_OF "java/lang/String" "coder" "B" (.int 0) (g i) _ _ _ ∧ va_OF "java/lang/String" "value" "[B" (.ref (g (5 + i))) (g i) _ _ _ ∧ va_T .byte (g (5 + i)) (jlen.getD i 0) (fun j => .int ((jbyt.getD i []).getD j 0)) _ _ _
    rw [hg1 i hi, hg2 i]
    exact hS.1 i hi
/-- the classes, and the classes of rows, at the start -/
theorem lw_K {s : State} {b : Nat} (htg : ∀ w ∈ jg, w.before #[Value.ref b] s = true) (hao : (Cond.arrayOver (FieldType.object RX6)).before #[Value.ref b] s = true) : ∃ (D : va_G) (Y : Nat → ClassId), va_K D vwCl (jy Y) s := by
  obtain ⟨c0, i0, k0⟩ := u_known (C := RX2) (T := TX2) (N := 5) (n := 5) htg jin_X2 (htg _ tm_202)
  obtain ⟨c1, i1, k1⟩ := u_known (C := RX3) (T := TX3) (N := 2) (n := 2) htg jin_X3 (htg _ tm_110)
  obtain ⟨c2, i2, k2⟩ := u_known (C := RX4) (T := TX4) (N := 12) (n := 12) htg jin_X4 (htg _ tm_32)
  obtain ⟨c3, i3, k3⟩ := u_known (C := RX5) (T := TX5) (N := 4) (n := 4) htg jin_X5 (htg _ tm_125)
  obtain ⟨c4, i4, k4⟩ := u_known (C := RX6) (T := TX6) (N := 5) (n := 5) htg jin_X6 (htg _ tm_26)
  obtain ⟨c5, i5, k5⟩ := u_known (C := RX7) (T := TX7) (N := 8) (n := 8) htg jin_X7 (htg _ tm_167)
  obtain ⟨c6, i6, k6⟩ := u_known (C := RX8) (T := TX8) (N := 13) (n := 13) htg jin_X8 (htg _ tm_18)
  obtain ⟨c7, i7, k7⟩ := u_known (C := RX9) (T := TX9) (N := 17) (n := 17) htg jin_X9 (htg _ tm_774)
  obtain ⟨a0, q0, m0, f0, g0, e0⟩ := Cond.arrayClass_spec (htg _ tm_108)
  obtain ⟨a1, q1, m1, f1, g1, e1⟩ := Cond.arrayClass_spec (htg _ tm_198)
  obtain ⟨a2, q2, m2, f2, g2, e2⟩ := Cond.arrayClass_spec (htg _ tm_834)
  obtain ⟨m3, a3, q3, h1, h2, h3, h4, h5⟩ := Cond.arrayOver_spec hao
  refine ⟨(fun k => [c0, c1, c2, c3, c4, c5, c6, c7].getD k c0, fun k => [i0, i1, i2, i3, i4, i5, i6, i7].getD k i0), fun k => [a0, a1, a2, a3].getD k a0, ?_, ?_⟩
  · intro k q hq
    match k, hq with
    | 0, hq => cases hq; exact k0
    | 1, hq => cases hq; exact k1
    | 2, hq => cases hq; exact k2
    | 3, hq => cases hq; exact k3
    | 4, hq => cases hq; exact k4
    | 5, hq => cases hq; exact k5
    | 6, hq => cases hq; exact k6
    | 7, hq => cases hq; exact k7
    | k + 8, hq => simp [vwCl] at hq
  · intro k q hq
    match k, hq with
    | 0, hq => cases hq; exact ⟨fun n z => ⟨fun k h => (by cases h), q0, g0, m0, e0⟩, f0⟩
    | 1, hq => cases hq; exact ⟨fun n z => ⟨fun k h => (by cases h), q1, g1, m1, e1⟩, f1⟩
    | 2, hq => cases hq; exact ⟨fun n z => ⟨fun k h => (by cases h), q2, g2, m2, e2⟩, f2⟩
    | 3, hq => cases hq; exact ⟨fun n z => ⟨fun k h => (by cases h), q3, h3, m3, h4⟩, ⟨q3, m3, h3, h4, h1, h5⟩⟩
    | k + 4, hq => simp [jy] at hq
