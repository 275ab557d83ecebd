section JMake
variable {b : Bool} {cc : ByteArray} {own : String} {nL d mc ms : Nat} {ini : Bool} {Z : jZ} {J : JT} {pc q : Nat} {lvs : List (Nat × Value)} {rest : List Value} {ws ws' : va_W} {nc ns : Nat}
theorem j_objInit (h : JR b cc own nL d mc ms ini Z J) {idx a : Nat} (hl : Cond.methodLink own idx (⟨"java/lang/Object", "<init>", "()V"⟩ : MethodName) ∈ jg) (dg : decode cc pc = .ok (.invokespecial idx, 3)) (hd : 1 ≤ d) (hrest : (rest.map fun v => v.category).sum ≤ 8) (hq : pc + 3 = q) (K : J q lvs rest ws nc ns) : J pc lvs (.ref a :: rest) ws nc ns := by
  obtain ⟨p, l, ev, R, s, m, args, below, meth, c, A, Q, hR, hx, hb, hml, hown, hts, hK, hA, hX, hin, rfl⟩ := h
  subst hq
  intro H locs ls hl' hP hB
  exact W.objInit hx hb hown (hts _ hl) (hts _ tm_23) (hts _ tm_24) rfl (hl'.1.trans hml.symm) rfl dg (by omega) (Nat.le_trans (Nat.add_le_add_right (lv_room hrest) 12) (by omega)) (K H locs ls hl' hP hB)
theorem j_new (h : JR true cc own nL d mc ms ini Z J) {index ci N : Nat} {C : String} {T : u_T} {ty : Nat → FieldType} {fs : List Value} (hc : vwCl[ci]? = some (C, T, N)) (hin : ∀ w ∈ u_ws C T N, w ∈ jg) (hty : ∀ k, k < N → parseFieldDescriptor (T k).2.2.1 = some (ty k)) (hcl : Cond.classLink own index C ∈ jg) (hinst : Cond.instantiable C N ∈ jg) (hini : Cond.initialized C ∈ jg) (hfs : ∀ j, j < N → defaultValue (ty j) = vp_V fs j) (dg : decode cc pc = .ok (.new index, 3)) (hcs : nc + 1 ≤ mc ∧ ns + N ≤ ms) (hq : pc + 3 = q) (K : ∀ a : Nat, J q lvs (.ref a :: rest) (ws ++ [(a, .inr (ci, fs))]) (nc + 1) (ns + N)) : J pc lvs rest ws nc ns := by
  obtain ⟨p, l, ev, R, s, m, args, below, meth, c, A, Q, hR, hx, hb, hml, hown, hts, hK, hA, hX, hin', rfl⟩ := h
  subst hq
  intro H locs ls hl' hP hB
  exact va_new hx hb hts hin ty hty hown (hts _ hcl) (hts _ hinst) (hts _ hini) hK hP hB.1 hB.2 (hA rfl) hc hfs (by omega) (by omega) dg (fun a H1 hP1 hD1 hS1 => K a H1 locs ls hl' hP1 ⟨hD1, hS1⟩)
theorem j_newa (h : JR true cc own nL d mc ms ini Z J) {atype : ArrayType} {ty : FieldType} {t0 N : Nat} (harr : Cond.arrayClass (newarray.typeOf atype) ∈ jg) (hty : newarray.typeOf atype = ty) (ht : (jy Z.2.1)[t0]? = some (Z.2.1 t0, ty)) (hra : ∀ (U : State) (cA : ClassId), va_RA U cA ty → U.vm.findClass ("[" ++ ty.toString) = some cA) (h0 : defaultValue ty = .int (nI 0)) (hbytes : N * componentBytes ty ≤ 536870912) (hN : N < 2147483648) (dg : decode cc pc = .ok (.newarray atype, 2)) (hcs : nc + 1 ≤ mc ∧ ns + N ≤ ms) (hq : pc + 2 = q) (K : ∀ a : Nat, J q lvs (.ref a :: rest) (ws ++ [(a, .inl (Z.2.1 t0, N, .inl (ni (fun _ => 0))))]) (nc + 1) (ns + N)) : J pc lvs (.int (nI N) :: rest) ws nc ns := by
  obtain ⟨p, l, ev, R, s, m, args, below, meth, c, A, Q, hR, hx, hb, hml, hown, hts, hK, hA, hX, hin', rfl⟩ := h
  subst hq
  intro H locs ls hl' hP hB
  refine va_newa (a0 := (N, .inl (ni (fun _ => 0)))) hx hb (hts _ harr) hty hK hP hB.1 hB.2 (hA rfl) (fun cA => ?_) (nI_nneg hN) (nI_clamp hN) hbytes (by omega) (by omega) dg (fun a cA H1 hK1 hP1 hD1 hS1 => ?_)
  · rw [vp_cell_i, h0]; rfl
  · have e1 := hra s cA (hK1.2 (jy Z.2.1).length (cA, ty) (by rw [List.getElem?_append_right (Nat.le_refl _), Nat.sub_self]; rfl)).2
    have e2 := hra s (Z.2.1 t0) (hK.2 t0 _ ht).2
    have e3 : cA = Z.2.1 t0 := Option.some.inj (e1.symm.trans e2)
    subst e3
    exact K a H1 locs ls hl' hP1 ⟨hD1, hS1⟩
theorem j_newI (h : JR true cc own nL d mc ms ini Z J) {N : Nat} (hN : N * 4 ≤ 536870912) (dg : decode cc pc = .ok (.newarray .int, 2)) (hcs : nc + 1 ≤ mc ∧ ns + N ≤ ms) (hq : pc + 2 = q) (K : ∀ a : Nat, J q lvs (.ref a :: rest) (ws ++ [(a, ia Z N (ni (fun _ => 0)))]) (nc + 1) (ns + N)) : J pc lvs (.int (nI N) :: rest) ws nc ns :=
  j_newa h (atype := .int) (ty := .int) (t0 := 0) tm_108 rfl rfl (fun U cA h => h) rfl hN (by omega) dg hcs hq K
theorem j_newB (h : JR true cc own nL d mc ms ini Z J) {N : Nat} (hN : N * 1 ≤ 536870912) (dg : decode cc pc = .ok (.newarray .byte, 2)) (hcs : nc + 1 ≤ mc ∧ ns + N ≤ ms) (hq : pc + 2 = q) (K : ∀ a : Nat, J q lvs (.ref a :: rest) (ws ++ [(a, ba Z N (ni (fun _ => 0)))]) (nc + 1) (ns + N)) : J pc lvs (.int (nI N) :: rest) ws nc ns :=
  j_newa h (atype := .byte) (ty := .byte) (t0 := 1) tm_198 rfl rfl (fun U cA h => h) rfl hN (by omega) dg hcs hq K
theorem j_newZ (h : JR true cc own nL d mc ms ini Z J) {N : Nat} (hN : N * 1 ≤ 536870912) (dg : decode cc pc = .ok (.newarray .boolean, 2)) (hcs : nc + 1 ≤ mc ∧ ns + N ≤ ms) (hq : pc + 2 = q) (K : ∀ a : Nat, J q lvs (.ref a :: rest) (ws ++ [(a, za Z N (ni (fun _ => 0)))]) (nc + 1) (ns + N)) : J pc lvs (.int (nI N) :: rest) ws nc ns :=
  j_newa h (atype := .boolean) (ty := .boolean) (t0 := 2) tm_834 rfl rfl (fun U cA h => h) rfl hN (by omega) dg hcs hq K
theorem j_newQ (h : JR true cc own nL d mc ms ini Z J) {index N : Nat} (hcl : Cond.classLink own index RX6 ∈ jg) (hN : N * 4 ≤ 536870912) (dg : decode cc pc = .ok (.anewarray index, 3)) (hcs : nc + 1 ≤ mc ∧ ns + N ≤ ms) (hq : pc + 3 = q) (K : ∀ a : Nat, J q lvs (.ref a :: rest) (ws ++ [(a, qa Z N (fun _ => none))]) (nc + 1) (ns + N)) : J pc lvs (.int (nI N) :: rest) ws nc ns := by
  obtain ⟨p, l, ev, R, s, m, args, below, meth, c, A, Q, hR, hx, hb, hml, hown, hts, hK, hA, hX, hin', rfl⟩ := h
  subst hq
  intro H locs ls hl' hP hB
  refine va_newq hx hb hown (hts _ hcl) hX.2.2.2.2.1 hK hP hB.1 hB.2 (hA rfl) (nI_nneg (by omega)) (nI_clamp (by omega)) hN (by omega) (by omega) dg (fun a cA H1 hK1 hP1 hD1 hS1 => ?_)
  obtain ⟨-, -, -, -, -, e1⟩ := (hK1.2 (jy Z.2.1).length (cA, .object RX6) (by rw [List.getElem?_append_right (Nat.le_refl _), Nat.sub_self]; rfl)).2
  obtain ⟨-, -, -, -, -, e2⟩ := (hK.2 3 (Z.2.1 3, .object RX6) rfl).2
  have e3 : cA = Z.2.1 3 := Option.some.inj (e1.symm.trans e2)
  subst e3
  exact K a H1 locs ls hl' hP1 ⟨hD1, hS1⟩
theorem j_aald (h : JR b cc own nL d mc ms ini Z J) {a n j : Nat} {f : Nat → Option Nat} {v : Value} (dg : decode cc pc = .ok (.aaload, 1)) (q0 : Nat) (he : ws[q0]? = some (a, qa Z n f)) (hj : j < n) (hn : n < 2 ^ 31) (hz : va_rf (f j) = v) (hq : pc + 1 = q) (K : J q lvs (v :: rest) ws nc ns) : J pc lvs (.int (nI j) :: .ref a :: rest) ws nc ns := by
  obtain ⟨p, l, ev, R, s, m, args, below, meth, c, A, Q, hR, hx, hb, hml, hown, hts, hK, hA, hX, hin, rfl⟩ := h
  subst hq
  subst hz
  intro H locs ls hl' hP hB
  refine va_aldq hx hb hK hP q0 3 he rfl (vp_in_nI hj hn) dg ?_
  rw [nI_clamp (Nat.lt_trans hj hn)]
  exact K H locs ls hl' hP hB
theorem j_aast (h : JR true cc own nL d mc ms ini Z J) {a n j v : Nat} {f : Nat → Option Nat} {vs : List Value} (dg : decode cc pc = .ok (.aastore, 1)) (q0 qk : Nat) (he : ws[q0]? = some (a, qa Z n f)) (hv : ws[qk]? = some (v, .inr (4, vs))) (hj : j < n) (hn : n < 2 ^ 31) (hw : ws.set q0 (a, qa Z n (va_up f j (some v))) = ws') (hq : pc + 1 = q) (K : J q lvs rest ws' nc ns) : J pc lvs (.ref v :: .int (nI j) :: .ref a :: rest) ws nc ns := by
  obtain ⟨p, l, ev, R, s, m, args, below, meth, c, A, Q, hR, hx, hb, hml, hown, hts, hK, hA, hX, hin, rfl⟩ := h
  subst hq
  subst hw
  intro H locs ls hl' hP hB
  refine va_astq (r := (RX6, TX6, 5)) hx hb hK hP hB.1 hB.2 q0 3 qk 4 he rfl hv rfl (vp_in_nI hj hn) dg (fun H1 locs1 hP1 hD1 hS1 => ?_)
  rw [nI_clamp (Nat.lt_trans hj hn)] at hP1 hD1
  exact K H1 locs1 ls hl' hP1 ⟨hD1, hS1⟩
end JMake
/-- addresses by their place in a list -/
def ad (l : List Nat) (k : Nat) : Nat := l.getD k 0
theorem df_X2 : ∀ j, j < 5 → defaultValue (tyX2 j) = vp_V [.int (nI 0), .null, .null, .int (nI 0), .int (nI 0)] j := fun j hj => by rcases (show j = 0 ∨ j = 1 ∨ j = 2 ∨ j = 3 ∨ j = 4 by omega) with rfl | rfl | rfl | rfl | rfl <;> rfl
theorem df_X3 : ∀ j, j < 2 → defaultValue (tyX3 j) = vp_V [.int (nI 0), .null] j := fun j hj => by rcases (show j = 0 ∨ j = 1 by omega) with rfl | rfl <;> rfl
theorem df_X4 : ∀ j, j < 12 → defaultValue (tyX4 j) = vp_V [.int (nI 0), .int (nI 0), .int (nI 0), .int (nI 0), .int (nI 0), .int (nI 0), .null, .null, .null, .null, .null, .null] j := fun j hj => by rcases (show j = 0 ∨ j = 1 ∨ j = 2 ∨ j = 3 ∨ j = 4 ∨ j = 5 ∨ j = 6 ∨ j = 7 ∨ j = 8 ∨ j = 9 ∨ j = 10 ∨ j = 11 by omega) with rfl | rfl | rfl | rfl | rfl | rfl | rfl | rfl | rfl | rfl | rfl | rfl <;> rfl
theorem df_X5 : ∀ j, j < 4 → defaultValue (tyX5 j) = vp_V [.int (nI 0), .int (nI 0), .int (nI 0), .null] j := fun j hj => by rcases (show j = 0 ∨ j = 1 ∨ j = 2 ∨ j = 3 by omega) with rfl | rfl | rfl | rfl <;> rfl
theorem df_X6 : ∀ j, j < 5 → defaultValue (tyX6 j) = vp_V [.null, .null, .null, .null, .null] j := fun j hj => by rcases (show j = 0 ∨ j = 1 ∨ j = 2 ∨ j = 3 ∨ j = 4 by omega) with rfl | rfl | rfl | rfl | rfl <;> rfl
theorem df_X7 : ∀ j, j < 8 → defaultValue (tyX7 j) = vp_V [.int (nI 0), .null, .int (nI 0), .int (nI 0), .int (nI 0), .int (nI 0), .int (nI 0), .null] j := fun j hj => by rcases (show j = 0 ∨ j = 1 ∨ j = 2 ∨ j = 3 ∨ j = 4 ∨ j = 5 ∨ j = 6 ∨ j = 7 by omega) with rfl | rfl | rfl | rfl | rfl | rfl | rfl | rfl <;> rfl
theorem df_X8 : ∀ j, j < 13 → defaultValue (tyX8 j) = vp_V [.null, .null, .null, .long (zL 0), .long (zL 0), .int (nI 0), .int (nI 0), .int (nI 0), .null, .null, .null, .null, .null] j := fun j hj => by rcases (show j = 0 ∨ j = 1 ∨ j = 2 ∨ j = 3 ∨ j = 4 ∨ j = 5 ∨ j = 6 ∨ j = 7 ∨ j = 8 ∨ j = 9 ∨ j = 10 ∨ j = 11 ∨ j = 12 by omega) with rfl | rfl | rfl | rfl | rfl | rfl | rfl | rfl | rfl | rfl | rfl | rfl | rfl <;> rfl
theorem df_X9 : ∀ j, j < 17 → defaultValue (tyX9 j) = vp_V [.null, .null, .null, .null, .long (zL 0), .long (zL 0), .null, .null, .null, .null, .int (nI 0), .int (nI 0), .int (nI 0), .int (nI 0), .int (nI 0), .null, .null] j := fun j hj => by rcases (show j = 0 ∨ j = 1 ∨ j = 2 ∨ j = 3 ∨ j = 4 ∨ j = 5 ∨ j = 6 ∨ j = 7 ∨ j = 8 ∨ j = 9 ∨ j = 10 ∨ j = 11 ∨ j = 12 ∨ j = 13 ∨ j = 14 ∨ j = 15 ∨ j = 16 by omega) with rfl | rfl | rfl | rfl | rfl | rfl | rfl | rfl | rfl | rfl | rfl | rfl | rfl | rfl | rfl | rfl | rfl <;> rfl
abbrev A0 : Nat → Nat := beg (fun _ => 0) 4 1
