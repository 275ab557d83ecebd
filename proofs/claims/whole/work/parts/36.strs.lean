theorem jl_all : ∀ i, i < 5 → jlen.getD i 0 < 2 ^ 31 := by decide
/-- the letters of the five words -/
def chW (i k : Nat) : Nat := ((jbyt.getD i []).getD k 0).toInt.toNat
theorem chW_all : ∀ i, i < 5 → ∀ k, k < jlen.getD i 0 → (jbyt.getD i []).getD k 0 = nI (chW i k) ∧ nI (chW i k) &&& nI 255 = nI (chW i k) ∧ ((nI (chW i k)).toUInt32 % 65536).toInt32 = nI (chW i k) ∧ narrow .char (.int (nI (chW i k))) = .int (nI (chW i k)) ∧ chW i k < 128 := by decide +kernel
section JStr
variable {b : Bool} {cc : ByteArray} {own : String} {nL d mc ms : Nat} {ini : Bool} {Z : jZ} {J : JT} {pc q : Nat} {lvs : List (Nat × Value)} {st rest : List Value} {ws : va_W} {nc ns : Nat}
theorem j_ldcS (h : JR b cc RX7 nL d mc ms ini Z J) (i : Nat) {index : Nat} (hi : i = 0 ∧ index = 53 ∨ i = 1 ∧ index = 59 ∨ i = 2 ∧ index = 61 ∨ i = 3 ∧ index = 63 ∨ i = 4 ∧ index = 65) (dg : decode cc pc = .ok (.ldc index, 2)) (hq : pc + 2 = q) (K : J q lvs (.ref (Z.2.2 i) :: st) ws nc ns) : J pc lvs st ws nc ns := by
  obtain ⟨p, l, ev, R, s, m, args, below, meth, c, A, Q, hR, hx, hb, hml, hown, hts, hK, hA, hX, hin, rfl⟩ := h
  subst hq
  intro H locs ls hl' hP hB
  obtain ⟨-, ⟨r0, r1, r2, r3, r4⟩, -⟩ := hX
  rcases hi with ⟨rfl, rfl⟩ | ⟨rfl, rfl⟩ | ⟨rfl, rfl⟩ | ⟨rfl, rfl⟩ | ⟨rfl, rfl⟩
  · exact va_ldcS hx hb hown r0 dg (K H locs ls hl' hP hB)
  · exact va_ldcS hx hb hown r1 dg (K H locs ls hl' hP hB)
  · exact va_ldcS hx hb hown r2 dg (K H locs ls hl' hP hB)
  · exact va_ldcS hx hb hown r3 dg (K H locs ls hl' hP hB)
  · exact va_ldcS hx hb hown r4 dg (K H locs ls hl' hP hB)
theorem j_gsC (h : JR b cc RJ0 nL d mc ms ini Z J) (dg : decode cc pc = .ok (.getstatic 38, 3)) (hq : pc + 3 = q) (K : J q lvs (.int (nI 1) :: st) ws nc ns) : J pc lvs st ws nc ns := by
  obtain ⟨p, l, ev, R, s, m, args, below, meth, c, A, Q, hR, hx, hb, hml, hown, hts, hK, hA, hX, hin, rfl⟩ := h
  subst hq
  intro H locs ls hl' hP hB
  exact va_gets hx hb hX.2.2.2.1 hB.S hown (hts _ tm_361) (fun x h => h) dg (K H locs ls hl' hP hB)
theorem j_gsQ (h : JR b cc RJ0 nL d mc ms ini Z J) (dg : decode cc pc = .ok (.getstatic 1053, 3)) (hq : pc + 3 = q) (K0 : J q lvs (.null :: st) ws nc ns) (K1 : ∀ t : Nat, J q lvs (.ref t :: st) ws nc ns) : J pc lvs st ws nc ns := by
  obtain ⟨p, l, ev, R, s, m, args, below, meth, c, A, Q, hR, hx, hb, hml, hown, hts, hK, hA, hX, hin, rfl⟩ := h
  subst hq
  intro H locs ls hl' hP hB
  rcases hX.2.2.2.2.2 with hz | ⟨t, hz⟩
  · exact va_gets hx hb hz hB.S hown (hts _ tm_377) (fun x h => h) dg (K0 H locs ls hl' hP hB)
  · exact va_gets hx hb hz hB.S hown (hts _ tm_377) (fun x h => h) dg (K1 t H locs ls hl' hP hB)
theorem j_strV (h : JR b cc RJ0 nL d mc ms ini Z J) {i : Nat} (hi : i < 5) (dg : decode cc pc = .ok (.getfield 9, 3)) (hq : pc + 3 = q) (K : J q lvs (.ref (Z.2.2 (5 + i)) :: st) ws nc ns) : J pc lvs (.ref (Z.2.2 i) :: st) ws nc ns := by
  obtain ⟨p, l, ev, R, s, m, args, below, meth, c, A, Q, hR, hx, hb, hml, hown, hts, hK, hA, hX, hin, rfl⟩ := h
  subst hq
  intro H locs ls hl' hP hB
  exact vk_getf hx hb (hX.2.2.1.1 i hi).2.2.1 hB.S hown (hts _ tm_1189) (fun x h => h) dg (K H locs ls hl' hP hB)
theorem j_strC (h : JR b cc RJ0 nL d mc ms ini Z J) {i : Nat} (hi : i < 5) (dg : decode cc pc = .ok (.getfield 15, 3)) (hq : pc + 3 = q) (K : J q lvs (.int (nI 0) :: st) ws nc ns) : J pc lvs (.ref (Z.2.2 i) :: st) ws nc ns := by
  obtain ⟨p, l, ev, R, s, m, args, below, meth, c, A, Q, hR, hx, hb, hml, hown, hts, hK, hA, hX, hin, rfl⟩ := h
  subst hq
  intro H locs ls hl' hP hB
  exact vk_getf hx hb (hX.2.2.1.1 i hi).2.1 hB.S hown (hts _ tm_1190) (fun x h => h) dg (K H locs ls hl' hP hB)
theorem j_strL (h : JR b cc own nL d mc ms ini Z J) {i : Nat} (hi : i < 5) (dg : decode cc pc = .ok (.arraylength, 1)) (hq : pc + 1 = q) (K : J q lvs (.int (nI (jlen.getD i 0)) :: st) ws nc ns) : J pc lvs (.ref (Z.2.2 (5 + i)) :: st) ws nc ns := by
  obtain ⟨p, l, ev, R, s, m, args, below, meth, c, A, Q, hR, hx, hb, hml, hown, hts, hK, hA, hX, hin, rfl⟩ := h
  subst hq
  intro H locs ls hl' hP hB
  exact va_tlen hx hb (hX.2.2.1.1 i hi).2.2.2 hB.S rfl dg (K H locs ls hl' hP hB)
theorem j_strB (h : JR b cc own nL d mc ms ini Z J) {i k : Nat} (hi : i < 5) (hk : k < jlen.getD i 0) (dg : decode cc pc = .ok (.baload, 1)) (hq : pc + 1 = q) (K : J q lvs (.int (nI (chW i k)) :: st) ws nc ns) : J pc lvs (.int (nI k) :: .ref (Z.2.2 (5 + i)) :: st) ws nc ns := by
  obtain ⟨p, l, ev, R, s, m, args, below, meth, c, A, Q, hR, hx, hb, hml, hown, hts, hK, hA, hX, hin, rfl⟩ := h
  subst hq
  intro H locs ls hl' hP hB
  refine va_tb hx hb (hX.2.2.1.1 i hi).2.2.2 hB.S (vp_in_nI hk (jl_all i hi)) (v := .int (nI (chW i k))) ?_ dg (K H locs ls hl' hP hB)
  rw [nI_clamp (Nat.lt_trans hk (jl_all i hi)), (chW_all i hi k hk).1]
variable {index : Nat} {y : MethodName} {bytes : ByteArray} {maxL : Nat} {ret : Option FieldType} {d' mc' ms' : Nat} {As : List Value} {wc wr : va_W} {post : Option Value → va_W → Prop} {postR : Option Value → Prop} {a0 : Nat}
/-- a call of a method of a word -/
theorem j_strR (h : JR b cc own nL d mc ms ini Z J) {i : Nat} (hi : i < 5) (jc : JCv own index RJ0 y bytes maxL ret As.length) (cn : CR Z y bytes maxL ret d' (.ref (Z.2.2 i) :: As) wc postR) (dg : decode cc pc = .ok (.invokevirtual index, 3)) (hst : st = As.reverse ++ .ref (Z.2.2 i) :: rest) (hrm : d' + 1 ≤ d ∧ 19 + maxL + 48 * d' ≤ 48 * d ∧ nc ≤ mc ∧ ns ≤ ms) (hrest : (rest.map fun v => v.category).sum ≤ 8) (isC : List Nat) (hC : isC.map (fun i => ws[i]?) = wc.map some) (hq : pc + 3 = q) (K : ∀ r : Option Value, postR r → J q lvs (r.toList ++ rest) ws nc ns) : J pc lvs st ws nc ns := by
  obtain ⟨p, l, ev, R, s, m, args, below, meth, c, A, Q, hR, hx, hb, hml, hown, hts, hK, hA, hX, hin, rfl⟩ := h
  subst hq
  intro H locs ls hl' hP hB
  have hPc := jk_pick isC hC hP
  subst hst
  exact jk_afterR (W.runV (As := As) (rest := rest) ⟨hx, hb, hml, hown, hts⟩ (cn l) ⟨(jk_callB hts jc.1 ⟨hR.1, hR.2.2.2⟩ ⟨hrm.1, hrm.2.1⟩), hts _ jc.2.1, hts _ jc.2.2⟩ ⟨jk_blindR, vk_recv hX.2.2.1 hi hB.S, fun U hU hW => ⟨rfl, by rw [hU]; exact hPc, va_K.moved hW.alike hK, hX.go hB.S (fun _ h => h.elim) hU hW⟩⟩ rfl rfl hl'.1 rfl (lv_room hrest) dg ⟨by omega, by omega⟩) (fun r hp => K r hp H locs ls hl' hP hB)
/-- calls of private members of nest mates -/
theorem j_sWN (h : JR true cc own nL d mc ms ini Z J) (hm : (own, index, y) ∈ jn) (hi : Cond.initialized y.cls ∈ jg) (hco : Cond.code y bytes maxL ret ∈ jg) (hjm : y.cls ≠ "java/lang/invoke/MethodHandle" ∧ y.cls ≠ "java/lang/invoke/VarHandle" ∧ (parseMethodDescriptor y.desc).map (fun d => d.parameters.length) = some As.length) (hstat : Cond.static y ∈ jg) (cn : CT Z y bytes maxL ret d' mc' ms' As wc post) (dg : decode cc pc = .ok (.invokestatic index, 3)) (hst : st = As.reverse ++ rest) (hrm : d' + 1 ≤ d ∧ 19 + maxL + 48 * d' ≤ 48 * d ∧ nc + mc' ≤ mc ∧ ns + ms' ≤ ms) (hrest : (rest.map fun v => v.category).sum ≤ 8) (isC isR : List Nat) (hC : isC.map (fun i => ws[i]?) = wc.map some) (hRr : isR.map (fun i => ws[i]?) = wr.map some) (hn : va_nd isC = true) (hn2 : va_nd isR = true) (hdis : ∀ i ∈ isR, i ∉ isC) (hq : pc + 3 = q) (K : ∀ (r : Option Value) (ws' : va_W), post r ws' → J q lvs (r.toList ++ rest) (wr ++ ws') (nc + mc') (ns + ms')) : J pc lvs st ws nc ns := by
  obtain ⟨p, l, ev, R, s, m, args, below, meth, c, A, Q, hR, hx, hb, hml, hown, hts, hK, hA, hX, hin, rfl⟩ := h
  subst hq
  intro H locs ls hl' hP hB
  have hDc : va_D A wc := hB.1.sub isC hn hC
  have hPc := jk_pick isC hC hP
  have hFc := va_free hB.1 hB.2 (hA rfl) isC hC
  subst hst
  have cb : va_CN R s args own index y RX8 bytes maxL ret (.code y bytes maxL ret :: jg) (jr d' mc' ms') mc' ms' As.length := va_cnB As.length hts (jk_inc hco) rfl rfl rfl (hX.1 _ hm) (hts _ hi) hjm ⟨by show d' + 1 ≤ R.frames; omega, by show 8 + (maxL + 11) + 48 * d' ≤ R.locals; omega⟩
  refine jk_after (va_runSN (As := As) (rest := rest) ⟨hx, hb, hml, hown, hts⟩ (cn l H.size) ⟨cb, hts _ hstat, trivial⟩ ⟨jk_blind, fun U hU hW => ⟨rfl, by rw [hU], by rw [hU]; exact hPc, va_K.moved hW.alike hK, hDc.weaken (fun _ _ _ _ => trivial), hX.go hB.2 hFc hU hW⟩⟩ rfl rfl hl'.1 rfl (lv_room hrest) dg ⟨by omega, by omega⟩) hB.2 hFc hP hB.1 isC isR hC hRr hn2 hdis (fun r ws' H1 locs1 hp hP1 hD1 hS1 => K r ws' hp H1 locs1 ls hl' hP1 ⟨hD1, hS1⟩)
theorem j_iWN (h : JR true cc own nL d mc ms ini Z J) (hm : (own, index, y) ∈ jn) (hi : Cond.initialized y.cls ∈ jg) (hco : Cond.code y bytes maxL none ∈ jg) (hjm : y.cls ≠ "java/lang/invoke/MethodHandle" ∧ y.cls ≠ "java/lang/invoke/VarHandle" ∧ (parseMethodDescriptor y.desc).map (fun d => d.parameters.length) = some As.length) (hinst : Cond.instanceMethod y ∈ jg) (hname : y.name = "<init>") (cn : CT Z y bytes maxL none d' mc' ms' (.ref a0 :: As) wc post) (dg : decode cc pc = .ok (.invokespecial index, 3)) (hst : st = As.reverse ++ .ref a0 :: rest) (hrm : d' + 1 ≤ d ∧ 19 + maxL + 48 * d' ≤ 48 * d ∧ nc + mc' ≤ mc ∧ ns + ms' ≤ ms) (hrest : (rest.map fun v => v.category).sum ≤ 8) (isC isR : List Nat) (hC : isC.map (fun i => ws[i]?) = wc.map some) (hRr : isR.map (fun i => ws[i]?) = wr.map some) (hn : va_nd isC = true) (hn2 : va_nd isR = true) (hdis : ∀ i ∈ isR, i ∉ isC) (hq : pc + 3 = q) (K : ∀ (r : Option Value) (ws' : va_W), post r ws' → J q lvs (r.toList ++ rest) (wr ++ ws') (nc + mc') (ns + ms')) : J pc lvs st ws nc ns := by
  obtain ⟨p, l, ev, R, s, m, args, below, meth, c, A, Q, hR, hx, hb, hml, hown, hts, hK, hA, hX, hin, rfl⟩ := h
  subst hq
  intro H locs ls hl' hP hB
  have hDc : va_D A wc := hB.1.sub isC hn hC
  have hPc := jk_pick isC hC hP
  have hFc := va_free hB.1 hB.2 (hA rfl) isC hC
  subst hst
  have cb : va_CN R s args own index y RX8 bytes maxL none (.code y bytes maxL none :: jg) (jr d' mc' ms') mc' ms' As.length := va_cnB As.length hts (jk_inc hco) rfl rfl rfl (hX.1 _ hm) (hts _ hi) hjm ⟨by show d' + 1 ≤ R.frames; omega, by show 8 + (maxL + 11) + 48 * d' ≤ R.locals; omega⟩
  refine jk_after (va_runIN (As := As) (rest := rest) ⟨hx, hb, hml, hown, hts⟩ (cn l H.size) ⟨cb, hname, hts _ hinst⟩ ⟨jk_blind, fun U hU hW => ⟨rfl, by rw [hU], by rw [hU]; exact hPc, va_K.moved hW.alike hK, hDc.weaken (fun _ _ _ _ => trivial), hX.go hB.2 hFc hU hW⟩⟩ rfl rfl hl'.1 rfl (lv_room hrest) dg ⟨by omega, by omega⟩) hB.2 hFc hP hB.1 isC isR hC hRr hn2 hdis (fun r ws' H1 locs1 hp hP1 hD1 hS1 => K r ws' hp H1 locs1 ls hl' hP1 ⟨hD1, hS1⟩)
end JStr
theorem nI_i2b {c : Nat} (h : c < 128) : (nI c).toInt8.toInt32 = nI c := by
  apply Int32.toInt_inj.mp
  rw [Int8.toInt_toInt32, Int32.toInt_toInt8, nI_toI (by omega)]
  first
    | exact Int.bmod_eq_of_le (by omega) (by omega)
    | (rw [Int.bmod_def]; omega)
