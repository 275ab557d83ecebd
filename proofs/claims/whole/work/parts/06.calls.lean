
theorem jk_pick {Z : jZ} {ws wc : va_W} {H : Heap} (is : List Nat) (hs : is.map (fun i => ws[i]?) = wc.map some) (hP : va_P Z.1 vwCl ws H) : va_P Z.1 vwCl wc H := by
  intro k q hk
  have h1 : (is.map (fun i => ws[i]?))[k]? = some (some q) := by rw [hs, List.getElem?_map, hk]; rfl
  rw [List.getElem?_map] at h1
  cases hi : is[k]? with
  | none => rw [hi] at h1; cases h1
  | some i => rw [hi] at h1; exact hP i q (Option.some.inj h1)
theorem jk_after {p : Program} {l : Launch} {e : Env} {R : Room} {s : State} {m : MethodId} {args : Array Value} {below : List Frame} {meth : Method} {c : Code} {H : Heap} {locs : List Loc} {cells slots : Nat} {Q : State → Prop} {Z : jZ} {A : Nat → Prop} {mc ms pc : Nat} {ls : Array Slot} {st0 rest : List Value} {ws wc wr : va_W} {post : Option Value → va_W → Prop} {a : Array Value}
    (hr : va_Run p l e R s m args below meth c H locs cells slots mc ms (F0 m pc ls st0) rest (jQ Z post (va_A wc H.size) a) (va_A wc H.size)) (hS : va_S A s.heap H locs) (hF : ∀ q, va_A wc H.size q → A q) (hP : va_P Z.1 vwCl ws H) (hD : va_D A ws) (isC isR : List Nat) (hC : isC.map (fun i => ws[i]?) = wc.map some) (hR : isR.map (fun i => ws[i]?) = wr.map some) (hn : va_nd isR = true) (hdis : ∀ i ∈ isR, i ∉ isC)
    (kk : ∀ (r : Option Value) (ws' : va_W) (H1 : Heap) (locs1 : List Loc), post r ws' → va_P Z.1 vwCl (wr ++ ws') H1 → va_D A (wr ++ ws') → va_S A s.heap H1 locs1 → W p l e R s m args below meth c H1 locs1 (cells + mc) (slots + ms) Q (F0 m (pc + 3) ls (r.toList ++ rest))) : W p l e R s m args below meth c H locs cells slots Q (F0 m pc ls st0) := by
  intro T hT X
  obtain ⟨v, st₀, t, T', L, h0, X', hL, e1, e2, ⟨⟨r, ws', hv, hp, hP1, hD1⟩, hz, hk⟩, st⟩ := hr T hT X
  cases hv
  rw [h0] at hz hk
  have hP1' : va_P Z.1 vwCl ws' T'.heap := by rw [e1]; exact hP1
  have hk' : ∀ q : Nat, q < H.size → ¬ va_A wc H.size q → T'.heap[q]? = H[q]? := fun q h1 h2 => by rw [e1]; exact hk q h1 h2
  obtain ⟨hPj, hDj⟩ := va_join (wr := wr) (w1 := ws') hP hD isC isR hC hR hn hdis hk' hF hP1' hD1
  obtain ⟨t2, a1, b1⟩ := kk v ws' T'.heap (locs ++ L) hp hPj hDj
    ⟨Nat.le_trans hS.1 (by rw [e1]; exact hz), fun q h1 h2 => by rw [hk' q (Nat.lt_of_lt_of_le h1 hS.1) (fun z => h2 (hF q z))]; exact hS.2.1 q h1 h2, fun q hq => by
      rcases List.mem_append.mp hq with h | h
      · exact hS.2.2 q h
      · exact hF _ (hL q h)⟩ T' rfl X'
  exact ⟨t2, st t2 a1, b1⟩
theorem jk_afterR {p : Program} {l : Launch} {e : Env} {R : Room} {s : State} {m : MethodId} {args : Array Value} {below : List Frame} {meth : Method} {c : Code} {H : Heap} {locs : List Loc} {cells slots : Nat} {Q : State → Prop} {pc : Nat} {ls : Array Slot} {st0 rest : List Value} {post : Option Value → Prop} {a : Array Value}
    (hr : CallRun p l e R s m args below meth c H locs cells slots 0 0 (F0 m pc ls st0) rest (jQR post a) (fun _ => False))
    (kk : ∀ r : Option Value, post r → W p l e R s m args below meth c H locs cells slots Q (F0 m (pc + 3) ls (r.toList ++ rest))) : W p l e R s m args below meth c H locs cells slots Q (F0 m pc ls st0) := by
  intro T hT X
  obtain ⟨v, st₀, t, T', L, h0, X', hL, e1, ⟨⟨r, hv, hp⟩, hh⟩, st⟩ := hr T hT X
  cases hv
  obtain ⟨t2, a1, b1⟩ := kk v hp T' (by rw [e1, hh, h0]) (Stand.forget X' (fun q h => (hL q h).elim))
  exact ⟨t2, st t2 a1, b1⟩
theorem jk_callB {R : Room} {s : State} {args : Array Value} {own : String} {index : Nat} {y : MethodName} {bytes : ByteArray} {maxL : Nat} {ret : Option FieldType} {n d d' mc ms : Nat} (hts : ∀ w ∈ jg, w.before args s = true) (jc : JC own index y bytes maxL ret n) (hR : d ≤ R.frames ∧ 48 * d ≤ R.locals) (hr : d' + 1 ≤ d ∧ 19 + maxL + 48 * d' ≤ 48 * d) :
    CallB R s args own index y bytes maxL ret (.code y bytes maxL ret :: jg) (jr d' mc ms) mc ms n :=
  callB_of n hts (jk_inc jc.2.2.1) rfl rfl rfl (hts _ jc.2.1) (hts _ jc.1) jc.2.2.2 ⟨by show d' + 1 ≤ R.frames; omega, by show 8 + (maxL + 11) + 48 * d' ≤ R.locals; omega⟩
theorem jk_blind {Z : jZ} {As : List Value} {wc : va_W} {sz : Nat} : FrameBlind (va_Pc As (fun U => U.heap.size = sz ∧ va_P Z.1 vwCl wc U.heap ∧ va_K Z.1 vwCl (jy Z.2.1) U ∧ va_D (fun _ => True) wc ∧ jX Z.2.2 (va_A wc sz) U)) :=
  fun a U g mk q => by obtain ⟨q0, q1, qP, qK, qD, qX⟩ := q; exact ⟨q0, q1, qP, va_K.moved (u := U) (U := U.calling g mk a) (Vm.Alike.refl U.vm) qK, qD, qX.calling⟩
theorem jk_blindR {Z : jZ} {As : List Value} {wc : va_W} : FrameBlind (va_Pc As (fun U => va_P Z.1 vwCl wc U.heap ∧ va_K Z.1 vwCl (jy Z.2.1) U ∧ jX Z.2.2 (fun _ => False) U)) :=
  fun a U g mk q => by obtain ⟨q0, qP, qK, qX⟩ := q; exact ⟨q0, qP, va_K.moved (u := U) (U := U.calling g mk a) (Vm.Alike.refl U.vm) qK, qX.calling⟩
section JCalls
variable {b : Bool} {cc : ByteArray} {own : String} {nL d mc ms : Nat} {ini : Bool} {Z : jZ} {J : JT} {pc q : Nat} {lvs : List (Nat × Value)} {st : List Value} {ws : va_W} {nc ns : Nat}
variable {index : Nat} {y : MethodName} {bytes : ByteArray} {maxL : Nat} {ret : Option FieldType} {d' mc' ms' : Nat} {As rest : List Value} {wc wr : va_W} {post : Option Value → va_W → Prop} {postR : Option Value → Prop} {a0 ci : Nat} {fs : List Value} {C : String} {T : u_T} {N : Nat}

theorem j_sW (h : JR true cc own nL d mc ms ini Z J) (jc : JCs own index y bytes maxL ret As.length) (cn : CT Z y bytes maxL ret d' mc' ms' As wc post) (dg : decode cc pc = .ok (.invokestatic index, 3)) (hst : st = As.reverse ++ rest) (hrm : d' + 1 ≤ d ∧ 19 + maxL + 48 * d' ≤ 48 * d ∧ nc + mc' ≤ mc ∧ ns + ms' ≤ ms) (hrest : (rest.map fun v => v.category).sum ≤ 8) (isC isR : List Nat) (hC : isC.map (fun i => ws[i]?) = wc.map some) (hRr : isR.map (fun i => ws[i]?) = wr.map some) (hn : va_nd isC = true) (hn2 : va_nd isR = true) (hdis : ∀ i ∈ isR, i ∉ isC) (hq : pc + 3 = q) (K : ∀ (r : Option Value) (ws' : va_W), post r ws' → J q lvs (r.toList ++ rest) (wr ++ ws') (nc + mc') (ns + ms')) : J pc lvs st ws nc ns := by
  obtain ⟨p, l, ev, R, s, m, args, below, meth, c, A, Q, hR, hx, hb, hml, hown, hts, hK, hA, hX, hin, rfl⟩ := h
  subst hq
  intro H locs ls hl' hP hB
  have hDc : va_D A wc := hB.1.sub isC hn hC
  have hPc := jk_pick isC hC hP
  have hFc := va_free hB.1 hB.2 (hA rfl) isC hC
  subst hst
  refine jk_after (va_runS (As := As) (rest := rest) ⟨hx, hb, hml, hown, hts⟩ (cn l H.size) ⟨(jk_callB hts jc.1 ⟨hR.1, hR.2.2.2⟩ ⟨hrm.1, hrm.2.1⟩), hts _ jc.2⟩ ⟨jk_blind, fun U hU hW => ⟨rfl, by rw [hU], by rw [hU]; exact hPc, va_K.moved hW.alike hK, hDc.weaken (fun _ _ _ _ => trivial), hX.go hB.2 hFc hU hW⟩⟩ rfl rfl hl'.1 rfl (lv_room hrest) dg ⟨by omega, by omega⟩) hB.2 hFc hP hB.1 isC isR hC hRr hn2 hdis (fun r ws' H1 locs1 hp hP1 hD1 hS1 => K r ws' hp H1 locs1 ls hl' hP1 ⟨hD1, hS1⟩)
theorem j_vW (h : JR true cc own nL d mc ms ini Z J) (jc : JCv own index C y bytes maxL ret As.length) (cn : CT Z y bytes maxL ret d' mc' ms' (.ref a0 :: As) wc post) (q0 : Nat) (he : ws[q0]? = some (a0, .inr (ci, fs))) (hc : vwCl[ci]? = some (C, T, N)) (dg : decode cc pc = .ok (.invokevirtual index, 3)) (hst : st = As.reverse ++ .ref a0 :: rest) (hrm : d' + 1 ≤ d ∧ 19 + maxL + 48 * d' ≤ 48 * d ∧ nc + mc' ≤ mc ∧ ns + ms' ≤ ms) (hrest : (rest.map fun v => v.category).sum ≤ 8) (isC isR : List Nat) (hC : isC.map (fun i => ws[i]?) = wc.map some) (hRr : isR.map (fun i => ws[i]?) = wr.map some) (hn : va_nd isC = true) (hn2 : va_nd isR = true) (hdis : ∀ i ∈ isR, i ∉ isC) (hq : pc + 3 = q) (K : ∀ (r : Option Value) (ws' : va_W), post r ws' → J q lvs (r.toList ++ rest) (wr ++ ws') (nc + mc') (ns + ms')) : J pc lvs st ws nc ns := by
  obtain ⟨p, l, ev, R, s, m, args, below, meth, c, A, Q, hR, hx, hb, hml, hown, hts, hK, hA, hX, hin, rfl⟩ := h
  subst hq
  intro H locs ls hl' hP hB
  have hDc : va_D A wc := hB.1.sub isC hn hC
  have hPc := jk_pick isC hC hP
  have hFc := va_free hB.1 hB.2 (hA rfl) isC hC
  subst hst
  refine jk_after (va_runV (As := As) (rest := rest) ⟨hx, hb, hml, hown, hts⟩ (cn l H.size) ⟨(jk_callB hts jc.1 ⟨hR.1, hR.2.2.2⟩ ⟨hrm.1, hrm.2.1⟩), hts _ jc.2.1, hts _ jc.2.2⟩ ⟨jk_blind, va_recv hK hP hc he, fun U hU hW => ⟨rfl, by rw [hU], by rw [hU]; exact hPc, va_K.moved hW.alike hK, hDc.weaken (fun _ _ _ _ => trivial), hX.go hB.2 hFc hU hW⟩⟩ rfl rfl hl'.1 rfl (lv_room hrest) dg ⟨by omega, by omega⟩) hB.2 hFc hP hB.1 isC isR hC hRr hn2 hdis (fun r ws' H1 locs1 hp hP1 hD1 hS1 => K r ws' hp H1 locs1 ls hl' hP1 ⟨hD1, hS1⟩)
theorem j_iW (h : JR true cc own nL d mc ms ini Z J) (jc : JCi own index y bytes maxL As.length) (cn : CT Z y bytes maxL none d' mc' ms' (.ref a0 :: As) wc post) (dg : decode cc pc = .ok (.invokespecial index, 3)) (hst : st = As.reverse ++ .ref a0 :: rest) (hrm : d' + 1 ≤ d ∧ 19 + maxL + 48 * d' ≤ 48 * d ∧ nc + mc' ≤ mc ∧ ns + ms' ≤ ms) (hrest : (rest.map fun v => v.category).sum ≤ 8) (isC isR : List Nat) (hC : isC.map (fun i => ws[i]?) = wc.map some) (hRr : isR.map (fun i => ws[i]?) = wr.map some) (hn : va_nd isC = true) (hn2 : va_nd isR = true) (hdis : ∀ i ∈ isR, i ∉ isC) (hq : pc + 3 = q) (K : ∀ (r : Option Value) (ws' : va_W), post r ws' → J q lvs (r.toList ++ rest) (wr ++ ws') (nc + mc') (ns + ms')) : J pc lvs st ws nc ns := by
  obtain ⟨p, l, ev, R, s, m, args, below, meth, c, A, Q, hR, hx, hb, hml, hown, hts, hK, hA, hX, hin, rfl⟩ := h
  subst hq
  intro H locs ls hl' hP hB
  have hDc : va_D A wc := hB.1.sub isC hn hC
  have hPc := jk_pick isC hC hP
  have hFc := va_free hB.1 hB.2 (hA rfl) isC hC
  subst hst
  refine jk_after (va_runI (As := As) (rest := rest) ⟨hx, hb, hml, hown, hts⟩ (cn l H.size) ⟨(jk_callB hts jc.1 ⟨hR.1, hR.2.2.2⟩ ⟨hrm.1, hrm.2.1⟩), jc.2.2, hts _ jc.2.1⟩ ⟨jk_blind, fun U hU hW => ⟨rfl, by rw [hU], by rw [hU]; exact hPc, va_K.moved hW.alike hK, hDc.weaken (fun _ _ _ _ => trivial), hX.go hB.2 hFc hU hW⟩⟩ rfl rfl hl'.1 rfl (lv_room hrest) dg ⟨by omega, by omega⟩) hB.2 hFc hP hB.1 isC isR hC hRr hn2 hdis (fun r ws' H1 locs1 hp hP1 hD1 hS1 => K r ws' hp H1 locs1 ls hl' hP1 ⟨hD1, hS1⟩)
theorem j_sR (h : JR b cc own nL d mc ms ini Z J) (jc : JCs own index y bytes maxL ret As.length) (cn : CR Z y bytes maxL ret d' As wc postR) (dg : decode cc pc = .ok (.invokestatic index, 3)) (hst : st = As.reverse ++ rest) (hrm : d' + 1 ≤ d ∧ 19 + maxL + 48 * d' ≤ 48 * d ∧ nc ≤ mc ∧ ns ≤ ms) (hrest : (rest.map fun v => v.category).sum ≤ 8) (isC : List Nat) (hC : isC.map (fun i => ws[i]?) = wc.map some) (hq : pc + 3 = q) (K : ∀ r : Option Value, postR r → J q lvs (r.toList ++ rest) ws nc ns) : J pc lvs st ws nc ns := by
  obtain ⟨p, l, ev, R, s, m, args, below, meth, c, A, Q, hR, hx, hb, hml, hown, hts, hK, hA, hX, hin, rfl⟩ := h
  subst hq
  intro H locs ls hl' hP hB
  have hPc := jk_pick isC hC hP
  subst hst
  exact jk_afterR (W.runS (As := As) (rest := rest) ⟨hx, hb, hml, hown, hts⟩ (cn l) ⟨(jk_callB hts jc.1 ⟨hR.1, hR.2.2.2⟩ ⟨hrm.1, hrm.2.1⟩), hts _ jc.2⟩ ⟨jk_blindR, fun U hU hW => ⟨rfl, by rw [hU]; exact hPc, va_K.moved hW.alike hK, hX.go hB.S (fun _ h => h.elim) hU hW⟩⟩ rfl rfl hl'.1 rfl (lv_room hrest) dg ⟨by omega, by omega⟩) (fun r hp => K r hp H locs ls hl' hP hB)
theorem j_vR (h : JR b cc own nL d mc ms ini Z J) (jc : JCv own index C y bytes maxL ret As.length) (cn : CR Z y bytes maxL ret d' (.ref a0 :: As) wc postR) (q0 : Nat) (he : ws[q0]? = some (a0, .inr (ci, fs))) (hc : vwCl[ci]? = some (C, T, N)) (dg : decode cc pc = .ok (.invokevirtual index, 3)) (hst : st = As.reverse ++ .ref a0 :: rest) (hrm : d' + 1 ≤ d ∧ 19 + maxL + 48 * d' ≤ 48 * d ∧ nc ≤ mc ∧ ns ≤ ms) (hrest : (rest.map fun v => v.category).sum ≤ 8) (isC : List Nat) (hC : isC.map (fun i => ws[i]?) = wc.map some) (hq : pc + 3 = q) (K : ∀ r : Option Value, postR r → J q lvs (r.toList ++ rest) ws nc ns) : J pc lvs st ws nc ns := by
  obtain ⟨p, l, ev, R, s, m, args, below, meth, c, A, Q, hR, hx, hb, hml, hown, hts, hK, hA, hX, hin, rfl⟩ := h
  subst hq
  intro H locs ls hl' hP hB
  have hPc := jk_pick isC hC hP
  subst hst
  exact jk_afterR (W.runV (As := As) (rest := rest) ⟨hx, hb, hml, hown, hts⟩ (cn l) ⟨(jk_callB hts jc.1 ⟨hR.1, hR.2.2.2⟩ ⟨hrm.1, hrm.2.1⟩), hts _ jc.2.1, hts _ jc.2.2⟩ ⟨jk_blindR, va_recv hK hP hc he, fun U hU hW => ⟨rfl, by rw [hU]; exact hPc, va_K.moved hW.alike hK, hX.go hB.S (fun _ h => h.elim) hU hW⟩⟩ rfl rfl hl'.1 rfl (lv_room hrest) dg ⟨by omega, by omega⟩) (fun r hp => K r hp H locs ls hl' hP hB)
end JCalls
