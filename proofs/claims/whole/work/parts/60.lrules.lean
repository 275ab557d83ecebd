/-! the law: calls beside a part of the world that has no fixed shape (the images) -/
theorem jk_afterF {p : Program} {l : Launch} {e : Env} {R : Room} {s : State} {m : MethodId} {args : Array Value} {below : List Frame} {meth : Method} {c : Code} {H : Heap} {locs : List Loc} {cells slots : Nat} {Q : State → Prop} {Z : jZ} {A : Nat → Prop} {mc ms pc : Nat} {ls : Array Slot} {st0 rest : List Value} {X F wc wr : va_W} {post : Option Value → va_W → Prop} {a : Array Value}
    (hr : va_Run p l e R s m args below meth c H locs cells slots mc ms (F0 m pc ls st0) rest (jQ Z post (va_A wc H.size) a) (va_A wc H.size)) (hS : va_S A s.heap H locs) (hF : ∀ q, va_A wc H.size q → A q) (hP : va_P Z.1 vwCl (X ++ F) H) (hD : va_D A (X ++ F)) (isC isR : List Nat) (hC : isC.map (fun i => X[i]?) = wc.map some) (hR : isR.map (fun i => X[i]?) = wr.map some) (hn : va_nd isR = true) (hdis : ∀ i ∈ isR, i ∉ isC)
    (kk : ∀ (r : Option Value) (ws' : va_W) (H1 : Heap) (locs1 : List Loc), post r ws' → va_P Z.1 vwCl ((wr ++ ws') ++ F) H1 → va_D A ((wr ++ ws') ++ F) → va_S A s.heap H1 locs1 → W p l e R s m args below meth c H1 locs1 (cells + mc) (slots + ms) Q (F0 m (pc + 3) ls (r.toList ++ rest))) : W p l e R s m args below meth c H locs cells slots Q (F0 m pc ls st0) := by
  intro T hT X0
  obtain ⟨v, st₀, t, T', L, h0, X', hL, e1, e2, ⟨⟨r, ws', hv, hp, hP1, hD1⟩, hz, hk⟩, st⟩ := hr T hT X0
  cases hv
  rw [h0] at hz hk
  have hP1' : va_P Z.1 vwCl ws' T'.heap := by rw [e1]; exact hP1
  have hk' : ∀ q : Nat, q < H.size → ¬ va_A wc H.size q → T'.heap[q]? = H[q]? := fun q h1 h2 => by rw [e1]; exact hk q h1 h2
  obtain ⟨hPj, hDj⟩ := va_joinQ (wr := wr) (w1 := ws') hP hD isC isR hC hR hn hdis hk' hF hP1' hD1
  obtain ⟨t2, a1, b1⟩ := kk v ws' T'.heap (locs ++ L) hp hPj hDj
    ⟨Nat.le_trans hS.1 (by rw [e1]; exact hz), fun q h1 h2 => by rw [hk' q (Nat.lt_of_lt_of_le h1 hS.1) (fun z => h2 (hF q z))]; exact hS.2.1 q h1 h2, fun q hq => by
      rcases List.mem_append.mp hq with h | h
      · exact hS.2.2 q h
      · exact hF _ (hL q h)⟩ T' rfl X'
  exact ⟨t2, st t2 a1, b1⟩
section JLaw
variable {b : Bool} {cc : ByteArray} {own : String} {nL d mc ms : Nat} {ini : Bool} {Z : jZ} {J : JT} {pc q : Nat} {lvs : List (Nat × Value)} {st : List Value} {X F : va_W} {nc ns : Nat}
variable {index : Nat} {y : MethodName} {bytes : ByteArray} {maxL : Nat} {ret : Option FieldType} {d' mc' ms' : Nat} {As rest : List Value} {wc wr cx : va_W} {post : Option Value → va_W → Prop} {a0 ci : Nat} {fs : List Value} {C : String} {T : u_T} {N : Nat}
theorem j_vWF (h : JR true cc own nL d mc ms ini Z J) (jc : JCv own index C y bytes maxL ret As.length) (cn : CT Z y bytes maxL ret d' mc' ms' (.ref a0 :: As) wc post) (q0 : Nat) (he : (X ++ F)[q0]? = some (a0, .inr (ci, fs))) (hc : vwCl[ci]? = some (C, T, N)) (dg : decode cc pc = .ok (.invokevirtual index, 3)) (hst : st = As.reverse ++ .ref a0 :: rest) (hrm : d' + 1 ≤ d ∧ 19 + maxL + 48 * d' ≤ 48 * d ∧ nc + mc' ≤ mc ∧ ns + ms' ≤ ms) (hrest : (rest.map fun v => v.category).sum ≤ 8) (isC isR : List Nat) (hC : isC.map (fun i => X[i]?) = wc.map some) (hC2 : isC.map (fun i => (X ++ F)[i]?) = wc.map some) (hRr : isR.map (fun i => X[i]?) = wr.map some) (hn : va_nd isC = true) (hn2 : va_nd isR = true) (hdis : ∀ i ∈ isR, i ∉ isC) (hq : pc + 3 = q) (K : ∀ (r : Option Value) (ws' : va_W), post r ws' → J q lvs (r.toList ++ rest) ((wr ++ ws') ++ F) (nc + mc') (ns + ms')) : J pc lvs st (X ++ F) nc ns := by
  obtain ⟨p, l, ev, R, s, m, args, below, meth, c, A, Q, hR, hx, hb, hml, hown, hts, hK, hA, hX, hin, rfl⟩ := h
  subst hq
  intro H locs ls hl' hP hB
  have hDc : va_D A wc := hB.1.sub isC hn hC2
  have hPc := jk_pick isC hC2 hP
  have hFc := va_free hB.1 hB.2 (hA rfl) isC hC2
  subst hst
  refine jk_afterF (va_runV (As := As) (rest := rest) ⟨hx, hb, hml, hown, hts⟩ (cn l H.size) ⟨(jk_callB hts jc.1 ⟨hR.1, hR.2.2.2⟩ ⟨hrm.1, hrm.2.1⟩), hts _ jc.2.1, hts _ jc.2.2⟩ ⟨jk_blind, va_recv hK hP hc he, fun U hU hW => ⟨rfl, by rw [hU], by rw [hU]; exact hPc, va_K.moved hW.alike hK, hDc.weaken (fun _ _ _ _ => trivial), hX.go hB.2 hFc hU hW⟩⟩ rfl rfl hl'.1 rfl (lv_room hrest) dg ⟨by omega, by omega⟩) hB.2 hFc hP hB.1 isC isR hC hRr hn2 hdis (fun r ws' H1 locs1 hp hP1 hD1 hS1 => K r ws' hp H1 locs1 ls hl' hP1 ⟨hD1, hS1⟩)
theorem j_worldF (h : JR b cc own nL d mc ms ini Z J) (is : List Nat) (hs : is.map (fun i => X[i]?) = cx.map some) (hn : va_nd is = true) (K : J pc lvs st (cx ++ F) nc ns) : J pc lvs st (X ++ F) nc ns := by
  obtain ⟨p, l, ev, R, s, m, args, below, meth, c, A, Q, hR, hx, hb, hml, hown, hts, hK, hA, hX, hin, rfl⟩ := h
  intro H locs ls hl' hP hB
  refine K H locs ls hl' (hP.part is hs) ?_
  cases b with
  | true => exact ⟨hB.1.part is hn hs, hB.2⟩
  | false => exact hB
/-- two parts change places -/
theorem j_swapF (h : JR true cc own nL d mc ms ini Z J) {I1 I2 : va_W} (K : J pc lvs st (X ++ (I2 ++ I1)) nc ns) : J pc lvs st (X ++ (I1 ++ I2)) nc ns := by
  obtain ⟨p, l, ev, R, s, m, args, below, meth, c, A, Q, hR, hx, hb, hml, hown, hts, hK, hA, hX, hin, rfl⟩ := h
  intro H locs ls hl' hP hB
  have e1 : X ++ (I1 ++ I2) = (X ++ I1) ++ I2 := (List.append_assoc X I1 I2).symm
  have e2 : X ++ (I2 ++ I1) = (X ++ I2) ++ I1 := (List.append_assoc X I2 I1).symm
  rw [e1] at hP hB
  refine K H locs ls hl' ?_ ⟨?_, hB.2⟩
  · rw [e2]; exact hP.swap
  · rw [e2]; exact hB.1.swap
end JLaw
theorem lg_cmp_self (x : Int64) : lg_cmp x x = nI 0 := by
  unfold lg_cmp
  rw [if_neg (show ¬ x > x from Int64.lt_irrefl), if_pos rfl]
  exact nI_0.symm
/-- the script: what the law reads of it -/
def JS (J : JT) (b L : Nat) (xs : Nat → Int32) : Prop := (∀ (pc q : Nat) (lvs : List (Nat × Value)) (st : List Value) (ws : va_W) (nc ns j : Nat), decode cL_law pc = .ok (.iaload, 1) → j < L → pc + 1 = q → J q lvs (.int (xs j) :: st) ws nc ns → J pc lvs (.int (nI j) :: .ref b :: st) ws nc ns) ∧
  (∀ (pc q : Nat) (lvs : List (Nat × Value)) (st : List Value) (ws : va_W) (nc ns : Nat), decode cL_law pc = .ok (.arraylength, 1) → pc + 1 = q → J q lvs (.int (nI L) :: st) ws nc ns → J pc lvs (.ref b :: st) ws nc ns)
abbrev JLR (Z : jZ) (J : JT) : Prop := JR true cL_law RL 4 20 600000 7302250 false Z J
theorem l_type_le {L : Nat} (h : L ≤ 150) (a : Int32) : l_type L a ≤ 150 := by
  unfold l_type
  (repeat' split) <;> omega
theorem b_type_lt {By : Nat → Nat} (h : ∀ j, By j < 128) (L : Nat) (a : Int32) : ∀ j, b_type By L a j < 128 := by
  intro j
  have hj := h j
  unfold b_type
  split
  · rename_i hc
    have c1 := nt_cast (x := a) hc.1
    have c2 := hc.2
    split
    · exact hj
    · simp only [va_up]; split <;> omega
  · exact hj
