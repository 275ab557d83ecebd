
/-- the room of a tree of calls of depth d, making mc cells of ms slots -/
def jr (d mc ms : Nat) : Room := { frames := d, cells := mc, slots := ms, locals := 48 * d }
/-- the array types: their numbers by Y -/
abbrev jZ : Type := va_G × (Nat → ClassId) × (Nat → Nat)
def jy (Y : Nat → ClassId) : List (ClassId × FieldType) := [(Y 0, .int), (Y 1, .byte), (Y 2, .boolean), (Y 3, .object RX6)]
/-- private members of nest mates that are called -/
def jn : List (String × Nat × MethodName) := [(RX8, 9, yX6_init), (RX6, 20, yX3_init), (RX8, 22, yX7_init), (RX8, 43, yX2_init), (RX7, 109, yX8_within)]
def jlen : List Nat := [5, 5, 5, 4, 2]
def jbyt : List (List Int32) := [[114, 111, 117, 110, 100], [104, 111, 114, 115, 101], [114, 105, 100, 101, 114], [114, 105, 110, 103], [103, 111]]
/-- what stands outside: private members of nest mates, the five words, a static of String, the class of rows of states -/
def jX (g : Nat → Nat) (A : Nat → Prop) (U : State) : Prop := (∀ q ∈ jn, va_Nw (.methodLinkNest q.1 q.2.1 q.2.2 RX8) U) ∧
  (vk_R RX7 53 "round" (g 0) U ∧ vk_R RX7 59 "horse" (g 1) U ∧ vk_R RX7 61 "rider" (g 2) U ∧ vk_R RX7 63 "ring" (g 3) U ∧ vk_R RX7 65 "go" (g 4) U) ∧
  vk_S 5 jlen jbyt g (fun i => g (5 + i)) A U U.heap ∧ va_Z RJ0 "COMPACT_STRINGS" "Z" (.int 1) A U U.heap ∧ va_AO RX6 U ∧ va_Zq RJ3 "SIOOBE_FORMATTER" "Ljava/util/function/BiFunction;" A U U.heap
theorem jX.go {g : Nat → Nat} {A B : Nat → Prop} {s U : State} {H : Heap} {locs : List Loc} (h : jX g A s) (hS : va_S A s.heap H locs) (hAB : ∀ q, B q → A q) (hU : U.heap = H) (hW : s.WarmedH U.vm) : jX g B U := by
  obtain ⟨h1, ⟨a, b, c, d, e⟩, h3, h4, h5, h6⟩ := h
  refine ⟨fun q hq => (h1 q hq).warmM hW, ⟨a.warm hW, b.warm hW, c.warm hW, d.warm hW, e.warm hW⟩, ?_, ?_, h5.moved hW.alike, ?_⟩
  · rw [hU]; exact ((h3.kept (fun q h1 h2 => hS.2.1 q h1 h2)).narrow hAB).moved hW.alike
  · rw [hU]; exact ((h4.kept (fun q h1 h2 => hS.2.1 q h1 h2)).narrow hAB).moved hW.alike
  · rw [hU]; exact ((h6.kept (fun q h1 h2 => hS.2.1 q h1 h2)).narrow hAB).moved hW.alike
theorem jX.calling {g : Nat → Nat} {A : Nat → Prop} {U : State} {f : JFrame} {mk : MethodId} {a : Array Value} (h : jX g A U) : jX g A (U.calling f mk a) := by
  obtain ⟨h1, ⟨a1, b1, c1, d1, e1⟩, h3, h4, h5, h6⟩ := h
  exact ⟨fun q hq => (h1 q hq).same rfl rfl, ⟨a1.same rfl, b1.same rfl, c1.same rfl, d1.same rfl, e1.same rfl⟩, h3.moved (Vm.Alike.refl U.vm), h4.moved (Vm.Alike.refl U.vm), h5.moved (Vm.Alike.refl U.vm), h6.moved (Vm.Alike.refl U.vm)⟩
def jB (b : Bool) (A : Nat → Prop) (s : State) (ws : va_W) (H : Heap) (locs : List Loc) : Prop := match b with
  | true => va_D A ws ∧ va_S A s.heap H locs
  | false => H = s.heap ∧ locs = []
theorem jB.S {b : Bool} {A : Nat → Prop} {s : State} {ws : va_W} {H : Heap} {locs : List Loc} (h : jB b A s ws H locs) : va_S A s.heap H locs := by
  cases b with
  | true => exact h.2
  | false => obtain ⟨rfl, rfl⟩ := h; exact va_S.rf
abbrev JT : Type := Nat → List (Nat × Value) → List Value → va_W → Nat → Nat → Prop
/-- J is 'the machine, within a method of own with code cc, comes to its end from here' -/
def JR (b : Bool) (cc : ByteArray) (own : String) (nL d mc ms : Nat) (ini : Bool) (Z : jZ) (J : JT) : Prop :=
  ∃ (p : Program) (l : Launch) (e : Env) (R : Room) (s : State) (m : MethodId) (args : Array Value) (below : List Frame) (meth : Method) (c : Code) (A : Nat → Prop) (Q : State → Prop),
    (d ≤ R.frames ∧ mc ≤ R.cells ∧ ms ≤ R.slots ∧ 48 * d ≤ R.locals) ∧ p.tables.exec = Jvm.exec ∧ c.code = cc ∧ c.maxLocals = nL ∧ s.vm.findClass own = some m.cls ∧ (∀ w ∈ jg, w.before args s = true) ∧ va_K Z.1 vwCl (jy Z.2.1) s ∧ (b = true → ∀ q, s.heap.size ≤ q → A q) ∧ jX Z.2.2 A s ∧ (ini = true → meth.name = "<init>") ∧
    J = fun pc lvs st ws nc ns => ∀ (H : Heap) (locs : List Loc) (ls : Array Slot), lv_has ls nL lvs → va_P Z.1 vwCl ws H → jB b A s ws H locs → W p l e R s m args below meth c H locs nc ns Q (F0 m pc ls st)
/-- the ends of a method -/
def JE (cc : ByteArray) (ret : Option FieldType) (mc ms : Nat) (post : Option Value → va_W → Prop) (J : JT) : Prop :=
  (∀ (pc : Nat) (lvs : List (Nat × Value)) (v : Int32) (ws : va_W) (nc ns : Nat) (ty : FieldType), ret = some ty → narrow ty (.int v) = .int v → decode cc pc = .ok (.ireturn, 1) → nc ≤ mc → ns ≤ ms → post (some (.int v)) ws → J pc lvs [.int v] ws nc ns) ∧
  (∀ (pc : Nat) (lvs : List (Nat × Value)) (v : Int64) (ws : va_W) (nc ns : Nat), ret = some .long → decode cc pc = .ok (.lreturn, 1) → nc ≤ mc → ns ≤ ms → post (some (.long v)) ws → J pc lvs [.long v] ws nc ns) ∧
  (∀ (pc : Nat) (lvs : List (Nat × Value)) (ws : va_W) (nc ns : Nat), ret = none → decode cc pc = .ok (.return_, 1) → nc ≤ mc → ns ≤ ms → post none ws → J pc lvs [] ws nc ns)
def jQ (Z : jZ) (post : Option Value → va_W → Prop) (A : Nat → Prop) : Array Value → State → Outcome → State → Prop :=
  fun _ st oc t => (∃ (r : Option Value) (ws' : va_W), oc = .returned r ∧ post r ws' ∧ va_P Z.1 vwCl ws' t.heap ∧ va_D A ws') ∧ va_F A st t
def jQR (post : Option Value → Prop) : Array Value → State → Outcome → State → Prop :=
  fun _ st oc t => (∃ r : Option Value, oc = .returned r ∧ post r) ∧ t.heap = st.heap
/-- the contract of a method that writes its world: from ws to a world with post -/
def CT (Z : jZ) (y : MethodName) (cc : ByteArray) (nL : Nat) (ret : Option FieldType) (d mc ms : Nat) (As : List Value) (ws : va_W) (post : Option Value → va_W → Prop) : Prop :=
  ∀ (l : Launch) (sz : Nat), Met l y (.code y cc nL ret :: jg) (jr d mc ms) (va_Pc As (fun U => U.heap.size = sz ∧ va_P Z.1 vwCl ws U.heap ∧ va_K Z.1 vwCl (jy Z.2.1) U ∧ va_D (fun _ => True) ws ∧ jX Z.2.2 (va_A ws sz) U)) (jQ Z post (va_A ws sz)) mc ms (va_A ws sz)
/-- the contract of a method that only reads -/
def CR (Z : jZ) (y : MethodName) (cc : ByteArray) (nL : Nat) (ret : Option FieldType) (d : Nat) (As : List Value) (ws : va_W) (post : Option Value → Prop) : Prop :=
  ∀ (l : Launch), Met l y (.code y cc nL ret :: jg) (jr d 0 0) (va_Pc As (fun U => va_P Z.1 vwCl ws U.heap ∧ va_K Z.1 vwCl (jy Z.2.1) U ∧ jX Z.2.2 (fun _ => False) U)) (jQR post) 0 0 (fun _ => False)
theorem CT.of {Z : jZ} {y : MethodName} {cc : ByteArray} {nL : Nat} {ret : Option FieldType} {d mc ms : Nat} {As : List Value} {ws : va_W} {post : Option Value → va_W → Prop} (own : String) (ini : Bool) (hown : y.cls = own) (hini : ini = true → y.name = "<init>") (hy : plainName y.cls = true) (hlen : (lg_sl As).length ≤ nL)
    (body : ∀ J : JT, JR true cc own nL d mc ms ini Z J → JE cc ret mc ms post J → J 0 (lv_args 0 As) [] ws 0 0) : CT Z y cc nL ret d mc ms As ws post := by
  intro l sz
  refine Met.ofW (cc := cc) (maxL := nL) (ret := ret) hy rfl ?_
  intro p e s m args below meth c s₁ B hml hv
  obtain ⟨rfl, hsz, hP, hK, hD0, hX⟩ := hv
  have hx := B.exec
  have hb := B.bytes
  have hr := B.returns
  have hts0 := atoms_spec (ws := .code y cc nL ret :: jg) B.pre
  have hts : ∀ w ∈ jg, w.before As.toArray s = true := fun w h => hts0 w (List.mem_cons_of_mem _ h)
  have hfc : s.vm.findClass own = some m.cls := hown ▸ findClass_of_methodNamed B.named
  have hlocks := B.notSynchronized
  have hin : ini = true → meth.name = "<init>" := fun h => (name_of_methodNamed B.named B.method).1.trans (hini h)
  subst hsz
  have hD := hD0.self (sz := s.heap.size)
  have hA : ∀ q : Nat, s.heap.size ≤ q → va_A ws s.heap.size q := fun q h => Or.inr h
  have hl := lv_entry As (n := nL) hlen
  rw [lg_entry_eq]
  generalize (lg_sl As ++ List.replicate (nL - (lg_sl As).length) Slot.unset).toArray = ls at hl ⊢
  refine body _ ⟨p, l, e, jr d mc ms, s, m, As.toArray, below, meth, c, va_A ws s.heap.size, MQ below (jQ Z post (va_A ws s.heap.size)) As.toArray s mc ms (va_A ws s.heap.size), ⟨Nat.le_refl _, Nat.le_refl _, Nat.le_refl _, Nat.le_refl _⟩, hx, hb, hml, hfc, hts, hK, fun _ => hA, hX, hin, rfl⟩ ⟨?_, ?_, ?_⟩ s.heap [] ls hl hP ⟨hD, va_S.rf⟩
  · intro pc lvs v ws' nc ns ty ht hn hd h1 h2 hp H locs ls hl hP hB
    refine W.widen h1 h2 ?_
    exact W.zret hx hb (hr.trans ht) hn (fun t ht hW => ⟨⟨_, ws', rfl, hp, by rw [ht]; exact hP, hB.1⟩, hB.2.F ht⟩) hB.2.2.2 hd hlocks
  · intro pc lvs v ws' nc ns ht hd h1 h2 hp H locs ls hl hP hB
    refine W.widen h1 h2 ?_
    exact W.lret hx hb (hr.trans ht) (fun t ht hW => ⟨⟨_, ws', rfl, hp, by rw [ht]; exact hP, hB.1⟩, hB.2.F ht⟩) hB.2.2.2 hd hlocks
  · intro pc lvs ws' nc ns ht hd h1 h2 hp H locs ls hl hP hB
    refine W.widen h1 h2 ?_
    exact W.vret hx hb (hr.trans ht) (fun t ht hW => ⟨⟨_, ws', rfl, hp, by rw [ht]; exact hP, hB.1⟩, hB.2.F ht⟩) hB.2.2.2 hd hlocks
theorem CR.of {Z : jZ} {y : MethodName} {cc : ByteArray} {nL : Nat} {ret : Option FieldType} {d : Nat} {As : List Value} {ws : va_W} {post : Option Value → Prop} (own : String) (hown : y.cls = own) (hy : plainName y.cls = true) (hlen : (lg_sl As).length ≤ nL)
    (body : ∀ J : JT, JR false cc own nL d 0 0 false Z J → JE cc ret 0 0 (fun r _ => post r) J → J 0 (lv_args 0 As) [] ws 0 0) : CR Z y cc nL ret d As ws post := by
  intro l
  refine Met.ofW (cc := cc) (maxL := nL) (ret := ret) hy rfl ?_
  intro p e s m args below meth c s₁ B hml hv
  obtain ⟨rfl, hP, hK, hX⟩ := hv
  have hx := B.exec
  have hb := B.bytes
  have hr := B.returns
  have hts0 := atoms_spec (ws := .code y cc nL ret :: jg) B.pre
  have hts : ∀ w ∈ jg, w.before As.toArray s = true := fun w h => hts0 w (List.mem_cons_of_mem _ h)
  have hfc : s.vm.findClass own = some m.cls := hown ▸ findClass_of_methodNamed B.named
  have hlocks := B.notSynchronized
  have hl := lv_entry As (n := nL) hlen
  rw [lg_entry_eq]
  generalize (lg_sl As ++ List.replicate (nL - (lg_sl As).length) Slot.unset).toArray = ls at hl ⊢
  refine body _ ⟨p, l, e, jr d 0 0, s, m, As.toArray, below, meth, c, fun _ => False, MQ below (jQR post) As.toArray s 0 0 (fun _ => False), ⟨Nat.le_refl _, Nat.le_refl _, Nat.le_refl _, Nat.le_refl _⟩, hx, hb, hml, hfc, hts, hK, fun h => (by cases h), hX, fun h => (by cases h), rfl⟩ ⟨?_, ?_, ?_⟩ s.heap [] ls hl hP ⟨rfl, rfl⟩
  · intro pc lvs v ws' nc ns ty ht hn hd h1 h2 hp H locs ls hl hP hB
    obtain ⟨rfl, rfl⟩ := hB
    refine W.widen h1 h2 ?_
    exact W.zret hx hb (hr.trans ht) hn (fun t ht hW => ⟨⟨_, rfl, hp⟩, ht⟩) (fun q h => (by cases h)) hd hlocks
  · intro pc lvs v ws' nc ns ht hd h1 h2 hp H locs ls hl hP hB
    obtain ⟨rfl, rfl⟩ := hB
    refine W.widen h1 h2 ?_
    exact W.lret hx hb (hr.trans ht) (fun t ht hW => ⟨⟨_, rfl, hp⟩, ht⟩) (fun q h => (by cases h)) hd hlocks
  · intro pc lvs ws' nc ns ht hd h1 h2 hp H locs ls hl hP hB
    obtain ⟨rfl, rfl⟩ := hB
    refine W.widen h1 h2 ?_
    exact W.vret hx hb (hr.trans ht) (fun t ht hW => ⟨⟨_, rfl, hp⟩, ht⟩) (fun q h => (by cases h)) hd hlocks
section JRules
variable {b : Bool} {cc : ByteArray} {own : String} {nL d mc ms : Nat} {ini : Bool} {Z : jZ} {J : JT} {pc q : Nat} {lvs lvs' : List (Nat × Value)} {st : List Value} {ws ws' : va_W} {nc ns : Nat}

theorem j_iconst (h : JR b cc own nL d mc ms ini Z J) {n : Int} {v : Int32} (dg : decode cc pc = .ok (.iconst n, 1)) (hq : pc + 1 = q) (hv : Int32.ofInt n = v) (K : J q lvs (.int v :: st) ws nc ns) : J pc lvs st ws nc ns := by
  obtain ⟨p, l, ev, R, s, m, args, below, meth, c, A, Q, hR, hx, hb, hml, hown, hts, hK, hA, hX, hin, rfl⟩ := h
  subst hq
  intro H locs ls hl' hP hB
  exact lv_iconst hx hb dg hv (K H locs ls hl' hP hB)
theorem j_bipush (h : JR b cc own nL d mc ms ini Z J) {n : Int} {v : Int32} (dg : decode cc pc = .ok (.bipush n, 2)) (hq : pc + 2 = q) (hv : (Int8.ofInt n).toInt32 = v) (K : J q lvs (.int v :: st) ws nc ns) : J pc lvs st ws nc ns := by
  obtain ⟨p, l, ev, R, s, m, args, below, meth, c, A, Q, hR, hx, hb, hml, hown, hts, hK, hA, hX, hin, rfl⟩ := h
  subst hq
  intro H locs ls hl' hP hB
  exact lv_bipush hx hb dg hv (K H locs ls hl' hP hB)
theorem j_sipush (h : JR b cc own nL d mc ms ini Z J) {n : Int} {v : Int32} (dg : decode cc pc = .ok (.sipush n, 3)) (hq : pc + 3 = q) (hv : (Int16.ofInt n).toInt32 = v) (K : J q lvs (.int v :: st) ws nc ns) : J pc lvs st ws nc ns := by
  obtain ⟨p, l, ev, R, s, m, args, below, meth, c, A, Q, hR, hx, hb, hml, hown, hts, hK, hA, hX, hin, rfl⟩ := h
  subst hq
  intro H locs ls hl' hP hB
  exact lv_sipush hx hb dg hv (K H locs ls hl' hP hB)
theorem j_lconst (h : JR b cc own nL d mc ms ini Z J) {n : Fin 2} {v : Int64} (dg : decode cc pc = .ok (.lconst n, 1)) (hq : pc + 1 = q) (hv : Int64.ofNat (n : Nat) = v) (K : J q lvs (.long v :: st) ws nc ns) : J pc lvs st ws nc ns := by
  obtain ⟨p, l, ev, R, s, m, args, below, meth, c, A, Q, hR, hx, hb, hml, hown, hts, hK, hA, hX, hin, rfl⟩ := h
  subst hq
  intro H locs ls hl' hP hB
  exact lv_lconst hx hb dg hv (K H locs ls hl' hP hB)
theorem j_ldc (h : JR b cc own nL d mc ms ini Z J) {index : Nat} {v v' : Int32} (dg : decode cc pc = .ok (.ldc index, 2)) (w : Cond.constant own index v ∈ jg) (hq : pc + 2 = q) (hv : v = v') (K : J q lvs (.int v' :: st) ws nc ns) : J pc lvs st ws nc ns := by
  obtain ⟨p, l, ev, R, s, m, args, below, meth, c, A, Q, hR, hx, hb, hml, hown, hts, hK, hA, hX, hin, rfl⟩ := h
  subst hq
  intro H locs ls hl' hP hB
  exact lv_ldc hx hb hown (hts _ w) dg (hv ▸ (K H locs ls hl' hP hB))
theorem j_ldc2 (h : JR b cc own nL d mc ms ini Z J) {index : Nat} {v v' : Int64} (dg : decode cc pc = .ok (.ldc2_w index, 3)) (w : Cond.constantLong own index v ∈ jg) (hq : pc + 3 = q) (hv : v = v') (K : J q lvs (.long v' :: st) ws nc ns) : J pc lvs st ws nc ns := by
  obtain ⟨p, l, ev, R, s, m, args, below, meth, c, A, Q, hR, hx, hb, hml, hown, hts, hK, hA, hX, hin, rfl⟩ := h
  subst hq
  intro H locs ls hl' hP hB
  exact lv_ldc2 hx hb hown (hts _ w) dg (hv ▸ (K H locs ls hl' hP hB))
theorem j_iload_n (h : JR b cc own nL d mc ms ini Z J) {k : Fin 4} {i : Nat} {x : Int32} (dg : decode cc pc = .ok (.iload_n k, 1)) (hi : (k : Nat) = i) (n : Nat) (hl : lvs[n]? = some (i, .int x)) (hq : pc + 1 = q) (K : J q lvs (.int x :: st) ws nc ns) : J pc lvs st ws nc ns := by
  obtain ⟨p, l, ev, R, s, m, args, below, meth, c, A, Q, hR, hx, hb, hml, hown, hts, hK, hA, hX, hin, rfl⟩ := h
  subst hq
  intro H locs ls hl' hP hB
  exact lv_iload_n hx hb dg hi (lv_at hl' n hl) (K H locs ls hl' hP hB)
theorem j_iload (h : JR b cc own nL d mc ms ini Z J) {i : Nat} {x : Int32} (dg : decode cc pc = .ok (.iload i, 2)) (n : Nat) (hl : lvs[n]? = some (i, .int x)) (hq : pc + 2 = q) (K : J q lvs (.int x :: st) ws nc ns) : J pc lvs st ws nc ns := by
  obtain ⟨p, l, ev, R, s, m, args, below, meth, c, A, Q, hR, hx, hb, hml, hown, hts, hK, hA, hX, hin, rfl⟩ := h
  subst hq
  intro H locs ls hl' hP hB
  exact lv_iload hx hb dg (lv_at hl' n hl) (K H locs ls hl' hP hB)
theorem j_istore_n (h : JR b cc own nL d mc ms ini Z J) {k : Fin 4} {i : Nat} {x : Int32} (dg : decode cc pc = .ok (.istore_n k, 1)) (hi : (k : Nat) = i) (hn : i < nL) (hl : (i, Value.int x) :: lvs.filter (fun q => !(q.1 == i) && !(q.1 + 1 == i && q.2.category == 2)) = lvs') (hq : pc + 1 = q) (K : J q lvs' st ws nc ns) : J pc lvs (.int x :: st) ws nc ns := by
  obtain ⟨p, l, ev, R, s, m, args, below, meth, c, A, Q, hR, hx, hb, hml, hown, hts, hK, hA, hX, hin, rfl⟩ := h
  subst hq
  intro H locs ls hl' hP hB
  exact lv_istore_n hx hb dg hi hl' hn hl (fun ls' h' => K H locs ls' h' hP hB)
theorem j_istore (h : JR b cc own nL d mc ms ini Z J) {i : Nat} {x : Int32} (dg : decode cc pc = .ok (.istore i, 2)) (hn : i < nL) (hl : (i, Value.int x) :: lvs.filter (fun q => !(q.1 == i) && !(q.1 + 1 == i && q.2.category == 2)) = lvs') (hq : pc + 2 = q) (K : J q lvs' st ws nc ns) : J pc lvs (.int x :: st) ws nc ns := by
  obtain ⟨p, l, ev, R, s, m, args, below, meth, c, A, Q, hR, hx, hb, hml, hown, hts, hK, hA, hX, hin, rfl⟩ := h
  subst hq
  intro H locs ls hl' hP hB
  exact lv_istore hx hb dg hl' hn hl (fun ls' h' => K H locs ls' h' hP hB)
theorem j_lload_n (h : JR b cc own nL d mc ms ini Z J) {k : Fin 4} {i : Nat} {x : Int64} (dg : decode cc pc = .ok (.lload_n k, 1)) (hi : (k : Nat) = i) (n : Nat) (hl : lvs[n]? = some (i, .long x)) (hq : pc + 1 = q) (K : J q lvs (.long x :: st) ws nc ns) : J pc lvs st ws nc ns := by
  obtain ⟨p, l, ev, R, s, m, args, below, meth, c, A, Q, hR, hx, hb, hml, hown, hts, hK, hA, hX, hin, rfl⟩ := h
  subst hq
  intro H locs ls hl' hP hB
  exact lv_lload_n hx hb dg hi (lv_at hl' n hl) (K H locs ls hl' hP hB)
theorem j_lload (h : JR b cc own nL d mc ms ini Z J) {i : Nat} {x : Int64} (dg : decode cc pc = .ok (.lload i, 2)) (n : Nat) (hl : lvs[n]? = some (i, .long x)) (hq : pc + 2 = q) (K : J q lvs (.long x :: st) ws nc ns) : J pc lvs st ws nc ns := by
  obtain ⟨p, l, ev, R, s, m, args, below, meth, c, A, Q, hR, hx, hb, hml, hown, hts, hK, hA, hX, hin, rfl⟩ := h
  subst hq
  intro H locs ls hl' hP hB
  exact lv_lload hx hb dg (lv_at hl' n hl) (K H locs ls hl' hP hB)
theorem j_lstore_n (h : JR b cc own nL d mc ms ini Z J) {k : Fin 4} {i : Nat} {x : Int64} (dg : decode cc pc = .ok (.lstore_n k, 1)) (hi : (k : Nat) = i) (hn : i + 1 < nL) (hl : (i, Value.long x) :: lvs.filter (fun q => !(q.1 == i) && (!(q.1 == i + 1) && !(q.1 + 1 == i && q.2.category == 2))) = lvs') (hq : pc + 1 = q) (K : J q lvs' st ws nc ns) : J pc lvs (.long x :: st) ws nc ns := by
  obtain ⟨p, l, ev, R, s, m, args, below, meth, c, A, Q, hR, hx, hb, hml, hown, hts, hK, hA, hX, hin, rfl⟩ := h
  subst hq
  intro H locs ls hl' hP hB
  exact lv_lstore_n hx hb dg hi hl' hn hl (fun ls' h' => K H locs ls' h' hP hB)
theorem j_lstore (h : JR b cc own nL d mc ms ini Z J) {i : Nat} {x : Int64} (dg : decode cc pc = .ok (.lstore i, 2)) (hn : i + 1 < nL) (hl : (i, Value.long x) :: lvs.filter (fun q => !(q.1 == i) && (!(q.1 == i + 1) && !(q.1 + 1 == i && q.2.category == 2))) = lvs') (hq : pc + 2 = q) (K : J q lvs' st ws nc ns) : J pc lvs (.long x :: st) ws nc ns := by
  obtain ⟨p, l, ev, R, s, m, args, below, meth, c, A, Q, hR, hx, hb, hml, hown, hts, hK, hA, hX, hin, rfl⟩ := h
  subst hq
  intro H locs ls hl' hP hB
  exact lv_lstore hx hb dg hl' hn hl (fun ls' h' => K H locs ls' h' hP hB)
theorem j_aload_n (h : JR b cc own nL d mc ms ini Z J) {k : Fin 4} {i : Nat} {x : Nat} (dg : decode cc pc = .ok (.aload_n k, 1)) (hi : (k : Nat) = i) (n : Nat) (hl : lvs[n]? = some (i, .ref x)) (hq : pc + 1 = q) (K : J q lvs (.ref x :: st) ws nc ns) : J pc lvs st ws nc ns := by
  obtain ⟨p, l, ev, R, s, m, args, below, meth, c, A, Q, hR, hx, hb, hml, hown, hts, hK, hA, hX, hin, rfl⟩ := h
  subst hq
  intro H locs ls hl' hP hB
  exact lv_aload_n hx hb dg hi (lv_at hl' n hl) (K H locs ls hl' hP hB)
theorem j_aload (h : JR b cc own nL d mc ms ini Z J) {i : Nat} {x : Nat} (dg : decode cc pc = .ok (.aload i, 2)) (n : Nat) (hl : lvs[n]? = some (i, .ref x)) (hq : pc + 2 = q) (K : J q lvs (.ref x :: st) ws nc ns) : J pc lvs st ws nc ns := by
  obtain ⟨p, l, ev, R, s, m, args, below, meth, c, A, Q, hR, hx, hb, hml, hown, hts, hK, hA, hX, hin, rfl⟩ := h
  subst hq
  intro H locs ls hl' hP hB
  exact lv_aload hx hb dg (lv_at hl' n hl) (K H locs ls hl' hP hB)
theorem j_astore_n (h : JR b cc own nL d mc ms ini Z J) {k : Fin 4} {i : Nat} {x : Nat} (dg : decode cc pc = .ok (.astore_n k, 1)) (hi : (k : Nat) = i) (hn : i < nL) (hl : (i, Value.ref x) :: lvs.filter (fun q => !(q.1 == i) && !(q.1 + 1 == i && q.2.category == 2)) = lvs') (hq : pc + 1 = q) (K : J q lvs' st ws nc ns) : J pc lvs (.ref x :: st) ws nc ns := by
  obtain ⟨p, l, ev, R, s, m, args, below, meth, c, A, Q, hR, hx, hb, hml, hown, hts, hK, hA, hX, hin, rfl⟩ := h
  subst hq
  intro H locs ls hl' hP hB
  exact lv_astore_n hx hb dg hi hl' hn hl (fun ls' h' => K H locs ls' h' hP hB)
theorem j_astore (h : JR b cc own nL d mc ms ini Z J) {i : Nat} {x : Nat} (dg : decode cc pc = .ok (.astore i, 2)) (hn : i < nL) (hl : (i, Value.ref x) :: lvs.filter (fun q => !(q.1 == i) && !(q.1 + 1 == i && q.2.category == 2)) = lvs') (hq : pc + 2 = q) (K : J q lvs' st ws nc ns) : J pc lvs (.ref x :: st) ws nc ns := by
  obtain ⟨p, l, ev, R, s, m, args, below, meth, c, A, Q, hR, hx, hb, hml, hown, hts, hK, hA, hX, hin, rfl⟩ := h
  subst hq
  intro H locs ls hl' hP hB
  exact lv_astore hx hb dg hl' hn hl (fun ls' h' => K H locs ls' h' hP hB)
theorem j_iinc (h : JR b cc own nL d mc ms ini Z J) {i : Nat} {n : Int} {x v : Int32} (dg : decode cc pc = .ok (.iinc i n, 3)) (k : Nat) (hk : lvs[k]? = some (i, .int x)) (hv : x + Int32.ofInt n = v) (hn : i < nL) (hl : (i, Value.int v) :: lvs.filter (fun q => !(q.1 == i) && !(q.1 + 1 == i && q.2.category == 2)) = lvs') (hq : pc + 3 = q) (K : J q lvs' st ws nc ns) : J pc lvs st ws nc ns := by
  obtain ⟨p, l, ev, R, s, m, args, below, meth, c, A, Q, hR, hx, hb, hml, hown, hts, hK, hA, hX, hin, rfl⟩ := h
  subst hq
  intro H locs ls hl' hP hB
  exact lv_iinc hx hb dg hl' hk hv hn hl (fun ls' h' => K H locs ls' h' hP hB)
theorem j_iadd (h : JR b cc own nL d mc ms ini Z J) {x y z : Int32} (dg : decode cc pc = .ok (.iadd, 1)) (hq : pc + 1 = q) (e : x + y = z) (K : J q lvs (.int z :: st) ws nc ns) : J pc lvs (.int y :: .int x :: st) ws nc ns := by
  obtain ⟨p, l, ev, R, s, m, args, below, meth, c, A, Q, hR, hx, hb, hml, hown, hts, hK, hA, hX, hin, rfl⟩ := h
  subst hq
  intro H locs ls hl' hP hB
  exact lv_iadd hx hb dg (e ▸ K H locs ls hl' hP hB)
theorem j_isub (h : JR b cc own nL d mc ms ini Z J) {x y z : Int32} (dg : decode cc pc = .ok (.isub, 1)) (hq : pc + 1 = q) (e : x - y = z) (K : J q lvs (.int z :: st) ws nc ns) : J pc lvs (.int y :: .int x :: st) ws nc ns := by
  obtain ⟨p, l, ev, R, s, m, args, below, meth, c, A, Q, hR, hx, hb, hml, hown, hts, hK, hA, hX, hin, rfl⟩ := h
  subst hq
  intro H locs ls hl' hP hB
  exact lv_isub hx hb dg (e ▸ K H locs ls hl' hP hB)
theorem j_imul (h : JR b cc own nL d mc ms ini Z J) {x y z : Int32} (dg : decode cc pc = .ok (.imul, 1)) (hq : pc + 1 = q) (e : x * y = z) (K : J q lvs (.int z :: st) ws nc ns) : J pc lvs (.int y :: .int x :: st) ws nc ns := by
  obtain ⟨p, l, ev, R, s, m, args, below, meth, c, A, Q, hR, hx, hb, hml, hown, hts, hK, hA, hX, hin, rfl⟩ := h
  subst hq
  intro H locs ls hl' hP hB
  exact lv_imul hx hb dg (e ▸ K H locs ls hl' hP hB)
theorem j_iand (h : JR b cc own nL d mc ms ini Z J) {x y z : Int32} (dg : decode cc pc = .ok (.iand, 1)) (hq : pc + 1 = q) (e : x &&& y = z) (K : J q lvs (.int z :: st) ws nc ns) : J pc lvs (.int y :: .int x :: st) ws nc ns := by
  obtain ⟨p, l, ev, R, s, m, args, below, meth, c, A, Q, hR, hx, hb, hml, hown, hts, hK, hA, hX, hin, rfl⟩ := h
  subst hq
  intro H locs ls hl' hP hB
  exact lv_iand hx hb dg (e ▸ K H locs ls hl' hP hB)
theorem j_ior (h : JR b cc own nL d mc ms ini Z J) {x y z : Int32} (dg : decode cc pc = .ok (.ior, 1)) (hq : pc + 1 = q) (e : x ||| y = z) (K : J q lvs (.int z :: st) ws nc ns) : J pc lvs (.int y :: .int x :: st) ws nc ns := by
  obtain ⟨p, l, ev, R, s, m, args, below, meth, c, A, Q, hR, hx, hb, hml, hown, hts, hK, hA, hX, hin, rfl⟩ := h
  subst hq
  intro H locs ls hl' hP hB
  exact lv_ior hx hb dg (e ▸ K H locs ls hl' hP hB)
theorem j_ishl (h : JR b cc own nL d mc ms ini Z J) {x y z : Int32} (dg : decode cc pc = .ok (.ishl, 1)) (hq : pc + 1 = q) (e : x <<< (y &&& 31) = z) (K : J q lvs (.int z :: st) ws nc ns) : J pc lvs (.int y :: .int x :: st) ws nc ns := by
  obtain ⟨p, l, ev, R, s, m, args, below, meth, c, A, Q, hR, hx, hb, hml, hown, hts, hK, hA, hX, hin, rfl⟩ := h
  subst hq
  intro H locs ls hl' hP hB
  exact lv_ishl hx hb dg (e ▸ K H locs ls hl' hP hB)
theorem j_ishr (h : JR b cc own nL d mc ms ini Z J) {x y z : Int32} (dg : decode cc pc = .ok (.ishr, 1)) (hq : pc + 1 = q) (e : x >>> (y &&& 31) = z) (K : J q lvs (.int z :: st) ws nc ns) : J pc lvs (.int y :: .int x :: st) ws nc ns := by
  obtain ⟨p, l, ev, R, s, m, args, below, meth, c, A, Q, hR, hx, hb, hml, hown, hts, hK, hA, hX, hin, rfl⟩ := h
  subst hq
  intro H locs ls hl' hP hB
  exact lv_ishr hx hb dg (e ▸ K H locs ls hl' hP hB)
theorem j_idiv (h : JR b cc own nL d mc ms ini Z J) {x y z : Int32} (dg : decode cc pc = .ok (.idiv, 1)) (hq : pc + 1 = q) (hne : ¬ y = 0) (e : x / y = z) (K : J q lvs (.int z :: st) ws nc ns) : J pc lvs (.int y :: .int x :: st) ws nc ns := by
  obtain ⟨p, l, ev, R, s, m, args, below, meth, c, A, Q, hR, hx, hb, hml, hown, hts, hK, hA, hX, hin, rfl⟩ := h
  subst hq
  intro H locs ls hl' hP hB
  exact lv_idiv hx hb dg hne (e ▸ K H locs ls hl' hP hB)
theorem j_irem (h : JR b cc own nL d mc ms ini Z J) {x y z : Int32} (dg : decode cc pc = .ok (.irem, 1)) (hq : pc + 1 = q) (hne : ¬ y = 0) (e : x - x / y * y = z) (K : J q lvs (.int z :: st) ws nc ns) : J pc lvs (.int y :: .int x :: st) ws nc ns := by
  obtain ⟨p, l, ev, R, s, m, args, below, meth, c, A, Q, hR, hx, hb, hml, hown, hts, hK, hA, hX, hin, rfl⟩ := h
  subst hq
  intro H locs ls hl' hP hB
  exact lv_irem hx hb dg hne (e ▸ K H locs ls hl' hP hB)
theorem j_ladd (h : JR b cc own nL d mc ms ini Z J) {x y z : Int64} (dg : decode cc pc = .ok (.ladd, 1)) (hq : pc + 1 = q) (e : x + y = z) (K : J q lvs (.long z :: st) ws nc ns) : J pc lvs (.long y :: .long x :: st) ws nc ns := by
  obtain ⟨p, l, ev, R, s, m, args, below, meth, c, A, Q, hR, hx, hb, hml, hown, hts, hK, hA, hX, hin, rfl⟩ := h
  subst hq
  intro H locs ls hl' hP hB
  exact lv_ladd hx hb dg (e ▸ K H locs ls hl' hP hB)
theorem j_lmul (h : JR b cc own nL d mc ms ini Z J) {x y z : Int64} (dg : decode cc pc = .ok (.lmul, 1)) (hq : pc + 1 = q) (e : x * y = z) (K : J q lvs (.long z :: st) ws nc ns) : J pc lvs (.long y :: .long x :: st) ws nc ns := by
  obtain ⟨p, l, ev, R, s, m, args, below, meth, c, A, Q, hR, hx, hb, hml, hown, hts, hK, hA, hX, hin, rfl⟩ := h
  subst hq
  intro H locs ls hl' hP hB
  exact lv_lmul hx hb dg (e ▸ K H locs ls hl' hP hB)
theorem j_ldiv (h : JR b cc own nL d mc ms ini Z J) {x y z : Int64} (dg : decode cc pc = .ok (.ldiv, 1)) (hq : pc + 1 = q) (hne : ¬ y = 0) (e : x / y = z) (K : J q lvs (.long z :: st) ws nc ns) : J pc lvs (.long y :: .long x :: st) ws nc ns := by
  obtain ⟨p, l, ev, R, s, m, args, below, meth, c, A, Q, hR, hx, hb, hml, hown, hts, hK, hA, hX, hin, rfl⟩ := h
  subst hq
  intro H locs ls hl' hP hB
  exact lv_ldiv hx hb dg hne (e ▸ K H locs ls hl' hP hB)
theorem j_lrem (h : JR b cc own nL d mc ms ini Z J) {x y z : Int64} (dg : decode cc pc = .ok (.lrem, 1)) (hq : pc + 1 = q) (hne : ¬ y = 0) (e : x - x / y * y = z) (K : J q lvs (.long z :: st) ws nc ns) : J pc lvs (.long y :: .long x :: st) ws nc ns := by
  obtain ⟨p, l, ev, R, s, m, args, below, meth, c, A, Q, hR, hx, hb, hml, hown, hts, hK, hA, hX, hin, rfl⟩ := h
  subst hq
  intro H locs ls hl' hP hB
  exact lv_lrem hx hb dg hne (e ▸ K H locs ls hl' hP hB)
theorem j_lcmp (h : JR b cc own nL d mc ms ini Z J) {x y : Int64} {z : Int32} (dg : decode cc pc = .ok (.lcmp, 1)) (hq : pc + 1 = q) (e : lg_cmp x y = z) (K : J q lvs (.int z :: st) ws nc ns) : J pc lvs (.long y :: .long x :: st) ws nc ns := by
  obtain ⟨p, l, ev, R, s, m, args, below, meth, c, A, Q, hR, hx, hb, hml, hown, hts, hK, hA, hX, hin, rfl⟩ := h
  subst hq
  intro H locs ls hl' hP hB
  exact W.lcmp hx hb dg (e ▸ K H locs ls hl' hP hB)
theorem j_i2l (h : JR b cc own nL d mc ms ini Z J) {x : Int32} {z : Int64} (dg : decode cc pc = .ok (.i2l, 1)) (hq : pc + 1 = q) (e : x.toInt64 = z) (K : J q lvs (.long z :: st) ws nc ns) : J pc lvs (.int x :: st) ws nc ns := by
  obtain ⟨p, l, ev, R, s, m, args, below, meth, c, A, Q, hR, hx, hb, hml, hown, hts, hK, hA, hX, hin, rfl⟩ := h
  subst hq
  intro H locs ls hl' hP hB
  exact lv_i2l hx hb dg e (K H locs ls hl' hP hB)
theorem j_l2i (h : JR b cc own nL d mc ms ini Z J) {x : Int64} {z : Int32} (dg : decode cc pc = .ok (.l2i, 1)) (hq : pc + 1 = q) (e : x.toInt32 = z) (K : J q lvs (.int z :: st) ws nc ns) : J pc lvs (.long x :: st) ws nc ns := by
  obtain ⟨p, l, ev, R, s, m, args, below, meth, c, A, Q, hR, hx, hb, hml, hown, hts, hK, hA, hX, hin, rfl⟩ := h
  subst hq
  intro H locs ls hl' hP hB
  exact lv_l2i hx hb dg e (K H locs ls hl' hP hB)
theorem j_i2c (h : JR b cc own nL d mc ms ini Z J) {x : Int32} {z : Int32} (dg : decode cc pc = .ok (.i2c, 1)) (hq : pc + 1 = q) (e : (x.toUInt32 % 65536).toInt32 = z) (K : J q lvs (.int z :: st) ws nc ns) : J pc lvs (.int x :: st) ws nc ns := by
  obtain ⟨p, l, ev, R, s, m, args, below, meth, c, A, Q, hR, hx, hb, hml, hown, hts, hK, hA, hX, hin, rfl⟩ := h
  subst hq
  intro H locs ls hl' hP hB
  exact lv_i2c hx hb dg e (K H locs ls hl' hP hB)
theorem j_i2b (h : JR b cc own nL d mc ms ini Z J) {x : Int32} {z : Int32} (dg : decode cc pc = .ok (.i2b, 1)) (hq : pc + 1 = q) (e : x.toInt8.toInt32 = z) (K : J q lvs (.int z :: st) ws nc ns) : J pc lvs (.int x :: st) ws nc ns := by
  obtain ⟨p, l, ev, R, s, m, args, below, meth, c, A, Q, hR, hx, hb, hml, hown, hts, hK, hA, hX, hin, rfl⟩ := h
  subst hq
  intro H locs ls hl' hP hB
  exact lv_i2b hx hb dg e (K H locs ls hl' hP hB)
theorem j_dup (h : JR b cc own nL d mc ms ini Z J) {va : Value} (dg : decode cc pc = .ok (.dup, 1)) (hva : va.category = 1) (hq : pc + 1 = q) (K : J q lvs (va :: va :: st) ws nc ns) : J pc lvs (va :: st) ws nc ns := by
  obtain ⟨p, l, ev, R, s, m, args, below, meth, c, A, Q, hR, hx, hb, hml, hown, hts, hK, hA, hX, hin, rfl⟩ := h
  subst hq
  intro H locs ls hl' hP hB
  exact lv_dup hx hb dg hva (K H locs ls hl' hP hB)
theorem j_dup2 (h : JR b cc own nL d mc ms ini Z J) {va vb : Value} (dg : decode cc pc = .ok (.dup2, 1)) (hva : va.category = 1) (hvb : vb.category = 1) (hq : pc + 1 = q) (K : J q lvs (va :: vb :: va :: vb :: st) ws nc ns) : J pc lvs (va :: vb :: st) ws nc ns := by
  obtain ⟨p, l, ev, R, s, m, args, below, meth, c, A, Q, hR, hx, hb, hml, hown, hts, hK, hA, hX, hin, rfl⟩ := h
  subst hq
  intro H locs ls hl' hP hB
  exact lv_dup2_11 hx hb dg hva hvb (K H locs ls hl' hP hB)
theorem j_pop (h : JR b cc own nL d mc ms ini Z J) {va : Value} (dg : decode cc pc = .ok (.pop, 1)) (hva : va.category = 1) (hq : pc + 1 = q) (K : J q lvs st ws nc ns) : J pc lvs (va :: st) ws nc ns := by
  obtain ⟨p, l, ev, R, s, m, args, below, meth, c, A, Q, hR, hx, hb, hml, hown, hts, hK, hA, hX, hin, rfl⟩ := h
  subst hq
  intro H locs ls hl' hP hB
  exact lv_pop hx hb dg hva (K H locs ls hl' hP hB)
theorem j_goto (h : JR b cc own nL d mc ms ini Z J) {off : Int} (dg : decode cc pc = .ok (.goto off, 3)) (ht : (pc : Int) + off = (q : Int)) (K : J q lvs st ws nc ns) : J pc lvs st ws nc ns := by
  obtain ⟨p, l, ev, R, s, m, args, below, meth, c, A, Q, hR, hx, hb, hml, hown, hts, hK, hA, hX, hin, rfl⟩ := h
  intro H locs ls hl' hP hB
  exact lv_goto hx hb dg ht (K H locs ls hl' hP hB)
theorem j_if_eq (h : JR b cc own nL d mc ms ini Z J) {x : Int32} {off : Int} {tgt : Nat} (dg : decode cc pc = .ok (.ifCond .eq off, 3)) (ht : (pc : Int) + off = (tgt : Int)) (hq : pc + 3 = q) (kt : x = 0 → J tgt lvs st ws nc ns) (kf : ¬ x = 0 → J q lvs st ws nc ns) : J pc lvs (.int x :: st) ws nc ns := by
  obtain ⟨p, l, ev, R, s, m, args, below, meth, c, A, Q, hR, hx, hb, hml, hown, hts, hK, hA, hX, hin, rfl⟩ := h
  subst hq
  intro H locs ls hl' hP hB
  exact lv_if_eq hx hb dg ht (fun z => kt z H locs ls hl' hP hB) (fun z => kf z H locs ls hl' hP hB)
theorem j_icmp_eq (h : JR b cc own nL d mc ms ini Z J) {x y : Int32} {off : Int} {tgt : Nat} (dg : decode cc pc = .ok (.if_icmp .eq off, 3)) (ht : (pc : Int) + off = (tgt : Int)) (hq : pc + 3 = q) (kt : x = y → J tgt lvs st ws nc ns) (kf : ¬ x = y → J q lvs st ws nc ns) : J pc lvs (.int y :: .int x :: st) ws nc ns := by
  obtain ⟨p, l, ev, R, s, m, args, below, meth, c, A, Q, hR, hx, hb, hml, hown, hts, hK, hA, hX, hin, rfl⟩ := h
  subst hq
  intro H locs ls hl' hP hB
  exact lv_icmp_eq hx hb dg ht (fun z => kt z H locs ls hl' hP hB) (fun z => kf z H locs ls hl' hP hB)
theorem j_if_ne (h : JR b cc own nL d mc ms ini Z J) {x : Int32} {off : Int} {tgt : Nat} (dg : decode cc pc = .ok (.ifCond .ne off, 3)) (ht : (pc : Int) + off = (tgt : Int)) (hq : pc + 3 = q) (kt : ¬ x = 0 → J tgt lvs st ws nc ns) (kf : x = 0 → J q lvs st ws nc ns) : J pc lvs (.int x :: st) ws nc ns := by
  obtain ⟨p, l, ev, R, s, m, args, below, meth, c, A, Q, hR, hx, hb, hml, hown, hts, hK, hA, hX, hin, rfl⟩ := h
  subst hq
  intro H locs ls hl' hP hB
  exact lv_if_ne hx hb dg ht (fun z => kt z H locs ls hl' hP hB) (fun z => kf z H locs ls hl' hP hB)
theorem j_icmp_ne (h : JR b cc own nL d mc ms ini Z J) {x y : Int32} {off : Int} {tgt : Nat} (dg : decode cc pc = .ok (.if_icmp .ne off, 3)) (ht : (pc : Int) + off = (tgt : Int)) (hq : pc + 3 = q) (kt : ¬ x = y → J tgt lvs st ws nc ns) (kf : x = y → J q lvs st ws nc ns) : J pc lvs (.int y :: .int x :: st) ws nc ns := by
  obtain ⟨p, l, ev, R, s, m, args, below, meth, c, A, Q, hR, hx, hb, hml, hown, hts, hK, hA, hX, hin, rfl⟩ := h
  subst hq
  intro H locs ls hl' hP hB
  exact lv_icmp_ne hx hb dg ht (fun z => kt z H locs ls hl' hP hB) (fun z => kf z H locs ls hl' hP hB)
theorem j_if_lt (h : JR b cc own nL d mc ms ini Z J) {x : Int32} {off : Int} {tgt : Nat} (dg : decode cc pc = .ok (.ifCond .lt off, 3)) (ht : (pc : Int) + off = (tgt : Int)) (hq : pc + 3 = q) (kt : x < 0 → J tgt lvs st ws nc ns) (kf : ¬ x < 0 → J q lvs st ws nc ns) : J pc lvs (.int x :: st) ws nc ns := by
  obtain ⟨p, l, ev, R, s, m, args, below, meth, c, A, Q, hR, hx, hb, hml, hown, hts, hK, hA, hX, hin, rfl⟩ := h
  subst hq
  intro H locs ls hl' hP hB
  exact lv_if_lt hx hb dg ht (fun z => kt z H locs ls hl' hP hB) (fun z => kf z H locs ls hl' hP hB)
theorem j_icmp_lt (h : JR b cc own nL d mc ms ini Z J) {x y : Int32} {off : Int} {tgt : Nat} (dg : decode cc pc = .ok (.if_icmp .lt off, 3)) (ht : (pc : Int) + off = (tgt : Int)) (hq : pc + 3 = q) (kt : x < y → J tgt lvs st ws nc ns) (kf : ¬ x < y → J q lvs st ws nc ns) : J pc lvs (.int y :: .int x :: st) ws nc ns := by
  obtain ⟨p, l, ev, R, s, m, args, below, meth, c, A, Q, hR, hx, hb, hml, hown, hts, hK, hA, hX, hin, rfl⟩ := h
  subst hq
  intro H locs ls hl' hP hB
  exact lv_icmp_lt hx hb dg ht (fun z => kt z H locs ls hl' hP hB) (fun z => kf z H locs ls hl' hP hB)
theorem j_if_ge (h : JR b cc own nL d mc ms ini Z J) {x : Int32} {off : Int} {tgt : Nat} (dg : decode cc pc = .ok (.ifCond .ge off, 3)) (ht : (pc : Int) + off = (tgt : Int)) (hq : pc + 3 = q) (kt : 0 ≤ x → J tgt lvs st ws nc ns) (kf : ¬ 0 ≤ x → J q lvs st ws nc ns) : J pc lvs (.int x :: st) ws nc ns := by
  obtain ⟨p, l, ev, R, s, m, args, below, meth, c, A, Q, hR, hx, hb, hml, hown, hts, hK, hA, hX, hin, rfl⟩ := h
  subst hq
  intro H locs ls hl' hP hB
  exact lv_if_ge hx hb dg ht (fun z => kt z H locs ls hl' hP hB) (fun z => kf z H locs ls hl' hP hB)
theorem j_icmp_ge (h : JR b cc own nL d mc ms ini Z J) {x y : Int32} {off : Int} {tgt : Nat} (dg : decode cc pc = .ok (.if_icmp .ge off, 3)) (ht : (pc : Int) + off = (tgt : Int)) (hq : pc + 3 = q) (kt : y ≤ x → J tgt lvs st ws nc ns) (kf : ¬ y ≤ x → J q lvs st ws nc ns) : J pc lvs (.int y :: .int x :: st) ws nc ns := by
  obtain ⟨p, l, ev, R, s, m, args, below, meth, c, A, Q, hR, hx, hb, hml, hown, hts, hK, hA, hX, hin, rfl⟩ := h
  subst hq
  intro H locs ls hl' hP hB
  exact lv_icmp_ge hx hb dg ht (fun z => kt z H locs ls hl' hP hB) (fun z => kf z H locs ls hl' hP hB)
theorem j_if_gt (h : JR b cc own nL d mc ms ini Z J) {x : Int32} {off : Int} {tgt : Nat} (dg : decode cc pc = .ok (.ifCond .gt off, 3)) (ht : (pc : Int) + off = (tgt : Int)) (hq : pc + 3 = q) (kt : 0 < x → J tgt lvs st ws nc ns) (kf : ¬ 0 < x → J q lvs st ws nc ns) : J pc lvs (.int x :: st) ws nc ns := by
  obtain ⟨p, l, ev, R, s, m, args, below, meth, c, A, Q, hR, hx, hb, hml, hown, hts, hK, hA, hX, hin, rfl⟩ := h
  subst hq
  intro H locs ls hl' hP hB
  exact lv_if_gt hx hb dg ht (fun z => kt z H locs ls hl' hP hB) (fun z => kf z H locs ls hl' hP hB)
theorem j_icmp_gt (h : JR b cc own nL d mc ms ini Z J) {x y : Int32} {off : Int} {tgt : Nat} (dg : decode cc pc = .ok (.if_icmp .gt off, 3)) (ht : (pc : Int) + off = (tgt : Int)) (hq : pc + 3 = q) (kt : y < x → J tgt lvs st ws nc ns) (kf : ¬ y < x → J q lvs st ws nc ns) : J pc lvs (.int y :: .int x :: st) ws nc ns := by
  obtain ⟨p, l, ev, R, s, m, args, below, meth, c, A, Q, hR, hx, hb, hml, hown, hts, hK, hA, hX, hin, rfl⟩ := h
  subst hq
  intro H locs ls hl' hP hB
  exact lv_icmp_gt hx hb dg ht (fun z => kt z H locs ls hl' hP hB) (fun z => kf z H locs ls hl' hP hB)
theorem j_if_le (h : JR b cc own nL d mc ms ini Z J) {x : Int32} {off : Int} {tgt : Nat} (dg : decode cc pc = .ok (.ifCond .le off, 3)) (ht : (pc : Int) + off = (tgt : Int)) (hq : pc + 3 = q) (kt : x ≤ 0 → J tgt lvs st ws nc ns) (kf : ¬ x ≤ 0 → J q lvs st ws nc ns) : J pc lvs (.int x :: st) ws nc ns := by
  obtain ⟨p, l, ev, R, s, m, args, below, meth, c, A, Q, hR, hx, hb, hml, hown, hts, hK, hA, hX, hin, rfl⟩ := h
  subst hq
  intro H locs ls hl' hP hB
  exact lv_if_le hx hb dg ht (fun z => kt z H locs ls hl' hP hB) (fun z => kf z H locs ls hl' hP hB)
theorem j_icmp_le (h : JR b cc own nL d mc ms ini Z J) {x y : Int32} {off : Int} {tgt : Nat} (dg : decode cc pc = .ok (.if_icmp .le off, 3)) (ht : (pc : Int) + off = (tgt : Int)) (hq : pc + 3 = q) (kt : x ≤ y → J tgt lvs st ws nc ns) (kf : ¬ x ≤ y → J q lvs st ws nc ns) : J pc lvs (.int y :: .int x :: st) ws nc ns := by
  obtain ⟨p, l, ev, R, s, m, args, below, meth, c, A, Q, hR, hx, hb, hml, hown, hts, hK, hA, hX, hin, rfl⟩ := h
  subst hq
  intro H locs ls hl' hP hB
  exact lv_icmp_le hx hb dg ht (fun z => kt z H locs ls hl' hP hB) (fun z => kf z H locs ls hl' hP hB)
theorem j_ifnonnull (h : JR b cc own nL d mc ms ini Z J) {x : Nat} {off : Int} (dg : decode cc pc = .ok (.ifnonnull off, 3)) (ht : (pc : Int) + off = (q : Int)) (K : J q lvs st ws nc ns) : J pc lvs (.ref x :: st) ws nc ns := by
  obtain ⟨p, l, ev, R, s, m, args, below, meth, c, A, Q, hR, hx, hb, hml, hown, hts, hK, hA, hX, hin, rfl⟩ := h
  intro H locs ls hl' hP hB
  exact lv_ifnonnull hx hb dg ht (K H locs ls hl' hP hB)
theorem j_ifnonnullN (h : JR b cc own nL d mc ms ini Z J) {off : Int} (dg : decode cc pc = .ok (.ifnonnull off, 3)) (hq : pc + 3 = q) (K : J q lvs st ws nc ns) : J pc lvs (.null :: st) ws nc ns := by
  obtain ⟨p, l, ev, R, s, m, args, below, meth, c, A, Q, hR, hx, hb, hml, hown, hts, hK, hA, hX, hin, rfl⟩ := h
  subst hq
  intro H locs ls hl' hP hB
  exact lv_ifnonnullN hx hb dg (K H locs ls hl' hP hB)
theorem j_tableOut (h : JR b cc own nL d mc ms ini Z J) {dflt lo hi : Int} {offs : Array Int} {len : Nat} {x : Int32} (dg : decode cc pc = .ok (.tableswitch dflt lo hi offs, len)) (hh : x.toInt < lo ∨ hi < x.toInt) (ht : (pc : Int) + dflt = (q : Int)) (K : J q lvs st ws nc ns) : J pc lvs (.int x :: st) ws nc ns := by
  obtain ⟨p, l, ev, R, s, m, args, below, meth, c, A, Q, hR, hx, hb, hml, hown, hts, hK, hA, hX, hin, rfl⟩ := h
  intro H locs ls hl' hP hB
  exact lv_tableOut hx hb dg hh ht (K H locs ls hl' hP hB)
theorem j_tableIn (h : JR b cc own nL d mc ms ini Z J) {dflt lo hi : Int} {offs : Array Int} {len : Nat} {x : Int32} {off : Int} (dg : decode cc pc = .ok (.tableswitch dflt lo hi offs, len)) (h1 : ¬ x.toInt < lo) (h2 : ¬ hi < x.toInt) (ho : offs[(x.toInt - lo).toNat]? = some off) (ht : (pc : Int) + off = (q : Int)) (K : J q lvs st ws nc ns) : J pc lvs (.int x :: st) ws nc ns := by
  obtain ⟨p, l, ev, R, s, m, args, below, meth, c, A, Q, hR, hx, hb, hml, hown, hts, hK, hA, hX, hin, rfl⟩ := h
  intro H locs ls hl' hP hB
  exact lv_tableIn hx hb dg h1 h2 ho ht (K H locs ls hl' hP hB)
/-- a world's cells in another order, or fewer -/
theorem j_world (h : JR b cc own nL d mc ms ini Z J) (is : List Nat) (hs : is.map (fun i => ws[i]?) = ws'.map some) (hn : va_nd is = true) (K : J pc lvs st ws' nc ns) : J pc lvs st ws nc ns := by
  obtain ⟨p, l, ev, R, s, m, args, below, meth, c, A, Q, hR, hx, hb, hml, hown, hts, hK, hA, hX, hin, rfl⟩ := h
  intro H locs ls hl' hP hB
  have key : ∀ (k : Nat) (q : Nat × va_E), ws'[k]? = some q → ∃ i : Nat, ws[i]? = some q := by
    intro k q hk
    have h1 : (is.map (fun i => ws[i]?))[k]? = some (some q) := by rw [hs, List.getElem?_map, hk]; rfl
    rw [List.getElem?_map] at h1
    cases hi : is[k]? with
    | none => rw [hi] at h1; cases h1
    | some i => rw [hi] at h1; exact ⟨i, Option.some.inj h1⟩
  refine K H locs ls hl' (fun k q hk => by obtain ⟨i, hi⟩ := key k q hk; exact hP i q hi) ?_
  cases b with
  | true => exact ⟨hB.1.sub is hn hs, hB.2⟩
  | false => exact hB
theorem j_locals (h : JR b cc own nL d mc ms ini Z J) (ks : List Nat) (hl : lv_pick lvs ks = lvs') (K : J pc lvs' st ws nc ns) : J pc lvs st ws nc ns := by
  obtain ⟨p, l, ev, R, s, m, args, below, meth, c, A, Q, hR, hx, hb, hml, hown, hts, hK, hA, hX, hin, rfl⟩ := h
  intro H locs ls hl' hP hB
  exact K H locs ls (lv_sub hl' ks hl) hP hB
theorem j_widen (h : JR b cc own nL d mc ms ini Z J) {nc' ns' : Nat} (h1 : nc ≤ nc') (h2 : ns ≤ ns') (K : J pc lvs st ws nc' ns') : J pc lvs st ws nc ns := by
  obtain ⟨p, l, ev, R, s, m, args, below, meth, c, A, Q, hR, hx, hb, hml, hown, hts, hK, hA, hX, hin, rfl⟩ := h
  intro H locs ls hl' hP hB
  exact W.widen h1 h2 (K H locs ls hl' hP hB)
theorem j_eqw (e : ws = ws') (K : J pc lvs st ws' nc ns) : J pc lvs st ws nc ns := e ▸ K

/-- field k of kind ci, by entry index of own -/
def JF (own : String) (index ci k : Nat) : Prop := ∃ (C : String) (T : u_T) (N : Nat), vwCl[ci]? = some (C, T, N) ∧ k < N ∧ (∀ w ∈ u_ws C T N, w ∈ jg) ∧ Cond.fieldLink own index (T k).1 (T k).2.1 (T k).2.2.1 ∈ jg
/-- the same, for a store: not final (fin = false), its type -/
def JP (own : String) (index ci k : Nat) (fin : Bool) (ty : FieldType) : Prop := ∃ (C : String) (T : u_T) (N : Nat) (ty0 : Nat → FieldType), vwCl[ci]? = some (C, T, N) ∧ k < N ∧ (∀ w ∈ u_ws C T N, w ∈ jg) ∧ Cond.fieldLink own index (T k).1 (T k).2.1 (T k).2.2.1 ∈ jg ∧ (∀ k, k < N → parseFieldDescriptor (T k).2.2.1 = some (ty0 k)) ∧ (∀ a, a < N → ∀ b, b < N → a ≠ b → (T a).2.1 ≠ (T b).2.1) ∧ (T k).2.2.2 = fin ∧ parseFieldDescriptor (T k).2.2.1 = some ty ∧ (fin = true → (T k).1 = own)
theorem j_get (h : JR b cc own nL d mc ms ini Z J) {index ci k a : Nat} {fs : List Value} {v : Value} (f : JF own index ci k) (dg : decode cc pc = .ok (.getfield index, 3)) (q0 : Nat) (he : ws[q0]? = some (a, .inr (ci, fs))) (hv : fs[k]? = some v) (hq : pc + 3 = q) (K : J q lvs (v :: st) ws nc ns) : J pc lvs (.ref a :: st) ws nc ns := by
  obtain ⟨C, T, N, f1, f2, f3, f4⟩ := f
  obtain ⟨p, l, ev, R, s, m, args, below, meth, c, A, Q, hR, hx, hb, hml, hown, hts, hK, hA, hX, hin, rfl⟩ := h
  subst hq
  intro H locs ls hl' hP hB
  exact va_get hx hb hts f3 hown hK hP q0 he f1 k f2 (hts _ f4) (fun _ h9 => h9) hv dg (K H locs ls hl' hP hB)
theorem j_put (h : JR true cc own nL d mc ms ini Z J) {index ci k a : Nat} {fs : List Value} {v : Value} {ty : FieldType} (f : JP own index ci k false ty) (dg : decode cc pc = .ok (.putfield index, 3)) (q0 : Nat) (he : ws[q0]? = some (a, .inr (ci, fs))) (hn : narrow ty v = v) (hfit : fits ty v = true) (hl : k < fs.length) (hw : ws.set q0 (a, .inr (ci, fs.set k v)) = ws') (hq : pc + 3 = q) (K : J q lvs st ws' nc ns) : J pc lvs (v :: .ref a :: st) ws nc ns := by
  obtain ⟨C, T, N, ty0, f1, f2, f3, f4, f5, f6, f7, f8, -⟩ := f
  obtain ⟨p, l, ev, R, s, m, args, below, meth, c, A, Q, hR, hx, hb, hml, hown, hts, hK, hA, hX, hin, rfl⟩ := h
  subst hq
  subst hw
  intro H locs ls hl' hP hB
  exact va_put hx hb hts f3 ty0 f5 f6 hown hK hP hB.1 hB.2 q0 he f1 k f2 (hts _ f4) (fun _ h9 => h9) f7 f8 hn hfit hl dg (fun H1 locs1 hP1 hD1 hS1 => K H1 locs1 ls hl' hP1 ⟨hD1, hS1⟩)
theorem j_putF (h : JR true cc own nL d mc ms true Z J) {index ci k a : Nat} {fs : List Value} {v : Value} {ty : FieldType} (f : JP own index ci k true ty) (dg : decode cc pc = .ok (.putfield index, 3)) (q0 : Nat) (he : ws[q0]? = some (a, .inr (ci, fs))) (hn : narrow ty v = v) (hfit : fits ty v = true) (hl : k < fs.length) (hw : ws.set q0 (a, .inr (ci, fs.set k v)) = ws') (hq : pc + 3 = q) (K : J q lvs st ws' nc ns) : J pc lvs (v :: .ref a :: st) ws nc ns := by
  obtain ⟨C, T, N, ty0, f1, f2, f3, f4, f5, f6, f7, f8, f9⟩ := f
  obtain ⟨p, l, ev, R, s, m, args, below, meth, c, A, Q, hR, hx, hb, hml, hown, hts, hK, hA, hX, hin, rfl⟩ := h
  subst hq
  subst hw
  intro H locs ls hl' hP hB
  exact va_putF hx hb hts f3 ty0 f5 f6 hown hK hP hB.1 hB.2 q0 he f1 k f2 (hts _ f4) (fun _ h9 => h9) f7 (hin rfl) (f9 rfl) f8 hn hfit hl dg (fun H1 locs1 hP1 hD1 hS1 => K H1 locs1 ls hl' hP1 ⟨hD1, hS1⟩)

theorem j_iald (h : JR b cc own nL d mc ms ini Z J) {a n : Nat} {f : Nat → Int32} {i z : Int32} (dg : decode cc pc = .ok (.iaload, 1)) (q0 : Nat) (he : ws[q0]? = some (a, .inl (Z.2.1 0, n, .inl f))) (hi : vp_in i n) (hz : f i.toNatClampNeg = z) (hq : pc + 1 = q) (K : J q lvs (.int z :: st) ws nc ns) : J pc lvs (.int i :: .ref a :: st) ws nc ns := by
  obtain ⟨p, l, ev, R, s, m, args, below, meth, c, A, Q, hR, hx, hb, hml, hown, hts, hK, hA, hX, hin, rfl⟩ := h
  subst hq
  subst hz
  intro H locs ls hl' hP hB
  exact va_iald hx hb hK hP q0 0 he rfl hi dg (K H locs ls hl' hP hB)
theorem j_ialdN (h : JR b cc own nL d mc ms ini Z J) {a n j : Nat} {f : Nat → Int32} {z : Int32} (dg : decode cc pc = .ok (.iaload, 1)) (q0 : Nat) (he : ws[q0]? = some (a, .inl (Z.2.1 0, n, .inl f))) (hj : j < n) (hn : n < 2 ^ 31) (hz : f j = z) (hq : pc + 1 = q) (K : J q lvs (.int z :: st) ws nc ns) : J pc lvs (.int (nI j) :: .ref a :: st) ws nc ns :=
  j_iald h dg q0 he (vp_in_nI hj hn) (by rw [nI_clamp (Nat.lt_trans hj hn)]; exact hz) hq K
theorem j_bald (h : JR b cc own nL d mc ms ini Z J) {a n : Nat} {f : Nat → Int32} {i z : Int32} (dg : decode cc pc = .ok (.baload, 1)) (q0 : Nat) (he : ws[q0]? = some (a, .inl (Z.2.1 1, n, .inl f))) (hi : vp_in i n) (hz : f i.toNatClampNeg = z) (hq : pc + 1 = q) (K : J q lvs (.int z :: st) ws nc ns) : J pc lvs (.int i :: .ref a :: st) ws nc ns := by
  obtain ⟨p, l, ev, R, s, m, args, below, meth, c, A, Q, hR, hx, hb, hml, hown, hts, hK, hA, hX, hin, rfl⟩ := h
  subst hq
  subst hz
  intro H locs ls hl' hP hB
  exact va_bald hx hb hK hP q0 1 he rfl hi dg (K H locs ls hl' hP hB)
theorem j_baldN (h : JR b cc own nL d mc ms ini Z J) {a n j : Nat} {f : Nat → Int32} {z : Int32} (dg : decode cc pc = .ok (.baload, 1)) (q0 : Nat) (he : ws[q0]? = some (a, .inl (Z.2.1 1, n, .inl f))) (hj : j < n) (hn : n < 2 ^ 31) (hz : f j = z) (hq : pc + 1 = q) (K : J q lvs (.int z :: st) ws nc ns) : J pc lvs (.int (nI j) :: .ref a :: st) ws nc ns :=
  j_bald h dg q0 he (vp_in_nI hj hn) (by rw [nI_clamp (Nat.lt_trans hj hn)]; exact hz) hq K
theorem j_zald (h : JR b cc own nL d mc ms ini Z J) {a n : Nat} {f : Nat → Int32} {i z : Int32} (dg : decode cc pc = .ok (.baload, 1)) (q0 : Nat) (he : ws[q0]? = some (a, .inl (Z.2.1 2, n, .inl f))) (hi : vp_in i n) (hz : f i.toNatClampNeg = z) (hq : pc + 1 = q) (K : J q lvs (.int z :: st) ws nc ns) : J pc lvs (.int i :: .ref a :: st) ws nc ns := by
  obtain ⟨p, l, ev, R, s, m, args, below, meth, c, A, Q, hR, hx, hb, hml, hown, hts, hK, hA, hX, hin, rfl⟩ := h
  subst hq
  subst hz
  intro H locs ls hl' hP hB
  exact va_zald hx hb hK hP q0 2 he rfl hi dg (K H locs ls hl' hP hB)
theorem j_zaldN (h : JR b cc own nL d mc ms ini Z J) {a n j : Nat} {f : Nat → Int32} {z : Int32} (dg : decode cc pc = .ok (.baload, 1)) (q0 : Nat) (he : ws[q0]? = some (a, .inl (Z.2.1 2, n, .inl f))) (hj : j < n) (hn : n < 2 ^ 31) (hz : f j = z) (hq : pc + 1 = q) (K : J q lvs (.int z :: st) ws nc ns) : J pc lvs (.int (nI j) :: .ref a :: st) ws nc ns :=
  j_zald h dg q0 he (vp_in_nI hj hn) (by rw [nI_clamp (Nat.lt_trans hj hn)]; exact hz) hq K
theorem j_iastN (h : JR true cc own nL d mc ms ini Z J) {a n j : Nat} {f f' : Nat → Int32} {x : Int32} (dg : decode cc pc = .ok (.iastore, 1)) (q0 : Nat) (he : ws[q0]? = some (a, .inl (Z.2.1 0, n, .inl f))) (hj : j < n) (hn : n < 2 ^ 31) (hf : upd f j x = f') (hw : ws.set q0 (a, .inl (Z.2.1 0, n, .inl f')) = ws') (hq : pc + 1 = q) (K : J q lvs st ws' nc ns) : J pc lvs (.int x :: .int (nI j) :: .ref a :: st) ws nc ns := by
  obtain ⟨p, l, ev, R, s, m, args, below, meth, c, A, Q, hR, hx, hb, hml, hown, hts, hK, hA, hX, hin, rfl⟩ := h
  subst hq
  subst hw
  subst hf
  intro H locs ls hl' hP hB
  refine va_iast hx hb hK hP hB.1 hB.2 q0 0 he rfl (vp_in_nI hj hn) dg (fun H1 locs1 hP1 hD1 hS1 => K H1 locs1 ls hl' ?_ ⟨?_, hS1⟩)
  · rw [nI_clamp (Nat.lt_trans hj hn)] at hP1; exact hP1
  · rw [nI_clamp (Nat.lt_trans hj hn)] at hD1; exact hD1
theorem j_bastN (h : JR true cc own nL d mc ms ini Z J) {a n j : Nat} {f f' : Nat → Int32} {x : Int32} (dg : decode cc pc = .ok (.bastore, 1)) (q0 : Nat) (he : ws[q0]? = some (a, .inl (Z.2.1 1, n, .inl f))) (hj : j < n) (hn : n < 2 ^ 31) (hf : upd f j (vp_nar .byte x) = f') (hw : ws.set q0 (a, .inl (Z.2.1 1, n, .inl f')) = ws') (hq : pc + 1 = q) (K : J q lvs st ws' nc ns) : J pc lvs (.int x :: .int (nI j) :: .ref a :: st) ws nc ns := by
  obtain ⟨p, l, ev, R, s, m, args, below, meth, c, A, Q, hR, hx, hb, hml, hown, hts, hK, hA, hX, hin, rfl⟩ := h
  subst hq
  subst hw
  subst hf
  intro H locs ls hl' hP hB
  refine va_bast hx hb hK hP hB.1 hB.2 q0 1 he rfl (vp_in_nI hj hn) dg (fun H1 locs1 hP1 hD1 hS1 => K H1 locs1 ls hl' ?_ ⟨?_, hS1⟩)
  · rw [nI_clamp (Nat.lt_trans hj hn)] at hP1; exact hP1
  · rw [nI_clamp (Nat.lt_trans hj hn)] at hD1; exact hD1
theorem j_zastN (h : JR true cc own nL d mc ms ini Z J) {a n j : Nat} {f f' : Nat → Int32} {x : Int32} (dg : decode cc pc = .ok (.bastore, 1)) (q0 : Nat) (he : ws[q0]? = some (a, .inl (Z.2.1 2, n, .inl f))) (hj : j < n) (hn : n < 2 ^ 31) (hf : upd f j (vp_nar .boolean x) = f') (hw : ws.set q0 (a, .inl (Z.2.1 2, n, .inl f')) = ws') (hq : pc + 1 = q) (K : J q lvs st ws' nc ns) : J pc lvs (.int x :: .int (nI j) :: .ref a :: st) ws nc ns := by
  obtain ⟨p, l, ev, R, s, m, args, below, meth, c, A, Q, hR, hx, hb, hml, hown, hts, hK, hA, hX, hin, rfl⟩ := h
  subst hq
  subst hw
  subst hf
  intro H locs ls hl' hP hB
  refine va_zast hx hb hK hP hB.1 hB.2 q0 2 he rfl (vp_in_nI hj hn) dg (fun H1 locs1 hP1 hD1 hS1 => K H1 locs1 ls hl' ?_ ⟨?_, hS1⟩)
  · rw [nI_clamp (Nat.lt_trans hj hn)] at hP1; exact hP1
  · rw [nI_clamp (Nat.lt_trans hj hn)] at hD1; exact hD1

theorem jk_good : ∀ w ∈ jg, goodWord w = true := fun w h => (List.mem_filter.mp h).2
theorem jk_in : GoodIn jg jg := fun w h => ⟨h, good_of_word (jk_good w h)⟩
theorem jk_inc {w : Cond} (h : w ∈ jg) : GoodIn jg (w :: jg) := fun v hv => (List.mem_cons.mp hv).elim (fun e => e ▸ jk_in w h) (jk_in v)
/-- a call of a method by entry index of own: its row, its code, its parameters -/
def JC (own : String) (index : Nat) (y : MethodName) (bytes : ByteArray) (maxL : Nat) (ret : Option FieldType) (n : Nat) : Prop :=
  Cond.methodLink own index y ∈ jg ∧ Cond.initialized y.cls ∈ jg ∧ Cond.code y bytes maxL ret ∈ jg ∧ (y.cls ≠ "java/lang/invoke/MethodHandle" ∧ y.cls ≠ "java/lang/invoke/VarHandle" ∧ (parseMethodDescriptor y.desc).map (fun d => d.parameters.length) = some n)
def JCs (own : String) (index : Nat) (y : MethodName) (bytes : ByteArray) (maxL : Nat) (ret : Option FieldType) (n : Nat) : Prop := JC own index y bytes maxL ret n ∧ Cond.static y ∈ jg
def JCv (own : String) (index : Nat) (C : String) (y : MethodName) (bytes : ByteArray) (maxL : Nat) (ret : Option FieldType) (n : Nat) : Prop := JC own index y bytes maxL ret n ∧ Cond.instanceMethod y ∈ jg ∧ Cond.selects C y y ∈ jg
def JCi (own : String) (index : Nat) (y : MethodName) (bytes : ByteArray) (maxL : Nat) (n : Nat) : Prop := JC own index y bytes maxL none n ∧ Cond.instanceMethod y ∈ jg ∧ y.name = "<init>"

end JRules
