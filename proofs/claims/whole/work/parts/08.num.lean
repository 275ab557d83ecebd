
def zI (z : Int) : Int32 := Int32.ofInt z
def zL (z : Int) : Int64 := Int64.ofInt z
def bI (b : Bool) : Int32 := nI (cond b 1 0)
def oI (o : Option Nat) : Int32 := match o with
  | none => zI (-1)
  | some i => nI i
def ni (A : Nat → Nat) : Nat → Int32 := fun j => nI (A j)
theorem ni_up (A : Nat → Nat) (j v : Nat) : upd (ni A) j (nI v) = ni (va_up A j v) := by
  funext k
  by_cases h : k = j <;> simp [upd, ni, va_up, h]
theorem zI_nat (n : Nat) : zI (n : Int) = nI n := by
  apply Int32.toBitVec_inj.mp
  show BitVec.ofInt 32 (n : Int) = BitVec.ofNat 32 n
  first | exact BitVec.ofInt_natCast 32 n | exact BitVec.ofInt_natCast _ _ | simp
theorem zL_nat (n : Nat) : zL (n : Int) = lN n := by
  apply Int64.toBitVec_inj.mp
  show BitVec.ofInt 64 (n : Int) = BitVec.ofNat 64 n
  first | exact BitVec.ofInt_natCast 64 n | exact BitVec.ofInt_natCast _ _ | simp
theorem zI_of (x : Int32) : x = zI x.toInt := (Int32.ofInt_toInt x).symm
theorem zI_add {x y : Int32} {a b : Int} (ex : x = zI a) (ey : y = zI b) : x + y = zI (a + b) := by
  subst ex; subst ey
  exact (Int32.ofInt_add a b).symm
theorem zI_sub {x y : Int32} {a b : Int} (ex : x = zI a) (ey : y = zI b) : x - y = zI (a - b) := by
  subst ex; subst ey
  exact (Int32.ofInt_sub a b).symm
theorem zI_mul {x y : Int32} {a b : Int} (ex : x = zI a) (ey : y = zI b) : x * y = zI (a * b) := by
  subst ex; subst ey
  exact (Int32.ofInt_mul a b).symm
theorem zL_add (a b : Int) : zL a + zL b = zL (a + b) := (Int64.ofInt_add a b).symm
theorem zL_mul (a b : Int) : zL a * zL b = zL (a * b) := (Int64.ofInt_mul a b).symm
theorem zI_toInt {z : Int} (h : -2147483648 ≤ z ∧ z < 2147483648) : (zI z).toInt = z := by
  unfold zI
  rw [Int32.toInt_ofInt]
  have := h.1
  have := h.2
  simp only [Int32.size] at *
  first
    | exact Int.bmod_eq_of_le (by omega) (by omega)
    | (rw [Int.bmod_def]; omega)
theorem zL_toInt {z : Int} (h : -9223372036854775808 ≤ z ∧ z < 9223372036854775808) : (zL z).toInt = z := by
  unfold zL
  rw [Int64.toInt_ofInt]
  have := h.1
  have := h.2
  simp only [Int64.size] at *
  first
    | exact Int.bmod_eq_of_le (by omega) (by omega)
    | (rw [Int.bmod_def]; omega)
theorem zI_rng (x : Int32) : -2147483648 ≤ x.toInt ∧ x.toInt < 2147483648 := by
  have h1 := Int32.le_toInt x
  have h2 := Int32.toInt_lt x
  constructor <;> omega
theorem zL_i (x : Int32) {z : Int} (ex : x = zI z) (h : -2147483648 ≤ z ∧ z < 2147483648) : x.toInt64 = zL z := by
  subst ex
  apply Int64.toInt_inj.mp
  rw [Int32.toInt_toInt64, zI_toInt h, zL_toInt ⟨by omega, by omega⟩]
theorem zI_l {z : Int} (h : -9223372036854775808 ≤ z ∧ z < 9223372036854775808) : (zL z).toInt32 = zI z := by
  apply Int32.toInt_inj.mp
  rw [Int64.toInt_toInt32, zL_toInt h]
  unfold zI
  rw [Int32.toInt_ofInt]
theorem zI_lt {a b : Int} (ha : -2147483648 ≤ a ∧ a < 2147483648) (hb : -2147483648 ≤ b ∧ b < 2147483648) : zI a < zI b ↔ a < b := by
  rw [Int32.lt_iff_toInt_lt, zI_toInt ha, zI_toInt hb]
theorem zI_le {a b : Int} (ha : -2147483648 ≤ a ∧ a < 2147483648) (hb : -2147483648 ≤ b ∧ b < 2147483648) : zI a ≤ zI b ↔ a ≤ b := by
  rw [Int32.le_iff_toInt_le, zI_toInt ha, zI_toInt hb]
theorem zI_eq {a b : Int} (ha : -2147483648 ≤ a ∧ a < 2147483648) (hb : -2147483648 ≤ b ∧ b < 2147483648) : zI a = zI b ↔ a = b := by
  rw [← Int32.toInt_inj, zI_toInt ha, zI_toInt hb]
theorem zI_0 : (0 : Int32) = zI 0 := rfl
theorem zI_cmp {a b : Int} (ha : -9223372036854775808 ≤ a ∧ a < 9223372036854775808) (hb : -9223372036854775808 ≤ b ∧ b < 9223372036854775808) : lg_cmp (zL a) (zL b) = zI (if a < b then -1 else if a = b then 0 else 1) := by
  have e1 : zL a < zL b ↔ a < b := by rw [Int64.lt_iff_toInt_lt, zL_toInt ha, zL_toInt hb]
  have e2 : zL a = zL b ↔ a = b := by rw [← Int64.toInt_inj, zL_toInt ha, zL_toInt hb]
  have e3 : zL b < zL a ↔ b < a := by rw [Int64.lt_iff_toInt_lt, zL_toInt ha, zL_toInt hb]
  unfold lg_cmp
  simp only [e1, e2, e3]
  rcases Int.lt_trichotomy a b with h | h | h
  · rw [if_pos h, if_neg (by omega), if_neg (by omega)]; rfl
  · rw [if_neg (by omega), if_pos h, if_neg (by omega), if_pos h]; rfl
  · rw [if_pos h, if_neg (by omega), if_neg (by omega)]; rfl
theorem zI_k {x : Int32} {n : Nat} (h : 0 ≤ x.toInt ∧ x.toInt ≤ n) : ∃ k : Nat, k ≤ n ∧ x = nI k := by
  refine ⟨x.toInt.toNat, by omega, ?_⟩
  rw [← zI_nat, Int.toNat_of_nonneg h.1]
  exact zI_of x
theorem nI_toI {n : Nat} (h : n < 2147483648) : (nI n).toInt = n := nI_toInt h
section JN
variable {b : Bool} {cc : ByteArray} {own : String} {nL d mc ms : Nat} {ini : Bool} {Z : jZ} {J : JT} {pc q : Nat} {lvs : List (Nat × Value)} {st : List Value} {ws : va_W} {nc ns : Nat} {off : Int} {tgt : Nat}
theorem j_top {x y : Int32} (e : x = y) (K : J pc lvs (.int y :: st) ws nc ns) : J pc lvs (.int x :: st) ws nc ns := e ▸ K
theorem jn_icmp_eq (h : JR b cc own nL d mc ms ini Z J) {x y : Nat} (dg : decode cc pc = .ok (.if_icmp .eq off, 3)) (ht : (pc : Int) + off = (tgt : Int)) (hq : pc + 3 = q) (hx : x < 2 ^ 31) (hy : y < 2 ^ 31) (kt : x = y → J tgt lvs st ws nc ns) (kf : ¬ x = y → J q lvs st ws nc ns) : J pc lvs (.int (nI y) :: .int (nI x) :: st) ws nc ns :=
  j_icmp_eq h dg ht hq (fun c => kt ((nI_eq hx hy).mp c)) (fun c => kf (fun z => c ((nI_eq hx hy).mpr z)))
theorem jz_icmp_eq (h : JR b cc own nL d mc ms ini Z J) {x y : Int} {xx yy : Int32} (dg : decode cc pc = .ok (.if_icmp .eq off, 3)) (ht : (pc : Int) + off = (tgt : Int)) (hq : pc + 3 = q) (ex : xx = zI x) (ey : yy = zI y) (hx : -2147483648 ≤ x ∧ x < 2147483648) (hy : -2147483648 ≤ y ∧ y < 2147483648) (kt : x = y → J tgt lvs st ws nc ns) (kf : ¬ x = y → J q lvs st ws nc ns) : J pc lvs (.int yy :: .int xx :: st) ws nc ns := by
  subst ex; subst ey
  exact j_icmp_eq h dg ht hq (fun c => kt ((zI_eq hx hy).mp c)) (fun c => kf (fun z => c ((zI_eq hx hy).mpr z)))
theorem jz_if_eq (h : JR b cc own nL d mc ms ini Z J) {x : Int} {xx : Int32} (dg : decode cc pc = .ok (.ifCond .eq off, 3)) (ht : (pc : Int) + off = (tgt : Int)) (hq : pc + 3 = q) (ex : xx = zI x) (hx : -2147483648 ≤ x ∧ x < 2147483648) (kt : x = 0 → J tgt lvs st ws nc ns) (kf : ¬ x = 0 → J q lvs st ws nc ns) : J pc lvs (.int xx :: st) ws nc ns := by
  subst ex
  exact j_if_eq h dg ht hq (fun c => kt ((zI_eq (b := 0) hx (by omega)).mp c)) (fun c => kf (fun z => c ((zI_eq (b := 0) hx (by omega)).mpr z)))
theorem jn_icmp_ne (h : JR b cc own nL d mc ms ini Z J) {x y : Nat} (dg : decode cc pc = .ok (.if_icmp .ne off, 3)) (ht : (pc : Int) + off = (tgt : Int)) (hq : pc + 3 = q) (hx : x < 2 ^ 31) (hy : y < 2 ^ 31) (kt : ¬ x = y → J tgt lvs st ws nc ns) (kf : x = y → J q lvs st ws nc ns) : J pc lvs (.int (nI y) :: .int (nI x) :: st) ws nc ns :=
  j_icmp_ne h dg ht hq (fun c => kt (fun z => c ((nI_eq hx hy).mpr z))) (fun c => kf ((nI_eq hx hy).mp c))
theorem jz_icmp_ne (h : JR b cc own nL d mc ms ini Z J) {x y : Int} {xx yy : Int32} (dg : decode cc pc = .ok (.if_icmp .ne off, 3)) (ht : (pc : Int) + off = (tgt : Int)) (hq : pc + 3 = q) (ex : xx = zI x) (ey : yy = zI y) (hx : -2147483648 ≤ x ∧ x < 2147483648) (hy : -2147483648 ≤ y ∧ y < 2147483648) (kt : ¬ x = y → J tgt lvs st ws nc ns) (kf : x = y → J q lvs st ws nc ns) : J pc lvs (.int yy :: .int xx :: st) ws nc ns := by
  subst ex; subst ey
  exact j_icmp_ne h dg ht hq (fun c => kt (fun z => c ((zI_eq hx hy).mpr z))) (fun c => kf ((zI_eq hx hy).mp c))
theorem jz_if_ne (h : JR b cc own nL d mc ms ini Z J) {x : Int} {xx : Int32} (dg : decode cc pc = .ok (.ifCond .ne off, 3)) (ht : (pc : Int) + off = (tgt : Int)) (hq : pc + 3 = q) (ex : xx = zI x) (hx : -2147483648 ≤ x ∧ x < 2147483648) (kt : ¬ x = 0 → J tgt lvs st ws nc ns) (kf : x = 0 → J q lvs st ws nc ns) : J pc lvs (.int xx :: st) ws nc ns := by
  subst ex
  exact j_if_ne h dg ht hq (fun c => kt (fun z => c ((zI_eq (b := 0) hx (by omega)).mpr z))) (fun c => kf ((zI_eq (b := 0) hx (by omega)).mp c))
theorem jn_icmp_lt (h : JR b cc own nL d mc ms ini Z J) {x y : Nat} (dg : decode cc pc = .ok (.if_icmp .lt off, 3)) (ht : (pc : Int) + off = (tgt : Int)) (hq : pc + 3 = q) (hx : x < 2 ^ 31) (hy : y < 2 ^ 31) (kt : x < y → J tgt lvs st ws nc ns) (kf : y ≤ x → J q lvs st ws nc ns) : J pc lvs (.int (nI y) :: .int (nI x) :: st) ws nc ns :=
  j_icmp_lt h dg ht hq (fun c => kt ((nI_ltI hx hy).mp c)) (fun c => kf (Nat.le_of_not_lt (fun z => c ((nI_ltI hx hy).mpr z))))
theorem jz_icmp_lt (h : JR b cc own nL d mc ms ini Z J) {x y : Int} {xx yy : Int32} (dg : decode cc pc = .ok (.if_icmp .lt off, 3)) (ht : (pc : Int) + off = (tgt : Int)) (hq : pc + 3 = q) (ex : xx = zI x) (ey : yy = zI y) (hx : -2147483648 ≤ x ∧ x < 2147483648) (hy : -2147483648 ≤ y ∧ y < 2147483648) (kt : x < y → J tgt lvs st ws nc ns) (kf : y ≤ x → J q lvs st ws nc ns) : J pc lvs (.int yy :: .int xx :: st) ws nc ns := by
  subst ex; subst ey
  exact j_icmp_lt h dg ht hq (fun c => kt ((zI_lt hx hy).mp c)) (fun c => kf (Int.not_lt.mp (fun z => c ((zI_lt hx hy).mpr z))))
theorem jz_if_lt (h : JR b cc own nL d mc ms ini Z J) {x : Int} {xx : Int32} (dg : decode cc pc = .ok (.ifCond .lt off, 3)) (ht : (pc : Int) + off = (tgt : Int)) (hq : pc + 3 = q) (ex : xx = zI x) (hx : -2147483648 ≤ x ∧ x < 2147483648) (kt : x < 0 → J tgt lvs st ws nc ns) (kf : 0 ≤ x → J q lvs st ws nc ns) : J pc lvs (.int xx :: st) ws nc ns := by
  subst ex
  exact j_if_lt h dg ht hq (fun c => kt ((zI_lt (b := 0) hx (by omega)).mp c)) (fun c => kf (Int.not_lt.mp (fun z => c ((zI_lt (b := 0) hx (by omega)).mpr z))))
theorem jn_icmp_ge (h : JR b cc own nL d mc ms ini Z J) {x y : Nat} (dg : decode cc pc = .ok (.if_icmp .ge off, 3)) (ht : (pc : Int) + off = (tgt : Int)) (hq : pc + 3 = q) (hx : x < 2 ^ 31) (hy : y < 2 ^ 31) (kt : y ≤ x → J tgt lvs st ws nc ns) (kf : x < y → J q lvs st ws nc ns) : J pc lvs (.int (nI y) :: .int (nI x) :: st) ws nc ns :=
  j_icmp_ge h dg ht hq (fun c => kt ((nI_leI hy hx).mp c)) (fun c => kf (Nat.lt_of_not_le (fun z => c ((nI_leI hy hx).mpr z))))
theorem jz_icmp_ge (h : JR b cc own nL d mc ms ini Z J) {x y : Int} {xx yy : Int32} (dg : decode cc pc = .ok (.if_icmp .ge off, 3)) (ht : (pc : Int) + off = (tgt : Int)) (hq : pc + 3 = q) (ex : xx = zI x) (ey : yy = zI y) (hx : -2147483648 ≤ x ∧ x < 2147483648) (hy : -2147483648 ≤ y ∧ y < 2147483648) (kt : y ≤ x → J tgt lvs st ws nc ns) (kf : x < y → J q lvs st ws nc ns) : J pc lvs (.int yy :: .int xx :: st) ws nc ns := by
  subst ex; subst ey
  exact j_icmp_ge h dg ht hq (fun c => kt ((zI_le hy hx).mp c)) (fun c => kf (Int.not_le.mp (fun z => c ((zI_le hy hx).mpr z))))
theorem jz_if_ge (h : JR b cc own nL d mc ms ini Z J) {x : Int} {xx : Int32} (dg : decode cc pc = .ok (.ifCond .ge off, 3)) (ht : (pc : Int) + off = (tgt : Int)) (hq : pc + 3 = q) (ex : xx = zI x) (hx : -2147483648 ≤ x ∧ x < 2147483648) (kt : 0 ≤ x → J tgt lvs st ws nc ns) (kf : x < 0 → J q lvs st ws nc ns) : J pc lvs (.int xx :: st) ws nc ns := by
  subst ex
  exact j_if_ge h dg ht hq (fun c => kt ((zI_le (a := 0) (by omega) hx).mp c)) (fun c => kf (Int.not_le.mp (fun z => c ((zI_le (a := 0) (by omega) hx).mpr z))))
theorem jn_icmp_gt (h : JR b cc own nL d mc ms ini Z J) {x y : Nat} (dg : decode cc pc = .ok (.if_icmp .gt off, 3)) (ht : (pc : Int) + off = (tgt : Int)) (hq : pc + 3 = q) (hx : x < 2 ^ 31) (hy : y < 2 ^ 31) (kt : y < x → J tgt lvs st ws nc ns) (kf : x ≤ y → J q lvs st ws nc ns) : J pc lvs (.int (nI y) :: .int (nI x) :: st) ws nc ns :=
  j_icmp_gt h dg ht hq (fun c => kt ((nI_ltI hy hx).mp c)) (fun c => kf (Nat.le_of_not_lt (fun z => c ((nI_ltI hy hx).mpr z))))
theorem jz_icmp_gt (h : JR b cc own nL d mc ms ini Z J) {x y : Int} {xx yy : Int32} (dg : decode cc pc = .ok (.if_icmp .gt off, 3)) (ht : (pc : Int) + off = (tgt : Int)) (hq : pc + 3 = q) (ex : xx = zI x) (ey : yy = zI y) (hx : -2147483648 ≤ x ∧ x < 2147483648) (hy : -2147483648 ≤ y ∧ y < 2147483648) (kt : y < x → J tgt lvs st ws nc ns) (kf : x ≤ y → J q lvs st ws nc ns) : J pc lvs (.int yy :: .int xx :: st) ws nc ns := by
  subst ex; subst ey
  exact j_icmp_gt h dg ht hq (fun c => kt ((zI_lt hy hx).mp c)) (fun c => kf (Int.not_lt.mp (fun z => c ((zI_lt hy hx).mpr z))))
theorem jz_if_gt (h : JR b cc own nL d mc ms ini Z J) {x : Int} {xx : Int32} (dg : decode cc pc = .ok (.ifCond .gt off, 3)) (ht : (pc : Int) + off = (tgt : Int)) (hq : pc + 3 = q) (ex : xx = zI x) (hx : -2147483648 ≤ x ∧ x < 2147483648) (kt : 0 < x → J tgt lvs st ws nc ns) (kf : x ≤ 0 → J q lvs st ws nc ns) : J pc lvs (.int xx :: st) ws nc ns := by
  subst ex
  exact j_if_gt h dg ht hq (fun c => kt ((zI_lt (a := 0) (by omega) hx).mp c)) (fun c => kf (Int.not_lt.mp (fun z => c ((zI_lt (a := 0) (by omega) hx).mpr z))))
theorem jn_icmp_le (h : JR b cc own nL d mc ms ini Z J) {x y : Nat} (dg : decode cc pc = .ok (.if_icmp .le off, 3)) (ht : (pc : Int) + off = (tgt : Int)) (hq : pc + 3 = q) (hx : x < 2 ^ 31) (hy : y < 2 ^ 31) (kt : x ≤ y → J tgt lvs st ws nc ns) (kf : y < x → J q lvs st ws nc ns) : J pc lvs (.int (nI y) :: .int (nI x) :: st) ws nc ns :=
  j_icmp_le h dg ht hq (fun c => kt ((nI_leI hx hy).mp c)) (fun c => kf (Nat.lt_of_not_le (fun z => c ((nI_leI hx hy).mpr z))))
theorem jz_icmp_le (h : JR b cc own nL d mc ms ini Z J) {x y : Int} {xx yy : Int32} (dg : decode cc pc = .ok (.if_icmp .le off, 3)) (ht : (pc : Int) + off = (tgt : Int)) (hq : pc + 3 = q) (ex : xx = zI x) (ey : yy = zI y) (hx : -2147483648 ≤ x ∧ x < 2147483648) (hy : -2147483648 ≤ y ∧ y < 2147483648) (kt : x ≤ y → J tgt lvs st ws nc ns) (kf : y < x → J q lvs st ws nc ns) : J pc lvs (.int yy :: .int xx :: st) ws nc ns := by
  subst ex; subst ey
  exact j_icmp_le h dg ht hq (fun c => kt ((zI_le hx hy).mp c)) (fun c => kf (Int.not_le.mp (fun z => c ((zI_le hx hy).mpr z))))
theorem jz_if_le (h : JR b cc own nL d mc ms ini Z J) {x : Int} {xx : Int32} (dg : decode cc pc = .ok (.ifCond .le off, 3)) (ht : (pc : Int) + off = (tgt : Int)) (hq : pc + 3 = q) (ex : xx = zI x) (hx : -2147483648 ≤ x ∧ x < 2147483648) (kt : x ≤ 0 → J tgt lvs st ws nc ns) (kf : 0 < x → J q lvs st ws nc ns) : J pc lvs (.int xx :: st) ws nc ns := by
  subst ex
  exact j_if_le h dg ht hq (fun c => kt ((zI_le (b := 0) hx (by omega)).mp c)) (fun c => kf (Int.not_le.mp (fun z => c ((zI_le (b := 0) hx (by omega)).mpr z))))
theorem jn_if_eq (h : JR b cc own nL d mc ms ini Z J) {x : Nat} (dg : decode cc pc = .ok (.ifCond .eq off, 3)) (ht : (pc : Int) + off = (tgt : Int)) (hq : pc + 3 = q) (hx : x < 2 ^ 31) (kt : x = 0 → J tgt lvs st ws nc ns) (kf : ¬ x = 0 → J q lvs st ws nc ns) : J pc lvs (.int (nI x) :: st) ws nc ns :=
  j_if_eq h dg ht hq (fun c => kt ((nI_eq hx (by decide)).mp c)) (fun c => kf (fun z => c ((nI_eq hx (by decide)).mpr z)))
theorem jp_if_eq (h : JR b cc own nL d mc ms ini Z J) {p : Prop} [inst : Decidable p] (dg : decode cc pc = .ok (.ifCond .eq off, 3)) (ht : (pc : Int) + off = (tgt : Int)) (hq : pc + 3 = q) (kt : ¬ p → J tgt lvs st ws nc ns) (kf : p → J q lvs st ws nc ns) : J pc lvs (.int (bI (decide p)) :: st) ws nc ns := by
  refine j_if_eq h dg ht hq (fun c => kt ?_) (fun c => kf ?_)
  · by_cases hp : p
    · first | exact hp | (exfalso; rw [decide_eq_true hp] at c; revert c; decide)
    · first | exact hp | (exfalso; rw [decide_eq_false hp] at c; revert c; decide)
  · by_cases hp : p
    · first | exact hp | (exfalso; rw [decide_eq_true hp] at c; revert c; decide)
    · first | exact hp | (exfalso; rw [decide_eq_false hp] at c; revert c; decide)
theorem jn_if_ne (h : JR b cc own nL d mc ms ini Z J) {x : Nat} (dg : decode cc pc = .ok (.ifCond .ne off, 3)) (ht : (pc : Int) + off = (tgt : Int)) (hq : pc + 3 = q) (hx : x < 2 ^ 31) (kt : ¬ x = 0 → J tgt lvs st ws nc ns) (kf : x = 0 → J q lvs st ws nc ns) : J pc lvs (.int (nI x) :: st) ws nc ns :=
  j_if_ne h dg ht hq (fun c => kt (fun z => c ((nI_eq hx (by decide)).mpr z))) (fun c => kf ((nI_eq hx (by decide)).mp c))
theorem jp_if_ne (h : JR b cc own nL d mc ms ini Z J) {p : Prop} [inst : Decidable p] (dg : decode cc pc = .ok (.ifCond .ne off, 3)) (ht : (pc : Int) + off = (tgt : Int)) (hq : pc + 3 = q) (kt : p → J tgt lvs st ws nc ns) (kf : ¬ p → J q lvs st ws nc ns) : J pc lvs (.int (bI (decide p)) :: st) ws nc ns := by
  refine j_if_ne h dg ht hq (fun c => kt ?_) (fun c => kf ?_)
  · by_cases hp : p
    · first | exact hp | (exfalso; rw [decide_eq_true hp] at c; revert c; decide)
    · first | exact hp | (exfalso; rw [decide_eq_false hp] at c; revert c; decide)
  · by_cases hp : p
    · first | exact hp | (exfalso; rw [decide_eq_true hp] at c; revert c; decide)
    · first | exact hp | (exfalso; rw [decide_eq_false hp] at c; revert c; decide)
theorem jc_if_eq (h : JR b cc own nL d mc ms ini Z J) {x y : Int} (dg : decode cc pc = .ok (.ifCond .eq off, 3)) (ht : (pc : Int) + off = (tgt : Int)) (hq : pc + 3 = q) (kt : x = y → J tgt lvs st ws nc ns) (kf : ¬ x = y → J q lvs st ws nc ns) : J pc lvs (.int (zI (if x < y then -1 else if x = y then 0 else 1)) :: st) ws nc ns := by
  refine jz_if_eq h dg ht hq rfl (by split <;> (try split) <;> omega) (fun c => kt ?_) (fun c => kf ?_) <;> (split at c <;> (try split at c) <;> omega)
theorem jc_if_ne (h : JR b cc own nL d mc ms ini Z J) {x y : Int} (dg : decode cc pc = .ok (.ifCond .ne off, 3)) (ht : (pc : Int) + off = (tgt : Int)) (hq : pc + 3 = q) (kt : ¬ x = y → J tgt lvs st ws nc ns) (kf : x = y → J q lvs st ws nc ns) : J pc lvs (.int (zI (if x < y then -1 else if x = y then 0 else 1)) :: st) ws nc ns := by
  refine jz_if_ne h dg ht hq rfl (by split <;> (try split) <;> omega) (fun c => kt ?_) (fun c => kf ?_) <;> (split at c <;> (try split at c) <;> omega)
theorem jc_if_lt (h : JR b cc own nL d mc ms ini Z J) {x y : Int} (dg : decode cc pc = .ok (.ifCond .lt off, 3)) (ht : (pc : Int) + off = (tgt : Int)) (hq : pc + 3 = q) (kt : x < y → J tgt lvs st ws nc ns) (kf : y ≤ x → J q lvs st ws nc ns) : J pc lvs (.int (zI (if x < y then -1 else if x = y then 0 else 1)) :: st) ws nc ns := by
  refine jz_if_lt h dg ht hq rfl (by split <;> (try split) <;> omega) (fun c => kt ?_) (fun c => kf ?_) <;> (split at c <;> (try split at c) <;> omega)
theorem jc_if_ge (h : JR b cc own nL d mc ms ini Z J) {x y : Int} (dg : decode cc pc = .ok (.ifCond .ge off, 3)) (ht : (pc : Int) + off = (tgt : Int)) (hq : pc + 3 = q) (kt : y ≤ x → J tgt lvs st ws nc ns) (kf : x < y → J q lvs st ws nc ns) : J pc lvs (.int (zI (if x < y then -1 else if x = y then 0 else 1)) :: st) ws nc ns := by
  refine jz_if_ge h dg ht hq rfl (by split <;> (try split) <;> omega) (fun c => kt ?_) (fun c => kf ?_) <;> (split at c <;> (try split at c) <;> omega)
theorem jc_if_gt (h : JR b cc own nL d mc ms ini Z J) {x y : Int} (dg : decode cc pc = .ok (.ifCond .gt off, 3)) (ht : (pc : Int) + off = (tgt : Int)) (hq : pc + 3 = q) (kt : y < x → J tgt lvs st ws nc ns) (kf : x ≤ y → J q lvs st ws nc ns) : J pc lvs (.int (zI (if x < y then -1 else if x = y then 0 else 1)) :: st) ws nc ns := by
  refine jz_if_gt h dg ht hq rfl (by split <;> (try split) <;> omega) (fun c => kt ?_) (fun c => kf ?_) <;> (split at c <;> (try split at c) <;> omega)
theorem jc_if_le (h : JR b cc own nL d mc ms ini Z J) {x y : Int} (dg : decode cc pc = .ok (.ifCond .le off, 3)) (ht : (pc : Int) + off = (tgt : Int)) (hq : pc + 3 = q) (kt : x ≤ y → J tgt lvs st ws nc ns) (kf : y < x → J q lvs st ws nc ns) : J pc lvs (.int (zI (if x < y then -1 else if x = y then 0 else 1)) :: st) ws nc ns := by
  refine jz_if_le h dg ht hq rfl (by split <;> (try split) <;> omega) (fun c => kt ?_) (fun c => kf ?_) <;> (split at c <;> (try split at c) <;> omega)
theorem jb_if_eq (h : JR b cc own nL d mc ms ini Z J) {t : Bool} (dg : decode cc pc = .ok (.ifCond .eq off, 3)) (ht : (pc : Int) + off = (tgt : Int)) (hq : pc + 3 = q) (kt : t = false → J tgt lvs st ws nc ns) (kf : t = true → J q lvs st ws nc ns) : J pc lvs (.int (bI t) :: st) ws nc ns := by
  refine j_if_eq h dg ht hq (fun c => kt ?_) (fun c => kf ?_) <;> (cases t <;> first | rfl | (exfalso; revert c; decide))
theorem jb_if_ne (h : JR b cc own nL d mc ms ini Z J) {t : Bool} (dg : decode cc pc = .ok (.ifCond .ne off, 3)) (ht : (pc : Int) + off = (tgt : Int)) (hq : pc + 3 = q) (kt : t = true → J tgt lvs st ws nc ns) (kf : t = false → J q lvs st ws nc ns) : J pc lvs (.int (bI t) :: st) ws nc ns := by
  refine j_if_ne h dg ht hq (fun c => kt ?_) (fun c => kf ?_) <;> (cases t <;> first | rfl | (exfalso; revert c; decide))
theorem jn_tableIn (h : JR b cc own nL d mc ms ini Z J) {dflt lo hi : Int} {offs : Array Int} {len x k : Nat} (hk : x = k) (dg : decode cc pc = .ok (.tableswitch dflt lo hi offs, len)) (h1 : ¬ (nI k).toInt < lo) (h2 : ¬ hi < (nI k).toInt) (ho : offs[((nI k).toInt - lo).toNat]? = some off) (ht : (pc : Int) + off = (q : Int)) (K : J q lvs st ws nc ns) : J pc lvs (.int (nI x) :: st) ws nc ns := by
  subst hk
  exact j_tableIn h dg h1 h2 ho ht K
theorem jn_tableOut (h : JR b cc own nL d mc ms ini Z J) {dflt lo hi : Int} {offs : Array Int} {len x k : Nat} (hk : x = k) (dg : decode cc pc = .ok (.tableswitch dflt lo hi offs, len)) (h1 : (nI k).toInt < lo ∨ hi < (nI k).toInt) (ht : (pc : Int) + dflt = (q : Int)) (K : J q lvs st ws nc ns) : J pc lvs (.int (nI x) :: st) ws nc ns := by
  subst hk
  exact j_tableOut h dg h1 ht K
theorem j_caseo {o : Option Nat} (kn : o = none → J pc lvs (.int (zI (-1)) :: st) ws nc ns) (ks : ∀ i : Nat, o = some i → J pc lvs (.int (nI i) :: st) ws nc ns) : J pc lvs (.int (oI o) :: st) ws nc ns := by
  cases o with
  | none => exact kn rfl
  | some i => exact ks i rfl
end JN
theorem bI_t {p : Prop} [inst : Decidable p] (h : p) : nI 1 = bI (decide p) := by rw [decide_eq_true h]; rfl
theorem bI_f {p : Prop} [inst : Decidable p] (h : ¬ p) : nI 0 = bI (decide p) := by rw [decide_eq_false h]; rfl

theorem sh_k : ∀ k, k < 32 → ((nI k &&& 31).toBitVec.smod 32).toNat = k := by decide +kernel
theorem nI_shl {a k : Nat} (hk : k < 32) (h : a * 2 ^ k < 2 ^ 32) : nI a <<< (nI k &&& 31) = nI (a * 2 ^ k) := pk_shlN _ k (sh_k k hk) h
theorem nI_shr {a k : Nat} (hk : k < 32) (h : a < 2 ^ 31) : nI a >>> (nI k &&& 31) = nI (a / 2 ^ k) := pk_shrN h _ k (sh_k k hk)
theorem nI_and1 {a : Nat} (h : a < 2 ^ 32) : nI a &&& nI 1 = nI (a % 2) := pk_andN h 1 (by decide)
theorem nI_and3 {a : Nat} (h : a < 2 ^ 32) : nI a &&& nI 3 = nI (a % 4) := pk_andN h 2 (by decide)
theorem nI_or (a b : Nat) : nI a ||| nI b = nI (a ||| b) := by
  apply Int32.toBitVec_inj.mp
  simp [nI]

theorem nI_dec {a : Nat} (h : 0 < a) : nI a + Int32.ofInt (-1) = nI (a - 1) := by
  obtain ⟨k, rfl⟩ : ∃ k, a = k + 1 := ⟨a - 1, by omega⟩
  exact pk_m1 k
theorem nI_b8 : ∀ v, v < 128 → (nI v).toInt8.toInt32 = nI v := by decide +kernel
theorem ni_upb (A : Nat → Nat) (j : Nat) {v : Nat} (h : v < 128) : upd (ni A) j (vp_nar .byte (nI v)) = ni (va_up A j v) := by
  rw [vp_nar_byte, nI_b8 v h]; exact ni_up A j v
theorem nI_z2 : ∀ v, v < 2 → vp_nar .boolean (nI v) = nI v := by decide +kernel
theorem ni_upz (A : Nat → Nat) (j : Nat) {v : Nat} (h : v < 2) : upd (ni A) j (vp_nar .boolean (nI v)) = ni (va_up A j v) := by
  rw [nI_z2 v h]; exact ni_up A j v
theorem zL_ne0 {b : Int} (h0 : 0 < b) (h : b < 9223372036854775808) : ¬ zL b = 0 := by
  intro e
  have := congrArg Int64.toInt e
  rw [zL_toInt ⟨by omega, h⟩] at this
  simp at this
  omega
theorem zL_div {a b : Int} (ha : 0 ≤ a ∧ a < 9223372036854775808) (h0 : 0 < b) (hb : b < 9223372036854775808) : zL a / zL b = zL (a / b) := by
  obtain ⟨x, rfl⟩ := Int.eq_ofNat_of_zero_le ha.1
  obtain ⟨y, rfl⟩ := Int.eq_ofNat_of_zero_le (Int.le_of_lt h0)
  rw [zL_nat, zL_nat, pk_lDiv (by omega) (by omega) (by omega), ← zL_nat]
  rfl
theorem zL_rem {a b : Int} (ha : 0 ≤ a ∧ a < 9223372036854775808) (h0 : 0 < b) (hb : b < 9223372036854775808) : zL a - zL a / zL b * zL b = zL (a % b) := by
  obtain ⟨x, rfl⟩ := Int.eq_ofNat_of_zero_le ha.1
  obtain ⟨y, rfl⟩ := Int.eq_ofNat_of_zero_le (Int.le_of_lt h0)
  rw [zL_nat, zL_nat, pk_lRem (by omega) (by omega) (by omega), ← zL_nat]
  rfl
abbrev ia (Z : jZ) (n : Nat) (f : Nat → Int32) : va_E := .inl (Z.2.1 0, n, .inl f)
abbrev ba (Z : jZ) (n : Nat) (f : Nat → Int32) : va_E := .inl (Z.2.1 1, n, .inl f)
abbrev za (Z : jZ) (n : Nat) (f : Nat → Int32) : va_E := .inl (Z.2.1 2, n, .inl f)
abbrev qa (Z : jZ) (n : Nat) (f : Nat → Option Nat) : va_E := .inl (Z.2.1 3, n, .inr (.inr (.inr (.inr f))))

