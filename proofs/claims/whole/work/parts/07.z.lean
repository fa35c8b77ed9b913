def shlI (a b : Int32) : Int32 := a <<< (b &&& 31)
def shrI (a b : Int32) : Int32 := a >>> (b &&& 31)
def ushrI (a b : Int32) : Int32 := (a.toUInt32 >>> (b.toUInt32 &&& Int32.toUInt32 31)).toInt32
def shlJ (a : Int64) (b : Int32) : Int64 := a <<< (b.toInt64 &&& 63)
def shrJ (a : Int64) (b : Int32) : Int64 := a >>> (b.toInt64 &&& 63)
def ushrJ (a : Int64) (b : Int32) : Int64 := (a.toUInt64 >>> (b.toInt64.toUInt64 &&& Int64.toUInt64 63)).toInt64
def remI (a b : Int32) : Int32 := a - a / b * b
def i2c (a : Int32) : Int32 := (a.toUInt32 % 65536).toInt32
def inB (i : Int32) (k : Nat) : Bool := !decide (i < 0) && decide (i.toNatClampNeg < k)
theorem inB_vp {i : Int32} {k : Nat} (h : inB i k = true) : vp_in i k := by
  unfold inB at h
  simp only [Bool.and_eq_true, Bool.not_eq_true', decide_eq_false_iff_not, decide_eq_true_eq] at h
  exact fun q => q.elim (fun q => h.1 q) (fun q => Nat.not_lt.mpr q h.2)
def xb {α β : Type} (y : Option ((Nat ⊕ α) × Mem)) (f : α → Mem → Option ((Nat ⊕ β) × Mem)) : Option ((Nat ⊕ β) × Mem) := y.bind (fun b => match b.1 with | .inl k => some (.inl k, b.2) | .inr v => f v b.2)
def cvI (b : Int32 × Mem) : Res := (.inr (some (.int b.1)), b.2)
def cvB (b : Bool × Mem) : Res := (.inr (some (.int (bI b.1))), b.2)
def cvJ (b : Int64 × Mem) : Res := (.inr (some (.long b.1)), b.2)
def cvA (B : Nat) (b : Nat × Mem) : Res := (.inr (some (.ref (B + b.1))), b.2)
def cvV (b : Mem) : Res := (.inr none, b)
def pI (M : Mem) (b : Int32) : Res := (.inr (some (.int b)), M)
def pB (M : Mem) (b : Bool) : Res := (.inr (some (.int (bI b))), M)
def pJ (M : Mem) (b : Int64) : Res := (.inr (some (.long b)), M)
def pA (B : Nat) (M : Mem) (b : Nat) : Res := (.inr (some (.ref (B + b))), M)
def xIc (b : (Nat ⊕ Int32) × Mem) : Res := (match b.1 with | .inl k => .inl k | .inr v => .inr (some (.int v)), b.2)
def xBc (b : (Nat ⊕ Bool) × Mem) : Res := (match b.1 with | .inl k => .inl k | .inr v => .inr (some (.int (bI v))), b.2)
def xJc (b : (Nat ⊕ Int64) × Mem) : Res := (match b.1 with | .inl k => .inl k | .inr v => .inr (some (.long v)), b.2)
def xAc (B : Nat) (b : (Nat ⊕ Nat) × Mem) : Res := (match b.1 with | .inl k => .inl k | .inr v => .inr (some (.ref (B + v))), b.2)
def xVc (b : (Nat ⊕ Unit) × Mem) : Res := (match b.1 with | .inl k => .inl k | .inr _ => .inr none, b.2)
/-- a class as the tables have it -/
def clOk (K : Nat) (Cn : String) (T : u_T) (N : Nat) (ty0 : Nat → FieldType) : Prop := vwCl[K]? = some (Cn, T, N) ∧ (∀ w ∈ u_ws Cn T N, w ∈ GW) ∧ (∀ k, k < N → parseFieldDescriptor (T k).2.2.1 = some (ty0 k)) ∧ (∀ a, a < N → ∀ b, b < N → a ≠ b → (T a).2.1 ≠ (T b).2.1) ∧ K < 20 ∧ (lay K).length = N
section ZZ
variable {p : Program} {l : Launch} {e : Env} {R : Room} {s : State} {m : MethodId} {args : Array Value} {below : List Frame} {meth : Method} {c : Code} {Q : State → Prop}
variable {D : va_G} {cy : Nat → ClassId} {B : Nat} {kd : Nat → Nat} {n : Nat} {sa sv : Nat → Nat} {own : String} {cc : ByteArray} {nL : Nat}
variable {β : Type} {b0 : β} {cu pc : Nat} {ls : List (Nat × Value)} {st : List Value} {M : Mem} {x : Option β}
theorem z_ishl (C : zC p l s m args meth c D cy B kd n sa sv own cc nL) {a b : Int32} (d : decode cc pc = .ok (.ishl, 1))  (kk : Z p l e R s m args below meth c Q D cy B kd n nL b0 (cu) (pc + 1) ls (.int (shlI a b) :: st) (M) (x)) : Z p l e R s m args below meth c Q D cy B kd n nL b0 (cu) (pc) ls (.int b :: .int a :: st) (M) (x) := by
  intro hx H locs lsA cells slots hc hs hH hS hl
  exact lv_ishl C.1 C.2.1 d (kk hx H locs lsA cells slots hc hs hH hS hl)
theorem z_ishr (C : zC p l s m args meth c D cy B kd n sa sv own cc nL) {a b : Int32} (d : decode cc pc = .ok (.ishr, 1))  (kk : Z p l e R s m args below meth c Q D cy B kd n nL b0 (cu) (pc + 1) ls (.int (shrI a b) :: st) (M) (x)) : Z p l e R s m args below meth c Q D cy B kd n nL b0 (cu) (pc) ls (.int b :: .int a :: st) (M) (x) := by
  intro hx H locs lsA cells slots hc hs hH hS hl
  exact lv_ishr C.1 C.2.1 d (kk hx H locs lsA cells slots hc hs hH hS hl)
theorem z_iushr (C : zC p l s m args meth c D cy B kd n sa sv own cc nL) {a b : Int32} (d : decode cc pc = .ok (.iushr, 1))  (kk : Z p l e R s m args below meth c Q D cy B kd n nL b0 (cu) (pc + 1) ls (.int (ushrI a b) :: st) (M) (x)) : Z p l e R s m args below meth c Q D cy B kd n nL b0 (cu) (pc) ls (.int b :: .int a :: st) (M) (x) := by
  intro hx H locs lsA cells slots hc hs hH hS hl
  exact lv_iushr C.1 C.2.1 d rfl (kk hx H locs lsA cells slots hc hs hH hS hl)
theorem z_lshl (C : zC p l s m args meth c D cy B kd n sa sv own cc nL) {a : Int64} {b : Int32} (d : decode cc pc = .ok (.lshl, 1))  (kk : Z p l e R s m args below meth c Q D cy B kd n nL b0 (cu) (pc + 1) ls (.long (shlJ a b) :: st) (M) (x)) : Z p l e R s m args below meth c Q D cy B kd n nL b0 (cu) (pc) ls (.int b :: .long a :: st) (M) (x) := by
  intro hx H locs lsA cells slots hc hs hH hS hl
  exact lv_lshl C.1 C.2.1 d rfl (kk hx H locs lsA cells slots hc hs hH hS hl)
theorem z_lshr (C : zC p l s m args meth c D cy B kd n sa sv own cc nL) {a : Int64} {b : Int32} (d : decode cc pc = .ok (.lshr, 1))  (kk : Z p l e R s m args below meth c Q D cy B kd n nL b0 (cu) (pc + 1) ls (.long (shrJ a b) :: st) (M) (x)) : Z p l e R s m args below meth c Q D cy B kd n nL b0 (cu) (pc) ls (.int b :: .long a :: st) (M) (x) := by
  intro hx H locs lsA cells slots hc hs hH hS hl
  exact lv_lshr C.1 C.2.1 d rfl (kk hx H locs lsA cells slots hc hs hH hS hl)
theorem z_lushr (C : zC p l s m args meth c D cy B kd n sa sv own cc nL) {a : Int64} {b : Int32} (d : decode cc pc = .ok (.lushr, 1))  (kk : Z p l e R s m args below meth c Q D cy B kd n nL b0 (cu) (pc + 1) ls (.long (ushrJ a b) :: st) (M) (x)) : Z p l e R s m args below meth c Q D cy B kd n nL b0 (cu) (pc) ls (.int b :: .long a :: st) (M) (x) := by
  intro hx H locs lsA cells slots hc hs hH hS hl
  exact lv_lushr C.1 C.2.1 d rfl (kk hx H locs lsA cells slots hc hs hH hS hl)
theorem z_i2l (C : zC p l s m args meth c D cy B kd n sa sv own cc nL) {a : Int32} (d : decode cc pc = .ok (.i2l, 1))  (kk : Z p l e R s m args below meth c Q D cy B kd n nL b0 (cu) (pc + 1) ls (.long a.toInt64 :: st) (M) (x)) : Z p l e R s m args below meth c Q D cy B kd n nL b0 (cu) (pc) ls (.int a :: st) (M) (x) := by
  intro hx H locs lsA cells slots hc hs hH hS hl
  exact lv_i2l C.1 C.2.1 d rfl (kk hx H locs lsA cells slots hc hs hH hS hl)
theorem z_l2i (C : zC p l s m args meth c D cy B kd n sa sv own cc nL) {a : Int64} (d : decode cc pc = .ok (.l2i, 1))  (kk : Z p l e R s m args below meth c Q D cy B kd n nL b0 (cu) (pc + 1) ls (.int a.toInt32 :: st) (M) (x)) : Z p l e R s m args below meth c Q D cy B kd n nL b0 (cu) (pc) ls (.long a :: st) (M) (x) := by
  intro hx H locs lsA cells slots hc hs hH hS hl
  exact lv_l2i C.1 C.2.1 d rfl (kk hx H locs lsA cells slots hc hs hH hS hl)
theorem z_i2b (C : zC p l s m args meth c D cy B kd n sa sv own cc nL) {a : Int32} (d : decode cc pc = .ok (.i2b, 1))  (kk : Z p l e R s m args below meth c Q D cy B kd n nL b0 (cu) (pc + 1) ls (.int a.toInt8.toInt32 :: st) (M) (x)) : Z p l e R s m args below meth c Q D cy B kd n nL b0 (cu) (pc) ls (.int a :: st) (M) (x) := by
  intro hx H locs lsA cells slots hc hs hH hS hl
  exact lv_i2b C.1 C.2.1 d rfl (kk hx H locs lsA cells slots hc hs hH hS hl)
theorem z_i2s (C : zC p l s m args meth c D cy B kd n sa sv own cc nL) {a : Int32} (d : decode cc pc = .ok (.i2s, 1))  (kk : Z p l e R s m args below meth c Q D cy B kd n nL b0 (cu) (pc + 1) ls (.int a.toInt16.toInt32 :: st) (M) (x)) : Z p l e R s m args below meth c Q D cy B kd n nL b0 (cu) (pc) ls (.int a :: st) (M) (x) := by
  intro hx H locs lsA cells slots hc hs hH hS hl
  exact lv_i2s C.1 C.2.1 d rfl (kk hx H locs lsA cells slots hc hs hH hS hl)
theorem z_i2c (C : zC p l s m args meth c D cy B kd n sa sv own cc nL) {a : Int32} (d : decode cc pc = .ok (.i2c, 1))  (kk : Z p l e R s m args below meth c Q D cy B kd n nL b0 (cu) (pc + 1) ls (.int (i2c a) :: st) (M) (x)) : Z p l e R s m args below meth c Q D cy B kd n nL b0 (cu) (pc) ls (.int a :: st) (M) (x) := by
  intro hx H locs lsA cells slots hc hs hH hS hl
  exact lv_i2c C.1 C.2.1 d rfl (kk hx H locs lsA cells slots hc hs hH hS hl)
theorem z_idiv (C : zC p l s m args meth c D cy B kd n sa sv own cc nL) {a b : Int32} (d : decode cc pc = .ok (.idiv, 1)) (kk : ¬ b = 0 → Z p l e R s m args below meth c Q D cy B kd n nL b0 (cu) (pc + 1) ls (.int (a / b) :: st) (M) (x)) : Z p l e R s m args below meth c Q D cy B kd n nL b0 (cu) (pc) ls (.int b :: .int a :: st) (M) (if b = 0 then none else x) := by
  intro hx H locs lsA cells slots hc hs hH hS hl
  by_cases h : b = 0
  · rw [if_pos h] at hx; cases hx
  · rw [if_neg h] at hx; exact lv_idiv C.1 C.2.1 d h (kk h hx H locs lsA cells slots hc hs hH hS hl)
theorem z_irem (C : zC p l s m args meth c D cy B kd n sa sv own cc nL) {a b : Int32} (d : decode cc pc = .ok (.irem, 1)) (kk : ¬ b = 0 → Z p l e R s m args below meth c Q D cy B kd n nL b0 (cu) (pc + 1) ls (.int (remI a b) :: st) (M) (x)) : Z p l e R s m args below meth c Q D cy B kd n nL b0 (cu) (pc) ls (.int b :: .int a :: st) (M) (if b = 0 then none else x) := by
  intro hx H locs lsA cells slots hc hs hH hS hl
  by_cases h : b = 0
  · rw [if_pos h] at hx; cases hx
  · rw [if_neg h] at hx; exact lv_irem C.1 C.2.1 d h (kk h hx H locs lsA cells slots hc hs hH hS hl)
theorem z_dup (C : zC p l s m args meth c D cy B kd n sa sv own cc nL) {v : Value} (d : decode cc pc = .ok (.dup, 1)) (hv : v.category = 1) (kk : Z p l e R s m args below meth c Q D cy B kd n nL b0 (cu) (pc + 1) ls (v :: v :: st) (M) (x)) : Z p l e R s m args below meth c Q D cy B kd n nL b0 (cu) (pc) ls (v :: st) (M) (x) := by
  intro hx H locs lsA cells slots hc hs hH hS hl
  exact lv_dup C.1 C.2.1 d hv (kk hx H locs lsA cells slots hc hs hH hS hl)
theorem z_pop (C : zC p l s m args meth c D cy B kd n sa sv own cc nL) {v : Value} (d : decode cc pc = .ok (.pop, 1)) (hv : v.category = 1) (kk : Z p l e R s m args below meth c Q D cy B kd n nL b0 (cu) (pc + 1) ls (st) (M) (x)) : Z p l e R s m args below meth c Q D cy B kd n nL b0 (cu) (pc) ls (v :: st) (M) (x) := by
  intro hx H locs lsA cells slots hc hs hH hS hl
  exact lv_pop C.1 C.2.1 d hv (kk hx H locs lsA cells slots hc hs hH hS hl)
theorem z_dup2 (C : zC p l s m args meth c D cy B kd n sa sv own cc nL) {v u : Value} (d : decode cc pc = .ok (.dup2, 1)) (hv : v.category = 1) (hu : u.category = 1) (kk : Z p l e R s m args below meth c Q D cy B kd n nL b0 (cu) (pc + 1) ls (v :: u :: v :: u :: st) (M) (x)) : Z p l e R s m args below meth c Q D cy B kd n nL b0 (cu) (pc) ls (v :: u :: st) (M) (x) := by
  intro hx H locs lsA cells slots hc hs hH hS hl
  exact lv_dup2_11 C.1 C.2.1 d hv hu (kk hx H locs lsA cells slots hc hs hH hS hl)
theorem z_dup2L (C : zC p l s m args meth c D cy B kd n sa sv own cc nL) {v : Value} (d : decode cc pc = .ok (.dup2, 1)) (hv : v.category = 2) (kk : Z p l e R s m args below meth c Q D cy B kd n nL b0 (cu) (pc + 1) ls (v :: v :: st) (M) (x)) : Z p l e R s m args below meth c Q D cy B kd n nL b0 (cu) (pc) ls (v :: st) (M) (x) := by
  intro hx H locs lsA cells slots hc hs hH hS hl
  exact lv_dup2_2 C.1 C.2.1 d hv (kk hx H locs lsA cells slots hc hs hH hS hl)
theorem z_dup_x1 (C : zC p l s m args meth c D cy B kd n sa sv own cc nL) {v u : Value} (d : decode cc pc = .ok (.dup_x1, 1)) (hv : v.category = 1) (hu : u.category = 1) (kk : Z p l e R s m args below meth c Q D cy B kd n nL b0 (cu) (pc + 1) ls (v :: u :: v :: st) (M) (x)) : Z p l e R s m args below meth c Q D cy B kd n nL b0 (cu) (pc) ls (v :: u :: st) (M) (x) := by
  intro hx H locs lsA cells slots hc hs hH hS hl
  exact lv_dup_x1 C.1 C.2.1 d hv hu (kk hx H locs lsA cells slots hc hs hH hS hl)
theorem z_if_eq (C : zC p l s m args meth c D cy B kd n sa sv own cc nL) {a : Int32} {off : Int} {x1 x2 : Option β} (tgt : Nat) (d : decode cc pc = .ok (.ifCond .eq off, 3)) (ht : (pc : Int) + off = (tgt : Int)) (kt : a = 0 → Z p l e R s m args below meth c Q D cy B kd n nL b0 (cu) (tgt) ls (st) (M) (x1)) (kf : ¬ (a = 0) → Z p l e R s m args below meth c Q D cy B kd n nL b0 (cu) (pc + 3) ls (st) (M) (x2)) : Z p l e R s m args below meth c Q D cy B kd n nL b0 (cu) (pc) ls (.int a :: st) (M) (if a = 0 then x1 else x2) := by
  intro hx H locs lsA cells slots hc hs hH hS hl
  refine lv_if_eq C.1 C.2.1 d ht (fun q => kt q (by rw [if_pos q] at hx; exact hx) H locs lsA cells slots hc hs hH hS hl) (fun q => kf q (by rw [if_neg q] at hx; exact hx) H locs lsA cells slots hc hs hH hS hl)
theorem z_if_ne (C : zC p l s m args meth c D cy B kd n sa sv own cc nL) {a : Int32} {off : Int} {x1 x2 : Option β} (tgt : Nat) (d : decode cc pc = .ok (.ifCond .ne off, 3)) (ht : (pc : Int) + off = (tgt : Int)) (kt : a = 0 → Z p l e R s m args below meth c Q D cy B kd n nL b0 (cu) (pc + 3) ls (st) (M) (x1)) (kf : ¬ (a = 0) → Z p l e R s m args below meth c Q D cy B kd n nL b0 (cu) (tgt) ls (st) (M) (x2)) : Z p l e R s m args below meth c Q D cy B kd n nL b0 (cu) (pc) ls (.int a :: st) (M) (if a = 0 then x1 else x2) := by
  intro hx H locs lsA cells slots hc hs hH hS hl
  refine lv_if_ne C.1 C.2.1 d ht (fun q => kf q (by rw [if_neg q] at hx; exact hx) H locs lsA cells slots hc hs hH hS hl) (fun q => kt (by first | exact q | exact Classical.not_not.mp q) (by rw [if_pos (by first | exact q | exact Classical.not_not.mp q)] at hx; exact hx) H locs lsA cells slots hc hs hH hS hl)
theorem z_if_lt (C : zC p l s m args meth c D cy B kd n sa sv own cc nL) {a : Int32} {off : Int} {x1 x2 : Option β} (tgt : Nat) (d : decode cc pc = .ok (.ifCond .lt off, 3)) (ht : (pc : Int) + off = (tgt : Int)) (kt : a < 0 → Z p l e R s m args below meth c Q D cy B kd n nL b0 (cu) (tgt) ls (st) (M) (x1)) (kf : ¬ (a < 0) → Z p l e R s m args below meth c Q D cy B kd n nL b0 (cu) (pc + 3) ls (st) (M) (x2)) : Z p l e R s m args below meth c Q D cy B kd n nL b0 (cu) (pc) ls (.int a :: st) (M) (if a < 0 then x1 else x2) := by
  intro hx H locs lsA cells slots hc hs hH hS hl
  refine lv_if_lt C.1 C.2.1 d ht (fun q => kt q (by rw [if_pos q] at hx; exact hx) H locs lsA cells slots hc hs hH hS hl) (fun q => kf q (by rw [if_neg q] at hx; exact hx) H locs lsA cells slots hc hs hH hS hl)
theorem z_if_ge (C : zC p l s m args meth c D cy B kd n sa sv own cc nL) {a : Int32} {off : Int} {x1 x2 : Option β} (tgt : Nat) (d : decode cc pc = .ok (.ifCond .ge off, 3)) (ht : (pc : Int) + off = (tgt : Int)) (kt : 0 ≤ a → Z p l e R s m args below meth c Q D cy B kd n nL b0 (cu) (tgt) ls (st) (M) (x1)) (kf : ¬ (0 ≤ a) → Z p l e R s m args below meth c Q D cy B kd n nL b0 (cu) (pc + 3) ls (st) (M) (x2)) : Z p l e R s m args below meth c Q D cy B kd n nL b0 (cu) (pc) ls (.int a :: st) (M) (if 0 ≤ a then x1 else x2) := by
  intro hx H locs lsA cells slots hc hs hH hS hl
  refine lv_if_ge C.1 C.2.1 d ht (fun q => kt q (by rw [if_pos q] at hx; exact hx) H locs lsA cells slots hc hs hH hS hl) (fun q => kf q (by rw [if_neg q] at hx; exact hx) H locs lsA cells slots hc hs hH hS hl)
theorem z_if_gt (C : zC p l s m args meth c D cy B kd n sa sv own cc nL) {a : Int32} {off : Int} {x1 x2 : Option β} (tgt : Nat) (d : decode cc pc = .ok (.ifCond .gt off, 3)) (ht : (pc : Int) + off = (tgt : Int)) (kt : 0 < a → Z p l e R s m args below meth c Q D cy B kd n nL b0 (cu) (tgt) ls (st) (M) (x1)) (kf : ¬ (0 < a) → Z p l e R s m args below meth c Q D cy B kd n nL b0 (cu) (pc + 3) ls (st) (M) (x2)) : Z p l e R s m args below meth c Q D cy B kd n nL b0 (cu) (pc) ls (.int a :: st) (M) (if 0 < a then x1 else x2) := by
  intro hx H locs lsA cells slots hc hs hH hS hl
  refine lv_if_gt C.1 C.2.1 d ht (fun q => kt q (by rw [if_pos q] at hx; exact hx) H locs lsA cells slots hc hs hH hS hl) (fun q => kf q (by rw [if_neg q] at hx; exact hx) H locs lsA cells slots hc hs hH hS hl)
theorem z_if_le (C : zC p l s m args meth c D cy B kd n sa sv own cc nL) {a : Int32} {off : Int} {x1 x2 : Option β} (tgt : Nat) (d : decode cc pc = .ok (.ifCond .le off, 3)) (ht : (pc : Int) + off = (tgt : Int)) (kt : a ≤ 0 → Z p l e R s m args below meth c Q D cy B kd n nL b0 (cu) (tgt) ls (st) (M) (x1)) (kf : ¬ (a ≤ 0) → Z p l e R s m args below meth c Q D cy B kd n nL b0 (cu) (pc + 3) ls (st) (M) (x2)) : Z p l e R s m args below meth c Q D cy B kd n nL b0 (cu) (pc) ls (.int a :: st) (M) (if a ≤ 0 then x1 else x2) := by
  intro hx H locs lsA cells slots hc hs hH hS hl
  refine lv_if_le C.1 C.2.1 d ht (fun q => kt q (by rw [if_pos q] at hx; exact hx) H locs lsA cells slots hc hs hH hS hl) (fun q => kf q (by rw [if_neg q] at hx; exact hx) H locs lsA cells slots hc hs hH hS hl)
theorem z_icmp_eq (C : zC p l s m args meth c D cy B kd n sa sv own cc nL) {a b : Int32} {off : Int} {x1 x2 : Option β} (tgt : Nat) (d : decode cc pc = .ok (.if_icmp .eq off, 3)) (ht : (pc : Int) + off = (tgt : Int)) (kt : a = b → Z p l e R s m args below meth c Q D cy B kd n nL b0 (cu) (tgt) ls (st) (M) (x1)) (kf : ¬ (a = b) → Z p l e R s m args below meth c Q D cy B kd n nL b0 (cu) (pc + 3) ls (st) (M) (x2)) : Z p l e R s m args below meth c Q D cy B kd n nL b0 (cu) (pc) ls (.int b :: .int a :: st) (M) (if a = b then x1 else x2) := by
  intro hx H locs lsA cells slots hc hs hH hS hl
  refine lv_icmp_eq C.1 C.2.1 d ht (fun q => kt q (by rw [if_pos q] at hx; exact hx) H locs lsA cells slots hc hs hH hS hl) (fun q => kf q (by rw [if_neg q] at hx; exact hx) H locs lsA cells slots hc hs hH hS hl)
theorem z_icmp_ne (C : zC p l s m args meth c D cy B kd n sa sv own cc nL) {a b : Int32} {off : Int} {x1 x2 : Option β} (tgt : Nat) (d : decode cc pc = .ok (.if_icmp .ne off, 3)) (ht : (pc : Int) + off = (tgt : Int)) (kt : a = b → Z p l e R s m args below meth c Q D cy B kd n nL b0 (cu) (pc + 3) ls (st) (M) (x1)) (kf : ¬ (a = b) → Z p l e R s m args below meth c Q D cy B kd n nL b0 (cu) (tgt) ls (st) (M) (x2)) : Z p l e R s m args below meth c Q D cy B kd n nL b0 (cu) (pc) ls (.int b :: .int a :: st) (M) (if a = b then x1 else x2) := by
  intro hx H locs lsA cells slots hc hs hH hS hl
  refine lv_icmp_ne C.1 C.2.1 d ht (fun q => kf q (by rw [if_neg q] at hx; exact hx) H locs lsA cells slots hc hs hH hS hl) (fun q => kt (by first | exact q | exact Classical.not_not.mp q) (by rw [if_pos (by first | exact q | exact Classical.not_not.mp q)] at hx; exact hx) H locs lsA cells slots hc hs hH hS hl)
theorem z_icmp_lt (C : zC p l s m args meth c D cy B kd n sa sv own cc nL) {a b : Int32} {off : Int} {x1 x2 : Option β} (tgt : Nat) (d : decode cc pc = .ok (.if_icmp .lt off, 3)) (ht : (pc : Int) + off = (tgt : Int)) (kt : a < b → Z p l e R s m args below meth c Q D cy B kd n nL b0 (cu) (tgt) ls (st) (M) (x1)) (kf : ¬ (a < b) → Z p l e R s m args below meth c Q D cy B kd n nL b0 (cu) (pc + 3) ls (st) (M) (x2)) : Z p l e R s m args below meth c Q D cy B kd n nL b0 (cu) (pc) ls (.int b :: .int a :: st) (M) (if a < b then x1 else x2) := by
  intro hx H locs lsA cells slots hc hs hH hS hl
  refine lv_icmp_lt C.1 C.2.1 d ht (fun q => kt q (by rw [if_pos q] at hx; exact hx) H locs lsA cells slots hc hs hH hS hl) (fun q => kf q (by rw [if_neg q] at hx; exact hx) H locs lsA cells slots hc hs hH hS hl)
theorem z_icmp_ge (C : zC p l s m args meth c D cy B kd n sa sv own cc nL) {a b : Int32} {off : Int} {x1 x2 : Option β} (tgt : Nat) (d : decode cc pc = .ok (.if_icmp .ge off, 3)) (ht : (pc : Int) + off = (tgt : Int)) (kt : b ≤ a → Z p l e R s m args below meth c Q D cy B kd n nL b0 (cu) (tgt) ls (st) (M) (x1)) (kf : ¬ (b ≤ a) → Z p l e R s m args below meth c Q D cy B kd n nL b0 (cu) (pc + 3) ls (st) (M) (x2)) : Z p l e R s m args below meth c Q D cy B kd n nL b0 (cu) (pc) ls (.int b :: .int a :: st) (M) (if b ≤ a then x1 else x2) := by
  intro hx H locs lsA cells slots hc hs hH hS hl
  refine lv_icmp_ge C.1 C.2.1 d ht (fun q => kt q (by rw [if_pos q] at hx; exact hx) H locs lsA cells slots hc hs hH hS hl) (fun q => kf q (by rw [if_neg q] at hx; exact hx) H locs lsA cells slots hc hs hH hS hl)
theorem z_icmp_gt (C : zC p l s m args meth c D cy B kd n sa sv own cc nL) {a b : Int32} {off : Int} {x1 x2 : Option β} (tgt : Nat) (d : decode cc pc = .ok (.if_icmp .gt off, 3)) (ht : (pc : Int) + off = (tgt : Int)) (kt : b < a → Z p l e R s m args below meth c Q D cy B kd n nL b0 (cu) (tgt) ls (st) (M) (x1)) (kf : ¬ (b < a) → Z p l e R s m args below meth c Q D cy B kd n nL b0 (cu) (pc + 3) ls (st) (M) (x2)) : Z p l e R s m args below meth c Q D cy B kd n nL b0 (cu) (pc) ls (.int b :: .int a :: st) (M) (if b < a then x1 else x2) := by
  intro hx H locs lsA cells slots hc hs hH hS hl
  refine lv_icmp_gt C.1 C.2.1 d ht (fun q => kt q (by rw [if_pos q] at hx; exact hx) H locs lsA cells slots hc hs hH hS hl) (fun q => kf q (by rw [if_neg q] at hx; exact hx) H locs lsA cells slots hc hs hH hS hl)
theorem z_icmp_le (C : zC p l s m args meth c D cy B kd n sa sv own cc nL) {a b : Int32} {off : Int} {x1 x2 : Option β} (tgt : Nat) (d : decode cc pc = .ok (.if_icmp .le off, 3)) (ht : (pc : Int) + off = (tgt : Int)) (kt : a ≤ b → Z p l e R s m args below meth c Q D cy B kd n nL b0 (cu) (tgt) ls (st) (M) (x1)) (kf : ¬ (a ≤ b) → Z p l e R s m args below meth c Q D cy B kd n nL b0 (cu) (pc + 3) ls (st) (M) (x2)) : Z p l e R s m args below meth c Q D cy B kd n nL b0 (cu) (pc) ls (.int b :: .int a :: st) (M) (if a ≤ b then x1 else x2) := by
  intro hx H locs lsA cells slots hc hs hH hS hl
  refine lv_icmp_le C.1 C.2.1 d ht (fun q => kt q (by rw [if_pos q] at hx; exact hx) H locs lsA cells slots hc hs hH hS hl) (fun q => kf q (by rw [if_neg q] at hx; exact hx) H locs lsA cells slots hc hs hH hS hl)
theorem bI_0 {b : Bool} : bI b = 0 ↔ b = false := by cases b <;> decide
theorem z_if_eqB (C : zC p l s m args meth c D cy B kd n sa sv own cc nL) {b : Bool} {off : Int} {x1 x2 : Option β} (tgt : Nat) (d : decode cc pc = .ok (.ifCond .eq off, 3)) (ht : (pc : Int) + off = (tgt : Int)) (k1 : b = true → Z p l e R s m args below meth c Q D cy B kd n nL b0 (cu) (pc + 3) ls (st) (M) (x1)) (k2 : b = false → Z p l e R s m args below meth c Q D cy B kd n nL b0 (cu) (tgt) ls (st) (M) (x2)) : Z p l e R s m args below meth c Q D cy B kd n nL b0 (cu) (pc) ls (.int (bI b) :: st) (M) (if b = true then x1 else x2) := by
  intro hx H locs lsA cells slots hc hs hH hS hl
  cases hb : b
  · subst hb
    rw [if_neg (by decide)] at hx
    exact lv_if_eq C.1 C.2.1 d ht (fun q => k2 rfl hx H locs lsA cells slots hc hs hH hS hl) (fun q => absurd (bI_0.mpr rfl) q)
  · subst hb
    rw [if_pos rfl] at hx
    exact lv_if_eq C.1 C.2.1 d ht (fun q => absurd (bI_0.mp q) (by decide)) (fun q => k1 rfl hx H locs lsA cells slots hc hs hH hS hl)
theorem z_if_neB (C : zC p l s m args meth c D cy B kd n sa sv own cc nL) {b : Bool} {off : Int} {x1 x2 : Option β} (tgt : Nat) (d : decode cc pc = .ok (.ifCond .ne off, 3)) (ht : (pc : Int) + off = (tgt : Int)) (k1 : b = true → Z p l e R s m args below meth c Q D cy B kd n nL b0 (cu) (tgt) ls (st) (M) (x1)) (k2 : b = false → Z p l e R s m args below meth c Q D cy B kd n nL b0 (cu) (pc + 3) ls (st) (M) (x2)) : Z p l e R s m args below meth c Q D cy B kd n nL b0 (cu) (pc) ls (.int (bI b) :: st) (M) (if b = true then x1 else x2) := by
  intro hx H locs lsA cells slots hc hs hH hS hl
  cases hb : b
  · subst hb
    rw [if_neg (by decide)] at hx
    exact lv_if_ne C.1 C.2.1 d ht (fun q => absurd (bI_0.mpr rfl) q) (fun q => k2 rfl hx H locs lsA cells slots hc hs hH hS hl)
  · subst hb
    rw [if_pos rfl] at hx
    exact lv_if_ne C.1 C.2.1 d ht (fun q => k1 rfl hx H locs lsA cells slots hc hs hH hS hl) (fun q => absurd (bI_0.mp q) (by decide))
theorem z_goto (C : zC p l s m args meth c D cy B kd n sa sv own cc nL) {off : Int} (tgt : Nat) (d : decode cc pc = .ok (.goto off, 3)) (ht : (pc : Int) + off = (tgt : Int)) (kk : Z p l e R s m args below meth c Q D cy B kd n nL b0 (cu) (tgt) ls (st) (M) (x)) : Z p l e R s m args below meth c Q D cy B kd n nL b0 (cu) (pc) ls (st) (M) (x) := by
  intro hx H locs lsA cells slots hc hs hH hS hl
  exact lv_goto C.1 C.2.1 d ht (kk hx H locs lsA cells slots hc hs hH hS hl)
theorem z_ite {q : Prop} [Decidable q] {x1 x2 : Option β} (k1 : q → Z p l e R s m args below meth c Q D cy B kd n nL b0 (cu) (pc) ls (st) (M) (x1)) (k2 : ¬ q → Z p l e R s m args below meth c Q D cy B kd n nL b0 (cu) (pc) ls (st) (M) (x2)) : Z p l e R s m args below meth c Q D cy B kd n nL b0 (cu) (pc) ls (st) (M) (if q then x1 else x2) := by
  intro hx H locs lsA cells slots hc hs hH hS hl
  by_cases h : q
  · exact k1 h (by rw [if_pos h] at hx; exact hx) H locs lsA cells slots hc hs hH hS hl
  · exact k2 h (by rw [if_neg h] at hx; exact hx) H locs lsA cells slots hc hs hH hS hl
theorem z_tableIn (C : zC p l s m args meth c D cy B kd n sa sv own cc nL) {a : Int32} {dflt lo hi : Int} {offs : Array Int} {len : Nat} {off : Int} (tgt v : Nat) (d : decode cc pc = .ok (.tableswitch dflt lo hi offs, len)) (hv : a.toInt = v) (h1 : lo ≤ (v : Int)) (h2 : (v : Int) ≤ hi) (ho : offs[((v : Int) - lo).toNat]? = some off) (ht : (pc : Int) + off = (tgt : Int)) (kk : Z p l e R s m args below meth c Q D cy B kd n nL b0 (cu) (tgt) ls (st) (M) (x)) : Z p l e R s m args below meth c Q D cy B kd n nL b0 (cu) (pc) ls (.int a :: st) (M) (x) := by
  intro hx H locs lsA cells slots hc hs hH hS hl
  exact lv_tableIn C.1 C.2.1 d (by rw [hv]; omega) (by rw [hv]; omega) (by rw [hv]; exact ho) ht (kk hx H locs lsA cells slots hc hs hH hS hl)
theorem z_tableOut (C : zC p l s m args meth c D cy B kd n sa sv own cc nL) {a : Int32} {dflt lo hi : Int} {offs : Array Int} {len : Nat} (tgt : Nat) (d : decode cc pc = .ok (.tableswitch dflt lo hi offs, len)) (h : a.toInt < lo ∨ hi < a.toInt) (ht : (pc : Int) + dflt = (tgt : Int)) (kk : Z p l e R s m args below meth c Q D cy B kd n nL b0 (cu) (tgt) ls (st) (M) (x)) : Z p l e R s m args below meth c Q D cy B kd n nL b0 (cu) (pc) ls (.int a :: st) (M) (x) := by
  intro hx H locs lsA cells slots hc hs hH hS hl
  exact lv_tableOut C.1 C.2.1 d h ht (kk hx H locs lsA cells slots hc hs hH hS hl)
theorem z_lookup (C : zC p l s m args meth c D cy B kd n sa sv own cc nL) {a : Int32} {dflt : Int} {ps : Array (Int × Int)} {len : Nat} {off : Int} (tgt : Nat) (d : decode cc pc = .ok (.lookupswitch dflt ps, len)) (hp : (ps.toList.zip (ps.toList.drop 1)).all (fun (a, next) => a.1 < next.1) = true) (ho : Op.lookupswitch.offset ps.toList dflt a.toInt = off) (ht : (pc : Int) + off = (tgt : Int)) (kk : Z p l e R s m args below meth c Q D cy B kd n nL b0 (cu) (tgt) ls (st) (M) (x)) : Z p l e R s m args below meth c Q D cy B kd n nL b0 (cu) (pc) ls (.int a :: st) (M) (x) := by
  intro hx H locs lsA cells slots hc hs hH hS hl
  exact lv_lookup C.1 C.2.1 d hp ho ht (kk hx H locs lsA cells slots hc hs hH hS hl)
theorem z_lcmp_eq (C : zC p l s m args meth c D cy B kd n sa sv own cc nL) {a b : Int64} {off : Int} {x1 x2 : Option β} (tgt : Nat) (d0 : decode cc pc = .ok (.lcmp, 1)) (d : decode cc (pc + 1) = .ok (.ifCond .eq off, 3)) (ht : ((pc + 1 : Nat) : Int) + off = (tgt : Int)) (kt : a = b → Z p l e R s m args below meth c Q D cy B kd n nL b0 (cu) (tgt) ls (st) (M) (x1)) (kf : ¬ (a = b) → Z p l e R s m args below meth c Q D cy B kd n nL b0 (cu) (pc + 4) ls (st) (M) (x2)) : Z p l e R s m args below meth c Q D cy B kd n nL b0 (cu) (pc) ls (.long b :: .long a :: st) (M) (if a = b then x1 else x2) := by
  intro hx H locs lsA cells slots hc hs hH hS hl
  refine W.lcmp C.1 C.2.1 d0 (lv_if_eq C.1 C.2.1 d ht (fun q => ?_) (fun q => ?_))
  · have q := (lg_cmp_eq a b).mp q
    exact kt q (by rw [if_pos q] at hx; exact hx) H locs lsA cells slots hc hs hH hS hl
  · have q := fun z => q ((lg_cmp_eq a b).mpr z)
    exact kf q (by rw [if_neg q] at hx; exact hx) H locs lsA cells slots hc hs hH hS hl
theorem z_lcmp_ne (C : zC p l s m args meth c D cy B kd n sa sv own cc nL) {a b : Int64} {off : Int} {x1 x2 : Option β} (tgt : Nat) (d0 : decode cc pc = .ok (.lcmp, 1)) (d : decode cc (pc + 1) = .ok (.ifCond .ne off, 3)) (ht : ((pc + 1 : Nat) : Int) + off = (tgt : Int)) (kt : a = b → Z p l e R s m args below meth c Q D cy B kd n nL b0 (cu) (pc + 4) ls (st) (M) (x1)) (kf : ¬ (a = b) → Z p l e R s m args below meth c Q D cy B kd n nL b0 (cu) (tgt) ls (st) (M) (x2)) : Z p l e R s m args below meth c Q D cy B kd n nL b0 (cu) (pc) ls (.long b :: .long a :: st) (M) (if a = b then x1 else x2) := by
  intro hx H locs lsA cells slots hc hs hH hS hl
  refine W.lcmp C.1 C.2.1 d0 (lv_if_ne C.1 C.2.1 d ht (fun q => ?_) (fun q => ?_))
  · have q := fun z => q ((lg_cmp_eq a b).mpr z)
    exact kf q (by rw [if_neg q] at hx; exact hx) H locs lsA cells slots hc hs hH hS hl
  · have q := (lg_cmp_eq a b).mp (by first | exact q | exact Classical.not_not.mp q)
    exact kt q (by rw [if_pos q] at hx; exact hx) H locs lsA cells slots hc hs hH hS hl
theorem z_lcmp_lt (C : zC p l s m args meth c D cy B kd n sa sv own cc nL) {a b : Int64} {off : Int} {x1 x2 : Option β} (tgt : Nat) (d0 : decode cc pc = .ok (.lcmp, 1)) (d : decode cc (pc + 1) = .ok (.ifCond .lt off, 3)) (ht : ((pc + 1 : Nat) : Int) + off = (tgt : Int)) (kt : a < b → Z p l e R s m args below meth c Q D cy B kd n nL b0 (cu) (tgt) ls (st) (M) (x1)) (kf : ¬ (a < b) → Z p l e R s m args below meth c Q D cy B kd n nL b0 (cu) (pc + 4) ls (st) (M) (x2)) : Z p l e R s m args below meth c Q D cy B kd n nL b0 (cu) (pc) ls (.long b :: .long a :: st) (M) (if a < b then x1 else x2) := by
  intro hx H locs lsA cells slots hc hs hH hS hl
  refine W.lcmp C.1 C.2.1 d0 (lv_if_lt C.1 C.2.1 d ht (fun q => ?_) (fun q => ?_))
  · have q := (lg_cmp_lt a b).mp q
    exact kt q (by rw [if_pos q] at hx; exact hx) H locs lsA cells slots hc hs hH hS hl
  · have q := fun z => q ((lg_cmp_lt a b).mpr z)
    exact kf q (by rw [if_neg q] at hx; exact hx) H locs lsA cells slots hc hs hH hS hl
theorem z_lcmp_ge (C : zC p l s m args meth c D cy B kd n sa sv own cc nL) {a b : Int64} {off : Int} {x1 x2 : Option β} (tgt : Nat) (d0 : decode cc pc = .ok (.lcmp, 1)) (d : decode cc (pc + 1) = .ok (.ifCond .ge off, 3)) (ht : ((pc + 1 : Nat) : Int) + off = (tgt : Int)) (kt : b ≤ a → Z p l e R s m args below meth c Q D cy B kd n nL b0 (cu) (tgt) ls (st) (M) (x1)) (kf : ¬ (b ≤ a) → Z p l e R s m args below meth c Q D cy B kd n nL b0 (cu) (pc + 4) ls (st) (M) (x2)) : Z p l e R s m args below meth c Q D cy B kd n nL b0 (cu) (pc) ls (.long b :: .long a :: st) (M) (if b ≤ a then x1 else x2) := by
  intro hx H locs lsA cells slots hc hs hH hS hl
  refine W.lcmp C.1 C.2.1 d0 (lv_if_ge C.1 C.2.1 d ht (fun q => ?_) (fun q => ?_))
  · have q := (lg_cmp_ge a b).mp q
    exact kt q (by rw [if_pos q] at hx; exact hx) H locs lsA cells slots hc hs hH hS hl
  · have q := fun z => q ((lg_cmp_ge a b).mpr z)
    exact kf q (by rw [if_neg q] at hx; exact hx) H locs lsA cells slots hc hs hH hS hl
theorem z_lcmp_gt (C : zC p l s m args meth c D cy B kd n sa sv own cc nL) {a b : Int64} {off : Int} {x1 x2 : Option β} (tgt : Nat) (d0 : decode cc pc = .ok (.lcmp, 1)) (d : decode cc (pc + 1) = .ok (.ifCond .gt off, 3)) (ht : ((pc + 1 : Nat) : Int) + off = (tgt : Int)) (kt : b < a → Z p l e R s m args below meth c Q D cy B kd n nL b0 (cu) (tgt) ls (st) (M) (x1)) (kf : ¬ (b < a) → Z p l e R s m args below meth c Q D cy B kd n nL b0 (cu) (pc + 4) ls (st) (M) (x2)) : Z p l e R s m args below meth c Q D cy B kd n nL b0 (cu) (pc) ls (.long b :: .long a :: st) (M) (if b < a then x1 else x2) := by
  intro hx H locs lsA cells slots hc hs hH hS hl
  refine W.lcmp C.1 C.2.1 d0 (lv_if_gt C.1 C.2.1 d ht (fun q => ?_) (fun q => ?_))
  · have q := (lg_cmp_gt a b).mp q
    exact kt q (by rw [if_pos q] at hx; exact hx) H locs lsA cells slots hc hs hH hS hl
  · have q := fun z => q ((lg_cmp_gt a b).mpr z)
    exact kf q (by rw [if_neg q] at hx; exact hx) H locs lsA cells slots hc hs hH hS hl
theorem z_lcmp_le (C : zC p l s m args meth c D cy B kd n sa sv own cc nL) {a b : Int64} {off : Int} {x1 x2 : Option β} (tgt : Nat) (d0 : decode cc pc = .ok (.lcmp, 1)) (d : decode cc (pc + 1) = .ok (.ifCond .le off, 3)) (ht : ((pc + 1 : Nat) : Int) + off = (tgt : Int)) (kt : a ≤ b → Z p l e R s m args below meth c Q D cy B kd n nL b0 (cu) (tgt) ls (st) (M) (x1)) (kf : ¬ (a ≤ b) → Z p l e R s m args below meth c Q D cy B kd n nL b0 (cu) (pc + 4) ls (st) (M) (x2)) : Z p l e R s m args below meth c Q D cy B kd n nL b0 (cu) (pc) ls (.long b :: .long a :: st) (M) (if a ≤ b then x1 else x2) := by
  intro hx H locs lsA cells slots hc hs hH hS hl
  refine W.lcmp C.1 C.2.1 d0 (lv_if_le C.1 C.2.1 d ht (fun q => ?_) (fun q => ?_))
  · have q := (lg_cmp_le a b).mp q
    exact kt q (by rw [if_pos q] at hx; exact hx) H locs lsA cells slots hc hs hH hS hl
  · have q := fun z => q ((lg_cmp_le a b).mpr z)
    exact kf q (by rw [if_neg q] at hx; exact hx) H locs lsA cells slots hc hs hH hS hl
theorem z_getI (C : zC p l s m args meth c D cy B kd n sa sv own cc nL) {K k z : Nat} {Cn ref : String} {T : u_T} {N idx : Nat} {ty0 : Nat → FieldType} {a : Nat} (hcl : clOk K Cn T N ty0) (hk : kd a = K) (hlay : (lay K)[k]? = some (0, z)) (hlink : Cond.fieldLink own idx ref (T k).2.1 (T k).2.2.1 ∈ GW) (href : (T k).1 = ref) (d : decode cc pc = .ok (.getfield idx, 3)) (kk : Z p l e R s m args below meth c Q D cy B kd n nL b0 (cu) (pc + 3) ls (.int (rI M a k) :: st) (M) (x)) : Z p l e R s m args below meth c Q D cy B kd n nL b0 (cu) (pc) ls (.ref (B + a) :: st) (M) (x) := by
  intro hx H locs lsA cells slots hc hs hH hS hl
  obtain ⟨h1, h2, h3, h4, h5, h6⟩ := hcl
  have ha : kd a < 48 := by omega
  obtain ⟨q0, hq⟩ := sat_get (D := D) (cy := cy) (B := B) M ((C.2.2.2.2.2.1 a).1 ha) ha
  rw [hk, celE, if_pos h5] at hq
  have hN : k < N := by rw [← h6]; exact (List.getElem?_eq_some_iff.mp hlay).1
  subst href
  refine va_get C.1 C.2.1 C.2.2.2.2.1 h2 C.2.2.2.1 C.2.2.2.2.2.2.1.1 hH q0 hq h1 k hN (C.2.2.2.2.1 _ hlink) (fun _ h => h) (fL_get (lay K) k 0 _ hlay) d ?_
  rw [Nat.zero_add]
  exact kk hx H locs lsA cells slots hc hs hH hS hl
theorem z_getJ (C : zC p l s m args meth c D cy B kd n sa sv own cc nL) {K k z : Nat} {Cn ref : String} {T : u_T} {N idx : Nat} {ty0 : Nat → FieldType} {a : Nat} (hcl : clOk K Cn T N ty0) (hk : kd a = K) (hlay : (lay K)[k]? = some (1, z)) (hlink : Cond.fieldLink own idx ref (T k).2.1 (T k).2.2.1 ∈ GW) (href : (T k).1 = ref) (d : decode cc pc = .ok (.getfield idx, 3)) (kk : Z p l e R s m args below meth c Q D cy B kd n nL b0 (cu) (pc + 3) ls (.long (rJ M a k) :: st) (M) (x)) : Z p l e R s m args below meth c Q D cy B kd n nL b0 (cu) (pc) ls (.ref (B + a) :: st) (M) (x) := by
  intro hx H locs lsA cells slots hc hs hH hS hl
  obtain ⟨h1, h2, h3, h4, h5, h6⟩ := hcl
  have ha : kd a < 48 := by omega
  obtain ⟨q0, hq⟩ := sat_get (D := D) (cy := cy) (B := B) M ((C.2.2.2.2.2.1 a).1 ha) ha
  rw [hk, celE, if_pos h5] at hq
  have hN : k < N := by rw [← h6]; exact (List.getElem?_eq_some_iff.mp hlay).1
  subst href
  refine va_get C.1 C.2.1 C.2.2.2.2.1 h2 C.2.2.2.1 C.2.2.2.2.2.2.1.1 hH q0 hq h1 k hN (C.2.2.2.2.1 _ hlink) (fun _ h => h) (fL_get (lay K) k 0 _ hlay) d ?_
  rw [Nat.zero_add]
  exact kk hx H locs lsA cells slots hc hs hH hS hl
theorem z_getR (C : zC p l s m args meth c D cy B kd n sa sv own cc nL) {K k z : Nat} {Cn ref : String} {T : u_T} {N idx : Nat} {ty0 : Nat → FieldType} {off : Nat} {a : Nat} (hcl : clOk K Cn T N ty0) (hk : kd a = K) (hlay : (lay K)[k]? = some (off + 2, z)) (hlink : Cond.fieldLink own idx ref (T k).2.1 (T k).2.2.1 ∈ GW) (href : (T k).1 = ref) (d : decode cc pc = .ok (.getfield idx, 3)) (kk : Z p l e R s m args below meth c Q D cy B kd n nL b0 (cu) (pc + 3) ls (.ref (B + (a + off)) :: st) (M) (x)) : Z p l e R s m args below meth c Q D cy B kd n nL b0 (cu) (pc) ls (.ref (B + a) :: st) (M) (x) := by
  intro hx H locs lsA cells slots hc hs hH hS hl
  obtain ⟨h1, h2, h3, h4, h5, h6⟩ := hcl
  have ha : kd a < 48 := by omega
  obtain ⟨q0, hq⟩ := sat_get (D := D) (cy := cy) (B := B) M ((C.2.2.2.2.2.1 a).1 ha) ha
  rw [hk, celE, if_pos h5] at hq
  have hN : k < N := by rw [← h6]; exact (List.getElem?_eq_some_iff.mp hlay).1
  subst href
  refine va_get C.1 C.2.1 C.2.2.2.2.1 h2 C.2.2.2.1 C.2.2.2.2.2.2.1.1 hH q0 hq h1 k hN (C.2.2.2.2.1 _ hlink) (fun _ h => h) (fL_get (lay K) k 0 _ hlay) d ?_
  rw [Nat.zero_add]
  exact kk hx H locs lsA cells slots hc hs hH hS hl
theorem z_putI (C : zC p l s m args meth c D cy B kd n sa sv own cc nL) {K k z : Nat} {Cn ref : String} {T : u_T} {N idx : Nat} {ty0 : Nat → FieldType} {a : Nat} {v : Int32} (hcl : clOk K Cn T N ty0) (hk : kd a = K) (hlay : (lay K)[k]? = some (0, z)) (hlink : Cond.fieldLink own idx ref (T k).2.1 (T k).2.2.1 ∈ GW) (href : (T k).1 = ref) (hty : ty0 k = .int) (hfin : (T k).2.2.2 = false) (d : decode cc pc = .ok (.putfield idx, 3)) (kk : Z p l e R s m args below meth c Q D cy B kd n nL b0 (cu) (pc + 3) ls (st) (wI M a k v) (x)) : Z p l e R s m args below meth c Q D cy B kd n nL b0 (cu) (pc) ls (.int v :: .ref (B + a) :: st) (M) (x) := by
  intro hx H locs lsA cells slots hc hs hH hS hl
  obtain ⟨h1, h2, h3, h4, h5, h6⟩ := hcl
  have ha : kd a < 48 := by omega
  have hn9 := (C.2.2.2.2.2.1 a).1 ha
  obtain ⟨q0, hq⟩ := sat_get (D := D) (cy := cy) (B := B) M hn9 ha
  have hq9 := hq
  rw [hk, celE, if_pos h5] at hq
  have hN : k < N := by rw [← h6]; exact (List.getElem?_eq_some_iff.mp hlay).1
  subst href
  refine va_put C.1 C.2.1 C.2.2.2.2.1 h2 ty0 h3 h4 C.2.2.2.1 C.2.2.2.2.2.2.1.1 hH (LL_D _) hS q0 hq h1 k hN (C.2.2.2.2.1 _ hlink) (fun _ h => h) hfin ((h3 k hN).trans (congrArg some hty)) rfl rfl (by rw [fL_len, h6]; exact hN) d (fun H1 locs1 hP1 hD1 hS1 => ?_)
  refine kk hx H1 locs1 lsA cells slots hc hs ?_ hS1 hl
  rw [fL_set (lay K) k 0 z hlay, Nat.zero_add] at hP1
  rw [sat_set hn9 ha hq9 (v := (upd (M a).1 k v, (M a).2)) (by rw [hk, celE, if_pos h5])] at hP1
  exact hP1
theorem z_putZ (C : zC p l s m args meth c D cy B kd n sa sv own cc nL) {K k z : Nat} {Cn ref : String} {T : u_T} {N idx : Nat} {ty0 : Nat → FieldType} {a : Nat} {v : Int32} (hcl : clOk K Cn T N ty0) (hk : kd a = K) (hlay : (lay K)[k]? = some (0, z)) (hlink : Cond.fieldLink own idx ref (T k).2.1 (T k).2.2.1 ∈ GW) (href : (T k).1 = ref) (hty : ty0 k = .boolean) (hfin : (T k).2.2.2 = false) (hn : narrow .boolean (.int v) = .int v) (hf : fits .boolean (.int v) = true) (d : decode cc pc = .ok (.putfield idx, 3)) (kk : Z p l e R s m args below meth c Q D cy B kd n nL b0 (cu) (pc + 3) ls (st) (wI M a k v) (x)) : Z p l e R s m args below meth c Q D cy B kd n nL b0 (cu) (pc) ls (.int v :: .ref (B + a) :: st) (M) (x) := by
  intro hx H locs lsA cells slots hc hs hH hS hl
  obtain ⟨h1, h2, h3, h4, h5, h6⟩ := hcl
  have ha : kd a < 48 := by omega
  have hn9 := (C.2.2.2.2.2.1 a).1 ha
  obtain ⟨q0, hq⟩ := sat_get (D := D) (cy := cy) (B := B) M hn9 ha
  have hq9 := hq
  rw [hk, celE, if_pos h5] at hq
  have hN : k < N := by rw [← h6]; exact (List.getElem?_eq_some_iff.mp hlay).1
  subst href
  refine va_put C.1 C.2.1 C.2.2.2.2.1 h2 ty0 h3 h4 C.2.2.2.1 C.2.2.2.2.2.2.1.1 hH (LL_D _) hS q0 hq h1 k hN (C.2.2.2.2.1 _ hlink) (fun _ h => h) hfin ((h3 k hN).trans (congrArg some hty)) hn hf (by rw [fL_len, h6]; exact hN) d (fun H1 locs1 hP1 hD1 hS1 => ?_)
  refine kk hx H1 locs1 lsA cells slots hc hs ?_ hS1 hl
  rw [fL_set (lay K) k 0 z hlay, Nat.zero_add] at hP1
  rw [sat_set hn9 ha hq9 (v := (upd (M a).1 k v, (M a).2)) (by rw [hk, celE, if_pos h5])] at hP1
  exact hP1
theorem z_putJ (C : zC p l s m args meth c D cy B kd n sa sv own cc nL) {K k z : Nat} {Cn ref : String} {T : u_T} {N idx : Nat} {ty0 : Nat → FieldType} {a : Nat} {v : Int64} (hcl : clOk K Cn T N ty0) (hk : kd a = K) (hlay : (lay K)[k]? = some (1, z)) (hlink : Cond.fieldLink own idx ref (T k).2.1 (T k).2.2.1 ∈ GW) (href : (T k).1 = ref) (hty : ty0 k = .long) (hfin : (T k).2.2.2 = false) (d : decode cc pc = .ok (.putfield idx, 3)) (kk : Z p l e R s m args below meth c Q D cy B kd n nL b0 (cu) (pc + 3) ls (st) (wJ M a k v) (x)) : Z p l e R s m args below meth c Q D cy B kd n nL b0 (cu) (pc) ls (.long v :: .ref (B + a) :: st) (M) (x) := by
  intro hx H locs lsA cells slots hc hs hH hS hl
  obtain ⟨h1, h2, h3, h4, h5, h6⟩ := hcl
  have ha : kd a < 48 := by omega
  have hn9 := (C.2.2.2.2.2.1 a).1 ha
  obtain ⟨q0, hq⟩ := sat_get (D := D) (cy := cy) (B := B) M hn9 ha
  have hq9 := hq
  rw [hk, celE, if_pos h5] at hq
  have hN : k < N := by rw [← h6]; exact (List.getElem?_eq_some_iff.mp hlay).1
  subst href
  refine va_put C.1 C.2.1 C.2.2.2.2.1 h2 ty0 h3 h4 C.2.2.2.1 C.2.2.2.2.2.2.1.1 hH (LL_D _) hS q0 hq h1 k hN (C.2.2.2.2.1 _ hlink) (fun _ h => h) hfin ((h3 k hN).trans (congrArg some hty)) rfl rfl (by rw [fL_len, h6]; exact hN) d (fun H1 locs1 hP1 hD1 hS1 => ?_)
  refine kk hx H1 locs1 lsA cells slots hc hs ?_ hS1 hl
  rw [fL_setJ (lay K) k 0 z hlay, Nat.zero_add] at hP1
  rw [sat_set hn9 ha hq9 (v := ((M a).1, vp_updL (M a).2 k v)) (by rw [hk, celE, if_pos h5])] at hP1
  exact hP1
end ZZ
