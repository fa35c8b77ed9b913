/-! X7_removeRows -/
def fX7_removeRows_l2_s (N : Nat) (v0 : Nat) (k2 : Int32 → Mem → Option Mem) (v1 : Int32) (M : Mem) : Option Mem :=
  if (4 : Int32) ≤ v1 then some M else if inB v1 4 = true then k2 (v1 + (1 : Int32)) (wI M ((v0 + 8) + 1 + 4 * v1.toNatClampNeg) 0 (0 : Int32)) else none
def fX7_removeRows_l2 (N : Nat) (v0 : Nat) : Nat → Int32 → Mem → Option Mem
  | 0, _, _ => none
  | n + 1, v1, M => fX7_removeRows_l2_s N v0 (fX7_removeRows_l2 N v0 n) v1 M
def fX7_removeRows (N : Nat) (v0 : Nat) (M : Mem) : Option Mem :=
  fX7_removeRows_l2 N v0 N (0 : Int32) M
/-! X7_rowsThere -/
def fX7_rowsThere_b27 (N : Nat) (k4 : Int32 → Int32 → Option Int32) (v0 : Nat) (v2 : Int32) (s0 : Bool) (s1 : Int32) (Mo : Mem) : Option Int32 :=
  k4 (s1 ||| (shlI (bI s0) v2)) (v2 + (1 : Int32))
def fX7_rowsThere_l4_s (N : Nat) (v0 : Nat) (Mo : Mem) (k4 : Int32 → Int32 → Option Int32) (v1 : Int32) (v2 : Int32) : Option Int32 :=
  if (4 : Int32) ≤ v2 then some v1 else if inB v2 4 = true then if (rI Mo ((v0 + 8) + 1 + 4 * v2.toNatClampNeg) 0) = 0 then fX7_rowsThere_b27 N k4 v0 v2 false v1 Mo else fX7_rowsThere_b27 N k4 v0 v2 true v1 Mo else none
def fX7_rowsThere_l4 (N : Nat) (v0 : Nat) (Mo : Mem) : Nat → Int32 → Int32 → Option Int32
  | 0, _, _ => none
  | n + 1, v1, v2 => fX7_rowsThere_l4_s N v0 Mo (fX7_rowsThere_l4 N v0 Mo n) v1 v2
def fX7_rowsThere (N : Nat) (v0 : Nat) (Mo : Mem) : Option Int32 :=
  fX7_rowsThere_l4 N v0 Mo N (0 : Int32) (0 : Int32)
/-! X7_copyFrom -/
def fX7_copyFrom_l13_s (N : Nat) (v0 : Nat) (v1 : Nat) (k13 : Int32 → Mem → Option Mem) (v2 : Int32) (M : Mem) : Option Mem :=
  if (4 : Int32) ≤ v2 then some M else if inB v2 4 = true then if inB v2 4 = true then (fX5_copyFrom ((v0 + 8) + 1 + 4 * v2.toNatClampNeg) ((v1 + 8) + 1 + 4 * v2.toNatClampNeg) M).bind fun qj7 => k13 (v2 + (1 : Int32)) qj7 else none else none
def fX7_copyFrom_l13 (N : Nat) (v0 : Nat) (v1 : Nat) : Nat → Int32 → Mem → Option Mem
  | 0, _, _ => none
  | n + 1, v2, M => fX7_copyFrom_l13_s N v0 v1 (fX7_copyFrom_l13 N v0 v1 n) v2 M
def fX7_copyFrom (N : Nat) (v0 : Nat) (v1 : Nat) (M : Mem) : Option Mem :=
  (fX6_copyFrom (v0 + 1) (v1 + 1) M).bind fun qj3 => fX7_copyFrom_l13 N v0 v1 N (0 : Int32) qj3
set_option maxHeartbeats 4000000 in
set_option maxRecDepth 100000 in
theorem z_fX7_removeRows_l2_s {p : Program} {l : Launch} {e : Env} {s : State} {m : MethodId} {args : Array Value} {below : List Frame} {meth : Method} {c : Code} {D : va_G} {cy : Nat → ClassId} {B : Nat} {kd : Nat → Nat} {n : Nat} {sa sv : Nat → Nat} (C : zC p l s m args meth c D cy B kd n sa sv RX7 cX7_removeRows 2) (ht : ∀ x ∈ c.exceptionTable.toList, False) (hr : meth.sig.returnType = none) {b0 : Mem} (N : Nat) (v0 : Nat) (k2 : Int32 → Mem → Option Mem) (v1 : Int32) (M : Mem) (h0 : kd v0 = 7)  (hk2 : ∀ (v1 : Int32) (M : Mem), Z p l e (rmz 0 0) s m args below meth c (vx_MQ below (QcR D cy B kd n (cvV b0)) (XcR D cy B kd n (cvV b0)) args s 0 (6 * 0) (AA B kd n)) D cy B kd n 2 b0 0 2 [(0, .ref (B + v0)), (1, .int v1)] [] M (k2 v1 M)) : Z p l e (rmz 0 0) s m args below meth c (vx_MQ below (QcR D cy B kd n (cvV b0)) (XcR D cy B kd n (cvV b0)) args s 0 (6 * 0) (AA B kd n)) D cy B kd n 2 b0 0 2 [(0, .ref (B + v0)), (1, .int v1)] [] M (fX7_removeRows_l2_s N v0 k2 v1 M) := by
  unfold fX7_removeRows_l2_s
  refine z_iload_n C 1 1 dX7_removeRows_2 rfl rfl ?_
  refine z_iconst C dX7_removeRows_3 rfl ?_
  refine z_icmp_ge C 23 dX7_removeRows_4 rfl (fun _ => ?_) (fun _ => ?_)
  · exact z_vret C hr (Nat.le_of_ble_eq_true rfl) dX7_removeRows_23 rfl
  · refine z_aload_n C 0 0 dX7_removeRows_7 rfl rfl ?_
    refine z_getR (k := 1) C cl7 h0 rfl gw_1_176 rfl dX7_removeRows_8 ?_
    have j1 : kd (v0 + 8) = 27 := zkd C h0 (k := 1) rfl
    refine z_iload_n C 1 1 dX7_removeRows_11 rfl rfl ?_
    refine z_aald4 C j1 rfl (by decide) dX7_removeRows_12 (fun j2 => ?_)
    have j3 : kd ((v0 + 8) + 1 + 4 * v1.toNatClampNeg) = 5 := zka C j1 rfl (by decide) j2
    refine z_iconst C dX7_removeRows_13 rfl ?_
    refine z_putZ (k := 0) C cl5 j3 rfl gw_1_123 rfl rfl rfl (narB false) (fitB false) dX7_removeRows_14 ?_
    refine z_iinc C 1 1 (v := v1) (v1 := (v1 + (1 : Int32))) (ls1 := [(1, .int (v1 + (1 : Int32))), (0, .ref (B + v0))]) dX7_removeRows_17 rfl rfl (by decide) rfl ?_
    refine z_goto C 2 dX7_removeRows_20 rfl ?_
    exact z_jump (ls1 := [(0, .ref (B + v0)), (1, .int (v1 + (1 : Int32)))]) (Nat.le_of_ble_eq_true rfl) [1, 0] rfl (hk2 (v1 + (1 : Int32)) (wI M ((v0 + 8) + 1 + 4 * v1.toNatClampNeg) 0 (0 : Int32)))
theorem z_fX7_removeRows_l2_i {p : Program} {l : Launch} {e : Env} {s : State} {m : MethodId} {args : Array Value} {below : List Frame} {meth : Method} {c : Code} {D : va_G} {cy : Nat → ClassId} {B : Nat} {kd : Nat → Nat} {n : Nat} {sa sv : Nat → Nat} (C : zC p l s m args meth c D cy B kd n sa sv RX7 cX7_removeRows 2) (ht : ∀ x ∈ c.exceptionTable.toList, False) (hr : meth.sig.returnType = none) {b0 : Mem} (N : Nat) (v0 : Nat) (h0 : kd v0 = 7)  (fu : Nat) : ∀ (v1 : Int32) (M : Mem), Z p l e (rmz 0 0) s m args below meth c (vx_MQ below (QcR D cy B kd n (cvV b0)) (XcR D cy B kd n (cvV b0)) args s 0 (6 * 0) (AA B kd n)) D cy B kd n 2 b0 0 2 [(0, .ref (B + v0)), (1, .int v1)] [] M (fX7_removeRows_l2 N v0 fu v1 M) := by
  induction fu with
  | zero => intro v1 M; exact z_none
  | succ fu ih => intro v1 M; exact z_fX7_removeRows_l2_s C ht hr N v0 (fX7_removeRows_l2 N v0 fu) v1 M h0 (fun v1 M => ih v1 M)
theorem z_fX7_removeRows_l2 {p : Program} {l : Launch} {e : Env} {s : State} {m : MethodId} {args : Array Value} {below : List Frame} {meth : Method} {c : Code} {D : va_G} {cy : Nat → ClassId} {B : Nat} {kd : Nat → Nat} {n : Nat} {sa sv : Nat → Nat} (C : zC p l s m args meth c D cy B kd n sa sv RX7 cX7_removeRows 2) (ht : ∀ x ∈ c.exceptionTable.toList, False) (hr : meth.sig.returnType = none) {b0 : Mem} (N : Nat) (v0 : Nat) (fu : Nat) (v1 : Int32) (M : Mem) (h0 : kd v0 = 7)  : Z p l e (rmz 0 0) s m args below meth c (vx_MQ below (QcR D cy B kd n (cvV b0)) (XcR D cy B kd n (cvV b0)) args s 0 (6 * 0) (AA B kd n)) D cy B kd n 2 b0 0 2 [(0, .ref (B + v0)), (1, .int v1)] [] M (fX7_removeRows_l2 N v0 fu v1 M) := z_fX7_removeRows_l2_i C ht hr N v0 h0 fu v1 M
set_option maxHeartbeats 4000000 in
set_option maxRecDepth 100000 in
theorem ctX7_removeRows {l : Launch} {D : va_G} {cy : Nat → ClassId} {B : Nat} {kd : Nat → Nat} {n : Nat} {sa sv : Nat → Nat} (G : zG l kd n) (N : Nat) (v0 : Nat) (h0 : kd v0 = 7) (M : Mem) : CT l D cy B kd n sa sv 0 0 yX7_removeRows cX7_removeRows 2 (none) cvV [.ref (B + v0)] M (fX7_removeRows N v0 M) := by
  refine ct_of (by decide) G.1 G.2 (Nat.le_of_ble_eq_true rfl) (ls := [(0, .ref (B + v0))]) rfl ?_
  intro p e s m args below meth c b0 C ht hr
  unfold fX7_removeRows
  refine z_iconst C dX7_removeRows_0 rfl ?_
  refine z_istore_n C 1 (ls1 := [(1, .int (0 : Int32)), (0, .ref (B + v0))]) dX7_removeRows_1 rfl (by decide) rfl ?_
  exact z_jump (ls1 := [(0, .ref (B + v0)), (1, .int (0 : Int32))]) (Nat.le_of_ble_eq_true rfl) [1, 0] rfl (z_fX7_removeRows_l2 C ht hr N v0 N (0 : Int32) M h0)
set_option maxHeartbeats 4000000 in
set_option maxRecDepth 100000 in
theorem z_fX7_rowsThere_b27 {p : Program} {l : Launch} {e : Env} {s : State} {m : MethodId} {args : Array Value} {below : List Frame} {meth : Method} {c : Code} {D : va_G} {cy : Nat → ClassId} {B : Nat} {kd : Nat → Nat} {n : Nat} {sa sv : Nat → Nat} (C : zC p l s m args meth c D cy B kd n sa sv RX7 cX7_rowsThere 3) (ht : ∀ x ∈ c.exceptionTable.toList, False) (hr : meth.sig.returnType = some (FieldType.int)) {b0 : Int32}  (N : Nat) (k4 : Int32 → Int32 → Option Int32) (v0 : Nat) (v2 : Int32) (s0 : Bool) (s1 : Int32) (Mo : Mem) (h0 : kd v0 = 7) (hk4 : ∀ (v1 : Int32) (v2 : Int32), Z p l e (rmz 0 0) s m args below meth c (vx_MQ below (QcR D cy B kd n ((pI Mo) b0)) (XcR D cy B kd n ((pI Mo) b0)) args s 0 (6 * 0) (AA B kd n)) D cy B kd n 3 b0 0 4 [(0, .ref (B + v0)), (1, .int v1), (2, .int v2)] [] Mo (k4 v1 v2)) : Z p l e (rmz 0 0) s m args below meth c (vx_MQ below (QcR D cy B kd n ((pI Mo) b0)) (XcR D cy B kd n ((pI Mo) b0)) args s 0 (6 * 0) (AA B kd n)) D cy B kd n 3 b0 0 27 [(0, .ref (B + v0)), (2, .int v2)] [.int (bI s0), .int s1] Mo (fX7_rowsThere_b27 N k4 v0 v2 s0 s1 Mo) := by
  unfold fX7_rowsThere_b27
  refine z_iload_n C 2 1 dX7_rowsThere_27 rfl rfl ?_
  refine z_ishl C dX7_rowsThere_28 ?_
  refine z_ior C dX7_rowsThere_29 ?_
  refine z_istore_n C 1 (ls1 := [(1, .int (s1 ||| (shlI (bI s0) v2))), (0, .ref (B + v0)), (2, .int v2)]) dX7_rowsThere_30 rfl (by decide) rfl ?_
  refine z_iinc C 2 2 (v := v2) (v1 := (v2 + (1 : Int32))) (ls1 := [(2, .int (v2 + (1 : Int32))), (1, .int (s1 ||| (shlI (bI s0) v2))), (0, .ref (B + v0))]) dX7_rowsThere_31 rfl rfl (by decide) rfl ?_
  refine z_goto C 4 dX7_rowsThere_34 rfl ?_
  exact z_jump (ls1 := [(0, .ref (B + v0)), (1, .int (s1 ||| (shlI (bI s0) v2))), (2, .int (v2 + (1 : Int32)))]) (Nat.le_of_ble_eq_true rfl) [2, 1, 0] rfl (hk4 (s1 ||| (shlI (bI s0) v2)) (v2 + (1 : Int32)))
set_option maxHeartbeats 4000000 in
set_option maxRecDepth 100000 in
theorem z_fX7_rowsThere_l4_s {p : Program} {l : Launch} {e : Env} {s : State} {m : MethodId} {args : Array Value} {below : List Frame} {meth : Method} {c : Code} {D : va_G} {cy : Nat → ClassId} {B : Nat} {kd : Nat → Nat} {n : Nat} {sa sv : Nat → Nat} (C : zC p l s m args meth c D cy B kd n sa sv RX7 cX7_rowsThere 3) (ht : ∀ x ∈ c.exceptionTable.toList, False) (hr : meth.sig.returnType = some (FieldType.int)) {b0 : Int32} {Mo : Mem} (N : Nat) (v0 : Nat) (k4 : Int32 → Int32 → Option Int32) (v1 : Int32) (v2 : Int32) (h0 : kd v0 = 7)  (hk4 : ∀ (v1 : Int32) (v2 : Int32), Z p l e (rmz 0 0) s m args below meth c (vx_MQ below (QcR D cy B kd n ((pI Mo) b0)) (XcR D cy B kd n ((pI Mo) b0)) args s 0 (6 * 0) (AA B kd n)) D cy B kd n 3 b0 0 4 [(0, .ref (B + v0)), (1, .int v1), (2, .int v2)] [] Mo (k4 v1 v2)) : Z p l e (rmz 0 0) s m args below meth c (vx_MQ below (QcR D cy B kd n ((pI Mo) b0)) (XcR D cy B kd n ((pI Mo) b0)) args s 0 (6 * 0) (AA B kd n)) D cy B kd n 3 b0 0 4 [(0, .ref (B + v0)), (1, .int v1), (2, .int v2)] [] Mo (fX7_rowsThere_l4_s N v0 Mo k4 v1 v2) := by
  unfold fX7_rowsThere_l4_s
  refine z_iload_n C 2 2 dX7_rowsThere_4 rfl rfl ?_
  refine z_iconst C dX7_rowsThere_5 rfl ?_
  refine z_icmp_ge C 37 dX7_rowsThere_6 rfl (fun _ => ?_) (fun _ => ?_)
  · refine z_iload_n C 1 1 dX7_rowsThere_37 rfl rfl ?_
    exact z_iret C hr (Nat.le_of_ble_eq_true rfl) dX7_rowsThere_38 rfl
  · refine z_iload_n C 1 1 dX7_rowsThere_9 rfl rfl ?_
    refine z_aload_n C 0 0 dX7_rowsThere_10 rfl rfl ?_
    refine z_getR (k := 1) C cl7 h0 rfl gw_1_176 rfl dX7_rowsThere_11 ?_
    have j1 : kd (v0 + 8) = 27 := zkd C h0 (k := 1) rfl
    refine z_iload_n C 2 2 dX7_rowsThere_14 rfl rfl ?_
    refine z_aald4 C j1 rfl (by decide) dX7_rowsThere_15 (fun j2 => ?_)
    have j3 : kd ((v0 + 8) + 1 + 4 * v2.toNatClampNeg) = 5 := zka C j1 rfl (by decide) j2
    refine z_getI (k := 0) C cl5 j3 rfl gw_1_123 rfl dX7_rowsThere_16 ?_
    refine z_if_eq C 26 dX7_rowsThere_19 rfl (fun _ => ?_) (fun _ => ?_)
    · refine z_iconst C dX7_rowsThere_26 rfl ?_
      exact z_jump (ls1 := [(0, .ref (B + v0)), (2, .int v2)]) (Nat.le_of_ble_eq_true rfl) [0, 2] rfl (z_fX7_rowsThere_b27 C ht hr N k4 v0 v2 false v1 Mo h0 hk4)
    · refine z_iconst C dX7_rowsThere_22 rfl ?_
      refine z_goto C 27 dX7_rowsThere_23 rfl ?_
      exact z_jump (ls1 := [(0, .ref (B + v0)), (2, .int v2)]) (Nat.le_of_ble_eq_true rfl) [0, 2] rfl (z_fX7_rowsThere_b27 C ht hr N k4 v0 v2 true v1 Mo h0 hk4)
theorem z_fX7_rowsThere_l4_i {p : Program} {l : Launch} {e : Env} {s : State} {m : MethodId} {args : Array Value} {below : List Frame} {meth : Method} {c : Code} {D : va_G} {cy : Nat → ClassId} {B : Nat} {kd : Nat → Nat} {n : Nat} {sa sv : Nat → Nat} (C : zC p l s m args meth c D cy B kd n sa sv RX7 cX7_rowsThere 3) (ht : ∀ x ∈ c.exceptionTable.toList, False) (hr : meth.sig.returnType = some (FieldType.int)) {b0 : Int32} {Mo : Mem} (N : Nat) (v0 : Nat) (h0 : kd v0 = 7)  (fu : Nat) : ∀ (v1 : Int32) (v2 : Int32), Z p l e (rmz 0 0) s m args below meth c (vx_MQ below (QcR D cy B kd n ((pI Mo) b0)) (XcR D cy B kd n ((pI Mo) b0)) args s 0 (6 * 0) (AA B kd n)) D cy B kd n 3 b0 0 4 [(0, .ref (B + v0)), (1, .int v1), (2, .int v2)] [] Mo (fX7_rowsThere_l4 N v0 Mo fu v1 v2) := by
  induction fu with
  | zero => intro v1 v2; exact z_none
  | succ fu ih => intro v1 v2; exact z_fX7_rowsThere_l4_s C ht hr N v0 (fX7_rowsThere_l4 N v0 Mo fu) v1 v2 h0 (fun v1 v2 => ih v1 v2)
theorem z_fX7_rowsThere_l4 {p : Program} {l : Launch} {e : Env} {s : State} {m : MethodId} {args : Array Value} {below : List Frame} {meth : Method} {c : Code} {D : va_G} {cy : Nat → ClassId} {B : Nat} {kd : Nat → Nat} {n : Nat} {sa sv : Nat → Nat} (C : zC p l s m args meth c D cy B kd n sa sv RX7 cX7_rowsThere 3) (ht : ∀ x ∈ c.exceptionTable.toList, False) (hr : meth.sig.returnType = some (FieldType.int)) {b0 : Int32} {Mo : Mem} (N : Nat) (v0 : Nat) (fu : Nat) (v1 : Int32) (v2 : Int32) (h0 : kd v0 = 7)  : Z p l e (rmz 0 0) s m args below meth c (vx_MQ below (QcR D cy B kd n ((pI Mo) b0)) (XcR D cy B kd n ((pI Mo) b0)) args s 0 (6 * 0) (AA B kd n)) D cy B kd n 3 b0 0 4 [(0, .ref (B + v0)), (1, .int v1), (2, .int v2)] [] Mo (fX7_rowsThere_l4 N v0 Mo fu v1 v2) := z_fX7_rowsThere_l4_i C ht hr N v0 h0 fu v1 v2
set_option maxHeartbeats 4000000 in
set_option maxRecDepth 100000 in
theorem ctX7_rowsThere {l : Launch} {D : va_G} {cy : Nat → ClassId} {B : Nat} {kd : Nat → Nat} {n : Nat} {sa sv : Nat → Nat} (G : zG l kd n) (N : Nat) (v0 : Nat) (h0 : kd v0 = 7) (Mo : Mem) : CT l D cy B kd n sa sv 0 0 yX7_rowsThere cX7_rowsThere 3 (some (FieldType.int)) (pI Mo) [.ref (B + v0)] Mo (fX7_rowsThere N v0 Mo) := by
  refine ct_of (by decide) G.1 G.2 (Nat.le_of_ble_eq_true rfl) (ls := [(0, .ref (B + v0))]) rfl ?_
  intro p e s m args below meth c b0 C ht hr
  unfold fX7_rowsThere
  refine z_iconst C dX7_rowsThere_0 rfl ?_
  refine z_istore_n C 1 (ls1 := [(1, .int (0 : Int32)), (0, .ref (B + v0))]) dX7_rowsThere_1 rfl (by decide) rfl ?_
  refine z_iconst C dX7_rowsThere_2 rfl ?_
  refine z_istore_n C 2 (ls1 := [(2, .int (0 : Int32)), (1, .int (0 : Int32)), (0, .ref (B + v0))]) dX7_rowsThere_3 rfl (by decide) rfl ?_
  exact z_jump (ls1 := [(0, .ref (B + v0)), (1, .int (0 : Int32)), (2, .int (0 : Int32))]) (Nat.le_of_ble_eq_true rfl) [2, 1, 0] rfl (z_fX7_rowsThere_l4 C ht hr N v0 N (0 : Int32) (0 : Int32) h0)
set_option maxHeartbeats 4000000 in
set_option maxRecDepth 100000 in
theorem z_fX7_copyFrom_l13_s {p : Program} {l : Launch} {e : Env} {s : State} {m : MethodId} {args : Array Value} {below : List Frame} {meth : Method} {c : Code} {D : va_G} {cy : Nat → ClassId} {B : Nat} {kd : Nat → Nat} {n : Nat} {sa sv : Nat → Nat} (C : zC p l s m args meth c D cy B kd n sa sv RX7 cX7_copyFrom 3) (ht : ∀ x ∈ c.exceptionTable.toList, False) (hr : meth.sig.returnType = none) {b0 : Mem} (N : Nat) (v0 : Nat) (v1 : Nat) (k13 : Int32 → Mem → Option Mem) (v2 : Int32) (M : Mem) (h0 : kd v0 = 7) (h1 : kd v1 = 7)  (hk13 : ∀ (v2 : Int32) (M : Mem), Z p l e (rmz 2 0) s m args below meth c (vx_MQ below (QcR D cy B kd n (cvV b0)) (XcR D cy B kd n (cvV b0)) args s 0 (6 * 0) (AA B kd n)) D cy B kd n 3 b0 0 13 [(0, .ref (B + v0)), (1, .ref (B + v1)), (2, .int v2)] [] M (k13 v2 M)) : Z p l e (rmz 2 0) s m args below meth c (vx_MQ below (QcR D cy B kd n (cvV b0)) (XcR D cy B kd n (cvV b0)) args s 0 (6 * 0) (AA B kd n)) D cy B kd n 3 b0 0 13 [(0, .ref (B + v0)), (1, .ref (B + v1)), (2, .int v2)] [] M (fX7_copyFrom_l13_s N v0 v1 k13 v2 M) := by
  unfold fX7_copyFrom_l13_s
  refine z_iload_n C 2 2 dX7_copyFrom_13 rfl rfl ?_
  refine z_iconst C dX7_copyFrom_14 rfl ?_
  refine z_icmp_ge C 39 dX7_copyFrom_15 rfl (fun _ => ?_) (fun _ => ?_)
  · exact z_vret C hr (Nat.le_of_ble_eq_true rfl) dX7_copyFrom_39 rfl
  · refine z_aload_n C 0 0 dX7_copyFrom_18 rfl rfl ?_
    refine z_getR (k := 1) C cl7 h0 rfl gw_1_176 rfl dX7_copyFrom_19 ?_
    have j1 : kd (v0 + 8) = 27 := zkd C h0 (k := 1) rfl
    refine z_iload_n C 2 2 dX7_copyFrom_22 rfl rfl ?_
    refine z_aald4 C j1 rfl (by decide) dX7_copyFrom_23 (fun j2 => ?_)
    have j3 : kd ((v0 + 8) + 1 + 4 * v2.toNatClampNeg) = 5 := zka C j1 rfl (by decide) j2
    refine z_aload_n C 1 1 dX7_copyFrom_24 rfl rfl ?_
    refine z_getR (k := 1) C cl7 h1 rfl gw_1_176 rfl dX7_copyFrom_25 ?_
    have j4 : kd (v1 + 8) = 27 := zkd C h1 (k := 1) rfl
    refine z_iload_n C 2 2 dX7_copyFrom_28 rfl rfl ?_
    refine z_aald4 C j4 rfl (by decide) dX7_copyFrom_29 (fun j5 => ?_)
    have j6 : kd ((v1 + 8) + 1 + 4 * v2.toNatClampNeg) = 5 := zka C j4 rfl (by decide) j5
    refine z_callV_V (As := [.ref (B + ((v1 + 8) + 1 + 4 * v2.toNatClampNeg))]) (rest := []) C rfl (ctX5_copyFrom (zG_of C) ((v0 + 8) + 1 + 4 * v2.toNatClampNeg) ((v1 + 8) + 1 + 4 * v2.toNatClampNeg) j3 j6 M) cw_RX7_33 rfl (okM_X5_copyFrom) rfl cl5 j3 (okR_of rfl) (Nat.le_of_ble_eq_true rfl) dX7_copyFrom_30 (fun qj7 _ => ?_)
    refine z_iinc C 2 2 (v := v2) (v1 := (v2 + (1 : Int32))) (ls1 := [(2, .int (v2 + (1 : Int32))), (0, .ref (B + v0)), (1, .ref (B + v1))]) dX7_copyFrom_33 rfl rfl (by decide) rfl ?_
    refine z_goto C 13 dX7_copyFrom_36 rfl ?_
    exact z_jump (ls1 := [(0, .ref (B + v0)), (1, .ref (B + v1)), (2, .int (v2 + (1 : Int32)))]) (Nat.le_of_ble_eq_true rfl) [1, 2, 0] rfl (hk13 (v2 + (1 : Int32)) qj7)
theorem z_fX7_copyFrom_l13_i {p : Program} {l : Launch} {e : Env} {s : State} {m : MethodId} {args : Array Value} {below : List Frame} {meth : Method} {c : Code} {D : va_G} {cy : Nat → ClassId} {B : Nat} {kd : Nat → Nat} {n : Nat} {sa sv : Nat → Nat} (C : zC p l s m args meth c D cy B kd n sa sv RX7 cX7_copyFrom 3) (ht : ∀ x ∈ c.exceptionTable.toList, False) (hr : meth.sig.returnType = none) {b0 : Mem} (N : Nat) (v0 : Nat) (v1 : Nat) (h0 : kd v0 = 7) (h1 : kd v1 = 7)  (fu : Nat) : ∀ (v2 : Int32) (M : Mem), Z p l e (rmz 2 0) s m args below meth c (vx_MQ below (QcR D cy B kd n (cvV b0)) (XcR D cy B kd n (cvV b0)) args s 0 (6 * 0) (AA B kd n)) D cy B kd n 3 b0 0 13 [(0, .ref (B + v0)), (1, .ref (B + v1)), (2, .int v2)] [] M (fX7_copyFrom_l13 N v0 v1 fu v2 M) := by
  induction fu with
  | zero => intro v2 M; exact z_none
  | succ fu ih => intro v2 M; exact z_fX7_copyFrom_l13_s C ht hr N v0 v1 (fX7_copyFrom_l13 N v0 v1 fu) v2 M h0 h1 (fun v2 M => ih v2 M)
theorem z_fX7_copyFrom_l13 {p : Program} {l : Launch} {e : Env} {s : State} {m : MethodId} {args : Array Value} {below : List Frame} {meth : Method} {c : Code} {D : va_G} {cy : Nat → ClassId} {B : Nat} {kd : Nat → Nat} {n : Nat} {sa sv : Nat → Nat} (C : zC p l s m args meth c D cy B kd n sa sv RX7 cX7_copyFrom 3) (ht : ∀ x ∈ c.exceptionTable.toList, False) (hr : meth.sig.returnType = none) {b0 : Mem} (N : Nat) (v0 : Nat) (v1 : Nat) (fu : Nat) (v2 : Int32) (M : Mem) (h0 : kd v0 = 7) (h1 : kd v1 = 7)  : Z p l e (rmz 2 0) s m args below meth c (vx_MQ below (QcR D cy B kd n (cvV b0)) (XcR D cy B kd n (cvV b0)) args s 0 (6 * 0) (AA B kd n)) D cy B kd n 3 b0 0 13 [(0, .ref (B + v0)), (1, .ref (B + v1)), (2, .int v2)] [] M (fX7_copyFrom_l13 N v0 v1 fu v2 M) := z_fX7_copyFrom_l13_i C ht hr N v0 v1 h0 h1 fu v2 M
set_option maxHeartbeats 4000000 in
set_option maxRecDepth 100000 in
theorem ctX7_copyFrom {l : Launch} {D : va_G} {cy : Nat → ClassId} {B : Nat} {kd : Nat → Nat} {n : Nat} {sa sv : Nat → Nat} (G : zG l kd n) (N : Nat) (v0 : Nat) (v1 : Nat) (h0 : kd v0 = 7) (h1 : kd v1 = 7) (M : Mem) : CT l D cy B kd n sa sv 2 0 yX7_copyFrom cX7_copyFrom 3 (none) cvV [.ref (B + v0), .ref (B + v1)] M (fX7_copyFrom N v0 v1 M) := by
  refine ct_of (by decide) G.1 G.2 (Nat.le_of_ble_eq_true rfl) (ls := [(0, .ref (B + v0)), (1, .ref (B + v1))]) rfl ?_
  intro p e s m args below meth c b0 C ht hr
  unfold fX7_copyFrom
  refine z_aload_n C 0 0 dX7_copyFrom_0 rfl rfl ?_
  refine z_getR (k := 0) C cl7 h0 rfl gw_1_174 rfl dX7_copyFrom_1 ?_
  have j1 : kd (v0 + 1) = 6 := zkd C h0 (k := 0) rfl
  refine z_aload_n C 1 1 dX7_copyFrom_4 rfl rfl ?_
  refine z_getR (k := 0) C cl7 h1 rfl gw_1_174 rfl dX7_copyFrom_5 ?_
  have j2 : kd (v1 + 1) = 6 := zkd C h1 (k := 0) rfl
  refine z_callV_V (As := [.ref (B + (v1 + 1))]) (rest := []) C rfl (ctX6_copyFrom (zG_of C) (v0 + 1) (v1 + 1) j1 j2 M) cw_RX7_29 rfl (okM_X6_copyFrom) rfl cl6 j1 (okR_of rfl) (Nat.le_of_ble_eq_true rfl) dX7_copyFrom_8 (fun qj3 _ => ?_)
  refine z_iconst C dX7_copyFrom_11 rfl ?_
  refine z_istore_n C 2 (ls1 := [(2, .int (0 : Int32)), (0, .ref (B + v0)), (1, .ref (B + v1))]) dX7_copyFrom_12 rfl (by decide) rfl ?_
  exact z_jump (ls1 := [(0, .ref (B + v0)), (1, .ref (B + v1)), (2, .int (0 : Int32))]) (Nat.le_of_ble_eq_true rfl) [1, 2, 0] rfl (z_fX7_copyFrom_l13 C ht hr N v0 v1 N (0 : Int32) qj3 h0 h1)
