/-! X1_gatherOutside -/
def fX1_gatherOutside_b40 (N : Nat) (k6 : Int32 → Mem → Option Mem) (v0 : Nat) (v1 : Nat) (v2 : Nat) (v3 : Int32) (M : Mem) : Option Mem :=
  k6 (v3 + (1 : Int32)) M
def fX1_gatherOutside_l6_s (N : Nat) (v0 : Nat) (v1 : Nat) (v2 : Nat) (k6 : Int32 → Mem → Option Mem) (v3 : Int32) (M : Mem) : Option Mem :=
  if (rI M v1 1) ≤ v3 then some M else (fX9_numberAt v1 v3 M).bind fun qj1 => (fX2_has (v0 + 1) qj1.toInt32 M).bind fun qj3 => if qj3 = true then fX1_gatherOutside_b40 N k6 v0 v1 v2 v3 M else (fX2_add v2 qj1.toInt32 M).bind fun qj4 => fX1_gatherOutside_b40 N k6 v0 v1 v2 v3 qj4
def fX1_gatherOutside_l6 (N : Nat) (v0 : Nat) (v1 : Nat) (v2 : Nat) : Nat → Int32 → Mem → Option Mem
  | 0, _, _ => none
  | n + 1, v3, M => fX1_gatherOutside_l6_s N v0 v1 v2 (fX1_gatherOutside_l6 N v0 v1 v2 n) v3 M
def fX1_gatherOutside (N : Nat) (v0 : Nat) (v1 : Nat) (v2 : Nat) (M : Mem) : Option Mem :=
  (fX2_clear N v2 M).bind fun qj1 => fX1_gatherOutside_l6 N v0 v1 v2 N (0 : Int32) qj1
/-! X1_keepWronged -/
def fX1_keepWronged_b92 (N : Nat) (k47 : Int32 → Mem → Option Mem) (v0 : Nat) (v2 : Nat) (v3 : Int32) (v4 : Int32) (v5 : Int64) (v7 : Int32) (M : Mem) : Option Mem :=
  k47 (v7 + (1 : Int32)) M
def fX1_keepWronged_l47_s (N : Nat) (v0 : Nat) (v2 : Nat) (v3 : Int32) (v4 : Int32) (v5 : Int64) (k47 : Int32 → Mem → Option Mem) (v7 : Int32) (M : Mem) : Option Mem :=
  if (rI M v0 1) ≤ v7 then some M else (fX2_has v2 v7 M).bind fun qj1 => if qj1 = true then (fX6_placesOf N v0 v7 v3 v4 M).bind fun qj2 => if (qj2.1 &&& (v5 ^^^ (-1 : Int64))) = (0 : Int64) then fX1_keepWronged_b92 N k47 v0 v2 v3 v4 v5 v7 qj2.2 else (fX2_remove v2 v7 qj2.2).bind fun qj3 => fX1_keepWronged_b92 N k47 v0 v2 v3 v4 v5 v7 qj3 else fX1_keepWronged_b92 N k47 v0 v2 v3 v4 v5 v7 M
def fX1_keepWronged_l47 (N : Nat) (v0 : Nat) (v2 : Nat) (v3 : Int32) (v4 : Int32) (v5 : Int64) : Nat → Int32 → Mem → Option Mem
  | 0, _, _ => none
  | n + 1, v7, M => fX1_keepWronged_l47_s N v0 v2 v3 v4 v5 (fX1_keepWronged_l47 N v0 v2 v3 v4 v5 n) v7 M
def fX1_keepWronged_b38 (N : Nat) (k6 : Int64 → Int32 → Mem → Option Mem) (v0 : Nat) (v1 : Nat) (v2 : Nat) (v3 : Int32) (v4 : Int32) (v5 : Int64) (v7 : Int32) (M : Mem) : Option Mem :=
  k6 v5 (v7 + (1 : Int32)) M
def fX1_keepWronged_l6_s (N : Nat) (v0 : Nat) (v1 : Nat) (v2 : Nat) (v3 : Int32) (v4 : Int32) (k6 : Int64 → Int32 → Mem → Option Mem) (v5 : Int64) (v7 : Int32) (M : Mem) : Option Mem :=
  if (rI M v0 1) ≤ v7 then fX1_keepWronged_l47 N v0 v2 v3 v4 v5 N (0 : Int32) M else (fX2_has v1 v7 M).bind fun qj1 => if qj1 = true then (fX6_placesOf N v0 v7 v3 v4 M).bind fun qj2 => fX1_keepWronged_b38 N k6 v0 v1 v2 v3 v4 (v5 ||| qj2.1) v7 qj2.2 else fX1_keepWronged_b38 N k6 v0 v1 v2 v3 v4 v5 v7 M
def fX1_keepWronged_l6 (N : Nat) (v0 : Nat) (v1 : Nat) (v2 : Nat) (v3 : Int32) (v4 : Int32) : Nat → Int64 → Int32 → Mem → Option Mem
  | 0, _, _, _ => none
  | n + 1, v5, v7, M => fX1_keepWronged_l6_s N v0 v1 v2 v3 v4 (fX1_keepWronged_l6 N v0 v1 v2 v3 v4 n) v5 v7 M
def fX1_keepWronged (N : Nat) (v0 : Nat) (v1 : Nat) (v2 : Nat) (v3 : Int32) (v4 : Int32) (M : Mem) : Option Mem :=
  fX1_keepWronged_l6 N v0 v1 v2 v3 v4 N (0 : Int64) (0 : Int32) M
/-! X1_build -/
def fX1_build_l46_s (N : Nat) (v0 : Nat) (v1 : Nat) (v2 : Nat) (v4 : Nat) (k46 : Nat → Nat → Int32 → Mem → Option (Bool × Mem)) (v5 : Nat) (v6 : Nat) (v7 : Int32) (M : Mem) : Option (Bool × Mem) :=
  if (rI M v4 1) ≤ v7 then some (false, M) else (fX9_numberAt v4 v7 M).bind fun qj1 => (fX2_many N v5 (wI M v0 0 ((rI M v0 0) + (1 : Int32)))).bind fun qj2 => (fX1_keepWronged N v2 v5 v6 qj1.toInt32 (rI (wI (wI (wI M v0 0 ((rI M v0 0) + (1 : Int32))) v0 1 ((rI (wI M v0 0 ((rI M v0 0) + (1 : Int32))) v0 1) + qj2)) v0 2 ((rI (wI (wI M v0 0 ((rI M v0 0) + (1 : Int32))) v0 1 ((rI (wI M v0 0 ((rI M v0 0) + (1 : Int32))) v0 1) + qj2)) v0 2) + qj1.toInt32)) v1 3) (wI (wI (wI M v0 0 ((rI M v0 0) + (1 : Int32))) v0 1 ((rI (wI M v0 0 ((rI M v0 0) + (1 : Int32))) v0 1) + qj2)) v0 2 ((rI (wI (wI M v0 0 ((rI M v0 0) + (1 : Int32))) v0 1 ((rI (wI M v0 0 ((rI M v0 0) + (1 : Int32))) v0 1) + qj2)) v0 2) + qj1.toInt32))).bind fun qj3 => (fX2_many N v6 qj3).bind fun qj4 => if qj4 = 0 then some (true, qj3) else k46 v6 v5 (v7 + (1 : Int32)) qj3
def fX1_build_l46 (N : Nat) (v0 : Nat) (v1 : Nat) (v2 : Nat) (v4 : Nat) : Nat → Nat → Nat → Int32 → Mem → Option (Bool × Mem)
  | 0, _, _, _, _ => none
  | n + 1, v5, v6, v7, M => fX1_build_l46_s N v0 v1 v2 v4 (fX1_build_l46 N v0 v1 v2 v4 n) v5 v6 v7 M
def fX1_build (N : Nat) (v0 : Nat) (v1 : Nat) (v2 : Nat) (v3 : Nat) (v4 : Nat) (M : Mem) : Option (Bool × Mem) :=
  (fX2_copyFrom (v0 + 1) (v1 + 1) (wI (wI (wI M v0 0 (0 : Int32)) v0 1 (0 : Int32)) v0 2 (0 : Int32))).bind fun qj4 => (fX1_gatherOutside N v1 v3 (v0 + 3) qj4).bind fun qj5 => fX1_build_l46 N v0 v1 v2 v4 N (v0 + 1) (v0 + 3) (0 : Int32) qj5
set_option maxHeartbeats 4000000 in
set_option maxRecDepth 100000 in
theorem z_fX1_gatherOutside_b40 {p : Program} {l : Launch} {e : Env} {s : State} {m : MethodId} {args : Array Value} {below : List Frame} {meth : Method} {c : Code} {D : va_G} {cy : Nat → ClassId} {B : Nat} {kd : Nat → Nat} {n : Nat} {sa sv : Nat → Nat} (C : zC p l s m args meth c D cy B kd n sa sv RX1 cX1_gatherOutside 5) (ht : ∀ x ∈ c.exceptionTable.toList, False) (hr : meth.sig.returnType = none) {b0 : Mem}  (N : Nat) (k6 : Int32 → Mem → Option Mem) (v0 : Nat) (v1 : Nat) (v2 : Nat) (v3 : Int32) (M : Mem) (h0 : kd v0 = 5) (h1 : kd v1 = 9) (h2 : kd v2 = 2) (hk6 : ∀ (v3 : Int32) (M : Mem), Z p l e (rmz 2 0) s m args below meth c (vx_MQ below (QcR D cy B kd n (cvV b0)) (XcR D cy B kd n (cvV b0)) args s 0 (6 * 0) (AA B kd n)) D cy B kd n 5 b0 0 6 [(0, .ref (B + v0)), (1, .ref (B + v1)), (2, .ref (B + v2)), (3, .int v3)] [] M (k6 v3 M)) : Z p l e (rmz 2 0) s m args below meth c (vx_MQ below (QcR D cy B kd n (cvV b0)) (XcR D cy B kd n (cvV b0)) args s 0 (6 * 0) (AA B kd n)) D cy B kd n 5 b0 0 40 [(0, .ref (B + v0)), (1, .ref (B + v1)), (2, .ref (B + v2)), (3, .int v3)] [] M (fX1_gatherOutside_b40 N k6 v0 v1 v2 v3 M) := by
  unfold fX1_gatherOutside_b40
  refine z_iinc C 3 3 (v := v3) (v1 := (v3 + (1 : Int32))) (ls1 := [(3, .int (v3 + (1 : Int32))), (0, .ref (B + v0)), (1, .ref (B + v1)), (2, .ref (B + v2))]) dX1_gatherOutside_40 rfl rfl (by decide) rfl ?_
  refine z_goto C 6 dX1_gatherOutside_43 rfl ?_
  exact z_jump (ls1 := [(0, .ref (B + v0)), (1, .ref (B + v1)), (2, .ref (B + v2)), (3, .int (v3 + (1 : Int32)))]) (Nat.le_of_ble_eq_true rfl) [1, 2, 3, 0] rfl (hk6 (v3 + (1 : Int32)) M)
set_option maxHeartbeats 4000000 in
set_option maxRecDepth 100000 in
theorem z_fX1_gatherOutside_l6_s {p : Program} {l : Launch} {e : Env} {s : State} {m : MethodId} {args : Array Value} {below : List Frame} {meth : Method} {c : Code} {D : va_G} {cy : Nat → ClassId} {B : Nat} {kd : Nat → Nat} {n : Nat} {sa sv : Nat → Nat} (C : zC p l s m args meth c D cy B kd n sa sv RX1 cX1_gatherOutside 5) (ht : ∀ x ∈ c.exceptionTable.toList, False) (hr : meth.sig.returnType = none) {b0 : Mem} (N : Nat) (v0 : Nat) (v1 : Nat) (v2 : Nat) (k6 : Int32 → Mem → Option Mem) (v3 : Int32) (M : Mem) (h0 : kd v0 = 5) (h1 : kd v1 = 9) (h2 : kd v2 = 2)  (hk6 : ∀ (v3 : Int32) (M : Mem), Z p l e (rmz 2 0) s m args below meth c (vx_MQ below (QcR D cy B kd n (cvV b0)) (XcR D cy B kd n (cvV b0)) args s 0 (6 * 0) (AA B kd n)) D cy B kd n 5 b0 0 6 [(0, .ref (B + v0)), (1, .ref (B + v1)), (2, .ref (B + v2)), (3, .int v3)] [] M (k6 v3 M)) : Z p l e (rmz 2 0) s m args below meth c (vx_MQ below (QcR D cy B kd n (cvV b0)) (XcR D cy B kd n (cvV b0)) args s 0 (6 * 0) (AA B kd n)) D cy B kd n 5 b0 0 6 [(0, .ref (B + v0)), (1, .ref (B + v1)), (2, .ref (B + v2)), (3, .int v3)] [] M (fX1_gatherOutside_l6_s N v0 v1 v2 k6 v3 M) := by
  unfold fX1_gatherOutside_l6_s
  refine z_iload_n C 3 3 dX1_gatherOutside_6 rfl rfl ?_
  refine z_aload_n C 1 1 dX1_gatherOutside_7 rfl rfl ?_
  refine z_getI (k := 1) C cl9 h1 rfl gw_1_210 rfl dX1_gatherOutside_8 ?_
  refine z_icmp_ge C 46 dX1_gatherOutside_11 rfl (fun _ => ?_) (fun _ => ?_)
  · exact z_vret C hr (Nat.le_of_ble_eq_true rfl) dX1_gatherOutside_46 rfl
  · refine z_aload_n C 1 1 dX1_gatherOutside_14 rfl rfl ?_
    refine z_iload_n C 3 3 dX1_gatherOutside_15 rfl rfl ?_
    refine z_callV_pJ (As := [.int v3]) (rest := []) C rfl (ctX9_numberAt (zG_of C) v1 v3 h1 M) cw_RX1_47 rfl (okM_X9_numberAt) rfl cl9 h1 (okR_of rfl) (Nat.le_of_ble_eq_true rfl) dX1_gatherOutside_16 (fun qj1 _ => ?_)
    refine z_l2i C dX1_gatherOutside_19 ?_
    refine z_istore C 4 (ls1 := [(4, .int qj1.toInt32), (0, .ref (B + v0)), (1, .ref (B + v1)), (2, .ref (B + v2)), (3, .int v3)]) dX1_gatherOutside_20 (by decide) rfl ?_
    refine z_aload_n C 0 1 dX1_gatherOutside_22 rfl rfl ?_
    refine z_getR (k := 8) C cl5 h0 rfl gw_1_147 rfl dX1_gatherOutside_23 ?_
    have j2 : kd (v0 + 1) = 2 := zkd C h0 (k := 8) rfl
    refine z_iload C 0 dX1_gatherOutside_26 rfl ?_
    refine z_callV_pB (As := [.int qj1.toInt32]) (rest := []) C rfl (ctX2_has (zG_of C) (v0 + 1) qj1.toInt32 j2 M) cw_RX1_64 rfl (okM_X2_has) rfl cl2 j2 (okR_of rfl) (Nat.le_of_ble_eq_true rfl) dX1_gatherOutside_28 (fun qj3 _ => ?_)
    refine z_if_neB C 40 dX1_gatherOutside_31 rfl (fun _ => ?_) (fun _ => ?_)
    · exact z_jump (ls1 := [(0, .ref (B + v0)), (1, .ref (B + v1)), (2, .ref (B + v2)), (3, .int v3)]) (Nat.le_of_ble_eq_true rfl) [1, 2, 3, 4] rfl (z_fX1_gatherOutside_b40 C ht hr N k6 v0 v1 v2 v3 M h0 h1 h2 hk6)
    · refine z_aload_n C 2 3 dX1_gatherOutside_34 rfl rfl ?_
      refine z_iload C 0 dX1_gatherOutside_35 rfl ?_
      refine z_callV_V (As := [.int qj1.toInt32]) (rest := []) C rfl (ctX2_add (zG_of C) v2 qj1.toInt32 h2 M) cw_RX1_68 rfl (okM_X2_add) rfl cl2 h2 (okR_of rfl) (Nat.le_of_ble_eq_true rfl) dX1_gatherOutside_37 (fun qj4 _ => ?_)
      exact z_jump (ls1 := [(0, .ref (B + v0)), (1, .ref (B + v1)), (2, .ref (B + v2)), (3, .int v3)]) (Nat.le_of_ble_eq_true rfl) [1, 2, 3, 4] rfl (z_fX1_gatherOutside_b40 C ht hr N k6 v0 v1 v2 v3 qj4 h0 h1 h2 hk6)
theorem z_fX1_gatherOutside_l6_i {p : Program} {l : Launch} {e : Env} {s : State} {m : MethodId} {args : Array Value} {below : List Frame} {meth : Method} {c : Code} {D : va_G} {cy : Nat → ClassId} {B : Nat} {kd : Nat → Nat} {n : Nat} {sa sv : Nat → Nat} (C : zC p l s m args meth c D cy B kd n sa sv RX1 cX1_gatherOutside 5) (ht : ∀ x ∈ c.exceptionTable.toList, False) (hr : meth.sig.returnType = none) {b0 : Mem} (N : Nat) (v0 : Nat) (v1 : Nat) (v2 : Nat) (h0 : kd v0 = 5) (h1 : kd v1 = 9) (h2 : kd v2 = 2)  (fu : Nat) : ∀ (v3 : Int32) (M : Mem), Z p l e (rmz 2 0) s m args below meth c (vx_MQ below (QcR D cy B kd n (cvV b0)) (XcR D cy B kd n (cvV b0)) args s 0 (6 * 0) (AA B kd n)) D cy B kd n 5 b0 0 6 [(0, .ref (B + v0)), (1, .ref (B + v1)), (2, .ref (B + v2)), (3, .int v3)] [] M (fX1_gatherOutside_l6 N v0 v1 v2 fu v3 M) := by
  induction fu with
  | zero => intro v3 M; exact z_none
  | succ fu ih => intro v3 M; exact z_fX1_gatherOutside_l6_s C ht hr N v0 v1 v2 (fX1_gatherOutside_l6 N v0 v1 v2 fu) v3 M h0 h1 h2 (fun v3 M => ih v3 M)
theorem z_fX1_gatherOutside_l6 {p : Program} {l : Launch} {e : Env} {s : State} {m : MethodId} {args : Array Value} {below : List Frame} {meth : Method} {c : Code} {D : va_G} {cy : Nat → ClassId} {B : Nat} {kd : Nat → Nat} {n : Nat} {sa sv : Nat → Nat} (C : zC p l s m args meth c D cy B kd n sa sv RX1 cX1_gatherOutside 5) (ht : ∀ x ∈ c.exceptionTable.toList, False) (hr : meth.sig.returnType = none) {b0 : Mem} (N : Nat) (v0 : Nat) (v1 : Nat) (v2 : Nat) (fu : Nat) (v3 : Int32) (M : Mem) (h0 : kd v0 = 5) (h1 : kd v1 = 9) (h2 : kd v2 = 2)  : Z p l e (rmz 2 0) s m args below meth c (vx_MQ below (QcR D cy B kd n (cvV b0)) (XcR D cy B kd n (cvV b0)) args s 0 (6 * 0) (AA B kd n)) D cy B kd n 5 b0 0 6 [(0, .ref (B + v0)), (1, .ref (B + v1)), (2, .ref (B + v2)), (3, .int v3)] [] M (fX1_gatherOutside_l6 N v0 v1 v2 fu v3 M) := z_fX1_gatherOutside_l6_i C ht hr N v0 v1 v2 h0 h1 h2 fu v3 M
set_option maxHeartbeats 4000000 in
set_option maxRecDepth 100000 in
theorem ctX1_gatherOutside {l : Launch} {D : va_G} {cy : Nat → ClassId} {B : Nat} {kd : Nat → Nat} {n : Nat} {sa sv : Nat → Nat} (G : zG l kd n) (N : Nat) (v0 : Nat) (v1 : Nat) (v2 : Nat) (h0 : kd v0 = 5) (h1 : kd v1 = 9) (h2 : kd v2 = 2) (M : Mem) : CT l D cy B kd n sa sv 2 0 yX1_gatherOutside cX1_gatherOutside 5 (none) cvV [.ref (B + v0), .ref (B + v1), .ref (B + v2)] M (fX1_gatherOutside N v0 v1 v2 M) := by
  refine ct_of (by decide) G.1 G.2 (Nat.le_of_ble_eq_true rfl) (ls := [(0, .ref (B + v0)), (1, .ref (B + v1)), (2, .ref (B + v2))]) rfl ?_
  intro p e s m args below meth c b0 C ht hr
  unfold fX1_gatherOutside
  refine z_aload_n C 2 2 dX1_gatherOutside_0 rfl rfl ?_
  refine z_callV_V (As := []) (rest := []) C rfl (ctX2_clear (zG_of C) N v2 h2 M) cw_RX1_61 rfl (okM_X2_clear) rfl cl2 h2 (okR_of rfl) (Nat.le_of_ble_eq_true rfl) dX1_gatherOutside_1 (fun qj1 _ => ?_)
  refine z_iconst C dX1_gatherOutside_4 rfl ?_
  refine z_istore_n C 3 (ls1 := [(3, .int (0 : Int32)), (0, .ref (B + v0)), (1, .ref (B + v1)), (2, .ref (B + v2))]) dX1_gatherOutside_5 rfl (by decide) rfl ?_
  exact z_jump (ls1 := [(0, .ref (B + v0)), (1, .ref (B + v1)), (2, .ref (B + v2)), (3, .int (0 : Int32))]) (Nat.le_of_ble_eq_true rfl) [1, 2, 3, 0] rfl (z_fX1_gatherOutside_l6 C ht hr N v0 v1 v2 N (0 : Int32) qj1 h0 h1 h2)
set_option maxHeartbeats 4000000 in
set_option maxRecDepth 100000 in
theorem z_fX1_keepWronged_b92 {p : Program} {l : Launch} {e : Env} {s : State} {m : MethodId} {args : Array Value} {below : List Frame} {meth : Method} {c : Code} {D : va_G} {cy : Nat → ClassId} {B : Nat} {kd : Nat → Nat} {n : Nat} {sa sv : Nat → Nat} (C : zC p l s m args meth c D cy B kd n sa sv RX1 cX1_keepWronged 8) (ht : ∀ x ∈ c.exceptionTable.toList, False) (hr : meth.sig.returnType = none) {b0 : Mem}  (N : Nat) (k47 : Int32 → Mem → Option Mem) (v0 : Nat) (v2 : Nat) (v3 : Int32) (v4 : Int32) (v5 : Int64) (v7 : Int32) (M : Mem) (h0 : kd v0 = 6) (h2 : kd v2 = 2) (hk47 : ∀ (v7 : Int32) (M : Mem), Z p l e (rmz 3 0) s m args below meth c (vx_MQ below (QcR D cy B kd n (cvV b0)) (XcR D cy B kd n (cvV b0)) args s 0 (6 * 0) (AA B kd n)) D cy B kd n 8 b0 0 47 [(0, .ref (B + v0)), (2, .ref (B + v2)), (3, .int v3), (4, .int v4), (5, .long v5), (7, .int v7)] [] M (k47 v7 M)) : Z p l e (rmz 3 0) s m args below meth c (vx_MQ below (QcR D cy B kd n (cvV b0)) (XcR D cy B kd n (cvV b0)) args s 0 (6 * 0) (AA B kd n)) D cy B kd n 8 b0 0 92 [(0, .ref (B + v0)), (2, .ref (B + v2)), (3, .int v3), (4, .int v4), (5, .long v5), (7, .int v7)] [] M (fX1_keepWronged_b92 N k47 v0 v2 v3 v4 v5 v7 M) := by
  unfold fX1_keepWronged_b92
  refine z_iinc C 7 5 (v := v7) (v1 := (v7 + (1 : Int32))) (ls1 := [(7, .int (v7 + (1 : Int32))), (0, .ref (B + v0)), (2, .ref (B + v2)), (3, .int v3), (4, .int v4), (5, .long v5)]) dX1_keepWronged_92 rfl rfl (by decide) rfl ?_
  refine z_goto C 47 dX1_keepWronged_95 rfl ?_
  exact z_jump (ls1 := [(0, .ref (B + v0)), (2, .ref (B + v2)), (3, .int v3), (4, .int v4), (5, .long v5), (7, .int (v7 + (1 : Int32)))]) (Nat.le_of_ble_eq_true rfl) [1, 2, 3, 4, 5, 0] rfl (hk47 (v7 + (1 : Int32)) M)
set_option maxHeartbeats 4000000 in
set_option maxRecDepth 100000 in
theorem z_fX1_keepWronged_l47_s {p : Program} {l : Launch} {e : Env} {s : State} {m : MethodId} {args : Array Value} {below : List Frame} {meth : Method} {c : Code} {D : va_G} {cy : Nat → ClassId} {B : Nat} {kd : Nat → Nat} {n : Nat} {sa sv : Nat → Nat} (C : zC p l s m args meth c D cy B kd n sa sv RX1 cX1_keepWronged 8) (ht : ∀ x ∈ c.exceptionTable.toList, False) (hr : meth.sig.returnType = none) {b0 : Mem} (N : Nat) (v0 : Nat) (v2 : Nat) (v3 : Int32) (v4 : Int32) (v5 : Int64) (k47 : Int32 → Mem → Option Mem) (v7 : Int32) (M : Mem) (h0 : kd v0 = 6) (h2 : kd v2 = 2)  (hk47 : ∀ (v7 : Int32) (M : Mem), Z p l e (rmz 3 0) s m args below meth c (vx_MQ below (QcR D cy B kd n (cvV b0)) (XcR D cy B kd n (cvV b0)) args s 0 (6 * 0) (AA B kd n)) D cy B kd n 8 b0 0 47 [(0, .ref (B + v0)), (2, .ref (B + v2)), (3, .int v3), (4, .int v4), (5, .long v5), (7, .int v7)] [] M (k47 v7 M)) : Z p l e (rmz 3 0) s m args below meth c (vx_MQ below (QcR D cy B kd n (cvV b0)) (XcR D cy B kd n (cvV b0)) args s 0 (6 * 0) (AA B kd n)) D cy B kd n 8 b0 0 47 [(0, .ref (B + v0)), (2, .ref (B + v2)), (3, .int v3), (4, .int v4), (5, .long v5), (7, .int v7)] [] M (fX1_keepWronged_l47_s N v0 v2 v3 v4 v5 k47 v7 M) := by
  unfold fX1_keepWronged_l47_s
  refine z_iload C 5 dX1_keepWronged_47 rfl ?_
  refine z_aload_n C 0 0 dX1_keepWronged_49 rfl rfl ?_
  refine z_getI (k := 1) C cl6 h0 rfl gw_1_54 rfl dX1_keepWronged_50 ?_
  refine z_icmp_ge C 98 dX1_keepWronged_53 rfl (fun _ => ?_) (fun _ => ?_)
  · exact z_vret C hr (Nat.le_of_ble_eq_true rfl) dX1_keepWronged_98 rfl
  · refine z_aload_n C 2 1 dX1_keepWronged_56 rfl rfl ?_
    refine z_iload C 5 dX1_keepWronged_57 rfl ?_
    refine z_callV_pB (As := [.int v7]) (rest := []) C rfl (ctX2_has (zG_of C) v2 v7 h2 M) cw_RX1_64 rfl (okM_X2_has) rfl cl2 h2 (okR_of rfl) (Nat.le_of_ble_eq_true rfl) dX1_keepWronged_59 (fun qj1 _ => ?_)
    refine z_if_eqB C 92 dX1_keepWronged_62 rfl (fun _ => ?_) (fun _ => ?_)
    · refine z_aload_n C 0 0 dX1_keepWronged_65 rfl rfl ?_
      refine z_iload C 5 dX1_keepWronged_66 rfl ?_
      refine z_iload_n C 3 2 dX1_keepWronged_68 rfl rfl ?_
      refine z_iload C 3 dX1_keepWronged_69 rfl ?_
      refine z_callV_J (As := [.int v7, .int v3, .int v4]) (rest := []) C rfl (ctX6_placesOf (zG_of C) N v0 v7 v3 v4 h0 M) cw_RX1_77 rfl (okM_X6_placesOf) rfl cl6 h0 (okR_of rfl) (Nat.le_of_ble_eq_true rfl) dX1_keepWronged_71 (fun qj2 _ => ?_)
      refine z_lload C 4 dX1_keepWronged_74 rfl ?_
      refine z_ldc2 C dX1_keepWronged_76 gw_6_73 ?_
      refine z_lxor C dX1_keepWronged_79 ?_
      refine z_land C dX1_keepWronged_80 ?_
      refine z_lconst (v := 0) C dX1_keepWronged_81 rfl ?_
      refine z_lcmp_eq C 92 dX1_keepWronged_82 dX1_keepWronged_83 rfl (fun _ => ?_) (fun _ => ?_)
      · exact z_jump (ls1 := [(0, .ref (B + v0)), (2, .ref (B + v2)), (3, .int v3), (4, .int v4), (5, .long v5), (7, .int v7)]) (Nat.le_of_ble_eq_true rfl) [0, 1, 2, 3, 4, 5] rfl (z_fX1_keepWronged_b92 C ht hr N k47 v0 v2 v3 v4 v5 v7 qj2.2 h0 h2 hk47)
      · refine z_aload_n C 2 1 dX1_keepWronged_86 rfl rfl ?_
        refine z_iload C 5 dX1_keepWronged_87 rfl ?_
        refine z_callV_V (As := [.int v7]) (rest := []) C rfl (ctX2_remove (zG_of C) v2 v7 h2 qj2.2) cw_RX1_83 rfl (okM_X2_remove) rfl cl2 h2 (okR_of rfl) (Nat.le_of_ble_eq_true rfl) dX1_keepWronged_89 (fun qj3 _ => ?_)
        exact z_jump (ls1 := [(0, .ref (B + v0)), (2, .ref (B + v2)), (3, .int v3), (4, .int v4), (5, .long v5), (7, .int v7)]) (Nat.le_of_ble_eq_true rfl) [0, 1, 2, 3, 4, 5] rfl (z_fX1_keepWronged_b92 C ht hr N k47 v0 v2 v3 v4 v5 v7 qj3 h0 h2 hk47)
    · exact z_jump (ls1 := [(0, .ref (B + v0)), (2, .ref (B + v2)), (3, .int v3), (4, .int v4), (5, .long v5), (7, .int v7)]) (Nat.le_of_ble_eq_true rfl) [0, 1, 2, 3, 4, 5] rfl (z_fX1_keepWronged_b92 C ht hr N k47 v0 v2 v3 v4 v5 v7 M h0 h2 hk47)
theorem z_fX1_keepWronged_l47_i {p : Program} {l : Launch} {e : Env} {s : State} {m : MethodId} {args : Array Value} {below : List Frame} {meth : Method} {c : Code} {D : va_G} {cy : Nat → ClassId} {B : Nat} {kd : Nat → Nat} {n : Nat} {sa sv : Nat → Nat} (C : zC p l s m args meth c D cy B kd n sa sv RX1 cX1_keepWronged 8) (ht : ∀ x ∈ c.exceptionTable.toList, False) (hr : meth.sig.returnType = none) {b0 : Mem} (N : Nat) (v0 : Nat) (v2 : Nat) (v3 : Int32) (v4 : Int32) (v5 : Int64) (h0 : kd v0 = 6) (h2 : kd v2 = 2)  (fu : Nat) : ∀ (v7 : Int32) (M : Mem), Z p l e (rmz 3 0) s m args below meth c (vx_MQ below (QcR D cy B kd n (cvV b0)) (XcR D cy B kd n (cvV b0)) args s 0 (6 * 0) (AA B kd n)) D cy B kd n 8 b0 0 47 [(0, .ref (B + v0)), (2, .ref (B + v2)), (3, .int v3), (4, .int v4), (5, .long v5), (7, .int v7)] [] M (fX1_keepWronged_l47 N v0 v2 v3 v4 v5 fu v7 M) := by
  induction fu with
  | zero => intro v7 M; exact z_none
  | succ fu ih => intro v7 M; exact z_fX1_keepWronged_l47_s C ht hr N v0 v2 v3 v4 v5 (fX1_keepWronged_l47 N v0 v2 v3 v4 v5 fu) v7 M h0 h2 (fun v7 M => ih v7 M)
theorem z_fX1_keepWronged_l47 {p : Program} {l : Launch} {e : Env} {s : State} {m : MethodId} {args : Array Value} {below : List Frame} {meth : Method} {c : Code} {D : va_G} {cy : Nat → ClassId} {B : Nat} {kd : Nat → Nat} {n : Nat} {sa sv : Nat → Nat} (C : zC p l s m args meth c D cy B kd n sa sv RX1 cX1_keepWronged 8) (ht : ∀ x ∈ c.exceptionTable.toList, False) (hr : meth.sig.returnType = none) {b0 : Mem} (N : Nat) (v0 : Nat) (v2 : Nat) (v3 : Int32) (v4 : Int32) (v5 : Int64) (fu : Nat) (v7 : Int32) (M : Mem) (h0 : kd v0 = 6) (h2 : kd v2 = 2)  : Z p l e (rmz 3 0) s m args below meth c (vx_MQ below (QcR D cy B kd n (cvV b0)) (XcR D cy B kd n (cvV b0)) args s 0 (6 * 0) (AA B kd n)) D cy B kd n 8 b0 0 47 [(0, .ref (B + v0)), (2, .ref (B + v2)), (3, .int v3), (4, .int v4), (5, .long v5), (7, .int v7)] [] M (fX1_keepWronged_l47 N v0 v2 v3 v4 v5 fu v7 M) := z_fX1_keepWronged_l47_i C ht hr N v0 v2 v3 v4 v5 h0 h2 fu v7 M
set_option maxHeartbeats 4000000 in
set_option maxRecDepth 100000 in
theorem z_fX1_keepWronged_b38 {p : Program} {l : Launch} {e : Env} {s : State} {m : MethodId} {args : Array Value} {below : List Frame} {meth : Method} {c : Code} {D : va_G} {cy : Nat → ClassId} {B : Nat} {kd : Nat → Nat} {n : Nat} {sa sv : Nat → Nat} (C : zC p l s m args meth c D cy B kd n sa sv RX1 cX1_keepWronged 8) (ht : ∀ x ∈ c.exceptionTable.toList, False) (hr : meth.sig.returnType = none) {b0 : Mem}  (N : Nat) (k6 : Int64 → Int32 → Mem → Option Mem) (v0 : Nat) (v1 : Nat) (v2 : Nat) (v3 : Int32) (v4 : Int32) (v5 : Int64) (v7 : Int32) (M : Mem) (h0 : kd v0 = 6) (h1 : kd v1 = 2) (h2 : kd v2 = 2) (hk6 : ∀ (v5 : Int64) (v7 : Int32) (M : Mem), Z p l e (rmz 3 0) s m args below meth c (vx_MQ below (QcR D cy B kd n (cvV b0)) (XcR D cy B kd n (cvV b0)) args s 0 (6 * 0) (AA B kd n)) D cy B kd n 8 b0 0 6 [(0, .ref (B + v0)), (1, .ref (B + v1)), (2, .ref (B + v2)), (3, .int v3), (4, .int v4), (5, .long v5), (7, .int v7)] [] M (k6 v5 v7 M)) : Z p l e (rmz 3 0) s m args below meth c (vx_MQ below (QcR D cy B kd n (cvV b0)) (XcR D cy B kd n (cvV b0)) args s 0 (6 * 0) (AA B kd n)) D cy B kd n 8 b0 0 38 [(0, .ref (B + v0)), (1, .ref (B + v1)), (2, .ref (B + v2)), (3, .int v3), (4, .int v4), (5, .long v5), (7, .int v7)] [] M (fX1_keepWronged_b38 N k6 v0 v1 v2 v3 v4 v5 v7 M) := by
  unfold fX1_keepWronged_b38
  refine z_iinc C 7 6 (v := v7) (v1 := (v7 + (1 : Int32))) (ls1 := [(7, .int (v7 + (1 : Int32))), (0, .ref (B + v0)), (1, .ref (B + v1)), (2, .ref (B + v2)), (3, .int v3), (4, .int v4), (5, .long v5)]) dX1_keepWronged_38 rfl rfl (by decide) rfl ?_
  refine z_goto C 6 dX1_keepWronged_41 rfl ?_
  exact z_jump (ls1 := [(0, .ref (B + v0)), (1, .ref (B + v1)), (2, .ref (B + v2)), (3, .int v3), (4, .int v4), (5, .long v5), (7, .int (v7 + (1 : Int32)))]) (Nat.le_of_ble_eq_true rfl) [1, 2, 3, 4, 5, 6, 0] rfl (hk6 v5 (v7 + (1 : Int32)) M)
set_option maxHeartbeats 4000000 in
set_option maxRecDepth 100000 in
theorem z_fX1_keepWronged_l6_s {p : Program} {l : Launch} {e : Env} {s : State} {m : MethodId} {args : Array Value} {below : List Frame} {meth : Method} {c : Code} {D : va_G} {cy : Nat → ClassId} {B : Nat} {kd : Nat → Nat} {n : Nat} {sa sv : Nat → Nat} (C : zC p l s m args meth c D cy B kd n sa sv RX1 cX1_keepWronged 8) (ht : ∀ x ∈ c.exceptionTable.toList, False) (hr : meth.sig.returnType = none) {b0 : Mem} (N : Nat) (v0 : Nat) (v1 : Nat) (v2 : Nat) (v3 : Int32) (v4 : Int32) (k6 : Int64 → Int32 → Mem → Option Mem) (v5 : Int64) (v7 : Int32) (M : Mem) (h0 : kd v0 = 6) (h1 : kd v1 = 2) (h2 : kd v2 = 2)  (hk6 : ∀ (v5 : Int64) (v7 : Int32) (M : Mem), Z p l e (rmz 3 0) s m args below meth c (vx_MQ below (QcR D cy B kd n (cvV b0)) (XcR D cy B kd n (cvV b0)) args s 0 (6 * 0) (AA B kd n)) D cy B kd n 8 b0 0 6 [(0, .ref (B + v0)), (1, .ref (B + v1)), (2, .ref (B + v2)), (3, .int v3), (4, .int v4), (5, .long v5), (7, .int v7)] [] M (k6 v5 v7 M)) : Z p l e (rmz 3 0) s m args below meth c (vx_MQ below (QcR D cy B kd n (cvV b0)) (XcR D cy B kd n (cvV b0)) args s 0 (6 * 0) (AA B kd n)) D cy B kd n 8 b0 0 6 [(0, .ref (B + v0)), (1, .ref (B + v1)), (2, .ref (B + v2)), (3, .int v3), (4, .int v4), (5, .long v5), (7, .int v7)] [] M (fX1_keepWronged_l6_s N v0 v1 v2 v3 v4 k6 v5 v7 M) := by
  unfold fX1_keepWronged_l6_s
  refine z_iload C 6 dX1_keepWronged_6 rfl ?_
  refine z_aload_n C 0 0 dX1_keepWronged_8 rfl rfl ?_
  refine z_getI (k := 1) C cl6 h0 rfl gw_1_54 rfl dX1_keepWronged_9 ?_
  refine z_icmp_ge C 44 dX1_keepWronged_12 rfl (fun _ => ?_) (fun _ => ?_)
  · refine z_iconst C dX1_keepWronged_44 rfl ?_
    refine z_istore C 7 (ls1 := [(7, .int (0 : Int32)), (0, .ref (B + v0)), (1, .ref (B + v1)), (2, .ref (B + v2)), (3, .int v3), (4, .int v4), (5, .long v5)]) dX1_keepWronged_45 (by decide) rfl ?_
    exact z_jump (ls1 := [(0, .ref (B + v0)), (2, .ref (B + v2)), (3, .int v3), (4, .int v4), (5, .long v5), (7, .int (0 : Int32))]) (Nat.le_of_ble_eq_true rfl) [1, 3, 4, 5, 6, 0] rfl (z_fX1_keepWronged_l47 C ht hr N v0 v2 v3 v4 v5 N (0 : Int32) M h0 h2)
  · refine z_aload_n C 1 1 dX1_keepWronged_15 rfl rfl ?_
    refine z_iload C 6 dX1_keepWronged_16 rfl ?_
    refine z_callV_pB (As := [.int v7]) (rest := []) C rfl (ctX2_has (zG_of C) v1 v7 h1 M) cw_RX1_64 rfl (okM_X2_has) rfl cl2 h1 (okR_of rfl) (Nat.le_of_ble_eq_true rfl) dX1_keepWronged_18 (fun qj1 _ => ?_)
    refine z_if_eqB C 38 dX1_keepWronged_21 rfl (fun _ => ?_) (fun _ => ?_)
    · refine z_lload C 5 dX1_keepWronged_24 rfl ?_
      refine z_aload_n C 0 0 dX1_keepWronged_26 rfl rfl ?_
      refine z_iload C 6 dX1_keepWronged_27 rfl ?_
      refine z_iload_n C 3 3 dX1_keepWronged_29 rfl rfl ?_
      refine z_iload C 4 dX1_keepWronged_30 rfl ?_
      refine z_callV_J (As := [.int v7, .int v3, .int v4]) (rest := [.long v5]) C rfl (ctX6_placesOf (zG_of C) N v0 v7 v3 v4 h0 M) cw_RX1_77 rfl (okM_X6_placesOf) rfl cl6 h0 (okR_of rfl) (Nat.le_of_ble_eq_true rfl) dX1_keepWronged_32 (fun qj2 _ => ?_)
      refine z_lor C dX1_keepWronged_35 ?_
      refine z_lstore C 5 (ls1 := [(5, .long (v5 ||| qj2.1)), (0, .ref (B + v0)), (1, .ref (B + v1)), (2, .ref (B + v2)), (3, .int v3), (4, .int v4), (7, .int v7)]) dX1_keepWronged_36 (by decide) rfl ?_
      exact z_jump (ls1 := [(0, .ref (B + v0)), (1, .ref (B + v1)), (2, .ref (B + v2)), (3, .int v3), (4, .int v4), (5, .long (v5 ||| qj2.1)), (7, .int v7)]) (Nat.le_of_ble_eq_true rfl) [1, 2, 3, 4, 5, 0, 6] rfl (z_fX1_keepWronged_b38 C ht hr N k6 v0 v1 v2 v3 v4 (v5 ||| qj2.1) v7 qj2.2 h0 h1 h2 hk6)
    · exact z_jump (ls1 := [(0, .ref (B + v0)), (1, .ref (B + v1)), (2, .ref (B + v2)), (3, .int v3), (4, .int v4), (5, .long v5), (7, .int v7)]) (Nat.le_of_ble_eq_true rfl) [0, 1, 2, 3, 4, 5, 6] rfl (z_fX1_keepWronged_b38 C ht hr N k6 v0 v1 v2 v3 v4 v5 v7 M h0 h1 h2 hk6)
theorem z_fX1_keepWronged_l6_i {p : Program} {l : Launch} {e : Env} {s : State} {m : MethodId} {args : Array Value} {below : List Frame} {meth : Method} {c : Code} {D : va_G} {cy : Nat → ClassId} {B : Nat} {kd : Nat → Nat} {n : Nat} {sa sv : Nat → Nat} (C : zC p l s m args meth c D cy B kd n sa sv RX1 cX1_keepWronged 8) (ht : ∀ x ∈ c.exceptionTable.toList, False) (hr : meth.sig.returnType = none) {b0 : Mem} (N : Nat) (v0 : Nat) (v1 : Nat) (v2 : Nat) (v3 : Int32) (v4 : Int32) (h0 : kd v0 = 6) (h1 : kd v1 = 2) (h2 : kd v2 = 2)  (fu : Nat) : ∀ (v5 : Int64) (v7 : Int32) (M : Mem), Z p l e (rmz 3 0) s m args below meth c (vx_MQ below (QcR D cy B kd n (cvV b0)) (XcR D cy B kd n (cvV b0)) args s 0 (6 * 0) (AA B kd n)) D cy B kd n 8 b0 0 6 [(0, .ref (B + v0)), (1, .ref (B + v1)), (2, .ref (B + v2)), (3, .int v3), (4, .int v4), (5, .long v5), (7, .int v7)] [] M (fX1_keepWronged_l6 N v0 v1 v2 v3 v4 fu v5 v7 M) := by
  induction fu with
  | zero => intro v5 v7 M; exact z_none
  | succ fu ih => intro v5 v7 M; exact z_fX1_keepWronged_l6_s C ht hr N v0 v1 v2 v3 v4 (fX1_keepWronged_l6 N v0 v1 v2 v3 v4 fu) v5 v7 M h0 h1 h2 (fun v5 v7 M => ih v5 v7 M)
theorem z_fX1_keepWronged_l6 {p : Program} {l : Launch} {e : Env} {s : State} {m : MethodId} {args : Array Value} {below : List Frame} {meth : Method} {c : Code} {D : va_G} {cy : Nat → ClassId} {B : Nat} {kd : Nat → Nat} {n : Nat} {sa sv : Nat → Nat} (C : zC p l s m args meth c D cy B kd n sa sv RX1 cX1_keepWronged 8) (ht : ∀ x ∈ c.exceptionTable.toList, False) (hr : meth.sig.returnType = none) {b0 : Mem} (N : Nat) (v0 : Nat) (v1 : Nat) (v2 : Nat) (v3 : Int32) (v4 : Int32) (fu : Nat) (v5 : Int64) (v7 : Int32) (M : Mem) (h0 : kd v0 = 6) (h1 : kd v1 = 2) (h2 : kd v2 = 2)  : Z p l e (rmz 3 0) s m args below meth c (vx_MQ below (QcR D cy B kd n (cvV b0)) (XcR D cy B kd n (cvV b0)) args s 0 (6 * 0) (AA B kd n)) D cy B kd n 8 b0 0 6 [(0, .ref (B + v0)), (1, .ref (B + v1)), (2, .ref (B + v2)), (3, .int v3), (4, .int v4), (5, .long v5), (7, .int v7)] [] M (fX1_keepWronged_l6 N v0 v1 v2 v3 v4 fu v5 v7 M) := z_fX1_keepWronged_l6_i C ht hr N v0 v1 v2 v3 v4 h0 h1 h2 fu v5 v7 M
set_option maxHeartbeats 4000000 in
set_option maxRecDepth 100000 in
theorem ctX1_keepWronged {l : Launch} {D : va_G} {cy : Nat → ClassId} {B : Nat} {kd : Nat → Nat} {n : Nat} {sa sv : Nat → Nat} (G : zG l kd n) (N : Nat) (v0 : Nat) (v1 : Nat) (v2 : Nat) (v3 : Int32) (v4 : Int32) (h0 : kd v0 = 6) (h1 : kd v1 = 2) (h2 : kd v2 = 2) (M : Mem) : CT l D cy B kd n sa sv 3 0 yX1_keepWronged cX1_keepWronged 8 (none) cvV [.ref (B + v0), .ref (B + v1), .ref (B + v2), .int v3, .int v4] M (fX1_keepWronged N v0 v1 v2 v3 v4 M) := by
  refine ct_of (by decide) G.1 G.2 (Nat.le_of_ble_eq_true rfl) (ls := [(0, .ref (B + v0)), (1, .ref (B + v1)), (2, .ref (B + v2)), (3, .int v3), (4, .int v4)]) rfl ?_
  intro p e s m args below meth c b0 C ht hr
  unfold fX1_keepWronged
  refine z_lconst (v := 0) C dX1_keepWronged_0 rfl ?_
  refine z_lstore C 5 (ls1 := [(5, .long (0 : Int64)), (0, .ref (B + v0)), (1, .ref (B + v1)), (2, .ref (B + v2)), (3, .int v3), (4, .int v4)]) dX1_keepWronged_1 (by decide) rfl ?_
  refine z_iconst C dX1_keepWronged_3 rfl ?_
  refine z_istore C 7 (ls1 := [(7, .int (0 : Int32)), (5, .long (0 : Int64)), (0, .ref (B + v0)), (1, .ref (B + v1)), (2, .ref (B + v2)), (3, .int v3), (4, .int v4)]) dX1_keepWronged_4 (by decide) rfl ?_
  exact z_jump (ls1 := [(0, .ref (B + v0)), (1, .ref (B + v1)), (2, .ref (B + v2)), (3, .int v3), (4, .int v4), (5, .long (0 : Int64)), (7, .int (0 : Int32))]) (Nat.le_of_ble_eq_true rfl) [2, 3, 4, 5, 6, 1, 0] rfl (z_fX1_keepWronged_l6 C ht hr N v0 v1 v2 v3 v4 N (0 : Int64) (0 : Int32) M h0 h1 h2)
set_option maxHeartbeats 4000000 in
set_option maxRecDepth 100000 in
theorem z_fX1_build_l46_s {p : Program} {l : Launch} {e : Env} {s : State} {m : MethodId} {args : Array Value} {below : List Frame} {meth : Method} {c : Code} {D : va_G} {cy : Nat → ClassId} {B : Nat} {kd : Nat → Nat} {n : Nat} {sa sv : Nat → Nat} (C : zC p l s m args meth c D cy B kd n sa sv RX1 cX1_build 10) (ht : ∀ x ∈ c.exceptionTable.toList, False) (hr : meth.sig.returnType = some (FieldType.boolean)) {b0 : Bool × Mem} (N : Nat) (v0 : Nat) (v1 : Nat) (v2 : Nat) (v4 : Nat) (k46 : Nat → Nat → Int32 → Mem → Option (Bool × Mem)) (v5 : Nat) (v6 : Nat) (v7 : Int32) (M : Mem) (h0 : kd v0 = 1) (h1 : kd v1 = 5) (h2 : kd v2 = 6) (h4 : kd v4 = 9) (h5 : kd v5 = 2) (h6 : kd v6 = 2)  (hk46 : ∀ (v5 : Nat) (v6 : Nat) (v7 : Int32) (M : Mem), kd v5 = 2 → kd v6 = 2 → Z p l e (rmz 4 0) s m args below meth c (vx_MQ below (QcR D cy B kd n (cvB b0)) (XcR D cy B kd n (cvB b0)) args s 0 (6 * 0) (AA B kd n)) D cy B kd n 10 b0 0 46 [(0, .ref (B + v0)), (1, .ref (B + v1)), (2, .ref (B + v2)), (4, .ref (B + v4)), (5, .ref (B + v5)), (6, .ref (B + v6)), (7, .int v7)] [] M (k46 v5 v6 v7 M)) : Z p l e (rmz 4 0) s m args below meth c (vx_MQ below (QcR D cy B kd n (cvB b0)) (XcR D cy B kd n (cvB b0)) args s 0 (6 * 0) (AA B kd n)) D cy B kd n 10 b0 0 46 [(0, .ref (B + v0)), (1, .ref (B + v1)), (2, .ref (B + v2)), (4, .ref (B + v4)), (5, .ref (B + v5)), (6, .ref (B + v6)), (7, .int v7)] [] M (fX1_build_l46_s N v0 v1 v2 v4 k46 v5 v6 v7 M) := by
  unfold fX1_build_l46_s
  refine z_iload C 6 dX1_build_46 rfl ?_
  refine z_aload C 3 dX1_build_48 rfl ?_
  refine z_getI (k := 1) C cl9 h4 rfl gw_1_210 rfl dX1_build_50 ?_
  refine z_icmp_ge C 143 dX1_build_53 rfl (fun _ => ?_) (fun _ => ?_)
  · refine z_iconst C dX1_build_143 rfl ?_
    exact z_zret C (v := false) hr (Nat.le_of_ble_eq_true rfl) dX1_build_144 rfl
  · refine z_aload C 3 dX1_build_56 rfl ?_
    refine z_iload C 6 dX1_build_58 rfl ?_
    refine z_callV_pJ (As := [.int v7]) (rest := []) C rfl (ctX9_numberAt (zG_of C) v4 v7 h4 M) cw_RX1_47 rfl (okM_X9_numberAt) rfl cl9 h4 (okR_of rfl) (Nat.le_of_ble_eq_true rfl) dX1_build_60 (fun qj1 _ => ?_)
    refine z_l2i C dX1_build_63 ?_
    refine z_istore C 8 (ls1 := [(8, .int qj1.toInt32), (0, .ref (B + v0)), (1, .ref (B + v1)), (2, .ref (B + v2)), (4, .ref (B + v4)), (5, .ref (B + v5)), (6, .ref (B + v6)), (7, .int v7)]) dX1_build_64 (by decide) rfl ?_
    refine z_aload_n C 0 1 dX1_build_66 rfl rfl ?_
    refine z_dup C dX1_build_67 rfl ?_
    refine z_getI (k := 0) C cl1 h0 rfl gw_2_141 rfl dX1_build_68 ?_
    refine z_iconst C dX1_build_71 rfl ?_
    refine z_iadd C dX1_build_72 ?_
    refine z_putI (k := 0) C cl1 h0 rfl gw_2_141 rfl rfl rfl dX1_build_73 ?_
    refine z_aload_n C 0 1 dX1_build_76 rfl rfl ?_
    refine z_dup C dX1_build_77 rfl ?_
    refine z_getI (k := 1) C cl1 h0 rfl gw_2_143 rfl dX1_build_78 ?_
    refine z_aload C 5 dX1_build_81 rfl ?_
    refine z_callV_pI (As := []) (rest := [.int (rI (wI M v0 0 ((rI M v0 0) + (1 : Int32))) v0 1), .ref (B + v0)]) C rfl (ctX2_many (zG_of C) N v5 h5 (wI M v0 0 ((rI M v0 0) + (1 : Int32)))) cw_RX1_51 rfl (okM_X2_many) rfl cl2 h5 (okR_of rfl) (Nat.le_of_ble_eq_true rfl) dX1_build_83 (fun qj2 _ => ?_)
    refine z_iadd C dX1_build_86 ?_
    refine z_putI (k := 1) C cl1 h0 rfl gw_2_143 rfl rfl rfl dX1_build_87 ?_
    refine z_aload_n C 0 1 dX1_build_90 rfl rfl ?_
    refine z_dup C dX1_build_91 rfl ?_
    refine z_getI (k := 2) C cl1 h0 rfl gw_2_145 rfl dX1_build_92 ?_
    refine z_iload C 0 dX1_build_95 rfl ?_
    refine z_iadd C dX1_build_97 ?_
    refine z_putI (k := 2) C cl1 h0 rfl gw_2_145 rfl rfl rfl dX1_build_98 ?_
    refine z_aload_n C 2 3 dX1_build_101 rfl rfl ?_
    refine z_aload C 5 dX1_build_102 rfl ?_
    refine z_aload C 6 dX1_build_104 rfl ?_
    refine z_iload C 0 dX1_build_106 rfl ?_
    refine z_aload_n C 1 2 dX1_build_108 rfl rfl ?_
    refine z_getI (k := 3) C cl5 h1 rfl gw_1_134 rfl dX1_build_109 ?_
    refine z_callS_V (As := [.ref (B + v2), .ref (B + v5), .ref (B + v6), .int qj1.toInt32, .int (rI (wI (wI (wI M v0 0 ((rI M v0 0) + (1 : Int32))) v0 1 ((rI (wI M v0 0 ((rI M v0 0) + (1 : Int32))) v0 1) + qj2)) v0 2 ((rI (wI (wI M v0 0 ((rI M v0 0) + (1 : Int32))) v0 1 ((rI (wI M v0 0 ((rI M v0 0) + (1 : Int32))) v0 1) + qj2)) v0 2) + qj1.toInt32)) v1 3)]) (rest := []) C rfl (ctX1_keepWronged (zG_of C) N v2 v5 v6 qj1.toInt32 (rI (wI (wI (wI M v0 0 ((rI M v0 0) + (1 : Int32))) v0 1 ((rI (wI M v0 0 ((rI M v0 0) + (1 : Int32))) v0 1) + qj2)) v0 2 ((rI (wI (wI M v0 0 ((rI M v0 0) + (1 : Int32))) v0 1 ((rI (wI M v0 0 ((rI M v0 0) + (1 : Int32))) v0 1) + qj2)) v0 2) + qj1.toInt32)) v1 3) h2 h5 h6 (wI (wI (wI M v0 0 ((rI M v0 0) + (1 : Int32))) v0 1 ((rI (wI M v0 0 ((rI M v0 0) + (1 : Int32))) v0 1) + qj2)) v0 2 ((rI (wI (wI M v0 0 ((rI M v0 0) + (1 : Int32))) v0 1 ((rI (wI M v0 0 ((rI M v0 0) + (1 : Int32))) v0 1) + qj2)) v0 2) + qj1.toInt32))) cw_RX1_57 (okM_X1_keepWronged) rfl (okR_of rfl) (Nat.le_of_ble_eq_true rfl) dX1_build_112 (fun qj3 _ => ?_)
    refine z_aload C 6 dX1_build_115 rfl ?_
    refine z_callV_pI (As := []) (rest := []) C rfl (ctX2_many (zG_of C) N v6 h6 qj3) cw_RX1_51 rfl (okM_X2_many) rfl cl2 h6 (okR_of rfl) (Nat.le_of_ble_eq_true rfl) dX1_build_117 (fun qj4 _ => ?_)
    refine z_if_ne C 125 dX1_build_120 rfl (fun _ => ?_) (fun _ => ?_)
    · refine z_iconst C dX1_build_123 rfl ?_
      exact z_zret C (v := true) hr (Nat.le_of_ble_eq_true rfl) dX1_build_124 rfl
    · refine z_aload C 5 dX1_build_125 rfl ?_
      refine z_astore C 9 (ls1 := [(9, .ref (B + v5)), (8, .int qj1.toInt32), (0, .ref (B + v0)), (1, .ref (B + v1)), (2, .ref (B + v2)), (4, .ref (B + v4)), (5, .ref (B + v5)), (6, .ref (B + v6)), (7, .int v7)]) dX1_build_127 (by decide) rfl ?_
      refine z_aload C 7 dX1_build_129 rfl ?_
      refine z_astore C 5 (ls1 := [(5, .ref (B + v6)), (9, .ref (B + v5)), (8, .int qj1.toInt32), (0, .ref (B + v0)), (1, .ref (B + v1)), (2, .ref (B + v2)), (4, .ref (B + v4)), (6, .ref (B + v6)), (7, .int v7)]) dX1_build_131 (by decide) rfl ?_
      refine z_aload C 1 dX1_build_133 rfl ?_
      refine z_astore C 6 (ls1 := [(6, .ref (B + v5)), (5, .ref (B + v6)), (9, .ref (B + v5)), (8, .int qj1.toInt32), (0, .ref (B + v0)), (1, .ref (B + v1)), (2, .ref (B + v2)), (4, .ref (B + v4)), (7, .int v7)]) dX1_build_135 (by decide) rfl ?_
      refine z_iinc C 7 8 (v := v7) (v1 := (v7 + (1 : Int32))) (ls1 := [(7, .int (v7 + (1 : Int32))), (6, .ref (B + v5)), (5, .ref (B + v6)), (9, .ref (B + v5)), (8, .int qj1.toInt32), (0, .ref (B + v0)), (1, .ref (B + v1)), (2, .ref (B + v2)), (4, .ref (B + v4))]) dX1_build_137 rfl rfl (by decide) rfl ?_
      refine z_goto C 46 dX1_build_140 rfl ?_
      exact z_jump (ls1 := [(0, .ref (B + v0)), (1, .ref (B + v1)), (2, .ref (B + v2)), (4, .ref (B + v4)), (5, .ref (B + v6)), (6, .ref (B + v5)), (7, .int (v7 + (1 : Int32)))]) (Nat.le_of_ble_eq_true rfl) [5, 6, 7, 8, 2, 1, 0] rfl (hk46 v6 v5 (v7 + (1 : Int32)) qj3 h6 h5)
theorem z_fX1_build_l46_i {p : Program} {l : Launch} {e : Env} {s : State} {m : MethodId} {args : Array Value} {below : List Frame} {meth : Method} {c : Code} {D : va_G} {cy : Nat → ClassId} {B : Nat} {kd : Nat → Nat} {n : Nat} {sa sv : Nat → Nat} (C : zC p l s m args meth c D cy B kd n sa sv RX1 cX1_build 10) (ht : ∀ x ∈ c.exceptionTable.toList, False) (hr : meth.sig.returnType = some (FieldType.boolean)) {b0 : Bool × Mem} (N : Nat) (v0 : Nat) (v1 : Nat) (v2 : Nat) (v4 : Nat) (h0 : kd v0 = 1) (h1 : kd v1 = 5) (h2 : kd v2 = 6) (h4 : kd v4 = 9)  (fu : Nat) : ∀ (v5 : Nat) (v6 : Nat) (v7 : Int32) (M : Mem), kd v5 = 2 → kd v6 = 2 → Z p l e (rmz 4 0) s m args below meth c (vx_MQ below (QcR D cy B kd n (cvB b0)) (XcR D cy B kd n (cvB b0)) args s 0 (6 * 0) (AA B kd n)) D cy B kd n 10 b0 0 46 [(0, .ref (B + v0)), (1, .ref (B + v1)), (2, .ref (B + v2)), (4, .ref (B + v4)), (5, .ref (B + v5)), (6, .ref (B + v6)), (7, .int v7)] [] M (fX1_build_l46 N v0 v1 v2 v4 fu v5 v6 v7 M) := by
  induction fu with
  | zero => intro v5 v6 v7 M h5 h6; exact z_none
  | succ fu ih => intro v5 v6 v7 M h5 h6; exact z_fX1_build_l46_s C ht hr N v0 v1 v2 v4 (fX1_build_l46 N v0 v1 v2 v4 fu) v5 v6 v7 M h0 h1 h2 h4 h5 h6 (fun v5 v6 v7 M h5 h6 => ih v5 v6 v7 M h5 h6)
theorem z_fX1_build_l46 {p : Program} {l : Launch} {e : Env} {s : State} {m : MethodId} {args : Array Value} {below : List Frame} {meth : Method} {c : Code} {D : va_G} {cy : Nat → ClassId} {B : Nat} {kd : Nat → Nat} {n : Nat} {sa sv : Nat → Nat} (C : zC p l s m args meth c D cy B kd n sa sv RX1 cX1_build 10) (ht : ∀ x ∈ c.exceptionTable.toList, False) (hr : meth.sig.returnType = some (FieldType.boolean)) {b0 : Bool × Mem} (N : Nat) (v0 : Nat) (v1 : Nat) (v2 : Nat) (v4 : Nat) (fu : Nat) (v5 : Nat) (v6 : Nat) (v7 : Int32) (M : Mem) (h0 : kd v0 = 1) (h1 : kd v1 = 5) (h2 : kd v2 = 6) (h4 : kd v4 = 9) (h5 : kd v5 = 2) (h6 : kd v6 = 2)  : Z p l e (rmz 4 0) s m args below meth c (vx_MQ below (QcR D cy B kd n (cvB b0)) (XcR D cy B kd n (cvB b0)) args s 0 (6 * 0) (AA B kd n)) D cy B kd n 10 b0 0 46 [(0, .ref (B + v0)), (1, .ref (B + v1)), (2, .ref (B + v2)), (4, .ref (B + v4)), (5, .ref (B + v5)), (6, .ref (B + v6)), (7, .int v7)] [] M (fX1_build_l46 N v0 v1 v2 v4 fu v5 v6 v7 M) := z_fX1_build_l46_i C ht hr N v0 v1 v2 v4 h0 h1 h2 h4 fu v5 v6 v7 M h5 h6
set_option maxHeartbeats 4000000 in
set_option maxRecDepth 100000 in
theorem ctX1_build {l : Launch} {D : va_G} {cy : Nat → ClassId} {B : Nat} {kd : Nat → Nat} {n : Nat} {sa sv : Nat → Nat} (G : zG l kd n) (N : Nat) (v0 : Nat) (v1 : Nat) (v2 : Nat) (v3 : Nat) (v4 : Nat) (h0 : kd v0 = 1) (h1 : kd v1 = 5) (h2 : kd v2 = 6) (h3 : kd v3 = 9) (h4 : kd v4 = 9) (M : Mem) : CT l D cy B kd n sa sv 4 0 yX1_build cX1_build 10 (some (FieldType.boolean)) cvB [.ref (B + v0), .ref (B + v1), .ref (B + v2), .ref (B + v3), .ref (B + v4)] M (fX1_build N v0 v1 v2 v3 v4 M) := by
  refine ct_of (by decide) G.1 G.2 (Nat.le_of_ble_eq_true rfl) (ls := [(0, .ref (B + v0)), (1, .ref (B + v1)), (2, .ref (B + v2)), (3, .ref (B + v3)), (4, .ref (B + v4))]) rfl ?_
  intro p e s m args below meth c b0 C ht hr
  unfold fX1_build
  refine z_aload_n C 0 0 dX1_build_0 rfl rfl ?_
  refine z_iconst C dX1_build_1 rfl ?_
  refine z_putI (k := 0) C cl1 h0 rfl gw_2_141 rfl rfl rfl dX1_build_2 ?_
  refine z_aload_n C 0 0 dX1_build_5 rfl rfl ?_
  refine z_iconst C dX1_build_6 rfl ?_
  refine z_putI (k := 1) C cl1 h0 rfl gw_2_143 rfl rfl rfl dX1_build_7 ?_
  refine z_aload_n C 0 0 dX1_build_10 rfl rfl ?_
  refine z_iconst C dX1_build_11 rfl ?_
  refine z_putI (k := 2) C cl1 h0 rfl gw_2_145 rfl rfl rfl dX1_build_12 ?_
  refine z_aload_n C 0 0 dX1_build_15 rfl rfl ?_
  refine z_getR (k := 3) C cl1 h0 rfl gw_2_147 rfl dX1_build_16 ?_
  have j1 : kd (v0 + 1) = 2 := zkd C h0 (k := 3) rfl
  refine z_astore C 5 (ls1 := [(5, .ref (B + (v0 + 1))), (0, .ref (B + v0)), (1, .ref (B + v1)), (2, .ref (B + v2)), (3, .ref (B + v3)), (4, .ref (B + v4))]) dX1_build_19 (by decide) rfl ?_
  refine z_aload_n C 0 1 dX1_build_21 rfl rfl ?_
  refine z_getR (k := 4) C cl1 h0 rfl gw_2_148 rfl dX1_build_22 ?_
  have j2 : kd (v0 + 3) = 2 := zkd C h0 (k := 4) rfl
  refine z_astore C 6 (ls1 := [(6, .ref (B + (v0 + 3))), (5, .ref (B + (v0 + 1))), (0, .ref (B + v0)), (1, .ref (B + v1)), (2, .ref (B + v2)), (3, .ref (B + v3)), (4, .ref (B + v4))]) dX1_build_25 (by decide) rfl ?_
  refine z_aload C 1 dX1_build_27 rfl ?_
  refine z_aload_n C 1 3 dX1_build_29 rfl rfl ?_
  refine z_getR (k := 8) C cl5 h1 rfl gw_1_147 rfl dX1_build_30 ?_
  have j3 : kd (v1 + 1) = 2 := zkd C h1 (k := 8) rfl
  refine z_callV_V (As := [.ref (B + (v1 + 1))]) (rest := []) C rfl (ctX2_copyFrom (zG_of C) (v0 + 1) (v1 + 1) j1 j3 (wI (wI (wI M v0 0 (0 : Int32)) v0 1 (0 : Int32)) v0 2 (0 : Int32))) cw_RX1_34 rfl (okM_X2_copyFrom) rfl cl2 j1 (okR_of rfl) (Nat.le_of_ble_eq_true rfl) dX1_build_33 (fun qj4 _ => ?_)
  refine z_aload_n C 1 3 dX1_build_36 rfl rfl ?_
  refine z_aload_n C 3 5 dX1_build_37 rfl rfl ?_
  refine z_aload C 0 dX1_build_38 rfl ?_
  refine z_callS_V (As := [.ref (B + v1), .ref (B + v3), .ref (B + (v0 + 3))]) (rest := []) C rfl (ctX1_gatherOutside (zG_of C) N v1 v3 (v0 + 3) h1 h3 j2 qj4) cw_RX1_38 (okM_X1_gatherOutside) rfl (okR_of rfl) (Nat.le_of_ble_eq_true rfl) dX1_build_40 (fun qj5 _ => ?_)
  refine z_iconst C dX1_build_43 rfl ?_
  refine z_istore C 7 (ls1 := [(7, .int (0 : Int32)), (6, .ref (B + (v0 + 3))), (5, .ref (B + (v0 + 1))), (0, .ref (B + v0)), (1, .ref (B + v1)), (2, .ref (B + v2)), (3, .ref (B + v3)), (4, .ref (B + v4))]) dX1_build_44 (by decide) rfl ?_
  exact z_jump (ls1 := [(0, .ref (B + v0)), (1, .ref (B + v1)), (2, .ref (B + v2)), (4, .ref (B + v4)), (5, .ref (B + (v0 + 1))), (6, .ref (B + (v0 + 3))), (7, .int (0 : Int32))]) (Nat.le_of_ble_eq_true rfl) [3, 4, 5, 7, 2, 1, 0] rfl (z_fX1_build_l46 C ht hr N v0 v1 v2 v4 N (v0 + 1) (v0 + 3) (0 : Int32) qj5 h0 h1 h2 h4 j1 j2)
