theorem z_fX11_unknown_l46 {p : Program} {l : Launch} {e : Env} {s : State} {m : MethodId} {args : Array Value} {below : List Frame} {meth : Method} {c : Code} {D : va_G} {cy : Nat → ClassId} {B : Nat} {kd : Nat → Nat} {n : Nat} {sa sv : Nat → Nat} (C : zC p l s m args meth c D cy B kd n sa sv RX11 cX11_unknown 8) (ht : ∀ x ∈ c.exceptionTable.toList, False) (hr : meth.sig.returnType = some (FieldType.int)) {b0 : Int32 × Mem} (N : Nat) (k5 : Int32 → Int32 → Mem → Option (Int32 × Mem)) (v0 : Nat) (v1 : Int32) (v2 : Int32) (v3 : Int32) (v4 : Int32) (v5 : Int32) (fu : Nat) (v6 : Bool) (v7 : Int32) (M : Mem) (h0 : kd v0 = 11) (hk5 : ∀ (v3 : Int32) (v4 : Int32) (M : Mem), Z p l e (rmz 4 0) s m args below meth c (vx_MQ below (QcR D cy B kd n (cvI b0)) (XcR D cy B kd n (cvI b0)) args s 0 (6 * 0) (AA B kd n)) D cy B kd n 8 b0 0 5 [(0, .ref (B + v0)), (1, .int v1), (2, .int v2), (3, .int v3), (4, .int v4)] [] M (k5 v3 v4 M)) : Z p l e (rmz 4 0) s m args below meth c (vx_MQ below (QcR D cy B kd n (cvI b0)) (XcR D cy B kd n (cvI b0)) args s 0 (6 * 0) (AA B kd n)) D cy B kd n 8 b0 0 46 [(0, .ref (B + v0)), (1, .int v1), (2, .int v2), (3, .int v3), (4, .int v4), (5, .int v5), (6, .int (bI v6)), (7, .int v7)] [] M (fX11_unknown_l46 N k5 v0 v1 v2 v3 v4 v5 fu v6 v7 M) := z_fX11_unknown_l46_i C ht hr N k5 v0 v1 v2 v3 v4 v5 h0 hk5 fu v6 v7 M
set_option maxHeartbeats 4000000 in
set_option maxRecDepth 100000 in
theorem z_fX11_unknown_b41 {p : Program} {l : Launch} {e : Env} {s : State} {m : MethodId} {args : Array Value} {below : List Frame} {meth : Method} {c : Code} {D : va_G} {cy : Nat → ClassId} {B : Nat} {kd : Nat → Nat} {n : Nat} {sa sv : Nat → Nat} (C : zC p l s m args meth c D cy B kd n sa sv RX11 cX11_unknown 8) (ht : ∀ x ∈ c.exceptionTable.toList, False) (hr : meth.sig.returnType = some (FieldType.int)) {b0 : Int32 × Mem}  (N : Nat) (k5 : Int32 → Int32 → Mem → Option (Int32 × Mem)) (v0 : Nat) (v1 : Int32) (v2 : Int32) (v3 : Int32) (v4 : Int32) (v5 : Int32) (s0 : Bool) (M : Mem) (h0 : kd v0 = 11) (hk5 : ∀ (v3 : Int32) (v4 : Int32) (M : Mem), Z p l e (rmz 4 0) s m args below meth c (vx_MQ below (QcR D cy B kd n (cvI b0)) (XcR D cy B kd n (cvI b0)) args s 0 (6 * 0) (AA B kd n)) D cy B kd n 8 b0 0 5 [(0, .ref (B + v0)), (1, .int v1), (2, .int v2), (3, .int v3), (4, .int v4)] [] M (k5 v3 v4 M)) : Z p l e (rmz 4 0) s m args below meth c (vx_MQ below (QcR D cy B kd n (cvI b0)) (XcR D cy B kd n (cvI b0)) args s 0 (6 * 0) (AA B kd n)) D cy B kd n 8 b0 0 41 [(0, .ref (B + v0)), (1, .int v1), (2, .int v2), (3, .int v3), (4, .int v4), (5, .int v5)] [.int (bI s0)] M (fX11_unknown_b41 N k5 v0 v1 v2 v3 v4 v5 s0 M) := by
  unfold fX11_unknown_b41
  refine z_istore C 6 (ls1 := [(6, .int (bI s0)), (0, .ref (B + v0)), (1, .int v1), (2, .int v2), (3, .int v3), (4, .int v4), (5, .int v5)]) dX11_unknown_41 (by decide) rfl ?_
  refine z_iconst C dX11_unknown_43 rfl ?_
  refine z_istore C 7 (ls1 := [(7, .int (0 : Int32)), (6, .int (bI s0)), (0, .ref (B + v0)), (1, .int v1), (2, .int v2), (3, .int v3), (4, .int v4), (5, .int v5)]) dX11_unknown_44 (by decide) rfl ?_
  exact z_jump (ls1 := [(0, .ref (B + v0)), (1, .int v1), (2, .int v2), (3, .int v3), (4, .int v4), (5, .int v5), (6, .int (bI s0)), (7, .int (0 : Int32))]) (Nat.le_of_ble_eq_true rfl) [2, 3, 4, 5, 6, 7, 1, 0] rfl (z_fX11_unknown_l46 C ht hr N k5 v0 v1 v2 v3 v4 v5 N s0 (0 : Int32) M h0 hk5)
set_option maxHeartbeats 4000000 in
set_option maxRecDepth 100000 in
theorem z_fX11_unknown_l5_s {p : Program} {l : Launch} {e : Env} {s : State} {m : MethodId} {args : Array Value} {below : List Frame} {meth : Method} {c : Code} {D : va_G} {cy : Nat → ClassId} {B : Nat} {kd : Nat → Nat} {n : Nat} {sa sv : Nat → Nat} (C : zC p l s m args meth c D cy B kd n sa sv RX11 cX11_unknown 8) (ht : ∀ x ∈ c.exceptionTable.toList, False) (hr : meth.sig.returnType = some (FieldType.int)) {b0 : Int32 × Mem} (N : Nat) (v0 : Nat) (v1 : Int32) (v2 : Int32) (k5 : Int32 → Int32 → Mem → Option (Int32 × Mem)) (v3 : Int32) (v4 : Int32) (M : Mem) (h0 : kd v0 = 11)  (hk5 : ∀ (v3 : Int32) (v4 : Int32) (M : Mem), Z p l e (rmz 4 0) s m args below meth c (vx_MQ below (QcR D cy B kd n (cvI b0)) (XcR D cy B kd n (cvI b0)) args s 0 (6 * 0) (AA B kd n)) D cy B kd n 8 b0 0 5 [(0, .ref (B + v0)), (1, .int v1), (2, .int v2), (3, .int v3), (4, .int v4)] [] M (k5 v3 v4 M)) : Z p l e (rmz 4 0) s m args below meth c (vx_MQ below (QcR D cy B kd n (cvI b0)) (XcR D cy B kd n (cvI b0)) args s 0 (6 * 0) (AA B kd n)) D cy B kd n 8 b0 0 5 [(0, .ref (B + v0)), (1, .int v1), (2, .int v2), (3, .int v3), (4, .int v4)] [] M (fX11_unknown_l5_s N v0 v1 v2 k5 v3 v4 M) := by
  unfold fX11_unknown_l5_s
  refine z_iload C 4 dX11_unknown_5 rfl ?_
  refine z_aload_n C 0 0 dX11_unknown_7 rfl rfl ?_
  refine z_iload_n C 1 1 dX11_unknown_8 rfl rfl ?_
  refine z_iconst C dX11_unknown_9 rfl ?_
  refine z_callV_pI (As := [.int v1, .int (2 : Int32)]) (rest := [.int v4]) C rfl (ctX11_get (zG_of C) v0 v1 (2 : Int32) h0 M) cw_RX11_237 rfl (okM_X11_get) rfl cl11 h0 (okR_of rfl) (Nat.le_of_ble_eq_true rfl) dX11_unknown_10 (fun qj1 _ => ?_)
  refine z_icmp_ge C 103 dX11_unknown_13 rfl (fun _ => ?_) (fun _ => ?_)
  · refine z_iload_n C 3 3 dX11_unknown_103 rfl rfl ?_
    exact z_iret C hr (Nat.le_of_ble_eq_true rfl) dX11_unknown_104 rfl
  · refine z_aload_n C 0 0 dX11_unknown_16 rfl rfl ?_
    refine z_iload_n C 1 1 dX11_unknown_17 rfl rfl ?_
    refine z_iload C 4 dX11_unknown_18 rfl ?_
    refine z_iload_n C 2 2 dX11_unknown_20 rfl rfl ?_
    refine z_callV_I (As := [.int v1, .int v4, .int v2]) (rest := []) C rfl (ctX11_spot (zG_of C) N v0 v1 v4 v2 h0 M) cw_RX11_273 rfl (okM_X11_spot) rfl cl11 h0 (okR_of rfl) (Nat.le_of_ble_eq_true rfl) dX11_unknown_21 (fun qj2 _ => ?_)
    refine z_istore C 5 (ls1 := [(5, .int qj2.1), (0, .ref (B + v0)), (1, .int v1), (2, .int v2), (3, .int v3), (4, .int v4)]) dX11_unknown_24 (by decide) rfl ?_
    refine z_aload_n C 0 1 dX11_unknown_26 rfl rfl ?_
    refine z_getR (k := 32) C cl11 h0 rfl gw_7_42 rfl dX11_unknown_27 ?_
    have j3 : kd (v0 + 19) = 43 := zkd C h0 (k := 32) rfl
    refine z_iload C 0 dX11_unknown_30 rfl ?_
    refine z_zald C j3 rfl (by decide) dX11_unknown_32 (fun j4 => ?_)
    refine z_if_ne C 40 dX11_unknown_33 rfl (fun _ => ?_) (fun _ => ?_)
    · refine z_iconst C dX11_unknown_36 rfl ?_
      refine z_goto C 41 dX11_unknown_37 rfl ?_
      exact z_jump (ls1 := [(0, .ref (B + v0)), (1, .int v1), (2, .int v2), (3, .int v3), (4, .int v4), (5, .int qj2.1)]) (Nat.le_of_ble_eq_true rfl) [1, 2, 3, 4, 5, 0] rfl (z_fX11_unknown_b41 C ht hr N k5 v0 v1 v2 v3 v4 qj2.1 true qj2.2 h0 hk5)
    · refine z_iconst C dX11_unknown_40 rfl ?_
      exact z_jump (ls1 := [(0, .ref (B + v0)), (1, .int v1), (2, .int v2), (3, .int v3), (4, .int v4), (5, .int qj2.1)]) (Nat.le_of_ble_eq_true rfl) [1, 2, 3, 4, 5, 0] rfl (z_fX11_unknown_b41 C ht hr N k5 v0 v1 v2 v3 v4 qj2.1 false qj2.2 h0 hk5)
theorem z_fX11_unknown_l5_i {p : Program} {l : Launch} {e : Env} {s : State} {m : MethodId} {args : Array Value} {below : List Frame} {meth : Method} {c : Code} {D : va_G} {cy : Nat → ClassId} {B : Nat} {kd : Nat → Nat} {n : Nat} {sa sv : Nat → Nat} (C : zC p l s m args meth c D cy B kd n sa sv RX11 cX11_unknown 8) (ht : ∀ x ∈ c.exceptionTable.toList, False) (hr : meth.sig.returnType = some (FieldType.int)) {b0 : Int32 × Mem} (N : Nat) (v0 : Nat) (v1 : Int32) (v2 : Int32) (h0 : kd v0 = 11)  (fu : Nat) : ∀ (v3 : Int32) (v4 : Int32) (M : Mem), Z p l e (rmz 4 0) s m args below meth c (vx_MQ below (QcR D cy B kd n (cvI b0)) (XcR D cy B kd n (cvI b0)) args s 0 (6 * 0) (AA B kd n)) D cy B kd n 8 b0 0 5 [(0, .ref (B + v0)), (1, .int v1), (2, .int v2), (3, .int v3), (4, .int v4)] [] M (fX11_unknown_l5 N v0 v1 v2 fu v3 v4 M) := by
  induction fu with
  | zero => intro v3 v4 M; exact z_none
  | succ fu ih => intro v3 v4 M; exact z_fX11_unknown_l5_s C ht hr N v0 v1 v2 (fX11_unknown_l5 N v0 v1 v2 fu) v3 v4 M h0 (fun v3 v4 M => ih v3 v4 M)
theorem z_fX11_unknown_l5 {p : Program} {l : Launch} {e : Env} {s : State} {m : MethodId} {args : Array Value} {below : List Frame} {meth : Method} {c : Code} {D : va_G} {cy : Nat → ClassId} {B : Nat} {kd : Nat → Nat} {n : Nat} {sa sv : Nat → Nat} (C : zC p l s m args meth c D cy B kd n sa sv RX11 cX11_unknown 8) (ht : ∀ x ∈ c.exceptionTable.toList, False) (hr : meth.sig.returnType = some (FieldType.int)) {b0 : Int32 × Mem} (N : Nat) (v0 : Nat) (v1 : Int32) (v2 : Int32) (fu : Nat) (v3 : Int32) (v4 : Int32) (M : Mem) (h0 : kd v0 = 11)  : Z p l e (rmz 4 0) s m args below meth c (vx_MQ below (QcR D cy B kd n (cvI b0)) (XcR D cy B kd n (cvI b0)) args s 0 (6 * 0) (AA B kd n)) D cy B kd n 8 b0 0 5 [(0, .ref (B + v0)), (1, .int v1), (2, .int v2), (3, .int v3), (4, .int v4)] [] M (fX11_unknown_l5 N v0 v1 v2 fu v3 v4 M) := z_fX11_unknown_l5_i C ht hr N v0 v1 v2 h0 fu v3 v4 M
set_option maxHeartbeats 4000000 in
set_option maxRecDepth 100000 in
theorem ctX11_unknown {l : Launch} {D : va_G} {cy : Nat → ClassId} {B : Nat} {kd : Nat → Nat} {n : Nat} {sa sv : Nat → Nat} (G : zG l kd n) (N : Nat) (v0 : Nat) (v1 : Int32) (v2 : Int32) (h0 : kd v0 = 11) (M : Mem) : CT l D cy B kd n sa sv 4 0 yX11_unknown cX11_unknown 8 (some (FieldType.int)) cvI [.ref (B + v0), .int v1, .int v2] M (fX11_unknown N v0 v1 v2 M) := by
  refine ct_of (by decide) G.1 G.2 (Nat.le_of_ble_eq_true rfl) (ls := [(0, .ref (B + v0)), (1, .int v1), (2, .int v2)]) rfl ?_
  intro p e s m args below meth c b0 C ht hr
  unfold fX11_unknown
  refine z_iconst C dX11_unknown_0 rfl ?_
  refine z_istore_n C 3 (ls1 := [(3, .int (0 : Int32)), (0, .ref (B + v0)), (1, .int v1), (2, .int v2)]) dX11_unknown_1 rfl (by decide) rfl ?_
  refine z_iconst C dX11_unknown_2 rfl ?_
  refine z_istore C 4 (ls1 := [(4, .int (0 : Int32)), (3, .int (0 : Int32)), (0, .ref (B + v0)), (1, .int v1), (2, .int v2)]) dX11_unknown_3 (by decide) rfl ?_
  exact z_jump (ls1 := [(0, .ref (B + v0)), (1, .int v1), (2, .int v2), (3, .int (0 : Int32)), (4, .int (0 : Int32))]) (Nat.le_of_ble_eq_true rfl) [2, 3, 4, 1, 0] rfl (z_fX11_unknown_l5 C ht hr N v0 v1 v2 N (0 : Int32) (0 : Int32) M h0)
set_option maxHeartbeats 4000000 in
set_option maxRecDepth 100000 in
theorem z_fX11_learn_b160 {p : Program} {l : Launch} {e : Env} {s : State} {m : MethodId} {args : Array Value} {below : List Frame} {meth : Method} {c : Code} {D : va_G} {cy : Nat → ClassId} {B : Nat} {kd : Nat → Nat} {n : Nat} {sa sv : Nat → Nat} (C : zC p l s m args meth c D cy B kd n sa sv RX11 cX11_learn 6) (ht : ∀ x ∈ c.exceptionTable.toList, False) (hr : meth.sig.returnType = some (FieldType.int)) {b0 : Int32 × Mem}  (N : Nat) (v4 : Int32) (M : Mem)  : Z p l e (rmz 6 0) s m args below meth c (vx_MQ below (QcR D cy B kd n (cvI b0)) (XcR D cy B kd n (cvI b0)) args s 0 (6 * 0) (AA B kd n)) D cy B kd n 6 b0 0 160 [(4, .int v4)] [] M (fX11_learn_b160 N v4 M) := by
  unfold fX11_learn_b160
  refine z_iload C 0 dX11_learn_160 rfl ?_
  exact z_iret C hr (Nat.le_of_ble_eq_true rfl) dX11_learn_162 rfl
set_option maxHeartbeats 4000000 in
set_option maxRecDepth 100000 in
theorem z_fX11_learn_b151 {p : Program} {l : Launch} {e : Env} {s : State} {m : MethodId} {args : Array Value} {below : List Frame} {meth : Method} {c : Code} {D : va_G} {cy : Nat → ClassId} {B : Nat} {kd : Nat → Nat} {n : Nat} {sa sv : Nat → Nat} (C : zC p l s m args meth c D cy B kd n sa sv RX11 cX11_learn 6) (ht : ∀ x ∈ c.exceptionTable.toList, False) (hr : meth.sig.returnType = some (FieldType.int)) {b0 : Int32 × Mem}  (N : Nat) (k104 : Int32 → Int32 → Mem → Option (Int32 × Mem)) (v0 : Nat) (v1 : Int32) (v3 : Int32) (v5 : Int32) (s0 : Bool) (s1 : Int32) (M : Mem) (h0 : kd v0 = 11) (hk104 : ∀ (v4 : Int32) (v5 : Int32) (M : Mem), Z p l e (rmz 6 0) s m args below meth c (vx_MQ below (QcR D cy B kd n (cvI b0)) (XcR D cy B kd n (cvI b0)) args s 0 (6 * 0) (AA B kd n)) D cy B kd n 6 b0 0 104 [(0, .ref (B + v0)), (1, .int v1), (3, .int v3), (4, .int v4), (5, .int v5)] [] M (k104 v4 v5 M)) : Z p l e (rmz 6 0) s m args below meth c (vx_MQ below (QcR D cy B kd n (cvI b0)) (XcR D cy B kd n (cvI b0)) args s 0 (6 * 0) (AA B kd n)) D cy B kd n 6 b0 0 151 [(0, .ref (B + v0)), (1, .int v1), (3, .int v3), (5, .int v5)] [.int (bI s0), .int s1] M (fX11_learn_b151 N k104 v0 v1 v3 v5 s0 s1 M) := by
  unfold fX11_learn_b151
  refine z_iadd C dX11_learn_151 ?_
  refine z_istore C 4 (ls1 := [(4, .int (s1 + (bI s0))), (0, .ref (B + v0)), (1, .int v1), (3, .int v3), (5, .int v5)]) dX11_learn_152 (by decide) rfl ?_
  refine z_iinc C 5 4 (v := v5) (v1 := (v5 + (1 : Int32))) (ls1 := [(5, .int (v5 + (1 : Int32))), (4, .int (s1 + (bI s0))), (0, .ref (B + v0)), (1, .int v1), (3, .int v3)]) dX11_learn_154 rfl rfl (by decide) rfl ?_
  refine z_goto C 104 dX11_learn_157 rfl ?_
  exact z_jump (ls1 := [(0, .ref (B + v0)), (1, .int v1), (3, .int v3), (4, .int (s1 + (bI s0))), (5, .int (v5 + (1 : Int32)))]) (Nat.le_of_ble_eq_true rfl) [2, 3, 4, 1, 0] rfl (hk104 (s1 + (bI s0)) (v5 + (1 : Int32)) M)
set_option maxHeartbeats 4000000 in
set_option maxRecDepth 100000 in
theorem z_fX11_learn_b146 {p : Program} {l : Launch} {e : Env} {s : State} {m : MethodId} {args : Array Value} {below : List Frame} {meth : Method} {c : Code} {D : va_G} {cy : Nat → ClassId} {B : Nat} {kd : Nat → Nat} {n : Nat} {sa sv : Nat → Nat} (C : zC p l s m args meth c D cy B kd n sa sv RX11 cX11_learn 6) (ht : ∀ x ∈ c.exceptionTable.toList, False) (hr : meth.sig.returnType = some (FieldType.int)) {b0 : Int32 × Mem}  (N : Nat) (k104 : Int32 → Int32 → Mem → Option (Int32 × Mem)) (v0 : Nat) (v1 : Int32) (v3 : Int32) (v5 : Int32) (s0 : Int32) (M : Mem) (h0 : kd v0 = 11) (hk104 : ∀ (v4 : Int32) (v5 : Int32) (M : Mem), Z p l e (rmz 6 0) s m args below meth c (vx_MQ below (QcR D cy B kd n (cvI b0)) (XcR D cy B kd n (cvI b0)) args s 0 (6 * 0) (AA B kd n)) D cy B kd n 6 b0 0 104 [(0, .ref (B + v0)), (1, .int v1), (3, .int v3), (4, .int v4), (5, .int v5)] [] M (k104 v4 v5 M)) : Z p l e (rmz 6 0) s m args below meth c (vx_MQ below (QcR D cy B kd n (cvI b0)) (XcR D cy B kd n (cvI b0)) args s 0 (6 * 0) (AA B kd n)) D cy B kd n 6 b0 0 146 [(0, .ref (B + v0)), (1, .int v1), (3, .int v3), (5, .int v5)] [.int s0] M (fX11_learn_b146 N k104 v0 v1 v3 v5 s0 M) := by
  unfold fX11_learn_b146
  refine z_iconst C dX11_learn_146 rfl ?_
  refine z_goto C 151 dX11_learn_147 rfl ?_
  exact z_jump (ls1 := [(0, .ref (B + v0)), (1, .int v1), (3, .int v3), (5, .int v5)]) (Nat.le_of_ble_eq_true rfl) [0, 1, 2, 3] rfl (z_fX11_learn_b151 C ht hr N k104 v0 v1 v3 v5 true s0 M h0 hk104)
set_option maxHeartbeats 4000000 in
set_option maxRecDepth 100000 in
theorem z_fX11_learn_b150 {p : Program} {l : Launch} {e : Env} {s : State} {m : MethodId} {args : Array Value} {below : List Frame} {meth : Method} {c : Code} {D : va_G} {cy : Nat → ClassId} {B : Nat} {kd : Nat → Nat} {n : Nat} {sa sv : Nat → Nat} (C : zC p l s m args meth c D cy B kd n sa sv RX11 cX11_learn 6) (ht : ∀ x ∈ c.exceptionTable.toList, False) (hr : meth.sig.returnType = some (FieldType.int)) {b0 : Int32 × Mem}  (N : Nat) (k104 : Int32 → Int32 → Mem → Option (Int32 × Mem)) (v0 : Nat) (v1 : Int32) (v3 : Int32) (v5 : Int32) (s0 : Int32) (M : Mem) (h0 : kd v0 = 11) (hk104 : ∀ (v4 : Int32) (v5 : Int32) (M : Mem), Z p l e (rmz 6 0) s m args below meth c (vx_MQ below (QcR D cy B kd n (cvI b0)) (XcR D cy B kd n (cvI b0)) args s 0 (6 * 0) (AA B kd n)) D cy B kd n 6 b0 0 104 [(0, .ref (B + v0)), (1, .int v1), (3, .int v3), (4, .int v4), (5, .int v5)] [] M (k104 v4 v5 M)) : Z p l e (rmz 6 0) s m args below meth c (vx_MQ below (QcR D cy B kd n (cvI b0)) (XcR D cy B kd n (cvI b0)) args s 0 (6 * 0) (AA B kd n)) D cy B kd n 6 b0 0 150 [(0, .ref (B + v0)), (1, .int v1), (3, .int v3), (5, .int v5)] [.int s0] M (fX11_learn_b150 N k104 v0 v1 v3 v5 s0 M) := by
  unfold fX11_learn_b150
  refine z_iconst C dX11_learn_150 rfl ?_
  exact z_jump (ls1 := [(0, .ref (B + v0)), (1, .int v1), (3, .int v3), (5, .int v5)]) (Nat.le_of_ble_eq_true rfl) [0, 1, 2, 3] rfl (z_fX11_learn_b151 C ht hr N k104 v0 v1 v3 v5 false s0 M h0 hk104)
set_option maxHeartbeats 4000000 in
set_option maxRecDepth 100000 in
theorem z_fX11_learn_l104_s {p : Program} {l : Launch} {e : Env} {s : State} {m : MethodId} {args : Array Value} {below : List Frame} {meth : Method} {c : Code} {D : va_G} {cy : Nat → ClassId} {B : Nat} {kd : Nat → Nat} {n : Nat} {sa sv : Nat → Nat} (C : zC p l s m args meth c D cy B kd n sa sv RX11 cX11_learn 6) (ht : ∀ x ∈ c.exceptionTable.toList, False) (hr : meth.sig.returnType = some (FieldType.int)) {b0 : Int32 × Mem} (N : Nat) (v0 : Nat) (v1 : Int32) (v3 : Int32) (k104 : Int32 → Int32 → Mem → Option (Int32 × Mem)) (v4 : Int32) (v5 : Int32) (M : Mem) (h0 : kd v0 = 11)  (hk104 : ∀ (v4 : Int32) (v5 : Int32) (M : Mem), Z p l e (rmz 6 0) s m args below meth c (vx_MQ below (QcR D cy B kd n (cvI b0)) (XcR D cy B kd n (cvI b0)) args s 0 (6 * 0) (AA B kd n)) D cy B kd n 6 b0 0 104 [(0, .ref (B + v0)), (1, .int v1), (3, .int v3), (4, .int v4), (5, .int v5)] [] M (k104 v4 v5 M)) : Z p l e (rmz 6 0) s m args below meth c (vx_MQ below (QcR D cy B kd n (cvI b0)) (XcR D cy B kd n (cvI b0)) args s 0 (6 * 0) (AA B kd n)) D cy B kd n 6 b0 0 104 [(0, .ref (B + v0)), (1, .int v1), (3, .int v3), (4, .int v4), (5, .int v5)] [] M (fX11_learn_l104_s N v0 v1 v3 k104 v4 v5 M) := by
  unfold fX11_learn_l104_s
  refine z_iload C 4 dX11_learn_104 rfl ?_
  refine z_aload_n C 0 0 dX11_learn_106 rfl rfl ?_
  refine z_getR (k := 0) C cl11 h0 rfl gw_7_10 rfl dX11_learn_107 ?_
  have j1 : kd (v0 + 1) = 36 := zkd C h0 (k := 0) rfl
  refine z_iconst C dX11_learn_110 rfl ?_
  refine z_iald C j1 rfl (by decide) dX11_learn_111 (fun j2 => ?_)
  refine z_icmp_ge C 160 dX11_learn_112 rfl (fun _ => ?_) (fun _ => ?_)
  · exact z_jump (ls1 := [(4, .int v4)]) (Nat.le_of_ble_eq_true rfl) [3] rfl (z_fX11_learn_b160 C ht hr N v4 M)
  · refine z_iload_n C 3 2 dX11_learn_115 rfl rfl ?_
    refine z_if_le C 160 dX11_learn_116 rfl (fun _ => ?_) (fun _ => ?_)
    · exact z_jump (ls1 := [(4, .int v4)]) (Nat.le_of_ble_eq_true rfl) [3] rfl (z_fX11_learn_b160 C ht hr N v4 M)
    · refine z_iload C 3 dX11_learn_119 rfl ?_
      refine z_aload_n C 0 0 dX11_learn_121 rfl rfl ?_
      refine z_iload_n C 1 1 dX11_learn_122 rfl rfl ?_
      refine z_iload C 4 dX11_learn_123 rfl ?_
      refine z_callV_I (As := [.int v1, .int v5]) (rest := [.int v4]) C rfl (ctX11_unknown (zG_of C) N v0 v1 v5 h0 M) cw_RX11_367 rfl (okM_X11_unknown) rfl cl11 h0 (okR_of rfl) (Nat.le_of_ble_eq_true rfl) dX11_learn_125 (fun qj3 _ => ?_)
      refine z_if_ne C 150 dX11_learn_128 rfl (fun _ => ?_) (fun _ => ?_)
      · refine z_iload_n C 3 2 dX11_learn_131 rfl rfl ?_
        refine z_iconst C dX11_learn_132 rfl ?_
        refine z_icmp_ne C 146 dX11_learn_133 rfl (fun _ => ?_) (fun _ => ?_)
        · refine z_aload_n C 0 0 dX11_learn_136 rfl rfl ?_
          refine z_getR (k := 33) C cl11 h0 rfl gw_7_43 rfl dX11_learn_137 ?_
          have j4 : kd (v0 + 20) = 44 := zkd C h0 (k := 33) rfl
          refine z_iload C 4 dX11_learn_140 rfl ?_
          refine z_zald C j4 rfl (by decide) dX11_learn_142 (fun j5 => ?_)
          refine z_if_ne C 150 dX11_learn_143 rfl (fun _ => ?_) (fun _ => ?_)
          · exact z_jump (ls1 := [(0, .ref (B + v0)), (1, .int v1), (3, .int v3), (5, .int v5)]) (Nat.le_of_ble_eq_true rfl) [0, 1, 2, 4] rfl (z_fX11_learn_b146 C ht hr N k104 v0 v1 v3 v5 v4 qj3.2 h0 hk104)
          · exact z_jump (ls1 := [(0, .ref (B + v0)), (1, .int v1), (3, .int v3), (5, .int v5)]) (Nat.le_of_ble_eq_true rfl) [0, 1, 2, 4] rfl (z_fX11_learn_b150 C ht hr N k104 v0 v1 v3 v5 v4 qj3.2 h0 hk104)
        · exact z_jump (ls1 := [(0, .ref (B + v0)), (1, .int v1), (3, .int v3), (5, .int v5)]) (Nat.le_of_ble_eq_true rfl) [0, 1, 2, 4] rfl (z_fX11_learn_b146 C ht hr N k104 v0 v1 v3 v5 v4 qj3.2 h0 hk104)
      · exact z_jump (ls1 := [(0, .ref (B + v0)), (1, .int v1), (3, .int v3), (5, .int v5)]) (Nat.le_of_ble_eq_true rfl) [0, 1, 2, 4] rfl (z_fX11_learn_b150 C ht hr N k104 v0 v1 v3 v5 v4 qj3.2 h0 hk104)
theorem z_fX11_learn_l104_i {p : Program} {l : Launch} {e : Env} {s : State} {m : MethodId} {args : Array Value} {below : List Frame} {meth : Method} {c : Code} {D : va_G} {cy : Nat → ClassId} {B : Nat} {kd : Nat → Nat} {n : Nat} {sa sv : Nat → Nat} (C : zC p l s m args meth c D cy B kd n sa sv RX11 cX11_learn 6) (ht : ∀ x ∈ c.exceptionTable.toList, False) (hr : meth.sig.returnType = some (FieldType.int)) {b0 : Int32 × Mem} (N : Nat) (v0 : Nat) (v1 : Int32) (v3 : Int32) (h0 : kd v0 = 11)  (fu : Nat) : ∀ (v4 : Int32) (v5 : Int32) (M : Mem), Z p l e (rmz 6 0) s m args below meth c (vx_MQ below (QcR D cy B kd n (cvI b0)) (XcR D cy B kd n (cvI b0)) args s 0 (6 * 0) (AA B kd n)) D cy B kd n 6 b0 0 104 [(0, .ref (B + v0)), (1, .int v1), (3, .int v3), (4, .int v4), (5, .int v5)] [] M (fX11_learn_l104 N v0 v1 v3 fu v4 v5 M) := by
  induction fu with
  | zero => intro v4 v5 M; exact z_none
  | succ fu ih => intro v4 v5 M; exact z_fX11_learn_l104_s C ht hr N v0 v1 v3 (fX11_learn_l104 N v0 v1 v3 fu) v4 v5 M h0 (fun v4 v5 M => ih v4 v5 M)
theorem z_fX11_learn_l104 {p : Program} {l : Launch} {e : Env} {s : State} {m : MethodId} {args : Array Value} {below : List Frame} {meth : Method} {c : Code} {D : va_G} {cy : Nat → ClassId} {B : Nat} {kd : Nat → Nat} {n : Nat} {sa sv : Nat → Nat} (C : zC p l s m args meth c D cy B kd n sa sv RX11 cX11_learn 6) (ht : ∀ x ∈ c.exceptionTable.toList, False) (hr : meth.sig.returnType = some (FieldType.int)) {b0 : Int32 × Mem} (N : Nat) (v0 : Nat) (v1 : Int32) (v3 : Int32) (fu : Nat) (v4 : Int32) (v5 : Int32) (M : Mem) (h0 : kd v0 = 11)  : Z p l e (rmz 6 0) s m args below meth c (vx_MQ below (QcR D cy B kd n (cvI b0)) (XcR D cy B kd n (cvI b0)) args s 0 (6 * 0) (AA B kd n)) D cy B kd n 6 b0 0 104 [(0, .ref (B + v0)), (1, .int v1), (3, .int v3), (4, .int v4), (5, .int v5)] [] M (fX11_learn_l104 N v0 v1 v3 fu v4 v5 M) := z_fX11_learn_l104_i C ht hr N v0 v1 v3 h0 fu v4 v5 M
set_option maxHeartbeats 4000000 in
set_option maxRecDepth 100000 in
theorem z_fX11_learn_b101 {p : Program} {l : Launch} {e : Env} {s : State} {m : MethodId} {args : Array Value} {below : List Frame} {meth : Method} {c : Code} {D : va_G} {cy : Nat → ClassId} {B : Nat} {kd : Nat → Nat} {n : Nat} {sa sv : Nat → Nat} (C : zC p l s m args meth c D cy B kd n sa sv RX11 cX11_learn 6) (ht : ∀ x ∈ c.exceptionTable.toList, False) (hr : meth.sig.returnType = some (FieldType.int)) {b0 : Int32 × Mem}  (N : Nat) (v0 : Nat) (v1 : Int32) (v3 : Int32) (v4 : Int32) (M : Mem) (h0 : kd v0 = 11)  : Z p l e (rmz 6 0) s m args below meth c (vx_MQ below (QcR D cy B kd n (cvI b0)) (XcR D cy B kd n (cvI b0)) args s 0 (6 * 0) (AA B kd n)) D cy B kd n 6 b0 0 101 [(0, .ref (B + v0)), (1, .int v1), (3, .int v3), (4, .int v4)] [] M (fX11_learn_b101 N v0 v1 v3 v4 M) := by
  unfold fX11_learn_b101
  refine z_iconst C dX11_learn_101 rfl ?_
  refine z_istore C 5 (ls1 := [(5, .int (0 : Int32)), (0, .ref (B + v0)), (1, .int v1), (3, .int v3), (4, .int v4)]) dX11_learn_102 (by decide) rfl ?_
  exact z_jump (ls1 := [(0, .ref (B + v0)), (1, .int v1), (3, .int v3), (4, .int v4), (5, .int (0 : Int32))]) (Nat.le_of_ble_eq_true rfl) [1, 2, 3, 4, 0] rfl (z_fX11_learn_l104 C ht hr N v0 v1 v3 N v4 (0 : Int32) M h0)
set_option maxHeartbeats 4000000 in
set_option maxRecDepth 100000 in
theorem z_fX11_learn_b92 {p : Program} {l : Launch} {e : Env} {s : State} {m : MethodId} {args : Array Value} {below : List Frame} {meth : Method} {c : Code} {D : va_G} {cy : Nat → ClassId} {B : Nat} {kd : Nat → Nat} {n : Nat} {sa sv : Nat → Nat} (C : zC p l s m args meth c D cy B kd n sa sv RX11 cX11_learn 6) (ht : ∀ x ∈ c.exceptionTable.toList, False) (hr : meth.sig.returnType = some (FieldType.int)) {b0 : Int32 × Mem}  (N : Nat) (k64 : Int32 → Int32 → Option (Int32 × Mem)) (v0 : Nat) (v1 : Int32) (v3 : Int32) (v5 : Int32) (s0 : Bool) (s1 : Int32) (M : Mem) (h0 : kd v0 = 11) (hk64 : ∀ (v4 : Int32) (v5 : Int32), Z p l e (rmz 6 0) s m args below meth c (vx_MQ below (QcR D cy B kd n (cvI b0)) (XcR D cy B kd n (cvI b0)) args s 0 (6 * 0) (AA B kd n)) D cy B kd n 6 b0 0 64 [(0, .ref (B + v0)), (1, .int v1), (3, .int v3), (4, .int v4), (5, .int v5)] [] M (k64 v4 v5)) : Z p l e (rmz 6 0) s m args below meth c (vx_MQ below (QcR D cy B kd n (cvI b0)) (XcR D cy B kd n (cvI b0)) args s 0 (6 * 0) (AA B kd n)) D cy B kd n 6 b0 0 92 [(0, .ref (B + v0)), (1, .int v1), (3, .int v3), (5, .int v5)] [.int (bI s0), .int s1] M (fX11_learn_b92 N k64 v0 v1 v3 v5 s0 s1 M) := by
  unfold fX11_learn_b92
  refine z_iadd C dX11_learn_92 ?_
  refine z_istore C 4 (ls1 := [(4, .int (s1 + (bI s0))), (0, .ref (B + v0)), (1, .int v1), (3, .int v3), (5, .int v5)]) dX11_learn_93 (by decide) rfl ?_
  refine z_iinc C 5 4 (v := v5) (v1 := (v5 + (1 : Int32))) (ls1 := [(5, .int (v5 + (1 : Int32))), (4, .int (s1 + (bI s0))), (0, .ref (B + v0)), (1, .int v1), (3, .int v3)]) dX11_learn_95 rfl rfl (by decide) rfl ?_
  refine z_goto C 64 dX11_learn_98 rfl ?_
  exact z_jump (ls1 := [(0, .ref (B + v0)), (1, .int v1), (3, .int v3), (4, .int (s1 + (bI s0))), (5, .int (v5 + (1 : Int32)))]) (Nat.le_of_ble_eq_true rfl) [2, 3, 4, 1, 0] rfl (hk64 (s1 + (bI s0)) (v5 + (1 : Int32)))
set_option maxHeartbeats 4000000 in
set_option maxRecDepth 100000 in
theorem z_fX11_learn_l64_s {p : Program} {l : Launch} {e : Env} {s : State} {m : MethodId} {args : Array Value} {below : List Frame} {meth : Method} {c : Code} {D : va_G} {cy : Nat → ClassId} {B : Nat} {kd : Nat → Nat} {n : Nat} {sa sv : Nat → Nat} (C : zC p l s m args meth c D cy B kd n sa sv RX11 cX11_learn 6) (ht : ∀ x ∈ c.exceptionTable.toList, False) (hr : meth.sig.returnType = some (FieldType.int)) {b0 : Int32 × Mem} (N : Nat) (v0 : Nat) (v1 : Int32) (v3 : Int32) (M : Mem) (k64 : Int32 → Int32 → Option (Int32 × Mem)) (v4 : Int32) (v5 : Int32) (h0 : kd v0 = 11)  (hk64 : ∀ (v4 : Int32) (v5 : Int32), Z p l e (rmz 6 0) s m args below meth c (vx_MQ below (QcR D cy B kd n (cvI b0)) (XcR D cy B kd n (cvI b0)) args s 0 (6 * 0) (AA B kd n)) D cy B kd n 6 b0 0 64 [(0, .ref (B + v0)), (1, .int v1), (3, .int v3), (4, .int v4), (5, .int v5)] [] M (k64 v4 v5)) : Z p l e (rmz 6 0) s m args below meth c (vx_MQ below (QcR D cy B kd n (cvI b0)) (XcR D cy B kd n (cvI b0)) args s 0 (6 * 0) (AA B kd n)) D cy B kd n 6 b0 0 64 [(0, .ref (B + v0)), (1, .int v1), (3, .int v3), (4, .int v4), (5, .int v5)] [] M (fX11_learn_l64_s N v0 v1 v3 M k64 v4 v5) := by
  unfold fX11_learn_l64_s
  refine z_iload C 4 dX11_learn_64 rfl ?_
  refine z_bipush (v := 64) C dX11_learn_66 rfl ?_
  refine z_icmp_ge C 101 dX11_learn_68 rfl (fun _ => ?_) (fun _ => ?_)
  · exact z_jump (ls1 := [(0, .ref (B + v0)), (1, .int v1), (3, .int v3), (4, .int v4)]) (Nat.le_of_ble_eq_true rfl) [0, 1, 2, 3] rfl (z_fX11_learn_b101 C ht hr N v0 v1 v3 v4 M h0)
  · refine z_iload_n C 3 2 dX11_learn_71 rfl rfl ?_
    refine z_if_ne C 101 dX11_learn_72 rfl (fun _ => ?_) (fun _ => ?_)
    · refine z_iload C 3 dX11_learn_75 rfl ?_
      refine z_aload_n C 0 0 dX11_learn_77 rfl rfl ?_
      refine z_getR (k := 32) C cl11 h0 rfl gw_7_42 rfl dX11_learn_78 ?_
      have j1 : kd (v0 + 19) = 43 := zkd C h0 (k := 32) rfl
      refine z_iload C 4 dX11_learn_81 rfl ?_
      refine z_zald C j1 rfl (by decide) dX11_learn_83 (fun j2 => ?_)
      refine z_if_eq C 91 dX11_learn_84 rfl (fun _ => ?_) (fun _ => ?_)
      · refine z_iconst C dX11_learn_91 rfl ?_
        exact z_jump (ls1 := [(0, .ref (B + v0)), (1, .int v1), (3, .int v3), (5, .int v5)]) (Nat.le_of_ble_eq_true rfl) [0, 1, 2, 4] rfl (z_fX11_learn_b92 C ht hr N k64 v0 v1 v3 v5 false v4 M h0 hk64)
      · refine z_iconst C dX11_learn_87 rfl ?_
        refine z_goto C 92 dX11_learn_88 rfl ?_
        exact z_jump (ls1 := [(0, .ref (B + v0)), (1, .int v1), (3, .int v3), (5, .int v5)]) (Nat.le_of_ble_eq_true rfl) [0, 1, 2, 4] rfl (z_fX11_learn_b92 C ht hr N k64 v0 v1 v3 v5 true v4 M h0 hk64)
    · exact z_jump (ls1 := [(0, .ref (B + v0)), (1, .int v1), (3, .int v3), (4, .int v4)]) (Nat.le_of_ble_eq_true rfl) [0, 1, 2, 3] rfl (z_fX11_learn_b101 C ht hr N v0 v1 v3 v4 M h0)
theorem z_fX11_learn_l64_i {p : Program} {l : Launch} {e : Env} {s : State} {m : MethodId} {args : Array Value} {below : List Frame} {meth : Method} {c : Code} {D : va_G} {cy : Nat → ClassId} {B : Nat} {kd : Nat → Nat} {n : Nat} {sa sv : Nat → Nat} (C : zC p l s m args meth c D cy B kd n sa sv RX11 cX11_learn 6) (ht : ∀ x ∈ c.exceptionTable.toList, False) (hr : meth.sig.returnType = some (FieldType.int)) {b0 : Int32 × Mem} (N : Nat) (v0 : Nat) (v1 : Int32) (v3 : Int32) (M : Mem) (h0 : kd v0 = 11)  (fu : Nat) : ∀ (v4 : Int32) (v5 : Int32), Z p l e (rmz 6 0) s m args below meth c (vx_MQ below (QcR D cy B kd n (cvI b0)) (XcR D cy B kd n (cvI b0)) args s 0 (6 * 0) (AA B kd n)) D cy B kd n 6 b0 0 64 [(0, .ref (B + v0)), (1, .int v1), (3, .int v3), (4, .int v4), (5, .int v5)] [] M (fX11_learn_l64 N v0 v1 v3 M fu v4 v5) := by
  induction fu with
  | zero => intro v4 v5; exact z_none
  | succ fu ih => intro v4 v5; exact z_fX11_learn_l64_s C ht hr N v0 v1 v3 M (fX11_learn_l64 N v0 v1 v3 M fu) v4 v5 h0 (fun v4 v5 => ih v4 v5)
theorem z_fX11_learn_l64 {p : Program} {l : Launch} {e : Env} {s : State} {m : MethodId} {args : Array Value} {below : List Frame} {meth : Method} {c : Code} {D : va_G} {cy : Nat → ClassId} {B : Nat} {kd : Nat → Nat} {n : Nat} {sa sv : Nat → Nat} (C : zC p l s m args meth c D cy B kd n sa sv RX11 cX11_learn 6) (ht : ∀ x ∈ c.exceptionTable.toList, False) (hr : meth.sig.returnType = some (FieldType.int)) {b0 : Int32 × Mem} (N : Nat) (v0 : Nat) (v1 : Int32) (v3 : Int32) (M : Mem) (fu : Nat) (v4 : Int32) (v5 : Int32) (h0 : kd v0 = 11)  : Z p l e (rmz 6 0) s m args below meth c (vx_MQ below (QcR D cy B kd n (cvI b0)) (XcR D cy B kd n (cvI b0)) args s 0 (6 * 0) (AA B kd n)) D cy B kd n 6 b0 0 64 [(0, .ref (B + v0)), (1, .int v1), (3, .int v3), (4, .int v4), (5, .int v5)] [] M (fX11_learn_l64 N v0 v1 v3 M fu v4 v5) := z_fX11_learn_l64_i C ht hr N v0 v1 v3 M h0 fu v4 v5
set_option maxHeartbeats 4000000 in
set_option maxRecDepth 100000 in
theorem z_fX11_learn_b43 {p : Program} {l : Launch} {e : Env} {s : State} {m : MethodId} {args : Array Value} {below : List Frame} {meth : Method} {c : Code} {D : va_G} {cy : Nat → ClassId} {B : Nat} {kd : Nat → Nat} {n : Nat} {sa sv : Nat → Nat} (C : zC p l s m args meth c D cy B kd n sa sv RX11 cX11_learn 6) (ht : ∀ x ∈ c.exceptionTable.toList, False) (hr : meth.sig.returnType = some (FieldType.int)) {b0 : Int32 × Mem}  (N : Nat) (v0 : Nat) (v1 : Int32) (v2 : Int32) (v3 : Int32) (M : Mem) (h0 : kd v0 = 11)  : Z p l e (rmz 6 0) s m args below meth c (vx_MQ below (QcR D cy B kd n (cvI b0)) (XcR D cy B kd n (cvI b0)) args s 0 (6 * 0) (AA B kd n)) D cy B kd n 6 b0 0 43 [(0, .ref (B + v0)), (1, .int v1), (2, .int v2), (3, .int v3)] [] M (fX11_learn_b43 N v0 v1 v2 v3 M) := by
  unfold fX11_learn_b43
  refine z_aload_n C 0 0 dX11_learn_43 rfl rfl ?_
  refine z_getI (k := 5) C cl11 h0 rfl gw_7_15 rfl dX11_learn_44 ?_
  refine z_if_le C 52 dX11_learn_47 rfl (fun _ => ?_) (fun _ => ?_)
  · refine z_aload_n C 0 0 dX11_learn_52 rfl rfl ?_
    refine z_iload_n C 1 1 dX11_learn_53 rfl rfl ?_
    refine z_iload_n C 2 2 dX11_learn_54 rfl rfl ?_
    refine z_callV_V (As := [.int v1, .int v2]) (rest := []) C rfl (ctX11_learns (zG_of C) N v0 v1 v2 h0 M) cw_RX11_364 rfl (okM_X11_learns) rfl cl11 h0 (okR_of rfl) (Nat.le_of_ble_eq_true rfl) dX11_learn_55 (fun qj1 _ => ?_)
    refine z_iconst C dX11_learn_58 rfl ?_
    refine z_istore C 4 (ls1 := [(4, .int (0 : Int32)), (0, .ref (B + v0)), (1, .int v1), (2, .int v2), (3, .int v3)]) dX11_learn_59 (by decide) rfl ?_
    refine z_iconst C dX11_learn_61 rfl ?_
    refine z_istore C 5 (ls1 := [(5, .int (0 : Int32)), (4, .int (0 : Int32)), (0, .ref (B + v0)), (1, .int v1), (2, .int v2), (3, .int v3)]) dX11_learn_62 (by decide) rfl ?_
    exact z_jump (ls1 := [(0, .ref (B + v0)), (1, .int v1), (3, .int v3), (4, .int (0 : Int32)), (5, .int (0 : Int32))]) (Nat.le_of_ble_eq_true rfl) [2, 3, 5, 1, 0] rfl (z_fX11_learn_l64 C ht hr N v0 v1 v3 qj1 N (0 : Int32) (0 : Int32) h0)
  · refine z_iconst C dX11_learn_50 rfl ?_
    exact z_iret C hr (Nat.le_of_ble_eq_true rfl) dX11_learn_51 rfl
set_option maxHeartbeats 4000000 in
set_option maxRecDepth 100000 in
theorem z_fX11_learn_b38 {p : Program} {l : Launch} {e : Env} {s : State} {m : MethodId} {args : Array Value} {below : List Frame} {meth : Method} {c : Code} {D : va_G} {cy : Nat → ClassId} {B : Nat} {kd : Nat → Nat} {n : Nat} {sa sv : Nat → Nat} (C : zC p l s m args meth c D cy B kd n sa sv RX11 cX11_learn 6) (ht : ∀ x ∈ c.exceptionTable.toList, False) (hr : meth.sig.returnType = some (FieldType.int)) {b0 : Int32 × Mem}  (N : Nat) (v0 : Nat) (v1 : Int32) (v2 : Int32) (v3 : Int32) (M : Mem) (h0 : kd v0 = 11)  : Z p l e (rmz 6 0) s m args below meth c (vx_MQ below (QcR D cy B kd n (cvI b0)) (XcR D cy B kd n (cvI b0)) args s 0 (6 * 0) (AA B kd n)) D cy B kd n 6 b0 0 38 [(0, .ref (B + v0)), (1, .int v1), (2, .int v2), (3, .int v3)] [] M (fX11_learn_b38 N v0 v1 v2 v3 M) := by
  unfold fX11_learn_b38
  refine z_aload_n C 0 0 dX11_learn_38 rfl rfl ?_
  refine z_iconst C dX11_learn_39 rfl ?_
  refine z_putI (k := 5) C cl11 h0 rfl gw_7_15 rfl rfl rfl dX11_learn_40 ?_
  exact z_jump (ls1 := [(0, .ref (B + v0)), (1, .int v1), (2, .int v2), (3, .int v3)]) (Nat.le_of_ble_eq_true rfl) [0, 1, 2, 3] rfl (z_fX11_learn_b43 C ht hr N v0 v1 v2 v3 (wI M v0 5 (3 : Int32)) h0)
set_option maxHeartbeats 4000000 in
set_option maxRecDepth 100000 in
theorem ctX11_learn {l : Launch} {D : va_G} {cy : Nat → ClassId} {B : Nat} {kd : Nat → Nat} {n : Nat} {sa sv : Nat → Nat} (G : zG l kd n) (N : Nat) (v0 : Nat) (v1 : Int32) (v2 : Int32) (v3 : Int32) (h0 : kd v0 = 11) (M : Mem) : CT l D cy B kd n sa sv 6 0 yX11_learn cX11_learn 6 (some (FieldType.int)) cvI [.ref (B + v0), .int v1, .int v2, .int v3] M (fX11_learn N v0 v1 v2 v3 M) := by
  refine ct_of (by decide) G.1 G.2 (Nat.le_of_ble_eq_true rfl) (ls := [(0, .ref (B + v0)), (1, .int v1), (2, .int v2), (3, .int v3)]) rfl ?_
  intro p e s m args below meth c b0 C ht hr
  unfold fX11_learn
  refine z_aload_n C 0 0 dX11_learn_0 rfl rfl ?_
  refine z_aload_n C 0 0 dX11_learn_1 rfl rfl ?_
  refine z_iload_n C 1 1 dX11_learn_2 rfl rfl ?_
  refine z_iload_n C 2 2 dX11_learn_3 rfl rfl ?_
  refine z_callV_pI (As := [.int v1, .int v2]) (rest := [.ref (B + v0)]) C rfl (ctX11_askFault (zG_of C) v0 v1 v2 h0 M) cw_RX11_361 rfl (okM_X11_askFault) rfl cl11 h0 (okR_of rfl) (Nat.le_of_ble_eq_true rfl) dX11_learn_4 (fun qj1 _ => ?_)
  refine z_putI (k := 5) C cl11 h0 rfl gw_7_15 rfl rfl rfl dX11_learn_7 ?_
  refine z_aload_n C 0 0 dX11_learn_10 rfl rfl ?_
  refine z_getI (k := 5) C cl11 h0 rfl gw_7_15 rfl dX11_learn_11 ?_
  refine z_if_ne C 43 dX11_learn_14 rfl (fun _ => ?_) (fun _ => ?_)
  · refine z_iload_n C 3 3 dX11_learn_17 rfl rfl ?_
    refine z_i2l C dX11_learn_18 ?_
    refine z_lconst (v := 0) C dX11_learn_19 rfl ?_
    refine z_ldc2 C dX11_learn_20 gw_8_217 ?_
    refine z_callS_pB (As := [.long v3.toInt64, .long (0 : Int64), .long (2 : Int64)]) (rest := []) C rfl (ctX11_within (zG_of C) v3.toInt64 (0 : Int64) (2 : Int64) (wI M v0 5 qj1)) cw_RX11_157 (okM_X11_within) rfl (okR_of rfl) (Nat.le_of_ble_eq_true rfl) dX11_learn_23 (fun qj2 _ => ?_)
    refine z_if_eqB C 38 dX11_learn_26 rfl (fun _ => ?_) (fun _ => ?_)
    · refine z_aload_n C 0 0 dX11_learn_29 rfl rfl ?_
      refine z_iload_n C 2 2 dX11_learn_30 rfl rfl ?_
      refine z_iconst C dX11_learn_31 rfl ?_
      refine z_callV_pB (As := [.int v2, .int (bI false)]) (rest := []) C rfl (ctX11_areNames (zG_of C) N v0 v2 false h0 (wI M v0 5 qj1)) cw_RX11_326 rfl (okM_X11_areNames) rfl cl11 h0 (okR_of rfl) (Nat.le_of_ble_eq_true rfl) dX11_learn_32 (fun qj3 _ => ?_)
      refine z_if_neB C 43 dX11_learn_35 rfl (fun _ => ?_) (fun _ => ?_)
      · exact z_jump (ls1 := [(0, .ref (B + v0)), (1, .int v1), (2, .int v2), (3, .int v3)]) (Nat.le_of_ble_eq_true rfl) [0, 1, 2, 3] rfl (z_fX11_learn_b43 C ht hr N v0 v1 v2 v3 (wI M v0 5 qj1) h0)
      · exact z_jump (ls1 := [(0, .ref (B + v0)), (1, .int v1), (2, .int v2), (3, .int v3)]) (Nat.le_of_ble_eq_true rfl) [0, 1, 2, 3] rfl (z_fX11_learn_b38 C ht hr N v0 v1 v2 v3 (wI M v0 5 qj1) h0)
    · exact z_jump (ls1 := [(0, .ref (B + v0)), (1, .int v1), (2, .int v2), (3, .int v3)]) (Nat.le_of_ble_eq_true rfl) [0, 1, 2, 3] rfl (z_fX11_learn_b38 C ht hr N v0 v1 v2 v3 (wI M v0 5 qj1) h0)
  · exact z_jump (ls1 := [(0, .ref (B + v0)), (1, .int v1), (2, .int v2), (3, .int v3)]) (Nat.le_of_ble_eq_true rfl) [0, 1, 2, 3] rfl (z_fX11_learn_b43 C ht hr N v0 v1 v2 v3 (wI M v0 5 qj1) h0)
set_option maxHeartbeats 4000000 in
set_option maxRecDepth 100000 in
theorem z_fX11_ask_b96 {p : Program} {l : Launch} {e : Env} {s : State} {m : MethodId} {args : Array Value} {below : List Frame} {meth : Method} {c : Code} {D : va_G} {cy : Nat → ClassId} {B : Nat} {kd : Nat → Nat} {n : Nat} {sa sv : Nat → Nat} (C : zC p l s m args meth c D cy B kd n sa sv RX11 cX11_ask 5) (ht : ∀ x ∈ c.exceptionTable.toList, False) (hr : meth.sig.returnType = some (FieldType.int)) {b0 : Int32 × Mem}  (N : Nat) (k51 : Int32 → Int32 → Mem → Option (Int32 × Mem)) (v0 : Nat) (v1 : Int32) (v3 : Int32) (v4 : Int32) (M : Mem) (h0 : kd v0 = 11) (hk51 : ∀ (v3 : Int32) (v4 : Int32) (M : Mem), Z p l e (rmz 6 0) s m args below meth c (vx_MQ below (QcR D cy B kd n (cvI b0)) (XcR D cy B kd n (cvI b0)) args s 0 (6 * 0) (AA B kd n)) D cy B kd n 5 b0 0 51 [(0, .ref (B + v0)), (1, .int v1), (3, .int v3), (4, .int v4)] [] M (k51 v3 v4 M)) : Z p l e (rmz 6 0) s m args below meth c (vx_MQ below (QcR D cy B kd n (cvI b0)) (XcR D cy B kd n (cvI b0)) args s 0 (6 * 0) (AA B kd n)) D cy B kd n 5 b0 0 96 [(0, .ref (B + v0)), (1, .int v1), (3, .int v3), (4, .int v4)] [] M (fX11_ask_b96 N k51 v0 v1 v3 v4 M) := by
  unfold fX11_ask_b96
  refine z_iinc C 4 3 (v := v4) (v1 := (v4 + (1 : Int32))) (ls1 := [(4, .int (v4 + (1 : Int32))), (0, .ref (B + v0)), (1, .int v1), (3, .int v3)]) dX11_ask_96 rfl rfl (by decide) rfl ?_
  refine z_goto C 51 dX11_ask_99 rfl ?_
  exact z_jump (ls1 := [(0, .ref (B + v0)), (1, .int v1), (3, .int v3), (4, .int (v4 + (1 : Int32)))]) (Nat.le_of_ble_eq_true rfl) [1, 2, 3, 0] rfl (hk51 v3 (v4 + (1 : Int32)) M)
set_option maxHeartbeats 4000000 in
set_option maxRecDepth 100000 in
theorem z_fX11_ask_b93 {p : Program} {l : Launch} {e : Env} {s : State} {m : MethodId} {args : Array Value} {below : List Frame} {meth : Method} {c : Code} {D : va_G} {cy : Nat → ClassId} {B : Nat} {kd : Nat → Nat} {n : Nat} {sa sv : Nat → Nat} (C : zC p l s m args meth c D cy B kd n sa sv RX11 cX11_ask 5) (ht : ∀ x ∈ c.exceptionTable.toList, False) (hr : meth.sig.returnType = some (FieldType.int)) {b0 : Int32 × Mem}  (N : Nat) (k51 : Int32 → Int32 → Mem → Option (Int32 × Mem)) (v0 : Nat) (v1 : Int32) (v4 : Int32) (M : Mem) (h0 : kd v0 = 11) (hk51 : ∀ (v3 : Int32) (v4 : Int32) (M : Mem), Z p l e (rmz 6 0) s m args below meth c (vx_MQ below (QcR D cy B kd n (cvI b0)) (XcR D cy B kd n (cvI b0)) args s 0 (6 * 0) (AA B kd n)) D cy B kd n 5 b0 0 51 [(0, .ref (B + v0)), (1, .int v1), (3, .int v3), (4, .int v4)] [] M (k51 v3 v4 M)) : Z p l e (rmz 6 0) s m args below meth c (vx_MQ below (QcR D cy B kd n (cvI b0)) (XcR D cy B kd n (cvI b0)) args s 0 (6 * 0) (AA B kd n)) D cy B kd n 5 b0 0 93 [(0, .ref (B + v0)), (1, .int v1), (4, .int v4)] [] M (fX11_ask_b93 N k51 v0 v1 v4 M) := by
  unfold fX11_ask_b93
  refine z_iload C 2 dX11_ask_93 rfl ?_
  refine z_istore_n C 3 (ls1 := [(3, .int v4), (0, .ref (B + v0)), (1, .int v1), (4, .int v4)]) dX11_ask_95 rfl (by decide) rfl ?_
  exact z_jump (ls1 := [(0, .ref (B + v0)), (1, .int v1), (3, .int v4), (4, .int v4)]) (Nat.le_of_ble_eq_true rfl) [1, 2, 0, 3] rfl (z_fX11_ask_b96 C ht hr N k51 v0 v1 v4 v4 M h0 hk51)
set_option maxHeartbeats 4000000 in
set_option maxRecDepth 100000 in
theorem z_fX11_ask_l51_s {p : Program} {l : Launch} {e : Env} {s : State} {m : MethodId} {args : Array Value} {below : List Frame} {meth : Method} {c : Code} {D : va_G} {cy : Nat → ClassId} {B : Nat} {kd : Nat → Nat} {n : Nat} {sa sv : Nat → Nat} (C : zC p l s m args meth c D cy B kd n sa sv RX11 cX11_ask 5) (ht : ∀ x ∈ c.exceptionTable.toList, False) (hr : meth.sig.returnType = some (FieldType.int)) {b0 : Int32 × Mem} (N : Nat) (v0 : Nat) (v1 : Int32) (k51 : Int32 → Int32 → Mem → Option (Int32 × Mem)) (v3 : Int32) (v4 : Int32) (M : Mem) (h0 : kd v0 = 11)  (hk51 : ∀ (v3 : Int32) (v4 : Int32) (M : Mem), Z p l e (rmz 6 0) s m args below meth c (vx_MQ below (QcR D cy B kd n (cvI b0)) (XcR D cy B kd n (cvI b0)) args s 0 (6 * 0) (AA B kd n)) D cy B kd n 5 b0 0 51 [(0, .ref (B + v0)), (1, .int v1), (3, .int v3), (4, .int v4)] [] M (k51 v3 v4 M)) : Z p l e (rmz 6 0) s m args below meth c (vx_MQ below (QcR D cy B kd n (cvI b0)) (XcR D cy B kd n (cvI b0)) args s 0 (6 * 0) (AA B kd n)) D cy B kd n 5 b0 0 51 [(0, .ref (B + v0)), (1, .int v1), (3, .int v3), (4, .int v4)] [] M (fX11_ask_l51_s N v0 v1 k51 v3 v4 M) := by
  unfold fX11_ask_l51_s
  refine z_iload C 3 dX11_ask_51 rfl ?_
  refine z_aload_n C 0 0 dX11_ask_53 rfl rfl ?_
  refine z_getR (k := 0) C cl11 h0 rfl gw_7_10 rfl dX11_ask_54 ?_
  have j1 : kd (v0 + 1) = 36 := zkd C h0 (k := 0) rfl
  refine z_iconst C dX11_ask_57 rfl ?_
  refine z_iald C j1 rfl (by decide) dX11_ask_58 (fun j2 => ?_)
  refine z_icmp_ge C 102 dX11_ask_59 rfl (fun _ => ?_) (fun _ => ?_)
  · refine z_iload_n C 3 2 dX11_ask_102 rfl rfl ?_
    exact z_iret C hr (Nat.le_of_ble_eq_true rfl) dX11_ask_103 rfl
  · refine z_aload_n C 0 0 dX11_ask_62 rfl rfl ?_
    refine z_getR (k := 33) C cl11 h0 rfl gw_7_43 rfl dX11_ask_63 ?_
    have j3 : kd (v0 + 20) = 44 := zkd C h0 (k := 33) rfl
    refine z_iload C 3 dX11_ask_66 rfl ?_
    refine z_zald C j3 rfl (by decide) dX11_ask_68 (fun j4 => ?_)
    refine z_if_ne C 96 dX11_ask_69 rfl (fun _ => ?_) (fun _ => ?_)
    · refine z_iload_n C 3 2 dX11_ask_72 rfl rfl ?_
      refine z_iconst C dX11_ask_73 rfl ?_
      refine z_icmp_eq C 93 dX11_ask_74 rfl (fun _ => ?_) (fun _ => ?_)
      · exact z_jump (ls1 := [(0, .ref (B + v0)), (1, .int v1), (4, .int v4)]) (Nat.le_of_ble_eq_true rfl) [0, 1, 3] rfl (z_fX11_ask_b93 C ht hr N k51 v0 v1 v4 M h0 hk51)
      · refine z_aload_n C 0 0 dX11_ask_77 rfl rfl ?_
        refine z_iload_n C 1 1 dX11_ask_78 rfl rfl ?_
        refine z_iload C 3 dX11_ask_79 rfl ?_
        refine z_callV_I (As := [.int v1, .int v4]) (rest := []) C rfl (ctX11_unknown (zG_of C) N v0 v1 v4 h0 M) cw_RX11_367 rfl (okM_X11_unknown) rfl cl11 h0 (okR_of rfl) (Nat.le_of_ble_eq_true rfl) dX11_ask_81 (fun qj5 _ => ?_)
        refine z_aload_n C 0 0 dX11_ask_84 rfl rfl ?_
        refine z_iload_n C 1 1 dX11_ask_85 rfl rfl ?_
        refine z_iload_n C 3 2 dX11_ask_86 rfl rfl ?_
        refine z_callV_I (As := [.int v1, .int v3]) (rest := [.int qj5.1]) C rfl (ctX11_unknown (zG_of C) N v0 v1 v3 h0 qj5.2) cw_RX11_367 rfl (okM_X11_unknown) rfl cl11 h0 (okR_of rfl) (Nat.le_of_ble_eq_true rfl) dX11_ask_87 (fun qj6 _ => ?_)
        refine z_icmp_le C 96 dX11_ask_90 rfl (fun _ => ?_) (fun _ => ?_)
        · exact z_jump (ls1 := [(0, .ref (B + v0)), (1, .int v1), (3, .int v3), (4, .int v4)]) (Nat.le_of_ble_eq_true rfl) [0, 1, 2, 3] rfl (z_fX11_ask_b96 C ht hr N k51 v0 v1 v3 v4 qj6.2 h0 hk51)
        · exact z_jump (ls1 := [(0, .ref (B + v0)), (1, .int v1), (4, .int v4)]) (Nat.le_of_ble_eq_true rfl) [0, 1, 3] rfl (z_fX11_ask_b93 C ht hr N k51 v0 v1 v4 qj6.2 h0 hk51)
    · exact z_jump (ls1 := [(0, .ref (B + v0)), (1, .int v1), (3, .int v3), (4, .int v4)]) (Nat.le_of_ble_eq_true rfl) [0, 1, 2, 3] rfl (z_fX11_ask_b96 C ht hr N k51 v0 v1 v3 v4 M h0 hk51)
theorem z_fX11_ask_l51_i {p : Program} {l : Launch} {e : Env} {s : State} {m : MethodId} {args : Array Value} {below : List Frame} {meth : Method} {c : Code} {D : va_G} {cy : Nat → ClassId} {B : Nat} {kd : Nat → Nat} {n : Nat} {sa sv : Nat → Nat} (C : zC p l s m args meth c D cy B kd n sa sv RX11 cX11_ask 5) (ht : ∀ x ∈ c.exceptionTable.toList, False) (hr : meth.sig.returnType = some (FieldType.int)) {b0 : Int32 × Mem} (N : Nat) (v0 : Nat) (v1 : Int32) (h0 : kd v0 = 11)  (fu : Nat) : ∀ (v3 : Int32) (v4 : Int32) (M : Mem), Z p l e (rmz 6 0) s m args below meth c (vx_MQ below (QcR D cy B kd n (cvI b0)) (XcR D cy B kd n (cvI b0)) args s 0 (6 * 0) (AA B kd n)) D cy B kd n 5 b0 0 51 [(0, .ref (B + v0)), (1, .int v1), (3, .int v3), (4, .int v4)] [] M (fX11_ask_l51 N v0 v1 fu v3 v4 M) := by
  induction fu with
  | zero => intro v3 v4 M; exact z_none
  | succ fu ih => intro v3 v4 M; exact z_fX11_ask_l51_s C ht hr N v0 v1 (fX11_ask_l51 N v0 v1 fu) v3 v4 M h0 (fun v3 v4 M => ih v3 v4 M)
theorem z_fX11_ask_l51 {p : Program} {l : Launch} {e : Env} {s : State} {m : MethodId} {args : Array Value} {below : List Frame} {meth : Method} {c : Code} {D : va_G} {cy : Nat → ClassId} {B : Nat} {kd : Nat → Nat} {n : Nat} {sa sv : Nat → Nat} (C : zC p l s m args meth c D cy B kd n sa sv RX11 cX11_ask 5) (ht : ∀ x ∈ c.exceptionTable.toList, False) (hr : meth.sig.returnType = some (FieldType.int)) {b0 : Int32 × Mem} (N : Nat) (v0 : Nat) (v1 : Int32) (fu : Nat) (v3 : Int32) (v4 : Int32) (M : Mem) (h0 : kd v0 = 11)  : Z p l e (rmz 6 0) s m args below meth c (vx_MQ below (QcR D cy B kd n (cvI b0)) (XcR D cy B kd n (cvI b0)) args s 0 (6 * 0) (AA B kd n)) D cy B kd n 5 b0 0 51 [(0, .ref (B + v0)), (1, .int v1), (3, .int v3), (4, .int v4)] [] M (fX11_ask_l51 N v0 v1 fu v3 v4 M) := z_fX11_ask_l51_i C ht hr N v0 v1 h0 fu v3 v4 M
set_option maxHeartbeats 4000000 in
set_option maxRecDepth 100000 in
theorem z_fX11_ask_b31 {p : Program} {l : Launch} {e : Env} {s : State} {m : MethodId} {args : Array Value} {below : List Frame} {meth : Method} {c : Code} {D : va_G} {cy : Nat → ClassId} {B : Nat} {kd : Nat → Nat} {n : Nat} {sa sv : Nat → Nat} (C : zC p l s m args meth c D cy B kd n sa sv RX11 cX11_ask 5) (ht : ∀ x ∈ c.exceptionTable.toList, False) (hr : meth.sig.returnType = some (FieldType.int)) {b0 : Int32 × Mem}  (N : Nat) (v0 : Nat) (v1 : Int32) (v2 : Int32) (M : Mem) (h0 : kd v0 = 11)  : Z p l e (rmz 6 0) s m args below meth c (vx_MQ below (QcR D cy B kd n (cvI b0)) (XcR D cy B kd n (cvI b0)) args s 0 (6 * 0) (AA B kd n)) D cy B kd n 5 b0 0 31 [(0, .ref (B + v0)), (1, .int v1), (2, .int v2)] [] M (fX11_ask_b31 N v0 v1 v2 M) := by
  unfold fX11_ask_b31
  refine z_aload_n C 0 0 dX11_ask_31 rfl rfl ?_
  refine z_getI (k := 5) C cl11 h0 rfl gw_7_15 rfl dX11_ask_32 ?_
  refine z_if_le C 40 dX11_ask_35 rfl (fun _ => ?_) (fun _ => ?_)
  · refine z_aload_n C 0 0 dX11_ask_40 rfl rfl ?_
    refine z_iload_n C 1 1 dX11_ask_41 rfl rfl ?_
    refine z_iload_n C 2 2 dX11_ask_42 rfl rfl ?_
    refine z_callV_V (As := [.int v1, .int v2]) (rest := []) C rfl (ctX11_learns (zG_of C) N v0 v1 v2 h0 M) cw_RX11_364 rfl (okM_X11_learns) rfl cl11 h0 (okR_of rfl) (Nat.le_of_ble_eq_true rfl) dX11_ask_43 (fun qj1 _ => ?_)
    refine z_iconst C dX11_ask_46 rfl ?_
    refine z_istore_n C 3 (ls1 := [(3, .int (-1 : Int32)), (0, .ref (B + v0)), (1, .int v1), (2, .int v2)]) dX11_ask_47 rfl (by decide) rfl ?_
    refine z_iconst C dX11_ask_48 rfl ?_
    refine z_istore C 4 (ls1 := [(4, .int (0 : Int32)), (3, .int (-1 : Int32)), (0, .ref (B + v0)), (1, .int v1), (2, .int v2)]) dX11_ask_49 (by decide) rfl ?_
    exact z_jump (ls1 := [(0, .ref (B + v0)), (1, .int v1), (3, .int (-1 : Int32)), (4, .int (0 : Int32))]) (Nat.le_of_ble_eq_true rfl) [2, 3, 1, 0] rfl (z_fX11_ask_l51 C ht hr N v0 v1 N (-1 : Int32) (0 : Int32) qj1 h0)
  · refine z_iconst C dX11_ask_38 rfl ?_
    exact z_iret C hr (Nat.le_of_ble_eq_true rfl) dX11_ask_39 rfl
set_option maxHeartbeats 4000000 in
set_option maxRecDepth 100000 in
theorem ctX11_ask {l : Launch} {D : va_G} {cy : Nat → ClassId} {B : Nat} {kd : Nat → Nat} {n : Nat} {sa sv : Nat → Nat} (G : zG l kd n) (N : Nat) (v0 : Nat) (v1 : Int32) (v2 : Int32) (h0 : kd v0 = 11) (M : Mem) : CT l D cy B kd n sa sv 6 0 yX11_ask cX11_ask 5 (some (FieldType.int)) cvI [.ref (B + v0), .int v1, .int v2] M (fX11_ask N v0 v1 v2 M) := by
  refine ct_of (by decide) G.1 G.2 (Nat.le_of_ble_eq_true rfl) (ls := [(0, .ref (B + v0)), (1, .int v1), (2, .int v2)]) rfl ?_
  intro p e s m args below meth c b0 C ht hr
  unfold fX11_ask
  refine z_aload_n C 0 0 dX11_ask_0 rfl rfl ?_
  refine z_aload_n C 0 0 dX11_ask_1 rfl rfl ?_
  refine z_iload_n C 1 1 dX11_ask_2 rfl rfl ?_
  refine z_iload_n C 2 2 dX11_ask_3 rfl rfl ?_
  refine z_callV_pI (As := [.int v1, .int v2]) (rest := [.ref (B + v0)]) C rfl (ctX11_askFault (zG_of C) v0 v1 v2 h0 M) cw_RX11_361 rfl (okM_X11_askFault) rfl cl11 h0 (okR_of rfl) (Nat.le_of_ble_eq_true rfl) dX11_ask_4 (fun qj1 _ => ?_)
  refine z_putI (k := 5) C cl11 h0 rfl gw_7_15 rfl rfl rfl dX11_ask_7 ?_
  refine z_aload_n C 0 0 dX11_ask_10 rfl rfl ?_
  refine z_getI (k := 5) C cl11 h0 rfl gw_7_15 rfl dX11_ask_11 ?_
  refine z_if_ne C 31 dX11_ask_14 rfl (fun _ => ?_) (fun _ => ?_)
  · refine z_aload_n C 0 0 dX11_ask_17 rfl rfl ?_
    refine z_iload_n C 2 2 dX11_ask_18 rfl rfl ?_
    refine z_iconst C dX11_ask_19 rfl ?_
    refine z_callV_pB (As := [.int v2, .int (bI false)]) (rest := []) C rfl (ctX11_areNames (zG_of C) N v0 v2 false h0 (wI M v0 5 qj1)) cw_RX11_326 rfl (okM_X11_areNames) rfl cl11 h0 (okR_of rfl) (Nat.le_of_ble_eq_true rfl) dX11_ask_20 (fun qj2 _ => ?_)
    refine z_if_neB C 31 dX11_ask_23 rfl (fun _ => ?_) (fun _ => ?_)
    · exact z_jump (ls1 := [(0, .ref (B + v0)), (1, .int v1), (2, .int v2)]) (Nat.le_of_ble_eq_true rfl) [0, 1, 2] rfl (z_fX11_ask_b31 C ht hr N v0 v1 v2 (wI M v0 5 qj1) h0)
    · refine z_aload_n C 0 0 dX11_ask_26 rfl rfl ?_
      refine z_iconst C dX11_ask_27 rfl ?_
      refine z_putI (k := 5) C cl11 h0 rfl gw_7_15 rfl rfl rfl dX11_ask_28 ?_
      exact z_jump (ls1 := [(0, .ref (B + v0)), (1, .int v1), (2, .int v2)]) (Nat.le_of_ble_eq_true rfl) [0, 1, 2] rfl (z_fX11_ask_b31 C ht hr N v0 v1 v2 (wI (wI M v0 5 qj1) v0 5 (3 : Int32)) h0)
  · exact z_jump (ls1 := [(0, .ref (B + v0)), (1, .int v1), (2, .int v2)]) (Nat.le_of_ble_eq_true rfl) [0, 1, 2] rfl (z_fX11_ask_b31 C ht hr N v0 v1 v2 (wI M v0 5 qj1) h0)
set_option maxHeartbeats 4000000 in
set_option maxRecDepth 100000 in
theorem z_fX11_liesWith_b138 {p : Program} {l : Launch} {e : Env} {s : State} {m : MethodId} {args : Array Value} {below : List Frame} {meth : Method} {c : Code} {D : va_G} {cy : Nat → ClassId} {B : Nat} {kd : Nat → Nat} {n : Nat} {sa sv : Nat → Nat} (C : zC p l s m args meth c D cy B kd n sa sv RX11 cX11_liesWith 5) (ht : ∀ x ∈ c.exceptionTable.toList, False) (hr : meth.sig.returnType = some (FieldType.int)) {b0 : Int32 × Mem}  (N : Nat) (k84 : Int32 → Int32 → Mem → Option (Int32 × Mem)) (v0 : Nat) (v1 : Int32) (v2 : Int32) (v4 : Int32) (s0 : Bool) (s1 : Int32) (M : Mem) (h0 : kd v0 = 11) (hk84 : ∀ (v3 : Int32) (v4 : Int32) (M : Mem), Z p l e (rmz 4 0) s m args below meth c (vx_MQ below (QcR D cy B kd n (cvI b0)) (XcR D cy B kd n (cvI b0)) args s 0 (6 * 0) (AA B kd n)) D cy B kd n 5 b0 0 84 [(0, .ref (B + v0)), (1, .int v1), (2, .int v2), (3, .int v3), (4, .int v4)] [] M (k84 v3 v4 M)) : Z p l e (rmz 4 0) s m args below meth c (vx_MQ below (QcR D cy B kd n (cvI b0)) (XcR D cy B kd n (cvI b0)) args s 0 (6 * 0) (AA B kd n)) D cy B kd n 5 b0 0 138 [(0, .ref (B + v0)), (1, .int v1), (2, .int v2), (4, .int v4)] [.int (bI s0), .int s1] M (fX11_liesWith_b138 N k84 v0 v1 v2 v4 s0 s1 M) := by
  unfold fX11_liesWith_b138
  refine z_iadd C dX11_liesWith_138 ?_
  refine z_istore_n C 3 (ls1 := [(3, .int (s1 + (bI s0))), (0, .ref (B + v0)), (1, .int v1), (2, .int v2), (4, .int v4)]) dX11_liesWith_139 rfl (by decide) rfl ?_
  refine z_iinc C 4 4 (v := v4) (v1 := (v4 + (1 : Int32))) (ls1 := [(4, .int (v4 + (1 : Int32))), (3, .int (s1 + (bI s0))), (0, .ref (B + v0)), (1, .int v1), (2, .int v2)]) dX11_liesWith_140 rfl rfl (by decide) rfl ?_
  refine z_goto C 84 dX11_liesWith_143 rfl ?_
  exact z_jump (ls1 := [(0, .ref (B + v0)), (1, .int v1), (2, .int v2), (3, .int (s1 + (bI s0))), (4, .int (v4 + (1 : Int32)))]) (Nat.le_of_ble_eq_true rfl) [2, 3, 4, 1, 0] rfl (hk84 (s1 + (bI s0)) (v4 + (1 : Int32)) M)
set_option maxHeartbeats 4000000 in
set_option maxRecDepth 100000 in
theorem z_fX11_liesWith_b137 {p : Program} {l : Launch} {e : Env} {s : State} {m : MethodId} {args : Array Value} {below : List Frame} {meth : Method} {c : Code} {D : va_G} {cy : Nat → ClassId} {B : Nat} {kd : Nat → Nat} {n : Nat} {sa sv : Nat → Nat} (C : zC p l s m args meth c D cy B kd n sa sv RX11 cX11_liesWith 5) (ht : ∀ x ∈ c.exceptionTable.toList, False) (hr : meth.sig.returnType = some (FieldType.int)) {b0 : Int32 × Mem}  (N : Nat) (k84 : Int32 → Int32 → Mem → Option (Int32 × Mem)) (v0 : Nat) (v1 : Int32) (v2 : Int32) (v4 : Int32) (s0 : Int32) (M : Mem) (h0 : kd v0 = 11) (hk84 : ∀ (v3 : Int32) (v4 : Int32) (M : Mem), Z p l e (rmz 4 0) s m args below meth c (vx_MQ below (QcR D cy B kd n (cvI b0)) (XcR D cy B kd n (cvI b0)) args s 0 (6 * 0) (AA B kd n)) D cy B kd n 5 b0 0 84 [(0, .ref (B + v0)), (1, .int v1), (2, .int v2), (3, .int v3), (4, .int v4)] [] M (k84 v3 v4 M)) : Z p l e (rmz 4 0) s m args below meth c (vx_MQ below (QcR D cy B kd n (cvI b0)) (XcR D cy B kd n (cvI b0)) args s 0 (6 * 0) (AA B kd n)) D cy B kd n 5 b0 0 137 [(0, .ref (B + v0)), (1, .int v1), (2, .int v2), (4, .int v4)] [.int s0] M (fX11_liesWith_b137 N k84 v0 v1 v2 v4 s0 M) := by
  unfold fX11_liesWith_b137
  refine z_iconst C dX11_liesWith_137 rfl ?_
  exact z_jump (ls1 := [(0, .ref (B + v0)), (1, .int v1), (2, .int v2), (4, .int v4)]) (Nat.le_of_ble_eq_true rfl) [0, 1, 2, 3] rfl (z_fX11_liesWith_b138 C ht hr N k84 v0 v1 v2 v4 false s0 M h0 hk84)
set_option maxHeartbeats 4000000 in
set_option maxRecDepth 100000 in
theorem z_fX11_liesWith_l84_s {p : Program} {l : Launch} {e : Env} {s : State} {m : MethodId} {args : Array Value} {below : List Frame} {meth : Method} {c : Code} {D : va_G} {cy : Nat → ClassId} {B : Nat} {kd : Nat → Nat} {n : Nat} {sa sv : Nat → Nat} (C : zC p l s m args meth c D cy B kd n sa sv RX11 cX11_liesWith 5) (ht : ∀ x ∈ c.exceptionTable.toList, False) (hr : meth.sig.returnType = some (FieldType.int)) {b0 : Int32 × Mem} (N : Nat) (v0 : Nat) (v1 : Int32) (v2 : Int32) (k84 : Int32 → Int32 → Mem → Option (Int32 × Mem)) (v3 : Int32) (v4 : Int32) (M : Mem) (h0 : kd v0 = 11)  (hk84 : ∀ (v3 : Int32) (v4 : Int32) (M : Mem), Z p l e (rmz 4 0) s m args below meth c (vx_MQ below (QcR D cy B kd n (cvI b0)) (XcR D cy B kd n (cvI b0)) args s 0 (6 * 0) (AA B kd n)) D cy B kd n 5 b0 0 84 [(0, .ref (B + v0)), (1, .int v1), (2, .int v2), (3, .int v3), (4, .int v4)] [] M (k84 v3 v4 M)) : Z p l e (rmz 4 0) s m args below meth c (vx_MQ below (QcR D cy B kd n (cvI b0)) (XcR D cy B kd n (cvI b0)) args s 0 (6 * 0) (AA B kd n)) D cy B kd n 5 b0 0 84 [(0, .ref (B + v0)), (1, .int v1), (2, .int v2), (3, .int v3), (4, .int v4)] [] M (fX11_liesWith_l84_s N v0 v1 v2 k84 v3 v4 M) := by
  unfold fX11_liesWith_l84_s
  refine z_iload C 4 dX11_liesWith_84 rfl ?_
  refine z_aload_n C 0 0 dX11_liesWith_86 rfl rfl ?_
  refine z_getR (k := 0) C cl11 h0 rfl gw_7_10 rfl dX11_liesWith_87 ?_
  have j1 : kd (v0 + 1) = 36 := zkd C h0 (k := 0) rfl
  refine z_iconst C dX11_liesWith_90 rfl ?_
  refine z_iald C j1 rfl (by decide) dX11_liesWith_91 (fun j2 => ?_)
  refine z_icmp_ge C 146 dX11_liesWith_92 rfl (fun _ => ?_) (fun _ => ?_)
  · refine z_iload_n C 3 3 dX11_liesWith_146 rfl rfl ?_
    exact z_iret C hr (Nat.le_of_ble_eq_true rfl) dX11_liesWith_147 rfl
  · refine z_iload_n C 3 3 dX11_liesWith_95 rfl rfl ?_
    refine z_iload C 4 dX11_liesWith_96 rfl ?_
    refine z_iload_n C 2 2 dX11_liesWith_98 rfl rfl ?_
    refine z_icmp_eq C 137 dX11_liesWith_99 rfl (fun _ => ?_) (fun _ => ?_)
    · exact z_jump (ls1 := [(0, .ref (B + v0)), (1, .int v1), (2, .int v2), (4, .int v4)]) (Nat.le_of_ble_eq_true rfl) [0, 1, 2, 4] rfl (z_fX11_liesWith_b137 C ht hr N k84 v0 v1 v2 v4 v3 M h0 hk84)
    · refine z_aload_n C 0 0 dX11_liesWith_102 rfl rfl ?_
      refine z_iload_n C 1 1 dX11_liesWith_103 rfl rfl ?_
      refine z_iload C 4 dX11_liesWith_104 rfl ?_
      refine z_callV_pB (As := [.int v1, .int v4]) (rest := [.int v3]) C rfl (ctX11_isIn (zG_of C) v0 v1 v4 h0 M) cw_RX11_300 rfl (okM_X11_isIn) rfl cl11 h0 (okR_of rfl) (Nat.le_of_ble_eq_true rfl) dX11_liesWith_106 (fun qj3 _ => ?_)
      refine z_if_neB C 137 dX11_liesWith_109 rfl (fun _ => ?_) (fun _ => ?_)
      · exact z_jump (ls1 := [(0, .ref (B + v0)), (1, .int v1), (2, .int v2), (4, .int v4)]) (Nat.le_of_ble_eq_true rfl) [0, 1, 2, 4] rfl (z_fX11_liesWith_b137 C ht hr N k84 v0 v1 v2 v4 v3 M h0 hk84)
      · refine z_aload_n C 0 0 dX11_liesWith_112 rfl rfl ?_
        refine z_aload_n C 0 0 dX11_liesWith_113 rfl rfl ?_
        refine z_iload_n C 1 1 dX11_liesWith_114 rfl rfl ?_
        refine z_iconst C dX11_liesWith_115 rfl ?_
        refine z_callV_pI (As := [.int v1, .int (1 : Int32)]) (rest := [.ref (B + v0), .int v3]) C rfl (ctX11_get (zG_of C) v0 v1 (1 : Int32) h0 M) cw_RX11_237 rfl (okM_X11_get) rfl cl11 h0 (okR_of rfl) (Nat.le_of_ble_eq_true rfl) dX11_liesWith_116 (fun qj4 _ => ?_)
        refine z_aload_n C 0 0 dX11_liesWith_119 rfl rfl ?_
        refine z_iload_n C 1 1 dX11_liesWith_120 rfl rfl ?_
        refine z_iconst C dX11_liesWith_121 rfl ?_
        refine z_callV_pI (As := [.int v1, .int (2 : Int32)]) (rest := [.int qj4, .ref (B + v0), .int v3]) C rfl (ctX11_get (zG_of C) v0 v1 (2 : Int32) h0 M) cw_RX11_237 rfl (okM_X11_get) rfl cl11 h0 (okR_of rfl) (Nat.le_of_ble_eq_true rfl) dX11_liesWith_122 (fun qj5 _ => ?_)
        refine z_iload C 4 dX11_liesWith_125 rfl ?_
        refine z_callV_B (As := [.int qj4, .int qj5, .int v4]) (rest := [.int v3]) C rfl (ctX11_isSaid (zG_of C) N v0 qj4 qj5 v4 h0 M) cw_RX11_358 rfl (okM_X11_isSaid) rfl cl11 h0 (okR_of rfl) (Nat.le_of_ble_eq_true rfl) dX11_liesWith_127 (fun qj6 _ => ?_)
        refine z_if_eqB C 137 dX11_liesWith_130 rfl (fun _ => ?_) (fun _ => ?_)
        · refine z_iconst C dX11_liesWith_133 rfl ?_
          refine z_goto C 138 dX11_liesWith_134 rfl ?_
          exact z_jump (ls1 := [(0, .ref (B + v0)), (1, .int v1), (2, .int v2), (4, .int v4)]) (Nat.le_of_ble_eq_true rfl) [0, 1, 2, 4] rfl (z_fX11_liesWith_b138 C ht hr N k84 v0 v1 v2 v4 true v3 qj6.2 h0 hk84)
        · exact z_jump (ls1 := [(0, .ref (B + v0)), (1, .int v1), (2, .int v2), (4, .int v4)]) (Nat.le_of_ble_eq_true rfl) [0, 1, 2, 4] rfl (z_fX11_liesWith_b137 C ht hr N k84 v0 v1 v2 v4 v3 qj6.2 h0 hk84)
theorem z_fX11_liesWith_l84_i {p : Program} {l : Launch} {e : Env} {s : State} {m : MethodId} {args : Array Value} {below : List Frame} {meth : Method} {c : Code} {D : va_G} {cy : Nat → ClassId} {B : Nat} {kd : Nat → Nat} {n : Nat} {sa sv : Nat → Nat} (C : zC p l s m args meth c D cy B kd n sa sv RX11 cX11_liesWith 5) (ht : ∀ x ∈ c.exceptionTable.toList, False) (hr : meth.sig.returnType = some (FieldType.int)) {b0 : Int32 × Mem} (N : Nat) (v0 : Nat) (v1 : Int32) (v2 : Int32) (h0 : kd v0 = 11)  (fu : Nat) : ∀ (v3 : Int32) (v4 : Int32) (M : Mem), Z p l e (rmz 4 0) s m args below meth c (vx_MQ below (QcR D cy B kd n (cvI b0)) (XcR D cy B kd n (cvI b0)) args s 0 (6 * 0) (AA B kd n)) D cy B kd n 5 b0 0 84 [(0, .ref (B + v0)), (1, .int v1), (2, .int v2), (3, .int v3), (4, .int v4)] [] M (fX11_liesWith_l84 N v0 v1 v2 fu v3 v4 M) := by
  induction fu with
  | zero => intro v3 v4 M; exact z_none
  | succ fu ih => intro v3 v4 M; exact z_fX11_liesWith_l84_s C ht hr N v0 v1 v2 (fX11_liesWith_l84 N v0 v1 v2 fu) v3 v4 M h0 (fun v3 v4 M => ih v3 v4 M)
theorem z_fX11_liesWith_l84 {p : Program} {l : Launch} {e : Env} {s : State} {m : MethodId} {args : Array Value} {below : List Frame} {meth : Method} {c : Code} {D : va_G} {cy : Nat → ClassId} {B : Nat} {kd : Nat → Nat} {n : Nat} {sa sv : Nat → Nat} (C : zC p l s m args meth c D cy B kd n sa sv RX11 cX11_liesWith 5) (ht : ∀ x ∈ c.exceptionTable.toList, False) (hr : meth.sig.returnType = some (FieldType.int)) {b0 : Int32 × Mem} (N : Nat) (v0 : Nat) (v1 : Int32) (v2 : Int32) (fu : Nat) (v3 : Int32) (v4 : Int32) (M : Mem) (h0 : kd v0 = 11)  : Z p l e (rmz 4 0) s m args below meth c (vx_MQ below (QcR D cy B kd n (cvI b0)) (XcR D cy B kd n (cvI b0)) args s 0 (6 * 0) (AA B kd n)) D cy B kd n 5 b0 0 84 [(0, .ref (B + v0)), (1, .int v1), (2, .int v2), (3, .int v3), (4, .int v4)] [] M (fX11_liesWith_l84 N v0 v1 v2 fu v3 v4 M) := z_fX11_liesWith_l84_i C ht hr N v0 v1 v2 h0 fu v3 v4 M
set_option maxHeartbeats 4000000 in
set_option maxRecDepth 100000 in
theorem z_fX11_liesWith_l50_s {p : Program} {l : Launch} {e : Env} {s : State} {m : MethodId} {args : Array Value} {below : List Frame} {meth : Method} {c : Code} {D : va_G} {cy : Nat → ClassId} {B : Nat} {kd : Nat → Nat} {n : Nat} {sa sv : Nat → Nat} (C : zC p l s m args meth c D cy B kd n sa sv RX11 cX11_liesWith 5) (ht : ∀ x ∈ c.exceptionTable.toList, False) (hr : meth.sig.returnType = some (FieldType.int)) {b0 : Int32 × Mem} (N : Nat) (v0 : Nat) (v1 : Int32) (v2 : Int32) (k50 : Int32 → Mem → Option (Int32 × Mem)) (v3 : Int32) (M : Mem) (h0 : kd v0 = 11)  (hk50 : ∀ (v3 : Int32) (M : Mem), Z p l e (rmz 4 0) s m args below meth c (vx_MQ below (QcR D cy B kd n (cvI b0)) (XcR D cy B kd n (cvI b0)) args s 0 (6 * 0) (AA B kd n)) D cy B kd n 5 b0 0 50 [(0, .ref (B + v0)), (1, .int v1), (2, .int v2), (3, .int v3)] [] M (k50 v3 M)) : Z p l e (rmz 4 0) s m args below meth c (vx_MQ below (QcR D cy B kd n (cvI b0)) (XcR D cy B kd n (cvI b0)) args s 0 (6 * 0) (AA B kd n)) D cy B kd n 5 b0 0 50 [(0, .ref (B + v0)), (1, .int v1), (2, .int v2), (3, .int v3)] [] M (fX11_liesWith_l50_s N v0 v1 v2 k50 v3 M) := by
  unfold fX11_liesWith_l50_s
  refine z_iload_n C 3 3 dX11_liesWith_50 rfl rfl ?_
  refine z_aload_n C 0 0 dX11_liesWith_51 rfl rfl ?_
  refine z_iload_n C 1 1 dX11_liesWith_52 rfl rfl ?_
  refine z_iconst C dX11_liesWith_53 rfl ?_
  refine z_callV_pI (As := [.int v1, .int (2 : Int32)]) (rest := [.int v3]) C rfl (ctX11_get (zG_of C) v0 v1 (2 : Int32) h0 M) cw_RX11_237 rfl (okM_X11_get) rfl cl11 h0 (okR_of rfl) (Nat.le_of_ble_eq_true rfl) dX11_liesWith_54 (fun qj1 _ => ?_)
  refine z_icmp_ge C 79 dX11_liesWith_57 rfl (fun _ => ?_) (fun _ => ?_)
  · refine z_iconst C dX11_liesWith_79 rfl ?_
    refine z_istore_n C 3 (ls1 := [(3, .int (0 : Int32)), (0, .ref (B + v0)), (1, .int v1), (2, .int v2)]) dX11_liesWith_80 rfl (by decide) rfl ?_
    refine z_iconst C dX11_liesWith_81 rfl ?_
    refine z_istore C 4 (ls1 := [(4, .int (0 : Int32)), (3, .int (0 : Int32)), (0, .ref (B + v0)), (1, .int v1), (2, .int v2)]) dX11_liesWith_82 (by decide) rfl ?_
    exact z_jump (ls1 := [(0, .ref (B + v0)), (1, .int v1), (2, .int v2), (3, .int (0 : Int32)), (4, .int (0 : Int32))]) (Nat.le_of_ble_eq_true rfl) [2, 3, 4, 1, 0] rfl (z_fX11_liesWith_l84 C ht hr N v0 v1 v2 N (0 : Int32) (0 : Int32) M h0)
  · refine z_aload_n C 0 0 dX11_liesWith_60 rfl rfl ?_
    refine z_getR (k := 28) C cl11 h0 rfl gw_7_38 rfl dX11_liesWith_61 ?_
    have j2 : kd (v0 + 15) = 43 := zkd C h0 (k := 28) rfl
    refine z_aload_n C 0 0 dX11_liesWith_64 rfl rfl ?_
    refine z_iload_n C 1 1 dX11_liesWith_65 rfl rfl ?_
    refine z_iload_n C 3 3 dX11_liesWith_66 rfl rfl ?_
    refine z_iload_n C 2 2 dX11_liesWith_67 rfl rfl ?_
    refine z_callV_I (As := [.int v1, .int v3, .int v2]) (rest := [.ref (B + (v0 + 15))]) C rfl (ctX11_spot (zG_of C) N v0 v1 v3 v2 h0 M) cw_RX11_273 rfl (okM_X11_spot) rfl cl11 h0 (okR_of rfl) (Nat.le_of_ble_eq_true rfl) dX11_liesWith_68 (fun qj3 _ => ?_)
    refine z_iconst C dX11_liesWith_71 rfl ?_
    refine z_zast C j2 rfl (by decide) dX11_liesWith_72 (fun _ => ?_)
    refine z_iinc C 3 3 (v := v3) (v1 := (v3 + (1 : Int32))) (ls1 := [(3, .int (v3 + (1 : Int32))), (0, .ref (B + v0)), (1, .int v1), (2, .int v2)]) dX11_liesWith_73 rfl rfl (by decide) rfl ?_
    refine z_goto C 50 dX11_liesWith_76 rfl ?_
    exact z_jump (ls1 := [(0, .ref (B + v0)), (1, .int v1), (2, .int v2), (3, .int (v3 + (1 : Int32)))]) (Nat.le_of_ble_eq_true rfl) [1, 2, 3, 0] rfl (hk50 (v3 + (1 : Int32)) (wI qj3.2 (v0 + 15) qj3.1.toNatClampNeg (vp_nar .boolean (1 : Int32))))
theorem z_fX11_liesWith_l50_i {p : Program} {l : Launch} {e : Env} {s : State} {m : MethodId} {args : Array Value} {below : List Frame} {meth : Method} {c : Code} {D : va_G} {cy : Nat → ClassId} {B : Nat} {kd : Nat → Nat} {n : Nat} {sa sv : Nat → Nat} (C : zC p l s m args meth c D cy B kd n sa sv RX11 cX11_liesWith 5) (ht : ∀ x ∈ c.exceptionTable.toList, False) (hr : meth.sig.returnType = some (FieldType.int)) {b0 : Int32 × Mem} (N : Nat) (v0 : Nat) (v1 : Int32) (v2 : Int32) (h0 : kd v0 = 11)  (fu : Nat) : ∀ (v3 : Int32) (M : Mem), Z p l e (rmz 4 0) s m args below meth c (vx_MQ below (QcR D cy B kd n (cvI b0)) (XcR D cy B kd n (cvI b0)) args s 0 (6 * 0) (AA B kd n)) D cy B kd n 5 b0 0 50 [(0, .ref (B + v0)), (1, .int v1), (2, .int v2), (3, .int v3)] [] M (fX11_liesWith_l50 N v0 v1 v2 fu v3 M) := by
  induction fu with
  | zero => intro v3 M; exact z_none
  | succ fu ih => intro v3 M; exact z_fX11_liesWith_l50_s C ht hr N v0 v1 v2 (fX11_liesWith_l50 N v0 v1 v2 fu) v3 M h0 (fun v3 M => ih v3 M)
theorem z_fX11_liesWith_l50 {p : Program} {l : Launch} {e : Env} {s : State} {m : MethodId} {args : Array Value} {below : List Frame} {meth : Method} {c : Code} {D : va_G} {cy : Nat → ClassId} {B : Nat} {kd : Nat → Nat} {n : Nat} {sa sv : Nat → Nat} (C : zC p l s m args meth c D cy B kd n sa sv RX11 cX11_liesWith 5) (ht : ∀ x ∈ c.exceptionTable.toList, False) (hr : meth.sig.returnType = some (FieldType.int)) {b0 : Int32 × Mem} (N : Nat) (v0 : Nat) (v1 : Int32) (v2 : Int32) (fu : Nat) (v3 : Int32) (M : Mem) (h0 : kd v0 = 11)  : Z p l e (rmz 4 0) s m args below meth c (vx_MQ below (QcR D cy B kd n (cvI b0)) (XcR D cy B kd n (cvI b0)) args s 0 (6 * 0) (AA B kd n)) D cy B kd n 5 b0 0 50 [(0, .ref (B + v0)), (1, .int v1), (2, .int v2), (3, .int v3)] [] M (fX11_liesWith_l50 N v0 v1 v2 fu v3 M) := z_fX11_liesWith_l50_i C ht hr N v0 v1 v2 h0 fu v3 M
set_option maxHeartbeats 4000000 in
set_option maxRecDepth 100000 in
theorem z_fX11_liesWith_b41 {p : Program} {l : Launch} {e : Env} {s : State} {m : MethodId} {args : Array Value} {below : List Frame} {meth : Method} {c : Code} {D : va_G} {cy : Nat → ClassId} {B : Nat} {kd : Nat → Nat} {n : Nat} {sa sv : Nat → Nat} (C : zC p l s m args meth c D cy B kd n sa sv RX11 cX11_liesWith 5) (ht : ∀ x ∈ c.exceptionTable.toList, False) (hr : meth.sig.returnType = some (FieldType.int)) {b0 : Int32 × Mem}  (N : Nat) (k2 : Int32 → Mem → Option (Int32 × Mem)) (v0 : Nat) (v1 : Int32) (v2 : Int32) (v3 : Int32) (s0 : Bool) (s1 : Int32) (s2 : Nat) (M : Mem) (h0 : kd v0 = 11) (hs2 : kd s2 = 43) (hk2 : ∀ (v3 : Int32) (M : Mem), Z p l e (rmz 4 0) s m args below meth c (vx_MQ below (QcR D cy B kd n (cvI b0)) (XcR D cy B kd n (cvI b0)) args s 0 (6 * 0) (AA B kd n)) D cy B kd n 5 b0 0 2 [(0, .ref (B + v0)), (1, .int v1), (2, .int v2), (3, .int v3)] [] M (k2 v3 M)) : Z p l e (rmz 4 0) s m args below meth c (vx_MQ below (QcR D cy B kd n (cvI b0)) (XcR D cy B kd n (cvI b0)) args s 0 (6 * 0) (AA B kd n)) D cy B kd n 5 b0 0 41 [(0, .ref (B + v0)), (1, .int v1), (2, .int v2), (3, .int v3)] [.int (bI s0), .int s1, .ref (B + s2)] M (fX11_liesWith_b41 N k2 v0 v1 v2 v3 s0 s1 s2 M) := by
  unfold fX11_liesWith_b41
  refine z_zast C hs2 rfl (by decide) dX11_liesWith_41 (fun _ => ?_)
  refine z_iinc C 3 3 (v := v3) (v1 := (v3 + (1 : Int32))) (ls1 := [(3, .int (v3 + (1 : Int32))), (0, .ref (B + v0)), (1, .int v1), (2, .int v2)]) dX11_liesWith_42 rfl rfl (by decide) rfl ?_
  refine z_goto C 2 dX11_liesWith_45 rfl ?_
  exact z_jump (ls1 := [(0, .ref (B + v0)), (1, .int v1), (2, .int v2), (3, .int (v3 + (1 : Int32)))]) (Nat.le_of_ble_eq_true rfl) [1, 2, 3, 0] rfl (hk2 (v3 + (1 : Int32)) (wI M s2 s1.toNatClampNeg (vp_nar .boolean (bI s0))))
set_option maxHeartbeats 4000000 in
set_option maxRecDepth 100000 in
theorem z_fX11_liesWith_b40 {p : Program} {l : Launch} {e : Env} {s : State} {m : MethodId} {args : Array Value} {below : List Frame} {meth : Method} {c : Code} {D : va_G} {cy : Nat → ClassId} {B : Nat} {kd : Nat → Nat} {n : Nat} {sa sv : Nat → Nat} (C : zC p l s m args meth c D cy B kd n sa sv RX11 cX11_liesWith 5) (ht : ∀ x ∈ c.exceptionTable.toList, False) (hr : meth.sig.returnType = some (FieldType.int)) {b0 : Int32 × Mem}  (N : Nat) (k2 : Int32 → Mem → Option (Int32 × Mem)) (v0 : Nat) (v1 : Int32) (v2 : Int32) (v3 : Int32) (s0 : Int32) (s1 : Nat) (M : Mem) (h0 : kd v0 = 11) (hs1 : kd s1 = 43) (hk2 : ∀ (v3 : Int32) (M : Mem), Z p l e (rmz 4 0) s m args below meth c (vx_MQ below (QcR D cy B kd n (cvI b0)) (XcR D cy B kd n (cvI b0)) args s 0 (6 * 0) (AA B kd n)) D cy B kd n 5 b0 0 2 [(0, .ref (B + v0)), (1, .int v1), (2, .int v2), (3, .int v3)] [] M (k2 v3 M)) : Z p l e (rmz 4 0) s m args below meth c (vx_MQ below (QcR D cy B kd n (cvI b0)) (XcR D cy B kd n (cvI b0)) args s 0 (6 * 0) (AA B kd n)) D cy B kd n 5 b0 0 40 [(0, .ref (B + v0)), (1, .int v1), (2, .int v2), (3, .int v3)] [.int s0, .ref (B + s1)] M (fX11_liesWith_b40 N k2 v0 v1 v2 v3 s0 s1 M) := by
  unfold fX11_liesWith_b40
  refine z_iconst C dX11_liesWith_40 rfl ?_
  exact z_jump (ls1 := [(0, .ref (B + v0)), (1, .int v1), (2, .int v2), (3, .int v3)]) (Nat.le_of_ble_eq_true rfl) [0, 1, 2, 3] rfl (z_fX11_liesWith_b41 C ht hr N k2 v0 v1 v2 v3 false s0 s1 M h0 hs1 hk2)
set_option maxHeartbeats 4000000 in
set_option maxRecDepth 100000 in
theorem z_fX11_liesWith_l2_s {p : Program} {l : Launch} {e : Env} {s : State} {m : MethodId} {args : Array Value} {below : List Frame} {meth : Method} {c : Code} {D : va_G} {cy : Nat → ClassId} {B : Nat} {kd : Nat → Nat} {n : Nat} {sa sv : Nat → Nat} (C : zC p l s m args meth c D cy B kd n sa sv RX11 cX11_liesWith 5) (ht : ∀ x ∈ c.exceptionTable.toList, False) (hr : meth.sig.returnType = some (FieldType.int)) {b0 : Int32 × Mem} (N : Nat) (v0 : Nat) (v1 : Int32) (v2 : Int32) (k2 : Int32 → Mem → Option (Int32 × Mem)) (v3 : Int32) (M : Mem) (h0 : kd v0 = 11)  (hk2 : ∀ (v3 : Int32) (M : Mem), Z p l e (rmz 4 0) s m args below meth c (vx_MQ below (QcR D cy B kd n (cvI b0)) (XcR D cy B kd n (cvI b0)) args s 0 (6 * 0) (AA B kd n)) D cy B kd n 5 b0 0 2 [(0, .ref (B + v0)), (1, .int v1), (2, .int v2), (3, .int v3)] [] M (k2 v3 M)) : Z p l e (rmz 4 0) s m args below meth c (vx_MQ below (QcR D cy B kd n (cvI b0)) (XcR D cy B kd n (cvI b0)) args s 0 (6 * 0) (AA B kd n)) D cy B kd n 5 b0 0 2 [(0, .ref (B + v0)), (1, .int v1), (2, .int v2), (3, .int v3)] [] M (fX11_liesWith_l2_s N v0 v1 v2 k2 v3 M) := by
  unfold fX11_liesWith_l2_s
  refine z_iload_n C 3 3 dX11_liesWith_2 rfl rfl ?_
  refine z_bipush (v := 64) C dX11_liesWith_3 rfl ?_
  refine z_icmp_ge C 48 dX11_liesWith_5 rfl (fun _ => ?_) (fun _ => ?_)
  · refine z_iconst C dX11_liesWith_48 rfl ?_
    refine z_istore_n C 3 (ls1 := [(3, .int (0 : Int32)), (0, .ref (B + v0)), (1, .int v1), (2, .int v2)]) dX11_liesWith_49 rfl (by decide) rfl ?_
    exact z_jump (ls1 := [(0, .ref (B + v0)), (1, .int v1), (2, .int v2), (3, .int (0 : Int32))]) (Nat.le_of_ble_eq_true rfl) [1, 2, 3, 0] rfl (z_fX11_liesWith_l50 C ht hr N v0 v1 v2 N (0 : Int32) M h0)
  · refine z_aload_n C 0 0 dX11_liesWith_8 rfl rfl ?_
    refine z_getR (k := 28) C cl11 h0 rfl gw_7_38 rfl dX11_liesWith_9 ?_
    have j1 : kd (v0 + 15) = 43 := zkd C h0 (k := 28) rfl
    refine z_iload_n C 3 3 dX11_liesWith_12 rfl rfl ?_
    refine z_iload_n C 3 3 dX11_liesWith_13 rfl rfl ?_
    refine z_aload_n C 0 0 dX11_liesWith_14 rfl rfl ?_
    refine z_iload_n C 1 1 dX11_liesWith_15 rfl rfl ?_
    refine z_iconst C dX11_liesWith_16 rfl ?_
    refine z_callV_pI (As := [.int v1, .int (1 : Int32)]) (rest := [.int v3, .int v3, .ref (B + (v0 + 15))]) C rfl (ctX11_get (zG_of C) v0 v1 (1 : Int32) h0 M) cw_RX11_237 rfl (okM_X11_get) rfl cl11 h0 (okR_of rfl) (Nat.le_of_ble_eq_true rfl) dX11_liesWith_17 (fun qj2 _ => ?_)
    refine z_icmp_ge C 40 dX11_liesWith_20 rfl (fun _ => ?_) (fun _ => ?_)
    · exact z_jump (ls1 := [(0, .ref (B + v0)), (1, .int v1), (2, .int v2), (3, .int v3)]) (Nat.le_of_ble_eq_true rfl) [0, 1, 2, 3] rfl (z_fX11_liesWith_b40 C ht hr N k2 v0 v1 v2 v3 v3 (v0 + 15) M h0 j1 hk2)
    · refine z_aload_n C 0 0 dX11_liesWith_23 rfl rfl ?_
      refine z_iload_n C 1 1 dX11_liesWith_24 rfl rfl ?_
      refine z_bipush (v := 10) C dX11_liesWith_25 rfl ?_
      refine z_iload_n C 3 3 dX11_liesWith_27 rfl rfl ?_
      refine z_iadd C dX11_liesWith_28 ?_
      refine z_callV_pI (As := [.int v1, .int ((10 : Int32) + v3)]) (rest := [.int v3, .ref (B + (v0 + 15))]) C rfl (ctX11_get (zG_of C) v0 v1 ((10 : Int32) + v3) h0 M) cw_RX11_237 rfl (okM_X11_get) rfl cl11 h0 (okR_of rfl) (Nat.le_of_ble_eq_true rfl) dX11_liesWith_29 (fun qj3 _ => ?_)
      refine z_iconst C dX11_liesWith_32 rfl ?_
      refine z_icmp_ne C 40 dX11_liesWith_33 rfl (fun _ => ?_) (fun _ => ?_)
      · refine z_iconst C dX11_liesWith_36 rfl ?_
        refine z_goto C 41 dX11_liesWith_37 rfl ?_
        exact z_jump (ls1 := [(0, .ref (B + v0)), (1, .int v1), (2, .int v2), (3, .int v3)]) (Nat.le_of_ble_eq_true rfl) [0, 1, 2, 3] rfl (z_fX11_liesWith_b41 C ht hr N k2 v0 v1 v2 v3 true v3 (v0 + 15) M h0 j1 hk2)
      · exact z_jump (ls1 := [(0, .ref (B + v0)), (1, .int v1), (2, .int v2), (3, .int v3)]) (Nat.le_of_ble_eq_true rfl) [0, 1, 2, 3] rfl (z_fX11_liesWith_b40 C ht hr N k2 v0 v1 v2 v3 v3 (v0 + 15) M h0 j1 hk2)
theorem z_fX11_liesWith_l2_i {p : Program} {l : Launch} {e : Env} {s : State} {m : MethodId} {args : Array Value} {below : List Frame} {meth : Method} {c : Code} {D : va_G} {cy : Nat → ClassId} {B : Nat} {kd : Nat → Nat} {n : Nat} {sa sv : Nat → Nat} (C : zC p l s m args meth c D cy B kd n sa sv RX11 cX11_liesWith 5) (ht : ∀ x ∈ c.exceptionTable.toList, False) (hr : meth.sig.returnType = some (FieldType.int)) {b0 : Int32 × Mem} (N : Nat) (v0 : Nat) (v1 : Int32) (v2 : Int32) (h0 : kd v0 = 11)  (fu : Nat) : ∀ (v3 : Int32) (M : Mem), Z p l e (rmz 4 0) s m args below meth c (vx_MQ below (QcR D cy B kd n (cvI b0)) (XcR D cy B kd n (cvI b0)) args s 0 (6 * 0) (AA B kd n)) D cy B kd n 5 b0 0 2 [(0, .ref (B + v0)), (1, .int v1), (2, .int v2), (3, .int v3)] [] M (fX11_liesWith_l2 N v0 v1 v2 fu v3 M) := by
  induction fu with
  | zero => intro v3 M; exact z_none
  | succ fu ih => intro v3 M; exact z_fX11_liesWith_l2_s C ht hr N v0 v1 v2 (fX11_liesWith_l2 N v0 v1 v2 fu) v3 M h0 (fun v3 M => ih v3 M)
theorem z_fX11_liesWith_l2 {p : Program} {l : Launch} {e : Env} {s : State} {m : MethodId} {args : Array Value} {below : List Frame} {meth : Method} {c : Code} {D : va_G} {cy : Nat → ClassId} {B : Nat} {kd : Nat → Nat} {n : Nat} {sa sv : Nat → Nat} (C : zC p l s m args meth c D cy B kd n sa sv RX11 cX11_liesWith 5) (ht : ∀ x ∈ c.exceptionTable.toList, False) (hr : meth.sig.returnType = some (FieldType.int)) {b0 : Int32 × Mem} (N : Nat) (v0 : Nat) (v1 : Int32) (v2 : Int32) (fu : Nat) (v3 : Int32) (M : Mem) (h0 : kd v0 = 11)  : Z p l e (rmz 4 0) s m args below meth c (vx_MQ below (QcR D cy B kd n (cvI b0)) (XcR D cy B kd n (cvI b0)) args s 0 (6 * 0) (AA B kd n)) D cy B kd n 5 b0 0 2 [(0, .ref (B + v0)), (1, .int v1), (2, .int v2), (3, .int v3)] [] M (fX11_liesWith_l2 N v0 v1 v2 fu v3 M) := z_fX11_liesWith_l2_i C ht hr N v0 v1 v2 h0 fu v3 M
set_option maxHeartbeats 4000000 in
set_option maxRecDepth 100000 in
theorem ctX11_liesWith {l : Launch} {D : va_G} {cy : Nat → ClassId} {B : Nat} {kd : Nat → Nat} {n : Nat} {sa sv : Nat → Nat} (G : zG l kd n) (N : Nat) (v0 : Nat) (v1 : Int32) (v2 : Int32) (h0 : kd v0 = 11) (M : Mem) : CT l D cy B kd n sa sv 4 0 yX11_liesWith cX11_liesWith 5 (some (FieldType.int)) cvI [.ref (B + v0), .int v1, .int v2] M (fX11_liesWith N v0 v1 v2 M) := by
  refine ct_of (by decide) G.1 G.2 (Nat.le_of_ble_eq_true rfl) (ls := [(0, .ref (B + v0)), (1, .int v1), (2, .int v2)]) rfl ?_
  intro p e s m args below meth c b0 C ht hr
  unfold fX11_liesWith
  refine z_iconst C dX11_liesWith_0 rfl ?_
  refine z_istore_n C 3 (ls1 := [(3, .int (0 : Int32)), (0, .ref (B + v0)), (1, .int v1), (2, .int v2)]) dX11_liesWith_1 rfl (by decide) rfl ?_
  exact z_jump (ls1 := [(0, .ref (B + v0)), (1, .int v1), (2, .int v2), (3, .int (0 : Int32))]) (Nat.le_of_ble_eq_true rfl) [1, 2, 3, 0] rfl (z_fX11_liesWith_l2 C ht hr N v0 v1 v2 N (0 : Int32) M h0)
set_option maxHeartbeats 4000000 in
set_option maxRecDepth 100000 in
theorem z_fX11_worst_b111 {p : Program} {l : Launch} {e : Env} {s : State} {m : MethodId} {args : Array Value} {below : List Frame} {meth : Method} {c : Code} {D : va_G} {cy : Nat → ClassId} {B : Nat} {kd : Nat → Nat} {n : Nat} {sa sv : Nat → Nat} (C : zC p l s m args meth c D cy B kd n sa sv RX11 cX11_worst 7) (ht : ∀ x ∈ c.exceptionTable.toList, False) (hr : meth.sig.returnType = some (FieldType.int)) {b0 : Int32 × Mem}  (N : Nat) (k61 : Int32 → Int32 → Int32 → Mem → Option (Int32 × Mem)) (v0 : Nat) (v1 : Int32) (v2 : Int32) (v3 : Int32) (v4 : Int32) (v5 : Int32) (M : Mem) (h0 : kd v0 = 11) (hk61 : ∀ (v3 : Int32) (v4 : Int32) (v5 : Int32) (M : Mem), Z p l e (rmz 5 0) s m args below meth c (vx_MQ below (QcR D cy B kd n (cvI b0)) (XcR D cy B kd n (cvI b0)) args s 0 (6 * 0) (AA B kd n)) D cy B kd n 7 b0 0 61 [(0, .ref (B + v0)), (1, .int v1), (2, .int v2), (3, .int v3), (4, .int v4), (5, .int v5)] [] M (k61 v3 v4 v5 M)) : Z p l e (rmz 5 0) s m args below meth c (vx_MQ below (QcR D cy B kd n (cvI b0)) (XcR D cy B kd n (cvI b0)) args s 0 (6 * 0) (AA B kd n)) D cy B kd n 7 b0 0 111 [(0, .ref (B + v0)), (1, .int v1), (2, .int v2), (3, .int v3), (4, .int v4), (5, .int v5)] [] M (fX11_worst_b111 N k61 v0 v1 v2 v3 v4 v5 M) := by
  unfold fX11_worst_b111
  refine z_iinc C 5 5 (v := v5) (v1 := (v5 + (1 : Int32))) (ls1 := [(5, .int (v5 + (1 : Int32))), (0, .ref (B + v0)), (1, .int v1), (2, .int v2), (3, .int v3), (4, .int v4)]) dX11_worst_111 rfl rfl (by decide) rfl ?_
  refine z_goto C 61 dX11_worst_114 rfl ?_
  exact z_jump (ls1 := [(0, .ref (B + v0)), (1, .int v1), (2, .int v2), (3, .int v3), (4, .int v4), (5, .int (v5 + (1 : Int32)))]) (Nat.le_of_ble_eq_true rfl) [1, 2, 3, 4, 5, 0] rfl (hk61 v3 v4 (v5 + (1 : Int32)) M)
set_option maxHeartbeats 4000000 in
set_option maxRecDepth 100000 in
theorem z_fX11_worst_l61_s {p : Program} {l : Launch} {e : Env} {s : State} {m : MethodId} {args : Array Value} {below : List Frame} {meth : Method} {c : Code} {D : va_G} {cy : Nat → ClassId} {B : Nat} {kd : Nat → Nat} {n : Nat} {sa sv : Nat → Nat} (C : zC p l s m args meth c D cy B kd n sa sv RX11 cX11_worst 7) (ht : ∀ x ∈ c.exceptionTable.toList, False) (hr : meth.sig.returnType = some (FieldType.int)) {b0 : Int32 × Mem} (N : Nat) (v0 : Nat) (v1 : Int32) (v2 : Int32) (k61 : Int32 → Int32 → Int32 → Mem → Option (Int32 × Mem)) (v3 : Int32) (v4 : Int32) (v5 : Int32) (M : Mem) (h0 : kd v0 = 11)  (hk61 : ∀ (v3 : Int32) (v4 : Int32) (v5 : Int32) (M : Mem), Z p l e (rmz 5 0) s m args below meth c (vx_MQ below (QcR D cy B kd n (cvI b0)) (XcR D cy B kd n (cvI b0)) args s 0 (6 * 0) (AA B kd n)) D cy B kd n 7 b0 0 61 [(0, .ref (B + v0)), (1, .int v1), (2, .int v2), (3, .int v3), (4, .int v4), (5, .int v5)] [] M (k61 v3 v4 v5 M)) : Z p l e (rmz 5 0) s m args below meth c (vx_MQ below (QcR D cy B kd n (cvI b0)) (XcR D cy B kd n (cvI b0)) args s 0 (6 * 0) (AA B kd n)) D cy B kd n 7 b0 0 61 [(0, .ref (B + v0)), (1, .int v1), (2, .int v2), (3, .int v3), (4, .int v4), (5, .int v5)] [] M (fX11_worst_l61_s N v0 v1 v2 k61 v3 v4 v5 M) := by
  unfold fX11_worst_l61_s
  refine z_iload C 5 dX11_worst_61 rfl ?_
  refine z_aload_n C 0 0 dX11_worst_63 rfl rfl ?_
  refine z_getR (k := 0) C cl11 h0 rfl gw_7_10 rfl dX11_worst_64 ?_
  have j1 : kd (v0 + 1) = 36 := zkd C h0 (k := 0) rfl
  refine z_iconst C dX11_worst_67 rfl ?_
  refine z_iald C j1 rfl (by decide) dX11_worst_68 (fun j2 => ?_)
  refine z_icmp_ge C 117 dX11_worst_69 rfl (fun _ => ?_) (fun _ => ?_)
  · refine z_iload_n C 2 2 dX11_worst_117 rfl rfl ?_
    refine z_if_ne C 125 dX11_worst_118 rfl (fun _ => ?_) (fun _ => ?_)
    · refine z_iload_n C 3 3 dX11_worst_121 rfl rfl ?_
      refine z_goto C 127 dX11_worst_122 rfl ?_
      exact z_iret C hr (Nat.le_of_ble_eq_true rfl) dX11_worst_127 rfl
    · refine z_iload C 4 dX11_worst_125 rfl ?_
      exact z_iret C hr (Nat.le_of_ble_eq_true rfl) dX11_worst_127 rfl
  · refine z_aload_n C 0 0 dX11_worst_72 rfl rfl ?_
    refine z_iload_n C 1 1 dX11_worst_73 rfl rfl ?_
    refine z_iload C 5 dX11_worst_74 rfl ?_
    refine z_callV_pB (As := [.int v1, .int v5]) (rest := []) C rfl (ctX11_isIn (zG_of C) v0 v1 v5 h0 M) cw_RX11_300 rfl (okM_X11_isIn) rfl cl11 h0 (okR_of rfl) (Nat.le_of_ble_eq_true rfl) dX11_worst_76 (fun qj3 _ => ?_)
    refine z_if_eqB C 85 dX11_worst_79 rfl (fun _ => ?_) (fun _ => ?_)
    · refine z_goto C 111 dX11_worst_82 rfl ?_
      exact z_jump (ls1 := [(0, .ref (B + v0)), (1, .int v1), (2, .int v2), (3, .int v3), (4, .int v4), (5, .int v5)]) (Nat.le_of_ble_eq_true rfl) [0, 1, 2, 3, 4, 5] rfl (z_fX11_worst_b111 C ht hr N k61 v0 v1 v2 v3 v4 v5 M h0 hk61)
    · refine z_aload_n C 0 0 dX11_worst_85 rfl rfl ?_
      refine z_iload_n C 1 1 dX11_worst_86 rfl rfl ?_
      refine z_iload C 5 dX11_worst_87 rfl ?_
      refine z_callV_I (As := [.int v1, .int v5]) (rest := []) C rfl (ctX11_liesWith (zG_of C) N v0 v1 v5 h0 M) cw_RX11_370 rfl (okM_X11_liesWith) rfl cl11 h0 (okR_of rfl) (Nat.le_of_ble_eq_true rfl) dX11_worst_89 (fun qj4 _ => ?_)
      refine z_istore C 6 (ls1 := [(6, .int qj4.1), (0, .ref (B + v0)), (1, .int v1), (2, .int v2), (3, .int v3), (4, .int v4), (5, .int v5)]) dX11_worst_92 (by decide) rfl ?_
      refine z_iload C 0 dX11_worst_94 rfl ?_
      refine z_iload C 5 dX11_worst_96 rfl ?_
      refine z_icmp_gt C 104 dX11_worst_98 rfl (fun _ => ?_) (fun _ => ?_)
      · refine z_iload C 0 dX11_worst_104 rfl ?_
        refine z_istore C 4 (ls1 := [(4, .int qj4.1), (6, .int qj4.1), (0, .ref (B + v0)), (1, .int v1), (2, .int v2), (3, .int v3), (5, .int v5)]) dX11_worst_106 (by decide) rfl ?_
        refine z_iload C 6 dX11_worst_108 rfl ?_
        refine z_istore_n C 3 (ls1 := [(3, .int v5), (4, .int qj4.1), (6, .int qj4.1), (0, .ref (B + v0)), (1, .int v1), (2, .int v2), (5, .int v5)]) dX11_worst_110 rfl (by decide) rfl ?_
        exact z_jump (ls1 := [(0, .ref (B + v0)), (1, .int v1), (2, .int v2), (3, .int v5), (4, .int qj4.1), (5, .int v5)]) (Nat.le_of_ble_eq_true rfl) [3, 4, 5, 0, 1, 6] rfl (z_fX11_worst_b111 C ht hr N k61 v0 v1 v2 v5 qj4.1 v5 qj4.2 h0 hk61)
      · refine z_goto C 111 dX11_worst_101 rfl ?_
        exact z_jump (ls1 := [(0, .ref (B + v0)), (1, .int v1), (2, .int v2), (3, .int v3), (4, .int v4), (5, .int v5)]) (Nat.le_of_ble_eq_true rfl) [1, 2, 3, 4, 5, 6] rfl (z_fX11_worst_b111 C ht hr N k61 v0 v1 v2 v3 v4 v5 qj4.2 h0 hk61)
theorem z_fX11_worst_l61_i {p : Program} {l : Launch} {e : Env} {s : State} {m : MethodId} {args : Array Value} {below : List Frame} {meth : Method} {c : Code} {D : va_G} {cy : Nat → ClassId} {B : Nat} {kd : Nat → Nat} {n : Nat} {sa sv : Nat → Nat} (C : zC p l s m args meth c D cy B kd n sa sv RX11 cX11_worst 7) (ht : ∀ x ∈ c.exceptionTable.toList, False) (hr : meth.sig.returnType = some (FieldType.int)) {b0 : Int32 × Mem} (N : Nat) (v0 : Nat) (v1 : Int32) (v2 : Int32) (h0 : kd v0 = 11)  (fu : Nat) : ∀ (v3 : Int32) (v4 : Int32) (v5 : Int32) (M : Mem), Z p l e (rmz 5 0) s m args below meth c (vx_MQ below (QcR D cy B kd n (cvI b0)) (XcR D cy B kd n (cvI b0)) args s 0 (6 * 0) (AA B kd n)) D cy B kd n 7 b0 0 61 [(0, .ref (B + v0)), (1, .int v1), (2, .int v2), (3, .int v3), (4, .int v4), (5, .int v5)] [] M (fX11_worst_l61 N v0 v1 v2 fu v3 v4 v5 M) := by
  induction fu with
  | zero => intro v3 v4 v5 M; exact z_none
  | succ fu ih => intro v3 v4 v5 M; exact z_fX11_worst_l61_s C ht hr N v0 v1 v2 (fX11_worst_l61 N v0 v1 v2 fu) v3 v4 v5 M h0 (fun v3 v4 v5 M => ih v3 v4 v5 M)
theorem z_fX11_worst_l61 {p : Program} {l : Launch} {e : Env} {s : State} {m : MethodId} {args : Array Value} {below : List Frame} {meth : Method} {c : Code} {D : va_G} {cy : Nat → ClassId} {B : Nat} {kd : Nat → Nat} {n : Nat} {sa sv : Nat → Nat} (C : zC p l s m args meth c D cy B kd n sa sv RX11 cX11_worst 7) (ht : ∀ x ∈ c.exceptionTable.toList, False) (hr : meth.sig.returnType = some (FieldType.int)) {b0 : Int32 × Mem} (N : Nat) (v0 : Nat) (v1 : Int32) (v2 : Int32) (fu : Nat) (v3 : Int32) (v4 : Int32) (v5 : Int32) (M : Mem) (h0 : kd v0 = 11)  : Z p l e (rmz 5 0) s m args below meth c (vx_MQ below (QcR D cy B kd n (cvI b0)) (XcR D cy B kd n (cvI b0)) args s 0 (6 * 0) (AA B kd n)) D cy B kd n 7 b0 0 61 [(0, .ref (B + v0)), (1, .int v1), (2, .int v2), (3, .int v3), (4, .int v4), (5, .int v5)] [] M (fX11_worst_l61 N v0 v1 v2 fu v3 v4 v5 M) := z_fX11_worst_l61_i C ht hr N v0 v1 v2 h0 fu v3 v4 v5 M
set_option maxHeartbeats 4000000 in
set_option maxRecDepth 100000 in
theorem z_fX11_worst_b41 {p : Program} {l : Launch} {e : Env} {s : State} {m : MethodId} {args : Array Value} {below : List Frame} {meth : Method} {c : Code} {D : va_G} {cy : Nat → ClassId} {B : Nat} {kd : Nat → Nat} {n : Nat} {sa sv : Nat → Nat} (C : zC p l s m args meth c D cy B kd n sa sv RX11 cX11_worst 7) (ht : ∀ x ∈ c.exceptionTable.toList, False) (hr : meth.sig.returnType = some (FieldType.int)) {b0 : Int32 × Mem}  (N : Nat) (v0 : Nat) (v1 : Int32) (v2 : Int32) (s0 : Int32) (s1 : Nat) (M : Mem) (h0 : kd v0 = 11) (hs1 : kd s1 = 11)  : Z p l e (rmz 5 0) s m args below meth c (vx_MQ below (QcR D cy B kd n (cvI b0)) (XcR D cy B kd n (cvI b0)) args s 0 (6 * 0) (AA B kd n)) D cy B kd n 7 b0 0 41 [(0, .ref (B + v0)), (1, .int v1), (2, .int v2)] [.int s0, .ref (B + s1)] M (fX11_worst_b41 N v0 v1 v2 s0 s1 M) := by
  unfold fX11_worst_b41
  refine z_putI (k := 5) C cl11 hs1 rfl gw_7_15 rfl rfl rfl dX11_worst_41 ?_
  refine z_aload_n C 0 0 dX11_worst_44 rfl rfl ?_
  refine z_getI (k := 5) C cl11 h0 rfl gw_7_15 rfl dX11_worst_45 ?_
  refine z_if_le C 53 dX11_worst_48 rfl (fun _ => ?_) (fun _ => ?_)
  · refine z_iconst C dX11_worst_53 rfl ?_
    refine z_istore_n C 3 (ls1 := [(3, .int (-1 : Int32)), (0, .ref (B + v0)), (1, .int v1), (2, .int v2)]) dX11_worst_54 rfl (by decide) rfl ?_
    refine z_iconst C dX11_worst_55 rfl ?_
    refine z_istore C 4 (ls1 := [(4, .int (-1 : Int32)), (3, .int (-1 : Int32)), (0, .ref (B + v0)), (1, .int v1), (2, .int v2)]) dX11_worst_56 (by decide) rfl ?_
    refine z_iconst C dX11_worst_58 rfl ?_
    refine z_istore C 5 (ls1 := [(5, .int (0 : Int32)), (4, .int (-1 : Int32)), (3, .int (-1 : Int32)), (0, .ref (B + v0)), (1, .int v1), (2, .int v2)]) dX11_worst_59 (by decide) rfl ?_
    exact z_jump (ls1 := [(0, .ref (B + v0)), (1, .int v1), (2, .int v2), (3, .int (-1 : Int32)), (4, .int (-1 : Int32)), (5, .int (0 : Int32))]) (Nat.le_of_ble_eq_true rfl) [3, 4, 5, 2, 1, 0] rfl (z_fX11_worst_l61 C ht hr N v0 v1 v2 N (-1 : Int32) (-1 : Int32) (0 : Int32) (wI M s1 5 s0) h0)
  · refine z_iconst C dX11_worst_51 rfl ?_
    exact z_iret C hr (Nat.le_of_ble_eq_true rfl) dX11_worst_52 rfl
set_option maxHeartbeats 4000000 in
set_option maxRecDepth 100000 in
theorem ctX11_worst {l : Launch} {D : va_G} {cy : Nat → ClassId} {B : Nat} {kd : Nat → Nat} {n : Nat} {sa sv : Nat → Nat} (G : zG l kd n) (N : Nat) (v0 : Nat) (v1 : Int32) (v2 : Int32) (h0 : kd v0 = 11) (M : Mem) : CT l D cy B kd n sa sv 5 0 yX11_worst cX11_worst 7 (some (FieldType.int)) cvI [.ref (B + v0), .int v1, .int v2] M (fX11_worst N v0 v1 v2 M) := by
  refine ct_of (by decide) G.1 G.2 (Nat.le_of_ble_eq_true rfl) (ls := [(0, .ref (B + v0)), (1, .int v1), (2, .int v2)]) rfl ?_
  intro p e s m args below meth c b0 C ht hr
  unfold fX11_worst
  refine z_aload_n C 0 0 dX11_worst_0 rfl rfl ?_
  refine z_aload_n C 0 0 dX11_worst_1 rfl rfl ?_
  refine z_iload_n C 1 1 dX11_worst_2 rfl rfl ?_
  refine z_callV_pB (As := [.int v1]) (rest := [.ref (B + v0)]) C rfl (ctX11_isRow (zG_of C) v0 v1 h0 M) cw_RX11_256 rfl (okM_X11_isRow) rfl cl11 h0 (okR_of rfl) (Nat.le_of_ble_eq_true rfl) dX11_worst_3 (fun qj1 _ => ?_)
  refine z_if_neB C 13 dX11_worst_6 rfl (fun _ => ?_) (fun _ => ?_)
  · refine z_aload_n C 0 0 dX11_worst_13 rfl rfl ?_
    refine z_iload_n C 1 1 dX11_worst_14 rfl rfl ?_
    refine z_iconst C dX11_worst_15 rfl ?_
    refine z_callV_pI (As := [.int v1, .int (0 : Int32)]) (rest := [.ref (B + v0)]) C rfl (ctX11_get (zG_of C) v0 v1 (0 : Int32) h0 M) cw_RX11_237 rfl (okM_X11_get) rfl cl11 h0 (okR_of rfl) (Nat.le_of_ble_eq_true rfl) dX11_worst_16 (fun qj2 _ => ?_)
    refine z_if_eq C 26 dX11_worst_19 rfl (fun _ => ?_) (fun _ => ?_)
    · refine z_iload_n C 2 2 dX11_worst_26 rfl rfl ?_
      refine z_i2l C dX11_worst_27 ?_
      refine z_lconst (v := 0) C dX11_worst_28 rfl ?_
      refine z_lconst (v := 1) C dX11_worst_29 rfl ?_
      refine z_callS_pB (As := [.long v2.toInt64, .long (0 : Int64), .long (1 : Int64)]) (rest := [.ref (B + v0)]) C rfl (ctX11_within (zG_of C) v2.toInt64 (0 : Int64) (1 : Int64) M) cw_RX11_157 (okM_X11_within) rfl (okR_of rfl) (Nat.le_of_ble_eq_true rfl) dX11_worst_30 (fun qj3 _ => ?_)
      refine z_if_eqB C 40 dX11_worst_33 rfl (fun _ => ?_) (fun _ => ?_)
      · refine z_iconst C dX11_worst_36 rfl ?_
        refine z_goto C 41 dX11_worst_37 rfl ?_
        exact z_jump (ls1 := [(0, .ref (B + v0)), (1, .int v1), (2, .int v2)]) (Nat.le_of_ble_eq_true rfl) [0, 1, 2] rfl (z_fX11_worst_b41 C ht hr N v0 v1 v2 (0 : Int32) v0 M h0 h0)
      · refine z_iconst C dX11_worst_40 rfl ?_
        exact z_jump (ls1 := [(0, .ref (B + v0)), (1, .int v1), (2, .int v2)]) (Nat.le_of_ble_eq_true rfl) [0, 1, 2] rfl (z_fX11_worst_b41 C ht hr N v0 v1 v2 (3 : Int32) v0 M h0 h0)
    · refine z_iconst C dX11_worst_22 rfl ?_
      refine z_goto C 41 dX11_worst_23 rfl ?_
      exact z_jump (ls1 := [(0, .ref (B + v0)), (1, .int v1), (2, .int v2)]) (Nat.le_of_ble_eq_true rfl) [0, 1, 2] rfl (z_fX11_worst_b41 C ht hr N v0 v1 v2 (2 : Int32) v0 M h0 h0)
  · refine z_iconst C dX11_worst_9 rfl ?_
    refine z_goto C 41 dX11_worst_10 rfl ?_
    exact z_jump (ls1 := [(0, .ref (B + v0)), (1, .int v1), (2, .int v2)]) (Nat.le_of_ble_eq_true rfl) [0, 1, 2] rfl (z_fX11_worst_b41 C ht hr N v0 v1 v2 (1 : Int32) v0 M h0 h0)
set_option maxHeartbeats 4000000 in
set_option maxRecDepth 100000 in
theorem z_fX11_blame_b242 {p : Program} {l : Launch} {e : Env} {s : State} {m : MethodId} {args : Array Value} {below : List Frame} {meth : Method} {c : Code} {D : va_G} {cy : Nat → ClassId} {B : Nat} {kd : Nat → Nat} {n : Nat} {sa sv : Nat → Nat} (C : zC p l s m args meth c D cy B kd n sa sv RX11 cX11_blame 8) (ht : ∀ x ∈ c.exceptionTable.toList, False) (hr : meth.sig.returnType = some (FieldType.int)) {b0 : Int32 × Mem}  (N : Nat) (k98 : Int32 → Mem → Option (Int32 × Mem)) (v0 : Nat) (v1 : Int32) (v2 : Int32) (v3 : Int32) (v4 : Int32) (M : Mem) (h0 : kd v0 = 11) (hk98 : ∀ (v4 : Int32) (M : Mem), Z p l e (rmz 4 0) s m args below meth c (vx_MQ below (QcR D cy B kd n (cvI b0)) (XcR D cy B kd n (cvI b0)) args s 0 (6 * 0) (AA B kd n)) D cy B kd n 8 b0 0 98 [(0, .ref (B + v0)), (1, .int v1), (2, .int v2), (3, .int v3), (4, .int v4)] [] M (k98 v4 M)) : Z p l e (rmz 4 0) s m args below meth c (vx_MQ below (QcR D cy B kd n (cvI b0)) (XcR D cy B kd n (cvI b0)) args s 0 (6 * 0) (AA B kd n)) D cy B kd n 8 b0 0 242 [(0, .ref (B + v0)), (1, .int v1), (2, .int v2), (3, .int v3), (4, .int v4)] [] M (fX11_blame_b242 N k98 v0 v1 v2 v3 v4 M) := by
  unfold fX11_blame_b242
  refine z_iinc C 4 4 (v := v4) (v1 := (v4 + (1 : Int32))) (ls1 := [(4, .int (v4 + (1 : Int32))), (0, .ref (B + v0)), (1, .int v1), (2, .int v2), (3, .int v3)]) dX11_blame_242 rfl rfl (by decide) rfl ?_
  refine z_goto C 98 dX11_blame_245 rfl ?_
  exact z_jump (ls1 := [(0, .ref (B + v0)), (1, .int v1), (2, .int v2), (3, .int v3), (4, .int (v4 + (1 : Int32)))]) (Nat.le_of_ble_eq_true rfl) [1, 2, 3, 4, 0] rfl (hk98 (v4 + (1 : Int32)) M)
set_option maxHeartbeats 4000000 in
set_option maxRecDepth 100000 in
theorem z_fX11_blame_l199_s {p : Program} {l : Launch} {e : Env} {s : State} {m : MethodId} {args : Array Value} {below : List Frame} {meth : Method} {c : Code} {D : va_G} {cy : Nat → ClassId} {B : Nat} {kd : Nat → Nat} {n : Nat} {sa sv : Nat → Nat} (C : zC p l s m args meth c D cy B kd n sa sv RX11 cX11_blame 8) (ht : ∀ x ∈ c.exceptionTable.toList, False) (hr : meth.sig.returnType = some (FieldType.int)) {b0 : Int32 × Mem} (N : Nat) (k98 : Int32 → Mem → Option (Int32 × Mem)) (v0 : Nat) (v1 : Int32) (v2 : Int32) (v3 : Int32) (v4 : Int32) (v5 : Int32) (k199 : Int32 → Mem → Option (Int32 × Mem)) (v6 : Int32) (M : Mem) (h0 : kd v0 = 11) (hk98 : ∀ (v4 : Int32) (M : Mem), Z p l e (rmz 4 0) s m args below meth c (vx_MQ below (QcR D cy B kd n (cvI b0)) (XcR D cy B kd n (cvI b0)) args s 0 (6 * 0) (AA B kd n)) D cy B kd n 8 b0 0 98 [(0, .ref (B + v0)), (1, .int v1), (2, .int v2), (3, .int v3), (4, .int v4)] [] M (k98 v4 M)) (hk199 : ∀ (v6 : Int32) (M : Mem), Z p l e (rmz 4 0) s m args below meth c (vx_MQ below (QcR D cy B kd n (cvI b0)) (XcR D cy B kd n (cvI b0)) args s 0 (6 * 0) (AA B kd n)) D cy B kd n 8 b0 0 199 [(0, .ref (B + v0)), (1, .int v1), (2, .int v2), (3, .int v3), (4, .int v4), (5, .int v5), (6, .int v6)] [] M (k199 v6 M)) : Z p l e (rmz 4 0) s m args below meth c (vx_MQ below (QcR D cy B kd n (cvI b0)) (XcR D cy B kd n (cvI b0)) args s 0 (6 * 0) (AA B kd n)) D cy B kd n 8 b0 0 199 [(0, .ref (B + v0)), (1, .int v1), (2, .int v2), (3, .int v3), (4, .int v4), (5, .int v5), (6, .int v6)] [] M (fX11_blame_l199_s N k98 v0 v1 v2 v3 v4 v5 k199 v6 M) := by
  unfold fX11_blame_l199_s
  refine z_iload C 6 dX11_blame_199 rfl ?_
  refine z_if_lt C 242 dX11_blame_201 rfl (fun _ => ?_) (fun _ => ?_)
  · exact z_jump (ls1 := [(0, .ref (B + v0)), (1, .int v1), (2, .int v2), (3, .int v3), (4, .int v4)]) (Nat.le_of_ble_eq_true rfl) [0, 1, 2, 3, 4] rfl (z_fX11_blame_b242 C ht hr N k98 v0 v1 v2 v3 v4 M h0 hk98)
  · refine z_aload_n C 0 0 dX11_blame_204 rfl rfl ?_
    refine z_getR (k := 34) C cl11 h0 rfl gw_7_44 rfl dX11_blame_205 ?_
    have j1 : kd (v0 + 21) = 33 := zkd C h0 (k := 34) rfl
    refine z_iload C 6 dX11_blame_208 rfl ?_
    refine z_iload C 5 dX11_blame_210 rfl ?_
    refine z_ior C dX11_blame_212 ?_
    refine z_aload_n C 0 0 dX11_blame_213 rfl rfl ?_
    refine z_getR (k := 34) C cl11 h0 rfl gw_7_44 rfl dX11_blame_214 ?_
    have j2 : kd (v0 + 21) = 33 := zkd C h0 (k := 34) rfl
    refine z_iload C 6 dX11_blame_217 rfl ?_
    refine z_iload C 5 dX11_blame_219 rfl ?_
    refine z_ior C dX11_blame_221 ?_
    refine z_iald C j2 rfl (by decide) dX11_blame_222 (fun j3 => ?_)
    refine z_aload_n C 0 0 dX11_blame_223 rfl rfl ?_
    refine z_getR (k := 34) C cl11 h0 rfl gw_7_44 rfl dX11_blame_224 ?_
    have j4 : kd (v0 + 21) = 33 := zkd C h0 (k := 34) rfl
    refine z_iload C 6 dX11_blame_227 rfl ?_
    refine z_iald C j4 rfl (by decide) dX11_blame_229 (fun j5 => ?_)
    refine z_iconst C dX11_blame_230 rfl ?_
    refine z_iadd C dX11_blame_231 ?_
    refine z_min C cw_RX11_240 ⟨Nat.le_of_ble_eq_true rfl, Nat.le_of_ble_eq_true rfl, Nat.le_of_ble_eq_true rfl, Nat.le_of_ble_eq_true rfl⟩ (Nat.le_of_ble_eq_true rfl) dX11_blame_232 ?_
    refine z_iast C j1 rfl (by decide) dX11_blame_235 (fun _ => ?_)
    refine z_iinc C 6 6 (v := v6) (v1 := (v6 + (-1 : Int32))) (ls1 := [(6, .int (v6 + (-1 : Int32))), (0, .ref (B + v0)), (1, .int v1), (2, .int v2), (3, .int v3), (4, .int v4), (5, .int v5)]) dX11_blame_236 rfl rfl (by decide) rfl ?_
    refine z_goto C 199 dX11_blame_239 rfl ?_
    exact z_jump (ls1 := [(0, .ref (B + v0)), (1, .int v1), (2, .int v2), (3, .int v3), (4, .int v4), (5, .int v5), (6, .int (v6 + (-1 : Int32)))]) (Nat.le_of_ble_eq_true rfl) [1, 2, 3, 4, 5, 6, 0] rfl (hk199 (v6 + (-1 : Int32)) (wI M (v0 + 21) ((v6 ||| v5).toNatClampNeg) (minI (rI M (v0 + 21) (v6 ||| v5).toNatClampNeg) ((rI M (v0 + 21) v6.toNatClampNeg) + (1 : Int32)))))
theorem z_fX11_blame_l199_i {p : Program} {l : Launch} {e : Env} {s : State} {m : MethodId} {args : Array Value} {below : List Frame} {meth : Method} {c : Code} {D : va_G} {cy : Nat → ClassId} {B : Nat} {kd : Nat → Nat} {n : Nat} {sa sv : Nat → Nat} (C : zC p l s m args meth c D cy B kd n sa sv RX11 cX11_blame 8) (ht : ∀ x ∈ c.exceptionTable.toList, False) (hr : meth.sig.returnType = some (FieldType.int)) {b0 : Int32 × Mem} (N : Nat) (k98 : Int32 → Mem → Option (Int32 × Mem)) (v0 : Nat) (v1 : Int32) (v2 : Int32) (v3 : Int32) (v4 : Int32) (v5 : Int32) (h0 : kd v0 = 11) (hk98 : ∀ (v4 : Int32) (M : Mem), Z p l e (rmz 4 0) s m args below meth c (vx_MQ below (QcR D cy B kd n (cvI b0)) (XcR D cy B kd n (cvI b0)) args s 0 (6 * 0) (AA B kd n)) D cy B kd n 8 b0 0 98 [(0, .ref (B + v0)), (1, .int v1), (2, .int v2), (3, .int v3), (4, .int v4)] [] M (k98 v4 M)) (fu : Nat) : ∀ (v6 : Int32) (M : Mem), Z p l e (rmz 4 0) s m args below meth c (vx_MQ below (QcR D cy B kd n (cvI b0)) (XcR D cy B kd n (cvI b0)) args s 0 (6 * 0) (AA B kd n)) D cy B kd n 8 b0 0 199 [(0, .ref (B + v0)), (1, .int v1), (2, .int v2), (3, .int v3), (4, .int v4), (5, .int v5), (6, .int v6)] [] M (fX11_blame_l199 N k98 v0 v1 v2 v3 v4 v5 fu v6 M) := by
  induction fu with
  | zero => intro v6 M; exact z_none
  | succ fu ih => intro v6 M; exact z_fX11_blame_l199_s C ht hr N k98 v0 v1 v2 v3 v4 v5 (fX11_blame_l199 N k98 v0 v1 v2 v3 v4 v5 fu) v6 M h0 hk98 (fun v6 M => ih v6 M)
theorem z_fX11_blame_l199 {p : Program} {l : Launch} {e : Env} {s : State} {m : MethodId} {args : Array Value} {below : List Frame} {meth : Method} {c : Code} {D : va_G} {cy : Nat → ClassId} {B : Nat} {kd : Nat → Nat} {n : Nat} {sa sv : Nat → Nat} (C : zC p l s m args meth c D cy B kd n sa sv RX11 cX11_blame 8) (ht : ∀ x ∈ c.exceptionTable.toList, False) (hr : meth.sig.returnType = some (FieldType.int)) {b0 : Int32 × Mem} (N : Nat) (k98 : Int32 → Mem → Option (Int32 × Mem)) (v0 : Nat) (v1 : Int32) (v2 : Int32) (v3 : Int32) (v4 : Int32) (v5 : Int32) (fu : Nat) (v6 : Int32) (M : Mem) (h0 : kd v0 = 11) (hk98 : ∀ (v4 : Int32) (M : Mem), Z p l e (rmz 4 0) s m args below meth c (vx_MQ below (QcR D cy B kd n (cvI b0)) (XcR D cy B kd n (cvI b0)) args s 0 (6 * 0) (AA B kd n)) D cy B kd n 8 b0 0 98 [(0, .ref (B + v0)), (1, .int v1), (2, .int v2), (3, .int v3), (4, .int v4)] [] M (k98 v4 M)) : Z p l e (rmz 4 0) s m args below meth c (vx_MQ below (QcR D cy B kd n (cvI b0)) (XcR D cy B kd n (cvI b0)) args s 0 (6 * 0) (AA B kd n)) D cy B kd n 8 b0 0 199 [(0, .ref (B + v0)), (1, .int v1), (2, .int v2), (3, .int v3), (4, .int v4), (5, .int v5), (6, .int v6)] [] M (fX11_blame_l199 N k98 v0 v1 v2 v3 v4 v5 fu v6 M) := z_fX11_blame_l199_i C ht hr N k98 v0 v1 v2 v3 v4 v5 h0 hk98 fu v6 M
set_option maxHeartbeats 4000000 in
set_option maxRecDepth 100000 in
theorem z_fX11_blame_b184 {p : Program} {l : Launch} {e : Env} {s : State} {m : MethodId} {args : Array Value} {below : List Frame} {meth : Method} {c : Code} {D : va_G} {cy : Nat → ClassId} {B : Nat} {kd : Nat → Nat} {n : Nat} {sa sv : Nat → Nat} (C : zC p l s m args meth c D cy B kd n sa sv RX11 cX11_blame 8) (ht : ∀ x ∈ c.exceptionTable.toList, False) (hr : meth.sig.returnType = some (FieldType.int)) {b0 : Int32 × Mem}  (N : Nat) (k98 : Int32 → Mem → Option (Int32 × Mem)) (k128 : Int32 → Int32 → Mem → Option (Int32 × Mem)) (k144 : Int32 → Int32 → Mem → Option (Int32 × Mem)) (v0 : Nat) (v1 : Int32) (v2 : Int32) (v3 : Int32) (v4 : Int32) (v5 : Int32) (v6 : Int32) (v7 : Int32) (M : Mem) (h0 : kd v0 = 11) (hk98 : ∀ (v4 : Int32) (M : Mem), Z p l e (rmz 4 0) s m args below meth c (vx_MQ below (QcR D cy B kd n (cvI b0)) (XcR D cy B kd n (cvI b0)) args s 0 (6 * 0) (AA B kd n)) D cy B kd n 8 b0 0 98 [(0, .ref (B + v0)), (1, .int v1), (2, .int v2), (3, .int v3), (4, .int v4)] [] M (k98 v4 M)) (hk128 : ∀ (v5 : Int32) (v6 : Int32) (M : Mem), Z p l e (rmz 4 0) s m args below meth c (vx_MQ below (QcR D cy B kd n (cvI b0)) (XcR D cy B kd n (cvI b0)) args s 0 (6 * 0) (AA B kd n)) D cy B kd n 8 b0 0 128 [(0, .ref (B + v0)), (1, .int v1), (2, .int v2), (3, .int v3), (4, .int v4), (5, .int v5), (6, .int v6)] [] M (k128 v5 v6 M)) (hk144 : ∀ (v5 : Int32) (v7 : Int32) (M : Mem), Z p l e (rmz 4 0) s m args below meth c (vx_MQ below (QcR D cy B kd n (cvI b0)) (XcR D cy B kd n (cvI b0)) args s 0 (6 * 0) (AA B kd n)) D cy B kd n 8 b0 0 144 [(0, .ref (B + v0)), (1, .int v1), (2, .int v2), (3, .int v3), (4, .int v4), (5, .int v5), (6, .int v6), (7, .int v7)] [] M (k144 v5 v7 M)) : Z p l e (rmz 4 0) s m args below meth c (vx_MQ below (QcR D cy B kd n (cvI b0)) (XcR D cy B kd n (cvI b0)) args s 0 (6 * 0) (AA B kd n)) D cy B kd n 8 b0 0 184 [(0, .ref (B + v0)), (1, .int v1), (2, .int v2), (3, .int v3), (4, .int v4), (5, .int v5), (6, .int v6), (7, .int v7)] [] M (fX11_blame_b184 N k98 k128 k144 v0 v1 v2 v3 v4 v5 v6 v7 M) := by
  unfold fX11_blame_b184
  refine z_iinc C 7 7 (v := v7) (v1 := (v7 + (1 : Int32))) (ls1 := [(7, .int (v7 + (1 : Int32))), (0, .ref (B + v0)), (1, .int v1), (2, .int v2), (3, .int v3), (4, .int v4), (5, .int v5), (6, .int v6)]) dX11_blame_184 rfl rfl (by decide) rfl ?_
  refine z_goto C 144 dX11_blame_187 rfl ?_
  exact z_jump (ls1 := [(0, .ref (B + v0)), (1, .int v1), (2, .int v2), (3, .int v3), (4, .int v4), (5, .int v5), (6, .int v6), (7, .int (v7 + (1 : Int32)))]) (Nat.le_of_ble_eq_true rfl) [1, 2, 3, 4, 5, 6, 7, 0] rfl (hk144 v5 (v7 + (1 : Int32)) M)
set_option maxHeartbeats 4000000 in
set_option maxRecDepth 100000 in
theorem z_fX11_blame_l144_s {p : Program} {l : Launch} {e : Env} {s : State} {m : MethodId} {args : Array Value} {below : List Frame} {meth : Method} {c : Code} {D : va_G} {cy : Nat → ClassId} {B : Nat} {kd : Nat → Nat} {n : Nat} {sa sv : Nat → Nat} (C : zC p l s m args meth c D cy B kd n sa sv RX11 cX11_blame 8) (ht : ∀ x ∈ c.exceptionTable.toList, False) (hr : meth.sig.returnType = some (FieldType.int)) {b0 : Int32 × Mem} (N : Nat) (k98 : Int32 → Mem → Option (Int32 × Mem)) (k128 : Int32 → Int32 → Mem → Option (Int32 × Mem)) (v0 : Nat) (v1 : Int32) (v2 : Int32) (v3 : Int32) (v4 : Int32) (v6 : Int32) (k144 : Int32 → Int32 → Mem → Option (Int32 × Mem)) (v5 : Int32) (v7 : Int32) (M : Mem) (h0 : kd v0 = 11) (hk98 : ∀ (v4 : Int32) (M : Mem), Z p l e (rmz 4 0) s m args below meth c (vx_MQ below (QcR D cy B kd n (cvI b0)) (XcR D cy B kd n (cvI b0)) args s 0 (6 * 0) (AA B kd n)) D cy B kd n 8 b0 0 98 [(0, .ref (B + v0)), (1, .int v1), (2, .int v2), (3, .int v3), (4, .int v4)] [] M (k98 v4 M)) (hk128 : ∀ (v5 : Int32) (v6 : Int32) (M : Mem), Z p l e (rmz 4 0) s m args below meth c (vx_MQ below (QcR D cy B kd n (cvI b0)) (XcR D cy B kd n (cvI b0)) args s 0 (6 * 0) (AA B kd n)) D cy B kd n 8 b0 0 128 [(0, .ref (B + v0)), (1, .int v1), (2, .int v2), (3, .int v3), (4, .int v4), (5, .int v5), (6, .int v6)] [] M (k128 v5 v6 M)) (hk144 : ∀ (v5 : Int32) (v7 : Int32) (M : Mem), Z p l e (rmz 4 0) s m args below meth c (vx_MQ below (QcR D cy B kd n (cvI b0)) (XcR D cy B kd n (cvI b0)) args s 0 (6 * 0) (AA B kd n)) D cy B kd n 8 b0 0 144 [(0, .ref (B + v0)), (1, .int v1), (2, .int v2), (3, .int v3), (4, .int v4), (5, .int v5), (6, .int v6), (7, .int v7)] [] M (k144 v5 v7 M)) : Z p l e (rmz 4 0) s m args below meth c (vx_MQ below (QcR D cy B kd n (cvI b0)) (XcR D cy B kd n (cvI b0)) args s 0 (6 * 0) (AA B kd n)) D cy B kd n 8 b0 0 144 [(0, .ref (B + v0)), (1, .int v1), (2, .int v2), (3, .int v3), (4, .int v4), (5, .int v5), (6, .int v6), (7, .int v7)] [] M (fX11_blame_l144_s N k98 k128 v0 v1 v2 v3 v4 v6 k144 v5 v7 M) := by
  unfold fX11_blame_l144_s
  refine z_iload C 7 dX11_blame_144 rfl ?_
  refine z_aload_n C 0 0 dX11_blame_146 rfl rfl ?_
  refine z_iload_n C 1 1 dX11_blame_147 rfl rfl ?_
  refine z_iconst C dX11_blame_148 rfl ?_
  refine z_callV_pI (As := [.int v1, .int (2 : Int32)]) (rest := [.int v7]) C rfl (ctX11_get (zG_of C) v0 v1 (2 : Int32) h0 M) cw_RX11_237 rfl (okM_X11_get) rfl cl11 h0 (okR_of rfl) (Nat.le_of_ble_eq_true rfl) dX11_blame_149 (fun qj1 _ => ?_)
  refine z_icmp_ge C 190 dX11_blame_152 rfl (fun _ => ?_) (fun _ => ?_)
  · refine z_iinc C 6 6 (v := v6) (v1 := (v6 + (1 : Int32))) (ls1 := [(6, .int (v6 + (1 : Int32))), (0, .ref (B + v0)), (1, .int v1), (2, .int v2), (3, .int v3), (4, .int v4), (5, .int v5), (7, .int v7)]) dX11_blame_190 rfl rfl (by decide) rfl ?_
    refine z_goto C 128 dX11_blame_193 rfl ?_
    exact z_jump (ls1 := [(0, .ref (B + v0)), (1, .int v1), (2, .int v2), (3, .int v3), (4, .int v4), (5, .int v5), (6, .int (v6 + (1 : Int32)))]) (Nat.le_of_ble_eq_true rfl) [1, 2, 3, 4, 5, 6, 0] rfl (hk128 v5 (v6 + (1 : Int32)) M)
  · refine z_aload_n C 0 0 dX11_blame_155 rfl rfl ?_
    refine z_iload_n C 1 1 dX11_blame_156 rfl rfl ?_
    refine z_iload C 7 dX11_blame_157 rfl ?_
    refine z_iload C 4 dX11_blame_159 rfl ?_
    refine z_callV_I (As := [.int v1, .int v7, .int v4]) (rest := []) C rfl (ctX11_spot (zG_of C) N v0 v1 v7 v4 h0 M) cw_RX11_273 rfl (okM_X11_spot) rfl cl11 h0 (okR_of rfl) (Nat.le_of_ble_eq_true rfl) dX11_blame_161 (fun qj2 _ => ?_)
    refine z_aload_n C 0 0 dX11_blame_164 rfl rfl ?_
    refine z_iload_n C 1 1 dX11_blame_165 rfl rfl ?_
    refine z_iload C 6 dX11_blame_166 rfl ?_
    refine z_iload_n C 2 2 dX11_blame_168 rfl rfl ?_
    refine z_callV_I (As := [.int v1, .int v6, .int v2]) (rest := [.int qj2.1]) C rfl (ctX11_spot (zG_of C) N v0 v1 v6 v2 h0 qj2.2) cw_RX11_273 rfl (okM_X11_spot) rfl cl11 h0 (okR_of rfl) (Nat.le_of_ble_eq_true rfl) dX11_blame_169 (fun qj3 _ => ?_)
    refine z_icmp_ne C 184 dX11_blame_172 rfl (fun _ => ?_) (fun _ => ?_)
    · refine z_iload C 5 dX11_blame_175 rfl ?_
      refine z_iconst C dX11_blame_177 rfl ?_
      refine z_iload C 6 dX11_blame_178 rfl ?_
      refine z_ishl C dX11_blame_180 ?_
      refine z_ior C dX11_blame_181 ?_
      refine z_istore C 5 (ls1 := [(5, .int (v5 ||| (shlI (1 : Int32) v6))), (0, .ref (B + v0)), (1, .int v1), (2, .int v2), (3, .int v3), (4, .int v4), (6, .int v6), (7, .int v7)]) dX11_blame_182 (by decide) rfl ?_
      exact z_jump (ls1 := [(0, .ref (B + v0)), (1, .int v1), (2, .int v2), (3, .int v3), (4, .int v4), (5, .int (v5 ||| (shlI (1 : Int32) v6))), (6, .int v6), (7, .int v7)]) (Nat.le_of_ble_eq_true rfl) [1, 2, 3, 4, 5, 0, 6, 7] rfl (z_fX11_blame_b184 C ht hr N k98 k128 k144 v0 v1 v2 v3 v4 (v5 ||| (shlI (1 : Int32) v6)) v6 v7 qj3.2 h0 hk98 hk128 hk144)
    · exact z_jump (ls1 := [(0, .ref (B + v0)), (1, .int v1), (2, .int v2), (3, .int v3), (4, .int v4), (5, .int v5), (6, .int v6), (7, .int v7)]) (Nat.le_of_ble_eq_true rfl) [0, 1, 2, 3, 4, 5, 6, 7] rfl (z_fX11_blame_b184 C ht hr N k98 k128 k144 v0 v1 v2 v3 v4 v5 v6 v7 qj3.2 h0 hk98 hk128 hk144)
theorem z_fX11_blame_l144_i {p : Program} {l : Launch} {e : Env} {s : State} {m : MethodId} {args : Array Value} {below : List Frame} {meth : Method} {c : Code} {D : va_G} {cy : Nat → ClassId} {B : Nat} {kd : Nat → Nat} {n : Nat} {sa sv : Nat → Nat} (C : zC p l s m args meth c D cy B kd n sa sv RX11 cX11_blame 8) (ht : ∀ x ∈ c.exceptionTable.toList, False) (hr : meth.sig.returnType = some (FieldType.int)) {b0 : Int32 × Mem} (N : Nat) (k98 : Int32 → Mem → Option (Int32 × Mem)) (k128 : Int32 → Int32 → Mem → Option (Int32 × Mem)) (v0 : Nat) (v1 : Int32) (v2 : Int32) (v3 : Int32) (v4 : Int32) (v6 : Int32) (h0 : kd v0 = 11) (hk98 : ∀ (v4 : Int32) (M : Mem), Z p l e (rmz 4 0) s m args below meth c (vx_MQ below (QcR D cy B kd n (cvI b0)) (XcR D cy B kd n (cvI b0)) args s 0 (6 * 0) (AA B kd n)) D cy B kd n 8 b0 0 98 [(0, .ref (B + v0)), (1, .int v1), (2, .int v2), (3, .int v3), (4, .int v4)] [] M (k98 v4 M)) (hk128 : ∀ (v5 : Int32) (v6 : Int32) (M : Mem), Z p l e (rmz 4 0) s m args below meth c (vx_MQ below (QcR D cy B kd n (cvI b0)) (XcR D cy B kd n (cvI b0)) args s 0 (6 * 0) (AA B kd n)) D cy B kd n 8 b0 0 128 [(0, .ref (B + v0)), (1, .int v1), (2, .int v2), (3, .int v3), (4, .int v4), (5, .int v5), (6, .int v6)] [] M (k128 v5 v6 M)) (fu : Nat) : ∀ (v5 : Int32) (v7 : Int32) (M : Mem), Z p l e (rmz 4 0) s m args below meth c (vx_MQ below (QcR D cy B kd n (cvI b0)) (XcR D cy B kd n (cvI b0)) args s 0 (6 * 0) (AA B kd n)) D cy B kd n 8 b0 0 144 [(0, .ref (B + v0)), (1, .int v1), (2, .int v2), (3, .int v3), (4, .int v4), (5, .int v5), (6, .int v6), (7, .int v7)] [] M (fX11_blame_l144 N k98 k128 v0 v1 v2 v3 v4 v6 fu v5 v7 M) := by
  induction fu with
  | zero => intro v5 v7 M; exact z_none
  | succ fu ih => intro v5 v7 M; exact z_fX11_blame_l144_s C ht hr N k98 k128 v0 v1 v2 v3 v4 v6 (fX11_blame_l144 N k98 k128 v0 v1 v2 v3 v4 v6 fu) v5 v7 M h0 hk98 hk128 (fun v5 v7 M => ih v5 v7 M)
theorem z_fX11_blame_l144 {p : Program} {l : Launch} {e : Env} {s : State} {m : MethodId} {args : Array Value} {below : List Frame} {meth : Method} {c : Code} {D : va_G} {cy : Nat → ClassId} {B : Nat} {kd : Nat → Nat} {n : Nat} {sa sv : Nat → Nat} (C : zC p l s m args meth c D cy B kd n sa sv RX11 cX11_blame 8) (ht : ∀ x ∈ c.exceptionTable.toList, False) (hr : meth.sig.returnType = some (FieldType.int)) {b0 : Int32 × Mem} (N : Nat) (k98 : Int32 → Mem → Option (Int32 × Mem)) (k128 : Int32 → Int32 → Mem → Option (Int32 × Mem)) (v0 : Nat) (v1 : Int32) (v2 : Int32) (v3 : Int32) (v4 : Int32) (v6 : Int32) (fu : Nat) (v5 : Int32) (v7 : Int32) (M : Mem) (h0 : kd v0 = 11) (hk98 : ∀ (v4 : Int32) (M : Mem), Z p l e (rmz 4 0) s m args below meth c (vx_MQ below (QcR D cy B kd n (cvI b0)) (XcR D cy B kd n (cvI b0)) args s 0 (6 * 0) (AA B kd n)) D cy B kd n 8 b0 0 98 [(0, .ref (B + v0)), (1, .int v1), (2, .int v2), (3, .int v3), (4, .int v4)] [] M (k98 v4 M)) (hk128 : ∀ (v5 : Int32) (v6 : Int32) (M : Mem), Z p l e (rmz 4 0) s m args below meth c (vx_MQ below (QcR D cy B kd n (cvI b0)) (XcR D cy B kd n (cvI b0)) args s 0 (6 * 0) (AA B kd n)) D cy B kd n 8 b0 0 128 [(0, .ref (B + v0)), (1, .int v1), (2, .int v2), (3, .int v3), (4, .int v4), (5, .int v5), (6, .int v6)] [] M (k128 v5 v6 M)) : Z p l e (rmz 4 0) s m args below meth c (vx_MQ below (QcR D cy B kd n (cvI b0)) (XcR D cy B kd n (cvI b0)) args s 0 (6 * 0) (AA B kd n)) D cy B kd n 8 b0 0 144 [(0, .ref (B + v0)), (1, .int v1), (2, .int v2), (3, .int v3), (4, .int v4), (5, .int v5), (6, .int v6), (7, .int v7)] [] M (fX11_blame_l144 N k98 k128 v0 v1 v2 v3 v4 v6 fu v5 v7 M) := z_fX11_blame_l144_i C ht hr N k98 k128 v0 v1 v2 v3 v4 v6 h0 hk98 hk128 fu v5 v7 M
set_option maxHeartbeats 4000000 in
set_option maxRecDepth 100000 in
theorem z_fX11_blame_l128_s {p : Program} {l : Launch} {e : Env} {s : State} {m : MethodId} {args : Array Value} {below : List Frame} {meth : Method} {c : Code} {D : va_G} {cy : Nat → ClassId} {B : Nat} {kd : Nat → Nat} {n : Nat} {sa sv : Nat → Nat} (C : zC p l s m args meth c D cy B kd n sa sv RX11 cX11_blame 8) (ht : ∀ x ∈ c.exceptionTable.toList, False) (hr : meth.sig.returnType = some (FieldType.int)) {b0 : Int32 × Mem} (N : Nat) (k98 : Int32 → Mem → Option (Int32 × Mem)) (v0 : Nat) (v1 : Int32) (v2 : Int32) (v3 : Int32) (v4 : Int32) (k128 : Int32 → Int32 → Mem → Option (Int32 × Mem)) (v5 : Int32) (v6 : Int32) (M : Mem) (h0 : kd v0 = 11) (hk98 : ∀ (v4 : Int32) (M : Mem), Z p l e (rmz 4 0) s m args below meth c (vx_MQ below (QcR D cy B kd n (cvI b0)) (XcR D cy B kd n (cvI b0)) args s 0 (6 * 0) (AA B kd n)) D cy B kd n 8 b0 0 98 [(0, .ref (B + v0)), (1, .int v1), (2, .int v2), (3, .int v3), (4, .int v4)] [] M (k98 v4 M)) (hk128 : ∀ (v5 : Int32) (v6 : Int32) (M : Mem), Z p l e (rmz 4 0) s m args below meth c (vx_MQ below (QcR D cy B kd n (cvI b0)) (XcR D cy B kd n (cvI b0)) args s 0 (6 * 0) (AA B kd n)) D cy B kd n 8 b0 0 128 [(0, .ref (B + v0)), (1, .int v1), (2, .int v2), (3, .int v3), (4, .int v4), (5, .int v5), (6, .int v6)] [] M (k128 v5 v6 M)) : Z p l e (rmz 4 0) s m args below meth c (vx_MQ below (QcR D cy B kd n (cvI b0)) (XcR D cy B kd n (cvI b0)) args s 0 (6 * 0) (AA B kd n)) D cy B kd n 8 b0 0 128 [(0, .ref (B + v0)), (1, .int v1), (2, .int v2), (3, .int v3), (4, .int v4), (5, .int v5), (6, .int v6)] [] M (fX11_blame_l128_s N k98 v0 v1 v2 v3 v4 k128 v5 v6 M) := by
  unfold fX11_blame_l128_s
  refine z_iload C 6 dX11_blame_128 rfl ?_
  refine z_aload_n C 0 0 dX11_blame_130 rfl rfl ?_
  refine z_iload_n C 1 1 dX11_blame_131 rfl rfl ?_
  refine z_iconst C dX11_blame_132 rfl ?_
  refine z_callV_pI (As := [.int v1, .int (2 : Int32)]) (rest := [.int v6]) C rfl (ctX11_get (zG_of C) v0 v1 (2 : Int32) h0 M) cw_RX11_237 rfl (okM_X11_get) rfl cl11 h0 (okR_of rfl) (Nat.le_of_ble_eq_true rfl) dX11_blame_133 (fun qj1 _ => ?_)
  refine z_iconst C dX11_blame_136 rfl ?_
  refine z_isub C dX11_blame_137 ?_
  refine z_icmp_gt C 196 dX11_blame_138 rfl (fun _ => ?_) (fun _ => ?_)
  · refine z_iload_n C 3 3 dX11_blame_196 rfl rfl ?_
    refine z_istore C 6 (ls1 := [(6, .int v3), (0, .ref (B + v0)), (1, .int v1), (2, .int v2), (3, .int v3), (4, .int v4), (5, .int v5)]) dX11_blame_197 (by decide) rfl ?_
    exact z_jump (ls1 := [(0, .ref (B + v0)), (1, .int v1), (2, .int v2), (3, .int v3), (4, .int v4), (5, .int v5), (6, .int v3)]) (Nat.le_of_ble_eq_true rfl) [1, 2, 3, 4, 5, 6, 0] rfl (z_fX11_blame_l199 C ht hr N k98 v0 v1 v2 v3 v4 v5 N v3 M h0 hk98)
  · refine z_iconst C dX11_blame_141 rfl ?_
    refine z_istore C 7 (ls1 := [(7, .int (0 : Int32)), (0, .ref (B + v0)), (1, .int v1), (2, .int v2), (3, .int v3), (4, .int v4), (5, .int v5), (6, .int v6)]) dX11_blame_142 (by decide) rfl ?_
    exact z_jump (ls1 := [(0, .ref (B + v0)), (1, .int v1), (2, .int v2), (3, .int v3), (4, .int v4), (5, .int v5), (6, .int v6), (7, .int (0 : Int32))]) (Nat.le_of_ble_eq_true rfl) [1, 2, 3, 4, 5, 6, 7, 0] rfl (z_fX11_blame_l144 C ht hr N k98 k128 v0 v1 v2 v3 v4 v6 N v5 (0 : Int32) M h0 hk98 hk128)
theorem z_fX11_blame_l128_i {p : Program} {l : Launch} {e : Env} {s : State} {m : MethodId} {args : Array Value} {below : List Frame} {meth : Method} {c : Code} {D : va_G} {cy : Nat → ClassId} {B : Nat} {kd : Nat → Nat} {n : Nat} {sa sv : Nat → Nat} (C : zC p l s m args meth c D cy B kd n sa sv RX11 cX11_blame 8) (ht : ∀ x ∈ c.exceptionTable.toList, False) (hr : meth.sig.returnType = some (FieldType.int)) {b0 : Int32 × Mem} (N : Nat) (k98 : Int32 → Mem → Option (Int32 × Mem)) (v0 : Nat) (v1 : Int32) (v2 : Int32) (v3 : Int32) (v4 : Int32) (h0 : kd v0 = 11) (hk98 : ∀ (v4 : Int32) (M : Mem), Z p l e (rmz 4 0) s m args below meth c (vx_MQ below (QcR D cy B kd n (cvI b0)) (XcR D cy B kd n (cvI b0)) args s 0 (6 * 0) (AA B kd n)) D cy B kd n 8 b0 0 98 [(0, .ref (B + v0)), (1, .int v1), (2, .int v2), (3, .int v3), (4, .int v4)] [] M (k98 v4 M)) (fu : Nat) : ∀ (v5 : Int32) (v6 : Int32) (M : Mem), Z p l e (rmz 4 0) s m args below meth c (vx_MQ below (QcR D cy B kd n (cvI b0)) (XcR D cy B kd n (cvI b0)) args s 0 (6 * 0) (AA B kd n)) D cy B kd n 8 b0 0 128 [(0, .ref (B + v0)), (1, .int v1), (2, .int v2), (3, .int v3), (4, .int v4), (5, .int v5), (6, .int v6)] [] M (fX11_blame_l128 N k98 v0 v1 v2 v3 v4 fu v5 v6 M) := by
  induction fu with
  | zero => intro v5 v6 M; exact z_none
  | succ fu ih => intro v5 v6 M; exact z_fX11_blame_l128_s C ht hr N k98 v0 v1 v2 v3 v4 (fX11_blame_l128 N k98 v0 v1 v2 v3 v4 fu) v5 v6 M h0 hk98 (fun v5 v6 M => ih v5 v6 M)
theorem z_fX11_blame_l128 {p : Program} {l : Launch} {e : Env} {s : State} {m : MethodId} {args : Array Value} {below : List Frame} {meth : Method} {c : Code} {D : va_G} {cy : Nat → ClassId} {B : Nat} {kd : Nat → Nat} {n : Nat} {sa sv : Nat → Nat} (C : zC p l s m args meth c D cy B kd n sa sv RX11 cX11_blame 8) (ht : ∀ x ∈ c.exceptionTable.toList, False) (hr : meth.sig.returnType = some (FieldType.int)) {b0 : Int32 × Mem} (N : Nat) (k98 : Int32 → Mem → Option (Int32 × Mem)) (v0 : Nat) (v1 : Int32) (v2 : Int32) (v3 : Int32) (v4 : Int32) (fu : Nat) (v5 : Int32) (v6 : Int32) (M : Mem) (h0 : kd v0 = 11) (hk98 : ∀ (v4 : Int32) (M : Mem), Z p l e (rmz 4 0) s m args below meth c (vx_MQ below (QcR D cy B kd n (cvI b0)) (XcR D cy B kd n (cvI b0)) args s 0 (6 * 0) (AA B kd n)) D cy B kd n 8 b0 0 98 [(0, .ref (B + v0)), (1, .int v1), (2, .int v2), (3, .int v3), (4, .int v4)] [] M (k98 v4 M)) : Z p l e (rmz 4 0) s m args below meth c (vx_MQ below (QcR D cy B kd n (cvI b0)) (XcR D cy B kd n (cvI b0)) args s 0 (6 * 0) (AA B kd n)) D cy B kd n 8 b0 0 128 [(0, .ref (B + v0)), (1, .int v1), (2, .int v2), (3, .int v3), (4, .int v4), (5, .int v5), (6, .int v6)] [] M (fX11_blame_l128 N k98 v0 v1 v2 v3 v4 fu v5 v6 M) := z_fX11_blame_l128_i C ht hr N k98 v0 v1 v2 v3 v4 h0 hk98 fu v5 v6 M
set_option maxHeartbeats 4000000 in
set_option maxRecDepth 100000 in
theorem z_fX11_blame_l98_s {p : Program} {l : Launch} {e : Env} {s : State} {m : MethodId} {args : Array Value} {below : List Frame} {meth : Method} {c : Code} {D : va_G} {cy : Nat → ClassId} {B : Nat} {kd : Nat → Nat} {n : Nat} {sa sv : Nat → Nat} (C : zC p l s m args meth c D cy B kd n sa sv RX11 cX11_blame 8) (ht : ∀ x ∈ c.exceptionTable.toList, False) (hr : meth.sig.returnType = some (FieldType.int)) {b0 : Int32 × Mem} (N : Nat) (v0 : Nat) (v1 : Int32) (v2 : Int32) (v3 : Int32) (k98 : Int32 → Mem → Option (Int32 × Mem)) (v4 : Int32) (M : Mem) (h0 : kd v0 = 11)  (hk98 : ∀ (v4 : Int32) (M : Mem), Z p l e (rmz 4 0) s m args below meth c (vx_MQ below (QcR D cy B kd n (cvI b0)) (XcR D cy B kd n (cvI b0)) args s 0 (6 * 0) (AA B kd n)) D cy B kd n 8 b0 0 98 [(0, .ref (B + v0)), (1, .int v1), (2, .int v2), (3, .int v3), (4, .int v4)] [] M (k98 v4 M)) : Z p l e (rmz 4 0) s m args below meth c (vx_MQ below (QcR D cy B kd n (cvI b0)) (XcR D cy B kd n (cvI b0)) args s 0 (6 * 0) (AA B kd n)) D cy B kd n 8 b0 0 98 [(0, .ref (B + v0)), (1, .int v1), (2, .int v2), (3, .int v3), (4, .int v4)] [] M (fX11_blame_l98_s N v0 v1 v2 v3 k98 v4 M) := by
  unfold fX11_blame_l98_s
  refine z_iload C 4 dX11_blame_98 rfl ?_
  refine z_aload_n C 0 0 dX11_blame_100 rfl rfl ?_
  refine z_getR (k := 0) C cl11 h0 rfl gw_7_10 rfl dX11_blame_101 ?_
  have j1 : kd (v0 + 1) = 36 := zkd C h0 (k := 0) rfl
  refine z_iconst C dX11_blame_104 rfl ?_
  refine z_iald C j1 rfl (by decide) dX11_blame_105 (fun j2 => ?_)
  refine z_icmp_ge C 248 dX11_blame_106 rfl (fun _ => ?_) (fun _ => ?_)
  · refine z_aload_n C 0 0 dX11_blame_248 rfl rfl ?_
    refine z_getR (k := 34) C cl11 h0 rfl gw_7_44 rfl dX11_blame_249 ?_
    have j3 : kd (v0 + 21) = 33 := zkd C h0 (k := 34) rfl
    refine z_iload_n C 3 3 dX11_blame_252 rfl rfl ?_
    refine z_iald C j3 rfl (by decide) dX11_blame_253 (fun j4 => ?_)
    refine z_sipush (v := 1000) C dX11_blame_254 rfl ?_
    refine z_icmp_lt C 264 dX11_blame_257 rfl (fun _ => ?_) (fun _ => ?_)
    · refine z_aload_n C 0 0 dX11_blame_264 rfl rfl ?_
      refine z_getR (k := 34) C cl11 h0 rfl gw_7_44 rfl dX11_blame_265 ?_
      have j5 : kd (v0 + 21) = 33 := zkd C h0 (k := 34) rfl
      refine z_iload_n C 3 3 dX11_blame_268 rfl rfl ?_
      refine z_iald C j5 rfl (by decide) dX11_blame_269 (fun j6 => ?_)
      exact z_iret C hr (Nat.le_of_ble_eq_true rfl) dX11_blame_270 rfl
    · refine z_iconst C dX11_blame_260 rfl ?_
      refine z_goto C 270 dX11_blame_261 rfl ?_
      exact z_iret C hr (Nat.le_of_ble_eq_true rfl) dX11_blame_270 rfl
  · refine z_aload_n C 0 0 dX11_blame_109 rfl rfl ?_
    refine z_iload_n C 1 1 dX11_blame_110 rfl rfl ?_
    refine z_iload C 4 dX11_blame_111 rfl ?_
    refine z_callV_pB (As := [.int v1, .int v4]) (rest := []) C rfl (ctX11_isIn (zG_of C) v0 v1 v4 h0 M) cw_RX11_300 rfl (okM_X11_isIn) rfl cl11 h0 (okR_of rfl) (Nat.le_of_ble_eq_true rfl) dX11_blame_113 (fun qj7 _ => ?_)
    refine z_if_neB C 122 dX11_blame_116 rfl (fun _ => ?_) (fun _ => ?_)
    · refine z_iconst C dX11_blame_122 rfl ?_
      refine z_istore C 5 (ls1 := [(5, .int (0 : Int32)), (0, .ref (B + v0)), (1, .int v1), (2, .int v2), (3, .int v3), (4, .int v4)]) dX11_blame_123 (by decide) rfl ?_
      refine z_iconst C dX11_blame_125 rfl ?_
      refine z_istore C 6 (ls1 := [(6, .int (0 : Int32)), (5, .int (0 : Int32)), (0, .ref (B + v0)), (1, .int v1), (2, .int v2), (3, .int v3), (4, .int v4)]) dX11_blame_126 (by decide) rfl ?_
      exact z_jump (ls1 := [(0, .ref (B + v0)), (1, .int v1), (2, .int v2), (3, .int v3), (4, .int v4), (5, .int (0 : Int32)), (6, .int (0 : Int32))]) (Nat.le_of_ble_eq_true rfl) [2, 3, 4, 5, 6, 1, 0] rfl (z_fX11_blame_l128 C ht hr N k98 v0 v1 v2 v3 v4 N (0 : Int32) (0 : Int32) M h0 hk98)
    · refine z_goto C 242 dX11_blame_119 rfl ?_
      exact z_jump (ls1 := [(0, .ref (B + v0)), (1, .int v1), (2, .int v2), (3, .int v3), (4, .int v4)]) (Nat.le_of_ble_eq_true rfl) [0, 1, 2, 3, 4] rfl (z_fX11_blame_b242 C ht hr N k98 v0 v1 v2 v3 v4 M h0 hk98)
theorem z_fX11_blame_l98_i {p : Program} {l : Launch} {e : Env} {s : State} {m : MethodId} {args : Array Value} {below : List Frame} {meth : Method} {c : Code} {D : va_G} {cy : Nat → ClassId} {B : Nat} {kd : Nat → Nat} {n : Nat} {sa sv : Nat → Nat} (C : zC p l s m args meth c D cy B kd n sa sv RX11 cX11_blame 8) (ht : ∀ x ∈ c.exceptionTable.toList, False) (hr : meth.sig.returnType = some (FieldType.int)) {b0 : Int32 × Mem} (N : Nat) (v0 : Nat) (v1 : Int32) (v2 : Int32) (v3 : Int32) (h0 : kd v0 = 11)  (fu : Nat) : ∀ (v4 : Int32) (M : Mem), Z p l e (rmz 4 0) s m args below meth c (vx_MQ below (QcR D cy B kd n (cvI b0)) (XcR D cy B kd n (cvI b0)) args s 0 (6 * 0) (AA B kd n)) D cy B kd n 8 b0 0 98 [(0, .ref (B + v0)), (1, .int v1), (2, .int v2), (3, .int v3), (4, .int v4)] [] M (fX11_blame_l98 N v0 v1 v2 v3 fu v4 M) := by
  induction fu with
  | zero => intro v4 M; exact z_none
  | succ fu ih => intro v4 M; exact z_fX11_blame_l98_s C ht hr N v0 v1 v2 v3 (fX11_blame_l98 N v0 v1 v2 v3 fu) v4 M h0 (fun v4 M => ih v4 M)
theorem z_fX11_blame_l98 {p : Program} {l : Launch} {e : Env} {s : State} {m : MethodId} {args : Array Value} {below : List Frame} {meth : Method} {c : Code} {D : va_G} {cy : Nat → ClassId} {B : Nat} {kd : Nat → Nat} {n : Nat} {sa sv : Nat → Nat} (C : zC p l s m args meth c D cy B kd n sa sv RX11 cX11_blame 8) (ht : ∀ x ∈ c.exceptionTable.toList, False) (hr : meth.sig.returnType = some (FieldType.int)) {b0 : Int32 × Mem} (N : Nat) (v0 : Nat) (v1 : Int32) (v2 : Int32) (v3 : Int32) (fu : Nat) (v4 : Int32) (M : Mem) (h0 : kd v0 = 11)  : Z p l e (rmz 4 0) s m args below meth c (vx_MQ below (QcR D cy B kd n (cvI b0)) (XcR D cy B kd n (cvI b0)) args s 0 (6 * 0) (AA B kd n)) D cy B kd n 8 b0 0 98 [(0, .ref (B + v0)), (1, .int v1), (2, .int v2), (3, .int v3), (4, .int v4)] [] M (fX11_blame_l98 N v0 v1 v2 v3 fu v4 M) := z_fX11_blame_l98_i C ht hr N v0 v1 v2 v3 h0 fu v4 M
set_option maxHeartbeats 4000000 in
set_option maxRecDepth 100000 in
theorem z_fX11_blame_l66_s {p : Program} {l : Launch} {e : Env} {s : State} {m : MethodId} {args : Array Value} {below : List Frame} {meth : Method} {c : Code} {D : va_G} {cy : Nat → ClassId} {B : Nat} {kd : Nat → Nat} {n : Nat} {sa sv : Nat → Nat} (C : zC p l s m args meth c D cy B kd n sa sv RX11 cX11_blame 8) (ht : ∀ x ∈ c.exceptionTable.toList, False) (hr : meth.sig.returnType = some (FieldType.int)) {b0 : Int32 × Mem} (N : Nat) (v0 : Nat) (v1 : Int32) (v2 : Int32) (v3 : Int32) (k66 : Int32 → Mem → Option (Int32 × Mem)) (v4 : Int32) (M : Mem) (h0 : kd v0 = 11)  (hk66 : ∀ (v4 : Int32) (M : Mem), Z p l e (rmz 4 0) s m args below meth c (vx_MQ below (QcR D cy B kd n (cvI b0)) (XcR D cy B kd n (cvI b0)) args s 0 (6 * 0) (AA B kd n)) D cy B kd n 8 b0 0 66 [(0, .ref (B + v0)), (1, .int v1), (2, .int v2), (3, .int v3), (4, .int v4)] [] M (k66 v4 M)) : Z p l e (rmz 4 0) s m args below meth c (vx_MQ below (QcR D cy B kd n (cvI b0)) (XcR D cy B kd n (cvI b0)) args s 0 (6 * 0) (AA B kd n)) D cy B kd n 8 b0 0 66 [(0, .ref (B + v0)), (1, .int v1), (2, .int v2), (3, .int v3), (4, .int v4)] [] M (fX11_blame_l66_s N v0 v1 v2 v3 k66 v4 M) := by
  unfold fX11_blame_l66_s
  refine z_iload C 4 dX11_blame_66 rfl ?_
  refine z_iload_n C 3 3 dX11_blame_68 rfl rfl ?_
  refine z_icmp_gt C 88 dX11_blame_69 rfl (fun _ => ?_) (fun _ => ?_)
  · refine z_aload_n C 0 0 dX11_blame_88 rfl rfl ?_
    refine z_getR (k := 34) C cl11 h0 rfl gw_7_44 rfl dX11_blame_89 ?_
    have j1 : kd (v0 + 21) = 33 := zkd C h0 (k := 34) rfl
    refine z_iconst C dX11_blame_92 rfl ?_
    refine z_iconst C dX11_blame_93 rfl ?_
    refine z_iast C j1 rfl (by decide) dX11_blame_94 (fun _ => ?_)
    refine z_iconst C dX11_blame_95 rfl ?_
    refine z_istore C 4 (ls1 := [(4, .int (0 : Int32)), (0, .ref (B + v0)), (1, .int v1), (2, .int v2), (3, .int v3)]) dX11_blame_96 (by decide) rfl ?_
    exact z_jump (ls1 := [(0, .ref (B + v0)), (1, .int v1), (2, .int v2), (3, .int v3), (4, .int (0 : Int32))]) (Nat.le_of_ble_eq_true rfl) [1, 2, 3, 4, 0] rfl (z_fX11_blame_l98 C ht hr N v0 v1 v2 v3 N (0 : Int32) (wI M (v0 + 21) ((0 : Int32).toNatClampNeg) (0 : Int32)) h0)
  · refine z_aload_n C 0 0 dX11_blame_72 rfl rfl ?_
    refine z_getR (k := 34) C cl11 h0 rfl gw_7_44 rfl dX11_blame_73 ?_
    have j2 : kd (v0 + 21) = 33 := zkd C h0 (k := 34) rfl
    refine z_iload C 4 dX11_blame_76 rfl ?_
    refine z_sipush (v := 1000) C dX11_blame_78 rfl ?_
    refine z_iast C j2 rfl (by decide) dX11_blame_81 (fun _ => ?_)
    refine z_iinc C 4 4 (v := v4) (v1 := (v4 + (1 : Int32))) (ls1 := [(4, .int (v4 + (1 : Int32))), (0, .ref (B + v0)), (1, .int v1), (2, .int v2), (3, .int v3)]) dX11_blame_82 rfl rfl (by decide) rfl ?_
    refine z_goto C 66 dX11_blame_85 rfl ?_
    exact z_jump (ls1 := [(0, .ref (B + v0)), (1, .int v1), (2, .int v2), (3, .int v3), (4, .int (v4 + (1 : Int32)))]) (Nat.le_of_ble_eq_true rfl) [1, 2, 3, 4, 0] rfl (hk66 (v4 + (1 : Int32)) (wI M (v0 + 21) v4.toNatClampNeg (1000 : Int32)))
theorem z_fX11_blame_l66_i {p : Program} {l : Launch} {e : Env} {s : State} {m : MethodId} {args : Array Value} {below : List Frame} {meth : Method} {c : Code} {D : va_G} {cy : Nat → ClassId} {B : Nat} {kd : Nat → Nat} {n : Nat} {sa sv : Nat → Nat} (C : zC p l s m args meth c D cy B kd n sa sv RX11 cX11_blame 8) (ht : ∀ x ∈ c.exceptionTable.toList, False) (hr : meth.sig.returnType = some (FieldType.int)) {b0 : Int32 × Mem} (N : Nat) (v0 : Nat) (v1 : Int32) (v2 : Int32) (v3 : Int32) (h0 : kd v0 = 11)  (fu : Nat) : ∀ (v4 : Int32) (M : Mem), Z p l e (rmz 4 0) s m args below meth c (vx_MQ below (QcR D cy B kd n (cvI b0)) (XcR D cy B kd n (cvI b0)) args s 0 (6 * 0) (AA B kd n)) D cy B kd n 8 b0 0 66 [(0, .ref (B + v0)), (1, .int v1), (2, .int v2), (3, .int v3), (4, .int v4)] [] M (fX11_blame_l66 N v0 v1 v2 v3 fu v4 M) := by
  induction fu with
  | zero => intro v4 M; exact z_none
  | succ fu ih => intro v4 M; exact z_fX11_blame_l66_s C ht hr N v0 v1 v2 v3 (fX11_blame_l66 N v0 v1 v2 v3 fu) v4 M h0 (fun v4 M => ih v4 M)
theorem z_fX11_blame_l66 {p : Program} {l : Launch} {e : Env} {s : State} {m : MethodId} {args : Array Value} {below : List Frame} {meth : Method} {c : Code} {D : va_G} {cy : Nat → ClassId} {B : Nat} {kd : Nat → Nat} {n : Nat} {sa sv : Nat → Nat} (C : zC p l s m args meth c D cy B kd n sa sv RX11 cX11_blame 8) (ht : ∀ x ∈ c.exceptionTable.toList, False) (hr : meth.sig.returnType = some (FieldType.int)) {b0 : Int32 × Mem} (N : Nat) (v0 : Nat) (v1 : Int32) (v2 : Int32) (v3 : Int32) (fu : Nat) (v4 : Int32) (M : Mem) (h0 : kd v0 = 11)  : Z p l e (rmz 4 0) s m args below meth c (vx_MQ below (QcR D cy B kd n (cvI b0)) (XcR D cy B kd n (cvI b0)) args s 0 (6 * 0) (AA B kd n)) D cy B kd n 8 b0 0 66 [(0, .ref (B + v0)), (1, .int v1), (2, .int v2), (3, .int v3), (4, .int v4)] [] M (fX11_blame_l66 N v0 v1 v2 v3 fu v4 M) := z_fX11_blame_l66_i C ht hr N v0 v1 v2 v3 h0 fu v4 M
set_option maxHeartbeats 4000000 in
set_option maxRecDepth 100000 in
theorem z_fX11_blame_b40 {p : Program} {l : Launch} {e : Env} {s : State} {m : MethodId} {args : Array Value} {below : List Frame} {meth : Method} {c : Code} {D : va_G} {cy : Nat → ClassId} {B : Nat} {kd : Nat → Nat} {n : Nat} {sa sv : Nat → Nat} (C : zC p l s m args meth c D cy B kd n sa sv RX11 cX11_blame 8) (ht : ∀ x ∈ c.exceptionTable.toList, False) (hr : meth.sig.returnType = some (FieldType.int)) {b0 : Int32 × Mem}  (N : Nat) (v0 : Nat) (v1 : Int32) (v2 : Int32) (s0 : Int32) (s1 : Nat) (M : Mem) (h0 : kd v0 = 11) (hs1 : kd s1 = 11)  : Z p l e (rmz 4 0) s m args below meth c (vx_MQ below (QcR D cy B kd n (cvI b0)) (XcR D cy B kd n (cvI b0)) args s 0 (6 * 0) (AA B kd n)) D cy B kd n 8 b0 0 40 [(0, .ref (B + v0)), (1, .int v1), (2, .int v2)] [.int s0, .ref (B + s1)] M (fX11_blame_b40 N v0 v1 v2 s0 s1 M) := by
  unfold fX11_blame_b40
  refine z_putI (k := 5) C cl11 hs1 rfl gw_7_15 rfl rfl rfl dX11_blame_40 ?_
  refine z_aload_n C 0 0 dX11_blame_43 rfl rfl ?_
  refine z_getI (k := 5) C cl11 h0 rfl gw_7_15 rfl dX11_blame_44 ?_
  refine z_if_le C 52 dX11_blame_47 rfl (fun _ => ?_) (fun _ => ?_)
  · refine z_iconst C dX11_blame_52 rfl ?_
    refine z_aload_n C 0 0 dX11_blame_53 rfl rfl ?_
    refine z_iload_n C 1 1 dX11_blame_54 rfl rfl ?_
    refine z_iconst C dX11_blame_55 rfl ?_
    refine z_callV_pI (As := [.int v1, .int (2 : Int32)]) (rest := [.int (1 : Int32)]) C rfl (ctX11_get (zG_of C) v0 v1 (2 : Int32) h0 (wI M s1 5 s0)) cw_RX11_237 rfl (okM_X11_get) rfl cl11 h0 (okR_of rfl) (Nat.le_of_ble_eq_true rfl) dX11_blame_56 (fun qj1 _ => ?_)
    refine z_ishl C dX11_blame_59 ?_
    refine z_iconst C dX11_blame_60 rfl ?_
    refine z_isub C dX11_blame_61 ?_
    refine z_istore_n C 3 (ls1 := [(3, .int ((shlI (1 : Int32) qj1) - (1 : Int32))), (0, .ref (B + v0)), (1, .int v1), (2, .int v2)]) dX11_blame_62 rfl (by decide) rfl ?_
    refine z_iconst C dX11_blame_63 rfl ?_
    refine z_istore C 4 (ls1 := [(4, .int (1 : Int32)), (3, .int ((shlI (1 : Int32) qj1) - (1 : Int32))), (0, .ref (B + v0)), (1, .int v1), (2, .int v2)]) dX11_blame_64 (by decide) rfl ?_
    exact z_jump (ls1 := [(0, .ref (B + v0)), (1, .int v1), (2, .int v2), (3, .int ((shlI (1 : Int32) qj1) - (1 : Int32))), (4, .int (1 : Int32))]) (Nat.le_of_ble_eq_true rfl) [2, 3, 4, 1, 0] rfl (z_fX11_blame_l66 C ht hr N v0 v1 v2 ((shlI (1 : Int32) qj1) - (1 : Int32)) N (1 : Int32) (wI M s1 5 s0) h0)
  · refine z_iconst C dX11_blame_50 rfl ?_
    exact z_iret C hr (Nat.le_of_ble_eq_true rfl) dX11_blame_51 rfl
set_option maxHeartbeats 4000000 in
set_option maxRecDepth 100000 in
theorem ctX11_blame {l : Launch} {D : va_G} {cy : Nat → ClassId} {B : Nat} {kd : Nat → Nat} {n : Nat} {sa sv : Nat → Nat} (G : zG l kd n) (N : Nat) (v0 : Nat) (v1 : Int32) (v2 : Int32) (h0 : kd v0 = 11) (M : Mem) : CT l D cy B kd n sa sv 4 0 yX11_blame cX11_blame 8 (some (FieldType.int)) cvI [.ref (B + v0), .int v1, .int v2] M (fX11_blame N v0 v1 v2 M) := by
  refine ct_of (by decide) G.1 G.2 (Nat.le_of_ble_eq_true rfl) (ls := [(0, .ref (B + v0)), (1, .int v1), (2, .int v2)]) rfl ?_
  intro p e s m args below meth c b0 C ht hr
  unfold fX11_blame
  refine z_aload_n C 0 0 dX11_blame_0 rfl rfl ?_
  refine z_aload_n C 0 0 dX11_blame_1 rfl rfl ?_
  refine z_iload_n C 1 1 dX11_blame_2 rfl rfl ?_
  refine z_callV_pB (As := [.int v1]) (rest := [.ref (B + v0)]) C rfl (ctX11_isRow (zG_of C) v0 v1 h0 M) cw_RX11_256 rfl (okM_X11_isRow) rfl cl11 h0 (okR_of rfl) (Nat.le_of_ble_eq_true rfl) dX11_blame_3 (fun qj1 _ => ?_)
  refine z_if_neB C 13 dX11_blame_6 rfl (fun _ => ?_) (fun _ => ?_)
  · refine z_aload_n C 0 0 dX11_blame_13 rfl rfl ?_
    refine z_iload_n C 1 1 dX11_blame_14 rfl rfl ?_
    refine z_iconst C dX11_blame_15 rfl ?_
    refine z_callV_pI (As := [.int v1, .int (0 : Int32)]) (rest := [.ref (B + v0)]) C rfl (ctX11_get (zG_of C) v0 v1 (0 : Int32) h0 M) cw_RX11_237 rfl (okM_X11_get) rfl cl11 h0 (okR_of rfl) (Nat.le_of_ble_eq_true rfl) dX11_blame_16 (fun qj2 _ => ?_)
    refine z_if_eq C 26 dX11_blame_19 rfl (fun _ => ?_) (fun _ => ?_)
    · refine z_aload_n C 0 0 dX11_blame_26 rfl rfl ?_
      refine z_iload_n C 2 2 dX11_blame_27 rfl rfl ?_
      refine z_i2l C dX11_blame_28 ?_
      refine z_callV_pB (As := [.long v2.toInt64]) (rest := [.ref (B + v0)]) C rfl (ctX11_isName (zG_of C) v0 v2.toInt64 h0 M) cw_RX11_228 rfl (okM_X11_isName) rfl cl11 h0 (okR_of rfl) (Nat.le_of_ble_eq_true rfl) dX11_blame_29 (fun qj3 _ => ?_)
      refine z_if_eqB C 39 dX11_blame_32 rfl (fun _ => ?_) (fun _ => ?_)
      · refine z_iconst C dX11_blame_35 rfl ?_
        refine z_goto C 40 dX11_blame_36 rfl ?_
        exact z_jump (ls1 := [(0, .ref (B + v0)), (1, .int v1), (2, .int v2)]) (Nat.le_of_ble_eq_true rfl) [0, 1, 2] rfl (z_fX11_blame_b40 C ht hr N v0 v1 v2 (0 : Int32) v0 M h0 h0)
      · refine z_iconst C dX11_blame_39 rfl ?_
        exact z_jump (ls1 := [(0, .ref (B + v0)), (1, .int v1), (2, .int v2)]) (Nat.le_of_ble_eq_true rfl) [0, 1, 2] rfl (z_fX11_blame_b40 C ht hr N v0 v1 v2 (3 : Int32) v0 M h0 h0)
    · refine z_iconst C dX11_blame_22 rfl ?_
      refine z_goto C 40 dX11_blame_23 rfl ?_
      exact z_jump (ls1 := [(0, .ref (B + v0)), (1, .int v1), (2, .int v2)]) (Nat.le_of_ble_eq_true rfl) [0, 1, 2] rfl (z_fX11_blame_b40 C ht hr N v0 v1 v2 (2 : Int32) v0 M h0 h0)
  · refine z_iconst C dX11_blame_9 rfl ?_
    refine z_goto C 40 dX11_blame_10 rfl ?_
    exact z_jump (ls1 := [(0, .ref (B + v0)), (1, .int v1), (2, .int v2)]) (Nat.le_of_ble_eq_true rfl) [0, 1, 2] rfl (z_fX11_blame_b40 C ht hr N v0 v1 v2 (1 : Int32) v0 M h0 h0)
set_option maxHeartbeats 4000000 in
set_option maxRecDepth 100000 in
theorem z_fX11_liesBy_b51 {p : Program} {l : Launch} {e : Env} {s : State} {m : MethodId} {args : Array Value} {below : List Frame} {meth : Method} {c : Code} {D : va_G} {cy : Nat → ClassId} {B : Nat} {kd : Nat → Nat} {n : Nat} {sa sv : Nat → Nat} (C : zC p l s m args meth c D cy B kd n sa sv RX11 cX11_liesBy 6) (ht : ∀ x ∈ c.exceptionTable.toList, False) (hr : meth.sig.returnType = some (FieldType.int)) {b0 : Int32 × Mem}  (N : Nat) (k12 : Int32 → Int32 → Mem → Option (Int32 × Mem)) (v0 : Nat) (v1 : Int32) (v2 : Int32) (v3 : Int32) (v5 : Int32) (s0 : Bool) (s1 : Int32) (M : Mem) (h0 : kd v0 = 11) (hk12 : ∀ (v4 : Int32) (v5 : Int32) (M : Mem), Z p l e (rmz 4 0) s m args below meth c (vx_MQ below (QcR D cy B kd n (cvI b0)) (XcR D cy B kd n (cvI b0)) args s 0 (6 * 0) (AA B kd n)) D cy B kd n 6 b0 0 12 [(0, .ref (B + v0)), (1, .int v1), (2, .int v2), (3, .int v3), (4, .int v4), (5, .int v5)] [] M (k12 v4 v5 M)) : Z p l e (rmz 4 0) s m args below meth c (vx_MQ below (QcR D cy B kd n (cvI b0)) (XcR D cy B kd n (cvI b0)) args s 0 (6 * 0) (AA B kd n)) D cy B kd n 6 b0 0 51 [(0, .ref (B + v0)), (1, .int v1), (2, .int v2), (3, .int v3), (5, .int v5)] [.int (bI s0), .int s1] M (fX11_liesBy_b51 N k12 v0 v1 v2 v3 v5 s0 s1 M) := by
  unfold fX11_liesBy_b51
  refine z_iadd C dX11_liesBy_51 ?_
  refine z_istore C 4 (ls1 := [(4, .int (s1 + (bI s0))), (0, .ref (B + v0)), (1, .int v1), (2, .int v2), (3, .int v3), (5, .int v5)]) dX11_liesBy_52 (by decide) rfl ?_
  refine z_iinc C 5 5 (v := v5) (v1 := (v5 + (1 : Int32))) (ls1 := [(5, .int (v5 + (1 : Int32))), (4, .int (s1 + (bI s0))), (0, .ref (B + v0)), (1, .int v1), (2, .int v2), (3, .int v3)]) dX11_liesBy_54 rfl rfl (by decide) rfl ?_
  refine z_goto C 12 dX11_liesBy_57 rfl ?_
  exact z_jump (ls1 := [(0, .ref (B + v0)), (1, .int v1), (2, .int v2), (3, .int v3), (4, .int (s1 + (bI s0))), (5, .int (v5 + (1 : Int32)))]) (Nat.le_of_ble_eq_true rfl) [2, 3, 4, 5, 1, 0] rfl (hk12 (s1 + (bI s0)) (v5 + (1 : Int32)) M)
set_option maxHeartbeats 4000000 in
set_option maxRecDepth 100000 in
theorem z_fX11_liesBy_b50 {p : Program} {l : Launch} {e : Env} {s : State} {m : MethodId} {args : Array Value} {below : List Frame} {meth : Method} {c : Code} {D : va_G} {cy : Nat → ClassId} {B : Nat} {kd : Nat → Nat} {n : Nat} {sa sv : Nat → Nat} (C : zC p l s m args meth c D cy B kd n sa sv RX11 cX11_liesBy 6) (ht : ∀ x ∈ c.exceptionTable.toList, False) (hr : meth.sig.returnType = some (FieldType.int)) {b0 : Int32 × Mem}  (N : Nat) (k12 : Int32 → Int32 → Mem → Option (Int32 × Mem)) (v0 : Nat) (v1 : Int32) (v2 : Int32) (v3 : Int32) (v5 : Int32) (s0 : Int32) (M : Mem) (h0 : kd v0 = 11) (hk12 : ∀ (v4 : Int32) (v5 : Int32) (M : Mem), Z p l e (rmz 4 0) s m args below meth c (vx_MQ below (QcR D cy B kd n (cvI b0)) (XcR D cy B kd n (cvI b0)) args s 0 (6 * 0) (AA B kd n)) D cy B kd n 6 b0 0 12 [(0, .ref (B + v0)), (1, .int v1), (2, .int v2), (3, .int v3), (4, .int v4), (5, .int v5)] [] M (k12 v4 v5 M)) : Z p l e (rmz 4 0) s m args below meth c (vx_MQ below (QcR D cy B kd n (cvI b0)) (XcR D cy B kd n (cvI b0)) args s 0 (6 * 0) (AA B kd n)) D cy B kd n 6 b0 0 50 [(0, .ref (B + v0)), (1, .int v1), (2, .int v2), (3, .int v3), (5, .int v5)] [.int s0] M (fX11_liesBy_b50 N k12 v0 v1 v2 v3 v5 s0 M) := by
  unfold fX11_liesBy_b50
  refine z_iconst C dX11_liesBy_50 rfl ?_
  exact z_jump (ls1 := [(0, .ref (B + v0)), (1, .int v1), (2, .int v2), (3, .int v3), (5, .int v5)]) (Nat.le_of_ble_eq_true rfl) [0, 1, 2, 3, 4] rfl (z_fX11_liesBy_b51 C ht hr N k12 v0 v1 v2 v3 v5 false s0 M h0 hk12)
set_option maxHeartbeats 4000000 in
set_option maxRecDepth 100000 in
theorem z_fX11_liesBy_l12_s {p : Program} {l : Launch} {e : Env} {s : State} {m : MethodId} {args : Array Value} {below : List Frame} {meth : Method} {c : Code} {D : va_G} {cy : Nat → ClassId} {B : Nat} {kd : Nat → Nat} {n : Nat} {sa sv : Nat → Nat} (C : zC p l s m args meth c D cy B kd n sa sv RX11 cX11_liesBy 6) (ht : ∀ x ∈ c.exceptionTable.toList, False) (hr : meth.sig.returnType = some (FieldType.int)) {b0 : Int32 × Mem} (N : Nat) (v0 : Nat) (v1 : Int32) (v2 : Int32) (v3 : Int32) (k12 : Int32 → Int32 → Mem → Option (Int32 × Mem)) (v4 : Int32) (v5 : Int32) (M : Mem) (h0 : kd v0 = 11)  (hk12 : ∀ (v4 : Int32) (v5 : Int32) (M : Mem), Z p l e (rmz 4 0) s m args below meth c (vx_MQ below (QcR D cy B kd n (cvI b0)) (XcR D cy B kd n (cvI b0)) args s 0 (6 * 0) (AA B kd n)) D cy B kd n 6 b0 0 12 [(0, .ref (B + v0)), (1, .int v1), (2, .int v2), (3, .int v3), (4, .int v4), (5, .int v5)] [] M (k12 v4 v5 M)) : Z p l e (rmz 4 0) s m args below meth c (vx_MQ below (QcR D cy B kd n (cvI b0)) (XcR D cy B kd n (cvI b0)) args s 0 (6 * 0) (AA B kd n)) D cy B kd n 6 b0 0 12 [(0, .ref (B + v0)), (1, .int v1), (2, .int v2), (3, .int v3), (4, .int v4), (5, .int v5)] [] M (fX11_liesBy_l12_s N v0 v1 v2 v3 k12 v4 v5 M) := by
  unfold fX11_liesBy_l12_s
  refine z_iload C 5 dX11_liesBy_12 rfl ?_
  refine z_aload_n C 0 0 dX11_liesBy_14 rfl rfl ?_
  refine z_getR (k := 0) C cl11 h0 rfl gw_7_10 rfl dX11_liesBy_15 ?_
  have j1 : kd (v0 + 1) = 36 := zkd C h0 (k := 0) rfl
  refine z_iconst C dX11_liesBy_18 rfl ?_
  refine z_iald C j1 rfl (by decide) dX11_liesBy_19 (fun j2 => ?_)
  refine z_icmp_ge C 60 dX11_liesBy_20 rfl (fun _ => ?_) (fun _ => ?_)
  · refine z_iload C 4 dX11_liesBy_60 rfl ?_
    exact z_iret C hr (Nat.le_of_ble_eq_true rfl) dX11_liesBy_62 rfl
  · refine z_iload C 4 dX11_liesBy_23 rfl ?_
    refine z_aload_n C 0 0 dX11_liesBy_25 rfl rfl ?_
    refine z_iload_n C 1 1 dX11_liesBy_26 rfl rfl ?_
    refine z_iload C 5 dX11_liesBy_27 rfl ?_
    refine z_callV_pB (As := [.int v1, .int v5]) (rest := [.int v4]) C rfl (ctX11_isIn (zG_of C) v0 v1 v5 h0 M) cw_RX11_300 rfl (okM_X11_isIn) rfl cl11 h0 (okR_of rfl) (Nat.le_of_ble_eq_true rfl) dX11_liesBy_29 (fun qj3 _ => ?_)
    refine z_if_neB C 50 dX11_liesBy_32 rfl (fun _ => ?_) (fun _ => ?_)
    · exact z_jump (ls1 := [(0, .ref (B + v0)), (1, .int v1), (2, .int v2), (3, .int v3), (5, .int v5)]) (Nat.le_of_ble_eq_true rfl) [0, 1, 2, 3, 5] rfl (z_fX11_liesBy_b50 C ht hr N k12 v0 v1 v2 v3 v5 v4 M h0 hk12)
    · refine z_aload_n C 0 0 dX11_liesBy_35 rfl rfl ?_
      refine z_iload_n C 2 2 dX11_liesBy_36 rfl rfl ?_
      refine z_iload_n C 3 3 dX11_liesBy_37 rfl rfl ?_
      refine z_iload C 5 dX11_liesBy_38 rfl ?_
      refine z_callV_B (As := [.int v2, .int v3, .int v5]) (rest := [.int v4]) C rfl (ctX11_isSaid (zG_of C) N v0 v2 v3 v5 h0 M) cw_RX11_358 rfl (okM_X11_isSaid) rfl cl11 h0 (okR_of rfl) (Nat.le_of_ble_eq_true rfl) dX11_liesBy_40 (fun qj4 _ => ?_)
      refine z_if_eqB C 50 dX11_liesBy_43 rfl (fun _ => ?_) (fun _ => ?_)
      · refine z_iconst C dX11_liesBy_46 rfl ?_
        refine z_goto C 51 dX11_liesBy_47 rfl ?_
        exact z_jump (ls1 := [(0, .ref (B + v0)), (1, .int v1), (2, .int v2), (3, .int v3), (5, .int v5)]) (Nat.le_of_ble_eq_true rfl) [0, 1, 2, 3, 5] rfl (z_fX11_liesBy_b51 C ht hr N k12 v0 v1 v2 v3 v5 true v4 qj4.2 h0 hk12)
      · exact z_jump (ls1 := [(0, .ref (B + v0)), (1, .int v1), (2, .int v2), (3, .int v3), (5, .int v5)]) (Nat.le_of_ble_eq_true rfl) [0, 1, 2, 3, 5] rfl (z_fX11_liesBy_b50 C ht hr N k12 v0 v1 v2 v3 v5 v4 qj4.2 h0 hk12)
theorem z_fX11_liesBy_l12_i {p : Program} {l : Launch} {e : Env} {s : State} {m : MethodId} {args : Array Value} {below : List Frame} {meth : Method} {c : Code} {D : va_G} {cy : Nat → ClassId} {B : Nat} {kd : Nat → Nat} {n : Nat} {sa sv : Nat → Nat} (C : zC p l s m args meth c D cy B kd n sa sv RX11 cX11_liesBy 6) (ht : ∀ x ∈ c.exceptionTable.toList, False) (hr : meth.sig.returnType = some (FieldType.int)) {b0 : Int32 × Mem} (N : Nat) (v0 : Nat) (v1 : Int32) (v2 : Int32) (v3 : Int32) (h0 : kd v0 = 11)  (fu : Nat) : ∀ (v4 : Int32) (v5 : Int32) (M : Mem), Z p l e (rmz 4 0) s m args below meth c (vx_MQ below (QcR D cy B kd n (cvI b0)) (XcR D cy B kd n (cvI b0)) args s 0 (6 * 0) (AA B kd n)) D cy B kd n 6 b0 0 12 [(0, .ref (B + v0)), (1, .int v1), (2, .int v2), (3, .int v3), (4, .int v4), (5, .int v5)] [] M (fX11_liesBy_l12 N v0 v1 v2 v3 fu v4 v5 M) := by
  induction fu with
  | zero => intro v4 v5 M; exact z_none
  | succ fu ih => intro v4 v5 M; exact z_fX11_liesBy_l12_s C ht hr N v0 v1 v2 v3 (fX11_liesBy_l12 N v0 v1 v2 v3 fu) v4 v5 M h0 (fun v4 v5 M => ih v4 v5 M)
theorem z_fX11_liesBy_l12 {p : Program} {l : Launch} {e : Env} {s : State} {m : MethodId} {args : Array Value} {below : List Frame} {meth : Method} {c : Code} {D : va_G} {cy : Nat → ClassId} {B : Nat} {kd : Nat → Nat} {n : Nat} {sa sv : Nat → Nat} (C : zC p l s m args meth c D cy B kd n sa sv RX11 cX11_liesBy 6) (ht : ∀ x ∈ c.exceptionTable.toList, False) (hr : meth.sig.returnType = some (FieldType.int)) {b0 : Int32 × Mem} (N : Nat) (v0 : Nat) (v1 : Int32) (v2 : Int32) (v3 : Int32) (fu : Nat) (v4 : Int32) (v5 : Int32) (M : Mem) (h0 : kd v0 = 11)  : Z p l e (rmz 4 0) s m args below meth c (vx_MQ below (QcR D cy B kd n (cvI b0)) (XcR D cy B kd n (cvI b0)) args s 0 (6 * 0) (AA B kd n)) D cy B kd n 6 b0 0 12 [(0, .ref (B + v0)), (1, .int v1), (2, .int v2), (3, .int v3), (4, .int v4), (5, .int v5)] [] M (fX11_liesBy_l12 N v0 v1 v2 v3 fu v4 v5 M) := z_fX11_liesBy_l12_i C ht hr N v0 v1 v2 v3 h0 fu v4 v5 M
set_option maxHeartbeats 4000000 in
set_option maxRecDepth 100000 in
theorem ctX11_liesBy {l : Launch} {D : va_G} {cy : Nat → ClassId} {B : Nat} {kd : Nat → Nat} {n : Nat} {sa sv : Nat → Nat} (G : zG l kd n) (N : Nat) (v0 : Nat) (v1 : Int32) (v2 : Int32) (v3 : Int32) (h0 : kd v0 = 11) (M : Mem) : CT l D cy B kd n sa sv 4 0 yX11_liesBy cX11_liesBy 6 (some (FieldType.int)) cvI [.ref (B + v0), .int v1, .int v2, .int v3] M (fX11_liesBy N v0 v1 v2 v3 M) := by
  refine ct_of (by decide) G.1 G.2 (Nat.le_of_ble_eq_true rfl) (ls := [(0, .ref (B + v0)), (1, .int v1), (2, .int v2), (3, .int v3)]) rfl ?_
  intro p e s m args below meth c b0 C ht hr
  unfold fX11_liesBy
  refine z_aload_n C 0 0 dX11_liesBy_0 rfl rfl ?_
  refine z_iload_n C 2 2 dX11_liesBy_1 rfl rfl ?_
  refine z_iload_n C 3 3 dX11_liesBy_2 rfl rfl ?_
  refine z_callV_V (As := [.int v2, .int v3]) (rest := []) C rfl (ctX11_layBits (zG_of C) N v0 v2 v3 h0 M) cw_RX11_355 rfl (okM_X11_layBits) rfl cl11 h0 (okR_of rfl) (Nat.le_of_ble_eq_true rfl) dX11_liesBy_3 (fun qj1 _ => ?_)
  refine z_iconst C dX11_liesBy_6 rfl ?_
  refine z_istore C 4 (ls1 := [(4, .int (0 : Int32)), (0, .ref (B + v0)), (1, .int v1), (2, .int v2), (3, .int v3)]) dX11_liesBy_7 (by decide) rfl ?_
  refine z_iconst C dX11_liesBy_9 rfl ?_
  refine z_istore C 5 (ls1 := [(5, .int (0 : Int32)), (4, .int (0 : Int32)), (0, .ref (B + v0)), (1, .int v1), (2, .int v2), (3, .int v3)]) dX11_liesBy_10 (by decide) rfl ?_
  exact z_jump (ls1 := [(0, .ref (B + v0)), (1, .int v1), (2, .int v2), (3, .int v3), (4, .int (0 : Int32)), (5, .int (0 : Int32))]) (Nat.le_of_ble_eq_true rfl) [2, 3, 4, 5, 1, 0] rfl (z_fX11_liesBy_l12 C ht hr N v0 v1 v2 v3 N (0 : Int32) (0 : Int32) qj1 h0)
set_option maxHeartbeats 4000000 in
set_option maxRecDepth 100000 in
theorem z_fX11_choose_b168 {p : Program} {l : Launch} {e : Env} {s : State} {m : MethodId} {args : Array Value} {below : List Frame} {meth : Method} {c : Code} {D : va_G} {cy : Nat → ClassId} {B : Nat} {kd : Nat → Nat} {n : Nat} {sa sv : Nat → Nat} (C : zC p l s m args meth c D cy B kd n sa sv RX11 cX11_choose 11) (ht : ∀ x ∈ c.exceptionTable.toList, False) (hr : meth.sig.returnType = some (FieldType.int)) {b0 : Int32 × Mem}  (N : Nat) (k71 : Int32 → Int32 → Int32 → Int32 → Mem → Option (Int32 × Mem)) (k81 : Int32 → Int32 → Int32 → Int32 → Mem → Option (Int32 × Mem)) (v0 : Nat) (v1 : Int32) (v2 : Int32) (v3 : Int32) (v4 : Int32) (v5 : Int32) (v6 : Int32) (v7 : Int32) (v8 : Int32) (M : Mem) (h0 : kd v0 = 11) (hk71 : ∀ (v4 : Int32) (v5 : Int32) (v6 : Int32) (v7 : Int32) (M : Mem), Z p l e (rmz 5 0) s m args below meth c (vx_MQ below (QcR D cy B kd n (cvI b0)) (XcR D cy B kd n (cvI b0)) args s 0 (6 * 0) (AA B kd n)) D cy B kd n 11 b0 0 71 [(0, .ref (B + v0)), (1, .int v1), (2, .int v2), (3, .int v3), (4, .int v4), (5, .int v5), (6, .int v6), (7, .int v7)] [] M (k71 v4 v5 v6 v7 M)) (hk81 : ∀ (v4 : Int32) (v5 : Int32) (v6 : Int32) (v8 : Int32) (M : Mem), Z p l e (rmz 5 0) s m args below meth c (vx_MQ below (QcR D cy B kd n (cvI b0)) (XcR D cy B kd n (cvI b0)) args s 0 (6 * 0) (AA B kd n)) D cy B kd n 11 b0 0 81 [(0, .ref (B + v0)), (1, .int v1), (2, .int v2), (3, .int v3), (4, .int v4), (5, .int v5), (6, .int v6), (7, .int v7), (8, .int v8)] [] M (k81 v4 v5 v6 v8 M)) : Z p l e (rmz 5 0) s m args below meth c (vx_MQ below (QcR D cy B kd n (cvI b0)) (XcR D cy B kd n (cvI b0)) args s 0 (6 * 0) (AA B kd n)) D cy B kd n 11 b0 0 168 [(0, .ref (B + v0)), (1, .int v1), (2, .int v2), (3, .int v3), (4, .int v4), (5, .int v5), (6, .int v6), (7, .int v7), (8, .int v8)] [] M (fX11_choose_b168 N k71 k81 v0 v1 v2 v3 v4 v5 v6 v7 v8 M) := by
  unfold fX11_choose_b168
  refine z_iinc C 8 8 (v := v8) (v1 := (v8 + (8 : Int32))) (ls1 := [(8, .int (v8 + (8 : Int32))), (0, .ref (B + v0)), (1, .int v1), (2, .int v2), (3, .int v3), (4, .int v4), (5, .int v5), (6, .int v6), (7, .int v7)]) dX11_choose_168 rfl rfl (by decide) rfl ?_
  refine z_goto C 81 dX11_choose_171 rfl ?_
  exact z_jump (ls1 := [(0, .ref (B + v0)), (1, .int v1), (2, .int v2), (3, .int v3), (4, .int v4), (5, .int v5), (6, .int v6), (7, .int v7), (8, .int (v8 + (8 : Int32)))]) (Nat.le_of_ble_eq_true rfl) [1, 2, 3, 4, 5, 6, 7, 8, 0] rfl (hk81 v4 v5 v6 (v8 + (8 : Int32)) M)
set_option maxHeartbeats 4000000 in
set_option maxRecDepth 100000 in
theorem z_fX11_choose_b156 {p : Program} {l : Launch} {e : Env} {s : State} {m : MethodId} {args : Array Value} {below : List Frame} {meth : Method} {c : Code} {D : va_G} {cy : Nat → ClassId} {B : Nat} {kd : Nat → Nat} {n : Nat} {sa sv : Nat → Nat} (C : zC p l s m args meth c D cy B kd n sa sv RX11 cX11_choose 11) (ht : ∀ x ∈ c.exceptionTable.toList, False) (hr : meth.sig.returnType = some (FieldType.int)) {b0 : Int32 × Mem}  (N : Nat) (k71 : Int32 → Int32 → Int32 → Int32 → Mem → Option (Int32 × Mem)) (k81 : Int32 → Int32 → Int32 → Int32 → Mem → Option (Int32 × Mem)) (v0 : Nat) (v1 : Int32) (v2 : Int32) (v3 : Int32) (v7 : Int32) (v8 : Int32) (v9 : Int32) (v10 : Int32) (M : Mem) (h0 : kd v0 = 11) (hk71 : ∀ (v4 : Int32) (v5 : Int32) (v6 : Int32) (v7 : Int32) (M : Mem), Z p l e (rmz 5 0) s m args below meth c (vx_MQ below (QcR D cy B kd n (cvI b0)) (XcR D cy B kd n (cvI b0)) args s 0 (6 * 0) (AA B kd n)) D cy B kd n 11 b0 0 71 [(0, .ref (B + v0)), (1, .int v1), (2, .int v2), (3, .int v3), (4, .int v4), (5, .int v5), (6, .int v6), (7, .int v7)] [] M (k71 v4 v5 v6 v7 M)) (hk81 : ∀ (v4 : Int32) (v5 : Int32) (v6 : Int32) (v8 : Int32) (M : Mem), Z p l e (rmz 5 0) s m args below meth c (vx_MQ below (QcR D cy B kd n (cvI b0)) (XcR D cy B kd n (cvI b0)) args s 0 (6 * 0) (AA B kd n)) D cy B kd n 11 b0 0 81 [(0, .ref (B + v0)), (1, .int v1), (2, .int v2), (3, .int v3), (4, .int v4), (5, .int v5), (6, .int v6), (7, .int v7), (8, .int v8)] [] M (k81 v4 v5 v6 v8 M)) : Z p l e (rmz 5 0) s m args below meth c (vx_MQ below (QcR D cy B kd n (cvI b0)) (XcR D cy B kd n (cvI b0)) args s 0 (6 * 0) (AA B kd n)) D cy B kd n 11 b0 0 156 [(0, .ref (B + v0)), (1, .int v1), (2, .int v2), (3, .int v3), (7, .int v7), (8, .int v8), (9, .int v9), (10, .int v10)] [] M (fX11_choose_b156 N k71 k81 v0 v1 v2 v3 v7 v8 v9 v10 M) := by
  unfold fX11_choose_b156
  refine z_iload C 7 dX11_choose_156 rfl ?_
  refine z_istore C 6 (ls1 := [(6, .int v10), (0, .ref (B + v0)), (1, .int v1), (2, .int v2), (3, .int v3), (7, .int v7), (8, .int v8), (9, .int v9), (10, .int v10)]) dX11_choose_158 (by decide) rfl ?_
  refine z_iload C 6 dX11_choose_160 rfl ?_
  refine z_istore C 4 (ls1 := [(4, .int v8), (6, .int v10), (0, .ref (B + v0)), (1, .int v1), (2, .int v2), (3, .int v3), (7, .int v7), (8, .int v8), (9, .int v9), (10, .int v10)]) dX11_choose_162 (by decide) rfl ?_
  refine z_iload C 8 dX11_choose_164 rfl ?_
  refine z_istore C 5 (ls1 := [(5, .int v9), (4, .int v8), (6, .int v10), (0, .ref (B + v0)), (1, .int v1), (2, .int v2), (3, .int v3), (7, .int v7), (8, .int v8), (9, .int v9), (10, .int v10)]) dX11_choose_166 (by decide) rfl ?_
  exact z_jump (ls1 := [(0, .ref (B + v0)), (1, .int v1), (2, .int v2), (3, .int v3), (4, .int v8), (5, .int v9), (6, .int v10), (7, .int v7), (8, .int v8)]) (Nat.le_of_ble_eq_true rfl) [3, 4, 5, 6, 1, 0, 2, 7, 8] rfl (z_fX11_choose_b168 C ht hr N k71 k81 v0 v1 v2 v3 v8 v9 v10 v7 v8 M h0 hk71 hk81)
set_option maxHeartbeats 4000000 in
set_option maxRecDepth 100000 in
theorem z_fX11_choose_l81_s {p : Program} {l : Launch} {e : Env} {s : State} {m : MethodId} {args : Array Value} {below : List Frame} {meth : Method} {c : Code} {D : va_G} {cy : Nat → ClassId} {B : Nat} {kd : Nat → Nat} {n : Nat} {sa sv : Nat → Nat} (C : zC p l s m args meth c D cy B kd n sa sv RX11 cX11_choose 11) (ht : ∀ x ∈ c.exceptionTable.toList, False) (hr : meth.sig.returnType = some (FieldType.int)) {b0 : Int32 × Mem} (N : Nat) (k71 : Int32 → Int32 → Int32 → Int32 → Mem → Option (Int32 × Mem)) (v0 : Nat) (v1 : Int32) (v2 : Int32) (v3 : Int32) (v7 : Int32) (k81 : Int32 → Int32 → Int32 → Int32 → Mem → Option (Int32 × Mem)) (v4 : Int32) (v5 : Int32) (v6 : Int32) (v8 : Int32) (M : Mem) (h0 : kd v0 = 11) (hk71 : ∀ (v4 : Int32) (v5 : Int32) (v6 : Int32) (v7 : Int32) (M : Mem), Z p l e (rmz 5 0) s m args below meth c (vx_MQ below (QcR D cy B kd n (cvI b0)) (XcR D cy B kd n (cvI b0)) args s 0 (6 * 0) (AA B kd n)) D cy B kd n 11 b0 0 71 [(0, .ref (B + v0)), (1, .int v1), (2, .int v2), (3, .int v3), (4, .int v4), (5, .int v5), (6, .int v6), (7, .int v7)] [] M (k71 v4 v5 v6 v7 M)) (hk81 : ∀ (v4 : Int32) (v5 : Int32) (v6 : Int32) (v8 : Int32) (M : Mem), Z p l e (rmz 5 0) s m args below meth c (vx_MQ below (QcR D cy B kd n (cvI b0)) (XcR D cy B kd n (cvI b0)) args s 0 (6 * 0) (AA B kd n)) D cy B kd n 11 b0 0 81 [(0, .ref (B + v0)), (1, .int v1), (2, .int v2), (3, .int v3), (4, .int v4), (5, .int v5), (6, .int v6), (7, .int v7), (8, .int v8)] [] M (k81 v4 v5 v6 v8 M)) : Z p l e (rmz 5 0) s m args below meth c (vx_MQ below (QcR D cy B kd n (cvI b0)) (XcR D cy B kd n (cvI b0)) args s 0 (6 * 0) (AA B kd n)) D cy B kd n 11 b0 0 81 [(0, .ref (B + v0)), (1, .int v1), (2, .int v2), (3, .int v3), (4, .int v4), (5, .int v5), (6, .int v6), (7, .int v7), (8, .int v8)] [] M (fX11_choose_l81_s N k71 v0 v1 v2 v3 v7 k81 v4 v5 v6 v8 M) := by
  unfold fX11_choose_l81_s
  refine z_iload C 8 dX11_choose_81 rfl ?_
  refine z_bipush (v := 64) C dX11_choose_83 rfl ?_
  refine z_icmp_gt C 174 dX11_choose_85 rfl (fun _ => ?_) (fun _ => ?_)
  · refine z_iinc C 7 7 (v := v7) (v1 := (v7 + (1 : Int32))) (ls1 := [(7, .int (v7 + (1 : Int32))), (0, .ref (B + v0)), (1, .int v1), (2, .int v2), (3, .int v3), (4, .int v4), (5, .int v5), (6, .int v6), (8, .int v8)]) dX11_choose_174 rfl rfl (by decide) rfl ?_
    refine z_goto C 71 dX11_choose_177 rfl ?_
    exact z_jump (ls1 := [(0, .ref (B + v0)), (1, .int v1), (2, .int v2), (3, .int v3), (4, .int v4), (5, .int v5), (6, .int v6), (7, .int (v7 + (1 : Int32)))]) (Nat.le_of_ble_eq_true rfl) [1, 2, 3, 4, 5, 6, 7, 0] rfl (hk71 v4 v5 v6 (v7 + (1 : Int32)) M)
  · refine z_iload C 7 dX11_choose_88 rfl ?_
    refine z_iload C 8 dX11_choose_90 rfl ?_
    refine z_isub C dX11_choose_92 ?_
    refine z_iconst C dX11_choose_93 rfl ?_
    refine z_idivK C dX11_choose_94 (by decide) ?_
    refine z_istore C 9 (ls1 := [(9, .int ((v7 - v8) / (4 : Int32))), (0, .ref (B + v0)), (1, .int v1), (2, .int v2), (3, .int v3), (4, .int v4), (5, .int v5), (6, .int v6), (7, .int v7), (8, .int v8)]) dX11_choose_95 (by decide) rfl ?_
    refine z_iload C 9 dX11_choose_97 rfl ?_
    refine z_iconst C dX11_choose_99 rfl ?_
    refine z_iload C 0 dX11_choose_100 rfl ?_
    refine z_imul C dX11_choose_102 ?_
    refine z_iadd C dX11_choose_103 ?_
    refine z_iload C 8 dX11_choose_104 rfl ?_
    refine z_icmp_ne C 168 dX11_choose_106 rfl (fun _ => ?_) (fun _ => ?_)
    · refine z_iload C 0 dX11_choose_109 rfl ?_
      refine z_i2l C dX11_choose_111 ?_
      refine z_lconst (v := 1) C dX11_choose_112 rfl ?_
      refine z_aload_n C 0 1 dX11_choose_113 rfl rfl ?_
      refine z_getR (k := 0) C cl11 h0 rfl gw_7_10 rfl dX11_choose_114 ?_
      have j1 : kd (v0 + 1) = 36 := zkd C h0 (k := 0) rfl
      refine z_iconst C dX11_choose_117 rfl ?_
      refine z_iald C j1 rfl (by decide) dX11_choose_118 (fun j2 => ?_)
      refine z_i2l C dX11_choose_119 ?_
      refine z_callS_pB (As := [.long ((v7 - v8) / (4 : Int32)).toInt64, .long (1 : Int64), .long (rI M (v0 + 1) (3 : Int32).toNatClampNeg).toInt64]) (rest := []) C rfl (ctX11_within (zG_of C) (((v7 - v8) / (4 : Int32)).toInt64) (1 : Int64) ((rI M (v0 + 1) (3 : Int32).toNatClampNeg).toInt64) M) cw_RX11_157 (okM_X11_within) rfl (okR_of rfl) (Nat.le_of_ble_eq_true rfl) dX11_choose_120 (fun qj3 _ => ?_)
      refine z_if_neB C 129 dX11_choose_123 rfl (fun _ => ?_) (fun _ => ?_)
      · refine z_aload_n C 0 1 dX11_choose_129 rfl rfl ?_
        refine z_iload_n C 1 2 dX11_choose_130 rfl rfl ?_
        refine z_iload C 9 dX11_choose_131 rfl ?_
        refine z_iload C 0 dX11_choose_133 rfl ?_
        refine z_callV_I (As := [.int v1, .int v8, .int ((v7 - v8) / (4 : Int32))]) (rest := []) C rfl (ctX11_liesBy (zG_of C) N v0 v1 v8 ((v7 - v8) / (4 : Int32)) h0 M) cw_RX11_375 rfl (okM_X11_liesBy) rfl cl11 h0 (okR_of rfl) (Nat.le_of_ble_eq_true rfl) dX11_choose_135 (fun qj4 _ => ?_)
        refine z_istore C 10 (ls1 := [(10, .int qj4.1), (9, .int ((v7 - v8) / (4 : Int32))), (0, .ref (B + v0)), (1, .int v1), (2, .int v2), (3, .int v3), (4, .int v4), (5, .int v5), (6, .int v6), (7, .int v7), (8, .int v8)]) dX11_choose_138 (by decide) rfl ?_
        refine z_iload C 8 dX11_choose_140 rfl ?_
        refine z_iconst C dX11_choose_142 rfl ?_
        refine z_icmp_eq C 156 dX11_choose_143 rfl (fun _ => ?_) (fun _ => ?_)
        · exact z_jump (ls1 := [(0, .ref (B + v0)), (1, .int v1), (2, .int v2), (3, .int v3), (7, .int v7), (8, .int v8), (9, .int ((v7 - v8) / (4 : Int32))), (10, .int qj4.1)]) (Nat.le_of_ble_eq_true rfl) [2, 3, 4, 5, 9, 10, 1, 0] rfl (z_fX11_choose_b156 C ht hr N k71 k81 v0 v1 v2 v3 v7 v8 ((v7 - v8) / (4 : Int32)) qj4.1 qj4.2 h0 hk71 hk81)
        · refine z_iload C 0 dX11_choose_146 rfl ?_
          refine z_iload C 8 dX11_choose_148 rfl ?_
          refine z_icmp_lt C 156 dX11_choose_150 rfl (fun _ => ?_) (fun _ => ?_)
          · exact z_jump (ls1 := [(0, .ref (B + v0)), (1, .int v1), (2, .int v2), (3, .int v3), (7, .int v7), (8, .int v8), (9, .int ((v7 - v8) / (4 : Int32))), (10, .int qj4.1)]) (Nat.le_of_ble_eq_true rfl) [2, 3, 4, 5, 9, 10, 1, 0] rfl (z_fX11_choose_b156 C ht hr N k71 k81 v0 v1 v2 v3 v7 v8 ((v7 - v8) / (4 : Int32)) qj4.1 qj4.2 h0 hk71 hk81)
          · refine z_goto C 168 dX11_choose_153 rfl ?_
            exact z_jump (ls1 := [(0, .ref (B + v0)), (1, .int v1), (2, .int v2), (3, .int v3), (4, .int v4), (5, .int v5), (6, .int v6), (7, .int v7), (8, .int v8)]) (Nat.le_of_ble_eq_true rfl) [2, 3, 4, 5, 6, 7, 8, 9, 10] rfl (z_fX11_choose_b168 C ht hr N k71 k81 v0 v1 v2 v3 v4 v5 v6 v7 v8 qj4.2 h0 hk71 hk81)
      · refine z_goto C 168 dX11_choose_126 rfl ?_
        exact z_jump (ls1 := [(0, .ref (B + v0)), (1, .int v1), (2, .int v2), (3, .int v3), (4, .int v4), (5, .int v5), (6, .int v6), (7, .int v7), (8, .int v8)]) (Nat.le_of_ble_eq_true rfl) [1, 2, 3, 4, 5, 6, 7, 8, 9] rfl (z_fX11_choose_b168 C ht hr N k71 k81 v0 v1 v2 v3 v4 v5 v6 v7 v8 M h0 hk71 hk81)
    · exact z_jump (ls1 := [(0, .ref (B + v0)), (1, .int v1), (2, .int v2), (3, .int v3), (4, .int v4), (5, .int v5), (6, .int v6), (7, .int v7), (8, .int v8)]) (Nat.le_of_ble_eq_true rfl) [1, 2, 3, 4, 5, 6, 7, 8, 9] rfl (z_fX11_choose_b168 C ht hr N k71 k81 v0 v1 v2 v3 v4 v5 v6 v7 v8 M h0 hk71 hk81)
theorem z_fX11_choose_l81_i {p : Program} {l : Launch} {e : Env} {s : State} {m : MethodId} {args : Array Value} {below : List Frame} {meth : Method} {c : Code} {D : va_G} {cy : Nat → ClassId} {B : Nat} {kd : Nat → Nat} {n : Nat} {sa sv : Nat → Nat} (C : zC p l s m args meth c D cy B kd n sa sv RX11 cX11_choose 11) (ht : ∀ x ∈ c.exceptionTable.toList, False) (hr : meth.sig.returnType = some (FieldType.int)) {b0 : Int32 × Mem} (N : Nat) (k71 : Int32 → Int32 → Int32 → Int32 → Mem → Option (Int32 × Mem)) (v0 : Nat) (v1 : Int32) (v2 : Int32) (v3 : Int32) (v7 : Int32) (h0 : kd v0 = 11) (hk71 : ∀ (v4 : Int32) (v5 : Int32) (v6 : Int32) (v7 : Int32) (M : Mem), Z p l e (rmz 5 0) s m args below meth c (vx_MQ below (QcR D cy B kd n (cvI b0)) (XcR D cy B kd n (cvI b0)) args s 0 (6 * 0) (AA B kd n)) D cy B kd n 11 b0 0 71 [(0, .ref (B + v0)), (1, .int v1), (2, .int v2), (3, .int v3), (4, .int v4), (5, .int v5), (6, .int v6), (7, .int v7)] [] M (k71 v4 v5 v6 v7 M)) (fu : Nat) : ∀ (v4 : Int32) (v5 : Int32) (v6 : Int32) (v8 : Int32) (M : Mem), Z p l e (rmz 5 0) s m args below meth c (vx_MQ below (QcR D cy B kd n (cvI b0)) (XcR D cy B kd n (cvI b0)) args s 0 (6 * 0) (AA B kd n)) D cy B kd n 11 b0 0 81 [(0, .ref (B + v0)), (1, .int v1), (2, .int v2), (3, .int v3), (4, .int v4), (5, .int v5), (6, .int v6), (7, .int v7), (8, .int v8)] [] M (fX11_choose_l81 N k71 v0 v1 v2 v3 v7 fu v4 v5 v6 v8 M) := by
  induction fu with
  | zero => intro v4 v5 v6 v8 M; exact z_none
  | succ fu ih => intro v4 v5 v6 v8 M; exact z_fX11_choose_l81_s C ht hr N k71 v0 v1 v2 v3 v7 (fX11_choose_l81 N k71 v0 v1 v2 v3 v7 fu) v4 v5 v6 v8 M h0 hk71 (fun v4 v5 v6 v8 M => ih v4 v5 v6 v8 M)
theorem z_fX11_choose_l81 {p : Program} {l : Launch} {e : Env} {s : State} {m : MethodId} {args : Array Value} {below : List Frame} {meth : Method} {c : Code} {D : va_G} {cy : Nat → ClassId} {B : Nat} {kd : Nat → Nat} {n : Nat} {sa sv : Nat → Nat} (C : zC p l s m args meth c D cy B kd n sa sv RX11 cX11_choose 11) (ht : ∀ x ∈ c.exceptionTable.toList, False) (hr : meth.sig.returnType = some (FieldType.int)) {b0 : Int32 × Mem} (N : Nat) (k71 : Int32 → Int32 → Int32 → Int32 → Mem → Option (Int32 × Mem)) (v0 : Nat) (v1 : Int32) (v2 : Int32) (v3 : Int32) (v7 : Int32) (fu : Nat) (v4 : Int32) (v5 : Int32) (v6 : Int32) (v8 : Int32) (M : Mem) (h0 : kd v0 = 11) (hk71 : ∀ (v4 : Int32) (v5 : Int32) (v6 : Int32) (v7 : Int32) (M : Mem), Z p l e (rmz 5 0) s m args below meth c (vx_MQ below (QcR D cy B kd n (cvI b0)) (XcR D cy B kd n (cvI b0)) args s 0 (6 * 0) (AA B kd n)) D cy B kd n 11 b0 0 71 [(0, .ref (B + v0)), (1, .int v1), (2, .int v2), (3, .int v3), (4, .int v4), (5, .int v5), (6, .int v6), (7, .int v7)] [] M (k71 v4 v5 v6 v7 M)) : Z p l e (rmz 5 0) s m args below meth c (vx_MQ below (QcR D cy B kd n (cvI b0)) (XcR D cy B kd n (cvI b0)) args s 0 (6 * 0) (AA B kd n)) D cy B kd n 11 b0 0 81 [(0, .ref (B + v0)), (1, .int v1), (2, .int v2), (3, .int v3), (4, .int v4), (5, .int v5), (6, .int v6), (7, .int v7), (8, .int v8)] [] M (fX11_choose_l81 N k71 v0 v1 v2 v3 v7 fu v4 v5 v6 v8 M) := z_fX11_choose_l81_i C ht hr N k71 v0 v1 v2 v3 v7 h0 hk71 fu v4 v5 v6 v8 M
set_option maxHeartbeats 4000000 in
set_option maxRecDepth 100000 in
theorem z_fX11_choose_l71_s {p : Program} {l : Launch} {e : Env} {s : State} {m : MethodId} {args : Array Value} {below : List Frame} {meth : Method} {c : Code} {D : va_G} {cy : Nat → ClassId} {B : Nat} {kd : Nat → Nat} {n : Nat} {sa sv : Nat → Nat} (C : zC p l s m args meth c D cy B kd n sa sv RX11 cX11_choose 11) (ht : ∀ x ∈ c.exceptionTable.toList, False) (hr : meth.sig.returnType = some (FieldType.int)) {b0 : Int32 × Mem} (N : Nat) (v0 : Nat) (v1 : Int32) (v2 : Int32) (v3 : Int32) (k71 : Int32 → Int32 → Int32 → Int32 → Mem → Option (Int32 × Mem)) (v4 : Int32) (v5 : Int32) (v6 : Int32) (v7 : Int32) (M : Mem) (h0 : kd v0 = 11)  (hk71 : ∀ (v4 : Int32) (v5 : Int32) (v6 : Int32) (v7 : Int32) (M : Mem), Z p l e (rmz 5 0) s m args below meth c (vx_MQ below (QcR D cy B kd n (cvI b0)) (XcR D cy B kd n (cvI b0)) args s 0 (6 * 0) (AA B kd n)) D cy B kd n 11 b0 0 71 [(0, .ref (B + v0)), (1, .int v1), (2, .int v2), (3, .int v3), (4, .int v4), (5, .int v5), (6, .int v6), (7, .int v7)] [] M (k71 v4 v5 v6 v7 M)) : Z p l e (rmz 5 0) s m args below meth c (vx_MQ below (QcR D cy B kd n (cvI b0)) (XcR D cy B kd n (cvI b0)) args s 0 (6 * 0) (AA B kd n)) D cy B kd n 11 b0 0 71 [(0, .ref (B + v0)), (1, .int v1), (2, .int v2), (3, .int v3), (4, .int v4), (5, .int v5), (6, .int v6), (7, .int v7)] [] M (fX11_choose_l71_s N v0 v1 v2 v3 k71 v4 v5 v6 v7 M) := by
  unfold fX11_choose_l71_s
  refine z_iload C 7 dX11_choose_71 rfl ?_
  refine z_iload_n C 2 2 dX11_choose_73 rfl rfl ?_
  refine z_icmp_gt C 180 dX11_choose_74 rfl (fun _ => ?_) (fun _ => ?_)
  · refine z_iload_n C 3 3 dX11_choose_180 rfl rfl ?_
    refine z_if_ne C 189 dX11_choose_181 rfl (fun _ => ?_) (fun _ => ?_)
    · refine z_iload C 4 dX11_choose_184 rfl ?_
      refine z_goto C 201 dX11_choose_186 rfl ?_
      exact z_iret C hr (Nat.le_of_ble_eq_true rfl) dX11_choose_201 rfl
    · refine z_iload_n C 3 3 dX11_choose_189 rfl rfl ?_
      refine z_iconst C dX11_choose_190 rfl ?_
      refine z_icmp_ne C 199 dX11_choose_191 rfl (fun _ => ?_) (fun _ => ?_)
      · refine z_iload C 5 dX11_choose_194 rfl ?_
        refine z_goto C 201 dX11_choose_196 rfl ?_
        exact z_iret C hr (Nat.le_of_ble_eq_true rfl) dX11_choose_201 rfl
      · refine z_iload C 6 dX11_choose_199 rfl ?_
        exact z_iret C hr (Nat.le_of_ble_eq_true rfl) dX11_choose_201 rfl
  · refine z_bipush (v := 8) C dX11_choose_77 rfl ?_
    refine z_istore C 8 (ls1 := [(8, .int (8 : Int32)), (0, .ref (B + v0)), (1, .int v1), (2, .int v2), (3, .int v3), (4, .int v4), (5, .int v5), (6, .int v6), (7, .int v7)]) dX11_choose_79 (by decide) rfl ?_
    exact z_jump (ls1 := [(0, .ref (B + v0)), (1, .int v1), (2, .int v2), (3, .int v3), (4, .int v4), (5, .int v5), (6, .int v6), (7, .int v7), (8, .int (8 : Int32))]) (Nat.le_of_ble_eq_true rfl) [1, 2, 3, 4, 5, 6, 7, 8, 0] rfl (z_fX11_choose_l81 C ht hr N k71 v0 v1 v2 v3 v7 N v4 v5 v6 (8 : Int32) M h0 hk71)
theorem z_fX11_choose_l71_i {p : Program} {l : Launch} {e : Env} {s : State} {m : MethodId} {args : Array Value} {below : List Frame} {meth : Method} {c : Code} {D : va_G} {cy : Nat → ClassId} {B : Nat} {kd : Nat → Nat} {n : Nat} {sa sv : Nat → Nat} (C : zC p l s m args meth c D cy B kd n sa sv RX11 cX11_choose 11) (ht : ∀ x ∈ c.exceptionTable.toList, False) (hr : meth.sig.returnType = some (FieldType.int)) {b0 : Int32 × Mem} (N : Nat) (v0 : Nat) (v1 : Int32) (v2 : Int32) (v3 : Int32) (h0 : kd v0 = 11)  (fu : Nat) : ∀ (v4 : Int32) (v5 : Int32) (v6 : Int32) (v7 : Int32) (M : Mem), Z p l e (rmz 5 0) s m args below meth c (vx_MQ below (QcR D cy B kd n (cvI b0)) (XcR D cy B kd n (cvI b0)) args s 0 (6 * 0) (AA B kd n)) D cy B kd n 11 b0 0 71 [(0, .ref (B + v0)), (1, .int v1), (2, .int v2), (3, .int v3), (4, .int v4), (5, .int v5), (6, .int v6), (7, .int v7)] [] M (fX11_choose_l71 N v0 v1 v2 v3 fu v4 v5 v6 v7 M) := by
  induction fu with
  | zero => intro v4 v5 v6 v7 M; exact z_none
  | succ fu ih => intro v4 v5 v6 v7 M; exact z_fX11_choose_l71_s C ht hr N v0 v1 v2 v3 (fX11_choose_l71 N v0 v1 v2 v3 fu) v4 v5 v6 v7 M h0 (fun v4 v5 v6 v7 M => ih v4 v5 v6 v7 M)
theorem z_fX11_choose_l71 {p : Program} {l : Launch} {e : Env} {s : State} {m : MethodId} {args : Array Value} {below : List Frame} {meth : Method} {c : Code} {D : va_G} {cy : Nat → ClassId} {B : Nat} {kd : Nat → Nat} {n : Nat} {sa sv : Nat → Nat} (C : zC p l s m args meth c D cy B kd n sa sv RX11 cX11_choose 11) (ht : ∀ x ∈ c.exceptionTable.toList, False) (hr : meth.sig.returnType = some (FieldType.int)) {b0 : Int32 × Mem} (N : Nat) (v0 : Nat) (v1 : Int32) (v2 : Int32) (v3 : Int32) (fu : Nat) (v4 : Int32) (v5 : Int32) (v6 : Int32) (v7 : Int32) (M : Mem) (h0 : kd v0 = 11)  : Z p l e (rmz 5 0) s m args below meth c (vx_MQ below (QcR D cy B kd n (cvI b0)) (XcR D cy B kd n (cvI b0)) args s 0 (6 * 0) (AA B kd n)) D cy B kd n 11 b0 0 71 [(0, .ref (B + v0)), (1, .int v1), (2, .int v2), (3, .int v3), (4, .int v4), (5, .int v5), (6, .int v6), (7, .int v7)] [] M (fX11_choose_l71 N v0 v1 v2 v3 fu v4 v5 v6 v7 M) := z_fX11_choose_l71_i C ht hr N v0 v1 v2 v3 h0 fu v4 v5 v6 v7 M
set_option maxHeartbeats 4000000 in
set_option maxRecDepth 100000 in
theorem z_fX11_choose_b42 {p : Program} {l : Launch} {e : Env} {s : State} {m : MethodId} {args : Array Value} {below : List Frame} {meth : Method} {c : Code} {D : va_G} {cy : Nat → ClassId} {B : Nat} {kd : Nat → Nat} {n : Nat} {sa sv : Nat → Nat} (C : zC p l s m args meth c D cy B kd n sa sv RX11 cX11_choose 11) (ht : ∀ x ∈ c.exceptionTable.toList, False) (hr : meth.sig.returnType = some (FieldType.int)) {b0 : Int32 × Mem}  (N : Nat) (v0 : Nat) (v1 : Int32) (v2 : Int32) (v3 : Int32) (s0 : Int32) (s1 : Nat) (M : Mem) (h0 : kd v0 = 11) (hs1 : kd s1 = 11)  : Z p l e (rmz 5 0) s m args below meth c (vx_MQ below (QcR D cy B kd n (cvI b0)) (XcR D cy B kd n (cvI b0)) args s 0 (6 * 0) (AA B kd n)) D cy B kd n 11 b0 0 42 [(0, .ref (B + v0)), (1, .int v1), (2, .int v2), (3, .int v3)] [.int s0, .ref (B + s1)] M (fX11_choose_b42 N v0 v1 v2 v3 s0 s1 M) := by
  unfold fX11_choose_b42
  refine z_putI (k := 5) C cl11 hs1 rfl gw_7_15 rfl rfl rfl dX11_choose_42 ?_
  refine z_aload_n C 0 0 dX11_choose_45 rfl rfl ?_
  refine z_getI (k := 5) C cl11 h0 rfl gw_7_15 rfl dX11_choose_46 ?_
  refine z_if_le C 54 dX11_choose_49 rfl (fun _ => ?_) (fun _ => ?_)
  · refine z_aload_n C 0 0 dX11_choose_54 rfl rfl ?_
    refine z_iload_n C 1 1 dX11_choose_55 rfl rfl ?_
    refine z_callV_V (As := [.int v1]) (rest := []) C rfl (ctX11_takesPut (zG_of C) N v0 v1 h0 (wI M s1 5 s0)) cw_RX11_352 rfl (okM_X11_takesPut) rfl cl11 h0 (okR_of rfl) (Nat.le_of_ble_eq_true rfl) dX11_choose_56 (fun qj1 _ => ?_)
    refine z_iconst C dX11_choose_59 rfl ?_
    refine z_istore C 4 (ls1 := [(4, .int (-1 : Int32)), (0, .ref (B + v0)), (1, .int v1), (2, .int v2), (3, .int v3)]) dX11_choose_60 (by decide) rfl ?_
    refine z_iconst C dX11_choose_62 rfl ?_
    refine z_istore C 5 (ls1 := [(5, .int (-1 : Int32)), (4, .int (-1 : Int32)), (0, .ref (B + v0)), (1, .int v1), (2, .int v2), (3, .int v3)]) dX11_choose_63 (by decide) rfl ?_
    refine z_iconst C dX11_choose_65 rfl ?_
    refine z_istore C 6 (ls1 := [(6, .int (-1 : Int32)), (5, .int (-1 : Int32)), (4, .int (-1 : Int32)), (0, .ref (B + v0)), (1, .int v1), (2, .int v2), (3, .int v3)]) dX11_choose_66 (by decide) rfl ?_
    refine z_iconst C dX11_choose_68 rfl ?_
    refine z_istore C 7 (ls1 := [(7, .int (0 : Int32)), (6, .int (-1 : Int32)), (5, .int (-1 : Int32)), (4, .int (-1 : Int32)), (0, .ref (B + v0)), (1, .int v1), (2, .int v2), (3, .int v3)]) dX11_choose_69 (by decide) rfl ?_
    exact z_jump (ls1 := [(0, .ref (B + v0)), (1, .int v1), (2, .int v2), (3, .int v3), (4, .int (-1 : Int32)), (5, .int (-1 : Int32)), (6, .int (-1 : Int32)), (7, .int (0 : Int32))]) (Nat.le_of_ble_eq_true rfl) [4, 5, 6, 7, 3, 2, 1, 0] rfl (z_fX11_choose_l71 C ht hr N v0 v1 v2 v3 N (-1 : Int32) (-1 : Int32) (-1 : Int32) (0 : Int32) qj1 h0)
  · refine z_iconst C dX11_choose_52 rfl ?_
    exact z_iret C hr (Nat.le_of_ble_eq_true rfl) dX11_choose_53 rfl
set_option maxHeartbeats 4000000 in
set_option maxRecDepth 100000 in
theorem z_fX11_choose_b41 {p : Program} {l : Launch} {e : Env} {s : State} {m : MethodId} {args : Array Value} {below : List Frame} {meth : Method} {c : Code} {D : va_G} {cy : Nat → ClassId} {B : Nat} {kd : Nat → Nat} {n : Nat} {sa sv : Nat → Nat} (C : zC p l s m args meth c D cy B kd n sa sv RX11 cX11_choose 11) (ht : ∀ x ∈ c.exceptionTable.toList, False) (hr : meth.sig.returnType = some (FieldType.int)) {b0 : Int32 × Mem}  (N : Nat) (v0 : Nat) (v1 : Int32) (v2 : Int32) (v3 : Int32) (s0 : Nat) (M : Mem) (h0 : kd v0 = 11) (hs0 : kd s0 = 11)  : Z p l e (rmz 5 0) s m args below meth c (vx_MQ below (QcR D cy B kd n (cvI b0)) (XcR D cy B kd n (cvI b0)) args s 0 (6 * 0) (AA B kd n)) D cy B kd n 11 b0 0 41 [(0, .ref (B + v0)), (1, .int v1), (2, .int v2), (3, .int v3)] [.ref (B + s0)] M (fX11_choose_b41 N v0 v1 v2 v3 s0 M) := by
  unfold fX11_choose_b41
  refine z_iconst C dX11_choose_41 rfl ?_
  exact z_jump (ls1 := [(0, .ref (B + v0)), (1, .int v1), (2, .int v2), (3, .int v3)]) (Nat.le_of_ble_eq_true rfl) [0, 1, 2, 3] rfl (z_fX11_choose_b42 C ht hr N v0 v1 v2 v3 (2 : Int32) s0 M h0 hs0)
set_option maxHeartbeats 4000000 in
set_option maxRecDepth 100000 in
theorem ctX11_choose {l : Launch} {D : va_G} {cy : Nat → ClassId} {B : Nat} {kd : Nat → Nat} {n : Nat} {sa sv : Nat → Nat} (G : zG l kd n) (N : Nat) (v0 : Nat) (v1 : Int32) (v2 : Int32) (v3 : Int32) (h0 : kd v0 = 11) (M : Mem) : CT l D cy B kd n sa sv 5 0 yX11_choose cX11_choose 11 (some (FieldType.int)) cvI [.ref (B + v0), .int v1, .int v2, .int v3] M (fX11_choose N v0 v1 v2 v3 M) := by
  refine ct_of (by decide) G.1 G.2 (Nat.le_of_ble_eq_true rfl) (ls := [(0, .ref (B + v0)), (1, .int v1), (2, .int v2), (3, .int v3)]) rfl ?_
  intro p e s m args below meth c b0 C ht hr
  unfold fX11_choose
  refine z_aload_n C 0 0 dX11_choose_0 rfl rfl ?_
  refine z_aload_n C 0 0 dX11_choose_1 rfl rfl ?_
  refine z_iload_n C 1 1 dX11_choose_2 rfl rfl ?_
  refine z_callV_pB (As := [.int v1]) (rest := [.ref (B + v0)]) C rfl (ctX11_isRow (zG_of C) v0 v1 h0 M) cw_RX11_256 rfl (okM_X11_isRow) rfl cl11 h0 (okR_of rfl) (Nat.le_of_ble_eq_true rfl) dX11_choose_3 (fun qj1 _ => ?_)
  refine z_if_neB C 13 dX11_choose_6 rfl (fun _ => ?_) (fun _ => ?_)
  · refine z_iload_n C 2 2 dX11_choose_13 rfl rfl ?_
    refine z_i2l C dX11_choose_14 ?_
    refine z_lconst (v := 0) C dX11_choose_15 rfl ?_
    refine z_ldc2 C dX11_choose_16 gw_9_27 ?_
    refine z_callS_pB (As := [.long v2.toInt64, .long (0 : Int64), .long (999 : Int64)]) (rest := [.ref (B + v0)]) C rfl (ctX11_within (zG_of C) v2.toInt64 (0 : Int64) (999 : Int64) M) cw_RX11_157 (okM_X11_within) rfl (okR_of rfl) (Nat.le_of_ble_eq_true rfl) dX11_choose_19 (fun qj2 _ => ?_)
    refine z_if_eqB C 41 dX11_choose_22 rfl (fun _ => ?_) (fun _ => ?_)
    · refine z_iload_n C 3 3 dX11_choose_25 rfl rfl ?_
      refine z_i2l C dX11_choose_26 ?_
      refine z_lconst (v := 0) C dX11_choose_27 rfl ?_
      refine z_ldc2 C dX11_choose_28 gw_8_217 ?_
      refine z_callS_pB (As := [.long v3.toInt64, .long (0 : Int64), .long (2 : Int64)]) (rest := [.ref (B + v0)]) C rfl (ctX11_within (zG_of C) v3.toInt64 (0 : Int64) (2 : Int64) M) cw_RX11_157 (okM_X11_within) rfl (okR_of rfl) (Nat.le_of_ble_eq_true rfl) dX11_choose_31 (fun qj3 _ => ?_)
      refine z_if_eqB C 41 dX11_choose_34 rfl (fun _ => ?_) (fun _ => ?_)
      · refine z_iconst C dX11_choose_37 rfl ?_
        refine z_goto C 42 dX11_choose_38 rfl ?_
        exact z_jump (ls1 := [(0, .ref (B + v0)), (1, .int v1), (2, .int v2), (3, .int v3)]) (Nat.le_of_ble_eq_true rfl) [0, 1, 2, 3] rfl (z_fX11_choose_b42 C ht hr N v0 v1 v2 v3 (0 : Int32) v0 M h0 h0)
      · exact z_jump (ls1 := [(0, .ref (B + v0)), (1, .int v1), (2, .int v2), (3, .int v3)]) (Nat.le_of_ble_eq_true rfl) [0, 1, 2, 3] rfl (z_fX11_choose_b41 C ht hr N v0 v1 v2 v3 v0 M h0 h0)
    · exact z_jump (ls1 := [(0, .ref (B + v0)), (1, .int v1), (2, .int v2), (3, .int v3)]) (Nat.le_of_ble_eq_true rfl) [0, 1, 2, 3] rfl (z_fX11_choose_b41 C ht hr N v0 v1 v2 v3 v0 M h0 h0)
  · refine z_iconst C dX11_choose_9 rfl ?_
    refine z_goto C 42 dX11_choose_10 rfl ?_
    exact z_jump (ls1 := [(0, .ref (B + v0)), (1, .int v1), (2, .int v2), (3, .int v3)]) (Nat.le_of_ble_eq_true rfl) [0, 1, 2, 3] rfl (z_fX11_choose_b42 C ht hr N v0 v1 v2 v3 (1 : Int32) v0 M h0 h0)
set_option maxHeartbeats 4000000 in
set_option maxRecDepth 100000 in
theorem z_fX11_tray_l69_s {p : Program} {l : Launch} {e : Env} {s : State} {m : MethodId} {args : Array Value} {below : List Frame} {meth : Method} {c : Code} {D : va_G} {cy : Nat → ClassId} {B : Nat} {kd : Nat → Nat} {n : Nat} {sa sv : Nat → Nat} (C : zC p l s m args meth c D cy B kd n sa sv RX11 cX11_tray 5) (ht : ∀ x ∈ c.exceptionTable.toList, False) (hr : meth.sig.returnType = none) {b0 : Mem} (N : Nat) (v0 : Nat) (v1 : Int32) (k69 : Int32 → Mem → Option Mem) (v4 : Int32) (M : Mem) (h0 : kd v0 = 11)  (hk69 : ∀ (v4 : Int32) (M : Mem), Z p l e (rmz 2 0) s m args below meth c (vx_MQ below (QcR D cy B kd n (cvV b0)) (XcR D cy B kd n (cvV b0)) args s 0 (6 * 0) (AA B kd n)) D cy B kd n 5 b0 0 69 [(0, .ref (B + v0)), (1, .int v1), (4, .int v4)] [] M (k69 v4 M)) : Z p l e (rmz 2 0) s m args below meth c (vx_MQ below (QcR D cy B kd n (cvV b0)) (XcR D cy B kd n (cvV b0)) args s 0 (6 * 0) (AA B kd n)) D cy B kd n 5 b0 0 69 [(0, .ref (B + v0)), (1, .int v1), (4, .int v4)] [] M (fX11_tray_l69_s N v0 v1 k69 v4 M) := by
  unfold fX11_tray_l69_s
  refine z_iload C 2 dX11_tray_69 rfl ?_
  refine z_bipush (v := 40) C dX11_tray_71 rfl ?_
  refine z_icmp_ge C 95 dX11_tray_73 rfl (fun _ => ?_) (fun _ => ?_)
  · exact z_vret C hr (Nat.le_of_ble_eq_true rfl) dX11_tray_95 rfl
  · refine z_aload_n C 0 0 dX11_tray_76 rfl rfl ?_
    refine z_getR (k := 37) C cl11 h0 rfl gw_7_47 rfl dX11_tray_77 ?_
    have j1 : kd (v0 + 24) = 46 := zkd C h0 (k := 37) rfl
    refine z_bipush (v := 40) C dX11_tray_80 rfl ?_
    refine z_iload_n C 1 1 dX11_tray_82 rfl rfl ?_
    refine z_imul C dX11_tray_83 ?_
    refine z_iload C 2 dX11_tray_84 rfl ?_
    refine z_iadd C dX11_tray_86 ?_
    refine z_lconst (v := 0) C dX11_tray_87 rfl ?_
    refine z_last C j1 rfl (by decide) dX11_tray_88 (fun _ => ?_)
    refine z_iinc C 4 2 (v := v4) (v1 := (v4 + (1 : Int32))) (ls1 := [(4, .int (v4 + (1 : Int32))), (0, .ref (B + v0)), (1, .int v1)]) dX11_tray_89 rfl rfl (by decide) rfl ?_
    refine z_goto C 69 dX11_tray_92 rfl ?_
    exact z_jump (ls1 := [(0, .ref (B + v0)), (1, .int v1), (4, .int (v4 + (1 : Int32)))]) (Nat.le_of_ble_eq_true rfl) [1, 2, 0] rfl (hk69 (v4 + (1 : Int32)) (wJ M (v0 + 24) ((((40 : Int32) * v1) + v4).toNatClampNeg) (0 : Int64)))
theorem z_fX11_tray_l69_i {p : Program} {l : Launch} {e : Env} {s : State} {m : MethodId} {args : Array Value} {below : List Frame} {meth : Method} {c : Code} {D : va_G} {cy : Nat → ClassId} {B : Nat} {kd : Nat → Nat} {n : Nat} {sa sv : Nat → Nat} (C : zC p l s m args meth c D cy B kd n sa sv RX11 cX11_tray 5) (ht : ∀ x ∈ c.exceptionTable.toList, False) (hr : meth.sig.returnType = none) {b0 : Mem} (N : Nat) (v0 : Nat) (v1 : Int32) (h0 : kd v0 = 11)  (fu : Nat) : ∀ (v4 : Int32) (M : Mem), Z p l e (rmz 2 0) s m args below meth c (vx_MQ below (QcR D cy B kd n (cvV b0)) (XcR D cy B kd n (cvV b0)) args s 0 (6 * 0) (AA B kd n)) D cy B kd n 5 b0 0 69 [(0, .ref (B + v0)), (1, .int v1), (4, .int v4)] [] M (fX11_tray_l69 N v0 v1 fu v4 M) := by
  induction fu with
  | zero => intro v4 M; exact z_none
  | succ fu ih => intro v4 M; exact z_fX11_tray_l69_s C ht hr N v0 v1 (fX11_tray_l69 N v0 v1 fu) v4 M h0 (fun v4 M => ih v4 M)
theorem z_fX11_tray_l69 {p : Program} {l : Launch} {e : Env} {s : State} {m : MethodId} {args : Array Value} {below : List Frame} {meth : Method} {c : Code} {D : va_G} {cy : Nat → ClassId} {B : Nat} {kd : Nat → Nat} {n : Nat} {sa sv : Nat → Nat} (C : zC p l s m args meth c D cy B kd n sa sv RX11 cX11_tray 5) (ht : ∀ x ∈ c.exceptionTable.toList, False) (hr : meth.sig.returnType = none) {b0 : Mem} (N : Nat) (v0 : Nat) (v1 : Int32) (fu : Nat) (v4 : Int32) (M : Mem) (h0 : kd v0 = 11)  : Z p l e (rmz 2 0) s m args below meth c (vx_MQ below (QcR D cy B kd n (cvV b0)) (XcR D cy B kd n (cvV b0)) args s 0 (6 * 0) (AA B kd n)) D cy B kd n 5 b0 0 69 [(0, .ref (B + v0)), (1, .int v1), (4, .int v4)] [] M (fX11_tray_l69 N v0 v1 fu v4 M) := z_fX11_tray_l69_i C ht hr N v0 v1 h0 fu v4 M
set_option maxHeartbeats 4000000 in
set_option maxRecDepth 100000 in
theorem z_fX11_tray_b41 {p : Program} {l : Launch} {e : Env} {s : State} {m : MethodId} {args : Array Value} {below : List Frame} {meth : Method} {c : Code} {D : va_G} {cy : Nat → ClassId} {B : Nat} {kd : Nat → Nat} {n : Nat} {sa sv : Nat → Nat} (C : zC p l s m args meth c D cy B kd n sa sv RX11 cX11_tray 5) (ht : ∀ x ∈ c.exceptionTable.toList, False) (hr : meth.sig.returnType = none) {b0 : Mem}  (N : Nat) (v0 : Nat) (v1 : Int32) (v2 : Int32) (v3 : Int32) (s0 : Int32) (s1 : Nat) (M : Mem) (h0 : kd v0 = 11) (hs1 : kd s1 = 11)  : Z p l e (rmz 2 0) s m args below meth c (vx_MQ below (QcR D cy B kd n (cvV b0)) (XcR D cy B kd n (cvV b0)) args s 0 (6 * 0) (AA B kd n)) D cy B kd n 5 b0 0 41 [(0, .ref (B + v0)), (1, .int v1), (2, .int v2), (3, .int v3)] [.int s0, .ref (B + s1)] M (fX11_tray_b41 N v0 v1 v2 v3 s0 s1 M) := by
  unfold fX11_tray_b41
  refine z_putI (k := 5) C cl11 hs1 rfl gw_7_15 rfl rfl rfl dX11_tray_41 ?_
  refine z_aload_n C 0 0 dX11_tray_44 rfl rfl ?_
  refine z_getI (k := 5) C cl11 h0 rfl gw_7_15 rfl dX11_tray_45 ?_
  refine z_if_le C 52 dX11_tray_48 rfl (fun _ => ?_) (fun _ => ?_)
  · refine z_aload_n C 0 0 dX11_tray_52 rfl rfl ?_
    refine z_getR (k := 35) C cl11 h0 rfl gw_7_45 rfl dX11_tray_53 ?_
    have j1 : kd (v0 + 22) = 45 := zkd C h0 (k := 35) rfl
    refine z_iload_n C 1 1 dX11_tray_56 rfl rfl ?_
    refine z_iload_n C 2 2 dX11_tray_57 rfl rfl ?_
    refine z_iast C j1 rfl (by decide) dX11_tray_58 (fun _ => ?_)
    refine z_aload_n C 0 0 dX11_tray_59 rfl rfl ?_
    refine z_getR (k := 36) C cl11 h0 rfl gw_7_46 rfl dX11_tray_60 ?_
    have j2 : kd (v0 + 23) = 45 := zkd C h0 (k := 36) rfl
    refine z_iload_n C 1 1 dX11_tray_63 rfl rfl ?_
    refine z_iload_n C 3 3 dX11_tray_64 rfl rfl ?_
    refine z_iast C j2 rfl (by decide) dX11_tray_65 (fun _ => ?_)
    refine z_iconst C dX11_tray_66 rfl ?_
    refine z_istore C 4 (ls1 := [(4, .int (0 : Int32)), (0, .ref (B + v0)), (1, .int v1), (2, .int v2), (3, .int v3)]) dX11_tray_67 (by decide) rfl ?_
    exact z_jump (ls1 := [(0, .ref (B + v0)), (1, .int v1), (4, .int (0 : Int32))]) (Nat.le_of_ble_eq_true rfl) [1, 2, 0] rfl (z_fX11_tray_l69 C ht hr N v0 v1 N (0 : Int32) (wI (wI (wI M s1 5 s0) (v0 + 22) v1.toNatClampNeg v2) (v0 + 23) v1.toNatClampNeg v3) h0)
  · exact z_vret C hr (Nat.le_of_ble_eq_true rfl) dX11_tray_51 rfl
set_option maxHeartbeats 4000000 in
set_option maxRecDepth 100000 in
theorem z_fX11_tray_b36 {p : Program} {l : Launch} {e : Env} {s : State} {m : MethodId} {args : Array Value} {below : List Frame} {meth : Method} {c : Code} {D : va_G} {cy : Nat → ClassId} {B : Nat} {kd : Nat → Nat} {n : Nat} {sa sv : Nat → Nat} (C : zC p l s m args meth c D cy B kd n sa sv RX11 cX11_tray 5) (ht : ∀ x ∈ c.exceptionTable.toList, False) (hr : meth.sig.returnType = none) {b0 : Mem}  (N : Nat) (v0 : Nat) (v1 : Int32) (v2 : Int32) (v3 : Int32) (s0 : Nat) (M : Mem) (h0 : kd v0 = 11) (hs0 : kd s0 = 11)  : Z p l e (rmz 2 0) s m args below meth c (vx_MQ below (QcR D cy B kd n (cvV b0)) (XcR D cy B kd n (cvV b0)) args s 0 (6 * 0) (AA B kd n)) D cy B kd n 5 b0 0 36 [(0, .ref (B + v0)), (1, .int v1), (2, .int v2), (3, .int v3)] [.ref (B + s0)] M (fX11_tray_b36 N v0 v1 v2 v3 s0 M) := by
  unfold fX11_tray_b36
  refine z_iconst C dX11_tray_36 rfl ?_
  refine z_goto C 41 dX11_tray_37 rfl ?_
  exact z_jump (ls1 := [(0, .ref (B + v0)), (1, .int v1), (2, .int v2), (3, .int v3)]) (Nat.le_of_ble_eq_true rfl) [0, 1, 2, 3] rfl (z_fX11_tray_b41 C ht hr N v0 v1 v2 v3 (2 : Int32) s0 M h0 hs0)
set_option maxHeartbeats 4000000 in
set_option maxRecDepth 100000 in
theorem ctX11_tray {l : Launch} {D : va_G} {cy : Nat → ClassId} {B : Nat} {kd : Nat → Nat} {n : Nat} {sa sv : Nat → Nat} (G : zG l kd n) (N : Nat) (v0 : Nat) (v1 : Int32) (v2 : Int32) (v3 : Int32) (h0 : kd v0 = 11) (M : Mem) : CT l D cy B kd n sa sv 2 0 yX11_tray cX11_tray 5 (none) cvV [.ref (B + v0), .int v1, .int v2, .int v3] M (fX11_tray N v0 v1 v2 v3 M) := by
  refine ct_of (by decide) G.1 G.2 (Nat.le_of_ble_eq_true rfl) (ls := [(0, .ref (B + v0)), (1, .int v1), (2, .int v2), (3, .int v3)]) rfl ?_
  intro p e s m args below meth c b0 C ht hr
  unfold fX11_tray
  refine z_aload_n C 0 0 dX11_tray_0 rfl rfl ?_
  refine z_iload_n C 1 1 dX11_tray_1 rfl rfl ?_
  refine z_callS_pB (As := [.int v1]) (rest := [.ref (B + v0)]) C rfl (ctX11_isTray (zG_of C) v1 M) cw_RX11_320 (okM_X11_isTray) rfl (okR_of rfl) (Nat.le_of_ble_eq_true rfl) dX11_tray_2 (fun qj1 _ => ?_)
  refine z_if_neB C 12 dX11_tray_5 rfl (fun _ => ?_) (fun _ => ?_)
  · refine z_iload_n C 2 2 dX11_tray_12 rfl rfl ?_
    refine z_i2l C dX11_tray_13 ?_
    refine z_lconst (v := 0) C dX11_tray_14 rfl ?_
    refine z_ldc2 C dX11_tray_15 gw_8_25 ?_
    refine z_callS_pB (As := [.long v2.toInt64, .long (0 : Int64), .long (3 : Int64)]) (rest := [.ref (B + v0)]) C rfl (ctX11_within (zG_of C) v2.toInt64 (0 : Int64) (3 : Int64) M) cw_RX11_157 (okM_X11_within) rfl (okR_of rfl) (Nat.le_of_ble_eq_true rfl) dX11_tray_18 (fun qj2 _ => ?_)
    refine z_if_eqB C 36 dX11_tray_21 rfl (fun _ => ?_) (fun _ => ?_)
    · refine z_iload_n C 3 3 dX11_tray_24 rfl rfl ?_
      refine z_i2l C dX11_tray_25 ?_
      refine z_lconst (v := 0) C dX11_tray_26 rfl ?_
      refine z_ldc2 C dX11_tray_27 gw_9_36 ?_
      refine z_callS_pB (As := [.long v3.toInt64, .long (0 : Int64), .long (40 : Int64)]) (rest := [.ref (B + v0)]) C rfl (ctX11_within (zG_of C) v3.toInt64 (0 : Int64) (40 : Int64) M) cw_RX11_157 (okM_X11_within) rfl (okR_of rfl) (Nat.le_of_ble_eq_true rfl) dX11_tray_30 (fun qj3 _ => ?_)
      refine z_if_neB C 40 dX11_tray_33 rfl (fun _ => ?_) (fun _ => ?_)
      · refine z_iconst C dX11_tray_40 rfl ?_
        exact z_jump (ls1 := [(0, .ref (B + v0)), (1, .int v1), (2, .int v2), (3, .int v3)]) (Nat.le_of_ble_eq_true rfl) [0, 1, 2, 3] rfl (z_fX11_tray_b41 C ht hr N v0 v1 v2 v3 (0 : Int32) v0 M h0 h0)
      · exact z_jump (ls1 := [(0, .ref (B + v0)), (1, .int v1), (2, .int v2), (3, .int v3)]) (Nat.le_of_ble_eq_true rfl) [0, 1, 2, 3] rfl (z_fX11_tray_b36 C ht hr N v0 v1 v2 v3 v0 M h0 h0)
    · exact z_jump (ls1 := [(0, .ref (B + v0)), (1, .int v1), (2, .int v2), (3, .int v3)]) (Nat.le_of_ble_eq_true rfl) [0, 1, 2, 3] rfl (z_fX11_tray_b36 C ht hr N v0 v1 v2 v3 v0 M h0 h0)
  · refine z_iconst C dX11_tray_8 rfl ?_
    refine z_goto C 41 dX11_tray_9 rfl ?_
    exact z_jump (ls1 := [(0, .ref (B + v0)), (1, .int v1), (2, .int v2), (3, .int v3)]) (Nat.le_of_ble_eq_true rfl) [0, 1, 2, 3] rfl (z_fX11_tray_b41 C ht hr N v0 v1 v2 v3 (1 : Int32) v0 M h0 h0)
set_option maxHeartbeats 4000000 in
set_option maxRecDepth 100000 in
theorem ctX11_write {l : Launch} {D : va_G} {cy : Nat → ClassId} {B : Nat} {kd : Nat → Nat} {n : Nat} {sa sv : Nat → Nat} (G : zG l kd n) (v0 : Nat) (v1 : Int32) (v2 : Int32) (v3 : Int64) (h0 : kd v0 = 11) (M : Mem) : CT l D cy B kd n sa sv 2 0 yX11_write cX11_write 6 (some (FieldType.long)) cvJ [.ref (B + v0), .int v1, .int v2, .long v3] M (fX11_write v0 v1 v2 v3 M) := by
  refine ct_of (by decide) G.1 G.2 (Nat.le_of_ble_eq_true rfl) (ls := [(0, .ref (B + v0)), (1, .int v1), (2, .int v2), (3, .long v3)]) rfl ?_
  intro p e s m args below meth c b0 C ht hr
  unfold fX11_write
  refine z_aload_n C 0 0 dX11_write_0 rfl rfl ?_
  refine z_iconst C dX11_write_1 rfl ?_
  refine z_putI (k := 5) C cl11 h0 rfl gw_7_15 rfl rfl rfl dX11_write_2 ?_
  refine z_iload_n C 1 1 dX11_write_5 rfl rfl ?_
  refine z_callS_pB (As := [.int v1]) (rest := []) C rfl (ctX11_isTray (zG_of C) v1 (wI M v0 5 (0 : Int32))) cw_RX11_320 (okM_X11_isTray) rfl (okR_of rfl) (Nat.le_of_ble_eq_true rfl) dX11_write_6 (fun qj1 _ => ?_)
  refine z_if_neB C 19 dX11_write_9 rfl (fun _ => ?_) (fun _ => ?_)
  · refine z_aload_n C 0 0 dX11_write_19 rfl rfl ?_
    refine z_getR (k := 35) C cl11 h0 rfl gw_7_45 rfl dX11_write_20 ?_
    have j2 : kd (v0 + 22) = 45 := zkd C h0 (k := 35) rfl
    refine z_iload_n C 1 1 dX11_write_23 rfl rfl ?_
    refine z_iald C j2 rfl (by decide) dX11_write_24 (fun j3 => ?_)
    refine z_iconst C dX11_write_25 rfl ?_
    refine z_icmp_ne C 36 dX11_write_26 rfl (fun _ => ?_) (fun _ => ?_)
    · refine z_aload_n C 0 0 dX11_write_29 rfl rfl ?_
      refine z_iconst C dX11_write_30 rfl ?_
      refine z_callV_I (As := [.int (2 : Int32)]) (rest := []) C rfl (ctX11_fails (zG_of C) v0 (2 : Int32) h0 (wI M v0 5 (0 : Int32))) cw_RX11_201 rfl (okM_X11_fails) rfl cl11 h0 (okR_of rfl) (Nat.le_of_ble_eq_true rfl) dX11_write_31 (fun qj4 _ => ?_)
      refine z_i2l C dX11_write_34 ?_
      exact z_lret C hr (Nat.le_of_ble_eq_true rfl) dX11_write_35 rfl
    · refine z_iload_n C 2 2 dX11_write_36 rfl rfl ?_
      refine z_i2l C dX11_write_37 ?_
      refine z_lconst (v := 0) C dX11_write_38 rfl ?_
      refine z_aload_n C 0 0 dX11_write_39 rfl rfl ?_
      refine z_getR (k := 36) C cl11 h0 rfl gw_7_46 rfl dX11_write_40 ?_
      have j5 : kd (v0 + 23) = 45 := zkd C h0 (k := 36) rfl
      refine z_iload_n C 1 1 dX11_write_43 rfl rfl ?_
      refine z_iald C j5 rfl (by decide) dX11_write_44 (fun j6 => ?_)
      refine z_iconst C dX11_write_45 rfl ?_
      refine z_isub C dX11_write_46 ?_
      refine z_i2l C dX11_write_47 ?_
      refine z_callS_pB (As := [.long v2.toInt64, .long (0 : Int64), .long ((rI (wI M v0 5 (0 : Int32)) (v0 + 23) v1.toNatClampNeg) - (1 : Int32)).toInt64]) (rest := []) C rfl (ctX11_within (zG_of C) v2.toInt64 (0 : Int64) (((rI (wI M v0 5 (0 : Int32)) (v0 + 23) v1.toNatClampNeg) - (1 : Int32)).toInt64) (wI M v0 5 (0 : Int32))) cw_RX11_157 (okM_X11_within) rfl (okR_of rfl) (Nat.le_of_ble_eq_true rfl) dX11_write_48 (fun qj7 _ => ?_)
      refine z_if_neB C 61 dX11_write_51 rfl (fun _ => ?_) (fun _ => ?_)
      · refine z_bipush (v := 64) C dX11_write_61 rfl ?_
        refine z_bipush (v := 8) C dX11_write_63 rfl ?_
        refine z_aload_n C 0 0 dX11_write_65 rfl rfl ?_
        refine z_getR (k := 35) C cl11 h0 rfl gw_7_45 rfl dX11_write_66 ?_
        have j8 : kd (v0 + 22) = 45 := zkd C h0 (k := 35) rfl
        refine z_iload_n C 1 1 dX11_write_69 rfl rfl ?_
        refine z_iald C j8 rfl (by decide) dX11_write_70 (fun j9 => ?_)
        refine z_ishl C dX11_write_71 ?_
        refine z_isub C dX11_write_72 ?_
        refine z_istore C 5 (ls1 := [(5, .int ((64 : Int32) - (shlI (8 : Int32) (rI (wI M v0 5 (0 : Int32)) (v0 + 22) v1.toNatClampNeg)))), (0, .ref (B + v0)), (1, .int v1), (2, .int v2), (3, .long v3)]) dX11_write_73 (by decide) rfl ?_
        refine z_aload_n C 0 1 dX11_write_75 rfl rfl ?_
        refine z_getR (k := 37) C cl11 h0 rfl gw_7_47 rfl dX11_write_76 ?_
        have j10 : kd (v0 + 24) = 46 := zkd C h0 (k := 37) rfl
        refine z_bipush (v := 40) C dX11_write_79 rfl ?_
        refine z_iload_n C 1 2 dX11_write_81 rfl rfl ?_
        refine z_imul C dX11_write_82 ?_
        refine z_iload_n C 2 3 dX11_write_83 rfl rfl ?_
        refine z_iadd C dX11_write_84 ?_
        refine z_lload_n C 3 4 dX11_write_85 rfl rfl ?_
        refine z_iload C 0 dX11_write_86 rfl ?_
        refine z_lshl C dX11_write_88 ?_
        refine z_iload C 0 dX11_write_89 rfl ?_
        refine z_lshr C dX11_write_91 ?_
        refine z_last C j10 rfl (by decide) dX11_write_92 (fun _ => ?_)
        refine z_aload_n C 0 1 dX11_write_93 rfl rfl ?_
        refine z_getR (k := 37) C cl11 h0 rfl gw_7_47 rfl dX11_write_94 ?_
        have j11 : kd (v0 + 24) = 46 := zkd C h0 (k := 37) rfl
        refine z_bipush (v := 40) C dX11_write_97 rfl ?_
        refine z_iload_n C 1 2 dX11_write_99 rfl rfl ?_
        refine z_imul C dX11_write_100 ?_
        refine z_iload_n C 2 3 dX11_write_101 rfl rfl ?_
        refine z_iadd C dX11_write_102 ?_
        refine z_lald C j11 rfl (by decide) dX11_write_103 (fun j12 => ?_)
        exact z_lret C hr (Nat.le_of_ble_eq_true rfl) dX11_write_104 rfl
      · refine z_aload_n C 0 0 dX11_write_54 rfl rfl ?_
        refine z_iconst C dX11_write_55 rfl ?_
        refine z_callV_I (As := [.int (3 : Int32)]) (rest := []) C rfl (ctX11_fails (zG_of C) v0 (3 : Int32) h0 (wI M v0 5 (0 : Int32))) cw_RX11_201 rfl (okM_X11_fails) rfl cl11 h0 (okR_of rfl) (Nat.le_of_ble_eq_true rfl) dX11_write_56 (fun qj13 _ => ?_)
        refine z_i2l C dX11_write_59 ?_
        exact z_lret C hr (Nat.le_of_ble_eq_true rfl) dX11_write_60 rfl
  · refine z_aload_n C 0 0 dX11_write_12 rfl rfl ?_
    refine z_iconst C dX11_write_13 rfl ?_
    refine z_callV_I (As := [.int (1 : Int32)]) (rest := []) C rfl (ctX11_fails (zG_of C) v0 (1 : Int32) h0 (wI M v0 5 (0 : Int32))) cw_RX11_201 rfl (okM_X11_fails) rfl cl11 h0 (okR_of rfl) (Nat.le_of_ble_eq_true rfl) dX11_write_14 (fun qj14 _ => ?_)
    refine z_i2l C dX11_write_17 ?_
    exact z_lret C hr (Nat.le_of_ble_eq_true rfl) dX11_write_18 rfl
set_option maxHeartbeats 4000000 in
set_option maxRecDepth 100000 in
theorem z_fX11_pour_b102 {p : Program} {l : Launch} {e : Env} {s : State} {m : MethodId} {args : Array Value} {below : List Frame} {meth : Method} {c : Code} {D : va_G} {cy : Nat → ClassId} {B : Nat} {kd : Nat → Nat} {n : Nat} {sa sv : Nat → Nat} (C : zC p l s m args meth c D cy B kd n sa sv RX11 cX11_pour 4) (ht : ∀ x ∈ c.exceptionTable.toList, False) (hr : meth.sig.returnType = some (FieldType.int)) {b0 : Int32 × Mem}  (N : Nat) (v3 : Int32) (M : Mem)  : Z p l e (rmz 8 0) s m args below meth c (vx_MQ below (QcR D cy B kd n (cvI b0)) (XcR D cy B kd n (cvI b0)) args s 0 (6 * 0) (AA B kd n)) D cy B kd n 4 b0 0 102 [(3, .int v3)] [] M (fX11_pour_b102 N v3 M) := by
  unfold fX11_pour_b102
  refine z_iload_n C 3 0 dX11_pour_102 rfl rfl ?_
  exact z_iret C hr (Nat.le_of_ble_eq_true rfl) dX11_pour_103 rfl
set_option maxHeartbeats 4000000 in
set_option maxRecDepth 100000 in
theorem z_fX11_pour_l53_s {p : Program} {l : Launch} {e : Env} {s : State} {m : MethodId} {args : Array Value} {below : List Frame} {meth : Method} {c : Code} {D : va_G} {cy : Nat → ClassId} {B : Nat} {kd : Nat → Nat} {n : Nat} {sa sv : Nat → Nat} (C : zC p l s m args meth c D cy B kd n sa sv RX11 cX11_pour 4) (ht : ∀ x ∈ c.exceptionTable.toList, False) (hr : meth.sig.returnType = some (FieldType.int)) {b0 : Int32 × Mem} (N : Nat) (v0 : Nat) (v1 : Int32) (v2 : Int32) (k53 : Int32 → Mem → Option (Int32 × Mem)) (v3 : Int32) (M : Mem) (h0 : kd v0 = 11)  (hk53 : ∀ (v3 : Int32) (M : Mem), Z p l e (rmz 8 0) s m args below meth c (vx_MQ below (QcR D cy B kd n (cvI b0)) (XcR D cy B kd n (cvI b0)) args s 0 (6 * 0) (AA B kd n)) D cy B kd n 4 b0 0 53 [(0, .ref (B + v0)), (1, .int v1), (2, .int v2), (3, .int v3)] [] M (k53 v3 M)) : Z p l e (rmz 8 0) s m args below meth c (vx_MQ below (QcR D cy B kd n (cvI b0)) (XcR D cy B kd n (cvI b0)) args s 0 (6 * 0) (AA B kd n)) D cy B kd n 4 b0 0 53 [(0, .ref (B + v0)), (1, .int v1), (2, .int v2), (3, .int v3)] [] M (fX11_pour_l53_s N v0 v1 v2 k53 v3 M) := by
  unfold fX11_pour_l53_s
  refine z_iload_n C 3 3 dX11_pour_53 rfl rfl ?_
  refine z_aload_n C 0 0 dX11_pour_54 rfl rfl ?_
  refine z_getR (k := 36) C cl11 h0 rfl gw_7_46 rfl dX11_pour_55 ?_
  have j1 : kd (v0 + 23) = 45 := zkd C h0 (k := 36) rfl
  refine z_iload_n C 2 2 dX11_pour_58 rfl rfl ?_
  refine z_iald C j1 rfl (by decide) dX11_pour_59 (fun j2 => ?_)
  refine z_icmp_ge C 102 dX11_pour_60 rfl (fun _ => ?_) (fun _ => ?_)
  · exact z_jump (ls1 := [(3, .int v3)]) (Nat.le_of_ble_eq_true rfl) [3] rfl (z_fX11_pour_b102 C ht hr N v3 M)
  · refine z_aload_n C 0 0 dX11_pour_63 rfl rfl ?_
    refine z_aload_n C 0 0 dX11_pour_64 rfl rfl ?_
    refine z_getR (k := 37) C cl11 h0 rfl gw_7_47 rfl dX11_pour_65 ?_
    have j3 : kd (v0 + 24) = 46 := zkd C h0 (k := 37) rfl
    refine z_bipush (v := 40) C dX11_pour_68 rfl ?_
    refine z_iload_n C 2 2 dX11_pour_70 rfl rfl ?_
    refine z_imul C dX11_pour_71 ?_
    refine z_iload_n C 3 3 dX11_pour_72 rfl rfl ?_
    refine z_iadd C dX11_pour_73 ?_
    refine z_lald C j3 rfl (by decide) dX11_pour_74 (fun j4 => ?_)
    refine z_callV_pB (As := [.long (rJ M (v0 + 24) (((40 : Int32) * v2) + v3).toNatClampNeg)]) (rest := []) C rfl (ctX11_isName (zG_of C) v0 (rJ M (v0 + 24) (((40 : Int32) * v2) + v3).toNatClampNeg) h0 M) cw_RX11_228 rfl (okM_X11_isName) rfl cl11 h0 (okR_of rfl) (Nat.le_of_ble_eq_true rfl) dX11_pour_75 (fun qj5 _ => ?_)
    refine z_if_eqB C 102 dX11_pour_78 rfl (fun _ => ?_) (fun _ => ?_)
    · refine z_aload_n C 0 0 dX11_pour_81 rfl rfl ?_
      refine z_iload_n C 1 1 dX11_pour_82 rfl rfl ?_
      refine z_aload_n C 0 0 dX11_pour_83 rfl rfl ?_
      refine z_iload_n C 2 2 dX11_pour_84 rfl rfl ?_
      refine z_iload_n C 3 3 dX11_pour_85 rfl rfl ?_
      refine z_callV_pI (As := [.int v2, .int v3]) (rest := [.int v1, .ref (B + v0)]) C rfl (ctX11_inTray (zG_of C) v0 v2 v3 h0 M) cw_RX11_330 rfl (okM_X11_inTray) rfl cl11 h0 (okR_of rfl) (Nat.le_of_ble_eq_true rfl) dX11_pour_86 (fun qj6 _ => ?_)
      refine z_callV_I (As := [.int v1, .int qj6]) (rest := []) C rfl (ctX11_putsOr (zG_of C) N v0 v1 qj6 h0 M) cw_RX11_309 rfl (okM_X11_putsOr) rfl cl11 h0 (okR_of rfl) (Nat.le_of_ble_eq_true rfl) dX11_pour_89 (fun qj7 _ => ?_)
      refine z_iconst C dX11_pour_92 rfl ?_
      refine z_icmp_eq C 102 dX11_pour_93 rfl (fun _ => ?_) (fun _ => ?_)
      · exact z_jump (ls1 := [(3, .int v3)]) (Nat.le_of_ble_eq_true rfl) [3] rfl (z_fX11_pour_b102 C ht hr N v3 qj7.2)
      · refine z_iinc C 3 3 (v := v3) (v1 := (v3 + (1 : Int32))) (ls1 := [(3, .int (v3 + (1 : Int32))), (0, .ref (B + v0)), (1, .int v1), (2, .int v2)]) dX11_pour_96 rfl rfl (by decide) rfl ?_
        refine z_goto C 53 dX11_pour_99 rfl ?_
        exact z_jump (ls1 := [(0, .ref (B + v0)), (1, .int v1), (2, .int v2), (3, .int (v3 + (1 : Int32)))]) (Nat.le_of_ble_eq_true rfl) [1, 2, 3, 0] rfl (hk53 (v3 + (1 : Int32)) qj7.2)
    · exact z_jump (ls1 := [(3, .int v3)]) (Nat.le_of_ble_eq_true rfl) [3] rfl (z_fX11_pour_b102 C ht hr N v3 M)
theorem z_fX11_pour_l53_i {p : Program} {l : Launch} {e : Env} {s : State} {m : MethodId} {args : Array Value} {below : List Frame} {meth : Method} {c : Code} {D : va_G} {cy : Nat → ClassId} {B : Nat} {kd : Nat → Nat} {n : Nat} {sa sv : Nat → Nat} (C : zC p l s m args meth c D cy B kd n sa sv RX11 cX11_pour 4) (ht : ∀ x ∈ c.exceptionTable.toList, False) (hr : meth.sig.returnType = some (FieldType.int)) {b0 : Int32 × Mem} (N : Nat) (v0 : Nat) (v1 : Int32) (v2 : Int32) (h0 : kd v0 = 11)  (fu : Nat) : ∀ (v3 : Int32) (M : Mem), Z p l e (rmz 8 0) s m args below meth c (vx_MQ below (QcR D cy B kd n (cvI b0)) (XcR D cy B kd n (cvI b0)) args s 0 (6 * 0) (AA B kd n)) D cy B kd n 4 b0 0 53 [(0, .ref (B + v0)), (1, .int v1), (2, .int v2), (3, .int v3)] [] M (fX11_pour_l53 N v0 v1 v2 fu v3 M) := by
  induction fu with
  | zero => intro v3 M; exact z_none
  | succ fu ih => intro v3 M; exact z_fX11_pour_l53_s C ht hr N v0 v1 v2 (fX11_pour_l53 N v0 v1 v2 fu) v3 M h0 (fun v3 M => ih v3 M)
theorem z_fX11_pour_l53 {p : Program} {l : Launch} {e : Env} {s : State} {m : MethodId} {args : Array Value} {below : List Frame} {meth : Method} {c : Code} {D : va_G} {cy : Nat → ClassId} {B : Nat} {kd : Nat → Nat} {n : Nat} {sa sv : Nat → Nat} (C : zC p l s m args meth c D cy B kd n sa sv RX11 cX11_pour 4) (ht : ∀ x ∈ c.exceptionTable.toList, False) (hr : meth.sig.returnType = some (FieldType.int)) {b0 : Int32 × Mem} (N : Nat) (v0 : Nat) (v1 : Int32) (v2 : Int32) (fu : Nat) (v3 : Int32) (M : Mem) (h0 : kd v0 = 11)  : Z p l e (rmz 8 0) s m args below meth c (vx_MQ below (QcR D cy B kd n (cvI b0)) (XcR D cy B kd n (cvI b0)) args s 0 (6 * 0) (AA B kd n)) D cy B kd n 4 b0 0 53 [(0, .ref (B + v0)), (1, .int v1), (2, .int v2), (3, .int v3)] [] M (fX11_pour_l53 N v0 v1 v2 fu v3 M) := z_fX11_pour_l53_i C ht hr N v0 v1 v2 h0 fu v3 M
set_option maxHeartbeats 4000000 in
set_option maxRecDepth 100000 in
theorem z_fX11_pour_b42 {p : Program} {l : Launch} {e : Env} {s : State} {m : MethodId} {args : Array Value} {below : List Frame} {meth : Method} {c : Code} {D : va_G} {cy : Nat → ClassId} {B : Nat} {kd : Nat → Nat} {n : Nat} {sa sv : Nat → Nat} (C : zC p l s m args meth c D cy B kd n sa sv RX11 cX11_pour 4) (ht : ∀ x ∈ c.exceptionTable.toList, False) (hr : meth.sig.returnType = some (FieldType.int)) {b0 : Int32 × Mem}  (N : Nat) (v0 : Nat) (v1 : Int32) (v2 : Int32) (M : Mem) (h0 : kd v0 = 11)  : Z p l e (rmz 8 0) s m args below meth c (vx_MQ below (QcR D cy B kd n (cvI b0)) (XcR D cy B kd n (cvI b0)) args s 0 (6 * 0) (AA B kd n)) D cy B kd n 4 b0 0 42 [(0, .ref (B + v0)), (1, .int v1), (2, .int v2)] [] M (fX11_pour_b42 N v0 v1 v2 M) := by
  unfold fX11_pour_b42
  refine z_aload_n C 0 0 dX11_pour_42 rfl rfl ?_
  refine z_getI (k := 5) C cl11 h0 rfl gw_7_15 rfl dX11_pour_43 ?_
  refine z_if_le C 51 dX11_pour_46 rfl (fun _ => ?_) (fun _ => ?_)
  · refine z_iconst C dX11_pour_51 rfl ?_
    refine z_istore_n C 3 (ls1 := [(3, .int (0 : Int32)), (0, .ref (B + v0)), (1, .int v1), (2, .int v2)]) dX11_pour_52 rfl (by decide) rfl ?_
    exact z_jump (ls1 := [(0, .ref (B + v0)), (1, .int v1), (2, .int v2), (3, .int (0 : Int32))]) (Nat.le_of_ble_eq_true rfl) [1, 2, 3, 0] rfl (z_fX11_pour_l53 C ht hr N v0 v1 v2 N (0 : Int32) M h0)
  · refine z_iconst C dX11_pour_49 rfl ?_
    exact z_iret C hr (Nat.le_of_ble_eq_true rfl) dX11_pour_50 rfl
set_option maxHeartbeats 4000000 in
set_option maxRecDepth 100000 in
theorem z_fX11_pour_b37 {p : Program} {l : Launch} {e : Env} {s : State} {m : MethodId} {args : Array Value} {below : List Frame} {meth : Method} {c : Code} {D : va_G} {cy : Nat → ClassId} {B : Nat} {kd : Nat → Nat} {n : Nat} {sa sv : Nat → Nat} (C : zC p l s m args meth c D cy B kd n sa sv RX11 cX11_pour 4) (ht : ∀ x ∈ c.exceptionTable.toList, False) (hr : meth.sig.returnType = some (FieldType.int)) {b0 : Int32 × Mem}  (N : Nat) (v0 : Nat) (v1 : Int32) (v2 : Int32) (M : Mem) (h0 : kd v0 = 11)  : Z p l e (rmz 8 0) s m args below meth c (vx_MQ below (QcR D cy B kd n (cvI b0)) (XcR D cy B kd n (cvI b0)) args s 0 (6 * 0) (AA B kd n)) D cy B kd n 4 b0 0 37 [(0, .ref (B + v0)), (1, .int v1), (2, .int v2)] [] M (fX11_pour_b37 N v0 v1 v2 M) := by
  unfold fX11_pour_b37
  refine z_aload_n C 0 0 dX11_pour_37 rfl rfl ?_
  refine z_iconst C dX11_pour_38 rfl ?_
  refine z_putI (k := 5) C cl11 h0 rfl gw_7_15 rfl rfl rfl dX11_pour_39 ?_
  exact z_jump (ls1 := [(0, .ref (B + v0)), (1, .int v1), (2, .int v2)]) (Nat.le_of_ble_eq_true rfl) [0, 1, 2] rfl (z_fX11_pour_b42 C ht hr N v0 v1 v2 (wI M v0 5 (2 : Int32)) h0)
set_option maxHeartbeats 4000000 in
set_option maxRecDepth 100000 in
theorem ctX11_pour {l : Launch} {D : va_G} {cy : Nat → ClassId} {B : Nat} {kd : Nat → Nat} {n : Nat} {sa sv : Nat → Nat} (G : zG l kd n) (N : Nat) (v0 : Nat) (v1 : Int32) (v2 : Int32) (h0 : kd v0 = 11) (M : Mem) : CT l D cy B kd n sa sv 8 0 yX11_pour cX11_pour 4 (some (FieldType.int)) cvI [.ref (B + v0), .int v1, .int v2] M (fX11_pour N v0 v1 v2 M) := by
  refine ct_of (by decide) G.1 G.2 (Nat.le_of_ble_eq_true rfl) (ls := [(0, .ref (B + v0)), (1, .int v1), (2, .int v2)]) rfl ?_
  intro p e s m args below meth c b0 C ht hr
  unfold fX11_pour
  refine z_aload_n C 0 0 dX11_pour_0 rfl rfl ?_
  refine z_aload_n C 0 0 dX11_pour_1 rfl rfl ?_
  refine z_iload_n C 1 1 dX11_pour_2 rfl rfl ?_
  refine z_iload_n C 2 2 dX11_pour_3 rfl rfl ?_
  refine z_callV_pI (As := [.int v1, .int v2]) (rest := [.ref (B + v0)]) C rfl (ctX11_rowTrayFault (zG_of C) v0 v1 v2 h0 M) cw_RX11_323 rfl (okM_X11_rowTrayFault) rfl cl11 h0 (okR_of rfl) (Nat.le_of_ble_eq_true rfl) dX11_pour_4 (fun qj1 _ => ?_)
  refine z_putI (k := 5) C cl11 h0 rfl gw_7_15 rfl rfl rfl dX11_pour_7 ?_
  refine z_aload_n C 0 0 dX11_pour_10 rfl rfl ?_
  refine z_getI (k := 5) C cl11 h0 rfl gw_7_15 rfl dX11_pour_11 ?_
  refine z_if_ne C 42 dX11_pour_14 rfl (fun _ => ?_) (fun _ => ?_)
  · refine z_aload_n C 0 0 dX11_pour_17 rfl rfl ?_
    refine z_iload_n C 1 1 dX11_pour_18 rfl rfl ?_
    refine z_iconst C dX11_pour_19 rfl ?_
    refine z_callV_pI (As := [.int v1, .int (0 : Int32)]) (rest := []) C rfl (ctX11_get (zG_of C) v0 v1 (0 : Int32) h0 (wI M v0 5 qj1)) cw_RX11_237 rfl (okM_X11_get) rfl cl11 h0 (okR_of rfl) (Nat.le_of_ble_eq_true rfl) dX11_pour_20 (fun qj2 _ => ?_)
    refine z_iconst C dX11_pour_23 rfl ?_
    refine z_icmp_eq C 37 dX11_pour_24 rfl (fun _ => ?_) (fun _ => ?_)
    · exact z_jump (ls1 := [(0, .ref (B + v0)), (1, .int v1), (2, .int v2)]) (Nat.le_of_ble_eq_true rfl) [0, 1, 2] rfl (z_fX11_pour_b37 C ht hr N v0 v1 v2 (wI M v0 5 qj1) h0)
    · refine z_aload_n C 0 0 dX11_pour_27 rfl rfl ?_
      refine z_getR (k := 35) C cl11 h0 rfl gw_7_45 rfl dX11_pour_28 ?_
      have j3 : kd (v0 + 22) = 45 := zkd C h0 (k := 35) rfl
      refine z_iload_n C 2 2 dX11_pour_31 rfl rfl ?_
      refine z_iald C j3 rfl (by decide) dX11_pour_32 (fun j4 => ?_)
      refine z_iconst C dX11_pour_33 rfl ?_
      refine z_icmp_ne C 42 dX11_pour_34 rfl (fun _ => ?_) (fun _ => ?_)
      · exact z_jump (ls1 := [(0, .ref (B + v0)), (1, .int v1), (2, .int v2)]) (Nat.le_of_ble_eq_true rfl) [0, 1, 2] rfl (z_fX11_pour_b37 C ht hr N v0 v1 v2 (wI M v0 5 qj1) h0)
      · exact z_jump (ls1 := [(0, .ref (B + v0)), (1, .int v1), (2, .int v2)]) (Nat.le_of_ble_eq_true rfl) [0, 1, 2] rfl (z_fX11_pour_b42 C ht hr N v0 v1 v2 (wI M v0 5 qj1) h0)
  · exact z_jump (ls1 := [(0, .ref (B + v0)), (1, .int v1), (2, .int v2)]) (Nat.le_of_ble_eq_true rfl) [0, 1, 2] rfl (z_fX11_pour_b42 C ht hr N v0 v1 v2 (wI M v0 5 qj1) h0)
set_option maxHeartbeats 4000000 in
set_option maxRecDepth 100000 in
theorem z_fX11_image_l38_s {p : Program} {l : Launch} {e : Env} {s : State} {m : MethodId} {args : Array Value} {below : List Frame} {meth : Method} {c : Code} {D : va_G} {cy : Nat → ClassId} {B : Nat} {kd : Nat → Nat} {n : Nat} {sa sv : Nat → Nat} (C : zC p l s m args meth c D cy B kd n sa sv RX11 cX11_image 3) (ht : ∀ x ∈ c.exceptionTable.toList, False) (hr : meth.sig.returnType = none) {b0 : Mem} (N : Nat) (v0 : Nat) (v1 : Int32) (k38 : Int32 → Mem → Option Mem) (v2 : Int32) (M : Mem) (h0 : kd v0 = 11)  (hk38 : ∀ (v2 : Int32) (M : Mem), Z p l e (rmz 1 0) s m args below meth c (vx_MQ below (QcR D cy B kd n (cvV b0)) (XcR D cy B kd n (cvV b0)) args s 0 (6 * 0) (AA B kd n)) D cy B kd n 3 b0 0 38 [(0, .ref (B + v0)), (1, .int v1), (2, .int v2)] [] M (k38 v2 M)) : Z p l e (rmz 1 0) s m args below meth c (vx_MQ below (QcR D cy B kd n (cvV b0)) (XcR D cy B kd n (cvV b0)) args s 0 (6 * 0) (AA B kd n)) D cy B kd n 3 b0 0 38 [(0, .ref (B + v0)), (1, .int v1), (2, .int v2)] [] M (fX11_image_l38_s N v0 v1 k38 v2 M) := by
  unfold fX11_image_l38_s
  refine z_iload_n C 2 2 dX11_image_38 rfl rfl ?_
  refine z_sipush (v := 3268) C dX11_image_39 rfl ?_
  refine z_icmp_ge C 69 dX11_image_42 rfl (fun _ => ?_) (fun _ => ?_)
  · exact z_vret C hr (Nat.le_of_ble_eq_true rfl) dX11_image_69 rfl
  · refine z_aload_n C 0 0 dX11_image_45 rfl rfl ?_
    refine z_getR (k := 2) C cl11 h0 rfl gw_7_12 rfl dX11_image_46 ?_
    have j1 : kd (v0 + 3) = 37 := zkd C h0 (k := 2) rfl
    refine z_sipush (v := 3268) C dX11_image_49 rfl ?_
    refine z_iload_n C 1 1 dX11_image_52 rfl rfl ?_
    refine z_imul C dX11_image_53 ?_
    refine z_iload_n C 2 2 dX11_image_54 rfl rfl ?_
    refine z_iadd C dX11_image_55 ?_
    refine z_aload_n C 0 0 dX11_image_56 rfl rfl ?_
    refine z_getR (k := 0) C cl11 h0 rfl gw_7_10 rfl dX11_image_57 ?_
    have j2 : kd (v0 + 1) = 36 := zkd C h0 (k := 0) rfl
    refine z_iload_n C 2 2 dX11_image_60 rfl rfl ?_
    refine z_iald C j2 rfl (by decide) dX11_image_61 (fun j3 => ?_)
    refine z_iast C j1 rfl (by decide) dX11_image_62 (fun _ => ?_)
    refine z_iinc C 2 2 (v := v2) (v1 := (v2 + (1 : Int32))) (ls1 := [(2, .int (v2 + (1 : Int32))), (0, .ref (B + v0)), (1, .int v1)]) dX11_image_63 rfl rfl (by decide) rfl ?_
    refine z_goto C 38 dX11_image_66 rfl ?_
    exact z_jump (ls1 := [(0, .ref (B + v0)), (1, .int v1), (2, .int (v2 + (1 : Int32)))]) (Nat.le_of_ble_eq_true rfl) [1, 2, 0] rfl (hk38 (v2 + (1 : Int32)) (wI M (v0 + 3) ((((3268 : Int32) * v1) + v2).toNatClampNeg) (rI M (v0 + 1) v2.toNatClampNeg)))
theorem z_fX11_image_l38_i {p : Program} {l : Launch} {e : Env} {s : State} {m : MethodId} {args : Array Value} {below : List Frame} {meth : Method} {c : Code} {D : va_G} {cy : Nat → ClassId} {B : Nat} {kd : Nat → Nat} {n : Nat} {sa sv : Nat → Nat} (C : zC p l s m args meth c D cy B kd n sa sv RX11 cX11_image 3) (ht : ∀ x ∈ c.exceptionTable.toList, False) (hr : meth.sig.returnType = none) {b0 : Mem} (N : Nat) (v0 : Nat) (v1 : Int32) (h0 : kd v0 = 11)  (fu : Nat) : ∀ (v2 : Int32) (M : Mem), Z p l e (rmz 1 0) s m args below meth c (vx_MQ below (QcR D cy B kd n (cvV b0)) (XcR D cy B kd n (cvV b0)) args s 0 (6 * 0) (AA B kd n)) D cy B kd n 3 b0 0 38 [(0, .ref (B + v0)), (1, .int v1), (2, .int v2)] [] M (fX11_image_l38 N v0 v1 fu v2 M) := by
  induction fu with
  | zero => intro v2 M; exact z_none
  | succ fu ih => intro v2 M; exact z_fX11_image_l38_s C ht hr N v0 v1 (fX11_image_l38 N v0 v1 fu) v2 M h0 (fun v2 M => ih v2 M)
theorem z_fX11_image_l38 {p : Program} {l : Launch} {e : Env} {s : State} {m : MethodId} {args : Array Value} {below : List Frame} {meth : Method} {c : Code} {D : va_G} {cy : Nat → ClassId} {B : Nat} {kd : Nat → Nat} {n : Nat} {sa sv : Nat → Nat} (C : zC p l s m args meth c D cy B kd n sa sv RX11 cX11_image 3) (ht : ∀ x ∈ c.exceptionTable.toList, False) (hr : meth.sig.returnType = none) {b0 : Mem} (N : Nat) (v0 : Nat) (v1 : Int32) (fu : Nat) (v2 : Int32) (M : Mem) (h0 : kd v0 = 11)  : Z p l e (rmz 1 0) s m args below meth c (vx_MQ below (QcR D cy B kd n (cvV b0)) (XcR D cy B kd n (cvV b0)) args s 0 (6 * 0) (AA B kd n)) D cy B kd n 3 b0 0 38 [(0, .ref (B + v0)), (1, .int v1), (2, .int v2)] [] M (fX11_image_l38 N v0 v1 fu v2 M) := z_fX11_image_l38_i C ht hr N v0 v1 h0 fu v2 M
set_option maxHeartbeats 4000000 in
set_option maxRecDepth 100000 in
theorem z_fX11_image_b18 {p : Program} {l : Launch} {e : Env} {s : State} {m : MethodId} {args : Array Value} {below : List Frame} {meth : Method} {c : Code} {D : va_G} {cy : Nat → ClassId} {B : Nat} {kd : Nat → Nat} {n : Nat} {sa sv : Nat → Nat} (C : zC p l s m args meth c D cy B kd n sa sv RX11 cX11_image 3) (ht : ∀ x ∈ c.exceptionTable.toList, False) (hr : meth.sig.returnType = none) {b0 : Mem}  (N : Nat) (v0 : Nat) (v1 : Int32) (s0 : Bool) (s1 : Nat) (M : Mem) (h0 : kd v0 = 11) (hs1 : kd s1 = 11)  : Z p l e (rmz 1 0) s m args below meth c (vx_MQ below (QcR D cy B kd n (cvV b0)) (XcR D cy B kd n (cvV b0)) args s 0 (6 * 0) (AA B kd n)) D cy B kd n 3 b0 0 18 [(0, .ref (B + v0)), (1, .int v1)] [.int (bI s0), .ref (B + s1)] M (fX11_image_b18 N v0 v1 s0 s1 M) := by
  unfold fX11_image_b18
  refine z_putI (k := 5) C cl11 hs1 rfl gw_7_15 rfl rfl rfl dX11_image_18 ?_
  refine z_aload_n C 0 0 dX11_image_21 rfl rfl ?_
  refine z_getI (k := 5) C cl11 h0 rfl gw_7_15 rfl dX11_image_22 ?_
  refine z_if_le C 29 dX11_image_25 rfl (fun _ => ?_) (fun _ => ?_)
  · refine z_aload_n C 0 0 dX11_image_29 rfl rfl ?_
    refine z_getR (k := 4) C cl11 h0 rfl gw_7_14 rfl dX11_image_30 ?_
    have j1 : kd (v0 + 5) = 39 := zkd C h0 (k := 4) rfl
    refine z_iload_n C 1 1 dX11_image_33 rfl rfl ?_
    refine z_iconst C dX11_image_34 rfl ?_
    refine z_zast C j1 rfl (by decide) dX11_image_35 (fun _ => ?_)
    refine z_iconst C dX11_image_36 rfl ?_
    refine z_istore_n C 2 (ls1 := [(2, .int (0 : Int32)), (0, .ref (B + v0)), (1, .int v1)]) dX11_image_37 rfl (by decide) rfl ?_
    exact z_jump (ls1 := [(0, .ref (B + v0)), (1, .int v1), (2, .int (0 : Int32))]) (Nat.le_of_ble_eq_true rfl) [1, 2, 0] rfl (z_fX11_image_l38 C ht hr N v0 v1 N (0 : Int32) (wI (wI M s1 5 (bI s0)) (v0 + 5) v1.toNatClampNeg (vp_nar .boolean (1 : Int32))) h0)
  · exact z_vret C hr (Nat.le_of_ble_eq_true rfl) dX11_image_28 rfl
set_option maxHeartbeats 4000000 in
set_option maxRecDepth 100000 in
theorem ctX11_image {l : Launch} {D : va_G} {cy : Nat → ClassId} {B : Nat} {kd : Nat → Nat} {n : Nat} {sa sv : Nat → Nat} (G : zG l kd n) (N : Nat) (v0 : Nat) (v1 : Int32) (h0 : kd v0 = 11) (M : Mem) : CT l D cy B kd n sa sv 1 0 yX11_image cX11_image 3 (none) cvV [.ref (B + v0), .int v1] M (fX11_image N v0 v1 M) := by
  refine ct_of (by decide) G.1 G.2 (Nat.le_of_ble_eq_true rfl) (ls := [(0, .ref (B + v0)), (1, .int v1)]) rfl ?_
  intro p e s m args below meth c b0 C ht hr
  unfold fX11_image
  refine z_aload_n C 0 0 dX11_image_0 rfl rfl ?_
  refine z_iload_n C 1 1 dX11_image_1 rfl rfl ?_
  refine z_i2l C dX11_image_2 ?_
  refine z_lconst (v := 0) C dX11_image_3 rfl ?_
  refine z_ldc2 C dX11_image_4 gw_8_217 ?_
  refine z_callS_pB (As := [.long v1.toInt64, .long (0 : Int64), .long (2 : Int64)]) (rest := [.ref (B + v0)]) C rfl (ctX11_within (zG_of C) v1.toInt64 (0 : Int64) (2 : Int64) M) cw_RX11_157 (okM_X11_within) rfl (okR_of rfl) (Nat.le_of_ble_eq_true rfl) dX11_image_7 (fun qj1 _ => ?_)
  refine z_if_eqB C 17 dX11_image_10 rfl (fun _ => ?_) (fun _ => ?_)
  · refine z_iconst C dX11_image_13 rfl ?_
    refine z_goto C 18 dX11_image_14 rfl ?_
    exact z_jump (ls1 := [(0, .ref (B + v0)), (1, .int v1)]) (Nat.le_of_ble_eq_true rfl) [0, 1] rfl (z_fX11_image_b18 C ht hr N v0 v1 false v0 M h0 h0)
  · refine z_iconst C dX11_image_17 rfl ?_
    exact z_jump (ls1 := [(0, .ref (B + v0)), (1, .int v1)]) (Nat.le_of_ble_eq_true rfl) [0, 1] rfl (z_fX11_image_b18 C ht hr N v0 v1 true v0 M h0 h0)
set_option maxHeartbeats 4000000 in
set_option maxRecDepth 100000 in
theorem z_fX11_restore_l44_s {p : Program} {l : Launch} {e : Env} {s : State} {m : MethodId} {args : Array Value} {below : List Frame} {meth : Method} {c : Code} {D : va_G} {cy : Nat → ClassId} {B : Nat} {kd : Nat → Nat} {n : Nat} {sa sv : Nat → Nat} (C : zC p l s m args meth c D cy B kd n sa sv RX11 cX11_restore 3) (ht : ∀ x ∈ c.exceptionTable.toList, False) (hr : meth.sig.returnType = none) {b0 : Mem} (N : Nat) (v0 : Nat) (v1 : Int32) (k44 : Int32 → Mem → Option Mem) (v2 : Int32) (M : Mem) (h0 : kd v0 = 11)  (hk44 : ∀ (v2 : Int32) (M : Mem), Z p l e (rmz 1 0) s m args below meth c (vx_MQ below (QcR D cy B kd n (cvV b0)) (XcR D cy B kd n (cvV b0)) args s 0 (6 * 0) (AA B kd n)) D cy B kd n 3 b0 0 44 [(0, .ref (B + v0)), (1, .int v1), (2, .int v2)] [] M (k44 v2 M)) : Z p l e (rmz 1 0) s m args below meth c (vx_MQ below (QcR D cy B kd n (cvV b0)) (XcR D cy B kd n (cvV b0)) args s 0 (6 * 0) (AA B kd n)) D cy B kd n 3 b0 0 44 [(0, .ref (B + v0)), (1, .int v1), (2, .int v2)] [] M (fX11_restore_l44_s N v0 v1 k44 v2 M) := by
  unfold fX11_restore_l44_s
  refine z_iload_n C 2 2 dX11_restore_44 rfl rfl ?_
  refine z_sipush (v := 3268) C dX11_restore_45 rfl ?_
  refine z_icmp_ge C 75 dX11_restore_48 rfl (fun _ => ?_) (fun _ => ?_)
  · exact z_vret C hr (Nat.le_of_ble_eq_true rfl) dX11_restore_75 rfl
  · refine z_aload_n C 0 0 dX11_restore_51 rfl rfl ?_
    refine z_getR (k := 0) C cl11 h0 rfl gw_7_10 rfl dX11_restore_52 ?_
    have j1 : kd (v0 + 1) = 36 := zkd C h0 (k := 0) rfl
    refine z_iload_n C 2 2 dX11_restore_55 rfl rfl ?_
    refine z_aload_n C 0 0 dX11_restore_56 rfl rfl ?_
    refine z_getR (k := 2) C cl11 h0 rfl gw_7_12 rfl dX11_restore_57 ?_
    have j2 : kd (v0 + 3) = 37 := zkd C h0 (k := 2) rfl
    refine z_sipush (v := 3268) C dX11_restore_60 rfl ?_
    refine z_iload_n C 1 1 dX11_restore_63 rfl rfl ?_
    refine z_imul C dX11_restore_64 ?_
    refine z_iload_n C 2 2 dX11_restore_65 rfl rfl ?_
    refine z_iadd C dX11_restore_66 ?_
    refine z_iald C j2 rfl (by decide) dX11_restore_67 (fun j3 => ?_)
    refine z_iast C j1 rfl (by decide) dX11_restore_68 (fun _ => ?_)
    refine z_iinc C 2 2 (v := v2) (v1 := (v2 + (1 : Int32))) (ls1 := [(2, .int (v2 + (1 : Int32))), (0, .ref (B + v0)), (1, .int v1)]) dX11_restore_69 rfl rfl (by decide) rfl ?_
    refine z_goto C 44 dX11_restore_72 rfl ?_
    exact z_jump (ls1 := [(0, .ref (B + v0)), (1, .int v1), (2, .int (v2 + (1 : Int32)))]) (Nat.le_of_ble_eq_true rfl) [1, 2, 0] rfl (hk44 (v2 + (1 : Int32)) (wI M (v0 + 1) v2.toNatClampNeg (rI M (v0 + 3) (((3268 : Int32) * v1) + v2).toNatClampNeg)))
theorem z_fX11_restore_l44_i {p : Program} {l : Launch} {e : Env} {s : State} {m : MethodId} {args : Array Value} {below : List Frame} {meth : Method} {c : Code} {D : va_G} {cy : Nat → ClassId} {B : Nat} {kd : Nat → Nat} {n : Nat} {sa sv : Nat → Nat} (C : zC p l s m args meth c D cy B kd n sa sv RX11 cX11_restore 3) (ht : ∀ x ∈ c.exceptionTable.toList, False) (hr : meth.sig.returnType = none) {b0 : Mem} (N : Nat) (v0 : Nat) (v1 : Int32) (h0 : kd v0 = 11)  (fu : Nat) : ∀ (v2 : Int32) (M : Mem), Z p l e (rmz 1 0) s m args below meth c (vx_MQ below (QcR D cy B kd n (cvV b0)) (XcR D cy B kd n (cvV b0)) args s 0 (6 * 0) (AA B kd n)) D cy B kd n 3 b0 0 44 [(0, .ref (B + v0)), (1, .int v1), (2, .int v2)] [] M (fX11_restore_l44 N v0 v1 fu v2 M) := by
  induction fu with
  | zero => intro v2 M; exact z_none
  | succ fu ih => intro v2 M; exact z_fX11_restore_l44_s C ht hr N v0 v1 (fX11_restore_l44 N v0 v1 fu) v2 M h0 (fun v2 M => ih v2 M)
theorem z_fX11_restore_l44 {p : Program} {l : Launch} {e : Env} {s : State} {m : MethodId} {args : Array Value} {below : List Frame} {meth : Method} {c : Code} {D : va_G} {cy : Nat → ClassId} {B : Nat} {kd : Nat → Nat} {n : Nat} {sa sv : Nat → Nat} (C : zC p l s m args meth c D cy B kd n sa sv RX11 cX11_restore 3) (ht : ∀ x ∈ c.exceptionTable.toList, False) (hr : meth.sig.returnType = none) {b0 : Mem} (N : Nat) (v0 : Nat) (v1 : Int32) (fu : Nat) (v2 : Int32) (M : Mem) (h0 : kd v0 = 11)  : Z p l e (rmz 1 0) s m args below meth c (vx_MQ below (QcR D cy B kd n (cvV b0)) (XcR D cy B kd n (cvV b0)) args s 0 (6 * 0) (AA B kd n)) D cy B kd n 3 b0 0 44 [(0, .ref (B + v0)), (1, .int v1), (2, .int v2)] [] M (fX11_restore_l44 N v0 v1 fu v2 M) := z_fX11_restore_l44_i C ht hr N v0 v1 h0 fu v2 M
set_option maxHeartbeats 4000000 in
set_option maxRecDepth 100000 in
theorem z_fX11_restore_b31 {p : Program} {l : Launch} {e : Env} {s : State} {m : MethodId} {args : Array Value} {below : List Frame} {meth : Method} {c : Code} {D : va_G} {cy : Nat → ClassId} {B : Nat} {kd : Nat → Nat} {n : Nat} {sa sv : Nat → Nat} (C : zC p l s m args meth c D cy B kd n sa sv RX11 cX11_restore 3) (ht : ∀ x ∈ c.exceptionTable.toList, False) (hr : meth.sig.returnType = none) {b0 : Mem}  (N : Nat) (v0 : Nat) (v1 : Int32) (s0 : Int32) (s1 : Nat) (M : Mem) (h0 : kd v0 = 11) (hs1 : kd s1 = 11)  : Z p l e (rmz 1 0) s m args below meth c (vx_MQ below (QcR D cy B kd n (cvV b0)) (XcR D cy B kd n (cvV b0)) args s 0 (6 * 0) (AA B kd n)) D cy B kd n 3 b0 0 31 [(0, .ref (B + v0)), (1, .int v1)] [.int s0, .ref (B + s1)] M (fX11_restore_b31 N v0 v1 s0 s1 M) := by
  unfold fX11_restore_b31
  refine z_putI (k := 5) C cl11 hs1 rfl gw_7_15 rfl rfl rfl dX11_restore_31 ?_
  refine z_aload_n C 0 0 dX11_restore_34 rfl rfl ?_
  refine z_getI (k := 5) C cl11 h0 rfl gw_7_15 rfl dX11_restore_35 ?_
  refine z_if_le C 42 dX11_restore_38 rfl (fun _ => ?_) (fun _ => ?_)
  · refine z_iconst C dX11_restore_42 rfl ?_
    refine z_istore_n C 2 (ls1 := [(2, .int (0 : Int32)), (0, .ref (B + v0)), (1, .int v1)]) dX11_restore_43 rfl (by decide) rfl ?_
    exact z_jump (ls1 := [(0, .ref (B + v0)), (1, .int v1), (2, .int (0 : Int32))]) (Nat.le_of_ble_eq_true rfl) [1, 2, 0] rfl (z_fX11_restore_l44 C ht hr N v0 v1 N (0 : Int32) (wI M s1 5 s0) h0)
  · exact z_vret C hr (Nat.le_of_ble_eq_true rfl) dX11_restore_41 rfl
set_option maxHeartbeats 4000000 in
set_option maxRecDepth 100000 in
theorem ctX11_restore {l : Launch} {D : va_G} {cy : Nat → ClassId} {B : Nat} {kd : Nat → Nat} {n : Nat} {sa sv : Nat → Nat} (G : zG l kd n) (N : Nat) (v0 : Nat) (v1 : Int32) (h0 : kd v0 = 11) (M : Mem) : CT l D cy B kd n sa sv 1 0 yX11_restore cX11_restore 3 (none) cvV [.ref (B + v0), .int v1] M (fX11_restore N v0 v1 M) := by
  refine ct_of (by decide) G.1 G.2 (Nat.le_of_ble_eq_true rfl) (ls := [(0, .ref (B + v0)), (1, .int v1)]) rfl ?_
  intro p e s m args below meth c b0 C ht hr
  unfold fX11_restore
  refine z_aload_n C 0 0 dX11_restore_0 rfl rfl ?_
  refine z_iload_n C 1 1 dX11_restore_1 rfl rfl ?_
  refine z_i2l C dX11_restore_2 ?_
  refine z_lconst (v := 0) C dX11_restore_3 rfl ?_
  refine z_ldc2 C dX11_restore_4 gw_8_217 ?_
  refine z_callS_pB (As := [.long v1.toInt64, .long (0 : Int64), .long (2 : Int64)]) (rest := [.ref (B + v0)]) C rfl (ctX11_within (zG_of C) v1.toInt64 (0 : Int64) (2 : Int64) M) cw_RX11_157 (okM_X11_within) rfl (okR_of rfl) (Nat.le_of_ble_eq_true rfl) dX11_restore_7 (fun qj1 _ => ?_)
  refine z_if_neB C 17 dX11_restore_10 rfl (fun _ => ?_) (fun _ => ?_)
  · refine z_aload_n C 0 0 dX11_restore_17 rfl rfl ?_
    refine z_getR (k := 4) C cl11 h0 rfl gw_7_14 rfl dX11_restore_18 ?_
    have j2 : kd (v0 + 5) = 39 := zkd C h0 (k := 4) rfl
    refine z_iload_n C 1 1 dX11_restore_21 rfl rfl ?_
    refine z_zald C j2 rfl (by decide) dX11_restore_22 (fun j3 => ?_)
    refine z_if_ne C 30 dX11_restore_23 rfl (fun _ => ?_) (fun _ => ?_)
    · refine z_iconst C dX11_restore_26 rfl ?_
      refine z_goto C 31 dX11_restore_27 rfl ?_
      exact z_jump (ls1 := [(0, .ref (B + v0)), (1, .int v1)]) (Nat.le_of_ble_eq_true rfl) [0, 1] rfl (z_fX11_restore_b31 C ht hr N v0 v1 (2 : Int32) v0 M h0 h0)
    · refine z_iconst C dX11_restore_30 rfl ?_
      exact z_jump (ls1 := [(0, .ref (B + v0)), (1, .int v1)]) (Nat.le_of_ble_eq_true rfl) [0, 1] rfl (z_fX11_restore_b31 C ht hr N v0 v1 (0 : Int32) v0 M h0 h0)
  · refine z_iconst C dX11_restore_13 rfl ?_
    refine z_goto C 31 dX11_restore_14 rfl ?_
    exact z_jump (ls1 := [(0, .ref (B + v0)), (1, .int v1)]) (Nat.le_of_ble_eq_true rfl) [0, 1] rfl (z_fX11_restore_b31 C ht hr N v0 v1 (1 : Int32) v0 M h0 h0)
set_option maxHeartbeats 4000000 in
set_option maxRecDepth 100000 in
theorem z_fX11_count_b30 {p : Program} {l : Launch} {e : Env} {s : State} {m : MethodId} {args : Array Value} {below : List Frame} {meth : Method} {c : Code} {D : va_G} {cy : Nat → ClassId} {B : Nat} {kd : Nat → Nat} {n : Nat} {sa sv : Nat → Nat} (C : zC p l s m args meth c D cy B kd n sa sv RX11 cX11_count 4) (ht : ∀ x ∈ c.exceptionTable.toList, False) (hr : meth.sig.returnType = some (FieldType.int)) {b0 : Int32 × Mem}  (N : Nat) (k9 : Int32 → Int32 → Option (Int32 × Mem)) (v0 : Nat) (v1 : Int32) (v3 : Int32) (s0 : Int32) (s1 : Int32) (M : Mem) (h0 : kd v0 = 11) (hk9 : ∀ (v2 : Int32) (v3 : Int32), Z p l e (rmz 2 0) s m args below meth c (vx_MQ below (QcR D cy B kd n (cvI b0)) (XcR D cy B kd n (cvI b0)) args s 0 (6 * 0) (AA B kd n)) D cy B kd n 4 b0 0 9 [(0, .ref (B + v0)), (1, .int v1), (2, .int v2), (3, .int v3)] [] M (k9 v2 v3)) : Z p l e (rmz 2 0) s m args below meth c (vx_MQ below (QcR D cy B kd n (cvI b0)) (XcR D cy B kd n (cvI b0)) args s 0 (6 * 0) (AA B kd n)) D cy B kd n 4 b0 0 30 [(0, .ref (B + v0)), (1, .int v1), (3, .int v3)] [.int s0, .int s1] M (fX11_count_b30 N k9 v0 v1 v3 s0 s1 M) := by
  unfold fX11_count_b30
  refine z_ior C dX11_count_30 ?_
  refine z_istore_n C 2 (ls1 := [(2, .int (s1 ||| s0)), (0, .ref (B + v0)), (1, .int v1), (3, .int v3)]) dX11_count_31 rfl (by decide) rfl ?_
  refine z_iinc C 3 3 (v := v3) (v1 := (v3 + (1 : Int32))) (ls1 := [(3, .int (v3 + (1 : Int32))), (2, .int (s1 ||| s0)), (0, .ref (B + v0)), (1, .int v1)]) dX11_count_32 rfl rfl (by decide) rfl ?_
  refine z_goto C 9 dX11_count_35 rfl ?_
  exact z_jump (ls1 := [(0, .ref (B + v0)), (1, .int v1), (2, .int (s1 ||| s0)), (3, .int (v3 + (1 : Int32)))]) (Nat.le_of_ble_eq_true rfl) [2, 3, 1, 0] rfl (hk9 (s1 ||| s0) (v3 + (1 : Int32)))
set_option maxHeartbeats 4000000 in
set_option maxRecDepth 100000 in
theorem z_fX11_count_l9_s {p : Program} {l : Launch} {e : Env} {s : State} {m : MethodId} {args : Array Value} {below : List Frame} {meth : Method} {c : Code} {D : va_G} {cy : Nat → ClassId} {B : Nat} {kd : Nat → Nat} {n : Nat} {sa sv : Nat → Nat} (C : zC p l s m args meth c D cy B kd n sa sv RX11 cX11_count 4) (ht : ∀ x ∈ c.exceptionTable.toList, False) (hr : meth.sig.returnType = some (FieldType.int)) {b0 : Int32 × Mem} (N : Nat) (v0 : Nat) (v1 : Int32) (M : Mem) (k9 : Int32 → Int32 → Option (Int32 × Mem)) (v2 : Int32) (v3 : Int32) (h0 : kd v0 = 11)  (hk9 : ∀ (v2 : Int32) (v3 : Int32), Z p l e (rmz 2 0) s m args below meth c (vx_MQ below (QcR D cy B kd n (cvI b0)) (XcR D cy B kd n (cvI b0)) args s 0 (6 * 0) (AA B kd n)) D cy B kd n 4 b0 0 9 [(0, .ref (B + v0)), (1, .int v1), (2, .int v2), (3, .int v3)] [] M (k9 v2 v3)) : Z p l e (rmz 2 0) s m args below meth c (vx_MQ below (QcR D cy B kd n (cvI b0)) (XcR D cy B kd n (cvI b0)) args s 0 (6 * 0) (AA B kd n)) D cy B kd n 4 b0 0 9 [(0, .ref (B + v0)), (1, .int v1), (2, .int v2), (3, .int v3)] [] M (fX11_count_l9_s N v0 v1 M k9 v2 v3) := by
  unfold fX11_count_l9_s
  refine z_iload_n C 3 3 dX11_count_9 rfl rfl ?_
  refine z_iconst C dX11_count_10 rfl ?_
  refine z_icmp_ge C 38 dX11_count_11 rfl (fun _ => ?_) (fun _ => ?_)
  · refine z_iload_n C 1 1 dX11_count_38 rfl rfl ?_
    refine z_i2l C dX11_count_39 ?_
    refine z_lconst (v := 0) C dX11_count_40 rfl ?_
    refine z_ldc2 C dX11_count_41 gw_8_25 ?_
    refine z_callS_pB (As := [.long v1.toInt64, .long (0 : Int64), .long (3 : Int64)]) (rest := []) C rfl (ctX11_within (zG_of C) v1.toInt64 (0 : Int64) (3 : Int64) M) cw_RX11_157 (okM_X11_within) rfl (okR_of rfl) (Nat.le_of_ble_eq_true rfl) dX11_count_44 (fun qj1 _ => ?_)
    refine z_if_eqB C 59 dX11_count_47 rfl (fun _ => ?_) (fun _ => ?_)
    · refine z_aload_n C 0 0 dX11_count_50 rfl rfl ?_
      refine z_getR (k := 0) C cl11 h0 rfl gw_7_10 rfl dX11_count_51 ?_
      have j2 : kd (v0 + 1) = 36 := zkd C h0 (k := 0) rfl
      refine z_iload_n C 1 1 dX11_count_54 rfl rfl ?_
      refine z_iald C j2 rfl (by decide) dX11_count_55 (fun j3 => ?_)
      refine z_goto C 81 dX11_count_56 rfl ?_
      exact z_iret C hr (Nat.le_of_ble_eq_true rfl) dX11_count_81 rfl
    · refine z_iload_n C 1 1 dX11_count_59 rfl rfl ?_
      refine z_iconst C dX11_count_60 rfl ?_
      refine z_icmp_ne C 68 dX11_count_61 rfl (fun _ => ?_) (fun _ => ?_)
      · refine z_iload_n C 2 2 dX11_count_64 rfl rfl ?_
        refine z_goto C 81 dX11_count_65 rfl ?_
        exact z_iret C hr (Nat.le_of_ble_eq_true rfl) dX11_count_81 rfl
      · refine z_iload_n C 1 1 dX11_count_68 rfl rfl ?_
        refine z_iconst C dX11_count_69 rfl ?_
        refine z_icmp_ne C 80 dX11_count_70 rfl (fun _ => ?_) (fun _ => ?_)
        · refine z_aload_n C 0 0 dX11_count_73 rfl rfl ?_
          refine z_getI (k := 7) C cl11 h0 rfl gw_7_17 rfl dX11_count_74 ?_
          refine z_goto C 81 dX11_count_77 rfl ?_
          exact z_iret C hr (Nat.le_of_ble_eq_true rfl) dX11_count_81 rfl
        · refine z_iconst C dX11_count_80 rfl ?_
          exact z_iret C hr (Nat.le_of_ble_eq_true rfl) dX11_count_81 rfl
  · refine z_iload_n C 2 2 dX11_count_14 rfl rfl ?_
    refine z_aload_n C 0 0 dX11_count_15 rfl rfl ?_
    refine z_iload_n C 3 3 dX11_count_16 rfl rfl ?_
    refine z_callV_pB (As := [.int v3]) (rest := [.int v2]) C rfl (ctX11_isRow (zG_of C) v0 v3 h0 M) cw_RX11_256 rfl (okM_X11_isRow) rfl cl11 h0 (okR_of rfl) (Nat.le_of_ble_eq_true rfl) dX11_count_17 (fun qj4 _ => ?_)
    refine z_if_eqB C 29 dX11_count_20 rfl (fun _ => ?_) (fun _ => ?_)
    · refine z_iconst C dX11_count_23 rfl ?_
      refine z_iload_n C 3 3 dX11_count_24 rfl rfl ?_
      refine z_ishl C dX11_count_25 ?_
      refine z_goto C 30 dX11_count_26 rfl ?_
      exact z_jump (ls1 := [(0, .ref (B + v0)), (1, .int v1), (3, .int v3)]) (Nat.le_of_ble_eq_true rfl) [0, 1, 3] rfl (z_fX11_count_b30 C ht hr N k9 v0 v1 v3 (shlI (1 : Int32) v3) v2 M h0 hk9)
    · refine z_iconst C dX11_count_29 rfl ?_
      exact z_jump (ls1 := [(0, .ref (B + v0)), (1, .int v1), (3, .int v3)]) (Nat.le_of_ble_eq_true rfl) [0, 1, 3] rfl (z_fX11_count_b30 C ht hr N k9 v0 v1 v3 (0 : Int32) v2 M h0 hk9)
theorem z_fX11_count_l9_i {p : Program} {l : Launch} {e : Env} {s : State} {m : MethodId} {args : Array Value} {below : List Frame} {meth : Method} {c : Code} {D : va_G} {cy : Nat → ClassId} {B : Nat} {kd : Nat → Nat} {n : Nat} {sa sv : Nat → Nat} (C : zC p l s m args meth c D cy B kd n sa sv RX11 cX11_count 4) (ht : ∀ x ∈ c.exceptionTable.toList, False) (hr : meth.sig.returnType = some (FieldType.int)) {b0 : Int32 × Mem} (N : Nat) (v0 : Nat) (v1 : Int32) (M : Mem) (h0 : kd v0 = 11)  (fu : Nat) : ∀ (v2 : Int32) (v3 : Int32), Z p l e (rmz 2 0) s m args below meth c (vx_MQ below (QcR D cy B kd n (cvI b0)) (XcR D cy B kd n (cvI b0)) args s 0 (6 * 0) (AA B kd n)) D cy B kd n 4 b0 0 9 [(0, .ref (B + v0)), (1, .int v1), (2, .int v2), (3, .int v3)] [] M (fX11_count_l9 N v0 v1 M fu v2 v3) := by
  induction fu with
  | zero => intro v2 v3; exact z_none
  | succ fu ih => intro v2 v3; exact z_fX11_count_l9_s C ht hr N v0 v1 M (fX11_count_l9 N v0 v1 M fu) v2 v3 h0 (fun v2 v3 => ih v2 v3)
theorem z_fX11_count_l9 {p : Program} {l : Launch} {e : Env} {s : State} {m : MethodId} {args : Array Value} {below : List Frame} {meth : Method} {c : Code} {D : va_G} {cy : Nat → ClassId} {B : Nat} {kd : Nat → Nat} {n : Nat} {sa sv : Nat → Nat} (C : zC p l s m args meth c D cy B kd n sa sv RX11 cX11_count 4) (ht : ∀ x ∈ c.exceptionTable.toList, False) (hr : meth.sig.returnType = some (FieldType.int)) {b0 : Int32 × Mem} (N : Nat) (v0 : Nat) (v1 : Int32) (M : Mem) (fu : Nat) (v2 : Int32) (v3 : Int32) (h0 : kd v0 = 11)  : Z p l e (rmz 2 0) s m args below meth c (vx_MQ below (QcR D cy B kd n (cvI b0)) (XcR D cy B kd n (cvI b0)) args s 0 (6 * 0) (AA B kd n)) D cy B kd n 4 b0 0 9 [(0, .ref (B + v0)), (1, .int v1), (2, .int v2), (3, .int v3)] [] M (fX11_count_l9 N v0 v1 M fu v2 v3) := z_fX11_count_l9_i C ht hr N v0 v1 M h0 fu v2 v3
set_option maxHeartbeats 4000000 in
set_option maxRecDepth 100000 in
theorem ctX11_count {l : Launch} {D : va_G} {cy : Nat → ClassId} {B : Nat} {kd : Nat → Nat} {n : Nat} {sa sv : Nat → Nat} (G : zG l kd n) (N : Nat) (v0 : Nat) (v1 : Int32) (h0 : kd v0 = 11) (M : Mem) : CT l D cy B kd n sa sv 2 0 yX11_count cX11_count 4 (some (FieldType.int)) cvI [.ref (B + v0), .int v1] M (fX11_count N v0 v1 M) := by
  refine ct_of (by decide) G.1 G.2 (Nat.le_of_ble_eq_true rfl) (ls := [(0, .ref (B + v0)), (1, .int v1)]) rfl ?_
  intro p e s m args below meth c b0 C ht hr
  unfold fX11_count
  refine z_aload_n C 0 0 dX11_count_0 rfl rfl ?_
  refine z_iconst C dX11_count_1 rfl ?_
  refine z_putI (k := 5) C cl11 h0 rfl gw_7_15 rfl rfl rfl dX11_count_2 ?_
  refine z_iconst C dX11_count_5 rfl ?_
  refine z_istore_n C 2 (ls1 := [(2, .int (0 : Int32)), (0, .ref (B + v0)), (1, .int v1)]) dX11_count_6 rfl (by decide) rfl ?_
  refine z_iconst C dX11_count_7 rfl ?_
  refine z_istore_n C 3 (ls1 := [(3, .int (0 : Int32)), (2, .int (0 : Int32)), (0, .ref (B + v0)), (1, .int v1)]) dX11_count_8 rfl (by decide) rfl ?_
  exact z_jump (ls1 := [(0, .ref (B + v0)), (1, .int v1), (2, .int (0 : Int32)), (3, .int (0 : Int32))]) (Nat.le_of_ble_eq_true rfl) [2, 3, 1, 0] rfl (z_fX11_count_l9 C ht hr N v0 v1 (wI M v0 5 (0 : Int32)) N (0 : Int32) (0 : Int32) h0)
