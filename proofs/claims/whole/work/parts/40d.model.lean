set_option maxHeartbeats 4000000 in
set_option maxRecDepth 100000 in
theorem z_fX11_canSolve_b78 {p : Program} {l : Launch} {e : Env} {s : State} {m : MethodId} {args : Array Value} {below : List Frame} {meth : Method} {c : Code} {D : va_G} {cy : Nat → ClassId} {B : Nat} {kd : Nat → Nat} {n : Nat} {sa sv : Nat → Nat} (C : zC p l s m args meth c D cy B kd n sa sv RX11 cX11_canSolve 6) (ht : ∀ x ∈ c.exceptionTable.toList, False) (hr : meth.sig.returnType = some (FieldType.boolean)) {b0 : Bool × Mem}  (N : Nat) (k2 : Int32 → Mem → Option (Bool × Mem)) (v0 : Nat) (v1 : Int32) (v2 : Int32) (v3 : Int32) (M : Mem) (h0 : kd v0 = 11) (hk2 : ∀ (v3 : Int32) (M : Mem), Z p l e (rmz 1 0) s m args below meth c (vx_MQ below (QcR D cy B kd n (cvB b0)) (XcR D cy B kd n (cvB b0)) args s 0 (6 * 0) (AA B kd n)) D cy B kd n 6 b0 0 2 [(0, .ref (B + v0)), (1, .int v1), (2, .int v2), (3, .int v3)] [] M (k2 v3 M)) : Z p l e (rmz 1 0) s m args below meth c (vx_MQ below (QcR D cy B kd n (cvB b0)) (XcR D cy B kd n (cvB b0)) args s 0 (6 * 0) (AA B kd n)) D cy B kd n 6 b0 0 78 [(0, .ref (B + v0)), (1, .int v1), (2, .int v2), (3, .int v3)] [] M (fX11_canSolve_b78 N k2 v0 v1 v2 v3 M) := by
  unfold fX11_canSolve_b78
  refine z_aload_n C 0 0 dX11_canSolve_78 rfl rfl ?_
  refine z_getR (k := 24) C cl11 h0 rfl gw_7_34 rfl dX11_canSolve_79 ?_
  have j1 : kd (v0 + 13) = 33 := zkd C h0 (k := 24) rfl
  refine z_iload_n C 3 3 dX11_canSolve_82 rfl rfl ?_
  refine z_iald C j1 rfl (by decide) dX11_canSolve_83 (fun j2 => ?_)
  refine z_istore C 4 (ls1 := [(4, .int (rI M (v0 + 13) v3.toNatClampNeg)), (0, .ref (B + v0)), (1, .int v1), (2, .int v2), (3, .int v3)]) dX11_canSolve_84 (by decide) rfl ?_
  refine z_iload C 0 dX11_canSolve_86 rfl ?_
  refine z_iconst C dX11_canSolve_88 rfl ?_
  refine z_icmp_ne C 95 dX11_canSolve_89 rfl (fun _ => ?_) (fun _ => ?_)
  · refine z_goto C 178 dX11_canSolve_92 rfl ?_
    exact z_jump (ls1 := [(0, .ref (B + v0)), (1, .int v1), (2, .int v2), (3, .int v3)]) (Nat.le_of_ble_eq_true rfl) [1, 2, 3, 4] rfl (z_fX11_canSolve_b178 C ht hr N k2 v0 v1 v2 v3 M h0 hk2)
  · refine z_aload_n C 0 1 dX11_canSolve_95 rfl rfl ?_
    refine z_getR (k := 25) C cl11 h0 rfl gw_7_35 rfl dX11_canSolve_96 ?_
    have j3 : kd (v0 + 14) = 42 := zkd C h0 (k := 25) rfl
    refine z_iload C 0 dX11_canSolve_99 rfl ?_
    refine z_iconst C dX11_canSolve_101 rfl ?_
    refine z_zast C j3 rfl (by decide) dX11_canSolve_102 (fun _ => ?_)
    refine z_iconst C dX11_canSolve_103 rfl ?_
    refine z_istore C 5 (ls1 := [(5, .int (0 : Int32)), (4, .int (rI M (v0 + 13) v3.toNatClampNeg)), (0, .ref (B + v0)), (1, .int v1), (2, .int v2), (3, .int v3)]) dX11_canSolve_104 (by decide) rfl ?_
    exact z_jump (ls1 := [(0, .ref (B + v0)), (1, .int v1), (2, .int v2), (3, .int v3), (4, .int (rI M (v0 + 13) v3.toNatClampNeg)), (5, .int (0 : Int32))]) (Nat.le_of_ble_eq_true rfl) [2, 3, 4, 5, 1, 0] rfl (z_fX11_canSolve_l106 C ht hr N k2 v0 v1 v2 v3 (rI M (v0 + 13) v3.toNatClampNeg) N (0 : Int32) (wI M (v0 + 14) ((rI M (v0 + 13) v3.toNatClampNeg).toNatClampNeg) (vp_nar .boolean (1 : Int32))) h0 hk2)
set_option maxHeartbeats 4000000 in
set_option maxRecDepth 100000 in
theorem z_fX11_canSolve_b72 {p : Program} {l : Launch} {e : Env} {s : State} {m : MethodId} {args : Array Value} {below : List Frame} {meth : Method} {c : Code} {D : va_G} {cy : Nat → ClassId} {B : Nat} {kd : Nat → Nat} {n : Nat} {sa sv : Nat → Nat} (C : zC p l s m args meth c D cy B kd n sa sv RX11 cX11_canSolve 6) (ht : ∀ x ∈ c.exceptionTable.toList, False) (hr : meth.sig.returnType = some (FieldType.boolean)) {b0 : Bool × Mem}  (N : Nat) (k2 : Int32 → Mem → Option (Bool × Mem)) (k22 : Int32 → Mem → Option (Bool × Mem)) (v0 : Nat) (v1 : Int32) (v2 : Int32) (v3 : Int32) (v4 : Int32) (M : Mem) (h0 : kd v0 = 11) (hk2 : ∀ (v3 : Int32) (M : Mem), Z p l e (rmz 1 0) s m args below meth c (vx_MQ below (QcR D cy B kd n (cvB b0)) (XcR D cy B kd n (cvB b0)) args s 0 (6 * 0) (AA B kd n)) D cy B kd n 6 b0 0 2 [(0, .ref (B + v0)), (1, .int v1), (2, .int v2), (3, .int v3)] [] M (k2 v3 M)) (hk22 : ∀ (v4 : Int32) (M : Mem), Z p l e (rmz 1 0) s m args below meth c (vx_MQ below (QcR D cy B kd n (cvB b0)) (XcR D cy B kd n (cvB b0)) args s 0 (6 * 0) (AA B kd n)) D cy B kd n 6 b0 0 22 [(0, .ref (B + v0)), (1, .int v1), (2, .int v2), (3, .int v3), (4, .int v4)] [] M (k22 v4 M)) : Z p l e (rmz 1 0) s m args below meth c (vx_MQ below (QcR D cy B kd n (cvB b0)) (XcR D cy B kd n (cvB b0)) args s 0 (6 * 0) (AA B kd n)) D cy B kd n 6 b0 0 72 [(0, .ref (B + v0)), (1, .int v1), (2, .int v2), (3, .int v3), (4, .int v4)] [] M (fX11_canSolve_b72 N k2 k22 v0 v1 v2 v3 v4 M) := by
  unfold fX11_canSolve_b72
  refine z_iinc C 4 4 (v := v4) (v1 := (v4 + (1 : Int32))) (ls1 := [(4, .int (v4 + (1 : Int32))), (0, .ref (B + v0)), (1, .int v1), (2, .int v2), (3, .int v3)]) dX11_canSolve_72 rfl rfl (by decide) rfl ?_
  refine z_goto C 22 dX11_canSolve_75 rfl ?_
  exact z_jump (ls1 := [(0, .ref (B + v0)), (1, .int v1), (2, .int v2), (3, .int v3), (4, .int (v4 + (1 : Int32)))]) (Nat.le_of_ble_eq_true rfl) [1, 2, 3, 4, 0] rfl (hk22 (v4 + (1 : Int32)) M)
set_option maxHeartbeats 4000000 in
set_option maxRecDepth 100000 in
theorem z_fX11_canSolve_l22_s {p : Program} {l : Launch} {e : Env} {s : State} {m : MethodId} {args : Array Value} {below : List Frame} {meth : Method} {c : Code} {D : va_G} {cy : Nat → ClassId} {B : Nat} {kd : Nat → Nat} {n : Nat} {sa sv : Nat → Nat} (C : zC p l s m args meth c D cy B kd n sa sv RX11 cX11_canSolve 6) (ht : ∀ x ∈ c.exceptionTable.toList, False) (hr : meth.sig.returnType = some (FieldType.boolean)) {b0 : Bool × Mem} (N : Nat) (k2 : Int32 → Mem → Option (Bool × Mem)) (v0 : Nat) (v1 : Int32) (v2 : Int32) (v3 : Int32) (k22 : Int32 → Mem → Option (Bool × Mem)) (v4 : Int32) (M : Mem) (h0 : kd v0 = 11) (hk2 : ∀ (v3 : Int32) (M : Mem), Z p l e (rmz 1 0) s m args below meth c (vx_MQ below (QcR D cy B kd n (cvB b0)) (XcR D cy B kd n (cvB b0)) args s 0 (6 * 0) (AA B kd n)) D cy B kd n 6 b0 0 2 [(0, .ref (B + v0)), (1, .int v1), (2, .int v2), (3, .int v3)] [] M (k2 v3 M)) (hk22 : ∀ (v4 : Int32) (M : Mem), Z p l e (rmz 1 0) s m args below meth c (vx_MQ below (QcR D cy B kd n (cvB b0)) (XcR D cy B kd n (cvB b0)) args s 0 (6 * 0) (AA B kd n)) D cy B kd n 6 b0 0 22 [(0, .ref (B + v0)), (1, .int v1), (2, .int v2), (3, .int v3), (4, .int v4)] [] M (k22 v4 M)) : Z p l e (rmz 1 0) s m args below meth c (vx_MQ below (QcR D cy B kd n (cvB b0)) (XcR D cy B kd n (cvB b0)) args s 0 (6 * 0) (AA B kd n)) D cy B kd n 6 b0 0 22 [(0, .ref (B + v0)), (1, .int v1), (2, .int v2), (3, .int v3), (4, .int v4)] [] M (fX11_canSolve_l22_s N k2 v0 v1 v2 v3 k22 v4 M) := by
  unfold fX11_canSolve_l22_s
  refine z_iload C 4 dX11_canSolve_22 rfl ?_
  refine z_iload_n C 2 2 dX11_canSolve_24 rfl rfl ?_
  refine z_icmp_ge C 78 dX11_canSolve_25 rfl (fun _ => ?_) (fun _ => ?_)
  · exact z_jump (ls1 := [(0, .ref (B + v0)), (1, .int v1), (2, .int v2), (3, .int v3)]) (Nat.le_of_ble_eq_true rfl) [0, 1, 2, 3] rfl (z_fX11_canSolve_b78 C ht hr N k2 v0 v1 v2 v3 M h0 hk2)
  · refine z_aload_n C 0 0 dX11_canSolve_28 rfl rfl ?_
    refine z_getR (k := 24) C cl11 h0 rfl gw_7_34 rfl dX11_canSolve_29 ?_
    have j1 : kd (v0 + 13) = 33 := zkd C h0 (k := 24) rfl
    refine z_iload_n C 3 3 dX11_canSolve_32 rfl rfl ?_
    refine z_iald C j1 rfl (by decide) dX11_canSolve_33 (fun j2 => ?_)
    refine z_iconst C dX11_canSolve_34 rfl ?_
    refine z_icmp_ne C 78 dX11_canSolve_35 rfl (fun _ => ?_) (fun _ => ?_)
    · refine z_aload_n C 0 0 dX11_canSolve_38 rfl rfl ?_
      refine z_getR (k := 25) C cl11 h0 rfl gw_7_35 rfl dX11_canSolve_39 ?_
      have j3 : kd (v0 + 14) = 42 := zkd C h0 (k := 25) rfl
      refine z_iload C 4 dX11_canSolve_42 rfl ?_
      refine z_zald C j3 rfl (by decide) dX11_canSolve_44 (fun j4 => ?_)
      refine z_if_ne C 72 dX11_canSolve_45 rfl (fun _ => ?_) (fun _ => ?_)
      · refine z_aload_n C 0 0 dX11_canSolve_48 rfl rfl ?_
        refine z_getR (k := 22) C cl11 h0 rfl gw_7_32 rfl dX11_canSolve_49 ?_
        have j5 : kd (v0 + 11) = 30 := zkd C h0 (k := 22) rfl
        refine z_iload C 4 dX11_canSolve_52 rfl ?_
        refine z_lald C j5 rfl (by decide) dX11_canSolve_54 (fun j6 => ?_)
        refine z_iload_n C 3 3 dX11_canSolve_55 rfl rfl ?_
        refine z_lshr C dX11_canSolve_56 ?_
        refine z_lconst (v := 1) C dX11_canSolve_57 rfl ?_
        refine z_land C dX11_canSolve_58 ?_
        refine z_lconst (v := 1) C dX11_canSolve_59 rfl ?_
        refine z_lcmp_ne C 72 dX11_canSolve_60 dX11_canSolve_61 rfl (fun _ => ?_) (fun _ => ?_)
        · refine z_aload_n C 0 0 dX11_canSolve_64 rfl rfl ?_
          refine z_getR (k := 24) C cl11 h0 rfl gw_7_34 rfl dX11_canSolve_65 ?_
          have j7 : kd (v0 + 13) = 33 := zkd C h0 (k := 24) rfl
          refine z_iload_n C 3 3 dX11_canSolve_68 rfl rfl ?_
          refine z_iload C 4 dX11_canSolve_69 rfl ?_
          refine z_iast C j7 rfl (by decide) dX11_canSolve_71 (fun _ => ?_)
          exact z_jump (ls1 := [(0, .ref (B + v0)), (1, .int v1), (2, .int v2), (3, .int v3), (4, .int v4)]) (Nat.le_of_ble_eq_true rfl) [0, 1, 2, 3, 4] rfl (z_fX11_canSolve_b72 C ht hr N k2 k22 v0 v1 v2 v3 v4 (wI M (v0 + 13) v3.toNatClampNeg v4) h0 hk2 hk22)
        · exact z_jump (ls1 := [(0, .ref (B + v0)), (1, .int v1), (2, .int v2), (3, .int v3), (4, .int v4)]) (Nat.le_of_ble_eq_true rfl) [0, 1, 2, 3, 4] rfl (z_fX11_canSolve_b72 C ht hr N k2 k22 v0 v1 v2 v3 v4 M h0 hk2 hk22)
      · exact z_jump (ls1 := [(0, .ref (B + v0)), (1, .int v1), (2, .int v2), (3, .int v3), (4, .int v4)]) (Nat.le_of_ble_eq_true rfl) [0, 1, 2, 3, 4] rfl (z_fX11_canSolve_b72 C ht hr N k2 k22 v0 v1 v2 v3 v4 M h0 hk2 hk22)
    · exact z_jump (ls1 := [(0, .ref (B + v0)), (1, .int v1), (2, .int v2), (3, .int v3)]) (Nat.le_of_ble_eq_true rfl) [0, 1, 2, 3] rfl (z_fX11_canSolve_b78 C ht hr N k2 v0 v1 v2 v3 M h0 hk2)
theorem z_fX11_canSolve_l22_i {p : Program} {l : Launch} {e : Env} {s : State} {m : MethodId} {args : Array Value} {below : List Frame} {meth : Method} {c : Code} {D : va_G} {cy : Nat → ClassId} {B : Nat} {kd : Nat → Nat} {n : Nat} {sa sv : Nat → Nat} (C : zC p l s m args meth c D cy B kd n sa sv RX11 cX11_canSolve 6) (ht : ∀ x ∈ c.exceptionTable.toList, False) (hr : meth.sig.returnType = some (FieldType.boolean)) {b0 : Bool × Mem} (N : Nat) (k2 : Int32 → Mem → Option (Bool × Mem)) (v0 : Nat) (v1 : Int32) (v2 : Int32) (v3 : Int32) (h0 : kd v0 = 11) (hk2 : ∀ (v3 : Int32) (M : Mem), Z p l e (rmz 1 0) s m args below meth c (vx_MQ below (QcR D cy B kd n (cvB b0)) (XcR D cy B kd n (cvB b0)) args s 0 (6 * 0) (AA B kd n)) D cy B kd n 6 b0 0 2 [(0, .ref (B + v0)), (1, .int v1), (2, .int v2), (3, .int v3)] [] M (k2 v3 M)) (fu : Nat) : ∀ (v4 : Int32) (M : Mem), Z p l e (rmz 1 0) s m args below meth c (vx_MQ below (QcR D cy B kd n (cvB b0)) (XcR D cy B kd n (cvB b0)) args s 0 (6 * 0) (AA B kd n)) D cy B kd n 6 b0 0 22 [(0, .ref (B + v0)), (1, .int v1), (2, .int v2), (3, .int v3), (4, .int v4)] [] M (fX11_canSolve_l22 N k2 v0 v1 v2 v3 fu v4 M) := by
  induction fu with
  | zero => intro v4 M; exact z_none
  | succ fu ih => intro v4 M; exact z_fX11_canSolve_l22_s C ht hr N k2 v0 v1 v2 v3 (fX11_canSolve_l22 N k2 v0 v1 v2 v3 fu) v4 M h0 hk2 (fun v4 M => ih v4 M)
theorem z_fX11_canSolve_l22 {p : Program} {l : Launch} {e : Env} {s : State} {m : MethodId} {args : Array Value} {below : List Frame} {meth : Method} {c : Code} {D : va_G} {cy : Nat → ClassId} {B : Nat} {kd : Nat → Nat} {n : Nat} {sa sv : Nat → Nat} (C : zC p l s m args meth c D cy B kd n sa sv RX11 cX11_canSolve 6) (ht : ∀ x ∈ c.exceptionTable.toList, False) (hr : meth.sig.returnType = some (FieldType.boolean)) {b0 : Bool × Mem} (N : Nat) (k2 : Int32 → Mem → Option (Bool × Mem)) (v0 : Nat) (v1 : Int32) (v2 : Int32) (v3 : Int32) (fu : Nat) (v4 : Int32) (M : Mem) (h0 : kd v0 = 11) (hk2 : ∀ (v3 : Int32) (M : Mem), Z p l e (rmz 1 0) s m args below meth c (vx_MQ below (QcR D cy B kd n (cvB b0)) (XcR D cy B kd n (cvB b0)) args s 0 (6 * 0) (AA B kd n)) D cy B kd n 6 b0 0 2 [(0, .ref (B + v0)), (1, .int v1), (2, .int v2), (3, .int v3)] [] M (k2 v3 M)) : Z p l e (rmz 1 0) s m args below meth c (vx_MQ below (QcR D cy B kd n (cvB b0)) (XcR D cy B kd n (cvB b0)) args s 0 (6 * 0) (AA B kd n)) D cy B kd n 6 b0 0 22 [(0, .ref (B + v0)), (1, .int v1), (2, .int v2), (3, .int v3), (4, .int v4)] [] M (fX11_canSolve_l22 N k2 v0 v1 v2 v3 fu v4 M) := z_fX11_canSolve_l22_i C ht hr N k2 v0 v1 v2 v3 h0 hk2 fu v4 M
set_option maxHeartbeats 4000000 in
set_option maxRecDepth 100000 in
theorem z_fX11_canSolve_l2_s {p : Program} {l : Launch} {e : Env} {s : State} {m : MethodId} {args : Array Value} {below : List Frame} {meth : Method} {c : Code} {D : va_G} {cy : Nat → ClassId} {B : Nat} {kd : Nat → Nat} {n : Nat} {sa sv : Nat → Nat} (C : zC p l s m args meth c D cy B kd n sa sv RX11 cX11_canSolve 6) (ht : ∀ x ∈ c.exceptionTable.toList, False) (hr : meth.sig.returnType = some (FieldType.boolean)) {b0 : Bool × Mem} (N : Nat) (v0 : Nat) (v1 : Int32) (v2 : Int32) (k2 : Int32 → Mem → Option (Bool × Mem)) (v3 : Int32) (M : Mem) (h0 : kd v0 = 11)  (hk2 : ∀ (v3 : Int32) (M : Mem), Z p l e (rmz 1 0) s m args below meth c (vx_MQ below (QcR D cy B kd n (cvB b0)) (XcR D cy B kd n (cvB b0)) args s 0 (6 * 0) (AA B kd n)) D cy B kd n 6 b0 0 2 [(0, .ref (B + v0)), (1, .int v1), (2, .int v2), (3, .int v3)] [] M (k2 v3 M)) : Z p l e (rmz 1 0) s m args below meth c (vx_MQ below (QcR D cy B kd n (cvB b0)) (XcR D cy B kd n (cvB b0)) args s 0 (6 * 0) (AA B kd n)) D cy B kd n 6 b0 0 2 [(0, .ref (B + v0)), (1, .int v1), (2, .int v2), (3, .int v3)] [] M (fX11_canSolve_l2_s N v0 v1 v2 k2 v3 M) := by
  unfold fX11_canSolve_l2_s
  refine z_iload_n C 3 3 dX11_canSolve_2 rfl rfl ?_
  refine z_aload_n C 0 0 dX11_canSolve_3 rfl rfl ?_
  refine z_iload_n C 1 1 dX11_canSolve_4 rfl rfl ?_
  refine z_iconst C dX11_canSolve_5 rfl ?_
  refine z_callV_pI (As := [.int v1, .int (1 : Int32)]) (rest := [.int v3]) C rfl (ctX11_get (zG_of C) v0 v1 (1 : Int32) h0 M) cw_RX11_237 rfl (okM_X11_get) rfl cl11 h0 (okR_of rfl) (Nat.le_of_ble_eq_true rfl) dX11_canSolve_6 (fun qj1 _ => ?_)
  refine z_icmp_ge C 184 dX11_canSolve_9 rfl (fun _ => ?_) (fun _ => ?_)
  · refine z_iconst C dX11_canSolve_184 rfl ?_
    refine z_istore_n C 3 (ls1 := [(3, .int (0 : Int32)), (0, .ref (B + v0)), (1, .int v1), (2, .int v2)]) dX11_canSolve_185 rfl (by decide) rfl ?_
    exact z_jump (ls1 := [(0, .ref (B + v0)), (2, .int v2), (3, .int (0 : Int32))]) (Nat.le_of_ble_eq_true rfl) [1, 3, 0] rfl (z_fX11_canSolve_l186 C ht hr N v0 v2 M N (0 : Int32) h0)
  · refine z_aload_n C 0 0 dX11_canSolve_12 rfl rfl ?_
    refine z_getR (k := 24) C cl11 h0 rfl gw_7_34 rfl dX11_canSolve_13 ?_
    have j2 : kd (v0 + 13) = 33 := zkd C h0 (k := 24) rfl
    refine z_iload_n C 3 3 dX11_canSolve_16 rfl rfl ?_
    refine z_iconst C dX11_canSolve_17 rfl ?_
    refine z_iast C j2 rfl (by decide) dX11_canSolve_18 (fun _ => ?_)
    refine z_iconst C dX11_canSolve_19 rfl ?_
    refine z_istore C 4 (ls1 := [(4, .int (0 : Int32)), (0, .ref (B + v0)), (1, .int v1), (2, .int v2), (3, .int v3)]) dX11_canSolve_20 (by decide) rfl ?_
    exact z_jump (ls1 := [(0, .ref (B + v0)), (1, .int v1), (2, .int v2), (3, .int v3), (4, .int (0 : Int32))]) (Nat.le_of_ble_eq_true rfl) [1, 2, 3, 4, 0] rfl (z_fX11_canSolve_l22 C ht hr N k2 v0 v1 v2 v3 N (0 : Int32) (wI M (v0 + 13) v3.toNatClampNeg (-1 : Int32)) h0 hk2)
theorem z_fX11_canSolve_l2_i {p : Program} {l : Launch} {e : Env} {s : State} {m : MethodId} {args : Array Value} {below : List Frame} {meth : Method} {c : Code} {D : va_G} {cy : Nat → ClassId} {B : Nat} {kd : Nat → Nat} {n : Nat} {sa sv : Nat → Nat} (C : zC p l s m args meth c D cy B kd n sa sv RX11 cX11_canSolve 6) (ht : ∀ x ∈ c.exceptionTable.toList, False) (hr : meth.sig.returnType = some (FieldType.boolean)) {b0 : Bool × Mem} (N : Nat) (v0 : Nat) (v1 : Int32) (v2 : Int32) (h0 : kd v0 = 11)  (fu : Nat) : ∀ (v3 : Int32) (M : Mem), Z p l e (rmz 1 0) s m args below meth c (vx_MQ below (QcR D cy B kd n (cvB b0)) (XcR D cy B kd n (cvB b0)) args s 0 (6 * 0) (AA B kd n)) D cy B kd n 6 b0 0 2 [(0, .ref (B + v0)), (1, .int v1), (2, .int v2), (3, .int v3)] [] M (fX11_canSolve_l2 N v0 v1 v2 fu v3 M) := by
  induction fu with
  | zero => intro v3 M; exact z_none
  | succ fu ih => intro v3 M; exact z_fX11_canSolve_l2_s C ht hr N v0 v1 v2 (fX11_canSolve_l2 N v0 v1 v2 fu) v3 M h0 (fun v3 M => ih v3 M)
theorem z_fX11_canSolve_l2 {p : Program} {l : Launch} {e : Env} {s : State} {m : MethodId} {args : Array Value} {below : List Frame} {meth : Method} {c : Code} {D : va_G} {cy : Nat → ClassId} {B : Nat} {kd : Nat → Nat} {n : Nat} {sa sv : Nat → Nat} (C : zC p l s m args meth c D cy B kd n sa sv RX11 cX11_canSolve 6) (ht : ∀ x ∈ c.exceptionTable.toList, False) (hr : meth.sig.returnType = some (FieldType.boolean)) {b0 : Bool × Mem} (N : Nat) (v0 : Nat) (v1 : Int32) (v2 : Int32) (fu : Nat) (v3 : Int32) (M : Mem) (h0 : kd v0 = 11)  : Z p l e (rmz 1 0) s m args below meth c (vx_MQ below (QcR D cy B kd n (cvB b0)) (XcR D cy B kd n (cvB b0)) args s 0 (6 * 0) (AA B kd n)) D cy B kd n 6 b0 0 2 [(0, .ref (B + v0)), (1, .int v1), (2, .int v2), (3, .int v3)] [] M (fX11_canSolve_l2 N v0 v1 v2 fu v3 M) := z_fX11_canSolve_l2_i C ht hr N v0 v1 v2 h0 fu v3 M
set_option maxHeartbeats 4000000 in
set_option maxRecDepth 100000 in
theorem ctX11_canSolve {l : Launch} {D : va_G} {cy : Nat → ClassId} {B : Nat} {kd : Nat → Nat} {n : Nat} {sa sv : Nat → Nat} (G : zG l kd n) (N : Nat) (v0 : Nat) (v1 : Int32) (v2 : Int32) (h0 : kd v0 = 11) (M : Mem) : CT l D cy B kd n sa sv 1 0 yX11_canSolve cX11_canSolve 6 (some (FieldType.boolean)) cvB [.ref (B + v0), .int v1, .int v2] M (fX11_canSolve N v0 v1 v2 M) := by
  refine ct_of (by decide) G.1 G.2 (Nat.le_of_ble_eq_true rfl) (ls := [(0, .ref (B + v0)), (1, .int v1), (2, .int v2)]) rfl ?_
  intro p e s m args below meth c b0 C ht hr
  unfold fX11_canSolve
  refine z_iconst C dX11_canSolve_0 rfl ?_
  refine z_istore_n C 3 (ls1 := [(3, .int (0 : Int32)), (0, .ref (B + v0)), (1, .int v1), (2, .int v2)]) dX11_canSolve_1 rfl (by decide) rfl ?_
  exact z_jump (ls1 := [(0, .ref (B + v0)), (1, .int v1), (2, .int v2), (3, .int (0 : Int32))]) (Nat.le_of_ble_eq_true rfl) [1, 2, 3, 0] rfl (z_fX11_canSolve_l2 C ht hr N v0 v1 v2 N (0 : Int32) M h0)
set_option maxHeartbeats 4000000 in
set_option maxRecDepth 100000 in
theorem ctX11_isTray {l : Launch} {D : va_G} {cy : Nat → ClassId} {B : Nat} {kd : Nat → Nat} {n : Nat} {sa sv : Nat → Nat} (G : zG l kd n) (v0 : Int32)  (Mo : Mem) : CT l D cy B kd n sa sv 1 0 yX11_isTray cX11_isTray 1 (some (FieldType.boolean)) (pB Mo) [.int v0] Mo (fX11_isTray v0 Mo) := by
  refine ct_of (by decide) G.1 G.2 (Nat.le_of_ble_eq_true rfl) (ls := [(0, .int v0)]) rfl ?_
  intro p e s m args below meth c b0 C ht hr
  unfold fX11_isTray
  refine z_iload_n C 0 0 dX11_isTray_0 rfl rfl ?_
  refine z_i2l C dX11_isTray_1 ?_
  refine z_lconst (v := 0) C dX11_isTray_2 rfl ?_
  refine z_ldc2 C dX11_isTray_3 gw_8_25 ?_
  refine z_callS_pB (As := [.long v0.toInt64, .long (0 : Int64), .long (3 : Int64)]) (rest := []) C rfl (ctX11_within (zG_of C) v0.toInt64 (0 : Int64) (3 : Int64) Mo) cw_RX11_157 (okM_X11_within) rfl (okR_of rfl) (Nat.le_of_ble_eq_true rfl) dX11_isTray_6 (fun qj1 _ => ?_)
  exact z_zret C (v := qj1) hr (Nat.le_of_ble_eq_true rfl) dX11_isTray_9 rfl
set_option maxHeartbeats 4000000 in
set_option maxRecDepth 100000 in
theorem z_fX11_rowTrayFault_b15 {p : Program} {l : Launch} {e : Env} {s : State} {m : MethodId} {args : Array Value} {below : List Frame} {meth : Method} {c : Code} {D : va_G} {cy : Nat → ClassId} {B : Nat} {kd : Nat → Nat} {n : Nat} {sa sv : Nat → Nat} (C : zC p l s m args meth c D cy B kd n sa sv RX11 cX11_rowTrayFault 3) (ht : ∀ x ∈ c.exceptionTable.toList, False) (hr : meth.sig.returnType = some (FieldType.int)) {b0 : Int32}   (Mo : Mem)  : Z p l e (rmz 2 0) s m args below meth c (vx_MQ below (QcR D cy B kd n ((pI Mo) b0)) (XcR D cy B kd n ((pI Mo) b0)) args s 0 (6 * 0) (AA B kd n)) D cy B kd n 3 b0 0 15 [] [] Mo (fX11_rowTrayFault_b15 Mo) := by
  unfold fX11_rowTrayFault_b15
  refine z_iconst C dX11_rowTrayFault_15 rfl ?_
  refine z_goto C 20 dX11_rowTrayFault_16 rfl ?_
  exact z_iret C hr (Nat.le_of_ble_eq_true rfl) dX11_rowTrayFault_20 rfl
set_option maxHeartbeats 4000000 in
set_option maxRecDepth 100000 in
theorem ctX11_rowTrayFault {l : Launch} {D : va_G} {cy : Nat → ClassId} {B : Nat} {kd : Nat → Nat} {n : Nat} {sa sv : Nat → Nat} (G : zG l kd n) (v0 : Nat) (v1 : Int32) (v2 : Int32) (h0 : kd v0 = 11) (Mo : Mem) : CT l D cy B kd n sa sv 2 0 yX11_rowTrayFault cX11_rowTrayFault 3 (some (FieldType.int)) (pI Mo) [.ref (B + v0), .int v1, .int v2] Mo (fX11_rowTrayFault v0 v1 v2 Mo) := by
  refine ct_of (by decide) G.1 G.2 (Nat.le_of_ble_eq_true rfl) (ls := [(0, .ref (B + v0)), (1, .int v1), (2, .int v2)]) rfl ?_
  intro p e s m args below meth c b0 C ht hr
  unfold fX11_rowTrayFault
  refine z_aload_n C 0 0 dX11_rowTrayFault_0 rfl rfl ?_
  refine z_iload_n C 1 1 dX11_rowTrayFault_1 rfl rfl ?_
  refine z_callV_pB (As := [.int v1]) (rest := []) C rfl (ctX11_isRow (zG_of C) v0 v1 h0 Mo) cw_RX11_256 rfl (okM_X11_isRow) rfl cl11 h0 (okR_of rfl) (Nat.le_of_ble_eq_true rfl) dX11_rowTrayFault_2 (fun qj1 _ => ?_)
  refine z_if_eqB C 15 dX11_rowTrayFault_5 rfl (fun _ => ?_) (fun _ => ?_)
  · refine z_iload_n C 2 2 dX11_rowTrayFault_8 rfl rfl ?_
    refine z_callS_pB (As := [.int v2]) (rest := []) C rfl (ctX11_isTray (zG_of C) v2 Mo) cw_RX11_320 (okM_X11_isTray) rfl (okR_of rfl) (Nat.le_of_ble_eq_true rfl) dX11_rowTrayFault_9 (fun qj2 _ => ?_)
    refine z_if_neB C 19 dX11_rowTrayFault_12 rfl (fun _ => ?_) (fun _ => ?_)
    · refine z_iconst C dX11_rowTrayFault_19 rfl ?_
      exact z_iret C hr (Nat.le_of_ble_eq_true rfl) dX11_rowTrayFault_20 rfl
    · exact z_jump (ls1 := []) (Nat.le_of_ble_eq_true rfl) [] rfl (z_fX11_rowTrayFault_b15 C ht hr Mo)
  · exact z_jump (ls1 := []) (Nat.le_of_ble_eq_true rfl) [] rfl (z_fX11_rowTrayFault_b15 C ht hr Mo)
set_option maxHeartbeats 4000000 in
set_option maxRecDepth 100000 in
theorem z_fX11_solve_l277_s {p : Program} {l : Launch} {e : Env} {s : State} {m : MethodId} {args : Array Value} {below : List Frame} {meth : Method} {c : Code} {D : va_G} {cy : Nat → ClassId} {B : Nat} {kd : Nat → Nat} {n : Nat} {sa sv : Nat → Nat} (C : zC p l s m args meth c D cy B kd n sa sv RX11 cX11_solve 6) (ht : ∀ x ∈ c.exceptionTable.toList, False) (hr : meth.sig.returnType = some (FieldType.int)) {b0 : Int32 × Mem} (N : Nat) (v0 : Nat) (v1 : Int32) (v2 : Int32) (v3 : Int32) (k277 : Int32 → Mem → Option (Int32 × Mem)) (v4 : Int32) (M : Mem) (h0 : kd v0 = 11)  (hk277 : ∀ (v4 : Int32) (M : Mem), Z p l e (rmz 4 0) s m args below meth c (vx_MQ below (QcR D cy B kd n (cvI b0)) (XcR D cy B kd n (cvI b0)) args s 0 (6 * 0) (AA B kd n)) D cy B kd n 6 b0 0 277 [(0, .ref (B + v0)), (1, .int v1), (2, .int v2), (3, .int v3), (4, .int v4)] [] M (k277 v4 M)) : Z p l e (rmz 4 0) s m args below meth c (vx_MQ below (QcR D cy B kd n (cvI b0)) (XcR D cy B kd n (cvI b0)) args s 0 (6 * 0) (AA B kd n)) D cy B kd n 6 b0 0 277 [(0, .ref (B + v0)), (1, .int v1), (2, .int v2), (3, .int v3), (4, .int v4)] [] M (fX11_solve_l277_s N v0 v1 v2 v3 k277 v4 M) := by
  unfold fX11_solve_l277_s
  refine z_iload C 4 dX11_solve_277 rfl ?_
  refine z_iload_n C 3 3 dX11_solve_279 rfl rfl ?_
  refine z_icmp_ge C 306 dX11_solve_280 rfl (fun _ => ?_) (fun _ => ?_)
  · refine z_iload_n C 3 3 dX11_solve_306 rfl rfl ?_
    exact z_iret C hr (Nat.le_of_ble_eq_true rfl) dX11_solve_307 rfl
  · refine z_aload_n C 0 0 dX11_solve_283 rfl rfl ?_
    refine z_iload_n C 1 1 dX11_solve_284 rfl rfl ?_
    refine z_sipush (v := 250) C dX11_solve_285 rfl ?_
    refine z_aload_n C 0 0 dX11_solve_288 rfl rfl ?_
    refine z_iload_n C 2 2 dX11_solve_289 rfl rfl ?_
    refine z_iload C 4 dX11_solve_290 rfl ?_
    refine z_callV_pI (As := [.int v2, .int v4]) (rest := [.int (250 : Int32), .int v1, .ref (B + v0)]) C rfl (ctX11_inTray (zG_of C) v0 v2 v4 h0 M) cw_RX11_330 rfl (okM_X11_inTray) rfl cl11 h0 (okR_of rfl) (Nat.le_of_ble_eq_true rfl) dX11_solve_292 (fun qj1 _ => ?_)
    refine z_iadd C dX11_solve_295 ?_
    refine z_iconst C dX11_solve_296 rfl ?_
    refine z_callV_V (As := [.int v1, .int ((250 : Int32) + qj1), .int (1 : Int32)]) (rest := []) C rfl (ctX11_set (zG_of C) v0 v1 ((250 : Int32) + qj1) (1 : Int32) h0 M) cw_RX11_252 rfl (okM_X11_set) rfl cl11 h0 (okR_of rfl) (Nat.le_of_ble_eq_true rfl) dX11_solve_297 (fun qj2 _ => ?_)
    refine z_iinc C 4 4 (v := v4) (v1 := (v4 + (1 : Int32))) (ls1 := [(4, .int (v4 + (1 : Int32))), (0, .ref (B + v0)), (1, .int v1), (2, .int v2), (3, .int v3)]) dX11_solve_300 rfl rfl (by decide) rfl ?_
    refine z_goto C 277 dX11_solve_303 rfl ?_
    exact z_jump (ls1 := [(0, .ref (B + v0)), (1, .int v1), (2, .int v2), (3, .int v3), (4, .int (v4 + (1 : Int32)))]) (Nat.le_of_ble_eq_true rfl) [1, 2, 3, 4, 0] rfl (hk277 (v4 + (1 : Int32)) qj2)
theorem z_fX11_solve_l277_i {p : Program} {l : Launch} {e : Env} {s : State} {m : MethodId} {args : Array Value} {below : List Frame} {meth : Method} {c : Code} {D : va_G} {cy : Nat → ClassId} {B : Nat} {kd : Nat → Nat} {n : Nat} {sa sv : Nat → Nat} (C : zC p l s m args meth c D cy B kd n sa sv RX11 cX11_solve 6) (ht : ∀ x ∈ c.exceptionTable.toList, False) (hr : meth.sig.returnType = some (FieldType.int)) {b0 : Int32 × Mem} (N : Nat) (v0 : Nat) (v1 : Int32) (v2 : Int32) (v3 : Int32) (h0 : kd v0 = 11)  (fu : Nat) : ∀ (v4 : Int32) (M : Mem), Z p l e (rmz 4 0) s m args below meth c (vx_MQ below (QcR D cy B kd n (cvI b0)) (XcR D cy B kd n (cvI b0)) args s 0 (6 * 0) (AA B kd n)) D cy B kd n 6 b0 0 277 [(0, .ref (B + v0)), (1, .int v1), (2, .int v2), (3, .int v3), (4, .int v4)] [] M (fX11_solve_l277 N v0 v1 v2 v3 fu v4 M) := by
  induction fu with
  | zero => intro v4 M; exact z_none
  | succ fu ih => intro v4 M; exact z_fX11_solve_l277_s C ht hr N v0 v1 v2 v3 (fX11_solve_l277 N v0 v1 v2 v3 fu) v4 M h0 (fun v4 M => ih v4 M)
theorem z_fX11_solve_l277 {p : Program} {l : Launch} {e : Env} {s : State} {m : MethodId} {args : Array Value} {below : List Frame} {meth : Method} {c : Code} {D : va_G} {cy : Nat → ClassId} {B : Nat} {kd : Nat → Nat} {n : Nat} {sa sv : Nat → Nat} (C : zC p l s m args meth c D cy B kd n sa sv RX11 cX11_solve 6) (ht : ∀ x ∈ c.exceptionTable.toList, False) (hr : meth.sig.returnType = some (FieldType.int)) {b0 : Int32 × Mem} (N : Nat) (v0 : Nat) (v1 : Int32) (v2 : Int32) (v3 : Int32) (fu : Nat) (v4 : Int32) (M : Mem) (h0 : kd v0 = 11)  : Z p l e (rmz 4 0) s m args below meth c (vx_MQ below (QcR D cy B kd n (cvI b0)) (XcR D cy B kd n (cvI b0)) args s 0 (6 * 0) (AA B kd n)) D cy B kd n 6 b0 0 277 [(0, .ref (B + v0)), (1, .int v1), (2, .int v2), (3, .int v3), (4, .int v4)] [] M (fX11_solve_l277 N v0 v1 v2 v3 fu v4 M) := z_fX11_solve_l277_i C ht hr N v0 v1 v2 v3 h0 fu v4 M
set_option maxHeartbeats 4000000 in
set_option maxRecDepth 100000 in
theorem z_fX11_solve_l245_s {p : Program} {l : Launch} {e : Env} {s : State} {m : MethodId} {args : Array Value} {below : List Frame} {meth : Method} {c : Code} {D : va_G} {cy : Nat → ClassId} {B : Nat} {kd : Nat → Nat} {n : Nat} {sa sv : Nat → Nat} (C : zC p l s m args meth c D cy B kd n sa sv RX11 cX11_solve 6) (ht : ∀ x ∈ c.exceptionTable.toList, False) (hr : meth.sig.returnType = some (FieldType.int)) {b0 : Int32 × Mem} (N : Nat) (v0 : Nat) (v1 : Int32) (v2 : Int32) (v3 : Int32) (k245 : Int32 → Mem → Option (Int32 × Mem)) (v4 : Int32) (M : Mem) (h0 : kd v0 = 11)  (hk245 : ∀ (v4 : Int32) (M : Mem), Z p l e (rmz 4 0) s m args below meth c (vx_MQ below (QcR D cy B kd n (cvI b0)) (XcR D cy B kd n (cvI b0)) args s 0 (6 * 0) (AA B kd n)) D cy B kd n 6 b0 0 245 [(0, .ref (B + v0)), (1, .int v1), (2, .int v2), (3, .int v3), (4, .int v4)] [] M (k245 v4 M)) : Z p l e (rmz 4 0) s m args below meth c (vx_MQ below (QcR D cy B kd n (cvI b0)) (XcR D cy B kd n (cvI b0)) args s 0 (6 * 0) (AA B kd n)) D cy B kd n 6 b0 0 245 [(0, .ref (B + v0)), (1, .int v1), (2, .int v2), (3, .int v3), (4, .int v4)] [] M (fX11_solve_l245_s N v0 v1 v2 v3 k245 v4 M) := by
  unfold fX11_solve_l245_s
  refine z_iload C 4 dX11_solve_245 rfl ?_
  refine z_aload_n C 0 0 dX11_solve_247 rfl rfl ?_
  refine z_getR (k := 0) C cl11 h0 rfl gw_7_10 rfl dX11_solve_248 ?_
  have j1 : kd (v0 + 1) = 36 := zkd C h0 (k := 0) rfl
  refine z_iconst C dX11_solve_251 rfl ?_
  refine z_iald C j1 rfl (by decide) dX11_solve_252 (fun j2 => ?_)
  refine z_icmp_ge C 274 dX11_solve_253 rfl (fun _ => ?_) (fun _ => ?_)
  · refine z_iconst C dX11_solve_274 rfl ?_
    refine z_istore C 4 (ls1 := [(4, .int (0 : Int32)), (0, .ref (B + v0)), (1, .int v1), (2, .int v2), (3, .int v3)]) dX11_solve_275 (by decide) rfl ?_
    exact z_jump (ls1 := [(0, .ref (B + v0)), (1, .int v1), (2, .int v2), (3, .int v3), (4, .int (0 : Int32))]) (Nat.le_of_ble_eq_true rfl) [1, 2, 3, 4, 0] rfl (z_fX11_solve_l277 C ht hr N v0 v1 v2 v3 N (0 : Int32) M h0)
  · refine z_aload_n C 0 0 dX11_solve_256 rfl rfl ?_
    refine z_iload_n C 1 1 dX11_solve_257 rfl rfl ?_
    refine z_sipush (v := 250) C dX11_solve_258 rfl ?_
    refine z_iload C 4 dX11_solve_261 rfl ?_
    refine z_iadd C dX11_solve_263 ?_
    refine z_iconst C dX11_solve_264 rfl ?_
    refine z_callV_V (As := [.int v1, .int ((250 : Int32) + v4), .int (0 : Int32)]) (rest := []) C rfl (ctX11_set (zG_of C) v0 v1 ((250 : Int32) + v4) (0 : Int32) h0 M) cw_RX11_252 rfl (okM_X11_set) rfl cl11 h0 (okR_of rfl) (Nat.le_of_ble_eq_true rfl) dX11_solve_265 (fun qj3 _ => ?_)
    refine z_iinc C 4 4 (v := v4) (v1 := (v4 + (1 : Int32))) (ls1 := [(4, .int (v4 + (1 : Int32))), (0, .ref (B + v0)), (1, .int v1), (2, .int v2), (3, .int v3)]) dX11_solve_268 rfl rfl (by decide) rfl ?_
    refine z_goto C 245 dX11_solve_271 rfl ?_
    exact z_jump (ls1 := [(0, .ref (B + v0)), (1, .int v1), (2, .int v2), (3, .int v3), (4, .int (v4 + (1 : Int32)))]) (Nat.le_of_ble_eq_true rfl) [1, 2, 3, 4, 0] rfl (hk245 (v4 + (1 : Int32)) qj3)
theorem z_fX11_solve_l245_i {p : Program} {l : Launch} {e : Env} {s : State} {m : MethodId} {args : Array Value} {below : List Frame} {meth : Method} {c : Code} {D : va_G} {cy : Nat → ClassId} {B : Nat} {kd : Nat → Nat} {n : Nat} {sa sv : Nat → Nat} (C : zC p l s m args meth c D cy B kd n sa sv RX11 cX11_solve 6) (ht : ∀ x ∈ c.exceptionTable.toList, False) (hr : meth.sig.returnType = some (FieldType.int)) {b0 : Int32 × Mem} (N : Nat) (v0 : Nat) (v1 : Int32) (v2 : Int32) (v3 : Int32) (h0 : kd v0 = 11)  (fu : Nat) : ∀ (v4 : Int32) (M : Mem), Z p l e (rmz 4 0) s m args below meth c (vx_MQ below (QcR D cy B kd n (cvI b0)) (XcR D cy B kd n (cvI b0)) args s 0 (6 * 0) (AA B kd n)) D cy B kd n 6 b0 0 245 [(0, .ref (B + v0)), (1, .int v1), (2, .int v2), (3, .int v3), (4, .int v4)] [] M (fX11_solve_l245 N v0 v1 v2 v3 fu v4 M) := by
  induction fu with
  | zero => intro v4 M; exact z_none
  | succ fu ih => intro v4 M; exact z_fX11_solve_l245_s C ht hr N v0 v1 v2 v3 (fX11_solve_l245 N v0 v1 v2 v3 fu) v4 M h0 (fun v4 M => ih v4 M)
theorem z_fX11_solve_l245 {p : Program} {l : Launch} {e : Env} {s : State} {m : MethodId} {args : Array Value} {below : List Frame} {meth : Method} {c : Code} {D : va_G} {cy : Nat → ClassId} {B : Nat} {kd : Nat → Nat} {n : Nat} {sa sv : Nat → Nat} (C : zC p l s m args meth c D cy B kd n sa sv RX11 cX11_solve 6) (ht : ∀ x ∈ c.exceptionTable.toList, False) (hr : meth.sig.returnType = some (FieldType.int)) {b0 : Int32 × Mem} (N : Nat) (v0 : Nat) (v1 : Int32) (v2 : Int32) (v3 : Int32) (fu : Nat) (v4 : Int32) (M : Mem) (h0 : kd v0 = 11)  : Z p l e (rmz 4 0) s m args below meth c (vx_MQ below (QcR D cy B kd n (cvI b0)) (XcR D cy B kd n (cvI b0)) args s 0 (6 * 0) (AA B kd n)) D cy B kd n 6 b0 0 245 [(0, .ref (B + v0)), (1, .int v1), (2, .int v2), (3, .int v3), (4, .int v4)] [] M (fX11_solve_l245 N v0 v1 v2 v3 fu v4 M) := z_fX11_solve_l245_i C ht hr N v0 v1 v2 v3 h0 fu v4 M
set_option maxHeartbeats 4000000 in
set_option maxRecDepth 100000 in
theorem z_fX11_solve_b233 {p : Program} {l : Launch} {e : Env} {s : State} {m : MethodId} {args : Array Value} {below : List Frame} {meth : Method} {c : Code} {D : va_G} {cy : Nat → ClassId} {B : Nat} {kd : Nat → Nat} {n : Nat} {sa sv : Nat → Nat} (C : zC p l s m args meth c D cy B kd n sa sv RX11 cX11_solve 6) (ht : ∀ x ∈ c.exceptionTable.toList, False) (hr : meth.sig.returnType = some (FieldType.int)) {b0 : Int32 × Mem}  (N : Nat) (k188 : Int32 → Mem → Option (Int32 × Mem)) (v0 : Nat) (v1 : Int32) (v2 : Int32) (v3 : Int32) (v4 : Int32) (s0 : Int32) (s1 : Int32) (s2 : Int32) (s3 : Nat) (M : Mem) (h0 : kd v0 = 11) (hs3 : kd s3 = 11) (hk188 : ∀ (v4 : Int32) (M : Mem), Z p l e (rmz 4 0) s m args below meth c (vx_MQ below (QcR D cy B kd n (cvI b0)) (XcR D cy B kd n (cvI b0)) args s 0 (6 * 0) (AA B kd n)) D cy B kd n 6 b0 0 188 [(0, .ref (B + v0)), (1, .int v1), (2, .int v2), (3, .int v3), (4, .int v4)] [] M (k188 v4 M)) : Z p l e (rmz 4 0) s m args below meth c (vx_MQ below (QcR D cy B kd n (cvI b0)) (XcR D cy B kd n (cvI b0)) args s 0 (6 * 0) (AA B kd n)) D cy B kd n 6 b0 0 233 [(0, .ref (B + v0)), (1, .int v1), (2, .int v2), (3, .int v3), (4, .int v4)] [.int s0, .int s1, .int s2, .ref (B + s3)] M (fX11_solve_b233 N k188 v0 v1 v2 v3 v4 s0 s1 s2 s3 M) := by
  unfold fX11_solve_b233
  refine z_callV_V (As := [.int s2, .int s1, .int s0]) (rest := []) C rfl (ctX11_set (zG_of C) s3 s2 s1 s0 hs3 M) cw_RX11_252 rfl (okM_X11_set) rfl cl11 hs3 (okR_of rfl) (Nat.le_of_ble_eq_true rfl) dX11_solve_233 (fun qj1 _ => ?_)
  refine z_iinc C 4 4 (v := v4) (v1 := (v4 + (1 : Int32))) (ls1 := [(4, .int (v4 + (1 : Int32))), (0, .ref (B + v0)), (1, .int v1), (2, .int v2), (3, .int v3)]) dX11_solve_236 rfl rfl (by decide) rfl ?_
  refine z_goto C 188 dX11_solve_239 rfl ?_
  exact z_jump (ls1 := [(0, .ref (B + v0)), (1, .int v1), (2, .int v2), (3, .int v3), (4, .int (v4 + (1 : Int32)))]) (Nat.le_of_ble_eq_true rfl) [1, 2, 3, 4, 0] rfl (hk188 (v4 + (1 : Int32)) qj1)
set_option maxHeartbeats 4000000 in
set_option maxRecDepth 100000 in
theorem z_fX11_solve_l188_s {p : Program} {l : Launch} {e : Env} {s : State} {m : MethodId} {args : Array Value} {below : List Frame} {meth : Method} {c : Code} {D : va_G} {cy : Nat → ClassId} {B : Nat} {kd : Nat → Nat} {n : Nat} {sa sv : Nat → Nat} (C : zC p l s m args meth c D cy B kd n sa sv RX11 cX11_solve 6) (ht : ∀ x ∈ c.exceptionTable.toList, False) (hr : meth.sig.returnType = some (FieldType.int)) {b0 : Int32 × Mem} (N : Nat) (v0 : Nat) (v1 : Int32) (v2 : Int32) (v3 : Int32) (k188 : Int32 → Mem → Option (Int32 × Mem)) (v4 : Int32) (M : Mem) (h0 : kd v0 = 11)  (hk188 : ∀ (v4 : Int32) (M : Mem), Z p l e (rmz 4 0) s m args below meth c (vx_MQ below (QcR D cy B kd n (cvI b0)) (XcR D cy B kd n (cvI b0)) args s 0 (6 * 0) (AA B kd n)) D cy B kd n 6 b0 0 188 [(0, .ref (B + v0)), (1, .int v1), (2, .int v2), (3, .int v3), (4, .int v4)] [] M (k188 v4 M)) : Z p l e (rmz 4 0) s m args below meth c (vx_MQ below (QcR D cy B kd n (cvI b0)) (XcR D cy B kd n (cvI b0)) args s 0 (6 * 0) (AA B kd n)) D cy B kd n 6 b0 0 188 [(0, .ref (B + v0)), (1, .int v1), (2, .int v2), (3, .int v3), (4, .int v4)] [] M (fX11_solve_l188_s N v0 v1 v2 v3 k188 v4 M) := by
  unfold fX11_solve_l188_s
  refine z_iload C 4 dX11_solve_188 rfl ?_
  refine z_aload_n C 0 0 dX11_solve_190 rfl rfl ?_
  refine z_iload_n C 1 1 dX11_solve_191 rfl rfl ?_
  refine z_iconst C dX11_solve_192 rfl ?_
  refine z_callV_pI (As := [.int v1, .int (1 : Int32)]) (rest := [.int v4]) C rfl (ctX11_get (zG_of C) v0 v1 (1 : Int32) h0 M) cw_RX11_237 rfl (okM_X11_get) rfl cl11 h0 (okR_of rfl) (Nat.le_of_ble_eq_true rfl) dX11_solve_193 (fun qj1 _ => ?_)
  refine z_icmp_ge C 242 dX11_solve_196 rfl (fun _ => ?_) (fun _ => ?_)
  · refine z_iconst C dX11_solve_242 rfl ?_
    refine z_istore C 4 (ls1 := [(4, .int (0 : Int32)), (0, .ref (B + v0)), (1, .int v1), (2, .int v2), (3, .int v3)]) dX11_solve_243 (by decide) rfl ?_
    exact z_jump (ls1 := [(0, .ref (B + v0)), (1, .int v1), (2, .int v2), (3, .int v3), (4, .int (0 : Int32))]) (Nat.le_of_ble_eq_true rfl) [1, 2, 3, 4, 0] rfl (z_fX11_solve_l245 C ht hr N v0 v1 v2 v3 N (0 : Int32) M h0)
  · refine z_aload_n C 0 0 dX11_solve_199 rfl rfl ?_
    refine z_iload_n C 1 1 dX11_solve_200 rfl rfl ?_
    refine z_bipush (v := 10) C dX11_solve_201 rfl ?_
    refine z_iload C 4 dX11_solve_203 rfl ?_
    refine z_iadd C dX11_solve_205 ?_
    refine z_aload_n C 0 0 dX11_solve_206 rfl rfl ?_
    refine z_getR (k := 24) C cl11 h0 rfl gw_7_34 rfl dX11_solve_207 ?_
    have j2 : kd (v0 + 13) = 33 := zkd C h0 (k := 24) rfl
    refine z_iload C 4 dX11_solve_210 rfl ?_
    refine z_iald C j2 rfl (by decide) dX11_solve_212 (fun j3 => ?_)
    refine z_iconst C dX11_solve_213 rfl ?_
    refine z_icmp_ne C 221 dX11_solve_214 rfl (fun _ => ?_) (fun _ => ?_)
    · refine z_iconst C dX11_solve_217 rfl ?_
      refine z_goto C 233 dX11_solve_218 rfl ?_
      exact z_jump (ls1 := [(0, .ref (B + v0)), (1, .int v1), (2, .int v2), (3, .int v3), (4, .int v4)]) (Nat.le_of_ble_eq_true rfl) [0, 1, 2, 3, 4] rfl (z_fX11_solve_b233 C ht hr N k188 v0 v1 v2 v3 v4 (0 : Int32) ((10 : Int32) + v4) v1 v0 M h0 h0 hk188)
    · refine z_aload_n C 0 0 dX11_solve_221 rfl rfl ?_
      refine z_getR (k := 23) C cl11 h0 rfl gw_7_33 rfl dX11_solve_222 ?_
      have j4 : kd (v0 + 12) = 34 := zkd C h0 (k := 23) rfl
      refine z_aload_n C 0 0 dX11_solve_225 rfl rfl ?_
      refine z_getR (k := 24) C cl11 h0 rfl gw_7_34 rfl dX11_solve_226 ?_
      have j5 : kd (v0 + 13) = 33 := zkd C h0 (k := 24) rfl
      refine z_iload C 4 dX11_solve_229 rfl ?_
      refine z_iald C j5 rfl (by decide) dX11_solve_231 (fun j6 => ?_)
      refine z_iald C j4 rfl (by decide) dX11_solve_232 (fun j7 => ?_)
      exact z_jump (ls1 := [(0, .ref (B + v0)), (1, .int v1), (2, .int v2), (3, .int v3), (4, .int v4)]) (Nat.le_of_ble_eq_true rfl) [0, 1, 2, 3, 4] rfl (z_fX11_solve_b233 C ht hr N k188 v0 v1 v2 v3 v4 (rI M (v0 + 12) (rI M (v0 + 13) v4.toNatClampNeg).toNatClampNeg) ((10 : Int32) + v4) v1 v0 M h0 h0 hk188)
theorem z_fX11_solve_l188_i {p : Program} {l : Launch} {e : Env} {s : State} {m : MethodId} {args : Array Value} {below : List Frame} {meth : Method} {c : Code} {D : va_G} {cy : Nat → ClassId} {B : Nat} {kd : Nat → Nat} {n : Nat} {sa sv : Nat → Nat} (C : zC p l s m args meth c D cy B kd n sa sv RX11 cX11_solve 6) (ht : ∀ x ∈ c.exceptionTable.toList, False) (hr : meth.sig.returnType = some (FieldType.int)) {b0 : Int32 × Mem} (N : Nat) (v0 : Nat) (v1 : Int32) (v2 : Int32) (v3 : Int32) (h0 : kd v0 = 11)  (fu : Nat) : ∀ (v4 : Int32) (M : Mem), Z p l e (rmz 4 0) s m args below meth c (vx_MQ below (QcR D cy B kd n (cvI b0)) (XcR D cy B kd n (cvI b0)) args s 0 (6 * 0) (AA B kd n)) D cy B kd n 6 b0 0 188 [(0, .ref (B + v0)), (1, .int v1), (2, .int v2), (3, .int v3), (4, .int v4)] [] M (fX11_solve_l188 N v0 v1 v2 v3 fu v4 M) := by
  induction fu with
  | zero => intro v4 M; exact z_none
  | succ fu ih => intro v4 M; exact z_fX11_solve_l188_s C ht hr N v0 v1 v2 v3 (fX11_solve_l188 N v0 v1 v2 v3 fu) v4 M h0 (fun v4 M => ih v4 M)
theorem z_fX11_solve_l188 {p : Program} {l : Launch} {e : Env} {s : State} {m : MethodId} {args : Array Value} {below : List Frame} {meth : Method} {c : Code} {D : va_G} {cy : Nat → ClassId} {B : Nat} {kd : Nat → Nat} {n : Nat} {sa sv : Nat → Nat} (C : zC p l s m args meth c D cy B kd n sa sv RX11 cX11_solve 6) (ht : ∀ x ∈ c.exceptionTable.toList, False) (hr : meth.sig.returnType = some (FieldType.int)) {b0 : Int32 × Mem} (N : Nat) (v0 : Nat) (v1 : Int32) (v2 : Int32) (v3 : Int32) (fu : Nat) (v4 : Int32) (M : Mem) (h0 : kd v0 = 11)  : Z p l e (rmz 4 0) s m args below meth c (vx_MQ below (QcR D cy B kd n (cvI b0)) (XcR D cy B kd n (cvI b0)) args s 0 (6 * 0) (AA B kd n)) D cy B kd n 6 b0 0 188 [(0, .ref (B + v0)), (1, .int v1), (2, .int v2), (3, .int v3), (4, .int v4)] [] M (fX11_solve_l188 N v0 v1 v2 v3 fu v4 M) := z_fX11_solve_l188_i C ht hr N v0 v1 v2 v3 h0 fu v4 M
set_option maxHeartbeats 4000000 in
set_option maxRecDepth 100000 in
theorem z_fX11_solve_l125_s {p : Program} {l : Launch} {e : Env} {s : State} {m : MethodId} {args : Array Value} {below : List Frame} {meth : Method} {c : Code} {D : va_G} {cy : Nat → ClassId} {B : Nat} {kd : Nat → Nat} {n : Nat} {sa sv : Nat → Nat} (C : zC p l s m args meth c D cy B kd n sa sv RX11 cX11_solve 6) (ht : ∀ x ∈ c.exceptionTable.toList, False) (hr : meth.sig.returnType = some (FieldType.int)) {b0 : Int32 × Mem} (N : Nat) (k82 : Int32 → Mem → Option (Int32 × Mem)) (v0 : Nat) (v1 : Int32) (v2 : Int32) (v3 : Int32) (v4 : Int32) (k125 : Int32 → Mem → Option (Int32 × Mem)) (v5 : Int32) (M : Mem) (h0 : kd v0 = 11) (hk82 : ∀ (v4 : Int32) (M : Mem), Z p l e (rmz 4 0) s m args below meth c (vx_MQ below (QcR D cy B kd n (cvI b0)) (XcR D cy B kd n (cvI b0)) args s 0 (6 * 0) (AA B kd n)) D cy B kd n 6 b0 0 82 [(0, .ref (B + v0)), (1, .int v1), (2, .int v2), (3, .int v3), (4, .int v4)] [] M (k82 v4 M)) (hk125 : ∀ (v5 : Int32) (M : Mem), Z p l e (rmz 4 0) s m args below meth c (vx_MQ below (QcR D cy B kd n (cvI b0)) (XcR D cy B kd n (cvI b0)) args s 0 (6 * 0) (AA B kd n)) D cy B kd n 6 b0 0 125 [(0, .ref (B + v0)), (1, .int v1), (2, .int v2), (3, .int v3), (4, .int v4), (5, .int v5)] [] M (k125 v5 M)) : Z p l e (rmz 4 0) s m args below meth c (vx_MQ below (QcR D cy B kd n (cvI b0)) (XcR D cy B kd n (cvI b0)) args s 0 (6 * 0) (AA B kd n)) D cy B kd n 6 b0 0 125 [(0, .ref (B + v0)), (1, .int v1), (2, .int v2), (3, .int v3), (4, .int v4), (5, .int v5)] [] M (fX11_solve_l125_s N k82 v0 v1 v2 v3 v4 k125 v5 M) := by
  unfold fX11_solve_l125_s
  refine z_iload C 5 dX11_solve_125 rfl ?_
  refine z_aload_n C 0 0 dX11_solve_127 rfl rfl ?_
  refine z_iload_n C 1 1 dX11_solve_128 rfl rfl ?_
  refine z_iconst C dX11_solve_129 rfl ?_
  refine z_callV_pI (As := [.int v1, .int (2 : Int32)]) (rest := [.int v5]) C rfl (ctX11_get (zG_of C) v0 v1 (2 : Int32) h0 M) cw_RX11_237 rfl (okM_X11_get) rfl cl11 h0 (okR_of rfl) (Nat.le_of_ble_eq_true rfl) dX11_solve_130 (fun qj1 _ => ?_)
  refine z_icmp_ge C 168 dX11_solve_133 rfl (fun _ => ?_) (fun _ => ?_)
  · refine z_iinc C 4 4 (v := v4) (v1 := (v4 + (1 : Int32))) (ls1 := [(4, .int (v4 + (1 : Int32))), (0, .ref (B + v0)), (1, .int v1), (2, .int v2), (3, .int v3), (5, .int v5)]) dX11_solve_168 rfl rfl (by decide) rfl ?_
    refine z_goto C 82 dX11_solve_171 rfl ?_
    exact z_jump (ls1 := [(0, .ref (B + v0)), (1, .int v1), (2, .int v2), (3, .int v3), (4, .int (v4 + (1 : Int32)))]) (Nat.le_of_ble_eq_true rfl) [1, 2, 3, 4, 0] rfl (hk82 (v4 + (1 : Int32)) M)
  · refine z_aload_n C 0 0 dX11_solve_136 rfl rfl ?_
    refine z_getR (k := 22) C cl11 h0 rfl gw_7_32 rfl dX11_solve_137 ?_
    have j2 : kd (v0 + 11) = 30 := zkd C h0 (k := 22) rfl
    refine z_iload C 4 dX11_solve_140 rfl ?_
    refine z_dup2 C dX11_solve_142 rfl rfl ?_
    refine z_lald C j2 rfl (by decide) dX11_solve_143 (fun j3 => ?_)
    refine z_lconst (v := 1) C dX11_solve_144 rfl ?_
    refine z_aload_n C 0 0 dX11_solve_145 rfl rfl ?_
    refine z_iload_n C 1 1 dX11_solve_146 rfl rfl ?_
    refine z_iload C 5 dX11_solve_147 rfl ?_
    refine z_aload_n C 0 0 dX11_solve_149 rfl rfl ?_
    refine z_iload_n C 2 2 dX11_solve_150 rfl rfl ?_
    refine z_iload C 4 dX11_solve_151 rfl ?_
    refine z_callV9_pI (As := [.int v2, .int v4]) (rest := [.int v5, .int v1, .ref (B + v0), .long (1 : Int64), .long (rJ M (v0 + 11) v4.toNatClampNeg), .int v4, .ref (B + (v0 + 11))]) C rfl (ctX11_inTray (zG_of C) v0 v2 v4 h0 M) cw_RX11_330 rfl (okM_X11_inTray) rfl cl11 h0 (okR_of rfl) (Nat.le_of_ble_eq_true rfl) (Nat.le_of_ble_eq_true rfl) dX11_solve_153 (fun qj4 _ => ?_)
    refine z_callV_I (As := [.int v1, .int v5, .int qj4]) (rest := [.long (1 : Int64), .long (rJ M (v0 + 11) v4.toNatClampNeg), .int v4, .ref (B + (v0 + 11))]) C rfl (ctX11_spot (zG_of C) N v0 v1 v5 qj4 h0 M) cw_RX11_273 rfl (okM_X11_spot) rfl cl11 h0 (okR_of rfl) (Nat.le_of_ble_eq_true rfl) dX11_solve_156 (fun qj5 _ => ?_)
    refine z_lshl C dX11_solve_159 ?_
    refine z_lxor C dX11_solve_160 ?_
    refine z_last C j2 rfl (by decide) dX11_solve_161 (fun _ => ?_)
    refine z_iinc C 5 5 (v := v5) (v1 := (v5 + (1 : Int32))) (ls1 := [(5, .int (v5 + (1 : Int32))), (0, .ref (B + v0)), (1, .int v1), (2, .int v2), (3, .int v3), (4, .int v4)]) dX11_solve_162 rfl rfl (by decide) rfl ?_
    refine z_goto C 125 dX11_solve_165 rfl ?_
    exact z_jump (ls1 := [(0, .ref (B + v0)), (1, .int v1), (2, .int v2), (3, .int v3), (4, .int v4), (5, .int (v5 + (1 : Int32)))]) (Nat.le_of_ble_eq_true rfl) [1, 2, 3, 4, 5, 0] rfl (hk125 (v5 + (1 : Int32)) (wJ qj5.2 (v0 + 11) v4.toNatClampNeg ((rJ M (v0 + 11) v4.toNatClampNeg) ^^^ (shlJ (1 : Int64) qj5.1))))
theorem z_fX11_solve_l125_i {p : Program} {l : Launch} {e : Env} {s : State} {m : MethodId} {args : Array Value} {below : List Frame} {meth : Method} {c : Code} {D : va_G} {cy : Nat → ClassId} {B : Nat} {kd : Nat → Nat} {n : Nat} {sa sv : Nat → Nat} (C : zC p l s m args meth c D cy B kd n sa sv RX11 cX11_solve 6) (ht : ∀ x ∈ c.exceptionTable.toList, False) (hr : meth.sig.returnType = some (FieldType.int)) {b0 : Int32 × Mem} (N : Nat) (k82 : Int32 → Mem → Option (Int32 × Mem)) (v0 : Nat) (v1 : Int32) (v2 : Int32) (v3 : Int32) (v4 : Int32) (h0 : kd v0 = 11) (hk82 : ∀ (v4 : Int32) (M : Mem), Z p l e (rmz 4 0) s m args below meth c (vx_MQ below (QcR D cy B kd n (cvI b0)) (XcR D cy B kd n (cvI b0)) args s 0 (6 * 0) (AA B kd n)) D cy B kd n 6 b0 0 82 [(0, .ref (B + v0)), (1, .int v1), (2, .int v2), (3, .int v3), (4, .int v4)] [] M (k82 v4 M)) (fu : Nat) : ∀ (v5 : Int32) (M : Mem), Z p l e (rmz 4 0) s m args below meth c (vx_MQ below (QcR D cy B kd n (cvI b0)) (XcR D cy B kd n (cvI b0)) args s 0 (6 * 0) (AA B kd n)) D cy B kd n 6 b0 0 125 [(0, .ref (B + v0)), (1, .int v1), (2, .int v2), (3, .int v3), (4, .int v4), (5, .int v5)] [] M (fX11_solve_l125 N k82 v0 v1 v2 v3 v4 fu v5 M) := by
  induction fu with
  | zero => intro v5 M; exact z_none
  | succ fu ih => intro v5 M; exact z_fX11_solve_l125_s C ht hr N k82 v0 v1 v2 v3 v4 (fX11_solve_l125 N k82 v0 v1 v2 v3 v4 fu) v5 M h0 hk82 (fun v5 M => ih v5 M)
theorem z_fX11_solve_l125 {p : Program} {l : Launch} {e : Env} {s : State} {m : MethodId} {args : Array Value} {below : List Frame} {meth : Method} {c : Code} {D : va_G} {cy : Nat → ClassId} {B : Nat} {kd : Nat → Nat} {n : Nat} {sa sv : Nat → Nat} (C : zC p l s m args meth c D cy B kd n sa sv RX11 cX11_solve 6) (ht : ∀ x ∈ c.exceptionTable.toList, False) (hr : meth.sig.returnType = some (FieldType.int)) {b0 : Int32 × Mem} (N : Nat) (k82 : Int32 → Mem → Option (Int32 × Mem)) (v0 : Nat) (v1 : Int32) (v2 : Int32) (v3 : Int32) (v4 : Int32) (fu : Nat) (v5 : Int32) (M : Mem) (h0 : kd v0 = 11) (hk82 : ∀ (v4 : Int32) (M : Mem), Z p l e (rmz 4 0) s m args below meth c (vx_MQ below (QcR D cy B kd n (cvI b0)) (XcR D cy B kd n (cvI b0)) args s 0 (6 * 0) (AA B kd n)) D cy B kd n 6 b0 0 82 [(0, .ref (B + v0)), (1, .int v1), (2, .int v2), (3, .int v3), (4, .int v4)] [] M (k82 v4 M)) : Z p l e (rmz 4 0) s m args below meth c (vx_MQ below (QcR D cy B kd n (cvI b0)) (XcR D cy B kd n (cvI b0)) args s 0 (6 * 0) (AA B kd n)) D cy B kd n 6 b0 0 125 [(0, .ref (B + v0)), (1, .int v1), (2, .int v2), (3, .int v3), (4, .int v4), (5, .int v5)] [] M (fX11_solve_l125 N k82 v0 v1 v2 v3 v4 fu v5 M) := z_fX11_solve_l125_i C ht hr N k82 v0 v1 v2 v3 v4 h0 hk82 fu v5 M
set_option maxHeartbeats 4000000 in
set_option maxRecDepth 100000 in
theorem z_fX11_solve_l82_s {p : Program} {l : Launch} {e : Env} {s : State} {m : MethodId} {args : Array Value} {below : List Frame} {meth : Method} {c : Code} {D : va_G} {cy : Nat → ClassId} {B : Nat} {kd : Nat → Nat} {n : Nat} {sa sv : Nat → Nat} (C : zC p l s m args meth c D cy B kd n sa sv RX11 cX11_solve 6) (ht : ∀ x ∈ c.exceptionTable.toList, False) (hr : meth.sig.returnType = some (FieldType.int)) {b0 : Int32 × Mem} (N : Nat) (v0 : Nat) (v1 : Int32) (v2 : Int32) (v3 : Int32) (k82 : Int32 → Mem → Option (Int32 × Mem)) (v4 : Int32) (M : Mem) (h0 : kd v0 = 11)  (hk82 : ∀ (v4 : Int32) (M : Mem), Z p l e (rmz 4 0) s m args below meth c (vx_MQ below (QcR D cy B kd n (cvI b0)) (XcR D cy B kd n (cvI b0)) args s 0 (6 * 0) (AA B kd n)) D cy B kd n 6 b0 0 82 [(0, .ref (B + v0)), (1, .int v1), (2, .int v2), (3, .int v3), (4, .int v4)] [] M (k82 v4 M)) : Z p l e (rmz 4 0) s m args below meth c (vx_MQ below (QcR D cy B kd n (cvI b0)) (XcR D cy B kd n (cvI b0)) args s 0 (6 * 0) (AA B kd n)) D cy B kd n 6 b0 0 82 [(0, .ref (B + v0)), (1, .int v1), (2, .int v2), (3, .int v3), (4, .int v4)] [] M (fX11_solve_l82_s N v0 v1 v2 v3 k82 v4 M) := by
  unfold fX11_solve_l82_s
  refine z_iload C 4 dX11_solve_82 rfl ?_
  refine z_iload_n C 3 3 dX11_solve_84 rfl rfl ?_
  refine z_icmp_ge C 174 dX11_solve_85 rfl (fun _ => ?_) (fun _ => ?_)
  · refine z_aload_n C 0 0 dX11_solve_174 rfl rfl ?_
    refine z_iload_n C 1 1 dX11_solve_175 rfl rfl ?_
    refine z_iload_n C 3 3 dX11_solve_176 rfl rfl ?_
    refine z_callV_B (As := [.int v1, .int v3]) (rest := []) C rfl (ctX11_canSolve (zG_of C) N v0 v1 v3 h0 M) cw_RX11_333 rfl (okM_X11_canSolve) rfl cl11 h0 (okR_of rfl) (Nat.le_of_ble_eq_true rfl) dX11_solve_177 (fun qj1 _ => ?_)
    refine z_if_neB C 185 dX11_solve_180 rfl (fun _ => ?_) (fun _ => ?_)
    · refine z_iconst C dX11_solve_185 rfl ?_
      refine z_istore C 4 (ls1 := [(4, .int (0 : Int32)), (0, .ref (B + v0)), (1, .int v1), (2, .int v2), (3, .int v3)]) dX11_solve_186 (by decide) rfl ?_
      exact z_jump (ls1 := [(0, .ref (B + v0)), (1, .int v1), (2, .int v2), (3, .int v3), (4, .int (0 : Int32))]) (Nat.le_of_ble_eq_true rfl) [1, 2, 3, 4, 0] rfl (z_fX11_solve_l188 C ht hr N v0 v1 v2 v3 N (0 : Int32) qj1.2 h0)
    · refine z_iconst C dX11_solve_183 rfl ?_
      exact z_iret C hr (Nat.le_of_ble_eq_true rfl) dX11_solve_184 rfl
  · refine z_aload_n C 0 0 dX11_solve_88 rfl rfl ?_
    refine z_getR (k := 22) C cl11 h0 rfl gw_7_32 rfl dX11_solve_89 ?_
    have j2 : kd (v0 + 11) = 30 := zkd C h0 (k := 22) rfl
    refine z_iload C 4 dX11_solve_92 rfl ?_
    refine z_lconst (v := 0) C dX11_solve_94 rfl ?_
    refine z_last C j2 rfl (by decide) dX11_solve_95 (fun _ => ?_)
    refine z_aload_n C 0 0 dX11_solve_96 rfl rfl ?_
    refine z_getR (k := 25) C cl11 h0 rfl gw_7_35 rfl dX11_solve_97 ?_
    have j3 : kd (v0 + 14) = 42 := zkd C h0 (k := 25) rfl
    refine z_iload C 4 dX11_solve_100 rfl ?_
    refine z_iconst C dX11_solve_102 rfl ?_
    refine z_zast C j3 rfl (by decide) dX11_solve_103 (fun _ => ?_)
    refine z_aload_n C 0 0 dX11_solve_104 rfl rfl ?_
    refine z_getR (k := 23) C cl11 h0 rfl gw_7_33 rfl dX11_solve_105 ?_
    have j4 : kd (v0 + 12) = 34 := zkd C h0 (k := 23) rfl
    refine z_iload C 4 dX11_solve_108 rfl ?_
    refine z_aload_n C 0 0 dX11_solve_110 rfl rfl ?_
    refine z_aload_n C 0 0 dX11_solve_111 rfl rfl ?_
    refine z_iload_n C 2 2 dX11_solve_112 rfl rfl ?_
    refine z_iload C 4 dX11_solve_113 rfl ?_
    refine z_callV_pI (As := [.int v2, .int v4]) (rest := [.ref (B + v0), .int v4, .ref (B + (v0 + 12))]) C rfl (ctX11_inTray (zG_of C) v0 v2 v4 h0 (wI (wJ M (v0 + 11) v4.toNatClampNeg (0 : Int64)) (v0 + 14) v4.toNatClampNeg (vp_nar .boolean (0 : Int32)))) cw_RX11_330 rfl (okM_X11_inTray) rfl cl11 h0 (okR_of rfl) (Nat.le_of_ble_eq_true rfl) dX11_solve_115 (fun qj5 _ => ?_)
    refine z_callV_I (As := [.int qj5]) (rest := [.int v4, .ref (B + (v0 + 12))]) C rfl (ctX11_tagOf (zG_of C) N v0 qj5 h0 (wI (wJ M (v0 + 11) v4.toNatClampNeg (0 : Int64)) (v0 + 14) v4.toNatClampNeg (vp_nar .boolean (0 : Int32)))) cw_RX11_232 rfl (okM_X11_tagOf) rfl cl11 h0 (okR_of rfl) (Nat.le_of_ble_eq_true rfl) dX11_solve_118 (fun qj6 _ => ?_)
    refine z_iast C j4 rfl (by decide) dX11_solve_121 (fun _ => ?_)
    refine z_iconst C dX11_solve_122 rfl ?_
    refine z_istore C 5 (ls1 := [(5, .int (0 : Int32)), (0, .ref (B + v0)), (1, .int v1), (2, .int v2), (3, .int v3), (4, .int v4)]) dX11_solve_123 (by decide) rfl ?_
    exact z_jump (ls1 := [(0, .ref (B + v0)), (1, .int v1), (2, .int v2), (3, .int v3), (4, .int v4), (5, .int (0 : Int32))]) (Nat.le_of_ble_eq_true rfl) [1, 2, 3, 4, 5, 0] rfl (z_fX11_solve_l125 C ht hr N k82 v0 v1 v2 v3 v4 N (0 : Int32) (wI qj6.2 (v0 + 12) v4.toNatClampNeg qj6.1) h0 hk82)
theorem z_fX11_solve_l82_i {p : Program} {l : Launch} {e : Env} {s : State} {m : MethodId} {args : Array Value} {below : List Frame} {meth : Method} {c : Code} {D : va_G} {cy : Nat → ClassId} {B : Nat} {kd : Nat → Nat} {n : Nat} {sa sv : Nat → Nat} (C : zC p l s m args meth c D cy B kd n sa sv RX11 cX11_solve 6) (ht : ∀ x ∈ c.exceptionTable.toList, False) (hr : meth.sig.returnType = some (FieldType.int)) {b0 : Int32 × Mem} (N : Nat) (v0 : Nat) (v1 : Int32) (v2 : Int32) (v3 : Int32) (h0 : kd v0 = 11)  (fu : Nat) : ∀ (v4 : Int32) (M : Mem), Z p l e (rmz 4 0) s m args below meth c (vx_MQ below (QcR D cy B kd n (cvI b0)) (XcR D cy B kd n (cvI b0)) args s 0 (6 * 0) (AA B kd n)) D cy B kd n 6 b0 0 82 [(0, .ref (B + v0)), (1, .int v1), (2, .int v2), (3, .int v3), (4, .int v4)] [] M (fX11_solve_l82 N v0 v1 v2 v3 fu v4 M) := by
  induction fu with
  | zero => intro v4 M; exact z_none
  | succ fu ih => intro v4 M; exact z_fX11_solve_l82_s C ht hr N v0 v1 v2 v3 (fX11_solve_l82 N v0 v1 v2 v3 fu) v4 M h0 (fun v4 M => ih v4 M)
theorem z_fX11_solve_l82 {p : Program} {l : Launch} {e : Env} {s : State} {m : MethodId} {args : Array Value} {below : List Frame} {meth : Method} {c : Code} {D : va_G} {cy : Nat → ClassId} {B : Nat} {kd : Nat → Nat} {n : Nat} {sa sv : Nat → Nat} (C : zC p l s m args meth c D cy B kd n sa sv RX11 cX11_solve 6) (ht : ∀ x ∈ c.exceptionTable.toList, False) (hr : meth.sig.returnType = some (FieldType.int)) {b0 : Int32 × Mem} (N : Nat) (v0 : Nat) (v1 : Int32) (v2 : Int32) (v3 : Int32) (fu : Nat) (v4 : Int32) (M : Mem) (h0 : kd v0 = 11)  : Z p l e (rmz 4 0) s m args below meth c (vx_MQ below (QcR D cy B kd n (cvI b0)) (XcR D cy B kd n (cvI b0)) args s 0 (6 * 0) (AA B kd n)) D cy B kd n 6 b0 0 82 [(0, .ref (B + v0)), (1, .int v1), (2, .int v2), (3, .int v3), (4, .int v4)] [] M (fX11_solve_l82 N v0 v1 v2 v3 fu v4 M) := z_fX11_solve_l82_i C ht hr N v0 v1 v2 v3 h0 fu v4 M
set_option maxHeartbeats 4000000 in
set_option maxRecDepth 100000 in
theorem z_fX11_solve_b63 {p : Program} {l : Launch} {e : Env} {s : State} {m : MethodId} {args : Array Value} {below : List Frame} {meth : Method} {c : Code} {D : va_G} {cy : Nat → ClassId} {B : Nat} {kd : Nat → Nat} {n : Nat} {sa sv : Nat → Nat} (C : zC p l s m args meth c D cy B kd n sa sv RX11 cX11_solve 6) (ht : ∀ x ∈ c.exceptionTable.toList, False) (hr : meth.sig.returnType = some (FieldType.int)) {b0 : Int32 × Mem}  (N : Nat) (v0 : Nat) (v1 : Int32) (v2 : Int32) (M : Mem) (h0 : kd v0 = 11)  : Z p l e (rmz 4 0) s m args below meth c (vx_MQ below (QcR D cy B kd n (cvI b0)) (XcR D cy B kd n (cvI b0)) args s 0 (6 * 0) (AA B kd n)) D cy B kd n 6 b0 0 63 [(0, .ref (B + v0)), (1, .int v1), (2, .int v2)] [] M (fX11_solve_b63 N v0 v1 v2 M) := by
  unfold fX11_solve_b63
  refine z_aload_n C 0 0 dX11_solve_63 rfl rfl ?_
  refine z_getI (k := 5) C cl11 h0 rfl gw_7_15 rfl dX11_solve_64 ?_
  refine z_if_le C 72 dX11_solve_67 rfl (fun _ => ?_) (fun _ => ?_)
  · refine z_aload_n C 0 0 dX11_solve_72 rfl rfl ?_
    refine z_getR (k := 36) C cl11 h0 rfl gw_7_46 rfl dX11_solve_73 ?_
    have j1 : kd (v0 + 23) = 45 := zkd C h0 (k := 36) rfl
    refine z_iload_n C 2 2 dX11_solve_76 rfl rfl ?_
    refine z_iald C j1 rfl (by decide) dX11_solve_77 (fun j2 => ?_)
    refine z_istore_n C 3 (ls1 := [(3, .int (rI M (v0 + 23) v2.toNatClampNeg)), (0, .ref (B + v0)), (1, .int v1), (2, .int v2)]) dX11_solve_78 rfl (by decide) rfl ?_
    refine z_iconst C dX11_solve_79 rfl ?_
    refine z_istore C 4 (ls1 := [(4, .int (0 : Int32)), (3, .int (rI M (v0 + 23) v2.toNatClampNeg)), (0, .ref (B + v0)), (1, .int v1), (2, .int v2)]) dX11_solve_80 (by decide) rfl ?_
    exact z_jump (ls1 := [(0, .ref (B + v0)), (1, .int v1), (2, .int v2), (3, .int (rI M (v0 + 23) v2.toNatClampNeg)), (4, .int (0 : Int32))]) (Nat.le_of_ble_eq_true rfl) [2, 3, 4, 1, 0] rfl (z_fX11_solve_l82 C ht hr N v0 v1 v2 (rI M (v0 + 23) v2.toNatClampNeg) N (0 : Int32) M h0)
  · refine z_iconst C dX11_solve_70 rfl ?_
    exact z_iret C hr (Nat.le_of_ble_eq_true rfl) dX11_solve_71 rfl
set_option maxHeartbeats 4000000 in
set_option maxRecDepth 100000 in
theorem z_fX11_solve_b42 {p : Program} {l : Launch} {e : Env} {s : State} {m : MethodId} {args : Array Value} {below : List Frame} {meth : Method} {c : Code} {D : va_G} {cy : Nat → ClassId} {B : Nat} {kd : Nat → Nat} {n : Nat} {sa sv : Nat → Nat} (C : zC p l s m args meth c D cy B kd n sa sv RX11 cX11_solve 6) (ht : ∀ x ∈ c.exceptionTable.toList, False) (hr : meth.sig.returnType = some (FieldType.int)) {b0 : Int32 × Mem}  (N : Nat) (v0 : Nat) (v1 : Int32) (v2 : Int32) (M : Mem) (h0 : kd v0 = 11)  : Z p l e (rmz 4 0) s m args below meth c (vx_MQ below (QcR D cy B kd n (cvI b0)) (XcR D cy B kd n (cvI b0)) args s 0 (6 * 0) (AA B kd n)) D cy B kd n 6 b0 0 42 [(0, .ref (B + v0)), (1, .int v1), (2, .int v2)] [] M (fX11_solve_b42 N v0 v1 v2 M) := by
  unfold fX11_solve_b42
  refine z_aload_n C 0 0 dX11_solve_42 rfl rfl ?_
  refine z_getI (k := 5) C cl11 h0 rfl gw_7_15 rfl dX11_solve_43 ?_
  refine z_if_ne C 63 dX11_solve_46 rfl (fun _ => ?_) (fun _ => ?_)
  · refine z_aload_n C 0 0 dX11_solve_49 rfl rfl ?_
    refine z_iload_n C 2 2 dX11_solve_50 rfl rfl ?_
    refine z_iconst C dX11_solve_51 rfl ?_
    refine z_callV_pB (As := [.int v2, .int (bI true)]) (rest := []) C rfl (ctX11_areNames (zG_of C) N v0 v2 true h0 M) cw_RX11_326 rfl (okM_X11_areNames) rfl cl11 h0 (okR_of rfl) (Nat.le_of_ble_eq_true rfl) dX11_solve_52 (fun qj1 _ => ?_)
    refine z_if_neB C 63 dX11_solve_55 rfl (fun _ => ?_) (fun _ => ?_)
    · exact z_jump (ls1 := [(0, .ref (B + v0)), (1, .int v1), (2, .int v2)]) (Nat.le_of_ble_eq_true rfl) [0, 1, 2] rfl (z_fX11_solve_b63 C ht hr N v0 v1 v2 M h0)
    · refine z_aload_n C 0 0 dX11_solve_58 rfl rfl ?_
      refine z_iconst C dX11_solve_59 rfl ?_
      refine z_putI (k := 5) C cl11 h0 rfl gw_7_15 rfl rfl rfl dX11_solve_60 ?_
      exact z_jump (ls1 := [(0, .ref (B + v0)), (1, .int v1), (2, .int v2)]) (Nat.le_of_ble_eq_true rfl) [0, 1, 2] rfl (z_fX11_solve_b63 C ht hr N v0 v1 v2 (wI M v0 5 (3 : Int32)) h0)
  · exact z_jump (ls1 := [(0, .ref (B + v0)), (1, .int v1), (2, .int v2)]) (Nat.le_of_ble_eq_true rfl) [0, 1, 2] rfl (z_fX11_solve_b63 C ht hr N v0 v1 v2 M h0)
set_option maxHeartbeats 4000000 in
set_option maxRecDepth 100000 in
theorem z_fX11_solve_b37 {p : Program} {l : Launch} {e : Env} {s : State} {m : MethodId} {args : Array Value} {below : List Frame} {meth : Method} {c : Code} {D : va_G} {cy : Nat → ClassId} {B : Nat} {kd : Nat → Nat} {n : Nat} {sa sv : Nat → Nat} (C : zC p l s m args meth c D cy B kd n sa sv RX11 cX11_solve 6) (ht : ∀ x ∈ c.exceptionTable.toList, False) (hr : meth.sig.returnType = some (FieldType.int)) {b0 : Int32 × Mem}  (N : Nat) (v0 : Nat) (v1 : Int32) (v2 : Int32) (M : Mem) (h0 : kd v0 = 11)  : Z p l e (rmz 4 0) s m args below meth c (vx_MQ below (QcR D cy B kd n (cvI b0)) (XcR D cy B kd n (cvI b0)) args s 0 (6 * 0) (AA B kd n)) D cy B kd n 6 b0 0 37 [(0, .ref (B + v0)), (1, .int v1), (2, .int v2)] [] M (fX11_solve_b37 N v0 v1 v2 M) := by
  unfold fX11_solve_b37
  refine z_aload_n C 0 0 dX11_solve_37 rfl rfl ?_
  refine z_iconst C dX11_solve_38 rfl ?_
  refine z_putI (k := 5) C cl11 h0 rfl gw_7_15 rfl rfl rfl dX11_solve_39 ?_
  exact z_jump (ls1 := [(0, .ref (B + v0)), (1, .int v1), (2, .int v2)]) (Nat.le_of_ble_eq_true rfl) [0, 1, 2] rfl (z_fX11_solve_b42 C ht hr N v0 v1 v2 (wI M v0 5 (2 : Int32)) h0)
set_option maxHeartbeats 4000000 in
set_option maxRecDepth 100000 in
theorem ctX11_solve {l : Launch} {D : va_G} {cy : Nat → ClassId} {B : Nat} {kd : Nat → Nat} {n : Nat} {sa sv : Nat → Nat} (G : zG l kd n) (N : Nat) (v0 : Nat) (v1 : Int32) (v2 : Int32) (h0 : kd v0 = 11) (M : Mem) : CT l D cy B kd n sa sv 4 0 yX11_solve cX11_solve 6 (some (FieldType.int)) cvI [.ref (B + v0), .int v1, .int v2] M (fX11_solve N v0 v1 v2 M) := by
  refine ct_of (by decide) G.1 G.2 (Nat.le_of_ble_eq_true rfl) (ls := [(0, .ref (B + v0)), (1, .int v1), (2, .int v2)]) rfl ?_
  intro p e s m args below meth c b0 C ht hr
  unfold fX11_solve
  refine z_aload_n C 0 0 dX11_solve_0 rfl rfl ?_
  refine z_aload_n C 0 0 dX11_solve_1 rfl rfl ?_
  refine z_iload_n C 1 1 dX11_solve_2 rfl rfl ?_
  refine z_iload_n C 2 2 dX11_solve_3 rfl rfl ?_
  refine z_callV_pI (As := [.int v1, .int v2]) (rest := [.ref (B + v0)]) C rfl (ctX11_rowTrayFault (zG_of C) v0 v1 v2 h0 M) cw_RX11_323 rfl (okM_X11_rowTrayFault) rfl cl11 h0 (okR_of rfl) (Nat.le_of_ble_eq_true rfl) dX11_solve_4 (fun qj1 _ => ?_)
  refine z_putI (k := 5) C cl11 h0 rfl gw_7_15 rfl rfl rfl dX11_solve_7 ?_
  refine z_aload_n C 0 0 dX11_solve_10 rfl rfl ?_
  refine z_getI (k := 5) C cl11 h0 rfl gw_7_15 rfl dX11_solve_11 ?_
  refine z_if_ne C 42 dX11_solve_14 rfl (fun _ => ?_) (fun _ => ?_)
  · refine z_aload_n C 0 0 dX11_solve_17 rfl rfl ?_
    refine z_iload_n C 1 1 dX11_solve_18 rfl rfl ?_
    refine z_iconst C dX11_solve_19 rfl ?_
    refine z_callV_pI (As := [.int v1, .int (0 : Int32)]) (rest := []) C rfl (ctX11_get (zG_of C) v0 v1 (0 : Int32) h0 (wI M v0 5 qj1)) cw_RX11_237 rfl (okM_X11_get) rfl cl11 h0 (okR_of rfl) (Nat.le_of_ble_eq_true rfl) dX11_solve_20 (fun qj2 _ => ?_)
    refine z_iconst C dX11_solve_23 rfl ?_
    refine z_icmp_ne C 37 dX11_solve_24 rfl (fun _ => ?_) (fun _ => ?_)
    · refine z_aload_n C 0 0 dX11_solve_27 rfl rfl ?_
      refine z_getR (k := 35) C cl11 h0 rfl gw_7_45 rfl dX11_solve_28 ?_
      have j3 : kd (v0 + 22) = 45 := zkd C h0 (k := 35) rfl
      refine z_iload_n C 2 2 dX11_solve_31 rfl rfl ?_
      refine z_iald C j3 rfl (by decide) dX11_solve_32 (fun j4 => ?_)
      refine z_iconst C dX11_solve_33 rfl ?_
      refine z_icmp_ne C 42 dX11_solve_34 rfl (fun _ => ?_) (fun _ => ?_)
      · exact z_jump (ls1 := [(0, .ref (B + v0)), (1, .int v1), (2, .int v2)]) (Nat.le_of_ble_eq_true rfl) [0, 1, 2] rfl (z_fX11_solve_b37 C ht hr N v0 v1 v2 (wI M v0 5 qj1) h0)
      · exact z_jump (ls1 := [(0, .ref (B + v0)), (1, .int v1), (2, .int v2)]) (Nat.le_of_ble_eq_true rfl) [0, 1, 2] rfl (z_fX11_solve_b42 C ht hr N v0 v1 v2 (wI M v0 5 qj1) h0)
    · exact z_jump (ls1 := [(0, .ref (B + v0)), (1, .int v1), (2, .int v2)]) (Nat.le_of_ble_eq_true rfl) [0, 1, 2] rfl (z_fX11_solve_b37 C ht hr N v0 v1 v2 (wI M v0 5 qj1) h0)
  · exact z_jump (ls1 := [(0, .ref (B + v0)), (1, .int v1), (2, .int v2)]) (Nat.le_of_ble_eq_true rfl) [0, 1, 2] rfl (z_fX11_solve_b42 C ht hr N v0 v1 v2 (wI M v0 5 qj1) h0)
set_option maxHeartbeats 4000000 in
set_option maxRecDepth 100000 in
theorem z_fX11_isLie_b22 {p : Program} {l : Launch} {e : Env} {s : State} {m : MethodId} {args : Array Value} {below : List Frame} {meth : Method} {c : Code} {D : va_G} {cy : Nat → ClassId} {B : Nat} {kd : Nat → Nat} {n : Nat} {sa sv : Nat → Nat} (C : zC p l s m args meth c D cy B kd n sa sv RX11 cX11_isLie 3) (ht : ∀ x ∈ c.exceptionTable.toList, False) (hr : meth.sig.returnType = some (FieldType.boolean)) {b0 : Bool × Mem}  (N : Nat) (M : Mem)  : Z p l e (rmz 5 0) s m args below meth c (vx_MQ below (QcR D cy B kd n (cvB b0)) (XcR D cy B kd n (cvB b0)) args s 0 (6 * 0) (AA B kd n)) D cy B kd n 3 b0 0 22 [] [] M (fX11_isLie_b22 N M) := by
  unfold fX11_isLie_b22
  refine z_iconst C dX11_isLie_22 rfl ?_
  exact z_zret C (v := false) hr (Nat.le_of_ble_eq_true rfl) dX11_isLie_23 rfl
set_option maxHeartbeats 4000000 in
set_option maxRecDepth 100000 in
theorem ctX11_isLie {l : Launch} {D : va_G} {cy : Nat → ClassId} {B : Nat} {kd : Nat → Nat} {n : Nat} {sa sv : Nat → Nat} (G : zG l kd n) (N : Nat) (v0 : Nat) (v1 : Int32) (v2 : Int32) (h0 : kd v0 = 11) (M : Mem) : CT l D cy B kd n sa sv 5 0 yX11_isLie cX11_isLie 3 (some (FieldType.boolean)) cvB [.ref (B + v0), .int v1, .int v2] M (fX11_isLie N v0 v1 v2 M) := by
  refine ct_of (by decide) G.1 G.2 (Nat.le_of_ble_eq_true rfl) (ls := [(0, .ref (B + v0)), (1, .int v1), (2, .int v2)]) rfl ?_
  intro p e s m args below meth c b0 C ht hr
  unfold fX11_isLie
  refine z_aload_n C 0 0 dX11_isLie_0 rfl rfl ?_
  refine z_iload_n C 1 1 dX11_isLie_1 rfl rfl ?_
  refine z_iload_n C 2 2 dX11_isLie_2 rfl rfl ?_
  refine z_callV_pB (As := [.int v1, .int v2]) (rest := []) C rfl (ctX11_isIn (zG_of C) v0 v1 v2 h0 M) cw_RX11_300 rfl (okM_X11_isIn) rfl cl11 h0 (okR_of rfl) (Nat.le_of_ble_eq_true rfl) dX11_isLie_3 (fun qj1 _ => ?_)
  refine z_if_neB C 22 dX11_isLie_6 rfl (fun _ => ?_) (fun _ => ?_)
  · exact z_jump (ls1 := []) (Nat.le_of_ble_eq_true rfl) [] rfl (z_fX11_isLie_b22 C ht hr N M)
  · refine z_aload_n C 0 0 dX11_isLie_9 rfl rfl ?_
    refine z_iload_n C 1 1 dX11_isLie_10 rfl rfl ?_
    refine z_iload_n C 2 2 dX11_isLie_11 rfl rfl ?_
    refine z_callV_B (As := [.int v1, .int v2]) (rest := []) C rfl (ctX11_says (zG_of C) N v0 v1 v2 h0 M) cw_RX11_296 rfl (okM_X11_says) rfl cl11 h0 (okR_of rfl) (Nat.le_of_ble_eq_true rfl) dX11_isLie_12 (fun qj2 _ => ?_)
    refine z_if_eqB C 22 dX11_isLie_15 rfl (fun _ => ?_) (fun _ => ?_)
    · refine z_iconst C dX11_isLie_18 rfl ?_
      refine z_goto C 23 dX11_isLie_19 rfl ?_
      exact z_zret C (v := true) hr (Nat.le_of_ble_eq_true rfl) dX11_isLie_23 rfl
    · exact z_jump (ls1 := []) (Nat.le_of_ble_eq_true rfl) [] rfl (z_fX11_isLie_b22 C ht hr N qj2.2)
set_option maxHeartbeats 4000000 in
set_option maxRecDepth 100000 in
theorem z_fX11_lies_b29 {p : Program} {l : Launch} {e : Env} {s : State} {m : MethodId} {args : Array Value} {below : List Frame} {meth : Method} {c : Code} {D : va_G} {cy : Nat → ClassId} {B : Nat} {kd : Nat → Nat} {n : Nat} {sa sv : Nat → Nat} (C : zC p l s m args meth c D cy B kd n sa sv RX11 cX11_lies 4) (ht : ∀ x ∈ c.exceptionTable.toList, False) (hr : meth.sig.returnType = some (FieldType.int)) {b0 : Int32 × Mem}  (N : Nat) (k4 : Int32 → Int32 → Mem → Option (Int32 × Mem)) (v0 : Nat) (v1 : Int32) (v3 : Int32) (s0 : Bool) (s1 : Int32) (M : Mem) (h0 : kd v0 = 11) (hk4 : ∀ (v2 : Int32) (v3 : Int32) (M : Mem), Z p l e (rmz 6 0) s m args below meth c (vx_MQ below (QcR D cy B kd n (cvI b0)) (XcR D cy B kd n (cvI b0)) args s 0 (6 * 0) (AA B kd n)) D cy B kd n 4 b0 0 4 [(0, .ref (B + v0)), (1, .int v1), (2, .int v2), (3, .int v3)] [] M (k4 v2 v3 M)) : Z p l e (rmz 6 0) s m args below meth c (vx_MQ below (QcR D cy B kd n (cvI b0)) (XcR D cy B kd n (cvI b0)) args s 0 (6 * 0) (AA B kd n)) D cy B kd n 4 b0 0 29 [(0, .ref (B + v0)), (1, .int v1), (3, .int v3)] [.int (bI s0), .int s1] M (fX11_lies_b29 N k4 v0 v1 v3 s0 s1 M) := by
  unfold fX11_lies_b29
  refine z_iadd C dX11_lies_29 ?_
  refine z_istore_n C 2 (ls1 := [(2, .int (s1 + (bI s0))), (0, .ref (B + v0)), (1, .int v1), (3, .int v3)]) dX11_lies_30 rfl (by decide) rfl ?_
  refine z_iinc C 3 3 (v := v3) (v1 := (v3 + (1 : Int32))) (ls1 := [(3, .int (v3 + (1 : Int32))), (2, .int (s1 + (bI s0))), (0, .ref (B + v0)), (1, .int v1)]) dX11_lies_31 rfl rfl (by decide) rfl ?_
  refine z_goto C 4 dX11_lies_34 rfl ?_
  exact z_jump (ls1 := [(0, .ref (B + v0)), (1, .int v1), (2, .int (s1 + (bI s0))), (3, .int (v3 + (1 : Int32)))]) (Nat.le_of_ble_eq_true rfl) [2, 3, 1, 0] rfl (hk4 (s1 + (bI s0)) (v3 + (1 : Int32)) M)
set_option maxHeartbeats 4000000 in
set_option maxRecDepth 100000 in
theorem z_fX11_lies_l4_s {p : Program} {l : Launch} {e : Env} {s : State} {m : MethodId} {args : Array Value} {below : List Frame} {meth : Method} {c : Code} {D : va_G} {cy : Nat → ClassId} {B : Nat} {kd : Nat → Nat} {n : Nat} {sa sv : Nat → Nat} (C : zC p l s m args meth c D cy B kd n sa sv RX11 cX11_lies 4) (ht : ∀ x ∈ c.exceptionTable.toList, False) (hr : meth.sig.returnType = some (FieldType.int)) {b0 : Int32 × Mem} (N : Nat) (v0 : Nat) (v1 : Int32) (k4 : Int32 → Int32 → Mem → Option (Int32 × Mem)) (v2 : Int32) (v3 : Int32) (M : Mem) (h0 : kd v0 = 11)  (hk4 : ∀ (v2 : Int32) (v3 : Int32) (M : Mem), Z p l e (rmz 6 0) s m args below meth c (vx_MQ below (QcR D cy B kd n (cvI b0)) (XcR D cy B kd n (cvI b0)) args s 0 (6 * 0) (AA B kd n)) D cy B kd n 4 b0 0 4 [(0, .ref (B + v0)), (1, .int v1), (2, .int v2), (3, .int v3)] [] M (k4 v2 v3 M)) : Z p l e (rmz 6 0) s m args below meth c (vx_MQ below (QcR D cy B kd n (cvI b0)) (XcR D cy B kd n (cvI b0)) args s 0 (6 * 0) (AA B kd n)) D cy B kd n 4 b0 0 4 [(0, .ref (B + v0)), (1, .int v1), (2, .int v2), (3, .int v3)] [] M (fX11_lies_l4_s N v0 v1 k4 v2 v3 M) := by
  unfold fX11_lies_l4_s
  refine z_iload_n C 3 3 dX11_lies_4 rfl rfl ?_
  refine z_aload_n C 0 0 dX11_lies_5 rfl rfl ?_
  refine z_getR (k := 0) C cl11 h0 rfl gw_7_10 rfl dX11_lies_6 ?_
  have j1 : kd (v0 + 1) = 36 := zkd C h0 (k := 0) rfl
  refine z_iconst C dX11_lies_9 rfl ?_
  refine z_iald C j1 rfl (by decide) dX11_lies_10 (fun j2 => ?_)
  refine z_icmp_ge C 37 dX11_lies_11 rfl (fun _ => ?_) (fun _ => ?_)
  · refine z_iload_n C 2 2 dX11_lies_37 rfl rfl ?_
    exact z_iret C hr (Nat.le_of_ble_eq_true rfl) dX11_lies_38 rfl
  · refine z_iload_n C 2 2 dX11_lies_14 rfl rfl ?_
    refine z_aload_n C 0 0 dX11_lies_15 rfl rfl ?_
    refine z_iload_n C 1 1 dX11_lies_16 rfl rfl ?_
    refine z_iload_n C 3 3 dX11_lies_17 rfl rfl ?_
    refine z_callV_B (As := [.int v1, .int v3]) (rest := [.int v2]) C rfl (ctX11_isLie (zG_of C) N v0 v1 v3 h0 M) cw_RX11_336 rfl (okM_X11_isLie) rfl cl11 h0 (okR_of rfl) (Nat.le_of_ble_eq_true rfl) dX11_lies_18 (fun qj3 _ => ?_)
    refine z_if_eqB C 28 dX11_lies_21 rfl (fun _ => ?_) (fun _ => ?_)
    · refine z_iconst C dX11_lies_24 rfl ?_
      refine z_goto C 29 dX11_lies_25 rfl ?_
      exact z_jump (ls1 := [(0, .ref (B + v0)), (1, .int v1), (3, .int v3)]) (Nat.le_of_ble_eq_true rfl) [0, 1, 3] rfl (z_fX11_lies_b29 C ht hr N k4 v0 v1 v3 true v2 qj3.2 h0 hk4)
    · refine z_iconst C dX11_lies_28 rfl ?_
      exact z_jump (ls1 := [(0, .ref (B + v0)), (1, .int v1), (3, .int v3)]) (Nat.le_of_ble_eq_true rfl) [0, 1, 3] rfl (z_fX11_lies_b29 C ht hr N k4 v0 v1 v3 false v2 qj3.2 h0 hk4)
theorem z_fX11_lies_l4_i {p : Program} {l : Launch} {e : Env} {s : State} {m : MethodId} {args : Array Value} {below : List Frame} {meth : Method} {c : Code} {D : va_G} {cy : Nat → ClassId} {B : Nat} {kd : Nat → Nat} {n : Nat} {sa sv : Nat → Nat} (C : zC p l s m args meth c D cy B kd n sa sv RX11 cX11_lies 4) (ht : ∀ x ∈ c.exceptionTable.toList, False) (hr : meth.sig.returnType = some (FieldType.int)) {b0 : Int32 × Mem} (N : Nat) (v0 : Nat) (v1 : Int32) (h0 : kd v0 = 11)  (fu : Nat) : ∀ (v2 : Int32) (v3 : Int32) (M : Mem), Z p l e (rmz 6 0) s m args below meth c (vx_MQ below (QcR D cy B kd n (cvI b0)) (XcR D cy B kd n (cvI b0)) args s 0 (6 * 0) (AA B kd n)) D cy B kd n 4 b0 0 4 [(0, .ref (B + v0)), (1, .int v1), (2, .int v2), (3, .int v3)] [] M (fX11_lies_l4 N v0 v1 fu v2 v3 M) := by
  induction fu with
  | zero => intro v2 v3 M; exact z_none
  | succ fu ih => intro v2 v3 M; exact z_fX11_lies_l4_s C ht hr N v0 v1 (fX11_lies_l4 N v0 v1 fu) v2 v3 M h0 (fun v2 v3 M => ih v2 v3 M)
theorem z_fX11_lies_l4 {p : Program} {l : Launch} {e : Env} {s : State} {m : MethodId} {args : Array Value} {below : List Frame} {meth : Method} {c : Code} {D : va_G} {cy : Nat → ClassId} {B : Nat} {kd : Nat → Nat} {n : Nat} {sa sv : Nat → Nat} (C : zC p l s m args meth c D cy B kd n sa sv RX11 cX11_lies 4) (ht : ∀ x ∈ c.exceptionTable.toList, False) (hr : meth.sig.returnType = some (FieldType.int)) {b0 : Int32 × Mem} (N : Nat) (v0 : Nat) (v1 : Int32) (fu : Nat) (v2 : Int32) (v3 : Int32) (M : Mem) (h0 : kd v0 = 11)  : Z p l e (rmz 6 0) s m args below meth c (vx_MQ below (QcR D cy B kd n (cvI b0)) (XcR D cy B kd n (cvI b0)) args s 0 (6 * 0) (AA B kd n)) D cy B kd n 4 b0 0 4 [(0, .ref (B + v0)), (1, .int v1), (2, .int v2), (3, .int v3)] [] M (fX11_lies_l4 N v0 v1 fu v2 v3 M) := z_fX11_lies_l4_i C ht hr N v0 v1 h0 fu v2 v3 M
set_option maxHeartbeats 4000000 in
set_option maxRecDepth 100000 in
theorem ctX11_lies {l : Launch} {D : va_G} {cy : Nat → ClassId} {B : Nat} {kd : Nat → Nat} {n : Nat} {sa sv : Nat → Nat} (G : zG l kd n) (N : Nat) (v0 : Nat) (v1 : Int32) (h0 : kd v0 = 11) (M : Mem) : CT l D cy B kd n sa sv 6 0 yX11_lies cX11_lies 4 (some (FieldType.int)) cvI [.ref (B + v0), .int v1] M (fX11_lies N v0 v1 M) := by
  refine ct_of (by decide) G.1 G.2 (Nat.le_of_ble_eq_true rfl) (ls := [(0, .ref (B + v0)), (1, .int v1)]) rfl ?_
  intro p e s m args below meth c b0 C ht hr
  unfold fX11_lies
  refine z_iconst C dX11_lies_0 rfl ?_
  refine z_istore_n C 2 (ls1 := [(2, .int (0 : Int32)), (0, .ref (B + v0)), (1, .int v1)]) dX11_lies_1 rfl (by decide) rfl ?_
  refine z_iconst C dX11_lies_2 rfl ?_
  refine z_istore_n C 3 (ls1 := [(3, .int (0 : Int32)), (2, .int (0 : Int32)), (0, .ref (B + v0)), (1, .int v1)]) dX11_lies_3 rfl (by decide) rfl ?_
  exact z_jump (ls1 := [(0, .ref (B + v0)), (1, .int v1), (2, .int (0 : Int32)), (3, .int (0 : Int32))]) (Nat.le_of_ble_eq_true rfl) [2, 3, 1, 0] rfl (z_fX11_lies_l4 C ht hr N v0 v1 N (0 : Int32) (0 : Int32) M h0)
set_option maxHeartbeats 4000000 in
set_option maxRecDepth 100000 in
theorem z_fX11_lying_b103 {p : Program} {l : Launch} {e : Env} {s : State} {m : MethodId} {args : Array Value} {below : List Frame} {meth : Method} {c : Code} {D : va_G} {cy : Nat → ClassId} {B : Nat} {kd : Nat → Nat} {n : Nat} {sa sv : Nat → Nat} (C : zC p l s m args meth c D cy B kd n sa sv RX11 cX11_lying 5) (ht : ∀ x ∈ c.exceptionTable.toList, False) (hr : meth.sig.returnType = some (FieldType.boolean)) {b0 : Bool × Mem}  (N : Nat) (v3 : Int32) (s0 : Int32) (s1 : Nat) (M : Mem) (hs1 : kd s1 = 11)  : Z p l e (rmz 7 0) s m args below meth c (vx_MQ below (QcR D cy B kd n (cvB b0)) (XcR D cy B kd n (cvB b0)) args s 0 (6 * 0) (AA B kd n)) D cy B kd n 5 b0 0 103 [(3, .int v3)] [.int s0, .ref (B + s1)] M (fX11_lying_b103 N v3 s0 s1 M) := by
  unfold fX11_lying_b103
  refine z_putI (k := 27) C cl11 hs1 rfl gw_7_37 rfl rfl rfl dX11_lying_103 ?_
  refine z_iload_n C 3 0 dX11_lying_106 rfl rfl ?_
  refine z_if_le C 114 dX11_lying_107 rfl (fun _ => ?_) (fun _ => ?_)
  · refine z_iconst C dX11_lying_114 rfl ?_
    exact z_zret C (v := false) hr (Nat.le_of_ble_eq_true rfl) dX11_lying_115 rfl
  · refine z_iconst C dX11_lying_110 rfl ?_
    refine z_goto C 115 dX11_lying_111 rfl ?_
    exact z_zret C (v := true) hr (Nat.le_of_ble_eq_true rfl) dX11_lying_115 rfl
set_option maxHeartbeats 4000000 in
set_option maxRecDepth 100000 in
theorem z_fX11_lying_b87 {p : Program} {l : Launch} {e : Env} {s : State} {m : MethodId} {args : Array Value} {below : List Frame} {meth : Method} {c : Code} {D : va_G} {cy : Nat → ClassId} {B : Nat} {kd : Nat → Nat} {n : Nat} {sa sv : Nat → Nat} (C : zC p l s m args meth c D cy B kd n sa sv RX11 cX11_lying 5) (ht : ∀ x ∈ c.exceptionTable.toList, False) (hr : meth.sig.returnType = some (FieldType.boolean)) {b0 : Bool × Mem}  (N : Nat) (v0 : Nat) (v3 : Int32) (v4 : Int32) (s0 : Int32) (s1 : Nat) (M : Mem) (h0 : kd v0 = 11) (hs1 : kd s1 = 11)  : Z p l e (rmz 7 0) s m args below meth c (vx_MQ below (QcR D cy B kd n (cvB b0)) (XcR D cy B kd n (cvB b0)) args s 0 (6 * 0) (AA B kd n)) D cy B kd n 5 b0 0 87 [(0, .ref (B + v0)), (3, .int v3), (4, .int v4)] [.int s0, .ref (B + s1)] M (fX11_lying_b87 N v0 v3 v4 s0 s1 M) := by
  unfold fX11_lying_b87
  refine z_putI (k := 26) C cl11 hs1 rfl gw_7_36 rfl rfl rfl dX11_lying_87 ?_
  refine z_aload_n C 0 0 dX11_lying_90 rfl rfl ?_
  refine z_iload_n C 3 1 dX11_lying_91 rfl rfl ?_
  refine z_if_ne C 99 dX11_lying_92 rfl (fun _ => ?_) (fun _ => ?_)
  · refine z_iconst C dX11_lying_95 rfl ?_
    refine z_goto C 103 dX11_lying_96 rfl ?_
    exact z_jump (ls1 := [(3, .int v3)]) (Nat.le_of_ble_eq_true rfl) [1] rfl (z_fX11_lying_b103 C ht hr N v3 (0 : Int32) v0 (wI M s1 26 s0) h0)
  · refine z_iload_n C 3 1 dX11_lying_99 rfl rfl ?_
    refine z_iload C 2 dX11_lying_100 rfl ?_
    refine z_idiv C dX11_lying_102 (fun _ => ?_)
    exact z_jump (ls1 := [(3, .int v3)]) (Nat.le_of_ble_eq_true rfl) [1] rfl (z_fX11_lying_b103 C ht hr N v3 (v3 / v4) v0 (wI M s1 26 s0) h0)
set_option maxHeartbeats 4000000 in
set_option maxRecDepth 100000 in
theorem z_fX11_lying_b74 {p : Program} {l : Launch} {e : Env} {s : State} {m : MethodId} {args : Array Value} {below : List Frame} {meth : Method} {c : Code} {D : va_G} {cy : Nat → ClassId} {B : Nat} {kd : Nat → Nat} {n : Nat} {sa sv : Nat → Nat} (C : zC p l s m args meth c D cy B kd n sa sv RX11 cX11_lying 5) (ht : ∀ x ∈ c.exceptionTable.toList, False) (hr : meth.sig.returnType = some (FieldType.boolean)) {b0 : Bool × Mem}  (N : Nat) (v0 : Nat) (v2 : Int32) (v3 : Int32) (v4 : Int32) (M : Mem) (h0 : kd v0 = 11)  : Z p l e (rmz 7 0) s m args below meth c (vx_MQ below (QcR D cy B kd n (cvB b0)) (XcR D cy B kd n (cvB b0)) args s 0 (6 * 0) (AA B kd n)) D cy B kd n 5 b0 0 74 [(0, .ref (B + v0)), (2, .int v2), (3, .int v3), (4, .int v4)] [] M (fX11_lying_b74 N v0 v2 v3 v4 M) := by
  unfold fX11_lying_b74
  refine z_aload_n C 0 0 dX11_lying_74 rfl rfl ?_
  refine z_iload_n C 3 2 dX11_lying_75 rfl rfl ?_
  refine z_if_ne C 83 dX11_lying_76 rfl (fun _ => ?_) (fun _ => ?_)
  · refine z_iconst C dX11_lying_79 rfl ?_
    refine z_goto C 87 dX11_lying_80 rfl ?_
    exact z_jump (ls1 := [(0, .ref (B + v0)), (3, .int v3), (4, .int v4)]) (Nat.le_of_ble_eq_true rfl) [0, 2, 3] rfl (z_fX11_lying_b87 C ht hr N v0 v3 v4 (0 : Int32) v0 M h0 h0)
  · refine z_iload_n C 2 1 dX11_lying_83 rfl rfl ?_
    refine z_iload C 3 dX11_lying_84 rfl ?_
    refine z_idiv C dX11_lying_86 (fun _ => ?_)
    exact z_jump (ls1 := [(0, .ref (B + v0)), (3, .int v3), (4, .int v4)]) (Nat.le_of_ble_eq_true rfl) [0, 2, 3] rfl (z_fX11_lying_b87 C ht hr N v0 v3 v4 (v2 / v4) v0 M h0 h0)
set_option maxHeartbeats 4000000 in
set_option maxRecDepth 100000 in
theorem z_fX11_lying_b68 {p : Program} {l : Launch} {e : Env} {s : State} {m : MethodId} {args : Array Value} {below : List Frame} {meth : Method} {c : Code} {D : va_G} {cy : Nat → ClassId} {B : Nat} {kd : Nat → Nat} {n : Nat} {sa sv : Nat → Nat} (C : zC p l s m args meth c D cy B kd n sa sv RX11 cX11_lying 5) (ht : ∀ x ∈ c.exceptionTable.toList, False) (hr : meth.sig.returnType = some (FieldType.boolean)) {b0 : Bool × Mem}  (N : Nat) (k48 : Int32 → Option (Bool × Mem)) (v0 : Nat) (v2 : Int32) (v3 : Int32) (v4 : Int32) (M : Mem) (h0 : kd v0 = 11) (hk48 : ∀ (v4 : Int32), Z p l e (rmz 7 0) s m args below meth c (vx_MQ below (QcR D cy B kd n (cvB b0)) (XcR D cy B kd n (cvB b0)) args s 0 (6 * 0) (AA B kd n)) D cy B kd n 5 b0 0 48 [(0, .ref (B + v0)), (2, .int v2), (3, .int v3), (4, .int v4)] [] M (k48 v4)) : Z p l e (rmz 7 0) s m args below meth c (vx_MQ below (QcR D cy B kd n (cvB b0)) (XcR D cy B kd n (cvB b0)) args s 0 (6 * 0) (AA B kd n)) D cy B kd n 5 b0 0 68 [(0, .ref (B + v0)), (2, .int v2), (3, .int v3), (4, .int v4)] [] M (fX11_lying_b68 N k48 v0 v2 v3 v4 M) := by
  unfold fX11_lying_b68
  refine z_iinc C 4 3 (v := v4) (v1 := (v4 + (-1 : Int32))) (ls1 := [(4, .int (v4 + (-1 : Int32))), (0, .ref (B + v0)), (2, .int v2), (3, .int v3)]) dX11_lying_68 rfl rfl (by decide) rfl ?_
  refine z_goto C 48 dX11_lying_71 rfl ?_
  exact z_jump (ls1 := [(0, .ref (B + v0)), (2, .int v2), (3, .int v3), (4, .int (v4 + (-1 : Int32)))]) (Nat.le_of_ble_eq_true rfl) [1, 2, 3, 0] rfl (hk48 (v4 + (-1 : Int32)))
set_option maxHeartbeats 4000000 in
set_option maxRecDepth 100000 in
theorem z_fX11_lying_l48_s {p : Program} {l : Launch} {e : Env} {s : State} {m : MethodId} {args : Array Value} {below : List Frame} {meth : Method} {c : Code} {D : va_G} {cy : Nat → ClassId} {B : Nat} {kd : Nat → Nat} {n : Nat} {sa sv : Nat → Nat} (C : zC p l s m args meth c D cy B kd n sa sv RX11 cX11_lying 5) (ht : ∀ x ∈ c.exceptionTable.toList, False) (hr : meth.sig.returnType = some (FieldType.boolean)) {b0 : Bool × Mem} (N : Nat) (v0 : Nat) (v2 : Int32) (v3 : Int32) (M : Mem) (k48 : Int32 → Option (Bool × Mem)) (v4 : Int32) (h0 : kd v0 = 11)  (hk48 : ∀ (v4 : Int32), Z p l e (rmz 7 0) s m args below meth c (vx_MQ below (QcR D cy B kd n (cvB b0)) (XcR D cy B kd n (cvB b0)) args s 0 (6 * 0) (AA B kd n)) D cy B kd n 5 b0 0 48 [(0, .ref (B + v0)), (2, .int v2), (3, .int v3), (4, .int v4)] [] M (k48 v4)) : Z p l e (rmz 7 0) s m args below meth c (vx_MQ below (QcR D cy B kd n (cvB b0)) (XcR D cy B kd n (cvB b0)) args s 0 (6 * 0) (AA B kd n)) D cy B kd n 5 b0 0 48 [(0, .ref (B + v0)), (2, .int v2), (3, .int v3), (4, .int v4)] [] M (fX11_lying_l48_s N v0 v2 v3 M k48 v4) := by
  unfold fX11_lying_l48_s
  refine z_iload C 3 dX11_lying_48 rfl ?_
  refine z_iconst C dX11_lying_50 rfl ?_
  refine z_icmp_le C 74 dX11_lying_51 rfl (fun _ => ?_) (fun _ => ?_)
  · exact z_jump (ls1 := [(0, .ref (B + v0)), (2, .int v2), (3, .int v3), (4, .int v4)]) (Nat.le_of_ble_eq_true rfl) [0, 1, 2, 3] rfl (z_fX11_lying_b74 C ht hr N v0 v2 v3 v4 M h0)
  · refine z_iload_n C 2 1 dX11_lying_54 rfl rfl ?_
    refine z_iload C 3 dX11_lying_55 rfl ?_
    refine z_irem C dX11_lying_57 (fun _ => ?_)
    refine z_if_ne C 68 dX11_lying_58 rfl (fun _ => ?_) (fun _ => ?_)
    · refine z_iload_n C 3 2 dX11_lying_61 rfl rfl ?_
      refine z_iload C 3 dX11_lying_62 rfl ?_
      refine z_irem C dX11_lying_64 (fun _ => ?_)
      refine z_if_eq C 74 dX11_lying_65 rfl (fun _ => ?_) (fun _ => ?_)
      · exact z_jump (ls1 := [(0, .ref (B + v0)), (2, .int v2), (3, .int v3), (4, .int v4)]) (Nat.le_of_ble_eq_true rfl) [0, 1, 2, 3] rfl (z_fX11_lying_b74 C ht hr N v0 v2 v3 v4 M h0)
      · exact z_jump (ls1 := [(0, .ref (B + v0)), (2, .int v2), (3, .int v3), (4, .int v4)]) (Nat.le_of_ble_eq_true rfl) [0, 1, 2, 3] rfl (z_fX11_lying_b68 C ht hr N k48 v0 v2 v3 v4 M h0 hk48)
    · exact z_jump (ls1 := [(0, .ref (B + v0)), (2, .int v2), (3, .int v3), (4, .int v4)]) (Nat.le_of_ble_eq_true rfl) [0, 1, 2, 3] rfl (z_fX11_lying_b68 C ht hr N k48 v0 v2 v3 v4 M h0 hk48)
theorem z_fX11_lying_l48_i {p : Program} {l : Launch} {e : Env} {s : State} {m : MethodId} {args : Array Value} {below : List Frame} {meth : Method} {c : Code} {D : va_G} {cy : Nat → ClassId} {B : Nat} {kd : Nat → Nat} {n : Nat} {sa sv : Nat → Nat} (C : zC p l s m args meth c D cy B kd n sa sv RX11 cX11_lying 5) (ht : ∀ x ∈ c.exceptionTable.toList, False) (hr : meth.sig.returnType = some (FieldType.boolean)) {b0 : Bool × Mem} (N : Nat) (v0 : Nat) (v2 : Int32) (v3 : Int32) (M : Mem) (h0 : kd v0 = 11)  (fu : Nat) : ∀ (v4 : Int32), Z p l e (rmz 7 0) s m args below meth c (vx_MQ below (QcR D cy B kd n (cvB b0)) (XcR D cy B kd n (cvB b0)) args s 0 (6 * 0) (AA B kd n)) D cy B kd n 5 b0 0 48 [(0, .ref (B + v0)), (2, .int v2), (3, .int v3), (4, .int v4)] [] M (fX11_lying_l48 N v0 v2 v3 M fu v4) := by
  induction fu with
  | zero => intro v4; exact z_none
  | succ fu ih => intro v4; exact z_fX11_lying_l48_s C ht hr N v0 v2 v3 M (fX11_lying_l48 N v0 v2 v3 M fu) v4 h0 (fun v4 => ih v4)
theorem z_fX11_lying_l48 {p : Program} {l : Launch} {e : Env} {s : State} {m : MethodId} {args : Array Value} {below : List Frame} {meth : Method} {c : Code} {D : va_G} {cy : Nat → ClassId} {B : Nat} {kd : Nat → Nat} {n : Nat} {sa sv : Nat → Nat} (C : zC p l s m args meth c D cy B kd n sa sv RX11 cX11_lying 5) (ht : ∀ x ∈ c.exceptionTable.toList, False) (hr : meth.sig.returnType = some (FieldType.boolean)) {b0 : Bool × Mem} (N : Nat) (v0 : Nat) (v2 : Int32) (v3 : Int32) (M : Mem) (fu : Nat) (v4 : Int32) (h0 : kd v0 = 11)  : Z p l e (rmz 7 0) s m args below meth c (vx_MQ below (QcR D cy B kd n (cvB b0)) (XcR D cy B kd n (cvB b0)) args s 0 (6 * 0) (AA B kd n)) D cy B kd n 5 b0 0 48 [(0, .ref (B + v0)), (2, .int v2), (3, .int v3), (4, .int v4)] [] M (fX11_lying_l48 N v0 v2 v3 M fu v4) := z_fX11_lying_l48_i C ht hr N v0 v2 v3 M h0 fu v4
set_option maxHeartbeats 4000000 in
set_option maxRecDepth 100000 in
theorem z_fX11_lying_b14 {p : Program} {l : Launch} {e : Env} {s : State} {m : MethodId} {args : Array Value} {below : List Frame} {meth : Method} {c : Code} {D : va_G} {cy : Nat → ClassId} {B : Nat} {kd : Nat → Nat} {n : Nat} {sa sv : Nat → Nat} (C : zC p l s m args meth c D cy B kd n sa sv RX11 cX11_lying 5) (ht : ∀ x ∈ c.exceptionTable.toList, False) (hr : meth.sig.returnType = some (FieldType.boolean)) {b0 : Bool × Mem}  (N : Nat) (v0 : Nat) (v1 : Int32) (s0 : Bool) (s1 : Nat) (M : Mem) (h0 : kd v0 = 11) (hs1 : kd s1 = 11)  : Z p l e (rmz 7 0) s m args below meth c (vx_MQ below (QcR D cy B kd n (cvB b0)) (XcR D cy B kd n (cvB b0)) args s 0 (6 * 0) (AA B kd n)) D cy B kd n 5 b0 0 14 [(0, .ref (B + v0)), (1, .int v1)] [.int (bI s0), .ref (B + s1)] M (fX11_lying_b14 N v0 v1 s0 s1 M) := by
  unfold fX11_lying_b14
  refine z_putI (k := 5) C cl11 hs1 rfl gw_7_15 rfl rfl rfl dX11_lying_14 ?_
  refine z_aload_n C 0 0 dX11_lying_17 rfl rfl ?_
  refine z_getI (k := 5) C cl11 h0 rfl gw_7_15 rfl dX11_lying_18 ?_
  refine z_if_le C 26 dX11_lying_21 rfl (fun _ => ?_) (fun _ => ?_)
  · refine z_aload_n C 0 0 dX11_lying_26 rfl rfl ?_
    refine z_iload_n C 1 1 dX11_lying_27 rfl rfl ?_
    refine z_callV_I (As := [.int v1]) (rest := []) C rfl (ctX11_lies (zG_of C) N v0 v1 h0 (wI M s1 5 (bI s0))) cw_RX11_339 rfl (okM_X11_lies) rfl cl11 h0 (okR_of rfl) (Nat.le_of_ble_eq_true rfl) dX11_lying_28 (fun qj1 _ => ?_)
    refine z_istore_n C 2 (ls1 := [(2, .int qj1.1), (0, .ref (B + v0)), (1, .int v1)]) dX11_lying_31 rfl (by decide) rfl ?_
    refine z_aload_n C 0 1 dX11_lying_32 rfl rfl ?_
    refine z_getR (k := 0) C cl11 h0 rfl gw_7_10 rfl dX11_lying_33 ?_
    have j2 : kd (v0 + 1) = 36 := zkd C h0 (k := 0) rfl
    refine z_iconst C dX11_lying_36 rfl ?_
    refine z_iald C j2 rfl (by decide) dX11_lying_37 (fun j3 => ?_)
    refine z_aload_n C 0 1 dX11_lying_38 rfl rfl ?_
    refine z_iload_n C 1 2 dX11_lying_39 rfl rfl ?_
    refine z_callV_pI (As := [.int v1]) (rest := [.int (rI qj1.2 (v0 + 1) (1 : Int32).toNatClampNeg)]) C rfl (ctX11_many (zG_of C) N v0 v1 h0 qj1.2) cw_RX11_261 rfl (okM_X11_many) rfl cl11 h0 (okR_of rfl) (Nat.le_of_ble_eq_true rfl) dX11_lying_40 (fun qj4 _ => ?_)
    refine z_isub C dX11_lying_43 ?_
    refine z_istore_n C 3 (ls1 := [(3, .int ((rI qj1.2 (v0 + 1) (1 : Int32).toNatClampNeg) - qj4)), (2, .int qj1.1), (0, .ref (B + v0)), (1, .int v1)]) dX11_lying_44 rfl (by decide) rfl ?_
    refine z_iload_n C 3 0 dX11_lying_45 rfl rfl ?_
    refine z_istore C 4 (ls1 := [(4, .int ((rI qj1.2 (v0 + 1) (1 : Int32).toNatClampNeg) - qj4)), (3, .int ((rI qj1.2 (v0 + 1) (1 : Int32).toNatClampNeg) - qj4)), (2, .int qj1.1), (0, .ref (B + v0)), (1, .int v1)]) dX11_lying_46 (by decide) rfl ?_
    exact z_jump (ls1 := [(0, .ref (B + v0)), (2, .int qj1.1), (3, .int ((rI qj1.2 (v0 + 1) (1 : Int32).toNatClampNeg) - qj4)), (4, .int ((rI qj1.2 (v0 + 1) (1 : Int32).toNatClampNeg) - qj4))]) (Nat.le_of_ble_eq_true rfl) [3, 2, 1, 0] rfl (z_fX11_lying_l48 C ht hr N v0 qj1.1 ((rI qj1.2 (v0 + 1) (1 : Int32).toNatClampNeg) - qj4) qj1.2 N ((rI qj1.2 (v0 + 1) (1 : Int32).toNatClampNeg) - qj4) h0)
  · refine z_iconst C dX11_lying_24 rfl ?_
    exact z_zret C (v := false) hr (Nat.le_of_ble_eq_true rfl) dX11_lying_25 rfl
set_option maxHeartbeats 4000000 in
set_option maxRecDepth 100000 in
theorem ctX11_lying {l : Launch} {D : va_G} {cy : Nat → ClassId} {B : Nat} {kd : Nat → Nat} {n : Nat} {sa sv : Nat → Nat} (G : zG l kd n) (N : Nat) (v0 : Nat) (v1 : Int32) (h0 : kd v0 = 11) (M : Mem) : CT l D cy B kd n sa sv 7 0 yX11_lying cX11_lying 5 (some (FieldType.boolean)) cvB [.ref (B + v0), .int v1] M (fX11_lying N v0 v1 M) := by
  refine ct_of (by decide) G.1 G.2 (Nat.le_of_ble_eq_true rfl) (ls := [(0, .ref (B + v0)), (1, .int v1)]) rfl ?_
  intro p e s m args below meth c b0 C ht hr
  unfold fX11_lying
  refine z_aload_n C 0 0 dX11_lying_0 rfl rfl ?_
  refine z_aload_n C 0 0 dX11_lying_1 rfl rfl ?_
  refine z_iload_n C 1 1 dX11_lying_2 rfl rfl ?_
  refine z_callV_pB (As := [.int v1]) (rest := [.ref (B + v0)]) C rfl (ctX11_isRow (zG_of C) v0 v1 h0 M) cw_RX11_256 rfl (okM_X11_isRow) rfl cl11 h0 (okR_of rfl) (Nat.le_of_ble_eq_true rfl) dX11_lying_3 (fun qj1 _ => ?_)
  refine z_if_eqB C 13 dX11_lying_6 rfl (fun _ => ?_) (fun _ => ?_)
  · refine z_iconst C dX11_lying_9 rfl ?_
    refine z_goto C 14 dX11_lying_10 rfl ?_
    exact z_jump (ls1 := [(0, .ref (B + v0)), (1, .int v1)]) (Nat.le_of_ble_eq_true rfl) [0, 1] rfl (z_fX11_lying_b14 C ht hr N v0 v1 false v0 M h0 h0)
  · refine z_iconst C dX11_lying_13 rfl ?_
    exact z_jump (ls1 := [(0, .ref (B + v0)), (1, .int v1)]) (Nat.le_of_ble_eq_true rfl) [0, 1] rfl (z_fX11_lying_b14 C ht hr N v0 v1 true v0 M h0 h0)
set_option maxHeartbeats 4000000 in
set_option maxRecDepth 100000 in
theorem ctX11_upper {l : Launch} {D : va_G} {cy : Nat → ClassId} {B : Nat} {kd : Nat → Nat} {n : Nat} {sa sv : Nat → Nat} (G : zG l kd n) (v0 : Nat) (h0 : kd v0 = 11) (M : Mem) : CT l D cy B kd n sa sv 0 0 yX11_upper cX11_upper 1 (some (FieldType.int)) cvI [.ref (B + v0)] M (fX11_upper v0 M) := by
  refine ct_of (by decide) G.1 G.2 (Nat.le_of_ble_eq_true rfl) (ls := [(0, .ref (B + v0))]) rfl ?_
  intro p e s m args below meth c b0 C ht hr
  unfold fX11_upper
  refine z_aload_n C 0 0 dX11_upper_0 rfl rfl ?_
  refine z_iconst C dX11_upper_1 rfl ?_
  refine z_putI (k := 5) C cl11 h0 rfl gw_7_15 rfl rfl rfl dX11_upper_2 ?_
  refine z_aload_n C 0 0 dX11_upper_5 rfl rfl ?_
  refine z_getI (k := 26) C cl11 h0 rfl gw_7_36 rfl dX11_upper_6 ?_
  exact z_iret C hr (Nat.le_of_ble_eq_true rfl) dX11_upper_9 rfl
set_option maxHeartbeats 4000000 in
set_option maxRecDepth 100000 in
theorem ctX11_lower {l : Launch} {D : va_G} {cy : Nat → ClassId} {B : Nat} {kd : Nat → Nat} {n : Nat} {sa sv : Nat → Nat} (G : zG l kd n) (v0 : Nat) (h0 : kd v0 = 11) (M : Mem) : CT l D cy B kd n sa sv 0 0 yX11_lower cX11_lower 1 (some (FieldType.int)) cvI [.ref (B + v0)] M (fX11_lower v0 M) := by
  refine ct_of (by decide) G.1 G.2 (Nat.le_of_ble_eq_true rfl) (ls := [(0, .ref (B + v0))]) rfl ?_
  intro p e s m args below meth c b0 C ht hr
  unfold fX11_lower
  refine z_aload_n C 0 0 dX11_lower_0 rfl rfl ?_
  refine z_iconst C dX11_lower_1 rfl ?_
  refine z_putI (k := 5) C cl11 h0 rfl gw_7_15 rfl rfl rfl dX11_lower_2 ?_
  refine z_aload_n C 0 0 dX11_lower_5 rfl rfl ?_
  refine z_getI (k := 27) C cl11 h0 rfl gw_7_37 rfl dX11_lower_6 ?_
  exact z_iret C hr (Nat.le_of_ble_eq_true rfl) dX11_lower_9 rfl
set_option maxHeartbeats 4000000 in
set_option maxRecDepth 100000 in
theorem z_fX11_lie_b58 {p : Program} {l : Launch} {e : Env} {s : State} {m : MethodId} {args : Array Value} {below : List Frame} {meth : Method} {c : Code} {D : va_G} {cy : Nat → ClassId} {B : Nat} {kd : Nat → Nat} {n : Nat} {sa sv : Nat → Nat} (C : zC p l s m args meth c D cy B kd n sa sv RX11 cX11_lie 5) (ht : ∀ x ∈ c.exceptionTable.toList, False) (hr : meth.sig.returnType = some (FieldType.int)) {b0 : Int32 × Mem}  (N : Nat) (k24 : Int32 → Int32 → Mem → Option (Int32 × Mem)) (v0 : Nat) (v1 : Int32) (v3 : Int32) (v4 : Int32) (M : Mem) (h0 : kd v0 = 11) (hk24 : ∀ (v3 : Int32) (v4 : Int32) (M : Mem), Z p l e (rmz 6 0) s m args below meth c (vx_MQ below (QcR D cy B kd n (cvI b0)) (XcR D cy B kd n (cvI b0)) args s 0 (6 * 0) (AA B kd n)) D cy B kd n 5 b0 0 24 [(0, .ref (B + v0)), (1, .int v1), (3, .int v3), (4, .int v4)] [] M (k24 v3 v4 M)) : Z p l e (rmz 6 0) s m args below meth c (vx_MQ below (QcR D cy B kd n (cvI b0)) (XcR D cy B kd n (cvI b0)) args s 0 (6 * 0) (AA B kd n)) D cy B kd n 5 b0 0 58 [(0, .ref (B + v0)), (1, .int v1), (3, .int v3), (4, .int v4)] [] M (fX11_lie_b58 N k24 v0 v1 v3 v4 M) := by
  unfold fX11_lie_b58
  refine z_iinc C 4 3 (v := v4) (v1 := (v4 + (1 : Int32))) (ls1 := [(4, .int (v4 + (1 : Int32))), (0, .ref (B + v0)), (1, .int v1), (3, .int v3)]) dX11_lie_58 rfl rfl (by decide) rfl ?_
  refine z_goto C 24 dX11_lie_61 rfl ?_
  exact z_jump (ls1 := [(0, .ref (B + v0)), (1, .int v1), (3, .int v3), (4, .int (v4 + (1 : Int32)))]) (Nat.le_of_ble_eq_true rfl) [1, 2, 3, 0] rfl (hk24 v3 (v4 + (1 : Int32)) M)
set_option maxHeartbeats 4000000 in
set_option maxRecDepth 100000 in
theorem z_fX11_lie_l24_s {p : Program} {l : Launch} {e : Env} {s : State} {m : MethodId} {args : Array Value} {below : List Frame} {meth : Method} {c : Code} {D : va_G} {cy : Nat → ClassId} {B : Nat} {kd : Nat → Nat} {n : Nat} {sa sv : Nat → Nat} (C : zC p l s m args meth c D cy B kd n sa sv RX11 cX11_lie 5) (ht : ∀ x ∈ c.exceptionTable.toList, False) (hr : meth.sig.returnType = some (FieldType.int)) {b0 : Int32 × Mem} (N : Nat) (v0 : Nat) (v1 : Int32) (k24 : Int32 → Int32 → Mem → Option (Int32 × Mem)) (v3 : Int32) (v4 : Int32) (M : Mem) (h0 : kd v0 = 11)  (hk24 : ∀ (v3 : Int32) (v4 : Int32) (M : Mem), Z p l e (rmz 6 0) s m args below meth c (vx_MQ below (QcR D cy B kd n (cvI b0)) (XcR D cy B kd n (cvI b0)) args s 0 (6 * 0) (AA B kd n)) D cy B kd n 5 b0 0 24 [(0, .ref (B + v0)), (1, .int v1), (3, .int v3), (4, .int v4)] [] M (k24 v3 v4 M)) : Z p l e (rmz 6 0) s m args below meth c (vx_MQ below (QcR D cy B kd n (cvI b0)) (XcR D cy B kd n (cvI b0)) args s 0 (6 * 0) (AA B kd n)) D cy B kd n 5 b0 0 24 [(0, .ref (B + v0)), (1, .int v1), (3, .int v3), (4, .int v4)] [] M (fX11_lie_l24_s N v0 v1 k24 v3 v4 M) := by
  unfold fX11_lie_l24_s
  refine z_iload C 3 dX11_lie_24 rfl ?_
  refine z_aload_n C 0 0 dX11_lie_26 rfl rfl ?_
  refine z_getR (k := 0) C cl11 h0 rfl gw_7_10 rfl dX11_lie_27 ?_
  have j1 : kd (v0 + 1) = 36 := zkd C h0 (k := 0) rfl
  refine z_iconst C dX11_lie_30 rfl ?_
  refine z_iald C j1 rfl (by decide) dX11_lie_31 (fun j2 => ?_)
  refine z_icmp_ge C 64 dX11_lie_32 rfl (fun _ => ?_) (fun _ => ?_)
  · refine z_iconst C dX11_lie_64 rfl ?_
    exact z_iret C hr (Nat.le_of_ble_eq_true rfl) dX11_lie_65 rfl
  · refine z_aload_n C 0 0 dX11_lie_35 rfl rfl ?_
    refine z_iload_n C 1 1 dX11_lie_36 rfl rfl ?_
    refine z_iload C 3 dX11_lie_37 rfl ?_
    refine z_callV_B (As := [.int v1, .int v4]) (rest := []) C rfl (ctX11_isLie (zG_of C) N v0 v1 v4 h0 M) cw_RX11_336 rfl (okM_X11_isLie) rfl cl11 h0 (okR_of rfl) (Nat.le_of_ble_eq_true rfl) dX11_lie_39 (fun qj3 _ => ?_)
    refine z_if_neB C 48 dX11_lie_42 rfl (fun _ => ?_) (fun _ => ?_)
    · refine z_iload_n C 3 2 dX11_lie_48 rfl rfl ?_
      refine z_if_ne C 55 dX11_lie_49 rfl (fun _ => ?_) (fun _ => ?_)
      · refine z_iload C 3 dX11_lie_52 rfl ?_
        exact z_iret C hr (Nat.le_of_ble_eq_true rfl) dX11_lie_54 rfl
      · refine z_iinc C 3 2 (v := v3) (v1 := (v3 + (-1 : Int32))) (ls1 := [(3, .int (v3 + (-1 : Int32))), (0, .ref (B + v0)), (1, .int v1), (4, .int v4)]) dX11_lie_55 rfl rfl (by decide) rfl ?_
        exact z_jump (ls1 := [(0, .ref (B + v0)), (1, .int v1), (3, .int (v3 + (-1 : Int32))), (4, .int v4)]) (Nat.le_of_ble_eq_true rfl) [1, 2, 0, 3] rfl (z_fX11_lie_b58 C ht hr N k24 v0 v1 (v3 + (-1 : Int32)) v4 qj3.2 h0 hk24)
    · refine z_goto C 58 dX11_lie_45 rfl ?_
      exact z_jump (ls1 := [(0, .ref (B + v0)), (1, .int v1), (3, .int v3), (4, .int v4)]) (Nat.le_of_ble_eq_true rfl) [0, 1, 2, 3] rfl (z_fX11_lie_b58 C ht hr N k24 v0 v1 v3 v4 qj3.2 h0 hk24)
theorem z_fX11_lie_l24_i {p : Program} {l : Launch} {e : Env} {s : State} {m : MethodId} {args : Array Value} {below : List Frame} {meth : Method} {c : Code} {D : va_G} {cy : Nat → ClassId} {B : Nat} {kd : Nat → Nat} {n : Nat} {sa sv : Nat → Nat} (C : zC p l s m args meth c D cy B kd n sa sv RX11 cX11_lie 5) (ht : ∀ x ∈ c.exceptionTable.toList, False) (hr : meth.sig.returnType = some (FieldType.int)) {b0 : Int32 × Mem} (N : Nat) (v0 : Nat) (v1 : Int32) (h0 : kd v0 = 11)  (fu : Nat) : ∀ (v3 : Int32) (v4 : Int32) (M : Mem), Z p l e (rmz 6 0) s m args below meth c (vx_MQ below (QcR D cy B kd n (cvI b0)) (XcR D cy B kd n (cvI b0)) args s 0 (6 * 0) (AA B kd n)) D cy B kd n 5 b0 0 24 [(0, .ref (B + v0)), (1, .int v1), (3, .int v3), (4, .int v4)] [] M (fX11_lie_l24 N v0 v1 fu v3 v4 M) := by
  induction fu with
  | zero => intro v3 v4 M; exact z_none
  | succ fu ih => intro v3 v4 M; exact z_fX11_lie_l24_s C ht hr N v0 v1 (fX11_lie_l24 N v0 v1 fu) v3 v4 M h0 (fun v3 v4 M => ih v3 v4 M)
theorem z_fX11_lie_l24 {p : Program} {l : Launch} {e : Env} {s : State} {m : MethodId} {args : Array Value} {below : List Frame} {meth : Method} {c : Code} {D : va_G} {cy : Nat → ClassId} {B : Nat} {kd : Nat → Nat} {n : Nat} {sa sv : Nat → Nat} (C : zC p l s m args meth c D cy B kd n sa sv RX11 cX11_lie 5) (ht : ∀ x ∈ c.exceptionTable.toList, False) (hr : meth.sig.returnType = some (FieldType.int)) {b0 : Int32 × Mem} (N : Nat) (v0 : Nat) (v1 : Int32) (fu : Nat) (v3 : Int32) (v4 : Int32) (M : Mem) (h0 : kd v0 = 11)  : Z p l e (rmz 6 0) s m args below meth c (vx_MQ below (QcR D cy B kd n (cvI b0)) (XcR D cy B kd n (cvI b0)) args s 0 (6 * 0) (AA B kd n)) D cy B kd n 5 b0 0 24 [(0, .ref (B + v0)), (1, .int v1), (3, .int v3), (4, .int v4)] [] M (fX11_lie_l24 N v0 v1 fu v3 v4 M) := z_fX11_lie_l24_i C ht hr N v0 v1 h0 fu v3 v4 M
set_option maxHeartbeats 4000000 in
set_option maxRecDepth 100000 in
theorem ctX11_lie {l : Launch} {D : va_G} {cy : Nat → ClassId} {B : Nat} {kd : Nat → Nat} {n : Nat} {sa sv : Nat → Nat} (G : zG l kd n) (N : Nat) (v0 : Nat) (v1 : Int32) (v2 : Int32) (h0 : kd v0 = 11) (M : Mem) : CT l D cy B kd n sa sv 6 0 yX11_lie cX11_lie 5 (some (FieldType.int)) cvI [.ref (B + v0), .int v1, .int v2] M (fX11_lie N v0 v1 v2 M) := by
  refine ct_of (by decide) G.1 G.2 (Nat.le_of_ble_eq_true rfl) (ls := [(0, .ref (B + v0)), (1, .int v1), (2, .int v2)]) rfl ?_
  intro p e s m args below meth c b0 C ht hr
  unfold fX11_lie
  refine z_aload_n C 0 0 dX11_lie_0 rfl rfl ?_
  refine z_iconst C dX11_lie_1 rfl ?_
  refine z_putI (k := 5) C cl11 h0 rfl gw_7_15 rfl rfl rfl dX11_lie_2 ?_
  refine z_aload_n C 0 0 dX11_lie_5 rfl rfl ?_
  refine z_iload_n C 1 1 dX11_lie_6 rfl rfl ?_
  refine z_callV_pB (As := [.int v1]) (rest := []) C rfl (ctX11_isRow (zG_of C) v0 v1 h0 (wI M v0 5 (0 : Int32))) cw_RX11_256 rfl (okM_X11_isRow) rfl cl11 h0 (okR_of rfl) (Nat.le_of_ble_eq_true rfl) dX11_lie_7 (fun qj1 _ => ?_)
  refine z_if_neB C 19 dX11_lie_10 rfl (fun _ => ?_) (fun _ => ?_)
  · refine z_iload_n C 2 2 dX11_lie_19 rfl rfl ?_
    refine z_istore_n C 3 (ls1 := [(3, .int v2), (0, .ref (B + v0)), (1, .int v1), (2, .int v2)]) dX11_lie_20 rfl (by decide) rfl ?_
    refine z_iconst C dX11_lie_21 rfl ?_
    refine z_istore C 4 (ls1 := [(4, .int (0 : Int32)), (3, .int v2), (0, .ref (B + v0)), (1, .int v1), (2, .int v2)]) dX11_lie_22 (by decide) rfl ?_
    exact z_jump (ls1 := [(0, .ref (B + v0)), (1, .int v1), (3, .int v2), (4, .int (0 : Int32))]) (Nat.le_of_ble_eq_true rfl) [2, 3, 1, 0] rfl (z_fX11_lie_l24 C ht hr N v0 v1 N v2 (0 : Int32) (wI M v0 5 (0 : Int32)) h0)
  · refine z_aload_n C 0 0 dX11_lie_13 rfl rfl ?_
    refine z_iconst C dX11_lie_14 rfl ?_
    refine z_callV_I (As := [.int (1 : Int32)]) (rest := []) C rfl (ctX11_fails (zG_of C) v0 (1 : Int32) h0 (wI M v0 5 (0 : Int32))) cw_RX11_201 rfl (okM_X11_fails) rfl cl11 h0 (okR_of rfl) (Nat.le_of_ble_eq_true rfl) dX11_lie_15 (fun qj2 _ => ?_)
    exact z_iret C hr (Nat.le_of_ble_eq_true rfl) dX11_lie_18 rfl
set_option maxHeartbeats 4000000 in
set_option maxRecDepth 100000 in
theorem z_fX11_wronged_b112 {p : Program} {l : Launch} {e : Env} {s : State} {m : MethodId} {args : Array Value} {below : List Frame} {meth : Method} {c : Code} {D : va_G} {cy : Nat → ClassId} {B : Nat} {kd : Nat → Nat} {n : Nat} {sa sv : Nat → Nat} (C : zC p l s m args meth c D cy B kd n sa sv RX11 cX11_wronged 6) (ht : ∀ x ∈ c.exceptionTable.toList, False) (hr : meth.sig.returnType = some (FieldType.int)) {b0 : Int32 × Mem}  (N : Nat) (k47 : Int32 → Int32 → Mem → Option (Int32 × Mem)) (v0 : Nat) (v1 : Int32) (v2 : Int32) (v3 : Int32) (v4 : Int32) (v5 : Int32) (M : Mem) (h0 : kd v0 = 11) (hk47 : ∀ (v4 : Int32) (v5 : Int32) (M : Mem), Z p l e (rmz 6 0) s m args below meth c (vx_MQ below (QcR D cy B kd n (cvI b0)) (XcR D cy B kd n (cvI b0)) args s 0 (6 * 0) (AA B kd n)) D cy B kd n 6 b0 0 47 [(0, .ref (B + v0)), (1, .int v1), (2, .int v2), (3, .int v3), (4, .int v4), (5, .int v5)] [] M (k47 v4 v5 M)) : Z p l e (rmz 6 0) s m args below meth c (vx_MQ below (QcR D cy B kd n (cvI b0)) (XcR D cy B kd n (cvI b0)) args s 0 (6 * 0) (AA B kd n)) D cy B kd n 6 b0 0 112 [(0, .ref (B + v0)), (1, .int v1), (2, .int v2), (3, .int v3), (4, .int v4), (5, .int v5)] [] M (fX11_wronged_b112 N k47 v0 v1 v2 v3 v4 v5 M) := by
  unfold fX11_wronged_b112
  refine z_iinc C 5 5 (v := v5) (v1 := (v5 + (1 : Int32))) (ls1 := [(5, .int (v5 + (1 : Int32))), (0, .ref (B + v0)), (1, .int v1), (2, .int v2), (3, .int v3), (4, .int v4)]) dX11_wronged_112 rfl rfl (by decide) rfl ?_
  refine z_goto C 47 dX11_wronged_115 rfl ?_
  exact z_jump (ls1 := [(0, .ref (B + v0)), (1, .int v1), (2, .int v2), (3, .int v3), (4, .int v4), (5, .int (v5 + (1 : Int32)))]) (Nat.le_of_ble_eq_true rfl) [1, 2, 3, 4, 5, 0] rfl (hk47 v4 (v5 + (1 : Int32)) M)
set_option maxHeartbeats 4000000 in
set_option maxRecDepth 100000 in
theorem z_fX11_wronged_l47_s {p : Program} {l : Launch} {e : Env} {s : State} {m : MethodId} {args : Array Value} {below : List Frame} {meth : Method} {c : Code} {D : va_G} {cy : Nat → ClassId} {B : Nat} {kd : Nat → Nat} {n : Nat} {sa sv : Nat → Nat} (C : zC p l s m args meth c D cy B kd n sa sv RX11 cX11_wronged 6) (ht : ∀ x ∈ c.exceptionTable.toList, False) (hr : meth.sig.returnType = some (FieldType.int)) {b0 : Int32 × Mem} (N : Nat) (v0 : Nat) (v1 : Int32) (v2 : Int32) (v3 : Int32) (k47 : Int32 → Int32 → Mem → Option (Int32 × Mem)) (v4 : Int32) (v5 : Int32) (M : Mem) (h0 : kd v0 = 11)  (hk47 : ∀ (v4 : Int32) (v5 : Int32) (M : Mem), Z p l e (rmz 6 0) s m args below meth c (vx_MQ below (QcR D cy B kd n (cvI b0)) (XcR D cy B kd n (cvI b0)) args s 0 (6 * 0) (AA B kd n)) D cy B kd n 6 b0 0 47 [(0, .ref (B + v0)), (1, .int v1), (2, .int v2), (3, .int v3), (4, .int v4), (5, .int v5)] [] M (k47 v4 v5 M)) : Z p l e (rmz 6 0) s m args below meth c (vx_MQ below (QcR D cy B kd n (cvI b0)) (XcR D cy B kd n (cvI b0)) args s 0 (6 * 0) (AA B kd n)) D cy B kd n 6 b0 0 47 [(0, .ref (B + v0)), (1, .int v1), (2, .int v2), (3, .int v3), (4, .int v4), (5, .int v5)] [] M (fX11_wronged_l47_s N v0 v1 v2 v3 k47 v4 v5 M) := by
  unfold fX11_wronged_l47_s
  refine z_iload C 5 dX11_wronged_47 rfl ?_
  refine z_aload_n C 0 0 dX11_wronged_49 rfl rfl ?_
  refine z_getR (k := 36) C cl11 h0 rfl gw_7_46 rfl dX11_wronged_50 ?_
  have j1 : kd (v0 + 23) = 45 := zkd C h0 (k := 36) rfl
  refine z_iload_n C 2 2 dX11_wronged_53 rfl rfl ?_
  refine z_iald C j1 rfl (by decide) dX11_wronged_54 (fun j2 => ?_)
  refine z_icmp_ge C 118 dX11_wronged_55 rfl (fun _ => ?_) (fun _ => ?_)
  · refine z_iload_n C 3 3 dX11_wronged_118 rfl rfl ?_
    refine z_iconst C dX11_wronged_119 rfl ?_
    refine z_icmp_ne C 128 dX11_wronged_120 rfl (fun _ => ?_) (fun _ => ?_)
    · refine z_iload C 4 dX11_wronged_123 rfl ?_
      refine z_goto C 129 dX11_wronged_125 rfl ?_
      exact z_iret C hr (Nat.le_of_ble_eq_true rfl) dX11_wronged_129 rfl
    · refine z_iconst C dX11_wronged_128 rfl ?_
      exact z_iret C hr (Nat.le_of_ble_eq_true rfl) dX11_wronged_129 rfl
  · refine z_aload_n C 0 0 dX11_wronged_58 rfl rfl ?_
    refine z_aload_n C 0 0 dX11_wronged_59 rfl rfl ?_
    refine z_getR (k := 37) C cl11 h0 rfl gw_7_47 rfl dX11_wronged_60 ?_
    have j3 : kd (v0 + 24) = 46 := zkd C h0 (k := 37) rfl
    refine z_bipush (v := 40) C dX11_wronged_63 rfl ?_
    refine z_iload_n C 2 2 dX11_wronged_65 rfl rfl ?_
    refine z_imul C dX11_wronged_66 ?_
    refine z_iload C 5 dX11_wronged_67 rfl ?_
    refine z_iadd C dX11_wronged_69 ?_
    refine z_lald C j3 rfl (by decide) dX11_wronged_70 (fun j4 => ?_)
    refine z_callV_pB (As := [.long (rJ M (v0 + 24) (((40 : Int32) * v2) + v5).toNatClampNeg)]) (rest := []) C rfl (ctX11_isName (zG_of C) v0 (rJ M (v0 + 24) (((40 : Int32) * v2) + v5).toNatClampNeg) h0 M) cw_RX11_228 rfl (okM_X11_isName) rfl cl11 h0 (okR_of rfl) (Nat.le_of_ble_eq_true rfl) dX11_wronged_71 (fun qj5 _ => ?_)
    refine z_if_eqB C 112 dX11_wronged_74 rfl (fun _ => ?_) (fun _ => ?_)
    · refine z_aload_n C 0 0 dX11_wronged_77 rfl rfl ?_
      refine z_iload_n C 1 1 dX11_wronged_78 rfl rfl ?_
      refine z_aload_n C 0 0 dX11_wronged_79 rfl rfl ?_
      refine z_iload_n C 2 2 dX11_wronged_80 rfl rfl ?_
      refine z_iload C 5 dX11_wronged_81 rfl ?_
      refine z_callV_pI (As := [.int v2, .int v5]) (rest := [.int v1, .ref (B + v0)]) C rfl (ctX11_inTray (zG_of C) v0 v2 v5 h0 M) cw_RX11_330 rfl (okM_X11_inTray) rfl cl11 h0 (okR_of rfl) (Nat.le_of_ble_eq_true rfl) dX11_wronged_83 (fun qj6 _ => ?_)
      refine z_callV_B (As := [.int v1, .int qj6]) (rest := []) C rfl (ctX11_isLie (zG_of C) N v0 v1 qj6 h0 M) cw_RX11_336 rfl (okM_X11_isLie) rfl cl11 h0 (okR_of rfl) (Nat.le_of_ble_eq_true rfl) dX11_wronged_86 (fun qj7 _ => ?_)
      refine z_if_neB C 95 dX11_wronged_89 rfl (fun _ => ?_) (fun _ => ?_)
      · refine z_iload C 4 dX11_wronged_95 rfl ?_
        refine z_iload_n C 3 3 dX11_wronged_97 rfl rfl ?_
        refine z_icmp_ne C 109 dX11_wronged_98 rfl (fun _ => ?_) (fun _ => ?_)
        · refine z_aload_n C 0 0 dX11_wronged_101 rfl rfl ?_
          refine z_iload_n C 2 2 dX11_wronged_102 rfl rfl ?_
          refine z_iload C 5 dX11_wronged_103 rfl ?_
          refine z_callV_pI (As := [.int v2, .int v5]) (rest := []) C rfl (ctX11_inTray (zG_of C) v0 v2 v5 h0 qj7.2) cw_RX11_330 rfl (okM_X11_inTray) rfl cl11 h0 (okR_of rfl) (Nat.le_of_ble_eq_true rfl) dX11_wronged_105 (fun qj8 _ => ?_)
          exact z_iret C hr (Nat.le_of_ble_eq_true rfl) dX11_wronged_108 rfl
        · refine z_iinc C 4 4 (v := v4) (v1 := (v4 + (1 : Int32))) (ls1 := [(4, .int (v4 + (1 : Int32))), (0, .ref (B + v0)), (1, .int v1), (2, .int v2), (3, .int v3), (5, .int v5)]) dX11_wronged_109 rfl rfl (by decide) rfl ?_
          exact z_jump (ls1 := [(0, .ref (B + v0)), (1, .int v1), (2, .int v2), (3, .int v3), (4, .int (v4 + (1 : Int32))), (5, .int v5)]) (Nat.le_of_ble_eq_true rfl) [1, 2, 3, 4, 0, 5] rfl (z_fX11_wronged_b112 C ht hr N k47 v0 v1 v2 v3 (v4 + (1 : Int32)) v5 qj7.2 h0 hk47)
      · refine z_goto C 112 dX11_wronged_92 rfl ?_
        exact z_jump (ls1 := [(0, .ref (B + v0)), (1, .int v1), (2, .int v2), (3, .int v3), (4, .int v4), (5, .int v5)]) (Nat.le_of_ble_eq_true rfl) [0, 1, 2, 3, 4, 5] rfl (z_fX11_wronged_b112 C ht hr N k47 v0 v1 v2 v3 v4 v5 qj7.2 h0 hk47)
    · exact z_jump (ls1 := [(0, .ref (B + v0)), (1, .int v1), (2, .int v2), (3, .int v3), (4, .int v4), (5, .int v5)]) (Nat.le_of_ble_eq_true rfl) [0, 1, 2, 3, 4, 5] rfl (z_fX11_wronged_b112 C ht hr N k47 v0 v1 v2 v3 v4 v5 M h0 hk47)
theorem z_fX11_wronged_l47_i {p : Program} {l : Launch} {e : Env} {s : State} {m : MethodId} {args : Array Value} {below : List Frame} {meth : Method} {c : Code} {D : va_G} {cy : Nat → ClassId} {B : Nat} {kd : Nat → Nat} {n : Nat} {sa sv : Nat → Nat} (C : zC p l s m args meth c D cy B kd n sa sv RX11 cX11_wronged 6) (ht : ∀ x ∈ c.exceptionTable.toList, False) (hr : meth.sig.returnType = some (FieldType.int)) {b0 : Int32 × Mem} (N : Nat) (v0 : Nat) (v1 : Int32) (v2 : Int32) (v3 : Int32) (h0 : kd v0 = 11)  (fu : Nat) : ∀ (v4 : Int32) (v5 : Int32) (M : Mem), Z p l e (rmz 6 0) s m args below meth c (vx_MQ below (QcR D cy B kd n (cvI b0)) (XcR D cy B kd n (cvI b0)) args s 0 (6 * 0) (AA B kd n)) D cy B kd n 6 b0 0 47 [(0, .ref (B + v0)), (1, .int v1), (2, .int v2), (3, .int v3), (4, .int v4), (5, .int v5)] [] M (fX11_wronged_l47 N v0 v1 v2 v3 fu v4 v5 M) := by
  induction fu with
  | zero => intro v4 v5 M; exact z_none
  | succ fu ih => intro v4 v5 M; exact z_fX11_wronged_l47_s C ht hr N v0 v1 v2 v3 (fX11_wronged_l47 N v0 v1 v2 v3 fu) v4 v5 M h0 (fun v4 v5 M => ih v4 v5 M)
theorem z_fX11_wronged_l47 {p : Program} {l : Launch} {e : Env} {s : State} {m : MethodId} {args : Array Value} {below : List Frame} {meth : Method} {c : Code} {D : va_G} {cy : Nat → ClassId} {B : Nat} {kd : Nat → Nat} {n : Nat} {sa sv : Nat → Nat} (C : zC p l s m args meth c D cy B kd n sa sv RX11 cX11_wronged 6) (ht : ∀ x ∈ c.exceptionTable.toList, False) (hr : meth.sig.returnType = some (FieldType.int)) {b0 : Int32 × Mem} (N : Nat) (v0 : Nat) (v1 : Int32) (v2 : Int32) (v3 : Int32) (fu : Nat) (v4 : Int32) (v5 : Int32) (M : Mem) (h0 : kd v0 = 11)  : Z p l e (rmz 6 0) s m args below meth c (vx_MQ below (QcR D cy B kd n (cvI b0)) (XcR D cy B kd n (cvI b0)) args s 0 (6 * 0) (AA B kd n)) D cy B kd n 6 b0 0 47 [(0, .ref (B + v0)), (1, .int v1), (2, .int v2), (3, .int v3), (4, .int v4), (5, .int v5)] [] M (fX11_wronged_l47 N v0 v1 v2 v3 fu v4 v5 M) := z_fX11_wronged_l47_i C ht hr N v0 v1 v2 v3 h0 fu v4 v5 M
set_option maxHeartbeats 4000000 in
set_option maxRecDepth 100000 in
theorem z_fX11_wronged_b32 {p : Program} {l : Launch} {e : Env} {s : State} {m : MethodId} {args : Array Value} {below : List Frame} {meth : Method} {c : Code} {D : va_G} {cy : Nat → ClassId} {B : Nat} {kd : Nat → Nat} {n : Nat} {sa sv : Nat → Nat} (C : zC p l s m args meth c D cy B kd n sa sv RX11 cX11_wronged 6) (ht : ∀ x ∈ c.exceptionTable.toList, False) (hr : meth.sig.returnType = some (FieldType.int)) {b0 : Int32 × Mem}  (N : Nat) (v0 : Nat) (v1 : Int32) (v2 : Int32) (v3 : Int32) (M : Mem) (h0 : kd v0 = 11)  : Z p l e (rmz 6 0) s m args below meth c (vx_MQ below (QcR D cy B kd n (cvI b0)) (XcR D cy B kd n (cvI b0)) args s 0 (6 * 0) (AA B kd n)) D cy B kd n 6 b0 0 32 [(0, .ref (B + v0)), (1, .int v1), (2, .int v2), (3, .int v3)] [] M (fX11_wronged_b32 N v0 v1 v2 v3 M) := by
  unfold fX11_wronged_b32
  refine z_aload_n C 0 0 dX11_wronged_32 rfl rfl ?_
  refine z_getI (k := 5) C cl11 h0 rfl gw_7_15 rfl dX11_wronged_33 ?_
  refine z_if_le C 41 dX11_wronged_36 rfl (fun _ => ?_) (fun _ => ?_)
  · refine z_iconst C dX11_wronged_41 rfl ?_
    refine z_istore C 4 (ls1 := [(4, .int (0 : Int32)), (0, .ref (B + v0)), (1, .int v1), (2, .int v2), (3, .int v3)]) dX11_wronged_42 (by decide) rfl ?_
    refine z_iconst C dX11_wronged_44 rfl ?_
    refine z_istore C 5 (ls1 := [(5, .int (0 : Int32)), (4, .int (0 : Int32)), (0, .ref (B + v0)), (1, .int v1), (2, .int v2), (3, .int v3)]) dX11_wronged_45 (by decide) rfl ?_
    exact z_jump (ls1 := [(0, .ref (B + v0)), (1, .int v1), (2, .int v2), (3, .int v3), (4, .int (0 : Int32)), (5, .int (0 : Int32))]) (Nat.le_of_ble_eq_true rfl) [2, 3, 4, 5, 1, 0] rfl (z_fX11_wronged_l47 C ht hr N v0 v1 v2 v3 N (0 : Int32) (0 : Int32) M h0)
  · refine z_iconst C dX11_wronged_39 rfl ?_
    exact z_iret C hr (Nat.le_of_ble_eq_true rfl) dX11_wronged_40 rfl
set_option maxHeartbeats 4000000 in
set_option maxRecDepth 100000 in
theorem ctX11_wronged {l : Launch} {D : va_G} {cy : Nat → ClassId} {B : Nat} {kd : Nat → Nat} {n : Nat} {sa sv : Nat → Nat} (G : zG l kd n) (N : Nat) (v0 : Nat) (v1 : Int32) (v2 : Int32) (v3 : Int32) (h0 : kd v0 = 11) (M : Mem) : CT l D cy B kd n sa sv 6 0 yX11_wronged cX11_wronged 6 (some (FieldType.int)) cvI [.ref (B + v0), .int v1, .int v2, .int v3] M (fX11_wronged N v0 v1 v2 v3 M) := by
  refine ct_of (by decide) G.1 G.2 (Nat.le_of_ble_eq_true rfl) (ls := [(0, .ref (B + v0)), (1, .int v1), (2, .int v2), (3, .int v3)]) rfl ?_
  intro p e s m args below meth c b0 C ht hr
  unfold fX11_wronged
  refine z_aload_n C 0 0 dX11_wronged_0 rfl rfl ?_
  refine z_aload_n C 0 0 dX11_wronged_1 rfl rfl ?_
  refine z_iload_n C 1 1 dX11_wronged_2 rfl rfl ?_
  refine z_iload_n C 2 2 dX11_wronged_3 rfl rfl ?_
  refine z_callV_pI (As := [.int v1, .int v2]) (rest := [.ref (B + v0)]) C rfl (ctX11_rowTrayFault (zG_of C) v0 v1 v2 h0 M) cw_RX11_323 rfl (okM_X11_rowTrayFault) rfl cl11 h0 (okR_of rfl) (Nat.le_of_ble_eq_true rfl) dX11_wronged_4 (fun qj1 _ => ?_)
  refine z_putI (k := 5) C cl11 h0 rfl gw_7_15 rfl rfl rfl dX11_wronged_7 ?_
  refine z_aload_n C 0 0 dX11_wronged_10 rfl rfl ?_
  refine z_getI (k := 5) C cl11 h0 rfl gw_7_15 rfl dX11_wronged_11 ?_
  refine z_if_ne C 32 dX11_wronged_14 rfl (fun _ => ?_) (fun _ => ?_)
  · refine z_aload_n C 0 0 dX11_wronged_17 rfl rfl ?_
    refine z_getR (k := 35) C cl11 h0 rfl gw_7_45 rfl dX11_wronged_18 ?_
    have j2 : kd (v0 + 22) = 45 := zkd C h0 (k := 35) rfl
    refine z_iload_n C 2 2 dX11_wronged_21 rfl rfl ?_
    refine z_iald C j2 rfl (by decide) dX11_wronged_22 (fun j3 => ?_)
    refine z_iconst C dX11_wronged_23 rfl ?_
    refine z_icmp_ne C 32 dX11_wronged_24 rfl (fun _ => ?_) (fun _ => ?_)
    · refine z_aload_n C 0 0 dX11_wronged_27 rfl rfl ?_
      refine z_iconst C dX11_wronged_28 rfl ?_
      refine z_putI (k := 5) C cl11 h0 rfl gw_7_15 rfl rfl rfl dX11_wronged_29 ?_
      exact z_jump (ls1 := [(0, .ref (B + v0)), (1, .int v1), (2, .int v2), (3, .int v3)]) (Nat.le_of_ble_eq_true rfl) [0, 1, 2, 3] rfl (z_fX11_wronged_b32 C ht hr N v0 v1 v2 v3 (wI (wI M v0 5 qj1) v0 5 (2 : Int32)) h0)
    · exact z_jump (ls1 := [(0, .ref (B + v0)), (1, .int v1), (2, .int v2), (3, .int v3)]) (Nat.le_of_ble_eq_true rfl) [0, 1, 2, 3] rfl (z_fX11_wronged_b32 C ht hr N v0 v1 v2 v3 (wI M v0 5 qj1) h0)
  · exact z_jump (ls1 := [(0, .ref (B + v0)), (1, .int v1), (2, .int v2), (3, .int v3)]) (Nat.le_of_ble_eq_true rfl) [0, 1, 2, 3] rfl (z_fX11_wronged_b32 C ht hr N v0 v1 v2 v3 (wI M v0 5 qj1) h0)
set_option maxHeartbeats 4000000 in
set_option maxRecDepth 100000 in
theorem z_fX11_worse_b21 {p : Program} {l : Launch} {e : Env} {s : State} {m : MethodId} {args : Array Value} {below : List Frame} {meth : Method} {c : Code} {D : va_G} {cy : Nat → ClassId} {B : Nat} {kd : Nat → Nat} {n : Nat} {sa sv : Nat → Nat} (C : zC p l s m args meth c D cy B kd n sa sv RX11 cX11_worse 3) (ht : ∀ x ∈ c.exceptionTable.toList, False) (hr : meth.sig.returnType = some (FieldType.int)) {b0 : Int32 × Mem}  (N : Nat) (v0 : Nat) (M : Mem) (h0 : kd v0 = 11)  : Z p l e (rmz 7 0) s m args below meth c (vx_MQ below (QcR D cy B kd n (cvI b0)) (XcR D cy B kd n (cvI b0)) args s 0 (6 * 0) (AA B kd n)) D cy B kd n 3 b0 0 21 [(0, .ref (B + v0))] [] M (fX11_worse_b21 N v0 M) := by
  unfold fX11_worse_b21
  refine z_aload_n C 0 0 dX11_worse_21 rfl rfl ?_
  refine z_iconst C dX11_worse_22 rfl ?_
  refine z_callV_I (As := [.int (1 : Int32)]) (rest := []) C rfl (ctX11_fails (zG_of C) v0 (1 : Int32) h0 M) cw_RX11_201 rfl (okM_X11_fails) rfl cl11 h0 (okR_of rfl) (Nat.le_of_ble_eq_true rfl) dX11_worse_23 (fun qj1 _ => ?_)
  exact z_iret C hr (Nat.le_of_ble_eq_true rfl) dX11_worse_26 rfl
set_option maxHeartbeats 4000000 in
set_option maxRecDepth 100000 in
theorem ctX11_worse {l : Launch} {D : va_G} {cy : Nat → ClassId} {B : Nat} {kd : Nat → Nat} {n : Nat} {sa sv : Nat → Nat} (G : zG l kd n) (N : Nat) (v0 : Nat) (v1 : Int32) (v2 : Int32) (h0 : kd v0 = 11) (M : Mem) : CT l D cy B kd n sa sv 7 0 yX11_worse cX11_worse 3 (some (FieldType.int)) cvI [.ref (B + v0), .int v1, .int v2] M (fX11_worse N v0 v1 v2 M) := by
  refine ct_of (by decide) G.1 G.2 (Nat.le_of_ble_eq_true rfl) (ls := [(0, .ref (B + v0)), (1, .int v1), (2, .int v2)]) rfl ?_
  intro p e s m args below meth c b0 C ht hr
  unfold fX11_worse
  refine z_aload_n C 0 0 dX11_worse_0 rfl rfl ?_
  refine z_iconst C dX11_worse_1 rfl ?_
  refine z_putI (k := 5) C cl11 h0 rfl gw_7_15 rfl rfl rfl dX11_worse_2 ?_
  refine z_aload_n C 0 0 dX11_worse_5 rfl rfl ?_
  refine z_iload_n C 1 1 dX11_worse_6 rfl rfl ?_
  refine z_callV_pB (As := [.int v1]) (rest := []) C rfl (ctX11_isRow (zG_of C) v0 v1 h0 (wI M v0 5 (0 : Int32))) cw_RX11_256 rfl (okM_X11_isRow) rfl cl11 h0 (okR_of rfl) (Nat.le_of_ble_eq_true rfl) dX11_worse_7 (fun qj1 _ => ?_)
  refine z_if_eqB C 21 dX11_worse_10 rfl (fun _ => ?_) (fun _ => ?_)
  · refine z_aload_n C 0 0 dX11_worse_13 rfl rfl ?_
    refine z_iload_n C 2 2 dX11_worse_14 rfl rfl ?_
    refine z_callV_pB (As := [.int v2]) (rest := []) C rfl (ctX11_isRow (zG_of C) v0 v2 h0 (wI M v0 5 (0 : Int32))) cw_RX11_256 rfl (okM_X11_isRow) rfl cl11 h0 (okR_of rfl) (Nat.le_of_ble_eq_true rfl) dX11_worse_15 (fun qj2 _ => ?_)
    refine z_if_neB C 27 dX11_worse_18 rfl (fun _ => ?_) (fun _ => ?_)
    · refine z_aload_n C 0 0 dX11_worse_27 rfl rfl ?_
      refine z_iload_n C 1 1 dX11_worse_28 rfl rfl ?_
      refine z_callV_I (As := [.int v1]) (rest := []) C rfl (ctX11_lies (zG_of C) N v0 v1 h0 (wI M v0 5 (0 : Int32))) cw_RX11_339 rfl (okM_X11_lies) rfl cl11 h0 (okR_of rfl) (Nat.le_of_ble_eq_true rfl) dX11_worse_29 (fun qj3 _ => ?_)
      refine z_aload_n C 0 0 dX11_worse_32 rfl rfl ?_
      refine z_iload_n C 2 2 dX11_worse_33 rfl rfl ?_
      refine z_callV_I (As := [.int v2]) (rest := [.int qj3.1]) C rfl (ctX11_lies (zG_of C) N v0 v2 h0 qj3.2) cw_RX11_339 rfl (okM_X11_lies) rfl cl11 h0 (okR_of rfl) (Nat.le_of_ble_eq_true rfl) dX11_worse_34 (fun qj4 _ => ?_)
      refine z_isub C dX11_worse_37 ?_
      exact z_iret C hr (Nat.le_of_ble_eq_true rfl) dX11_worse_38 rfl
    · exact z_jump (ls1 := [(0, .ref (B + v0))]) (Nat.le_of_ble_eq_true rfl) [0] rfl (z_fX11_worse_b21 C ht hr N v0 (wI M v0 5 (0 : Int32)) h0)
  · exact z_jump (ls1 := [(0, .ref (B + v0))]) (Nat.le_of_ble_eq_true rfl) [0] rfl (z_fX11_worse_b21 C ht hr N v0 (wI M v0 5 (0 : Int32)) h0)
set_option maxHeartbeats 4000000 in
set_option maxRecDepth 100000 in
theorem z_fX11_layBits_b71 {p : Program} {l : Launch} {e : Env} {s : State} {m : MethodId} {args : Array Value} {below : List Frame} {meth : Method} {c : Code} {D : va_G} {cy : Nat → ClassId} {B : Nat} {kd : Nat → Nat} {n : Nat} {sa sv : Nat → Nat} (C : zC p l s m args meth c D cy B kd n sa sv RX11 cX11_layBits 5) (ht : ∀ x ∈ c.exceptionTable.toList, False) (hr : meth.sig.returnType = none) {b0 : Mem}  (N : Nat) (k23 : Int32 → Mem → Option Mem) (v0 : Nat) (v1 : Int32) (v2 : Int32) (v3 : Int32) (M : Mem) (h0 : kd v0 = 11) (hk23 : ∀ (v3 : Int32) (M : Mem), Z p l e (rmz 3 0) s m args below meth c (vx_MQ below (QcR D cy B kd n (cvV b0)) (XcR D cy B kd n (cvV b0)) args s 0 (6 * 0) (AA B kd n)) D cy B kd n 5 b0 0 23 [(0, .ref (B + v0)), (1, .int v1), (2, .int v2), (3, .int v3)] [] M (k23 v3 M)) : Z p l e (rmz 3 0) s m args below meth c (vx_MQ below (QcR D cy B kd n (cvV b0)) (XcR D cy B kd n (cvV b0)) args s 0 (6 * 0) (AA B kd n)) D cy B kd n 5 b0 0 71 [(0, .ref (B + v0)), (1, .int v1), (2, .int v2), (3, .int v3)] [] M (fX11_layBits_b71 N k23 v0 v1 v2 v3 M) := by
  unfold fX11_layBits_b71
  refine z_iinc C 3 3 (v := v3) (v1 := (v3 + (1 : Int32))) (ls1 := [(3, .int (v3 + (1 : Int32))), (0, .ref (B + v0)), (1, .int v1), (2, .int v2)]) dX11_layBits_71 rfl rfl (by decide) rfl ?_
  refine z_goto C 23 dX11_layBits_74 rfl ?_
  exact z_jump (ls1 := [(0, .ref (B + v0)), (1, .int v1), (2, .int v2), (3, .int (v3 + (1 : Int32)))]) (Nat.le_of_ble_eq_true rfl) [1, 2, 3, 0] rfl (hk23 (v3 + (1 : Int32)) M)
set_option maxHeartbeats 4000000 in
set_option maxRecDepth 100000 in
theorem z_fX11_layBits_l36_s {p : Program} {l : Launch} {e : Env} {s : State} {m : MethodId} {args : Array Value} {below : List Frame} {meth : Method} {c : Code} {D : va_G} {cy : Nat → ClassId} {B : Nat} {kd : Nat → Nat} {n : Nat} {sa sv : Nat → Nat} (C : zC p l s m args meth c D cy B kd n sa sv RX11 cX11_layBits 5) (ht : ∀ x ∈ c.exceptionTable.toList, False) (hr : meth.sig.returnType = none) {b0 : Mem} (N : Nat) (k23 : Int32 → Mem → Option Mem) (v0 : Nat) (v1 : Int32) (v2 : Int32) (v3 : Int32) (k36 : Int32 → Mem → Option Mem) (v4 : Int32) (M : Mem) (h0 : kd v0 = 11) (hk23 : ∀ (v3 : Int32) (M : Mem), Z p l e (rmz 3 0) s m args below meth c (vx_MQ below (QcR D cy B kd n (cvV b0)) (XcR D cy B kd n (cvV b0)) args s 0 (6 * 0) (AA B kd n)) D cy B kd n 5 b0 0 23 [(0, .ref (B + v0)), (1, .int v1), (2, .int v2), (3, .int v3)] [] M (k23 v3 M)) (hk36 : ∀ (v4 : Int32) (M : Mem), Z p l e (rmz 3 0) s m args below meth c (vx_MQ below (QcR D cy B kd n (cvV b0)) (XcR D cy B kd n (cvV b0)) args s 0 (6 * 0) (AA B kd n)) D cy B kd n 5 b0 0 36 [(0, .ref (B + v0)), (1, .int v1), (2, .int v2), (3, .int v3), (4, .int v4)] [] M (k36 v4 M)) : Z p l e (rmz 3 0) s m args below meth c (vx_MQ below (QcR D cy B kd n (cvV b0)) (XcR D cy B kd n (cvV b0)) args s 0 (6 * 0) (AA B kd n)) D cy B kd n 5 b0 0 36 [(0, .ref (B + v0)), (1, .int v1), (2, .int v2), (3, .int v3), (4, .int v4)] [] M (fX11_layBits_l36_s N k23 v0 v1 v2 v3 k36 v4 M) := by
  unfold fX11_layBits_l36_s
  refine z_iload C 4 dX11_layBits_36 rfl ?_
  refine z_iload_n C 2 2 dX11_layBits_38 rfl rfl ?_
  refine z_icmp_ge C 71 dX11_layBits_39 rfl (fun _ => ?_) (fun _ => ?_)
  · exact z_jump (ls1 := [(0, .ref (B + v0)), (1, .int v1), (2, .int v2), (3, .int v3)]) (Nat.le_of_ble_eq_true rfl) [0, 1, 2, 3] rfl (z_fX11_layBits_b71 C ht hr N k23 v0 v1 v2 v3 M h0 hk23)
  · refine z_aload_n C 0 0 dX11_layBits_42 rfl rfl ?_
    refine z_getR (k := 29) C cl11 h0 rfl gw_7_39 rfl dX11_layBits_43 ?_
    have j1 : kd (v0 + 16) = 44 := zkd C h0 (k := 29) rfl
    refine z_iload_n C 3 3 dX11_layBits_46 rfl rfl ?_
    refine z_zald C j1 rfl (by decide) dX11_layBits_47 (fun j2 => ?_)
    refine z_if_eq C 71 dX11_layBits_48 rfl (fun _ => ?_) (fun _ => ?_)
    · exact z_jump (ls1 := [(0, .ref (B + v0)), (1, .int v1), (2, .int v2), (3, .int v3)]) (Nat.le_of_ble_eq_true rfl) [0, 1, 2, 3] rfl (z_fX11_layBits_b71 C ht hr N k23 v0 v1 v2 v3 M h0 hk23)
    · refine z_aload_n C 0 0 dX11_layBits_51 rfl rfl ?_
      refine z_getR (k := 28) C cl11 h0 rfl gw_7_38 rfl dX11_layBits_52 ?_
      have j3 : kd (v0 + 15) = 43 := zkd C h0 (k := 28) rfl
      refine z_aload_n C 0 0 dX11_layBits_55 rfl rfl ?_
      refine z_iload C 4 dX11_layBits_56 rfl ?_
      refine z_iload_n C 3 3 dX11_layBits_58 rfl rfl ?_
      refine z_iload_n C 1 1 dX11_layBits_59 rfl rfl ?_
      refine z_callV_I (As := [.int v4, .int v3, .int v1]) (rest := [.ref (B + (v0 + 15))]) C rfl (ctX11_placeOf (zG_of C) N v0 v4 v3 v1 h0 M) cw_RX11_225 rfl (okM_X11_placeOf) rfl cl11 h0 (okR_of rfl) (Nat.le_of_ble_eq_true rfl) dX11_layBits_60 (fun qj4 _ => ?_)
      refine z_iconst C dX11_layBits_63 rfl ?_
      refine z_zast C j3 rfl (by decide) dX11_layBits_64 (fun _ => ?_)
      refine z_iinc C 4 4 (v := v4) (v1 := (v4 + (1 : Int32))) (ls1 := [(4, .int (v4 + (1 : Int32))), (0, .ref (B + v0)), (1, .int v1), (2, .int v2), (3, .int v3)]) dX11_layBits_65 rfl rfl (by decide) rfl ?_
      refine z_goto C 36 dX11_layBits_68 rfl ?_
      exact z_jump (ls1 := [(0, .ref (B + v0)), (1, .int v1), (2, .int v2), (3, .int v3), (4, .int (v4 + (1 : Int32)))]) (Nat.le_of_ble_eq_true rfl) [1, 2, 3, 4, 0] rfl (hk36 (v4 + (1 : Int32)) (wI qj4.2 (v0 + 15) qj4.1.toNatClampNeg (vp_nar .boolean (1 : Int32))))
theorem z_fX11_layBits_l36_i {p : Program} {l : Launch} {e : Env} {s : State} {m : MethodId} {args : Array Value} {below : List Frame} {meth : Method} {c : Code} {D : va_G} {cy : Nat → ClassId} {B : Nat} {kd : Nat → Nat} {n : Nat} {sa sv : Nat → Nat} (C : zC p l s m args meth c D cy B kd n sa sv RX11 cX11_layBits 5) (ht : ∀ x ∈ c.exceptionTable.toList, False) (hr : meth.sig.returnType = none) {b0 : Mem} (N : Nat) (k23 : Int32 → Mem → Option Mem) (v0 : Nat) (v1 : Int32) (v2 : Int32) (v3 : Int32) (h0 : kd v0 = 11) (hk23 : ∀ (v3 : Int32) (M : Mem), Z p l e (rmz 3 0) s m args below meth c (vx_MQ below (QcR D cy B kd n (cvV b0)) (XcR D cy B kd n (cvV b0)) args s 0 (6 * 0) (AA B kd n)) D cy B kd n 5 b0 0 23 [(0, .ref (B + v0)), (1, .int v1), (2, .int v2), (3, .int v3)] [] M (k23 v3 M)) (fu : Nat) : ∀ (v4 : Int32) (M : Mem), Z p l e (rmz 3 0) s m args below meth c (vx_MQ below (QcR D cy B kd n (cvV b0)) (XcR D cy B kd n (cvV b0)) args s 0 (6 * 0) (AA B kd n)) D cy B kd n 5 b0 0 36 [(0, .ref (B + v0)), (1, .int v1), (2, .int v2), (3, .int v3), (4, .int v4)] [] M (fX11_layBits_l36 N k23 v0 v1 v2 v3 fu v4 M) := by
  induction fu with
  | zero => intro v4 M; exact z_none
  | succ fu ih => intro v4 M; exact z_fX11_layBits_l36_s C ht hr N k23 v0 v1 v2 v3 (fX11_layBits_l36 N k23 v0 v1 v2 v3 fu) v4 M h0 hk23 (fun v4 M => ih v4 M)
theorem z_fX11_layBits_l36 {p : Program} {l : Launch} {e : Env} {s : State} {m : MethodId} {args : Array Value} {below : List Frame} {meth : Method} {c : Code} {D : va_G} {cy : Nat → ClassId} {B : Nat} {kd : Nat → Nat} {n : Nat} {sa sv : Nat → Nat} (C : zC p l s m args meth c D cy B kd n sa sv RX11 cX11_layBits 5) (ht : ∀ x ∈ c.exceptionTable.toList, False) (hr : meth.sig.returnType = none) {b0 : Mem} (N : Nat) (k23 : Int32 → Mem → Option Mem) (v0 : Nat) (v1 : Int32) (v2 : Int32) (v3 : Int32) (fu : Nat) (v4 : Int32) (M : Mem) (h0 : kd v0 = 11) (hk23 : ∀ (v3 : Int32) (M : Mem), Z p l e (rmz 3 0) s m args below meth c (vx_MQ below (QcR D cy B kd n (cvV b0)) (XcR D cy B kd n (cvV b0)) args s 0 (6 * 0) (AA B kd n)) D cy B kd n 5 b0 0 23 [(0, .ref (B + v0)), (1, .int v1), (2, .int v2), (3, .int v3)] [] M (k23 v3 M)) : Z p l e (rmz 3 0) s m args below meth c (vx_MQ below (QcR D cy B kd n (cvV b0)) (XcR D cy B kd n (cvV b0)) args s 0 (6 * 0) (AA B kd n)) D cy B kd n 5 b0 0 36 [(0, .ref (B + v0)), (1, .int v1), (2, .int v2), (3, .int v3), (4, .int v4)] [] M (fX11_layBits_l36 N k23 v0 v1 v2 v3 fu v4 M) := z_fX11_layBits_l36_i C ht hr N k23 v0 v1 v2 v3 h0 hk23 fu v4 M
set_option maxHeartbeats 4000000 in
set_option maxRecDepth 100000 in
theorem z_fX11_layBits_l23_s {p : Program} {l : Launch} {e : Env} {s : State} {m : MethodId} {args : Array Value} {below : List Frame} {meth : Method} {c : Code} {D : va_G} {cy : Nat → ClassId} {B : Nat} {kd : Nat → Nat} {n : Nat} {sa sv : Nat → Nat} (C : zC p l s m args meth c D cy B kd n sa sv RX11 cX11_layBits 5) (ht : ∀ x ∈ c.exceptionTable.toList, False) (hr : meth.sig.returnType = none) {b0 : Mem} (N : Nat) (v0 : Nat) (v1 : Int32) (v2 : Int32) (k23 : Int32 → Mem → Option Mem) (v3 : Int32) (M : Mem) (h0 : kd v0 = 11)  (hk23 : ∀ (v3 : Int32) (M : Mem), Z p l e (rmz 3 0) s m args below meth c (vx_MQ below (QcR D cy B kd n (cvV b0)) (XcR D cy B kd n (cvV b0)) args s 0 (6 * 0) (AA B kd n)) D cy B kd n 5 b0 0 23 [(0, .ref (B + v0)), (1, .int v1), (2, .int v2), (3, .int v3)] [] M (k23 v3 M)) : Z p l e (rmz 3 0) s m args below meth c (vx_MQ below (QcR D cy B kd n (cvV b0)) (XcR D cy B kd n (cvV b0)) args s 0 (6 * 0) (AA B kd n)) D cy B kd n 5 b0 0 23 [(0, .ref (B + v0)), (1, .int v1), (2, .int v2), (3, .int v3)] [] M (fX11_layBits_l23_s N v0 v1 v2 k23 v3 M) := by
  unfold fX11_layBits_l23_s
  refine z_iload_n C 3 3 dX11_layBits_23 rfl rfl ?_
  refine z_aload_n C 0 0 dX11_layBits_24 rfl rfl ?_
  refine z_getR (k := 0) C cl11 h0 rfl gw_7_10 rfl dX11_layBits_25 ?_
  have j1 : kd (v0 + 1) = 36 := zkd C h0 (k := 0) rfl
  refine z_iconst C dX11_layBits_28 rfl ?_
  refine z_iald C j1 rfl (by decide) dX11_layBits_29 (fun j2 => ?_)
  refine z_icmp_ge C 77 dX11_layBits_30 rfl (fun _ => ?_) (fun _ => ?_)
  · exact z_vret C hr (Nat.le_of_ble_eq_true rfl) dX11_layBits_77 rfl
  · refine z_iconst C dX11_layBits_33 rfl ?_
    refine z_istore C 4 (ls1 := [(4, .int (0 : Int32)), (0, .ref (B + v0)), (1, .int v1), (2, .int v2), (3, .int v3)]) dX11_layBits_34 (by decide) rfl ?_
    exact z_jump (ls1 := [(0, .ref (B + v0)), (1, .int v1), (2, .int v2), (3, .int v3), (4, .int (0 : Int32))]) (Nat.le_of_ble_eq_true rfl) [1, 2, 3, 4, 0] rfl (z_fX11_layBits_l36 C ht hr N k23 v0 v1 v2 v3 N (0 : Int32) M h0 hk23)
theorem z_fX11_layBits_l23_i {p : Program} {l : Launch} {e : Env} {s : State} {m : MethodId} {args : Array Value} {below : List Frame} {meth : Method} {c : Code} {D : va_G} {cy : Nat → ClassId} {B : Nat} {kd : Nat → Nat} {n : Nat} {sa sv : Nat → Nat} (C : zC p l s m args meth c D cy B kd n sa sv RX11 cX11_layBits 5) (ht : ∀ x ∈ c.exceptionTable.toList, False) (hr : meth.sig.returnType = none) {b0 : Mem} (N : Nat) (v0 : Nat) (v1 : Int32) (v2 : Int32) (h0 : kd v0 = 11)  (fu : Nat) : ∀ (v3 : Int32) (M : Mem), Z p l e (rmz 3 0) s m args below meth c (vx_MQ below (QcR D cy B kd n (cvV b0)) (XcR D cy B kd n (cvV b0)) args s 0 (6 * 0) (AA B kd n)) D cy B kd n 5 b0 0 23 [(0, .ref (B + v0)), (1, .int v1), (2, .int v2), (3, .int v3)] [] M (fX11_layBits_l23 N v0 v1 v2 fu v3 M) := by
  induction fu with
  | zero => intro v3 M; exact z_none
  | succ fu ih => intro v3 M; exact z_fX11_layBits_l23_s C ht hr N v0 v1 v2 (fX11_layBits_l23 N v0 v1 v2 fu) v3 M h0 (fun v3 M => ih v3 M)
theorem z_fX11_layBits_l23 {p : Program} {l : Launch} {e : Env} {s : State} {m : MethodId} {args : Array Value} {below : List Frame} {meth : Method} {c : Code} {D : va_G} {cy : Nat → ClassId} {B : Nat} {kd : Nat → Nat} {n : Nat} {sa sv : Nat → Nat} (C : zC p l s m args meth c D cy B kd n sa sv RX11 cX11_layBits 5) (ht : ∀ x ∈ c.exceptionTable.toList, False) (hr : meth.sig.returnType = none) {b0 : Mem} (N : Nat) (v0 : Nat) (v1 : Int32) (v2 : Int32) (fu : Nat) (v3 : Int32) (M : Mem) (h0 : kd v0 = 11)  : Z p l e (rmz 3 0) s m args below meth c (vx_MQ below (QcR D cy B kd n (cvV b0)) (XcR D cy B kd n (cvV b0)) args s 0 (6 * 0) (AA B kd n)) D cy B kd n 5 b0 0 23 [(0, .ref (B + v0)), (1, .int v1), (2, .int v2), (3, .int v3)] [] M (fX11_layBits_l23 N v0 v1 v2 fu v3 M) := z_fX11_layBits_l23_i C ht hr N v0 v1 v2 h0 fu v3 M
set_option maxHeartbeats 4000000 in
set_option maxRecDepth 100000 in
theorem z_fX11_layBits_l2_s {p : Program} {l : Launch} {e : Env} {s : State} {m : MethodId} {args : Array Value} {below : List Frame} {meth : Method} {c : Code} {D : va_G} {cy : Nat → ClassId} {B : Nat} {kd : Nat → Nat} {n : Nat} {sa sv : Nat → Nat} (C : zC p l s m args meth c D cy B kd n sa sv RX11 cX11_layBits 5) (ht : ∀ x ∈ c.exceptionTable.toList, False) (hr : meth.sig.returnType = none) {b0 : Mem} (N : Nat) (v0 : Nat) (v1 : Int32) (v2 : Int32) (k2 : Int32 → Mem → Option Mem) (v3 : Int32) (M : Mem) (h0 : kd v0 = 11)  (hk2 : ∀ (v3 : Int32) (M : Mem), Z p l e (rmz 3 0) s m args below meth c (vx_MQ below (QcR D cy B kd n (cvV b0)) (XcR D cy B kd n (cvV b0)) args s 0 (6 * 0) (AA B kd n)) D cy B kd n 5 b0 0 2 [(0, .ref (B + v0)), (1, .int v1), (2, .int v2), (3, .int v3)] [] M (k2 v3 M)) : Z p l e (rmz 3 0) s m args below meth c (vx_MQ below (QcR D cy B kd n (cvV b0)) (XcR D cy B kd n (cvV b0)) args s 0 (6 * 0) (AA B kd n)) D cy B kd n 5 b0 0 2 [(0, .ref (B + v0)), (1, .int v1), (2, .int v2), (3, .int v3)] [] M (fX11_layBits_l2_s N v0 v1 v2 k2 v3 M) := by
  unfold fX11_layBits_l2_s
  refine z_iload_n C 3 3 dX11_layBits_2 rfl rfl ?_
  refine z_bipush (v := 64) C dX11_layBits_3 rfl ?_
  refine z_icmp_ge C 21 dX11_layBits_5 rfl (fun _ => ?_) (fun _ => ?_)
  · refine z_iconst C dX11_layBits_21 rfl ?_
    refine z_istore_n C 3 (ls1 := [(3, .int (0 : Int32)), (0, .ref (B + v0)), (1, .int v1), (2, .int v2)]) dX11_layBits_22 rfl (by decide) rfl ?_
    exact z_jump (ls1 := [(0, .ref (B + v0)), (1, .int v1), (2, .int v2), (3, .int (0 : Int32))]) (Nat.le_of_ble_eq_true rfl) [1, 2, 3, 0] rfl (z_fX11_layBits_l23 C ht hr N v0 v1 v2 N (0 : Int32) M h0)
  · refine z_aload_n C 0 0 dX11_layBits_8 rfl rfl ?_
    refine z_getR (k := 28) C cl11 h0 rfl gw_7_38 rfl dX11_layBits_9 ?_
    have j1 : kd (v0 + 15) = 43 := zkd C h0 (k := 28) rfl
    refine z_iload_n C 3 3 dX11_layBits_12 rfl rfl ?_
    refine z_iconst C dX11_layBits_13 rfl ?_
    refine z_zast C j1 rfl (by decide) dX11_layBits_14 (fun _ => ?_)
    refine z_iinc C 3 3 (v := v3) (v1 := (v3 + (1 : Int32))) (ls1 := [(3, .int (v3 + (1 : Int32))), (0, .ref (B + v0)), (1, .int v1), (2, .int v2)]) dX11_layBits_15 rfl rfl (by decide) rfl ?_
    refine z_goto C 2 dX11_layBits_18 rfl ?_
    exact z_jump (ls1 := [(0, .ref (B + v0)), (1, .int v1), (2, .int v2), (3, .int (v3 + (1 : Int32)))]) (Nat.le_of_ble_eq_true rfl) [1, 2, 3, 0] rfl (hk2 (v3 + (1 : Int32)) (wI M (v0 + 15) v3.toNatClampNeg (vp_nar .boolean (0 : Int32))))
theorem z_fX11_layBits_l2_i {p : Program} {l : Launch} {e : Env} {s : State} {m : MethodId} {args : Array Value} {below : List Frame} {meth : Method} {c : Code} {D : va_G} {cy : Nat → ClassId} {B : Nat} {kd : Nat → Nat} {n : Nat} {sa sv : Nat → Nat} (C : zC p l s m args meth c D cy B kd n sa sv RX11 cX11_layBits 5) (ht : ∀ x ∈ c.exceptionTable.toList, False) (hr : meth.sig.returnType = none) {b0 : Mem} (N : Nat) (v0 : Nat) (v1 : Int32) (v2 : Int32) (h0 : kd v0 = 11)  (fu : Nat) : ∀ (v3 : Int32) (M : Mem), Z p l e (rmz 3 0) s m args below meth c (vx_MQ below (QcR D cy B kd n (cvV b0)) (XcR D cy B kd n (cvV b0)) args s 0 (6 * 0) (AA B kd n)) D cy B kd n 5 b0 0 2 [(0, .ref (B + v0)), (1, .int v1), (2, .int v2), (3, .int v3)] [] M (fX11_layBits_l2 N v0 v1 v2 fu v3 M) := by
  induction fu with
  | zero => intro v3 M; exact z_none
  | succ fu ih => intro v3 M; exact z_fX11_layBits_l2_s C ht hr N v0 v1 v2 (fX11_layBits_l2 N v0 v1 v2 fu) v3 M h0 (fun v3 M => ih v3 M)
theorem z_fX11_layBits_l2 {p : Program} {l : Launch} {e : Env} {s : State} {m : MethodId} {args : Array Value} {below : List Frame} {meth : Method} {c : Code} {D : va_G} {cy : Nat → ClassId} {B : Nat} {kd : Nat → Nat} {n : Nat} {sa sv : Nat → Nat} (C : zC p l s m args meth c D cy B kd n sa sv RX11 cX11_layBits 5) (ht : ∀ x ∈ c.exceptionTable.toList, False) (hr : meth.sig.returnType = none) {b0 : Mem} (N : Nat) (v0 : Nat) (v1 : Int32) (v2 : Int32) (fu : Nat) (v3 : Int32) (M : Mem) (h0 : kd v0 = 11)  : Z p l e (rmz 3 0) s m args below meth c (vx_MQ below (QcR D cy B kd n (cvV b0)) (XcR D cy B kd n (cvV b0)) args s 0 (6 * 0) (AA B kd n)) D cy B kd n 5 b0 0 2 [(0, .ref (B + v0)), (1, .int v1), (2, .int v2), (3, .int v3)] [] M (fX11_layBits_l2 N v0 v1 v2 fu v3 M) := z_fX11_layBits_l2_i C ht hr N v0 v1 v2 h0 fu v3 M
set_option maxHeartbeats 4000000 in
set_option maxRecDepth 100000 in
theorem ctX11_layBits {l : Launch} {D : va_G} {cy : Nat → ClassId} {B : Nat} {kd : Nat → Nat} {n : Nat} {sa sv : Nat → Nat} (G : zG l kd n) (N : Nat) (v0 : Nat) (v1 : Int32) (v2 : Int32) (h0 : kd v0 = 11) (M : Mem) : CT l D cy B kd n sa sv 3 0 yX11_layBits cX11_layBits 5 (none) cvV [.ref (B + v0), .int v1, .int v2] M (fX11_layBits N v0 v1 v2 M) := by
  refine ct_of (by decide) G.1 G.2 (Nat.le_of_ble_eq_true rfl) (ls := [(0, .ref (B + v0)), (1, .int v1), (2, .int v2)]) rfl ?_
  intro p e s m args below meth c b0 C ht hr
  unfold fX11_layBits
  refine z_iconst C dX11_layBits_0 rfl ?_
  refine z_istore_n C 3 (ls1 := [(3, .int (0 : Int32)), (0, .ref (B + v0)), (1, .int v1), (2, .int v2)]) dX11_layBits_1 rfl (by decide) rfl ?_
  exact z_jump (ls1 := [(0, .ref (B + v0)), (1, .int v1), (2, .int v2), (3, .int (0 : Int32))]) (Nat.le_of_ble_eq_true rfl) [1, 2, 3, 0] rfl (z_fX11_layBits_l2 C ht hr N v0 v1 v2 N (0 : Int32) M h0)
set_option maxHeartbeats 4000000 in
set_option maxRecDepth 100000 in
theorem z_fX11_isSaid_l3_s {p : Program} {l : Launch} {e : Env} {s : State} {m : MethodId} {args : Array Value} {below : List Frame} {meth : Method} {c : Code} {D : va_G} {cy : Nat → ClassId} {B : Nat} {kd : Nat → Nat} {n : Nat} {sa sv : Nat → Nat} (C : zC p l s m args meth c D cy B kd n sa sv RX11 cX11_isSaid 5) (ht : ∀ x ∈ c.exceptionTable.toList, False) (hr : meth.sig.returnType = some (FieldType.boolean)) {b0 : Bool × Mem} (N : Nat) (v0 : Nat) (v1 : Int32) (v2 : Int32) (v3 : Int32) (k3 : Int32 → Mem → Option (Bool × Mem)) (v4 : Int32) (M : Mem) (h0 : kd v0 = 11)  (hk3 : ∀ (v4 : Int32) (M : Mem), Z p l e (rmz 3 0) s m args below meth c (vx_MQ below (QcR D cy B kd n (cvB b0)) (XcR D cy B kd n (cvB b0)) args s 0 (6 * 0) (AA B kd n)) D cy B kd n 5 b0 0 3 [(0, .ref (B + v0)), (1, .int v1), (2, .int v2), (3, .int v3), (4, .int v4)] [] M (k3 v4 M)) : Z p l e (rmz 3 0) s m args below meth c (vx_MQ below (QcR D cy B kd n (cvB b0)) (XcR D cy B kd n (cvB b0)) args s 0 (6 * 0) (AA B kd n)) D cy B kd n 5 b0 0 3 [(0, .ref (B + v0)), (1, .int v1), (2, .int v2), (3, .int v3), (4, .int v4)] [] M (fX11_isSaid_l3_s N v0 v1 v2 v3 k3 v4 M) := by
  unfold fX11_isSaid_l3_s
  refine z_iload C 4 dX11_isSaid_3 rfl ?_
  refine z_iload_n C 2 2 dX11_isSaid_5 rfl rfl ?_
  refine z_icmp_ge C 33 dX11_isSaid_6 rfl (fun _ => ?_) (fun _ => ?_)
  · refine z_iconst C dX11_isSaid_33 rfl ?_
    exact z_zret C (v := true) hr (Nat.le_of_ble_eq_true rfl) dX11_isSaid_34 rfl
  · refine z_aload_n C 0 0 dX11_isSaid_9 rfl rfl ?_
    refine z_getR (k := 28) C cl11 h0 rfl gw_7_38 rfl dX11_isSaid_10 ?_
    have j1 : kd (v0 + 15) = 43 := zkd C h0 (k := 28) rfl
    refine z_aload_n C 0 0 dX11_isSaid_13 rfl rfl ?_
    refine z_iload C 4 dX11_isSaid_14 rfl ?_
    refine z_iload_n C 3 3 dX11_isSaid_16 rfl rfl ?_
    refine z_iload_n C 1 1 dX11_isSaid_17 rfl rfl ?_
    refine z_callV_I (As := [.int v4, .int v3, .int v1]) (rest := [.ref (B + (v0 + 15))]) C rfl (ctX11_placeOf (zG_of C) N v0 v4 v3 v1 h0 M) cw_RX11_225 rfl (okM_X11_placeOf) rfl cl11 h0 (okR_of rfl) (Nat.le_of_ble_eq_true rfl) dX11_isSaid_18 (fun qj2 _ => ?_)
    refine z_zald C j1 rfl (by decide) dX11_isSaid_21 (fun j3 => ?_)
    refine z_if_ne C 27 dX11_isSaid_22 rfl (fun _ => ?_) (fun _ => ?_)
    · refine z_iconst C dX11_isSaid_25 rfl ?_
      exact z_zret C (v := false) hr (Nat.le_of_ble_eq_true rfl) dX11_isSaid_26 rfl
    · refine z_iinc C 4 4 (v := v4) (v1 := (v4 + (1 : Int32))) (ls1 := [(4, .int (v4 + (1 : Int32))), (0, .ref (B + v0)), (1, .int v1), (2, .int v2), (3, .int v3)]) dX11_isSaid_27 rfl rfl (by decide) rfl ?_
      refine z_goto C 3 dX11_isSaid_30 rfl ?_
      exact z_jump (ls1 := [(0, .ref (B + v0)), (1, .int v1), (2, .int v2), (3, .int v3), (4, .int (v4 + (1 : Int32)))]) (Nat.le_of_ble_eq_true rfl) [1, 2, 3, 4, 0] rfl (hk3 (v4 + (1 : Int32)) qj2.2)
theorem z_fX11_isSaid_l3_i {p : Program} {l : Launch} {e : Env} {s : State} {m : MethodId} {args : Array Value} {below : List Frame} {meth : Method} {c : Code} {D : va_G} {cy : Nat → ClassId} {B : Nat} {kd : Nat → Nat} {n : Nat} {sa sv : Nat → Nat} (C : zC p l s m args meth c D cy B kd n sa sv RX11 cX11_isSaid 5) (ht : ∀ x ∈ c.exceptionTable.toList, False) (hr : meth.sig.returnType = some (FieldType.boolean)) {b0 : Bool × Mem} (N : Nat) (v0 : Nat) (v1 : Int32) (v2 : Int32) (v3 : Int32) (h0 : kd v0 = 11)  (fu : Nat) : ∀ (v4 : Int32) (M : Mem), Z p l e (rmz 3 0) s m args below meth c (vx_MQ below (QcR D cy B kd n (cvB b0)) (XcR D cy B kd n (cvB b0)) args s 0 (6 * 0) (AA B kd n)) D cy B kd n 5 b0 0 3 [(0, .ref (B + v0)), (1, .int v1), (2, .int v2), (3, .int v3), (4, .int v4)] [] M (fX11_isSaid_l3 N v0 v1 v2 v3 fu v4 M) := by
  induction fu with
  | zero => intro v4 M; exact z_none
  | succ fu ih => intro v4 M; exact z_fX11_isSaid_l3_s C ht hr N v0 v1 v2 v3 (fX11_isSaid_l3 N v0 v1 v2 v3 fu) v4 M h0 (fun v4 M => ih v4 M)
theorem z_fX11_isSaid_l3 {p : Program} {l : Launch} {e : Env} {s : State} {m : MethodId} {args : Array Value} {below : List Frame} {meth : Method} {c : Code} {D : va_G} {cy : Nat → ClassId} {B : Nat} {kd : Nat → Nat} {n : Nat} {sa sv : Nat → Nat} (C : zC p l s m args meth c D cy B kd n sa sv RX11 cX11_isSaid 5) (ht : ∀ x ∈ c.exceptionTable.toList, False) (hr : meth.sig.returnType = some (FieldType.boolean)) {b0 : Bool × Mem} (N : Nat) (v0 : Nat) (v1 : Int32) (v2 : Int32) (v3 : Int32) (fu : Nat) (v4 : Int32) (M : Mem) (h0 : kd v0 = 11)  : Z p l e (rmz 3 0) s m args below meth c (vx_MQ below (QcR D cy B kd n (cvB b0)) (XcR D cy B kd n (cvB b0)) args s 0 (6 * 0) (AA B kd n)) D cy B kd n 5 b0 0 3 [(0, .ref (B + v0)), (1, .int v1), (2, .int v2), (3, .int v3), (4, .int v4)] [] M (fX11_isSaid_l3 N v0 v1 v2 v3 fu v4 M) := z_fX11_isSaid_l3_i C ht hr N v0 v1 v2 v3 h0 fu v4 M
set_option maxHeartbeats 4000000 in
set_option maxRecDepth 100000 in
theorem ctX11_isSaid {l : Launch} {D : va_G} {cy : Nat → ClassId} {B : Nat} {kd : Nat → Nat} {n : Nat} {sa sv : Nat → Nat} (G : zG l kd n) (N : Nat) (v0 : Nat) (v1 : Int32) (v2 : Int32) (v3 : Int32) (h0 : kd v0 = 11) (M : Mem) : CT l D cy B kd n sa sv 3 0 yX11_isSaid cX11_isSaid 5 (some (FieldType.boolean)) cvB [.ref (B + v0), .int v1, .int v2, .int v3] M (fX11_isSaid N v0 v1 v2 v3 M) := by
  refine ct_of (by decide) G.1 G.2 (Nat.le_of_ble_eq_true rfl) (ls := [(0, .ref (B + v0)), (1, .int v1), (2, .int v2), (3, .int v3)]) rfl ?_
  intro p e s m args below meth c b0 C ht hr
  unfold fX11_isSaid
  refine z_iconst C dX11_isSaid_0 rfl ?_
  refine z_istore C 4 (ls1 := [(4, .int (0 : Int32)), (0, .ref (B + v0)), (1, .int v1), (2, .int v2), (3, .int v3)]) dX11_isSaid_1 (by decide) rfl ?_
  exact z_jump (ls1 := [(0, .ref (B + v0)), (1, .int v1), (2, .int v2), (3, .int v3), (4, .int (0 : Int32))]) (Nat.le_of_ble_eq_true rfl) [1, 2, 3, 4, 0] rfl (z_fX11_isSaid_l3 C ht hr N v0 v1 v2 v3 N (0 : Int32) M h0)
set_option maxHeartbeats 4000000 in
set_option maxRecDepth 100000 in
theorem z_fX11_takesPut_l2_s {p : Program} {l : Launch} {e : Env} {s : State} {m : MethodId} {args : Array Value} {below : List Frame} {meth : Method} {c : Code} {D : va_G} {cy : Nat → ClassId} {B : Nat} {kd : Nat → Nat} {n : Nat} {sa sv : Nat → Nat} (C : zC p l s m args meth c D cy B kd n sa sv RX11 cX11_takesPut 3) (ht : ∀ x ∈ c.exceptionTable.toList, False) (hr : meth.sig.returnType = none) {b0 : Mem} (N : Nat) (v0 : Nat) (v1 : Int32) (k2 : Int32 → Mem → Option Mem) (v2 : Int32) (M : Mem) (h0 : kd v0 = 11)  (hk2 : ∀ (v2 : Int32) (M : Mem), Z p l e (rmz 2 0) s m args below meth c (vx_MQ below (QcR D cy B kd n (cvV b0)) (XcR D cy B kd n (cvV b0)) args s 0 (6 * 0) (AA B kd n)) D cy B kd n 3 b0 0 2 [(0, .ref (B + v0)), (1, .int v1), (2, .int v2)] [] M (k2 v2 M)) : Z p l e (rmz 2 0) s m args below meth c (vx_MQ below (QcR D cy B kd n (cvV b0)) (XcR D cy B kd n (cvV b0)) args s 0 (6 * 0) (AA B kd n)) D cy B kd n 3 b0 0 2 [(0, .ref (B + v0)), (1, .int v1), (2, .int v2)] [] M (fX11_takesPut_l2_s N v0 v1 k2 v2 M) := by
  unfold fX11_takesPut_l2_s
  refine z_iload_n C 2 2 dX11_takesPut_2 rfl rfl ?_
  refine z_aload_n C 0 0 dX11_takesPut_3 rfl rfl ?_
  refine z_getR (k := 0) C cl11 h0 rfl gw_7_10 rfl dX11_takesPut_4 ?_
  have j1 : kd (v0 + 1) = 36 := zkd C h0 (k := 0) rfl
  refine z_iconst C dX11_takesPut_7 rfl ?_
  refine z_iald C j1 rfl (by decide) dX11_takesPut_8 (fun j2 => ?_)
  refine z_icmp_ge C 30 dX11_takesPut_9 rfl (fun _ => ?_) (fun _ => ?_)
  · exact z_vret C hr (Nat.le_of_ble_eq_true rfl) dX11_takesPut_30 rfl
  · refine z_aload_n C 0 0 dX11_takesPut_12 rfl rfl ?_
    refine z_getR (k := 29) C cl11 h0 rfl gw_7_39 rfl dX11_takesPut_13 ?_
    have j3 : kd (v0 + 16) = 44 := zkd C h0 (k := 29) rfl
    refine z_iload_n C 2 2 dX11_takesPut_16 rfl rfl ?_
    refine z_aload_n C 0 0 dX11_takesPut_17 rfl rfl ?_
    refine z_iload_n C 1 1 dX11_takesPut_18 rfl rfl ?_
    refine z_iload_n C 2 2 dX11_takesPut_19 rfl rfl ?_
    refine z_callV_pB (As := [.int v1, .int v2]) (rest := [.int v2, .ref (B + (v0 + 16))]) C rfl (ctX11_isIn (zG_of C) v0 v1 v2 h0 M) cw_RX11_300 rfl (okM_X11_isIn) rfl cl11 h0 (okR_of rfl) (Nat.le_of_ble_eq_true rfl) dX11_takesPut_20 (fun qj4 _ => ?_)
    refine z_zast C j3 rfl (by decide) dX11_takesPut_23 (fun _ => ?_)
    refine z_iinc C 2 2 (v := v2) (v1 := (v2 + (1 : Int32))) (ls1 := [(2, .int (v2 + (1 : Int32))), (0, .ref (B + v0)), (1, .int v1)]) dX11_takesPut_24 rfl rfl (by decide) rfl ?_
    refine z_goto C 2 dX11_takesPut_27 rfl ?_
    exact z_jump (ls1 := [(0, .ref (B + v0)), (1, .int v1), (2, .int (v2 + (1 : Int32)))]) (Nat.le_of_ble_eq_true rfl) [1, 2, 0] rfl (hk2 (v2 + (1 : Int32)) (wI M (v0 + 16) v2.toNatClampNeg (vp_nar .boolean (bI qj4))))
theorem z_fX11_takesPut_l2_i {p : Program} {l : Launch} {e : Env} {s : State} {m : MethodId} {args : Array Value} {below : List Frame} {meth : Method} {c : Code} {D : va_G} {cy : Nat → ClassId} {B : Nat} {kd : Nat → Nat} {n : Nat} {sa sv : Nat → Nat} (C : zC p l s m args meth c D cy B kd n sa sv RX11 cX11_takesPut 3) (ht : ∀ x ∈ c.exceptionTable.toList, False) (hr : meth.sig.returnType = none) {b0 : Mem} (N : Nat) (v0 : Nat) (v1 : Int32) (h0 : kd v0 = 11)  (fu : Nat) : ∀ (v2 : Int32) (M : Mem), Z p l e (rmz 2 0) s m args below meth c (vx_MQ below (QcR D cy B kd n (cvV b0)) (XcR D cy B kd n (cvV b0)) args s 0 (6 * 0) (AA B kd n)) D cy B kd n 3 b0 0 2 [(0, .ref (B + v0)), (1, .int v1), (2, .int v2)] [] M (fX11_takesPut_l2 N v0 v1 fu v2 M) := by
  induction fu with
  | zero => intro v2 M; exact z_none
  | succ fu ih => intro v2 M; exact z_fX11_takesPut_l2_s C ht hr N v0 v1 (fX11_takesPut_l2 N v0 v1 fu) v2 M h0 (fun v2 M => ih v2 M)
theorem z_fX11_takesPut_l2 {p : Program} {l : Launch} {e : Env} {s : State} {m : MethodId} {args : Array Value} {below : List Frame} {meth : Method} {c : Code} {D : va_G} {cy : Nat → ClassId} {B : Nat} {kd : Nat → Nat} {n : Nat} {sa sv : Nat → Nat} (C : zC p l s m args meth c D cy B kd n sa sv RX11 cX11_takesPut 3) (ht : ∀ x ∈ c.exceptionTable.toList, False) (hr : meth.sig.returnType = none) {b0 : Mem} (N : Nat) (v0 : Nat) (v1 : Int32) (fu : Nat) (v2 : Int32) (M : Mem) (h0 : kd v0 = 11)  : Z p l e (rmz 2 0) s m args below meth c (vx_MQ below (QcR D cy B kd n (cvV b0)) (XcR D cy B kd n (cvV b0)) args s 0 (6 * 0) (AA B kd n)) D cy B kd n 3 b0 0 2 [(0, .ref (B + v0)), (1, .int v1), (2, .int v2)] [] M (fX11_takesPut_l2 N v0 v1 fu v2 M) := z_fX11_takesPut_l2_i C ht hr N v0 v1 h0 fu v2 M
set_option maxHeartbeats 4000000 in
set_option maxRecDepth 100000 in
theorem ctX11_takesPut {l : Launch} {D : va_G} {cy : Nat → ClassId} {B : Nat} {kd : Nat → Nat} {n : Nat} {sa sv : Nat → Nat} (G : zG l kd n) (N : Nat) (v0 : Nat) (v1 : Int32) (h0 : kd v0 = 11) (M : Mem) : CT l D cy B kd n sa sv 2 0 yX11_takesPut cX11_takesPut 3 (none) cvV [.ref (B + v0), .int v1] M (fX11_takesPut N v0 v1 M) := by
  refine ct_of (by decide) G.1 G.2 (Nat.le_of_ble_eq_true rfl) (ls := [(0, .ref (B + v0)), (1, .int v1)]) rfl ?_
  intro p e s m args below meth c b0 C ht hr
  unfold fX11_takesPut
  refine z_iconst C dX11_takesPut_0 rfl ?_
  refine z_istore_n C 2 (ls1 := [(2, .int (0 : Int32)), (0, .ref (B + v0)), (1, .int v1)]) dX11_takesPut_1 rfl (by decide) rfl ?_
  exact z_jump (ls1 := [(0, .ref (B + v0)), (1, .int v1), (2, .int (0 : Int32))]) (Nat.le_of_ble_eq_true rfl) [1, 2, 0] rfl (z_fX11_takesPut_l2 C ht hr N v0 v1 N (0 : Int32) M h0)
set_option maxHeartbeats 4000000 in
set_option maxRecDepth 100000 in
theorem z_fX11_cascade_l449_s {p : Program} {l : Launch} {e : Env} {s : State} {m : MethodId} {args : Array Value} {below : List Frame} {meth : Method} {c : Code} {D : va_G} {cy : Nat → ClassId} {B : Nat} {kd : Nat → Nat} {n : Nat} {sa sv : Nat → Nat} (C : zC p l s m args meth c D cy B kd n sa sv RX11 cX11_cascade 13) (ht : ∀ x ∈ c.exceptionTable.toList, False) (hr : meth.sig.returnType = some (FieldType.int)) {b0 : Int32 × Mem} (N : Nat) (k282 : Int32 → Int32 → Int32 → Mem → Option (Int32 × Mem)) (v0 : Nat) (v3 : Int32) (v4 : Int32) (v6 : Int32) (v7 : Int32) (v8 : Int32) (v9 : Int32) (k449 : Int32 → Mem → Option (Int32 × Mem)) (v12 : Int32) (M : Mem) (h0 : kd v0 = 11) (hk282 : ∀ (v7 : Int32) (v8 : Int32) (v9 : Int32) (M : Mem), Z p l e (rmz 4 0) s m args below meth c (vx_MQ below (QcR D cy B kd n (cvI b0)) (XcR D cy B kd n (cvI b0)) args s 0 (6 * 0) (AA B kd n)) D cy B kd n 13 b0 0 282 [(0, .ref (B + v0)), (3, .int v3), (4, .int v4), (6, .int v6), (7, .int v7), (8, .int v8), (9, .int v9)] [] M (k282 v7 v8 v9 M)) (hk449 : ∀ (v12 : Int32) (M : Mem), Z p l e (rmz 4 0) s m args below meth c (vx_MQ below (QcR D cy B kd n (cvI b0)) (XcR D cy B kd n (cvI b0)) args s 0 (6 * 0) (AA B kd n)) D cy B kd n 13 b0 0 449 [(0, .ref (B + v0)), (3, .int v3), (4, .int v4), (6, .int v6), (7, .int v7), (8, .int v8), (9, .int v9), (12, .int v12)] [] M (k449 v12 M)) : Z p l e (rmz 4 0) s m args below meth c (vx_MQ below (QcR D cy B kd n (cvI b0)) (XcR D cy B kd n (cvI b0)) args s 0 (6 * 0) (AA B kd n)) D cy B kd n 13 b0 0 449 [(0, .ref (B + v0)), (3, .int v3), (4, .int v4), (6, .int v6), (7, .int v7), (8, .int v8), (9, .int v9), (12, .int v12)] [] M (fX11_cascade_l449_s N k282 v0 v3 v4 v6 v7 v8 v9 k449 v12 M) := by
  unfold fX11_cascade_l449_s
  refine z_iload C 7 dX11_cascade_449 rfl ?_
  refine z_aload_n C 0 0 dX11_cascade_451 rfl rfl ?_
  refine z_getR (k := 0) C cl11 h0 rfl gw_7_10 rfl dX11_cascade_452 ?_
  have j1 : kd (v0 + 1) = 36 := zkd C h0 (k := 0) rfl
  refine z_iconst C dX11_cascade_455 rfl ?_
  refine z_iald C j1 rfl (by decide) dX11_cascade_456 (fun j2 => ?_)
  refine z_icmp_ge C 494 dX11_cascade_457 rfl (fun _ => ?_) (fun _ => ?_)
  · refine z_iinc C 9 6 (v := v9) (v1 := (v9 + (1 : Int32))) (ls1 := [(9, .int (v9 + (1 : Int32))), (0, .ref (B + v0)), (3, .int v3), (4, .int v4), (6, .int v6), (7, .int v7), (8, .int v8), (12, .int v12)]) dX11_cascade_494 rfl rfl (by decide) rfl ?_
    refine z_goto C 282 dX11_cascade_497 rfl ?_
    exact z_jump (ls1 := [(0, .ref (B + v0)), (3, .int v3), (4, .int v4), (6, .int v6), (7, .int v7), (8, .int v8), (9, .int (v9 + (1 : Int32)))]) (Nat.le_of_ble_eq_true rfl) [1, 2, 3, 4, 5, 6, 0] rfl (hk282 v7 v8 (v9 + (1 : Int32)) M)
  · refine z_aload_n C 0 0 dX11_cascade_460 rfl rfl ?_
    refine z_getR (k := 30) C cl11 h0 rfl gw_7_40 rfl dX11_cascade_461 ?_
    have j3 : kd (v0 + 17) = 44 := zkd C h0 (k := 30) rfl
    refine z_iload C 7 dX11_cascade_464 rfl ?_
    refine z_aload_n C 0 0 dX11_cascade_466 rfl rfl ?_
    refine z_getR (k := 29) C cl11 h0 rfl gw_7_39 rfl dX11_cascade_467 ?_
    have j4 : kd (v0 + 16) = 44 := zkd C h0 (k := 29) rfl
    refine z_iload C 7 dX11_cascade_470 rfl ?_
    refine z_zald C j4 rfl (by decide) dX11_cascade_472 (fun j5 => ?_)
    refine z_zast C j3 rfl (by decide) dX11_cascade_473 (fun _ => ?_)
    refine z_aload_n C 0 0 dX11_cascade_474 rfl rfl ?_
    refine z_getR (k := 29) C cl11 h0 rfl gw_7_39 rfl dX11_cascade_475 ?_
    have j6 : kd (v0 + 16) = 44 := zkd C h0 (k := 29) rfl
    refine z_iload C 7 dX11_cascade_478 rfl ?_
    refine z_aload_n C 0 0 dX11_cascade_480 rfl rfl ?_
    refine z_getR (k := 31) C cl11 h0 rfl gw_7_41 rfl dX11_cascade_481 ?_
    have j7 : kd (v0 + 18) = 44 := zkd C h0 (k := 31) rfl
    refine z_iload C 7 dX11_cascade_484 rfl ?_
    refine z_zald C j7 rfl (by decide) dX11_cascade_486 (fun j8 => ?_)
    refine z_zast C j6 rfl (by decide) dX11_cascade_487 (fun _ => ?_)
    refine z_iinc C 12 7 (v := v12) (v1 := (v12 + (1 : Int32))) (ls1 := [(12, .int (v12 + (1 : Int32))), (0, .ref (B + v0)), (3, .int v3), (4, .int v4), (6, .int v6), (7, .int v7), (8, .int v8), (9, .int v9)]) dX11_cascade_488 rfl rfl (by decide) rfl ?_
    refine z_goto C 449 dX11_cascade_491 rfl ?_
    exact z_jump (ls1 := [(0, .ref (B + v0)), (3, .int v3), (4, .int v4), (6, .int v6), (7, .int v7), (8, .int v8), (9, .int v9), (12, .int (v12 + (1 : Int32)))]) (Nat.le_of_ble_eq_true rfl) [1, 2, 3, 4, 5, 6, 7, 0] rfl (hk449 (v12 + (1 : Int32)) (wI (wI M (v0 + 17) v12.toNatClampNeg (vp_nar .boolean (rI M (v0 + 16) v12.toNatClampNeg))) (v0 + 16) v12.toNatClampNeg (vp_nar .boolean (rI (wI M (v0 + 17) v12.toNatClampNeg (vp_nar .boolean (rI M (v0 + 16) v12.toNatClampNeg))) (v0 + 18) v12.toNatClampNeg))))
theorem z_fX11_cascade_l449_i {p : Program} {l : Launch} {e : Env} {s : State} {m : MethodId} {args : Array Value} {below : List Frame} {meth : Method} {c : Code} {D : va_G} {cy : Nat → ClassId} {B : Nat} {kd : Nat → Nat} {n : Nat} {sa sv : Nat → Nat} (C : zC p l s m args meth c D cy B kd n sa sv RX11 cX11_cascade 13) (ht : ∀ x ∈ c.exceptionTable.toList, False) (hr : meth.sig.returnType = some (FieldType.int)) {b0 : Int32 × Mem} (N : Nat) (k282 : Int32 → Int32 → Int32 → Mem → Option (Int32 × Mem)) (v0 : Nat) (v3 : Int32) (v4 : Int32) (v6 : Int32) (v7 : Int32) (v8 : Int32) (v9 : Int32) (h0 : kd v0 = 11) (hk282 : ∀ (v7 : Int32) (v8 : Int32) (v9 : Int32) (M : Mem), Z p l e (rmz 4 0) s m args below meth c (vx_MQ below (QcR D cy B kd n (cvI b0)) (XcR D cy B kd n (cvI b0)) args s 0 (6 * 0) (AA B kd n)) D cy B kd n 13 b0 0 282 [(0, .ref (B + v0)), (3, .int v3), (4, .int v4), (6, .int v6), (7, .int v7), (8, .int v8), (9, .int v9)] [] M (k282 v7 v8 v9 M)) (fu : Nat) : ∀ (v12 : Int32) (M : Mem), Z p l e (rmz 4 0) s m args below meth c (vx_MQ below (QcR D cy B kd n (cvI b0)) (XcR D cy B kd n (cvI b0)) args s 0 (6 * 0) (AA B kd n)) D cy B kd n 13 b0 0 449 [(0, .ref (B + v0)), (3, .int v3), (4, .int v4), (6, .int v6), (7, .int v7), (8, .int v8), (9, .int v9), (12, .int v12)] [] M (fX11_cascade_l449 N k282 v0 v3 v4 v6 v7 v8 v9 fu v12 M) := by
  induction fu with
  | zero => intro v12 M; exact z_none
  | succ fu ih => intro v12 M; exact z_fX11_cascade_l449_s C ht hr N k282 v0 v3 v4 v6 v7 v8 v9 (fX11_cascade_l449 N k282 v0 v3 v4 v6 v7 v8 v9 fu) v12 M h0 hk282 (fun v12 M => ih v12 M)
theorem z_fX11_cascade_l449 {p : Program} {l : Launch} {e : Env} {s : State} {m : MethodId} {args : Array Value} {below : List Frame} {meth : Method} {c : Code} {D : va_G} {cy : Nat → ClassId} {B : Nat} {kd : Nat → Nat} {n : Nat} {sa sv : Nat → Nat} (C : zC p l s m args meth c D cy B kd n sa sv RX11 cX11_cascade 13) (ht : ∀ x ∈ c.exceptionTable.toList, False) (hr : meth.sig.returnType = some (FieldType.int)) {b0 : Int32 × Mem} (N : Nat) (k282 : Int32 → Int32 → Int32 → Mem → Option (Int32 × Mem)) (v0 : Nat) (v3 : Int32) (v4 : Int32) (v6 : Int32) (v7 : Int32) (v8 : Int32) (v9 : Int32) (fu : Nat) (v12 : Int32) (M : Mem) (h0 : kd v0 = 11) (hk282 : ∀ (v7 : Int32) (v8 : Int32) (v9 : Int32) (M : Mem), Z p l e (rmz 4 0) s m args below meth c (vx_MQ below (QcR D cy B kd n (cvI b0)) (XcR D cy B kd n (cvI b0)) args s 0 (6 * 0) (AA B kd n)) D cy B kd n 13 b0 0 282 [(0, .ref (B + v0)), (3, .int v3), (4, .int v4), (6, .int v6), (7, .int v7), (8, .int v8), (9, .int v9)] [] M (k282 v7 v8 v9 M)) : Z p l e (rmz 4 0) s m args below meth c (vx_MQ below (QcR D cy B kd n (cvI b0)) (XcR D cy B kd n (cvI b0)) args s 0 (6 * 0) (AA B kd n)) D cy B kd n 13 b0 0 449 [(0, .ref (B + v0)), (3, .int v3), (4, .int v4), (6, .int v6), (7, .int v7), (8, .int v8), (9, .int v9), (12, .int v12)] [] M (fX11_cascade_l449 N k282 v0 v3 v4 v6 v7 v8 v9 fu v12 M) := z_fX11_cascade_l449_i C ht hr N k282 v0 v3 v4 v6 v7 v8 v9 h0 hk282 fu v12 M
set_option maxHeartbeats 4000000 in
set_option maxRecDepth 100000 in
theorem z_fX11_cascade_b406 {p : Program} {l : Launch} {e : Env} {s : State} {m : MethodId} {args : Array Value} {below : List Frame} {meth : Method} {c : Code} {D : va_G} {cy : Nat → ClassId} {B : Nat} {kd : Nat → Nat} {n : Nat} {sa sv : Nat → Nat} (C : zC p l s m args meth c D cy B kd n sa sv RX11 cX11_cascade 13) (ht : ∀ x ∈ c.exceptionTable.toList, False) (hr : meth.sig.returnType = some (FieldType.int)) {b0 : Int32 × Mem}  (N : Nat) (k282 : Int32 → Int32 → Int32 → Mem → Option (Int32 × Mem)) (k323 : Int32 → Int32 → Int32 → Mem → Option (Int32 × Mem)) (v0 : Nat) (v3 : Int32) (v4 : Int32) (v6 : Int32) (v7 : Int32) (v8 : Int32) (v9 : Int32) (v10 : Int32) (v12 : Int32) (s0 : Bool) (s1 : Int32) (M : Mem) (h0 : kd v0 = 11) (hk282 : ∀ (v7 : Int32) (v8 : Int32) (v9 : Int32) (M : Mem), Z p l e (rmz 4 0) s m args below meth c (vx_MQ below (QcR D cy B kd n (cvI b0)) (XcR D cy B kd n (cvI b0)) args s 0 (6 * 0) (AA B kd n)) D cy B kd n 13 b0 0 282 [(0, .ref (B + v0)), (3, .int v3), (4, .int v4), (6, .int v6), (7, .int v7), (8, .int v8), (9, .int v9)] [] M (k282 v7 v8 v9 M)) (hk323 : ∀ (v7 : Int32) (v11 : Int32) (v12 : Int32) (M : Mem), Z p l e (rmz 4 0) s m args below meth c (vx_MQ below (QcR D cy B kd n (cvI b0)) (XcR D cy B kd n (cvI b0)) args s 0 (6 * 0) (AA B kd n)) D cy B kd n 13 b0 0 323 [(0, .ref (B + v0)), (3, .int v3), (4, .int v4), (6, .int v6), (7, .int v7), (8, .int v8), (9, .int v9), (10, .int v10), (11, .int v11), (12, .int v12)] [] M (k323 v7 v11 v12 M)) : Z p l e (rmz 4 0) s m args below meth c (vx_MQ below (QcR D cy B kd n (cvI b0)) (XcR D cy B kd n (cvI b0)) args s 0 (6 * 0) (AA B kd n)) D cy B kd n 13 b0 0 406 [(0, .ref (B + v0)), (3, .int v3), (4, .int v4), (6, .int v6), (7, .int v7), (8, .int v8), (9, .int v9), (10, .int v10), (12, .int v12)] [.int (bI s0), .int s1] M (fX11_cascade_b406 N k282 k323 v0 v3 v4 v6 v7 v8 v9 v10 v12 s0 s1 M) := by
  unfold fX11_cascade_b406
  refine z_iadd C dX11_cascade_406 ?_
  refine z_istore C 11 (ls1 := [(11, .int (s1 + (bI s0))), (0, .ref (B + v0)), (3, .int v3), (4, .int v4), (6, .int v6), (7, .int v7), (8, .int v8), (9, .int v9), (10, .int v10), (12, .int v12)]) dX11_cascade_407 (by decide) rfl ?_
  refine z_iinc C 12 9 (v := v12) (v1 := (v12 + (1 : Int32))) (ls1 := [(12, .int (v12 + (1 : Int32))), (11, .int (s1 + (bI s0))), (0, .ref (B + v0)), (3, .int v3), (4, .int v4), (6, .int v6), (7, .int v7), (8, .int v8), (9, .int v9), (10, .int v10)]) dX11_cascade_409 rfl rfl (by decide) rfl ?_
  refine z_goto C 323 dX11_cascade_412 rfl ?_
  exact z_jump (ls1 := [(0, .ref (B + v0)), (3, .int v3), (4, .int v4), (6, .int v6), (7, .int v7), (8, .int v8), (9, .int v9), (10, .int v10), (11, .int (s1 + (bI s0))), (12, .int (v12 + (1 : Int32)))]) (Nat.le_of_ble_eq_true rfl) [2, 3, 4, 5, 6, 7, 8, 9, 1, 0] rfl (hk323 v7 (s1 + (bI s0)) (v12 + (1 : Int32)) M)
set_option maxHeartbeats 4000000 in
set_option maxRecDepth 100000 in
theorem z_fX11_cascade_b388 {p : Program} {l : Launch} {e : Env} {s : State} {m : MethodId} {args : Array Value} {below : List Frame} {meth : Method} {c : Code} {D : va_G} {cy : Nat → ClassId} {B : Nat} {kd : Nat → Nat} {n : Nat} {sa sv : Nat → Nat} (C : zC p l s m args meth c D cy B kd n sa sv RX11 cX11_cascade 13) (ht : ∀ x ∈ c.exceptionTable.toList, False) (hr : meth.sig.returnType = some (FieldType.int)) {b0 : Int32 × Mem}  (N : Nat) (k282 : Int32 → Int32 → Int32 → Mem → Option (Int32 × Mem)) (k323 : Int32 → Int32 → Int32 → Mem → Option (Int32 × Mem)) (v0 : Nat) (v3 : Int32) (v4 : Int32) (v6 : Int32) (v7 : Int32) (v8 : Int32) (v9 : Int32) (v10 : Int32) (v11 : Int32) (v12 : Int32) (s0 : Bool) (s1 : Int32) (s2 : Nat) (M : Mem) (h0 : kd v0 = 11) (hs2 : kd s2 = 44) (hk282 : ∀ (v7 : Int32) (v8 : Int32) (v9 : Int32) (M : Mem), Z p l e (rmz 4 0) s m args below meth c (vx_MQ below (QcR D cy B kd n (cvI b0)) (XcR D cy B kd n (cvI b0)) args s 0 (6 * 0) (AA B kd n)) D cy B kd n 13 b0 0 282 [(0, .ref (B + v0)), (3, .int v3), (4, .int v4), (6, .int v6), (7, .int v7), (8, .int v8), (9, .int v9)] [] M (k282 v7 v8 v9 M)) (hk323 : ∀ (v7 : Int32) (v11 : Int32) (v12 : Int32) (M : Mem), Z p l e (rmz 4 0) s m args below meth c (vx_MQ below (QcR D cy B kd n (cvI b0)) (XcR D cy B kd n (cvI b0)) args s 0 (6 * 0) (AA B kd n)) D cy B kd n 13 b0 0 323 [(0, .ref (B + v0)), (3, .int v3), (4, .int v4), (6, .int v6), (7, .int v7), (8, .int v8), (9, .int v9), (10, .int v10), (11, .int v11), (12, .int v12)] [] M (k323 v7 v11 v12 M)) : Z p l e (rmz 4 0) s m args below meth c (vx_MQ below (QcR D cy B kd n (cvI b0)) (XcR D cy B kd n (cvI b0)) args s 0 (6 * 0) (AA B kd n)) D cy B kd n 13 b0 0 388 [(0, .ref (B + v0)), (3, .int v3), (4, .int v4), (6, .int v6), (7, .int v7), (8, .int v8), (9, .int v9), (10, .int v10), (11, .int v11), (12, .int v12)] [.int (bI s0), .int s1, .ref (B + s2)] M (fX11_cascade_b388 N k282 k323 v0 v3 v4 v6 v7 v8 v9 v10 v11 v12 s0 s1 s2 M) := by
  unfold fX11_cascade_b388
  refine z_zast C hs2 rfl (by decide) dX11_cascade_388 (fun _ => ?_)
  refine z_iload C 8 dX11_cascade_389 rfl ?_
  refine z_aload_n C 0 0 dX11_cascade_391 rfl rfl ?_
  refine z_getR (k := 31) C cl11 h0 rfl gw_7_41 rfl dX11_cascade_392 ?_
  have j1 : kd (v0 + 18) = 44 := zkd C h0 (k := 31) rfl
  refine z_iload C 9 dX11_cascade_395 rfl ?_
  refine z_zald C j1 rfl (by decide) dX11_cascade_397 (fun j2 => ?_)
  refine z_if_eq C 405 dX11_cascade_398 rfl (fun _ => ?_) (fun _ => ?_)
  · refine z_iconst C dX11_cascade_405 rfl ?_
    exact z_jump (ls1 := [(0, .ref (B + v0)), (3, .int v3), (4, .int v4), (6, .int v6), (7, .int v7), (8, .int v8), (9, .int v9), (10, .int v10), (12, .int v12)]) (Nat.le_of_ble_eq_true rfl) [0, 1, 2, 3, 4, 5, 6, 7, 9] rfl (z_fX11_cascade_b406 C ht hr N k282 k323 v0 v3 v4 v6 v7 v8 v9 v10 v12 false v11 (wI M s2 s1.toNatClampNeg (vp_nar .boolean (bI s0))) h0 hk282 hk323)
  · refine z_iconst C dX11_cascade_401 rfl ?_
    refine z_goto C 406 dX11_cascade_402 rfl ?_
    exact z_jump (ls1 := [(0, .ref (B + v0)), (3, .int v3), (4, .int v4), (6, .int v6), (7, .int v7), (8, .int v8), (9, .int v9), (10, .int v10), (12, .int v12)]) (Nat.le_of_ble_eq_true rfl) [0, 1, 2, 3, 4, 5, 6, 7, 9] rfl (z_fX11_cascade_b406 C ht hr N k282 k323 v0 v3 v4 v6 v7 v8 v9 v10 v12 true v11 (wI M s2 s1.toNatClampNeg (vp_nar .boolean (bI s0))) h0 hk282 hk323)
set_option maxHeartbeats 4000000 in
set_option maxRecDepth 100000 in
theorem z_fX11_cascade_b387 {p : Program} {l : Launch} {e : Env} {s : State} {m : MethodId} {args : Array Value} {below : List Frame} {meth : Method} {c : Code} {D : va_G} {cy : Nat → ClassId} {B : Nat} {kd : Nat → Nat} {n : Nat} {sa sv : Nat → Nat} (C : zC p l s m args meth c D cy B kd n sa sv RX11 cX11_cascade 13) (ht : ∀ x ∈ c.exceptionTable.toList, False) (hr : meth.sig.returnType = some (FieldType.int)) {b0 : Int32 × Mem}  (N : Nat) (k282 : Int32 → Int32 → Int32 → Mem → Option (Int32 × Mem)) (k323 : Int32 → Int32 → Int32 → Mem → Option (Int32 × Mem)) (v0 : Nat) (v3 : Int32) (v4 : Int32) (v6 : Int32) (v7 : Int32) (v8 : Int32) (v9 : Int32) (v10 : Int32) (v11 : Int32) (v12 : Int32) (s0 : Int32) (s1 : Nat) (M : Mem) (h0 : kd v0 = 11) (hs1 : kd s1 = 44) (hk282 : ∀ (v7 : Int32) (v8 : Int32) (v9 : Int32) (M : Mem), Z p l e (rmz 4 0) s m args below meth c (vx_MQ below (QcR D cy B kd n (cvI b0)) (XcR D cy B kd n (cvI b0)) args s 0 (6 * 0) (AA B kd n)) D cy B kd n 13 b0 0 282 [(0, .ref (B + v0)), (3, .int v3), (4, .int v4), (6, .int v6), (7, .int v7), (8, .int v8), (9, .int v9)] [] M (k282 v7 v8 v9 M)) (hk323 : ∀ (v7 : Int32) (v11 : Int32) (v12 : Int32) (M : Mem), Z p l e (rmz 4 0) s m args below meth c (vx_MQ below (QcR D cy B kd n (cvI b0)) (XcR D cy B kd n (cvI b0)) args s 0 (6 * 0) (AA B kd n)) D cy B kd n 13 b0 0 323 [(0, .ref (B + v0)), (3, .int v3), (4, .int v4), (6, .int v6), (7, .int v7), (8, .int v8), (9, .int v9), (10, .int v10), (11, .int v11), (12, .int v12)] [] M (k323 v7 v11 v12 M)) : Z p l e (rmz 4 0) s m args below meth c (vx_MQ below (QcR D cy B kd n (cvI b0)) (XcR D cy B kd n (cvI b0)) args s 0 (6 * 0) (AA B kd n)) D cy B kd n 13 b0 0 387 [(0, .ref (B + v0)), (3, .int v3), (4, .int v4), (6, .int v6), (7, .int v7), (8, .int v8), (9, .int v9), (10, .int v10), (11, .int v11), (12, .int v12)] [.int s0, .ref (B + s1)] M (fX11_cascade_b387 N k282 k323 v0 v3 v4 v6 v7 v8 v9 v10 v11 v12 s0 s1 M) := by
  unfold fX11_cascade_b387
  refine z_iconst C dX11_cascade_387 rfl ?_
  exact z_jump (ls1 := [(0, .ref (B + v0)), (3, .int v3), (4, .int v4), (6, .int v6), (7, .int v7), (8, .int v8), (9, .int v9), (10, .int v10), (11, .int v11), (12, .int v12)]) (Nat.le_of_ble_eq_true rfl) [0, 1, 2, 3, 4, 5, 6, 7, 8, 9] rfl (z_fX11_cascade_b388 C ht hr N k282 k323 v0 v3 v4 v6 v7 v8 v9 v10 v11 v12 false s0 s1 M h0 hs1 hk282 hk323)
set_option maxHeartbeats 4000000 in
set_option maxRecDepth 100000 in
theorem z_fX11_cascade_b351 {p : Program} {l : Launch} {e : Env} {s : State} {m : MethodId} {args : Array Value} {below : List Frame} {meth : Method} {c : Code} {D : va_G} {cy : Nat → ClassId} {B : Nat} {kd : Nat → Nat} {n : Nat} {sa sv : Nat → Nat} (C : zC p l s m args meth c D cy B kd n sa sv RX11 cX11_cascade 13) (ht : ∀ x ∈ c.exceptionTable.toList, False) (hr : meth.sig.returnType = some (FieldType.int)) {b0 : Int32 × Mem}  (N : Nat) (k282 : Int32 → Int32 → Int32 → Mem → Option (Int32 × Mem)) (k323 : Int32 → Int32 → Int32 → Mem → Option (Int32 × Mem)) (v0 : Nat) (v3 : Int32) (v4 : Int32) (v6 : Int32) (v8 : Int32) (v9 : Int32) (v10 : Int32) (v11 : Int32) (v12 : Int32) (s0 : Bool) (s1 : Int32) (M : Mem) (h0 : kd v0 = 11) (hk282 : ∀ (v7 : Int32) (v8 : Int32) (v9 : Int32) (M : Mem), Z p l e (rmz 4 0) s m args below meth c (vx_MQ below (QcR D cy B kd n (cvI b0)) (XcR D cy B kd n (cvI b0)) args s 0 (6 * 0) (AA B kd n)) D cy B kd n 13 b0 0 282 [(0, .ref (B + v0)), (3, .int v3), (4, .int v4), (6, .int v6), (7, .int v7), (8, .int v8), (9, .int v9)] [] M (k282 v7 v8 v9 M)) (hk323 : ∀ (v7 : Int32) (v11 : Int32) (v12 : Int32) (M : Mem), Z p l e (rmz 4 0) s m args below meth c (vx_MQ below (QcR D cy B kd n (cvI b0)) (XcR D cy B kd n (cvI b0)) args s 0 (6 * 0) (AA B kd n)) D cy B kd n 13 b0 0 323 [(0, .ref (B + v0)), (3, .int v3), (4, .int v4), (6, .int v6), (7, .int v7), (8, .int v8), (9, .int v9), (10, .int v10), (11, .int v11), (12, .int v12)] [] M (k323 v7 v11 v12 M)) : Z p l e (rmz 4 0) s m args below meth c (vx_MQ below (QcR D cy B kd n (cvI b0)) (XcR D cy B kd n (cvI b0)) args s 0 (6 * 0) (AA B kd n)) D cy B kd n 13 b0 0 351 [(0, .ref (B + v0)), (3, .int v3), (4, .int v4), (6, .int v6), (8, .int v8), (9, .int v9), (10, .int v10), (11, .int v11), (12, .int v12)] [.int (bI s0), .int s1] M (fX11_cascade_b351 N k282 k323 v0 v3 v4 v6 v8 v9 v10 v11 v12 s0 s1 M) := by
  unfold fX11_cascade_b351
  refine z_iadd C dX11_cascade_351 ?_
  refine z_istore C 7 (ls1 := [(7, .int (s1 + (bI s0))), (0, .ref (B + v0)), (3, .int v3), (4, .int v4), (6, .int v6), (8, .int v8), (9, .int v9), (10, .int v10), (11, .int v11), (12, .int v12)]) dX11_cascade_352 (by decide) rfl ?_
  refine z_aload_n C 0 1 dX11_cascade_354 rfl rfl ?_
  refine z_getR (k := 31) C cl11 h0 rfl gw_7_41 rfl dX11_cascade_355 ?_
  have j1 : kd (v0 + 18) = 44 := zkd C h0 (k := 31) rfl
  refine z_iload C 9 dX11_cascade_358 rfl ?_
  refine z_aload_n C 0 1 dX11_cascade_360 rfl rfl ?_
  refine z_getR (k := 30) C cl11 h0 rfl gw_7_40 rfl dX11_cascade_361 ?_
  have j2 : kd (v0 + 17) = 44 := zkd C h0 (k := 30) rfl
  refine z_iload C 9 dX11_cascade_364 rfl ?_
  refine z_zald C j2 rfl (by decide) dX11_cascade_366 (fun j3 => ?_)
  refine z_if_eq C 387 dX11_cascade_367 rfl (fun _ => ?_) (fun _ => ?_)
  · exact z_jump (ls1 := [(0, .ref (B + v0)), (3, .int v3), (4, .int v4), (6, .int v6), (7, .int (s1 + (bI s0))), (8, .int v8), (9, .int v9), (10, .int v10), (11, .int v11), (12, .int v12)]) (Nat.le_of_ble_eq_true rfl) [1, 2, 3, 4, 0, 5, 6, 7, 8, 9] rfl (z_fX11_cascade_b387 C ht hr N k282 k323 v0 v3 v4 v6 (s1 + (bI s0)) v8 v9 v10 v11 v12 v12 (v0 + 18) M h0 j1 hk282 hk323)
  · refine z_aload_n C 0 1 dX11_cascade_370 rfl rfl ?_
    refine z_iload C 7 dX11_cascade_371 rfl ?_
    refine z_iload C 4 dX11_cascade_373 rfl ?_
    refine z_iload C 9 dX11_cascade_375 rfl ?_
    refine z_callV_B (As := [.int v10, .int v6, .int v12]) (rest := [.int v12, .ref (B + (v0 + 18))]) C rfl (ctX11_isSaid (zG_of C) N v0 v10 v6 v12 h0 M) cw_RX11_358 rfl (okM_X11_isSaid) rfl cl11 h0 (okR_of rfl) (Nat.le_of_ble_eq_true rfl) dX11_cascade_377 (fun qj4 _ => ?_)
    refine z_if_eqB C 387 dX11_cascade_380 rfl (fun _ => ?_) (fun _ => ?_)
    · refine z_iconst C dX11_cascade_383 rfl ?_
      refine z_goto C 388 dX11_cascade_384 rfl ?_
      exact z_jump (ls1 := [(0, .ref (B + v0)), (3, .int v3), (4, .int v4), (6, .int v6), (7, .int (s1 + (bI s0))), (8, .int v8), (9, .int v9), (10, .int v10), (11, .int v11), (12, .int v12)]) (Nat.le_of_ble_eq_true rfl) [1, 2, 3, 4, 0, 5, 6, 7, 8, 9] rfl (z_fX11_cascade_b388 C ht hr N k282 k323 v0 v3 v4 v6 (s1 + (bI s0)) v8 v9 v10 v11 v12 true v12 (v0 + 18) qj4.2 h0 j1 hk282 hk323)
    · exact z_jump (ls1 := [(0, .ref (B + v0)), (3, .int v3), (4, .int v4), (6, .int v6), (7, .int (s1 + (bI s0))), (8, .int v8), (9, .int v9), (10, .int v10), (11, .int v11), (12, .int v12)]) (Nat.le_of_ble_eq_true rfl) [1, 2, 3, 4, 0, 5, 6, 7, 8, 9] rfl (z_fX11_cascade_b387 C ht hr N k282 k323 v0 v3 v4 v6 (s1 + (bI s0)) v8 v9 v10 v11 v12 v12 (v0 + 18) qj4.2 h0 j1 hk282 hk323)
set_option maxHeartbeats 4000000 in
set_option maxRecDepth 100000 in
theorem z_fX11_cascade_l323_s {p : Program} {l : Launch} {e : Env} {s : State} {m : MethodId} {args : Array Value} {below : List Frame} {meth : Method} {c : Code} {D : va_G} {cy : Nat → ClassId} {B : Nat} {kd : Nat → Nat} {n : Nat} {sa sv : Nat → Nat} (C : zC p l s m args meth c D cy B kd n sa sv RX11 cX11_cascade 13) (ht : ∀ x ∈ c.exceptionTable.toList, False) (hr : meth.sig.returnType = some (FieldType.int)) {b0 : Int32 × Mem} (N : Nat) (k282 : Int32 → Int32 → Int32 → Mem → Option (Int32 × Mem)) (v0 : Nat) (v3 : Int32) (v4 : Int32) (v6 : Int32) (v8 : Int32) (v9 : Int32) (v10 : Int32) (k323 : Int32 → Int32 → Int32 → Mem → Option (Int32 × Mem)) (v7 : Int32) (v11 : Int32) (v12 : Int32) (M : Mem) (h0 : kd v0 = 11) (hk282 : ∀ (v7 : Int32) (v8 : Int32) (v9 : Int32) (M : Mem), Z p l e (rmz 4 0) s m args below meth c (vx_MQ below (QcR D cy B kd n (cvI b0)) (XcR D cy B kd n (cvI b0)) args s 0 (6 * 0) (AA B kd n)) D cy B kd n 13 b0 0 282 [(0, .ref (B + v0)), (3, .int v3), (4, .int v4), (6, .int v6), (7, .int v7), (8, .int v8), (9, .int v9)] [] M (k282 v7 v8 v9 M)) (hk323 : ∀ (v7 : Int32) (v11 : Int32) (v12 : Int32) (M : Mem), Z p l e (rmz 4 0) s m args below meth c (vx_MQ below (QcR D cy B kd n (cvI b0)) (XcR D cy B kd n (cvI b0)) args s 0 (6 * 0) (AA B kd n)) D cy B kd n 13 b0 0 323 [(0, .ref (B + v0)), (3, .int v3), (4, .int v4), (6, .int v6), (7, .int v7), (8, .int v8), (9, .int v9), (10, .int v10), (11, .int v11), (12, .int v12)] [] M (k323 v7 v11 v12 M)) : Z p l e (rmz 4 0) s m args below meth c (vx_MQ below (QcR D cy B kd n (cvI b0)) (XcR D cy B kd n (cvI b0)) args s 0 (6 * 0) (AA B kd n)) D cy B kd n 13 b0 0 323 [(0, .ref (B + v0)), (3, .int v3), (4, .int v4), (6, .int v6), (7, .int v7), (8, .int v8), (9, .int v9), (10, .int v10), (11, .int v11), (12, .int v12)] [] M (fX11_cascade_l323_s N k282 v0 v3 v4 v6 v8 v9 v10 k323 v7 v11 v12 M) := by
  unfold fX11_cascade_l323_s
  refine z_iload C 9 dX11_cascade_323 rfl ?_
  refine z_aload_n C 0 0 dX11_cascade_325 rfl rfl ?_
  refine z_getR (k := 0) C cl11 h0 rfl gw_7_10 rfl dX11_cascade_326 ?_
  have j1 : kd (v0 + 1) = 36 := zkd C h0 (k := 0) rfl
  refine z_iconst C dX11_cascade_329 rfl ?_
  refine z_iald C j1 rfl (by decide) dX11_cascade_330 (fun j2 => ?_)
  refine z_icmp_ge C 415 dX11_cascade_331 rfl (fun _ => ?_) (fun _ => ?_)
  · refine z_iload C 8 dX11_cascade_415 rfl ?_
    refine z_if_ne C 446 dX11_cascade_417 rfl (fun _ => ?_) (fun _ => ?_)
    · refine z_iload C 2 dX11_cascade_420 rfl ?_
      refine z_if_ne C 432 dX11_cascade_422 rfl (fun _ => ?_) (fun _ => ?_)
      · refine z_iload C 6 dX11_cascade_425 rfl ?_
        refine z_iconst C dX11_cascade_427 rfl ?_
        refine z_iadd C dX11_cascade_428 ?_
        refine z_goto C 445 dX11_cascade_429 rfl ?_
        exact z_iret C hr (Nat.le_of_ble_eq_true rfl) dX11_cascade_445 rfl
      · refine z_iload C 2 dX11_cascade_432 rfl ?_
        refine z_iconst C dX11_cascade_434 rfl ?_
        refine z_icmp_ne C 443 dX11_cascade_435 rfl (fun _ => ?_) (fun _ => ?_)
        · refine z_iload C 4 dX11_cascade_438 rfl ?_
          refine z_goto C 445 dX11_cascade_440 rfl ?_
          exact z_iret C hr (Nat.le_of_ble_eq_true rfl) dX11_cascade_445 rfl
        · refine z_iload C 5 dX11_cascade_443 rfl ?_
          exact z_iret C hr (Nat.le_of_ble_eq_true rfl) dX11_cascade_445 rfl
    · refine z_iconst C dX11_cascade_446 rfl ?_
      refine z_istore C 12 (ls1 := [(12, .int (0 : Int32)), (0, .ref (B + v0)), (3, .int v3), (4, .int v4), (6, .int v6), (7, .int v7), (8, .int v8), (9, .int v9), (10, .int v10), (11, .int v11)]) dX11_cascade_447 (by decide) rfl ?_
      exact z_jump (ls1 := [(0, .ref (B + v0)), (3, .int v3), (4, .int v4), (6, .int v6), (7, .int v7), (8, .int v8), (9, .int v9), (12, .int (0 : Int32))]) (Nat.le_of_ble_eq_true rfl) [1, 2, 3, 4, 5, 6, 7, 0] rfl (z_fX11_cascade_l449 C ht hr N k282 v0 v3 v4 v6 v7 v8 v9 N (0 : Int32) M h0 hk282)
  · refine z_iload C 4 dX11_cascade_334 rfl ?_
    refine z_aload_n C 0 0 dX11_cascade_336 rfl rfl ?_
    refine z_getR (k := 29) C cl11 h0 rfl gw_7_39 rfl dX11_cascade_337 ?_
    have j3 : kd (v0 + 16) = 44 := zkd C h0 (k := 29) rfl
    refine z_iload C 9 dX11_cascade_340 rfl ?_
    refine z_zald C j3 rfl (by decide) dX11_cascade_342 (fun j4 => ?_)
    refine z_if_eq C 350 dX11_cascade_343 rfl (fun _ => ?_) (fun _ => ?_)
    · refine z_iconst C dX11_cascade_350 rfl ?_
      exact z_jump (ls1 := [(0, .ref (B + v0)), (3, .int v3), (4, .int v4), (6, .int v6), (8, .int v8), (9, .int v9), (10, .int v10), (11, .int v11), (12, .int v12)]) (Nat.le_of_ble_eq_true rfl) [0, 1, 2, 3, 5, 6, 7, 8, 9] rfl (z_fX11_cascade_b351 C ht hr N k282 k323 v0 v3 v4 v6 v8 v9 v10 v11 v12 false v7 M h0 hk282 hk323)
    · refine z_iconst C dX11_cascade_346 rfl ?_
      refine z_goto C 351 dX11_cascade_347 rfl ?_
      exact z_jump (ls1 := [(0, .ref (B + v0)), (3, .int v3), (4, .int v4), (6, .int v6), (8, .int v8), (9, .int v9), (10, .int v10), (11, .int v11), (12, .int v12)]) (Nat.le_of_ble_eq_true rfl) [0, 1, 2, 3, 5, 6, 7, 8, 9] rfl (z_fX11_cascade_b351 C ht hr N k282 k323 v0 v3 v4 v6 v8 v9 v10 v11 v12 true v7 M h0 hk282 hk323)
theorem z_fX11_cascade_l323_i {p : Program} {l : Launch} {e : Env} {s : State} {m : MethodId} {args : Array Value} {below : List Frame} {meth : Method} {c : Code} {D : va_G} {cy : Nat → ClassId} {B : Nat} {kd : Nat → Nat} {n : Nat} {sa sv : Nat → Nat} (C : zC p l s m args meth c D cy B kd n sa sv RX11 cX11_cascade 13) (ht : ∀ x ∈ c.exceptionTable.toList, False) (hr : meth.sig.returnType = some (FieldType.int)) {b0 : Int32 × Mem} (N : Nat) (k282 : Int32 → Int32 → Int32 → Mem → Option (Int32 × Mem)) (v0 : Nat) (v3 : Int32) (v4 : Int32) (v6 : Int32) (v8 : Int32) (v9 : Int32) (v10 : Int32) (h0 : kd v0 = 11) (hk282 : ∀ (v7 : Int32) (v8 : Int32) (v9 : Int32) (M : Mem), Z p l e (rmz 4 0) s m args below meth c (vx_MQ below (QcR D cy B kd n (cvI b0)) (XcR D cy B kd n (cvI b0)) args s 0 (6 * 0) (AA B kd n)) D cy B kd n 13 b0 0 282 [(0, .ref (B + v0)), (3, .int v3), (4, .int v4), (6, .int v6), (7, .int v7), (8, .int v8), (9, .int v9)] [] M (k282 v7 v8 v9 M)) (fu : Nat) : ∀ (v7 : Int32) (v11 : Int32) (v12 : Int32) (M : Mem), Z p l e (rmz 4 0) s m args below meth c (vx_MQ below (QcR D cy B kd n (cvI b0)) (XcR D cy B kd n (cvI b0)) args s 0 (6 * 0) (AA B kd n)) D cy B kd n 13 b0 0 323 [(0, .ref (B + v0)), (3, .int v3), (4, .int v4), (6, .int v6), (7, .int v7), (8, .int v8), (9, .int v9), (10, .int v10), (11, .int v11), (12, .int v12)] [] M (fX11_cascade_l323 N k282 v0 v3 v4 v6 v8 v9 v10 fu v7 v11 v12 M) := by
  induction fu with
  | zero => intro v7 v11 v12 M; exact z_none
  | succ fu ih => intro v7 v11 v12 M; exact z_fX11_cascade_l323_s C ht hr N k282 v0 v3 v4 v6 v8 v9 v10 (fX11_cascade_l323 N k282 v0 v3 v4 v6 v8 v9 v10 fu) v7 v11 v12 M h0 hk282 (fun v7 v11 v12 M => ih v7 v11 v12 M)
theorem z_fX11_cascade_l323 {p : Program} {l : Launch} {e : Env} {s : State} {m : MethodId} {args : Array Value} {below : List Frame} {meth : Method} {c : Code} {D : va_G} {cy : Nat → ClassId} {B : Nat} {kd : Nat → Nat} {n : Nat} {sa sv : Nat → Nat} (C : zC p l s m args meth c D cy B kd n sa sv RX11 cX11_cascade 13) (ht : ∀ x ∈ c.exceptionTable.toList, False) (hr : meth.sig.returnType = some (FieldType.int)) {b0 : Int32 × Mem} (N : Nat) (k282 : Int32 → Int32 → Int32 → Mem → Option (Int32 × Mem)) (v0 : Nat) (v3 : Int32) (v4 : Int32) (v6 : Int32) (v8 : Int32) (v9 : Int32) (v10 : Int32) (fu : Nat) (v7 : Int32) (v11 : Int32) (v12 : Int32) (M : Mem) (h0 : kd v0 = 11) (hk282 : ∀ (v7 : Int32) (v8 : Int32) (v9 : Int32) (M : Mem), Z p l e (rmz 4 0) s m args below meth c (vx_MQ below (QcR D cy B kd n (cvI b0)) (XcR D cy B kd n (cvI b0)) args s 0 (6 * 0) (AA B kd n)) D cy B kd n 13 b0 0 282 [(0, .ref (B + v0)), (3, .int v3), (4, .int v4), (6, .int v6), (7, .int v7), (8, .int v8), (9, .int v9)] [] M (k282 v7 v8 v9 M)) : Z p l e (rmz 4 0) s m args below meth c (vx_MQ below (QcR D cy B kd n (cvI b0)) (XcR D cy B kd n (cvI b0)) args s 0 (6 * 0) (AA B kd n)) D cy B kd n 13 b0 0 323 [(0, .ref (B + v0)), (3, .int v3), (4, .int v4), (6, .int v6), (7, .int v7), (8, .int v8), (9, .int v9), (10, .int v10), (11, .int v11), (12, .int v12)] [] M (fX11_cascade_l323 N k282 v0 v3 v4 v6 v8 v9 v10 fu v7 v11 v12 M) := z_fX11_cascade_l323_i C ht hr N k282 v0 v3 v4 v6 v8 v9 v10 h0 hk282 fu v7 v11 v12 M
set_option maxHeartbeats 4000000 in
set_option maxRecDepth 100000 in
theorem z_fX11_cascade_l282_s {p : Program} {l : Launch} {e : Env} {s : State} {m : MethodId} {args : Array Value} {below : List Frame} {meth : Method} {c : Code} {D : va_G} {cy : Nat → ClassId} {B : Nat} {kd : Nat → Nat} {n : Nat} {sa sv : Nat → Nat} (C : zC p l s m args meth c D cy B kd n sa sv RX11 cX11_cascade 13) (ht : ∀ x ∈ c.exceptionTable.toList, False) (hr : meth.sig.returnType = some (FieldType.int)) {b0 : Int32 × Mem} (N : Nat) (v0 : Nat) (v3 : Int32) (v4 : Int32) (v6 : Int32) (k282 : Int32 → Int32 → Int32 → Mem → Option (Int32 × Mem)) (v7 : Int32) (v8 : Int32) (v9 : Int32) (M : Mem) (h0 : kd v0 = 11)  (hk282 : ∀ (v7 : Int32) (v8 : Int32) (v9 : Int32) (M : Mem), Z p l e (rmz 4 0) s m args below meth c (vx_MQ below (QcR D cy B kd n (cvI b0)) (XcR D cy B kd n (cvI b0)) args s 0 (6 * 0) (AA B kd n)) D cy B kd n 13 b0 0 282 [(0, .ref (B + v0)), (3, .int v3), (4, .int v4), (6, .int v6), (7, .int v7), (8, .int v8), (9, .int v9)] [] M (k282 v7 v8 v9 M)) : Z p l e (rmz 4 0) s m args below meth c (vx_MQ below (QcR D cy B kd n (cvI b0)) (XcR D cy B kd n (cvI b0)) args s 0 (6 * 0) (AA B kd n)) D cy B kd n 13 b0 0 282 [(0, .ref (B + v0)), (3, .int v3), (4, .int v4), (6, .int v6), (7, .int v7), (8, .int v8), (9, .int v9)] [] M (fX11_cascade_l282_s N v0 v3 v4 v6 k282 v7 v8 v9 M) := by
  unfold fX11_cascade_l282_s
  refine z_iload C 6 dX11_cascade_282 rfl ?_
  refine z_aload_n C 0 0 dX11_cascade_284 rfl rfl ?_
  refine z_getR (k := 36) C cl11 h0 rfl gw_7_46 rfl dX11_cascade_285 ?_
  have j1 : kd (v0 + 23) = 45 := zkd C h0 (k := 36) rfl
  refine z_iload_n C 3 1 dX11_cascade_288 rfl rfl ?_
  refine z_iald C j1 rfl (by decide) dX11_cascade_289 (fun j2 => ?_)
  refine z_icmp_ge C 500 dX11_cascade_290 rfl (fun _ => ?_) (fun _ => ?_)
  · refine z_iconst C dX11_cascade_500 rfl ?_
    exact z_iret C hr (Nat.le_of_ble_eq_true rfl) dX11_cascade_501 rfl
  · refine z_aload_n C 0 0 dX11_cascade_293 rfl rfl ?_
    refine z_iload_n C 3 1 dX11_cascade_294 rfl rfl ?_
    refine z_iload C 6 dX11_cascade_295 rfl ?_
    refine z_callV_pI (As := [.int v3, .int v9]) (rest := []) C rfl (ctX11_inTray (zG_of C) v0 v3 v9 h0 M) cw_RX11_330 rfl (okM_X11_inTray) rfl cl11 h0 (okR_of rfl) (Nat.le_of_ble_eq_true rfl) dX11_cascade_297 (fun qj3 _ => ?_)
    refine z_istore C 10 (ls1 := [(10, .int qj3), (0, .ref (B + v0)), (3, .int v3), (4, .int v4), (6, .int v6), (7, .int v7), (8, .int v8), (9, .int v9)]) dX11_cascade_300 (by decide) rfl ?_
    refine z_aload_n C 0 1 dX11_cascade_302 rfl rfl ?_
    refine z_iload C 0 dX11_cascade_303 rfl ?_
    refine z_iload C 4 dX11_cascade_305 rfl ?_
    refine z_callV_V (As := [.int qj3, .int v6]) (rest := []) C rfl (ctX11_layBits (zG_of C) N v0 qj3 v6 h0 M) cw_RX11_355 rfl (okM_X11_layBits) rfl cl11 h0 (okR_of rfl) (Nat.le_of_ble_eq_true rfl) dX11_cascade_307 (fun qj4 _ => ?_)
    refine z_iload C 6 dX11_cascade_310 rfl ?_
    refine z_iload C 0 dX11_cascade_312 rfl ?_
    refine z_iadd C dX11_cascade_314 ?_
    refine z_istore C 8 (ls1 := [(8, .int (v8 + qj3)), (10, .int qj3), (0, .ref (B + v0)), (3, .int v3), (4, .int v4), (6, .int v6), (7, .int v7), (9, .int v9)]) dX11_cascade_315 (by decide) rfl ?_
    refine z_iconst C dX11_cascade_317 rfl ?_
    refine z_istore C 11 (ls1 := [(11, .int (0 : Int32)), (8, .int (v8 + qj3)), (10, .int qj3), (0, .ref (B + v0)), (3, .int v3), (4, .int v4), (6, .int v6), (7, .int v7), (9, .int v9)]) dX11_cascade_318 (by decide) rfl ?_
    refine z_iconst C dX11_cascade_320 rfl ?_
    refine z_istore C 12 (ls1 := [(12, .int (0 : Int32)), (11, .int (0 : Int32)), (8, .int (v8 + qj3)), (10, .int qj3), (0, .ref (B + v0)), (3, .int v3), (4, .int v4), (6, .int v6), (7, .int v7), (9, .int v9)]) dX11_cascade_321 (by decide) rfl ?_
    exact z_jump (ls1 := [(0, .ref (B + v0)), (3, .int v3), (4, .int v4), (6, .int v6), (7, .int v7), (8, .int (v8 + qj3)), (9, .int v9), (10, .int qj3), (11, .int (0 : Int32)), (12, .int (0 : Int32))]) (Nat.le_of_ble_eq_true rfl) [4, 5, 6, 7, 8, 2, 9, 3, 1, 0] rfl (z_fX11_cascade_l323 C ht hr N k282 v0 v3 v4 v6 (v8 + qj3) v9 qj3 N v7 (0 : Int32) (0 : Int32) qj4 h0 hk282)
theorem z_fX11_cascade_l282_i {p : Program} {l : Launch} {e : Env} {s : State} {m : MethodId} {args : Array Value} {below : List Frame} {meth : Method} {c : Code} {D : va_G} {cy : Nat → ClassId} {B : Nat} {kd : Nat → Nat} {n : Nat} {sa sv : Nat → Nat} (C : zC p l s m args meth c D cy B kd n sa sv RX11 cX11_cascade 13) (ht : ∀ x ∈ c.exceptionTable.toList, False) (hr : meth.sig.returnType = some (FieldType.int)) {b0 : Int32 × Mem} (N : Nat) (v0 : Nat) (v3 : Int32) (v4 : Int32) (v6 : Int32) (h0 : kd v0 = 11)  (fu : Nat) : ∀ (v7 : Int32) (v8 : Int32) (v9 : Int32) (M : Mem), Z p l e (rmz 4 0) s m args below meth c (vx_MQ below (QcR D cy B kd n (cvI b0)) (XcR D cy B kd n (cvI b0)) args s 0 (6 * 0) (AA B kd n)) D cy B kd n 13 b0 0 282 [(0, .ref (B + v0)), (3, .int v3), (4, .int v4), (6, .int v6), (7, .int v7), (8, .int v8), (9, .int v9)] [] M (fX11_cascade_l282 N v0 v3 v4 v6 fu v7 v8 v9 M) := by
  induction fu with
  | zero => intro v7 v8 v9 M; exact z_none
  | succ fu ih => intro v7 v8 v9 M; exact z_fX11_cascade_l282_s C ht hr N v0 v3 v4 v6 (fX11_cascade_l282 N v0 v3 v4 v6 fu) v7 v8 v9 M h0 (fun v7 v8 v9 M => ih v7 v8 v9 M)
theorem z_fX11_cascade_l282 {p : Program} {l : Launch} {e : Env} {s : State} {m : MethodId} {args : Array Value} {below : List Frame} {meth : Method} {c : Code} {D : va_G} {cy : Nat → ClassId} {B : Nat} {kd : Nat → Nat} {n : Nat} {sa sv : Nat → Nat} (C : zC p l s m args meth c D cy B kd n sa sv RX11 cX11_cascade 13) (ht : ∀ x ∈ c.exceptionTable.toList, False) (hr : meth.sig.returnType = some (FieldType.int)) {b0 : Int32 × Mem} (N : Nat) (v0 : Nat) (v3 : Int32) (v4 : Int32) (v6 : Int32) (fu : Nat) (v7 : Int32) (v8 : Int32) (v9 : Int32) (M : Mem) (h0 : kd v0 = 11)  : Z p l e (rmz 4 0) s m args below meth c (vx_MQ below (QcR D cy B kd n (cvI b0)) (XcR D cy B kd n (cvI b0)) args s 0 (6 * 0) (AA B kd n)) D cy B kd n 13 b0 0 282 [(0, .ref (B + v0)), (3, .int v3), (4, .int v4), (6, .int v6), (7, .int v7), (8, .int v8), (9, .int v9)] [] M (fX11_cascade_l282 N v0 v3 v4 v6 fu v7 v8 v9 M) := z_fX11_cascade_l282_i C ht hr N v0 v3 v4 v6 h0 fu v7 v8 v9 M
set_option maxHeartbeats 4000000 in
set_option maxRecDepth 100000 in
theorem z_fX11_cascade_b266 {p : Program} {l : Launch} {e : Env} {s : State} {m : MethodId} {args : Array Value} {below : List Frame} {meth : Method} {c : Code} {D : va_G} {cy : Nat → ClassId} {B : Nat} {kd : Nat → Nat} {n : Nat} {sa sv : Nat → Nat} (C : zC p l s m args meth c D cy B kd n sa sv RX11 cX11_cascade 13) (ht : ∀ x ∈ c.exceptionTable.toList, False) (hr : meth.sig.returnType = some (FieldType.int)) {b0 : Int32 × Mem}  (N : Nat) (k224 : Int32 → Mem → Option (Int32 × Mem)) (v0 : Nat) (v1 : Int32) (v2 : Int32) (v3 : Int32) (v4 : Int32) (v6 : Int32) (v7 : Int32) (s0 : Bool) (s1 : Int32) (s2 : Nat) (M : Mem) (h0 : kd v0 = 11) (hs2 : kd s2 = 44) (hk224 : ∀ (v7 : Int32) (M : Mem), Z p l e (rmz 4 0) s m args below meth c (vx_MQ below (QcR D cy B kd n (cvI b0)) (XcR D cy B kd n (cvI b0)) args s 0 (6 * 0) (AA B kd n)) D cy B kd n 13 b0 0 224 [(0, .ref (B + v0)), (1, .int v1), (2, .int v2), (3, .int v3), (4, .int v4), (6, .int v6), (7, .int v7)] [] M (k224 v7 M)) : Z p l e (rmz 4 0) s m args below meth c (vx_MQ below (QcR D cy B kd n (cvI b0)) (XcR D cy B kd n (cvI b0)) args s 0 (6 * 0) (AA B kd n)) D cy B kd n 13 b0 0 266 [(0, .ref (B + v0)), (1, .int v1), (2, .int v2), (3, .int v3), (4, .int v4), (6, .int v6), (7, .int v7)] [.int (bI s0), .int s1, .ref (B + s2)] M (fX11_cascade_b266 N k224 v0 v1 v2 v3 v4 v6 v7 s0 s1 s2 M) := by
  unfold fX11_cascade_b266
  refine z_zast C hs2 rfl (by decide) dX11_cascade_266 (fun _ => ?_)
  refine z_iinc C 7 6 (v := v7) (v1 := (v7 + (1 : Int32))) (ls1 := [(7, .int (v7 + (1 : Int32))), (0, .ref (B + v0)), (1, .int v1), (2, .int v2), (3, .int v3), (4, .int v4), (6, .int v6)]) dX11_cascade_267 rfl rfl (by decide) rfl ?_
  refine z_goto C 224 dX11_cascade_270 rfl ?_
  exact z_jump (ls1 := [(0, .ref (B + v0)), (1, .int v1), (2, .int v2), (3, .int v3), (4, .int v4), (6, .int v6), (7, .int (v7 + (1 : Int32)))]) (Nat.le_of_ble_eq_true rfl) [1, 2, 3, 4, 5, 6, 0] rfl (hk224 (v7 + (1 : Int32)) (wI M s2 s1.toNatClampNeg (vp_nar .boolean (bI s0))))
set_option maxHeartbeats 4000000 in
set_option maxRecDepth 100000 in
theorem z_fX11_cascade_l224_s {p : Program} {l : Launch} {e : Env} {s : State} {m : MethodId} {args : Array Value} {below : List Frame} {meth : Method} {c : Code} {D : va_G} {cy : Nat → ClassId} {B : Nat} {kd : Nat → Nat} {n : Nat} {sa sv : Nat → Nat} (C : zC p l s m args meth c D cy B kd n sa sv RX11 cX11_cascade 13) (ht : ∀ x ∈ c.exceptionTable.toList, False) (hr : meth.sig.returnType = some (FieldType.int)) {b0 : Int32 × Mem} (N : Nat) (v0 : Nat) (v1 : Int32) (v2 : Int32) (v3 : Int32) (v4 : Int32) (v6 : Int32) (k224 : Int32 → Mem → Option (Int32 × Mem)) (v7 : Int32) (M : Mem) (h0 : kd v0 = 11)  (hk224 : ∀ (v7 : Int32) (M : Mem), Z p l e (rmz 4 0) s m args below meth c (vx_MQ below (QcR D cy B kd n (cvI b0)) (XcR D cy B kd n (cvI b0)) args s 0 (6 * 0) (AA B kd n)) D cy B kd n 13 b0 0 224 [(0, .ref (B + v0)), (1, .int v1), (2, .int v2), (3, .int v3), (4, .int v4), (6, .int v6), (7, .int v7)] [] M (k224 v7 M)) : Z p l e (rmz 4 0) s m args below meth c (vx_MQ below (QcR D cy B kd n (cvI b0)) (XcR D cy B kd n (cvI b0)) args s 0 (6 * 0) (AA B kd n)) D cy B kd n 13 b0 0 224 [(0, .ref (B + v0)), (1, .int v1), (2, .int v2), (3, .int v3), (4, .int v4), (6, .int v6), (7, .int v7)] [] M (fX11_cascade_l224_s N v0 v1 v2 v3 v4 v6 k224 v7 M) := by
  unfold fX11_cascade_l224_s
  refine z_iload C 6 dX11_cascade_224 rfl ?_
  refine z_aload_n C 0 0 dX11_cascade_226 rfl rfl ?_
  refine z_getR (k := 36) C cl11 h0 rfl gw_7_46 rfl dX11_cascade_227 ?_
  have j1 : kd (v0 + 23) = 45 := zkd C h0 (k := 36) rfl
  refine z_iload_n C 2 2 dX11_cascade_230 rfl rfl ?_
  refine z_iald C j1 rfl (by decide) dX11_cascade_231 (fun j2 => ?_)
  refine z_icmp_ge C 273 dX11_cascade_232 rfl (fun _ => ?_) (fun _ => ?_)
  · refine z_iconst C dX11_cascade_273 rfl ?_
    refine z_istore C 7 (ls1 := [(7, .int (0 : Int32)), (0, .ref (B + v0)), (1, .int v1), (2, .int v2), (3, .int v3), (4, .int v4), (6, .int v6)]) dX11_cascade_274 (by decide) rfl ?_
    refine z_iconst C dX11_cascade_276 rfl ?_
    refine z_istore C 8 (ls1 := [(8, .int (0 : Int32)), (7, .int (0 : Int32)), (0, .ref (B + v0)), (1, .int v1), (2, .int v2), (3, .int v3), (4, .int v4), (6, .int v6)]) dX11_cascade_277 (by decide) rfl ?_
    refine z_iconst C dX11_cascade_279 rfl ?_
    refine z_istore C 9 (ls1 := [(9, .int (0 : Int32)), (8, .int (0 : Int32)), (7, .int (0 : Int32)), (0, .ref (B + v0)), (1, .int v1), (2, .int v2), (3, .int v3), (4, .int v4), (6, .int v6)]) dX11_cascade_280 (by decide) rfl ?_
    exact z_jump (ls1 := [(0, .ref (B + v0)), (3, .int v3), (4, .int v4), (6, .int v6), (7, .int (0 : Int32)), (8, .int (0 : Int32)), (9, .int (0 : Int32))]) (Nat.le_of_ble_eq_true rfl) [3, 6, 7, 8, 2, 1, 0] rfl (z_fX11_cascade_l282 C ht hr N v0 v3 v4 v6 N (0 : Int32) (0 : Int32) (0 : Int32) M h0)
  · refine z_aload_n C 0 0 dX11_cascade_235 rfl rfl ?_
    refine z_getR (k := 30) C cl11 h0 rfl gw_7_40 rfl dX11_cascade_236 ?_
    have j3 : kd (v0 + 17) = 44 := zkd C h0 (k := 30) rfl
    refine z_aload_n C 0 0 dX11_cascade_239 rfl rfl ?_
    refine z_iload_n C 2 2 dX11_cascade_240 rfl rfl ?_
    refine z_iload C 6 dX11_cascade_241 rfl ?_
    refine z_callV_pI (As := [.int v2, .int v7]) (rest := [.ref (B + (v0 + 17))]) C rfl (ctX11_inTray (zG_of C) v0 v2 v7 h0 M) cw_RX11_330 rfl (okM_X11_inTray) rfl cl11 h0 (okR_of rfl) (Nat.le_of_ble_eq_true rfl) dX11_cascade_243 (fun qj4 _ => ?_)
    refine z_aload_n C 0 0 dX11_cascade_246 rfl rfl ?_
    refine z_iload_n C 1 1 dX11_cascade_247 rfl rfl ?_
    refine z_aload_n C 0 0 dX11_cascade_248 rfl rfl ?_
    refine z_iload_n C 2 2 dX11_cascade_249 rfl rfl ?_
    refine z_iload C 6 dX11_cascade_250 rfl ?_
    refine z_callV_pI (As := [.int v2, .int v7]) (rest := [.int v1, .ref (B + v0), .int qj4, .ref (B + (v0 + 17))]) C rfl (ctX11_inTray (zG_of C) v0 v2 v7 h0 M) cw_RX11_330 rfl (okM_X11_inTray) rfl cl11 h0 (okR_of rfl) (Nat.le_of_ble_eq_true rfl) dX11_cascade_252 (fun qj5 _ => ?_)
    refine z_callV_pB (As := [.int v1, .int qj5]) (rest := [.int qj4, .ref (B + (v0 + 17))]) C rfl (ctX11_isIn (zG_of C) v0 v1 qj5 h0 M) cw_RX11_300 rfl (okM_X11_isIn) rfl cl11 h0 (okR_of rfl) (Nat.le_of_ble_eq_true rfl) dX11_cascade_255 (fun qj6 _ => ?_)
    refine z_if_neB C 265 dX11_cascade_258 rfl (fun _ => ?_) (fun _ => ?_)
    · refine z_iconst C dX11_cascade_265 rfl ?_
      exact z_jump (ls1 := [(0, .ref (B + v0)), (1, .int v1), (2, .int v2), (3, .int v3), (4, .int v4), (6, .int v6), (7, .int v7)]) (Nat.le_of_ble_eq_true rfl) [0, 1, 2, 3, 4, 5, 6] rfl (z_fX11_cascade_b266 C ht hr N k224 v0 v1 v2 v3 v4 v6 v7 false qj4 (v0 + 17) M h0 j3 hk224)
    · refine z_iconst C dX11_cascade_261 rfl ?_
      refine z_goto C 266 dX11_cascade_262 rfl ?_
      exact z_jump (ls1 := [(0, .ref (B + v0)), (1, .int v1), (2, .int v2), (3, .int v3), (4, .int v4), (6, .int v6), (7, .int v7)]) (Nat.le_of_ble_eq_true rfl) [0, 1, 2, 3, 4, 5, 6] rfl (z_fX11_cascade_b266 C ht hr N k224 v0 v1 v2 v3 v4 v6 v7 true qj4 (v0 + 17) M h0 j3 hk224)
theorem z_fX11_cascade_l224_i {p : Program} {l : Launch} {e : Env} {s : State} {m : MethodId} {args : Array Value} {below : List Frame} {meth : Method} {c : Code} {D : va_G} {cy : Nat → ClassId} {B : Nat} {kd : Nat → Nat} {n : Nat} {sa sv : Nat → Nat} (C : zC p l s m args meth c D cy B kd n sa sv RX11 cX11_cascade 13) (ht : ∀ x ∈ c.exceptionTable.toList, False) (hr : meth.sig.returnType = some (FieldType.int)) {b0 : Int32 × Mem} (N : Nat) (v0 : Nat) (v1 : Int32) (v2 : Int32) (v3 : Int32) (v4 : Int32) (v6 : Int32) (h0 : kd v0 = 11)  (fu : Nat) : ∀ (v7 : Int32) (M : Mem), Z p l e (rmz 4 0) s m args below meth c (vx_MQ below (QcR D cy B kd n (cvI b0)) (XcR D cy B kd n (cvI b0)) args s 0 (6 * 0) (AA B kd n)) D cy B kd n 13 b0 0 224 [(0, .ref (B + v0)), (1, .int v1), (2, .int v2), (3, .int v3), (4, .int v4), (6, .int v6), (7, .int v7)] [] M (fX11_cascade_l224 N v0 v1 v2 v3 v4 v6 fu v7 M) := by
  induction fu with
  | zero => intro v7 M; exact z_none
  | succ fu ih => intro v7 M; exact z_fX11_cascade_l224_s C ht hr N v0 v1 v2 v3 v4 v6 (fX11_cascade_l224 N v0 v1 v2 v3 v4 v6 fu) v7 M h0 (fun v7 M => ih v7 M)
theorem z_fX11_cascade_l224 {p : Program} {l : Launch} {e : Env} {s : State} {m : MethodId} {args : Array Value} {below : List Frame} {meth : Method} {c : Code} {D : va_G} {cy : Nat → ClassId} {B : Nat} {kd : Nat → Nat} {n : Nat} {sa sv : Nat → Nat} (C : zC p l s m args meth c D cy B kd n sa sv RX11 cX11_cascade 13) (ht : ∀ x ∈ c.exceptionTable.toList, False) (hr : meth.sig.returnType = some (FieldType.int)) {b0 : Int32 × Mem} (N : Nat) (v0 : Nat) (v1 : Int32) (v2 : Int32) (v3 : Int32) (v4 : Int32) (v6 : Int32) (fu : Nat) (v7 : Int32) (M : Mem) (h0 : kd v0 = 11)  : Z p l e (rmz 4 0) s m args below meth c (vx_MQ below (QcR D cy B kd n (cvI b0)) (XcR D cy B kd n (cvI b0)) args s 0 (6 * 0) (AA B kd n)) D cy B kd n 13 b0 0 224 [(0, .ref (B + v0)), (1, .int v1), (2, .int v2), (3, .int v3), (4, .int v4), (6, .int v6), (7, .int v7)] [] M (fX11_cascade_l224 N v0 v1 v2 v3 v4 v6 fu v7 M) := z_fX11_cascade_l224_i C ht hr N v0 v1 v2 v3 v4 v6 h0 fu v7 M
set_option maxHeartbeats 4000000 in
set_option maxRecDepth 100000 in
theorem z_fX11_cascade_l196_s {p : Program} {l : Launch} {e : Env} {s : State} {m : MethodId} {args : Array Value} {below : List Frame} {meth : Method} {c : Code} {D : va_G} {cy : Nat → ClassId} {B : Nat} {kd : Nat → Nat} {n : Nat} {sa sv : Nat → Nat} (C : zC p l s m args meth c D cy B kd n sa sv RX11 cX11_cascade 13) (ht : ∀ x ∈ c.exceptionTable.toList, False) (hr : meth.sig.returnType = some (FieldType.int)) {b0 : Int32 × Mem} (N : Nat) (v0 : Nat) (v1 : Int32) (v2 : Int32) (v3 : Int32) (v4 : Int32) (v6 : Int32) (k196 : Int32 → Mem → Option (Int32 × Mem)) (v7 : Int32) (M : Mem) (h0 : kd v0 = 11)  (hk196 : ∀ (v7 : Int32) (M : Mem), Z p l e (rmz 4 0) s m args below meth c (vx_MQ below (QcR D cy B kd n (cvI b0)) (XcR D cy B kd n (cvI b0)) args s 0 (6 * 0) (AA B kd n)) D cy B kd n 13 b0 0 196 [(0, .ref (B + v0)), (1, .int v1), (2, .int v2), (3, .int v3), (4, .int v4), (6, .int v6), (7, .int v7)] [] M (k196 v7 M)) : Z p l e (rmz 4 0) s m args below meth c (vx_MQ below (QcR D cy B kd n (cvI b0)) (XcR D cy B kd n (cvI b0)) args s 0 (6 * 0) (AA B kd n)) D cy B kd n 13 b0 0 196 [(0, .ref (B + v0)), (1, .int v1), (2, .int v2), (3, .int v3), (4, .int v4), (6, .int v6), (7, .int v7)] [] M (fX11_cascade_l196_s N v0 v1 v2 v3 v4 v6 k196 v7 M) := by
  unfold fX11_cascade_l196_s
  refine z_iload C 6 dX11_cascade_196 rfl ?_
  refine z_aload_n C 0 0 dX11_cascade_198 rfl rfl ?_
  refine z_getR (k := 0) C cl11 h0 rfl gw_7_10 rfl dX11_cascade_199 ?_
  have j1 : kd (v0 + 1) = 36 := zkd C h0 (k := 0) rfl
  refine z_iconst C dX11_cascade_202 rfl ?_
  refine z_iald C j1 rfl (by decide) dX11_cascade_203 (fun j2 => ?_)
  refine z_icmp_ge C 221 dX11_cascade_204 rfl (fun _ => ?_) (fun _ => ?_)
  · refine z_iconst C dX11_cascade_221 rfl ?_
    refine z_istore C 7 (ls1 := [(7, .int (0 : Int32)), (0, .ref (B + v0)), (1, .int v1), (2, .int v2), (3, .int v3), (4, .int v4), (6, .int v6)]) dX11_cascade_222 (by decide) rfl ?_
    exact z_jump (ls1 := [(0, .ref (B + v0)), (1, .int v1), (2, .int v2), (3, .int v3), (4, .int v4), (6, .int v6), (7, .int (0 : Int32))]) (Nat.le_of_ble_eq_true rfl) [1, 2, 3, 4, 5, 6, 0] rfl (z_fX11_cascade_l224 C ht hr N v0 v1 v2 v3 v4 v6 N (0 : Int32) M h0)
  · refine z_aload_n C 0 0 dX11_cascade_207 rfl rfl ?_
    refine z_getR (k := 30) C cl11 h0 rfl gw_7_40 rfl dX11_cascade_208 ?_
    have j3 : kd (v0 + 17) = 44 := zkd C h0 (k := 30) rfl
    refine z_iload C 6 dX11_cascade_211 rfl ?_
    refine z_iconst C dX11_cascade_213 rfl ?_
    refine z_zast C j3 rfl (by decide) dX11_cascade_214 (fun _ => ?_)
    refine z_iinc C 7 6 (v := v7) (v1 := (v7 + (1 : Int32))) (ls1 := [(7, .int (v7 + (1 : Int32))), (0, .ref (B + v0)), (1, .int v1), (2, .int v2), (3, .int v3), (4, .int v4), (6, .int v6)]) dX11_cascade_215 rfl rfl (by decide) rfl ?_
    refine z_goto C 196 dX11_cascade_218 rfl ?_
    exact z_jump (ls1 := [(0, .ref (B + v0)), (1, .int v1), (2, .int v2), (3, .int v3), (4, .int v4), (6, .int v6), (7, .int (v7 + (1 : Int32)))]) (Nat.le_of_ble_eq_true rfl) [1, 2, 3, 4, 5, 6, 0] rfl (hk196 (v7 + (1 : Int32)) (wI M (v0 + 17) v7.toNatClampNeg (vp_nar .boolean (0 : Int32))))
theorem z_fX11_cascade_l196_i {p : Program} {l : Launch} {e : Env} {s : State} {m : MethodId} {args : Array Value} {below : List Frame} {meth : Method} {c : Code} {D : va_G} {cy : Nat → ClassId} {B : Nat} {kd : Nat → Nat} {n : Nat} {sa sv : Nat → Nat} (C : zC p l s m args meth c D cy B kd n sa sv RX11 cX11_cascade 13) (ht : ∀ x ∈ c.exceptionTable.toList, False) (hr : meth.sig.returnType = some (FieldType.int)) {b0 : Int32 × Mem} (N : Nat) (v0 : Nat) (v1 : Int32) (v2 : Int32) (v3 : Int32) (v4 : Int32) (v6 : Int32) (h0 : kd v0 = 11)  (fu : Nat) : ∀ (v7 : Int32) (M : Mem), Z p l e (rmz 4 0) s m args below meth c (vx_MQ below (QcR D cy B kd n (cvI b0)) (XcR D cy B kd n (cvI b0)) args s 0 (6 * 0) (AA B kd n)) D cy B kd n 13 b0 0 196 [(0, .ref (B + v0)), (1, .int v1), (2, .int v2), (3, .int v3), (4, .int v4), (6, .int v6), (7, .int v7)] [] M (fX11_cascade_l196 N v0 v1 v2 v3 v4 v6 fu v7 M) := by
  induction fu with
  | zero => intro v7 M; exact z_none
  | succ fu ih => intro v7 M; exact z_fX11_cascade_l196_s C ht hr N v0 v1 v2 v3 v4 v6 (fX11_cascade_l196 N v0 v1 v2 v3 v4 v6 fu) v7 M h0 (fun v7 M => ih v7 M)
theorem z_fX11_cascade_l196 {p : Program} {l : Launch} {e : Env} {s : State} {m : MethodId} {args : Array Value} {below : List Frame} {meth : Method} {c : Code} {D : va_G} {cy : Nat → ClassId} {B : Nat} {kd : Nat → Nat} {n : Nat} {sa sv : Nat → Nat} (C : zC p l s m args meth c D cy B kd n sa sv RX11 cX11_cascade 13) (ht : ∀ x ∈ c.exceptionTable.toList, False) (hr : meth.sig.returnType = some (FieldType.int)) {b0 : Int32 × Mem} (N : Nat) (v0 : Nat) (v1 : Int32) (v2 : Int32) (v3 : Int32) (v4 : Int32) (v6 : Int32) (fu : Nat) (v7 : Int32) (M : Mem) (h0 : kd v0 = 11)  : Z p l e (rmz 4 0) s m args below meth c (vx_MQ below (QcR D cy B kd n (cvI b0)) (XcR D cy B kd n (cvI b0)) args s 0 (6 * 0) (AA B kd n)) D cy B kd n 13 b0 0 196 [(0, .ref (B + v0)), (1, .int v1), (2, .int v2), (3, .int v3), (4, .int v4), (6, .int v6), (7, .int v7)] [] M (fX11_cascade_l196 N v0 v1 v2 v3 v4 v6 fu v7 M) := z_fX11_cascade_l196_i C ht hr N v0 v1 v2 v3 v4 v6 h0 fu v7 M
set_option maxHeartbeats 4000000 in
set_option maxRecDepth 100000 in
theorem z_fX11_cascade_b171 {p : Program} {l : Launch} {e : Env} {s : State} {m : MethodId} {args : Array Value} {below : List Frame} {meth : Method} {c : Code} {D : va_G} {cy : Nat → ClassId} {B : Nat} {kd : Nat → Nat} {n : Nat} {sa sv : Nat → Nat} (C : zC p l s m args meth c D cy B kd n sa sv RX11 cX11_cascade 13) (ht : ∀ x ∈ c.exceptionTable.toList, False) (hr : meth.sig.returnType = some (FieldType.int)) {b0 : Int32 × Mem}  (N : Nat) (v0 : Nat) (v1 : Int32) (v2 : Int32) (v3 : Int32) (v4 : Int32) (M : Mem) (h0 : kd v0 = 11)  : Z p l e (rmz 4 0) s m args below meth c (vx_MQ below (QcR D cy B kd n (cvI b0)) (XcR D cy B kd n (cvI b0)) args s 0 (6 * 0) (AA B kd n)) D cy B kd n 13 b0 0 171 [(0, .ref (B + v0)), (1, .int v1), (2, .int v2), (3, .int v3), (4, .int v4)] [] M (fX11_cascade_b171 N v0 v1 v2 v3 v4 M) := by
  unfold fX11_cascade_b171
  refine z_aload_n C 0 0 dX11_cascade_171 rfl rfl ?_
  refine z_getI (k := 5) C cl11 h0 rfl gw_7_15 rfl dX11_cascade_172 ?_
  refine z_if_le C 180 dX11_cascade_175 rfl (fun _ => ?_) (fun _ => ?_)
  · refine z_aload_n C 0 0 dX11_cascade_180 rfl rfl ?_
    refine z_iload_n C 1 1 dX11_cascade_181 rfl rfl ?_
    refine z_iconst C dX11_cascade_182 rfl ?_
    refine z_callV_pI (As := [.int v1, .int (2 : Int32)]) (rest := []) C rfl (ctX11_get (zG_of C) v0 v1 (2 : Int32) h0 M) cw_RX11_237 rfl (okM_X11_get) rfl cl11 h0 (okR_of rfl) (Nat.le_of_ble_eq_true rfl) dX11_cascade_183 (fun qj1 _ => ?_)
    refine z_istore C 6 (ls1 := [(6, .int qj1), (0, .ref (B + v0)), (1, .int v1), (2, .int v2), (3, .int v3), (4, .int v4)]) dX11_cascade_186 (by decide) rfl ?_
    refine z_aload_n C 0 1 dX11_cascade_188 rfl rfl ?_
    refine z_iload_n C 1 2 dX11_cascade_189 rfl rfl ?_
    refine z_callV_V (As := [.int v1]) (rest := []) C rfl (ctX11_takesPut (zG_of C) N v0 v1 h0 M) cw_RX11_352 rfl (okM_X11_takesPut) rfl cl11 h0 (okR_of rfl) (Nat.le_of_ble_eq_true rfl) dX11_cascade_190 (fun qj2 _ => ?_)
    refine z_iconst C dX11_cascade_193 rfl ?_
    refine z_istore C 7 (ls1 := [(7, .int (0 : Int32)), (6, .int qj1), (0, .ref (B + v0)), (1, .int v1), (2, .int v2), (3, .int v3), (4, .int v4)]) dX11_cascade_194 (by decide) rfl ?_
    exact z_jump (ls1 := [(0, .ref (B + v0)), (1, .int v1), (2, .int v2), (3, .int v3), (4, .int v4), (6, .int qj1), (7, .int (0 : Int32))]) (Nat.le_of_ble_eq_true rfl) [2, 3, 4, 5, 6, 1, 0] rfl (z_fX11_cascade_l196 C ht hr N v0 v1 v2 v3 v4 qj1 N (0 : Int32) qj2 h0)
  · refine z_iconst C dX11_cascade_178 rfl ?_
    exact z_iret C hr (Nat.le_of_ble_eq_true rfl) dX11_cascade_179 rfl
set_option maxHeartbeats 4000000 in
set_option maxRecDepth 100000 in
theorem z_fX11_cascade_b154 {p : Program} {l : Launch} {e : Env} {s : State} {m : MethodId} {args : Array Value} {below : List Frame} {meth : Method} {c : Code} {D : va_G} {cy : Nat → ClassId} {B : Nat} {kd : Nat → Nat} {n : Nat} {sa sv : Nat → Nat} (C : zC p l s m args meth c D cy B kd n sa sv RX11 cX11_cascade 13) (ht : ∀ x ∈ c.exceptionTable.toList, False) (hr : meth.sig.returnType = some (FieldType.int)) {b0 : Int32 × Mem}  (N : Nat) (v0 : Nat) (v1 : Int32) (v2 : Int32) (v3 : Int32) (v4 : Int32) (v5 : Bool) (M : Mem) (h0 : kd v0 = 11)  : Z p l e (rmz 4 0) s m args below meth c (vx_MQ below (QcR D cy B kd n (cvI b0)) (XcR D cy B kd n (cvI b0)) args s 0 (6 * 0) (AA B kd n)) D cy B kd n 13 b0 0 154 [(0, .ref (B + v0)), (1, .int v1), (2, .int v2), (3, .int v3), (4, .int v4), (5, .int (bI v5))] [] M (fX11_cascade_b154 N v0 v1 v2 v3 v4 v5 M) := by
  unfold fX11_cascade_b154
  refine z_aload_n C 0 0 dX11_cascade_154 rfl rfl ?_
  refine z_getI (k := 5) C cl11 h0 rfl gw_7_15 rfl dX11_cascade_155 ?_
  refine z_if_ne C 171 dX11_cascade_158 rfl (fun _ => ?_) (fun _ => ?_)
  · refine z_iload C 5 dX11_cascade_161 rfl ?_
    refine z_if_neB C 171 dX11_cascade_163 rfl (fun _ => ?_) (fun _ => ?_)
    · exact z_jump (ls1 := [(0, .ref (B + v0)), (1, .int v1), (2, .int v2), (3, .int v3), (4, .int v4)]) (Nat.le_of_ble_eq_true rfl) [0, 1, 2, 3, 4] rfl (z_fX11_cascade_b171 C ht hr N v0 v1 v2 v3 v4 M h0)
    · refine z_aload_n C 0 0 dX11_cascade_166 rfl rfl ?_
      refine z_iconst C dX11_cascade_167 rfl ?_
      refine z_putI (k := 5) C cl11 h0 rfl gw_7_15 rfl rfl rfl dX11_cascade_168 ?_
      exact z_jump (ls1 := [(0, .ref (B + v0)), (1, .int v1), (2, .int v2), (3, .int v3), (4, .int v4)]) (Nat.le_of_ble_eq_true rfl) [0, 1, 2, 3, 4] rfl (z_fX11_cascade_b171 C ht hr N v0 v1 v2 v3 v4 (wI M v0 5 (3 : Int32)) h0)
  · exact z_jump (ls1 := [(0, .ref (B + v0)), (1, .int v1), (2, .int v2), (3, .int v3), (4, .int v4)]) (Nat.le_of_ble_eq_true rfl) [0, 1, 2, 3, 4] rfl (z_fX11_cascade_b171 C ht hr N v0 v1 v2 v3 v4 M h0)
set_option maxHeartbeats 4000000 in
set_option maxRecDepth 100000 in
theorem z_fX11_cascade_l111_s {p : Program} {l : Launch} {e : Env} {s : State} {m : MethodId} {args : Array Value} {below : List Frame} {meth : Method} {c : Code} {D : va_G} {cy : Nat → ClassId} {B : Nat} {kd : Nat → Nat} {n : Nat} {sa sv : Nat → Nat} (C : zC p l s m args meth c D cy B kd n sa sv RX11 cX11_cascade 13) (ht : ∀ x ∈ c.exceptionTable.toList, False) (hr : meth.sig.returnType = some (FieldType.int)) {b0 : Int32 × Mem} (N : Nat) (v0 : Nat) (v1 : Int32) (v2 : Int32) (v3 : Int32) (v4 : Int32) (M : Mem) (k111 : Bool → Int32 → Option (Int32 × Mem)) (v5 : Bool) (v6 : Int32) (h0 : kd v0 = 11)  (hk111 : ∀ (v5 : Bool) (v6 : Int32), Z p l e (rmz 4 0) s m args below meth c (vx_MQ below (QcR D cy B kd n (cvI b0)) (XcR D cy B kd n (cvI b0)) args s 0 (6 * 0) (AA B kd n)) D cy B kd n 13 b0 0 111 [(0, .ref (B + v0)), (1, .int v1), (2, .int v2), (3, .int v3), (4, .int v4), (5, .int (bI v5)), (6, .int v6)] [] M (k111 v5 v6)) : Z p l e (rmz 4 0) s m args below meth c (vx_MQ below (QcR D cy B kd n (cvI b0)) (XcR D cy B kd n (cvI b0)) args s 0 (6 * 0) (AA B kd n)) D cy B kd n 13 b0 0 111 [(0, .ref (B + v0)), (1, .int v1), (2, .int v2), (3, .int v3), (4, .int v4), (5, .int (bI v5)), (6, .int v6)] [] M (fX11_cascade_l111_s N v0 v1 v2 v3 v4 M k111 v5 v6) := by
  unfold fX11_cascade_l111_s
  refine z_iload C 5 dX11_cascade_111 rfl ?_
  refine z_if_eqB C 154 dX11_cascade_113 rfl (fun _ => ?_) (fun _ => ?_)
  · refine z_iload C 6 dX11_cascade_116 rfl ?_
    refine z_aload_n C 0 0 dX11_cascade_118 rfl rfl ?_
    refine z_getR (k := 36) C cl11 h0 rfl gw_7_46 rfl dX11_cascade_119 ?_
    have j1 : kd (v0 + 23) = 45 := zkd C h0 (k := 36) rfl
    refine z_iload_n C 3 3 dX11_cascade_122 rfl rfl ?_
    refine z_iald C j1 rfl (by decide) dX11_cascade_123 (fun j2 => ?_)
    refine z_icmp_ge C 154 dX11_cascade_124 rfl (fun _ => ?_) (fun _ => ?_)
    · exact z_jump (ls1 := [(0, .ref (B + v0)), (1, .int v1), (2, .int v2), (3, .int v3), (4, .int v4), (5, .int (bI v5))]) (Nat.le_of_ble_eq_true rfl) [0, 1, 2, 3, 4, 5] rfl (z_fX11_cascade_b154 C ht hr N v0 v1 v2 v3 v4 v5 M h0)
    · refine z_aload_n C 0 0 dX11_cascade_127 rfl rfl ?_
      refine z_getR (k := 37) C cl11 h0 rfl gw_7_47 rfl dX11_cascade_128 ?_
      have j3 : kd (v0 + 24) = 46 := zkd C h0 (k := 37) rfl
      refine z_bipush (v := 40) C dX11_cascade_131 rfl ?_
      refine z_iload_n C 3 3 dX11_cascade_133 rfl rfl ?_
      refine z_imul C dX11_cascade_134 ?_
      refine z_iload C 6 dX11_cascade_135 rfl ?_
      refine z_iadd C dX11_cascade_137 ?_
      refine z_lald C j3 rfl (by decide) dX11_cascade_138 (fun j4 => ?_)
      refine z_lconst (v := 1) C dX11_cascade_139 rfl ?_
      refine z_ldc2 C dX11_cascade_140 gw_8_218 ?_
      refine z_callS_pB (As := [.long (rJ M (v0 + 24) (((40 : Int32) * v3) + v6).toNatClampNeg), .long (1 : Int64), .long (64 : Int64)]) (rest := []) C rfl (ctX11_within (zG_of C) (rJ M (v0 + 24) (((40 : Int32) * v3) + v6).toNatClampNeg) (1 : Int64) (64 : Int64) M) cw_RX11_157 (okM_X11_within) rfl (okR_of rfl) (Nat.le_of_ble_eq_true rfl) dX11_cascade_143 (fun qj5 _ => ?_)
      refine z_istore C 5 (ls1 := [(5, .int (bI qj5)), (0, .ref (B + v0)), (1, .int v1), (2, .int v2), (3, .int v3), (4, .int v4), (6, .int v6)]) dX11_cascade_146 (by decide) rfl ?_
      refine z_iinc C 6 6 (v := v6) (v1 := (v6 + (1 : Int32))) (ls1 := [(6, .int (v6 + (1 : Int32))), (5, .int (bI qj5)), (0, .ref (B + v0)), (1, .int v1), (2, .int v2), (3, .int v3), (4, .int v4)]) dX11_cascade_148 rfl rfl (by decide) rfl ?_
      refine z_goto C 111 dX11_cascade_151 rfl ?_
      exact z_jump (ls1 := [(0, .ref (B + v0)), (1, .int v1), (2, .int v2), (3, .int v3), (4, .int v4), (5, .int (bI qj5)), (6, .int (v6 + (1 : Int32)))]) (Nat.le_of_ble_eq_true rfl) [2, 3, 4, 5, 6, 1, 0] rfl (hk111 qj5 (v6 + (1 : Int32)))
  · exact z_jump (ls1 := [(0, .ref (B + v0)), (1, .int v1), (2, .int v2), (3, .int v3), (4, .int v4), (5, .int (bI v5))]) (Nat.le_of_ble_eq_true rfl) [0, 1, 2, 3, 4, 5] rfl (z_fX11_cascade_b154 C ht hr N v0 v1 v2 v3 v4 v5 M h0)
theorem z_fX11_cascade_l111_i {p : Program} {l : Launch} {e : Env} {s : State} {m : MethodId} {args : Array Value} {below : List Frame} {meth : Method} {c : Code} {D : va_G} {cy : Nat → ClassId} {B : Nat} {kd : Nat → Nat} {n : Nat} {sa sv : Nat → Nat} (C : zC p l s m args meth c D cy B kd n sa sv RX11 cX11_cascade 13) (ht : ∀ x ∈ c.exceptionTable.toList, False) (hr : meth.sig.returnType = some (FieldType.int)) {b0 : Int32 × Mem} (N : Nat) (v0 : Nat) (v1 : Int32) (v2 : Int32) (v3 : Int32) (v4 : Int32) (M : Mem) (h0 : kd v0 = 11)  (fu : Nat) : ∀ (v5 : Bool) (v6 : Int32), Z p l e (rmz 4 0) s m args below meth c (vx_MQ below (QcR D cy B kd n (cvI b0)) (XcR D cy B kd n (cvI b0)) args s 0 (6 * 0) (AA B kd n)) D cy B kd n 13 b0 0 111 [(0, .ref (B + v0)), (1, .int v1), (2, .int v2), (3, .int v3), (4, .int v4), (5, .int (bI v5)), (6, .int v6)] [] M (fX11_cascade_l111 N v0 v1 v2 v3 v4 M fu v5 v6) := by
  induction fu with
  | zero => intro v5 v6; exact z_none
  | succ fu ih => intro v5 v6; exact z_fX11_cascade_l111_s C ht hr N v0 v1 v2 v3 v4 M (fX11_cascade_l111 N v0 v1 v2 v3 v4 M fu) v5 v6 h0 (fun v5 v6 => ih v5 v6)
theorem z_fX11_cascade_l111 {p : Program} {l : Launch} {e : Env} {s : State} {m : MethodId} {args : Array Value} {below : List Frame} {meth : Method} {c : Code} {D : va_G} {cy : Nat → ClassId} {B : Nat} {kd : Nat → Nat} {n : Nat} {sa sv : Nat → Nat} (C : zC p l s m args meth c D cy B kd n sa sv RX11 cX11_cascade 13) (ht : ∀ x ∈ c.exceptionTable.toList, False) (hr : meth.sig.returnType = some (FieldType.int)) {b0 : Int32 × Mem} (N : Nat) (v0 : Nat) (v1 : Int32) (v2 : Int32) (v3 : Int32) (v4 : Int32) (M : Mem) (fu : Nat) (v5 : Bool) (v6 : Int32) (h0 : kd v0 = 11)  : Z p l e (rmz 4 0) s m args below meth c (vx_MQ below (QcR D cy B kd n (cvI b0)) (XcR D cy B kd n (cvI b0)) args s 0 (6 * 0) (AA B kd n)) D cy B kd n 13 b0 0 111 [(0, .ref (B + v0)), (1, .int v1), (2, .int v2), (3, .int v3), (4, .int v4), (5, .int (bI v5)), (6, .int v6)] [] M (fX11_cascade_l111 N v0 v1 v2 v3 v4 M fu v5 v6) := z_fX11_cascade_l111_i C ht hr N v0 v1 v2 v3 v4 M h0 fu v5 v6
set_option maxHeartbeats 4000000 in
set_option maxRecDepth 100000 in
theorem z_fX11_cascade_b106 {p : Program} {l : Launch} {e : Env} {s : State} {m : MethodId} {args : Array Value} {below : List Frame} {meth : Method} {c : Code} {D : va_G} {cy : Nat → ClassId} {B : Nat} {kd : Nat → Nat} {n : Nat} {sa sv : Nat → Nat} (C : zC p l s m args meth c D cy B kd n sa sv RX11 cX11_cascade 13) (ht : ∀ x ∈ c.exceptionTable.toList, False) (hr : meth.sig.returnType = some (FieldType.int)) {b0 : Int32 × Mem}  (N : Nat) (v0 : Nat) (v1 : Int32) (v2 : Int32) (v3 : Int32) (v4 : Int32) (s0 : Bool) (M : Mem) (h0 : kd v0 = 11)  : Z p l e (rmz 4 0) s m args below meth c (vx_MQ below (QcR D cy B kd n (cvI b0)) (XcR D cy B kd n (cvI b0)) args s 0 (6 * 0) (AA B kd n)) D cy B kd n 13 b0 0 106 [(0, .ref (B + v0)), (1, .int v1), (2, .int v2), (3, .int v3), (4, .int v4)] [.int (bI s0)] M (fX11_cascade_b106 N v0 v1 v2 v3 v4 s0 M) := by
  unfold fX11_cascade_b106
  refine z_istore C 5 (ls1 := [(5, .int (bI s0)), (0, .ref (B + v0)), (1, .int v1), (2, .int v2), (3, .int v3), (4, .int v4)]) dX11_cascade_106 (by decide) rfl ?_
  refine z_iconst C dX11_cascade_108 rfl ?_
  refine z_istore C 6 (ls1 := [(6, .int (0 : Int32)), (5, .int (bI s0)), (0, .ref (B + v0)), (1, .int v1), (2, .int v2), (3, .int v3), (4, .int v4)]) dX11_cascade_109 (by decide) rfl ?_
  exact z_jump (ls1 := [(0, .ref (B + v0)), (1, .int v1), (2, .int v2), (3, .int v3), (4, .int v4), (5, .int (bI s0)), (6, .int (0 : Int32))]) (Nat.le_of_ble_eq_true rfl) [2, 3, 4, 5, 6, 1, 0] rfl (z_fX11_cascade_l111 C ht hr N v0 v1 v2 v3 v4 M N s0 (0 : Int32) h0)
set_option maxHeartbeats 4000000 in
set_option maxRecDepth 100000 in
theorem z_fX11_cascade_b105 {p : Program} {l : Launch} {e : Env} {s : State} {m : MethodId} {args : Array Value} {below : List Frame} {meth : Method} {c : Code} {D : va_G} {cy : Nat → ClassId} {B : Nat} {kd : Nat → Nat} {n : Nat} {sa sv : Nat → Nat} (C : zC p l s m args meth c D cy B kd n sa sv RX11 cX11_cascade 13) (ht : ∀ x ∈ c.exceptionTable.toList, False) (hr : meth.sig.returnType = some (FieldType.int)) {b0 : Int32 × Mem}  (N : Nat) (v0 : Nat) (v1 : Int32) (v2 : Int32) (v3 : Int32) (v4 : Int32) (M : Mem) (h0 : kd v0 = 11)  : Z p l e (rmz 4 0) s m args below meth c (vx_MQ below (QcR D cy B kd n (cvI b0)) (XcR D cy B kd n (cvI b0)) args s 0 (6 * 0) (AA B kd n)) D cy B kd n 13 b0 0 105 [(0, .ref (B + v0)), (1, .int v1), (2, .int v2), (3, .int v3), (4, .int v4)] [] M (fX11_cascade_b105 N v0 v1 v2 v3 v4 M) := by
  unfold fX11_cascade_b105
  refine z_iconst C dX11_cascade_105 rfl ?_
  exact z_jump (ls1 := [(0, .ref (B + v0)), (1, .int v1), (2, .int v2), (3, .int v3), (4, .int v4)]) (Nat.le_of_ble_eq_true rfl) [0, 1, 2, 3, 4] rfl (z_fX11_cascade_b106 C ht hr N v0 v1 v2 v3 v4 false M h0)
set_option maxHeartbeats 4000000 in
set_option maxRecDepth 100000 in
theorem z_fX11_cascade_b72 {p : Program} {l : Launch} {e : Env} {s : State} {m : MethodId} {args : Array Value} {below : List Frame} {meth : Method} {c : Code} {D : va_G} {cy : Nat → ClassId} {B : Nat} {kd : Nat → Nat} {n : Nat} {sa sv : Nat → Nat} (C : zC p l s m args meth c D cy B kd n sa sv RX11 cX11_cascade 13) (ht : ∀ x ∈ c.exceptionTable.toList, False) (hr : meth.sig.returnType = some (FieldType.int)) {b0 : Int32 × Mem}  (N : Nat) (v0 : Nat) (v1 : Int32) (v2 : Int32) (v3 : Int32) (v4 : Int32) (M : Mem) (h0 : kd v0 = 11)  : Z p l e (rmz 4 0) s m args below meth c (vx_MQ below (QcR D cy B kd n (cvI b0)) (XcR D cy B kd n (cvI b0)) args s 0 (6 * 0) (AA B kd n)) D cy B kd n 13 b0 0 72 [(0, .ref (B + v0)), (1, .int v1), (2, .int v2), (3, .int v3), (4, .int v4)] [] M (fX11_cascade_b72 N v0 v1 v2 v3 v4 M) := by
  unfold fX11_cascade_b72
  refine z_aload_n C 0 0 dX11_cascade_72 rfl rfl ?_
  refine z_getI (k := 5) C cl11 h0 rfl gw_7_15 rfl dX11_cascade_73 ?_
  refine z_if_ne C 105 dX11_cascade_76 rfl (fun _ => ?_) (fun _ => ?_)
  · refine z_iload C 4 dX11_cascade_79 rfl ?_
    refine z_i2l C dX11_cascade_81 ?_
    refine z_lconst (v := 0) C dX11_cascade_82 rfl ?_
    refine z_ldc2 C dX11_cascade_83 gw_8_217 ?_
    refine z_callS_pB (As := [.long v4.toInt64, .long (0 : Int64), .long (2 : Int64)]) (rest := []) C rfl (ctX11_within (zG_of C) v4.toInt64 (0 : Int64) (2 : Int64) M) cw_RX11_157 (okM_X11_within) rfl (okR_of rfl) (Nat.le_of_ble_eq_true rfl) dX11_cascade_86 (fun qj1 _ => ?_)
    refine z_if_eqB C 105 dX11_cascade_89 rfl (fun _ => ?_) (fun _ => ?_)
    · refine z_aload_n C 0 0 dX11_cascade_92 rfl rfl ?_
      refine z_iload_n C 2 2 dX11_cascade_93 rfl rfl ?_
      refine z_iconst C dX11_cascade_94 rfl ?_
      refine z_callV_pB (As := [.int v2, .int (bI false)]) (rest := []) C rfl (ctX11_areNames (zG_of C) N v0 v2 false h0 M) cw_RX11_326 rfl (okM_X11_areNames) rfl cl11 h0 (okR_of rfl) (Nat.le_of_ble_eq_true rfl) dX11_cascade_95 (fun qj2 _ => ?_)
      refine z_if_eqB C 105 dX11_cascade_98 rfl (fun _ => ?_) (fun _ => ?_)
      · refine z_iconst C dX11_cascade_101 rfl ?_
        refine z_goto C 106 dX11_cascade_102 rfl ?_
        exact z_jump (ls1 := [(0, .ref (B + v0)), (1, .int v1), (2, .int v2), (3, .int v3), (4, .int v4)]) (Nat.le_of_ble_eq_true rfl) [0, 1, 2, 3, 4] rfl (z_fX11_cascade_b106 C ht hr N v0 v1 v2 v3 v4 true M h0)
      · exact z_jump (ls1 := [(0, .ref (B + v0)), (1, .int v1), (2, .int v2), (3, .int v3), (4, .int v4)]) (Nat.le_of_ble_eq_true rfl) [0, 1, 2, 3, 4] rfl (z_fX11_cascade_b105 C ht hr N v0 v1 v2 v3 v4 M h0)
    · exact z_jump (ls1 := [(0, .ref (B + v0)), (1, .int v1), (2, .int v2), (3, .int v3), (4, .int v4)]) (Nat.le_of_ble_eq_true rfl) [0, 1, 2, 3, 4] rfl (z_fX11_cascade_b105 C ht hr N v0 v1 v2 v3 v4 M h0)
  · exact z_jump (ls1 := [(0, .ref (B + v0)), (1, .int v1), (2, .int v2), (3, .int v3), (4, .int v4)]) (Nat.le_of_ble_eq_true rfl) [0, 1, 2, 3, 4] rfl (z_fX11_cascade_b105 C ht hr N v0 v1 v2 v3 v4 M h0)
set_option maxHeartbeats 4000000 in
set_option maxRecDepth 100000 in
theorem z_fX11_cascade_b67 {p : Program} {l : Launch} {e : Env} {s : State} {m : MethodId} {args : Array Value} {below : List Frame} {meth : Method} {c : Code} {D : va_G} {cy : Nat → ClassId} {B : Nat} {kd : Nat → Nat} {n : Nat} {sa sv : Nat → Nat} (C : zC p l s m args meth c D cy B kd n sa sv RX11 cX11_cascade 13) (ht : ∀ x ∈ c.exceptionTable.toList, False) (hr : meth.sig.returnType = some (FieldType.int)) {b0 : Int32 × Mem}  (N : Nat) (v0 : Nat) (v1 : Int32) (v2 : Int32) (v3 : Int32) (v4 : Int32) (M : Mem) (h0 : kd v0 = 11)  : Z p l e (rmz 4 0) s m args below meth c (vx_MQ below (QcR D cy B kd n (cvI b0)) (XcR D cy B kd n (cvI b0)) args s 0 (6 * 0) (AA B kd n)) D cy B kd n 13 b0 0 67 [(0, .ref (B + v0)), (1, .int v1), (2, .int v2), (3, .int v3), (4, .int v4)] [] M (fX11_cascade_b67 N v0 v1 v2 v3 v4 M) := by
  unfold fX11_cascade_b67
  refine z_aload_n C 0 0 dX11_cascade_67 rfl rfl ?_
  refine z_iconst C dX11_cascade_68 rfl ?_
  refine z_putI (k := 5) C cl11 h0 rfl gw_7_15 rfl rfl rfl dX11_cascade_69 ?_
  exact z_jump (ls1 := [(0, .ref (B + v0)), (1, .int v1), (2, .int v2), (3, .int v3), (4, .int v4)]) (Nat.le_of_ble_eq_true rfl) [0, 1, 2, 3, 4] rfl (z_fX11_cascade_b72 C ht hr N v0 v1 v2 v3 v4 (wI M v0 5 (2 : Int32)) h0)
set_option maxHeartbeats 4000000 in
set_option maxRecDepth 100000 in
theorem z_fX11_cascade_b28 {p : Program} {l : Launch} {e : Env} {s : State} {m : MethodId} {args : Array Value} {below : List Frame} {meth : Method} {c : Code} {D : va_G} {cy : Nat → ClassId} {B : Nat} {kd : Nat → Nat} {n : Nat} {sa sv : Nat → Nat} (C : zC p l s m args meth c D cy B kd n sa sv RX11 cX11_cascade 13) (ht : ∀ x ∈ c.exceptionTable.toList, False) (hr : meth.sig.returnType = some (FieldType.int)) {b0 : Int32 × Mem}  (N : Nat) (v0 : Nat) (v1 : Int32) (v2 : Int32) (v3 : Int32) (v4 : Int32) (s0 : Bool) (s1 : Nat) (M : Mem) (h0 : kd v0 = 11) (hs1 : kd s1 = 11)  : Z p l e (rmz 4 0) s m args below meth c (vx_MQ below (QcR D cy B kd n (cvI b0)) (XcR D cy B kd n (cvI b0)) args s 0 (6 * 0) (AA B kd n)) D cy B kd n 13 b0 0 28 [(0, .ref (B + v0)), (1, .int v1), (2, .int v2), (3, .int v3), (4, .int v4)] [.int (bI s0), .ref (B + s1)] M (fX11_cascade_b28 N v0 v1 v2 v3 v4 s0 s1 M) := by
  unfold fX11_cascade_b28
  refine z_putI (k := 5) C cl11 hs1 rfl gw_7_15 rfl rfl rfl dX11_cascade_28 ?_
  refine z_aload_n C 0 0 dX11_cascade_31 rfl rfl ?_
  refine z_getI (k := 5) C cl11 h0 rfl gw_7_15 rfl dX11_cascade_32 ?_
  refine z_if_ne C 72 dX11_cascade_35 rfl (fun _ => ?_) (fun _ => ?_)
  · refine z_aload_n C 0 0 dX11_cascade_38 rfl rfl ?_
    refine z_iload_n C 1 1 dX11_cascade_39 rfl rfl ?_
    refine z_iconst C dX11_cascade_40 rfl ?_
    refine z_callV_pI (As := [.int v1, .int (0 : Int32)]) (rest := []) C rfl (ctX11_get (zG_of C) v0 v1 (0 : Int32) h0 (wI M s1 5 (bI s0))) cw_RX11_237 rfl (okM_X11_get) rfl cl11 h0 (okR_of rfl) (Nat.le_of_ble_eq_true rfl) dX11_cascade_41 (fun qj1 _ => ?_)
    refine z_if_ne C 67 dX11_cascade_44 rfl (fun _ => ?_) (fun _ => ?_)
    · refine z_aload_n C 0 0 dX11_cascade_47 rfl rfl ?_
      refine z_getR (k := 35) C cl11 h0 rfl gw_7_45 rfl dX11_cascade_48 ?_
      have j2 : kd (v0 + 22) = 45 := zkd C h0 (k := 35) rfl
      refine z_iload_n C 2 2 dX11_cascade_51 rfl rfl ?_
      refine z_iald C j2 rfl (by decide) dX11_cascade_52 (fun j3 => ?_)
      refine z_iconst C dX11_cascade_53 rfl ?_
      refine z_icmp_eq C 67 dX11_cascade_54 rfl (fun _ => ?_) (fun _ => ?_)
      · exact z_jump (ls1 := [(0, .ref (B + v0)), (1, .int v1), (2, .int v2), (3, .int v3), (4, .int v4)]) (Nat.le_of_ble_eq_true rfl) [0, 1, 2, 3, 4] rfl (z_fX11_cascade_b67 C ht hr N v0 v1 v2 v3 v4 (wI M s1 5 (bI s0)) h0)
      · refine z_aload_n C 0 0 dX11_cascade_57 rfl rfl ?_
        refine z_getR (k := 35) C cl11 h0 rfl gw_7_45 rfl dX11_cascade_58 ?_
        have j4 : kd (v0 + 22) = 45 := zkd C h0 (k := 35) rfl
        refine z_iload_n C 3 3 dX11_cascade_61 rfl rfl ?_
        refine z_iald C j4 rfl (by decide) dX11_cascade_62 (fun j5 => ?_)
        refine z_iconst C dX11_cascade_63 rfl ?_
        refine z_icmp_ne C 72 dX11_cascade_64 rfl (fun _ => ?_) (fun _ => ?_)
        · exact z_jump (ls1 := [(0, .ref (B + v0)), (1, .int v1), (2, .int v2), (3, .int v3), (4, .int v4)]) (Nat.le_of_ble_eq_true rfl) [0, 1, 2, 3, 4] rfl (z_fX11_cascade_b67 C ht hr N v0 v1 v2 v3 v4 (wI M s1 5 (bI s0)) h0)
        · exact z_jump (ls1 := [(0, .ref (B + v0)), (1, .int v1), (2, .int v2), (3, .int v3), (4, .int v4)]) (Nat.le_of_ble_eq_true rfl) [0, 1, 2, 3, 4] rfl (z_fX11_cascade_b72 C ht hr N v0 v1 v2 v3 v4 (wI M s1 5 (bI s0)) h0)
    · exact z_jump (ls1 := [(0, .ref (B + v0)), (1, .int v1), (2, .int v2), (3, .int v3), (4, .int v4)]) (Nat.le_of_ble_eq_true rfl) [0, 1, 2, 3, 4] rfl (z_fX11_cascade_b67 C ht hr N v0 v1 v2 v3 v4 (wI M s1 5 (bI s0)) h0)
  · exact z_jump (ls1 := [(0, .ref (B + v0)), (1, .int v1), (2, .int v2), (3, .int v3), (4, .int v4)]) (Nat.le_of_ble_eq_true rfl) [0, 1, 2, 3, 4] rfl (z_fX11_cascade_b72 C ht hr N v0 v1 v2 v3 v4 (wI M s1 5 (bI s0)) h0)
set_option maxHeartbeats 4000000 in
set_option maxRecDepth 100000 in
theorem z_fX11_cascade_b23 {p : Program} {l : Launch} {e : Env} {s : State} {m : MethodId} {args : Array Value} {below : List Frame} {meth : Method} {c : Code} {D : va_G} {cy : Nat → ClassId} {B : Nat} {kd : Nat → Nat} {n : Nat} {sa sv : Nat → Nat} (C : zC p l s m args meth c D cy B kd n sa sv RX11 cX11_cascade 13) (ht : ∀ x ∈ c.exceptionTable.toList, False) (hr : meth.sig.returnType = some (FieldType.int)) {b0 : Int32 × Mem}  (N : Nat) (v0 : Nat) (v1 : Int32) (v2 : Int32) (v3 : Int32) (v4 : Int32) (s0 : Nat) (M : Mem) (h0 : kd v0 = 11) (hs0 : kd s0 = 11)  : Z p l e (rmz 4 0) s m args below meth c (vx_MQ below (QcR D cy B kd n (cvI b0)) (XcR D cy B kd n (cvI b0)) args s 0 (6 * 0) (AA B kd n)) D cy B kd n 13 b0 0 23 [(0, .ref (B + v0)), (1, .int v1), (2, .int v2), (3, .int v3), (4, .int v4)] [.ref (B + s0)] M (fX11_cascade_b23 N v0 v1 v2 v3 v4 s0 M) := by
  unfold fX11_cascade_b23
  refine z_iconst C dX11_cascade_23 rfl ?_
  refine z_goto C 28 dX11_cascade_24 rfl ?_
  exact z_jump (ls1 := [(0, .ref (B + v0)), (1, .int v1), (2, .int v2), (3, .int v3), (4, .int v4)]) (Nat.le_of_ble_eq_true rfl) [0, 1, 2, 3, 4] rfl (z_fX11_cascade_b28 C ht hr N v0 v1 v2 v3 v4 true s0 M h0 hs0)
set_option maxHeartbeats 4000000 in
set_option maxRecDepth 100000 in
theorem ctX11_cascade {l : Launch} {D : va_G} {cy : Nat → ClassId} {B : Nat} {kd : Nat → Nat} {n : Nat} {sa sv : Nat → Nat} (G : zG l kd n) (N : Nat) (v0 : Nat) (v1 : Int32) (v2 : Int32) (v3 : Int32) (v4 : Int32) (h0 : kd v0 = 11) (M : Mem) : CT l D cy B kd n sa sv 4 0 yX11_cascade cX11_cascade 13 (some (FieldType.int)) cvI [.ref (B + v0), .int v1, .int v2, .int v3, .int v4] M (fX11_cascade N v0 v1 v2 v3 v4 M) := by
  refine ct_of (by decide) G.1 G.2 (Nat.le_of_ble_eq_true rfl) (ls := [(0, .ref (B + v0)), (1, .int v1), (2, .int v2), (3, .int v3), (4, .int v4)]) rfl ?_
  intro p e s m args below meth c b0 C ht hr
  unfold fX11_cascade
  refine z_aload_n C 0 0 dX11_cascade_0 rfl rfl ?_
  refine z_aload_n C 0 0 dX11_cascade_1 rfl rfl ?_
  refine z_iload_n C 1 1 dX11_cascade_2 rfl rfl ?_
  refine z_callV_pB (As := [.int v1]) (rest := [.ref (B + v0)]) C rfl (ctX11_isRow (zG_of C) v0 v1 h0 M) cw_RX11_256 rfl (okM_X11_isRow) rfl cl11 h0 (okR_of rfl) (Nat.le_of_ble_eq_true rfl) dX11_cascade_3 (fun qj1 _ => ?_)
  refine z_if_eqB C 23 dX11_cascade_6 rfl (fun _ => ?_) (fun _ => ?_)
  · refine z_iload_n C 2 2 dX11_cascade_9 rfl rfl ?_
    refine z_callS_pB (As := [.int v2]) (rest := [.ref (B + v0)]) C rfl (ctX11_isTray (zG_of C) v2 M) cw_RX11_320 (okM_X11_isTray) rfl (okR_of rfl) (Nat.le_of_ble_eq_true rfl) dX11_cascade_10 (fun qj2 _ => ?_)
    refine z_if_eqB C 23 dX11_cascade_13 rfl (fun _ => ?_) (fun _ => ?_)
    · refine z_iload_n C 3 3 dX11_cascade_16 rfl rfl ?_
      refine z_callS_pB (As := [.int v3]) (rest := [.ref (B + v0)]) C rfl (ctX11_isTray (zG_of C) v3 M) cw_RX11_320 (okM_X11_isTray) rfl (okR_of rfl) (Nat.le_of_ble_eq_true rfl) dX11_cascade_17 (fun qj3 _ => ?_)
      refine z_if_neB C 27 dX11_cascade_20 rfl (fun _ => ?_) (fun _ => ?_)
      · refine z_iconst C dX11_cascade_27 rfl ?_
        exact z_jump (ls1 := [(0, .ref (B + v0)), (1, .int v1), (2, .int v2), (3, .int v3), (4, .int v4)]) (Nat.le_of_ble_eq_true rfl) [0, 1, 2, 3, 4] rfl (z_fX11_cascade_b28 C ht hr N v0 v1 v2 v3 v4 false v0 M h0 h0)
      · exact z_jump (ls1 := [(0, .ref (B + v0)), (1, .int v1), (2, .int v2), (3, .int v3), (4, .int v4)]) (Nat.le_of_ble_eq_true rfl) [0, 1, 2, 3, 4] rfl (z_fX11_cascade_b23 C ht hr N v0 v1 v2 v3 v4 v0 M h0 h0)
    · exact z_jump (ls1 := [(0, .ref (B + v0)), (1, .int v1), (2, .int v2), (3, .int v3), (4, .int v4)]) (Nat.le_of_ble_eq_true rfl) [0, 1, 2, 3, 4] rfl (z_fX11_cascade_b23 C ht hr N v0 v1 v2 v3 v4 v0 M h0 h0)
  · exact z_jump (ls1 := [(0, .ref (B + v0)), (1, .int v1), (2, .int v2), (3, .int v3), (4, .int v4)]) (Nat.le_of_ble_eq_true rfl) [0, 1, 2, 3, 4] rfl (z_fX11_cascade_b23 C ht hr N v0 v1 v2 v3 v4 v0 M h0 h0)
set_option maxHeartbeats 4000000 in
set_option maxRecDepth 100000 in
theorem z_fX11_askFault_b32 {p : Program} {l : Launch} {e : Env} {s : State} {m : MethodId} {args : Array Value} {below : List Frame} {meth : Method} {c : Code} {D : va_G} {cy : Nat → ClassId} {B : Nat} {kd : Nat → Nat} {n : Nat} {sa sv : Nat → Nat} (C : zC p l s m args meth c D cy B kd n sa sv RX11 cX11_askFault 4) (ht : ∀ x ∈ c.exceptionTable.toList, False) (hr : meth.sig.returnType = some (FieldType.int)) {b0 : Int32}   (v3 : Int32) (Mo : Mem)  : Z p l e (rmz 3 0) s m args below meth c (vx_MQ below (QcR D cy B kd n ((pI Mo) b0)) (XcR D cy B kd n ((pI Mo) b0)) args s 0 (6 * 0) (AA B kd n)) D cy B kd n 4 b0 0 32 [(3, .int v3)] [] Mo (fX11_askFault_b32 v3 Mo) := by
  unfold fX11_askFault_b32
  refine z_iload_n C 3 0 dX11_askFault_32 rfl rfl ?_
  exact z_iret C hr (Nat.le_of_ble_eq_true rfl) dX11_askFault_33 rfl
set_option maxHeartbeats 4000000 in
set_option maxRecDepth 100000 in
theorem z_fX11_askFault_b30 {p : Program} {l : Launch} {e : Env} {s : State} {m : MethodId} {args : Array Value} {below : List Frame} {meth : Method} {c : Code} {D : va_G} {cy : Nat → ClassId} {B : Nat} {kd : Nat → Nat} {n : Nat} {sa sv : Nat → Nat} (C : zC p l s m args meth c D cy B kd n sa sv RX11 cX11_askFault 4) (ht : ∀ x ∈ c.exceptionTable.toList, False) (hr : meth.sig.returnType = some (FieldType.int)) {b0 : Int32}   (Mo : Mem)  : Z p l e (rmz 3 0) s m args below meth c (vx_MQ below (QcR D cy B kd n ((pI Mo) b0)) (XcR D cy B kd n ((pI Mo) b0)) args s 0 (6 * 0) (AA B kd n)) D cy B kd n 4 b0 0 30 [] [] Mo (fX11_askFault_b30 Mo) := by
  unfold fX11_askFault_b30
  refine z_iconst C dX11_askFault_30 rfl ?_
  refine z_istore_n C 3 (ls1 := [(3, .int (2 : Int32))]) dX11_askFault_31 rfl (by decide) rfl ?_
  exact z_jump (ls1 := [(3, .int (2 : Int32))]) (Nat.le_of_ble_eq_true rfl) [0] rfl (z_fX11_askFault_b32 C ht hr (2 : Int32) Mo)
set_option maxHeartbeats 4000000 in
set_option maxRecDepth 100000 in
theorem ctX11_askFault {l : Launch} {D : va_G} {cy : Nat → ClassId} {B : Nat} {kd : Nat → Nat} {n : Nat} {sa sv : Nat → Nat} (G : zG l kd n) (v0 : Nat) (v1 : Int32) (v2 : Int32) (h0 : kd v0 = 11) (Mo : Mem) : CT l D cy B kd n sa sv 3 0 yX11_askFault cX11_askFault 4 (some (FieldType.int)) (pI Mo) [.ref (B + v0), .int v1, .int v2] Mo (fX11_askFault v0 v1 v2 Mo) := by
  refine ct_of (by decide) G.1 G.2 (Nat.le_of_ble_eq_true rfl) (ls := [(0, .ref (B + v0)), (1, .int v1), (2, .int v2)]) rfl ?_
  intro p e s m args below meth c b0 C ht hr
  unfold fX11_askFault
  refine z_aload_n C 0 0 dX11_askFault_0 rfl rfl ?_
  refine z_iload_n C 1 1 dX11_askFault_1 rfl rfl ?_
  refine z_iload_n C 2 2 dX11_askFault_2 rfl rfl ?_
  refine z_callV_pI (As := [.int v1, .int v2]) (rest := []) C rfl (ctX11_rowTrayFault (zG_of C) v0 v1 v2 h0 Mo) cw_RX11_323 rfl (okM_X11_rowTrayFault) rfl cl11 h0 (okR_of rfl) (Nat.le_of_ble_eq_true rfl) dX11_askFault_3 (fun qj1 _ => ?_)
  refine z_istore_n C 3 (ls1 := [(3, .int qj1), (0, .ref (B + v0)), (1, .int v1), (2, .int v2)]) dX11_askFault_6 rfl (by decide) rfl ?_
  refine z_iload_n C 3 0 dX11_askFault_7 rfl rfl ?_
  refine z_if_ne C 32 dX11_askFault_8 rfl (fun _ => ?_) (fun _ => ?_)
  · refine z_aload_n C 0 1 dX11_askFault_11 rfl rfl ?_
    refine z_iload_n C 1 2 dX11_askFault_12 rfl rfl ?_
    refine z_iconst C dX11_askFault_13 rfl ?_
    refine z_callV_pI (As := [.int v1, .int (0 : Int32)]) (rest := []) C rfl (ctX11_get (zG_of C) v0 v1 (0 : Int32) h0 Mo) cw_RX11_237 rfl (okM_X11_get) rfl cl11 h0 (okR_of rfl) (Nat.le_of_ble_eq_true rfl) dX11_askFault_14 (fun qj2 _ => ?_)
    refine z_if_ne C 30 dX11_askFault_17 rfl (fun _ => ?_) (fun _ => ?_)
    · refine z_aload_n C 0 1 dX11_askFault_20 rfl rfl ?_
      refine z_getR (k := 35) C cl11 h0 rfl gw_7_45 rfl dX11_askFault_21 ?_
      have j3 : kd (v0 + 22) = 45 := zkd C h0 (k := 35) rfl
      refine z_iload_n C 2 3 dX11_askFault_24 rfl rfl ?_
      refine z_iald C j3 rfl (by decide) dX11_askFault_25 (fun j4 => ?_)
      refine z_iconst C dX11_askFault_26 rfl ?_
      refine z_icmp_ne C 32 dX11_askFault_27 rfl (fun _ => ?_) (fun _ => ?_)
      · exact z_jump (ls1 := []) (Nat.le_of_ble_eq_true rfl) [] rfl (z_fX11_askFault_b30 C ht hr Mo)
      · exact z_jump (ls1 := [(3, .int qj1)]) (Nat.le_of_ble_eq_true rfl) [0] rfl (z_fX11_askFault_b32 C ht hr qj1 Mo)
    · exact z_jump (ls1 := []) (Nat.le_of_ble_eq_true rfl) [] rfl (z_fX11_askFault_b30 C ht hr Mo)
  · exact z_jump (ls1 := [(3, .int qj1)]) (Nat.le_of_ble_eq_true rfl) [0] rfl (z_fX11_askFault_b32 C ht hr qj1 Mo)
set_option maxHeartbeats 4000000 in
set_option maxRecDepth 100000 in
theorem z_fX11_learns_b119 {p : Program} {l : Launch} {e : Env} {s : State} {m : MethodId} {args : Array Value} {below : List Frame} {meth : Method} {c : Code} {D : va_G} {cy : Nat → ClassId} {B : Nat} {kd : Nat → Nat} {n : Nat} {sa sv : Nat → Nat} (C : zC p l s m args meth c D cy B kd n sa sv RX11 cX11_learns 6) (ht : ∀ x ∈ c.exceptionTable.toList, False) (hr : meth.sig.returnType = none) {b0 : Mem}  (N : Nat) (k48 : Int32 → Mem → Option Mem) (v0 : Nat) (v1 : Int32) (v2 : Int32) (v3 : Int32) (M : Mem) (h0 : kd v0 = 11) (hk48 : ∀ (v3 : Int32) (M : Mem), Z p l e (rmz 5 0) s m args below meth c (vx_MQ below (QcR D cy B kd n (cvV b0)) (XcR D cy B kd n (cvV b0)) args s 0 (6 * 0) (AA B kd n)) D cy B kd n 6 b0 0 48 [(0, .ref (B + v0)), (1, .int v1), (2, .int v2), (3, .int v3)] [] M (k48 v3 M)) : Z p l e (rmz 5 0) s m args below meth c (vx_MQ below (QcR D cy B kd n (cvV b0)) (XcR D cy B kd n (cvV b0)) args s 0 (6 * 0) (AA B kd n)) D cy B kd n 6 b0 0 119 [(0, .ref (B + v0)), (1, .int v1), (2, .int v2), (3, .int v3)] [] M (fX11_learns_b119 N k48 v0 v1 v2 v3 M) := by
  unfold fX11_learns_b119
  refine z_iinc C 3 3 (v := v3) (v1 := (v3 + (1 : Int32))) (ls1 := [(3, .int (v3 + (1 : Int32))), (0, .ref (B + v0)), (1, .int v1), (2, .int v2)]) dX11_learns_119 rfl rfl (by decide) rfl ?_
  refine z_goto C 48 dX11_learns_122 rfl ?_
  exact z_jump (ls1 := [(0, .ref (B + v0)), (1, .int v1), (2, .int v2), (3, .int (v3 + (1 : Int32)))]) (Nat.le_of_ble_eq_true rfl) [1, 2, 3, 0] rfl (hk48 (v3 + (1 : Int32)) M)
set_option maxHeartbeats 4000000 in
set_option maxRecDepth 100000 in
theorem z_fX11_learns_l77_s {p : Program} {l : Launch} {e : Env} {s : State} {m : MethodId} {args : Array Value} {below : List Frame} {meth : Method} {c : Code} {D : va_G} {cy : Nat → ClassId} {B : Nat} {kd : Nat → Nat} {n : Nat} {sa sv : Nat → Nat} (C : zC p l s m args meth c D cy B kd n sa sv RX11 cX11_learns 6) (ht : ∀ x ∈ c.exceptionTable.toList, False) (hr : meth.sig.returnType = none) {b0 : Mem} (N : Nat) (k48 : Int32 → Mem → Option Mem) (v0 : Nat) (v1 : Int32) (v2 : Int32) (v3 : Int32) (v4 : Int32) (k77 : Int32 → Mem → Option Mem) (v5 : Int32) (M : Mem) (h0 : kd v0 = 11) (hk48 : ∀ (v3 : Int32) (M : Mem), Z p l e (rmz 5 0) s m args below meth c (vx_MQ below (QcR D cy B kd n (cvV b0)) (XcR D cy B kd n (cvV b0)) args s 0 (6 * 0) (AA B kd n)) D cy B kd n 6 b0 0 48 [(0, .ref (B + v0)), (1, .int v1), (2, .int v2), (3, .int v3)] [] M (k48 v3 M)) (hk77 : ∀ (v5 : Int32) (M : Mem), Z p l e (rmz 5 0) s m args below meth c (vx_MQ below (QcR D cy B kd n (cvV b0)) (XcR D cy B kd n (cvV b0)) args s 0 (6 * 0) (AA B kd n)) D cy B kd n 6 b0 0 77 [(0, .ref (B + v0)), (1, .int v1), (2, .int v2), (3, .int v3), (4, .int v4), (5, .int v5)] [] M (k77 v5 M)) : Z p l e (rmz 5 0) s m args below meth c (vx_MQ below (QcR D cy B kd n (cvV b0)) (XcR D cy B kd n (cvV b0)) args s 0 (6 * 0) (AA B kd n)) D cy B kd n 6 b0 0 77 [(0, .ref (B + v0)), (1, .int v1), (2, .int v2), (3, .int v3), (4, .int v4), (5, .int v5)] [] M (fX11_learns_l77_s N k48 v0 v1 v2 v3 v4 k77 v5 M) := by
  unfold fX11_learns_l77_s
  refine z_iload C 5 dX11_learns_77 rfl ?_
  refine z_aload_n C 0 0 dX11_learns_79 rfl rfl ?_
  refine z_iload_n C 1 1 dX11_learns_80 rfl rfl ?_
  refine z_iconst C dX11_learns_81 rfl ?_
  refine z_callV_pI (As := [.int v1, .int (2 : Int32)]) (rest := [.int v5]) C rfl (ctX11_get (zG_of C) v0 v1 (2 : Int32) h0 M) cw_RX11_237 rfl (okM_X11_get) rfl cl11 h0 (okR_of rfl) (Nat.le_of_ble_eq_true rfl) dX11_learns_82 (fun qj1 _ => ?_)
  refine z_icmp_ge C 119 dX11_learns_85 rfl (fun _ => ?_) (fun _ => ?_)
  · exact z_jump (ls1 := [(0, .ref (B + v0)), (1, .int v1), (2, .int v2), (3, .int v3)]) (Nat.le_of_ble_eq_true rfl) [0, 1, 2, 3] rfl (z_fX11_learns_b119 C ht hr N k48 v0 v1 v2 v3 M h0 hk48)
  · refine z_aload_n C 0 0 dX11_learns_88 rfl rfl ?_
    refine z_iload_n C 1 1 dX11_learns_89 rfl rfl ?_
    refine z_iload C 4 dX11_learns_90 rfl ?_
    refine z_callV_B (As := [.int v1, .int v4]) (rest := []) C rfl (ctX11_says (zG_of C) N v0 v1 v4 h0 M) cw_RX11_296 rfl (okM_X11_says) rfl cl11 h0 (okR_of rfl) (Nat.le_of_ble_eq_true rfl) dX11_learns_92 (fun qj2 _ => ?_)
    refine z_if_eqB C 119 dX11_learns_95 rfl (fun _ => ?_) (fun _ => ?_)
    · refine z_aload_n C 0 0 dX11_learns_98 rfl rfl ?_
      refine z_getR (k := 32) C cl11 h0 rfl gw_7_42 rfl dX11_learns_99 ?_
      have j3 : kd (v0 + 19) = 43 := zkd C h0 (k := 32) rfl
      refine z_aload_n C 0 0 dX11_learns_102 rfl rfl ?_
      refine z_iload_n C 1 1 dX11_learns_103 rfl rfl ?_
      refine z_iload C 5 dX11_learns_104 rfl ?_
      refine z_iload C 4 dX11_learns_106 rfl ?_
      refine z_callV_I (As := [.int v1, .int v5, .int v4]) (rest := [.ref (B + (v0 + 19))]) C rfl (ctX11_spot (zG_of C) N v0 v1 v5 v4 h0 qj2.2) cw_RX11_273 rfl (okM_X11_spot) rfl cl11 h0 (okR_of rfl) (Nat.le_of_ble_eq_true rfl) dX11_learns_108 (fun qj4 _ => ?_)
      refine z_iconst C dX11_learns_111 rfl ?_
      refine z_zast C j3 rfl (by decide) dX11_learns_112 (fun _ => ?_)
      refine z_iinc C 5 5 (v := v5) (v1 := (v5 + (1 : Int32))) (ls1 := [(5, .int (v5 + (1 : Int32))), (0, .ref (B + v0)), (1, .int v1), (2, .int v2), (3, .int v3), (4, .int v4)]) dX11_learns_113 rfl rfl (by decide) rfl ?_
      refine z_goto C 77 dX11_learns_116 rfl ?_
      exact z_jump (ls1 := [(0, .ref (B + v0)), (1, .int v1), (2, .int v2), (3, .int v3), (4, .int v4), (5, .int (v5 + (1 : Int32)))]) (Nat.le_of_ble_eq_true rfl) [1, 2, 3, 4, 5, 0] rfl (hk77 (v5 + (1 : Int32)) (wI qj4.2 (v0 + 19) qj4.1.toNatClampNeg (vp_nar .boolean (1 : Int32))))
    · exact z_jump (ls1 := [(0, .ref (B + v0)), (1, .int v1), (2, .int v2), (3, .int v3)]) (Nat.le_of_ble_eq_true rfl) [0, 1, 2, 3] rfl (z_fX11_learns_b119 C ht hr N k48 v0 v1 v2 v3 qj2.2 h0 hk48)
theorem z_fX11_learns_l77_i {p : Program} {l : Launch} {e : Env} {s : State} {m : MethodId} {args : Array Value} {below : List Frame} {meth : Method} {c : Code} {D : va_G} {cy : Nat → ClassId} {B : Nat} {kd : Nat → Nat} {n : Nat} {sa sv : Nat → Nat} (C : zC p l s m args meth c D cy B kd n sa sv RX11 cX11_learns 6) (ht : ∀ x ∈ c.exceptionTable.toList, False) (hr : meth.sig.returnType = none) {b0 : Mem} (N : Nat) (k48 : Int32 → Mem → Option Mem) (v0 : Nat) (v1 : Int32) (v2 : Int32) (v3 : Int32) (v4 : Int32) (h0 : kd v0 = 11) (hk48 : ∀ (v3 : Int32) (M : Mem), Z p l e (rmz 5 0) s m args below meth c (vx_MQ below (QcR D cy B kd n (cvV b0)) (XcR D cy B kd n (cvV b0)) args s 0 (6 * 0) (AA B kd n)) D cy B kd n 6 b0 0 48 [(0, .ref (B + v0)), (1, .int v1), (2, .int v2), (3, .int v3)] [] M (k48 v3 M)) (fu : Nat) : ∀ (v5 : Int32) (M : Mem), Z p l e (rmz 5 0) s m args below meth c (vx_MQ below (QcR D cy B kd n (cvV b0)) (XcR D cy B kd n (cvV b0)) args s 0 (6 * 0) (AA B kd n)) D cy B kd n 6 b0 0 77 [(0, .ref (B + v0)), (1, .int v1), (2, .int v2), (3, .int v3), (4, .int v4), (5, .int v5)] [] M (fX11_learns_l77 N k48 v0 v1 v2 v3 v4 fu v5 M) := by
  induction fu with
  | zero => intro v5 M; exact z_none
  | succ fu ih => intro v5 M; exact z_fX11_learns_l77_s C ht hr N k48 v0 v1 v2 v3 v4 (fX11_learns_l77 N k48 v0 v1 v2 v3 v4 fu) v5 M h0 hk48 (fun v5 M => ih v5 M)
theorem z_fX11_learns_l77 {p : Program} {l : Launch} {e : Env} {s : State} {m : MethodId} {args : Array Value} {below : List Frame} {meth : Method} {c : Code} {D : va_G} {cy : Nat → ClassId} {B : Nat} {kd : Nat → Nat} {n : Nat} {sa sv : Nat → Nat} (C : zC p l s m args meth c D cy B kd n sa sv RX11 cX11_learns 6) (ht : ∀ x ∈ c.exceptionTable.toList, False) (hr : meth.sig.returnType = none) {b0 : Mem} (N : Nat) (k48 : Int32 → Mem → Option Mem) (v0 : Nat) (v1 : Int32) (v2 : Int32) (v3 : Int32) (v4 : Int32) (fu : Nat) (v5 : Int32) (M : Mem) (h0 : kd v0 = 11) (hk48 : ∀ (v3 : Int32) (M : Mem), Z p l e (rmz 5 0) s m args below meth c (vx_MQ below (QcR D cy B kd n (cvV b0)) (XcR D cy B kd n (cvV b0)) args s 0 (6 * 0) (AA B kd n)) D cy B kd n 6 b0 0 48 [(0, .ref (B + v0)), (1, .int v1), (2, .int v2), (3, .int v3)] [] M (k48 v3 M)) : Z p l e (rmz 5 0) s m args below meth c (vx_MQ below (QcR D cy B kd n (cvV b0)) (XcR D cy B kd n (cvV b0)) args s 0 (6 * 0) (AA B kd n)) D cy B kd n 6 b0 0 77 [(0, .ref (B + v0)), (1, .int v1), (2, .int v2), (3, .int v3), (4, .int v4), (5, .int v5)] [] M (fX11_learns_l77 N k48 v0 v1 v2 v3 v4 fu v5 M) := z_fX11_learns_l77_i C ht hr N k48 v0 v1 v2 v3 v4 h0 hk48 fu v5 M
set_option maxHeartbeats 4000000 in
set_option maxRecDepth 100000 in
theorem z_fX11_learns_l48_s {p : Program} {l : Launch} {e : Env} {s : State} {m : MethodId} {args : Array Value} {below : List Frame} {meth : Method} {c : Code} {D : va_G} {cy : Nat → ClassId} {B : Nat} {kd : Nat → Nat} {n : Nat} {sa sv : Nat → Nat} (C : zC p l s m args meth c D cy B kd n sa sv RX11 cX11_learns 6) (ht : ∀ x ∈ c.exceptionTable.toList, False) (hr : meth.sig.returnType = none) {b0 : Mem} (N : Nat) (v0 : Nat) (v1 : Int32) (v2 : Int32) (k48 : Int32 → Mem → Option Mem) (v3 : Int32) (M : Mem) (h0 : kd v0 = 11)  (hk48 : ∀ (v3 : Int32) (M : Mem), Z p l e (rmz 5 0) s m args below meth c (vx_MQ below (QcR D cy B kd n (cvV b0)) (XcR D cy B kd n (cvV b0)) args s 0 (6 * 0) (AA B kd n)) D cy B kd n 6 b0 0 48 [(0, .ref (B + v0)), (1, .int v1), (2, .int v2), (3, .int v3)] [] M (k48 v3 M)) : Z p l e (rmz 5 0) s m args below meth c (vx_MQ below (QcR D cy B kd n (cvV b0)) (XcR D cy B kd n (cvV b0)) args s 0 (6 * 0) (AA B kd n)) D cy B kd n 6 b0 0 48 [(0, .ref (B + v0)), (1, .int v1), (2, .int v2), (3, .int v3)] [] M (fX11_learns_l48_s N v0 v1 v2 k48 v3 M) := by
  unfold fX11_learns_l48_s
  refine z_iload_n C 3 3 dX11_learns_48 rfl rfl ?_
  refine z_aload_n C 0 0 dX11_learns_49 rfl rfl ?_
  refine z_getR (k := 36) C cl11 h0 rfl gw_7_46 rfl dX11_learns_50 ?_
  have j1 : kd (v0 + 23) = 45 := zkd C h0 (k := 36) rfl
  refine z_iload_n C 2 2 dX11_learns_53 rfl rfl ?_
  refine z_iald C j1 rfl (by decide) dX11_learns_54 (fun j2 => ?_)
  refine z_icmp_ge C 125 dX11_learns_55 rfl (fun _ => ?_) (fun _ => ?_)
  · exact z_vret C hr (Nat.le_of_ble_eq_true rfl) dX11_learns_125 rfl
  · refine z_aload_n C 0 0 dX11_learns_58 rfl rfl ?_
    refine z_iload_n C 2 2 dX11_learns_59 rfl rfl ?_
    refine z_iload_n C 3 3 dX11_learns_60 rfl rfl ?_
    refine z_callV_pI (As := [.int v2, .int v3]) (rest := []) C rfl (ctX11_inTray (zG_of C) v0 v2 v3 h0 M) cw_RX11_330 rfl (okM_X11_inTray) rfl cl11 h0 (okR_of rfl) (Nat.le_of_ble_eq_true rfl) dX11_learns_61 (fun qj3 _ => ?_)
    refine z_istore C 4 (ls1 := [(4, .int qj3), (0, .ref (B + v0)), (1, .int v1), (2, .int v2), (3, .int v3)]) dX11_learns_64 (by decide) rfl ?_
    refine z_aload_n C 0 1 dX11_learns_66 rfl rfl ?_
    refine z_getR (k := 33) C cl11 h0 rfl gw_7_43 rfl dX11_learns_67 ?_
    have j4 : kd (v0 + 20) = 44 := zkd C h0 (k := 33) rfl
    refine z_iload C 0 dX11_learns_70 rfl ?_
    refine z_iconst C dX11_learns_72 rfl ?_
    refine z_zast C j4 rfl (by decide) dX11_learns_73 (fun _ => ?_)
    refine z_iconst C dX11_learns_74 rfl ?_
    refine z_istore C 5 (ls1 := [(5, .int (0 : Int32)), (4, .int qj3), (0, .ref (B + v0)), (1, .int v1), (2, .int v2), (3, .int v3)]) dX11_learns_75 (by decide) rfl ?_
    exact z_jump (ls1 := [(0, .ref (B + v0)), (1, .int v1), (2, .int v2), (3, .int v3), (4, .int qj3), (5, .int (0 : Int32))]) (Nat.le_of_ble_eq_true rfl) [2, 3, 4, 5, 1, 0] rfl (z_fX11_learns_l77 C ht hr N k48 v0 v1 v2 v3 qj3 N (0 : Int32) (wI M (v0 + 20) qj3.toNatClampNeg (vp_nar .boolean (1 : Int32))) h0 hk48)
theorem z_fX11_learns_l48_i {p : Program} {l : Launch} {e : Env} {s : State} {m : MethodId} {args : Array Value} {below : List Frame} {meth : Method} {c : Code} {D : va_G} {cy : Nat → ClassId} {B : Nat} {kd : Nat → Nat} {n : Nat} {sa sv : Nat → Nat} (C : zC p l s m args meth c D cy B kd n sa sv RX11 cX11_learns 6) (ht : ∀ x ∈ c.exceptionTable.toList, False) (hr : meth.sig.returnType = none) {b0 : Mem} (N : Nat) (v0 : Nat) (v1 : Int32) (v2 : Int32) (h0 : kd v0 = 11)  (fu : Nat) : ∀ (v3 : Int32) (M : Mem), Z p l e (rmz 5 0) s m args below meth c (vx_MQ below (QcR D cy B kd n (cvV b0)) (XcR D cy B kd n (cvV b0)) args s 0 (6 * 0) (AA B kd n)) D cy B kd n 6 b0 0 48 [(0, .ref (B + v0)), (1, .int v1), (2, .int v2), (3, .int v3)] [] M (fX11_learns_l48 N v0 v1 v2 fu v3 M) := by
  induction fu with
  | zero => intro v3 M; exact z_none
  | succ fu ih => intro v3 M; exact z_fX11_learns_l48_s C ht hr N v0 v1 v2 (fX11_learns_l48 N v0 v1 v2 fu) v3 M h0 (fun v3 M => ih v3 M)
theorem z_fX11_learns_l48 {p : Program} {l : Launch} {e : Env} {s : State} {m : MethodId} {args : Array Value} {below : List Frame} {meth : Method} {c : Code} {D : va_G} {cy : Nat → ClassId} {B : Nat} {kd : Nat → Nat} {n : Nat} {sa sv : Nat → Nat} (C : zC p l s m args meth c D cy B kd n sa sv RX11 cX11_learns 6) (ht : ∀ x ∈ c.exceptionTable.toList, False) (hr : meth.sig.returnType = none) {b0 : Mem} (N : Nat) (v0 : Nat) (v1 : Int32) (v2 : Int32) (fu : Nat) (v3 : Int32) (M : Mem) (h0 : kd v0 = 11)  : Z p l e (rmz 5 0) s m args below meth c (vx_MQ below (QcR D cy B kd n (cvV b0)) (XcR D cy B kd n (cvV b0)) args s 0 (6 * 0) (AA B kd n)) D cy B kd n 6 b0 0 48 [(0, .ref (B + v0)), (1, .int v1), (2, .int v2), (3, .int v3)] [] M (fX11_learns_l48 N v0 v1 v2 fu v3 M) := z_fX11_learns_l48_i C ht hr N v0 v1 v2 h0 fu v3 M
set_option maxHeartbeats 4000000 in
set_option maxRecDepth 100000 in
theorem z_fX11_learns_l23_s {p : Program} {l : Launch} {e : Env} {s : State} {m : MethodId} {args : Array Value} {below : List Frame} {meth : Method} {c : Code} {D : va_G} {cy : Nat → ClassId} {B : Nat} {kd : Nat → Nat} {n : Nat} {sa sv : Nat → Nat} (C : zC p l s m args meth c D cy B kd n sa sv RX11 cX11_learns 6) (ht : ∀ x ∈ c.exceptionTable.toList, False) (hr : meth.sig.returnType = none) {b0 : Mem} (N : Nat) (v0 : Nat) (v1 : Int32) (v2 : Int32) (k23 : Int32 → Mem → Option Mem) (v3 : Int32) (M : Mem) (h0 : kd v0 = 11)  (hk23 : ∀ (v3 : Int32) (M : Mem), Z p l e (rmz 5 0) s m args below meth c (vx_MQ below (QcR D cy B kd n (cvV b0)) (XcR D cy B kd n (cvV b0)) args s 0 (6 * 0) (AA B kd n)) D cy B kd n 6 b0 0 23 [(0, .ref (B + v0)), (1, .int v1), (2, .int v2), (3, .int v3)] [] M (k23 v3 M)) : Z p l e (rmz 5 0) s m args below meth c (vx_MQ below (QcR D cy B kd n (cvV b0)) (XcR D cy B kd n (cvV b0)) args s 0 (6 * 0) (AA B kd n)) D cy B kd n 6 b0 0 23 [(0, .ref (B + v0)), (1, .int v1), (2, .int v2), (3, .int v3)] [] M (fX11_learns_l23_s N v0 v1 v2 k23 v3 M) := by
  unfold fX11_learns_l23_s
  refine z_iload_n C 3 3 dX11_learns_23 rfl rfl ?_
  refine z_aload_n C 0 0 dX11_learns_24 rfl rfl ?_
  refine z_getR (k := 0) C cl11 h0 rfl gw_7_10 rfl dX11_learns_25 ?_
  have j1 : kd (v0 + 1) = 36 := zkd C h0 (k := 0) rfl
  refine z_iconst C dX11_learns_28 rfl ?_
  refine z_iald C j1 rfl (by decide) dX11_learns_29 (fun j2 => ?_)
  refine z_icmp_ge C 46 dX11_learns_30 rfl (fun _ => ?_) (fun _ => ?_)
  · refine z_iconst C dX11_learns_46 rfl ?_
    refine z_istore_n C 3 (ls1 := [(3, .int (0 : Int32)), (0, .ref (B + v0)), (1, .int v1), (2, .int v2)]) dX11_learns_47 rfl (by decide) rfl ?_
    exact z_jump (ls1 := [(0, .ref (B + v0)), (1, .int v1), (2, .int v2), (3, .int (0 : Int32))]) (Nat.le_of_ble_eq_true rfl) [1, 2, 3, 0] rfl (z_fX11_learns_l48 C ht hr N v0 v1 v2 N (0 : Int32) M h0)
  · refine z_aload_n C 0 0 dX11_learns_33 rfl rfl ?_
    refine z_getR (k := 33) C cl11 h0 rfl gw_7_43 rfl dX11_learns_34 ?_
    have j3 : kd (v0 + 20) = 44 := zkd C h0 (k := 33) rfl
    refine z_iload_n C 3 3 dX11_learns_37 rfl rfl ?_
    refine z_iconst C dX11_learns_38 rfl ?_
    refine z_zast C j3 rfl (by decide) dX11_learns_39 (fun _ => ?_)
    refine z_iinc C 3 3 (v := v3) (v1 := (v3 + (1 : Int32))) (ls1 := [(3, .int (v3 + (1 : Int32))), (0, .ref (B + v0)), (1, .int v1), (2, .int v2)]) dX11_learns_40 rfl rfl (by decide) rfl ?_
    refine z_goto C 23 dX11_learns_43 rfl ?_
    exact z_jump (ls1 := [(0, .ref (B + v0)), (1, .int v1), (2, .int v2), (3, .int (v3 + (1 : Int32)))]) (Nat.le_of_ble_eq_true rfl) [1, 2, 3, 0] rfl (hk23 (v3 + (1 : Int32)) (wI M (v0 + 20) v3.toNatClampNeg (vp_nar .boolean (0 : Int32))))
theorem z_fX11_learns_l23_i {p : Program} {l : Launch} {e : Env} {s : State} {m : MethodId} {args : Array Value} {below : List Frame} {meth : Method} {c : Code} {D : va_G} {cy : Nat → ClassId} {B : Nat} {kd : Nat → Nat} {n : Nat} {sa sv : Nat → Nat} (C : zC p l s m args meth c D cy B kd n sa sv RX11 cX11_learns 6) (ht : ∀ x ∈ c.exceptionTable.toList, False) (hr : meth.sig.returnType = none) {b0 : Mem} (N : Nat) (v0 : Nat) (v1 : Int32) (v2 : Int32) (h0 : kd v0 = 11)  (fu : Nat) : ∀ (v3 : Int32) (M : Mem), Z p l e (rmz 5 0) s m args below meth c (vx_MQ below (QcR D cy B kd n (cvV b0)) (XcR D cy B kd n (cvV b0)) args s 0 (6 * 0) (AA B kd n)) D cy B kd n 6 b0 0 23 [(0, .ref (B + v0)), (1, .int v1), (2, .int v2), (3, .int v3)] [] M (fX11_learns_l23 N v0 v1 v2 fu v3 M) := by
  induction fu with
  | zero => intro v3 M; exact z_none
  | succ fu ih => intro v3 M; exact z_fX11_learns_l23_s C ht hr N v0 v1 v2 (fX11_learns_l23 N v0 v1 v2 fu) v3 M h0 (fun v3 M => ih v3 M)
theorem z_fX11_learns_l23 {p : Program} {l : Launch} {e : Env} {s : State} {m : MethodId} {args : Array Value} {below : List Frame} {meth : Method} {c : Code} {D : va_G} {cy : Nat → ClassId} {B : Nat} {kd : Nat → Nat} {n : Nat} {sa sv : Nat → Nat} (C : zC p l s m args meth c D cy B kd n sa sv RX11 cX11_learns 6) (ht : ∀ x ∈ c.exceptionTable.toList, False) (hr : meth.sig.returnType = none) {b0 : Mem} (N : Nat) (v0 : Nat) (v1 : Int32) (v2 : Int32) (fu : Nat) (v3 : Int32) (M : Mem) (h0 : kd v0 = 11)  : Z p l e (rmz 5 0) s m args below meth c (vx_MQ below (QcR D cy B kd n (cvV b0)) (XcR D cy B kd n (cvV b0)) args s 0 (6 * 0) (AA B kd n)) D cy B kd n 6 b0 0 23 [(0, .ref (B + v0)), (1, .int v1), (2, .int v2), (3, .int v3)] [] M (fX11_learns_l23 N v0 v1 v2 fu v3 M) := z_fX11_learns_l23_i C ht hr N v0 v1 v2 h0 fu v3 M
set_option maxHeartbeats 4000000 in
set_option maxRecDepth 100000 in
theorem z_fX11_learns_l2_s {p : Program} {l : Launch} {e : Env} {s : State} {m : MethodId} {args : Array Value} {below : List Frame} {meth : Method} {c : Code} {D : va_G} {cy : Nat → ClassId} {B : Nat} {kd : Nat → Nat} {n : Nat} {sa sv : Nat → Nat} (C : zC p l s m args meth c D cy B kd n sa sv RX11 cX11_learns 6) (ht : ∀ x ∈ c.exceptionTable.toList, False) (hr : meth.sig.returnType = none) {b0 : Mem} (N : Nat) (v0 : Nat) (v1 : Int32) (v2 : Int32) (k2 : Int32 → Mem → Option Mem) (v3 : Int32) (M : Mem) (h0 : kd v0 = 11)  (hk2 : ∀ (v3 : Int32) (M : Mem), Z p l e (rmz 5 0) s m args below meth c (vx_MQ below (QcR D cy B kd n (cvV b0)) (XcR D cy B kd n (cvV b0)) args s 0 (6 * 0) (AA B kd n)) D cy B kd n 6 b0 0 2 [(0, .ref (B + v0)), (1, .int v1), (2, .int v2), (3, .int v3)] [] M (k2 v3 M)) : Z p l e (rmz 5 0) s m args below meth c (vx_MQ below (QcR D cy B kd n (cvV b0)) (XcR D cy B kd n (cvV b0)) args s 0 (6 * 0) (AA B kd n)) D cy B kd n 6 b0 0 2 [(0, .ref (B + v0)), (1, .int v1), (2, .int v2), (3, .int v3)] [] M (fX11_learns_l2_s N v0 v1 v2 k2 v3 M) := by
  unfold fX11_learns_l2_s
  refine z_iload_n C 3 3 dX11_learns_2 rfl rfl ?_
  refine z_bipush (v := 64) C dX11_learns_3 rfl ?_
  refine z_icmp_ge C 21 dX11_learns_5 rfl (fun _ => ?_) (fun _ => ?_)
  · refine z_iconst C dX11_learns_21 rfl ?_
    refine z_istore_n C 3 (ls1 := [(3, .int (0 : Int32)), (0, .ref (B + v0)), (1, .int v1), (2, .int v2)]) dX11_learns_22 rfl (by decide) rfl ?_
    exact z_jump (ls1 := [(0, .ref (B + v0)), (1, .int v1), (2, .int v2), (3, .int (0 : Int32))]) (Nat.le_of_ble_eq_true rfl) [1, 2, 3, 0] rfl (z_fX11_learns_l23 C ht hr N v0 v1 v2 N (0 : Int32) M h0)
  · refine z_aload_n C 0 0 dX11_learns_8 rfl rfl ?_
    refine z_getR (k := 32) C cl11 h0 rfl gw_7_42 rfl dX11_learns_9 ?_
    have j1 : kd (v0 + 19) = 43 := zkd C h0 (k := 32) rfl
    refine z_iload_n C 3 3 dX11_learns_12 rfl rfl ?_
    refine z_iconst C dX11_learns_13 rfl ?_
    refine z_zast C j1 rfl (by decide) dX11_learns_14 (fun _ => ?_)
    refine z_iinc C 3 3 (v := v3) (v1 := (v3 + (1 : Int32))) (ls1 := [(3, .int (v3 + (1 : Int32))), (0, .ref (B + v0)), (1, .int v1), (2, .int v2)]) dX11_learns_15 rfl rfl (by decide) rfl ?_
    refine z_goto C 2 dX11_learns_18 rfl ?_
    exact z_jump (ls1 := [(0, .ref (B + v0)), (1, .int v1), (2, .int v2), (3, .int (v3 + (1 : Int32)))]) (Nat.le_of_ble_eq_true rfl) [1, 2, 3, 0] rfl (hk2 (v3 + (1 : Int32)) (wI M (v0 + 19) v3.toNatClampNeg (vp_nar .boolean (0 : Int32))))
theorem z_fX11_learns_l2_i {p : Program} {l : Launch} {e : Env} {s : State} {m : MethodId} {args : Array Value} {below : List Frame} {meth : Method} {c : Code} {D : va_G} {cy : Nat → ClassId} {B : Nat} {kd : Nat → Nat} {n : Nat} {sa sv : Nat → Nat} (C : zC p l s m args meth c D cy B kd n sa sv RX11 cX11_learns 6) (ht : ∀ x ∈ c.exceptionTable.toList, False) (hr : meth.sig.returnType = none) {b0 : Mem} (N : Nat) (v0 : Nat) (v1 : Int32) (v2 : Int32) (h0 : kd v0 = 11)  (fu : Nat) : ∀ (v3 : Int32) (M : Mem), Z p l e (rmz 5 0) s m args below meth c (vx_MQ below (QcR D cy B kd n (cvV b0)) (XcR D cy B kd n (cvV b0)) args s 0 (6 * 0) (AA B kd n)) D cy B kd n 6 b0 0 2 [(0, .ref (B + v0)), (1, .int v1), (2, .int v2), (3, .int v3)] [] M (fX11_learns_l2 N v0 v1 v2 fu v3 M) := by
  induction fu with
  | zero => intro v3 M; exact z_none
  | succ fu ih => intro v3 M; exact z_fX11_learns_l2_s C ht hr N v0 v1 v2 (fX11_learns_l2 N v0 v1 v2 fu) v3 M h0 (fun v3 M => ih v3 M)
theorem z_fX11_learns_l2 {p : Program} {l : Launch} {e : Env} {s : State} {m : MethodId} {args : Array Value} {below : List Frame} {meth : Method} {c : Code} {D : va_G} {cy : Nat → ClassId} {B : Nat} {kd : Nat → Nat} {n : Nat} {sa sv : Nat → Nat} (C : zC p l s m args meth c D cy B kd n sa sv RX11 cX11_learns 6) (ht : ∀ x ∈ c.exceptionTable.toList, False) (hr : meth.sig.returnType = none) {b0 : Mem} (N : Nat) (v0 : Nat) (v1 : Int32) (v2 : Int32) (fu : Nat) (v3 : Int32) (M : Mem) (h0 : kd v0 = 11)  : Z p l e (rmz 5 0) s m args below meth c (vx_MQ below (QcR D cy B kd n (cvV b0)) (XcR D cy B kd n (cvV b0)) args s 0 (6 * 0) (AA B kd n)) D cy B kd n 6 b0 0 2 [(0, .ref (B + v0)), (1, .int v1), (2, .int v2), (3, .int v3)] [] M (fX11_learns_l2 N v0 v1 v2 fu v3 M) := z_fX11_learns_l2_i C ht hr N v0 v1 v2 h0 fu v3 M
set_option maxHeartbeats 4000000 in
set_option maxRecDepth 100000 in
theorem ctX11_learns {l : Launch} {D : va_G} {cy : Nat → ClassId} {B : Nat} {kd : Nat → Nat} {n : Nat} {sa sv : Nat → Nat} (G : zG l kd n) (N : Nat) (v0 : Nat) (v1 : Int32) (v2 : Int32) (h0 : kd v0 = 11) (M : Mem) : CT l D cy B kd n sa sv 5 0 yX11_learns cX11_learns 6 (none) cvV [.ref (B + v0), .int v1, .int v2] M (fX11_learns N v0 v1 v2 M) := by
  refine ct_of (by decide) G.1 G.2 (Nat.le_of_ble_eq_true rfl) (ls := [(0, .ref (B + v0)), (1, .int v1), (2, .int v2)]) rfl ?_
  intro p e s m args below meth c b0 C ht hr
  unfold fX11_learns
  refine z_iconst C dX11_learns_0 rfl ?_
  refine z_istore_n C 3 (ls1 := [(3, .int (0 : Int32)), (0, .ref (B + v0)), (1, .int v1), (2, .int v2)]) dX11_learns_1 rfl (by decide) rfl ?_
  exact z_jump (ls1 := [(0, .ref (B + v0)), (1, .int v1), (2, .int v2), (3, .int (0 : Int32))]) (Nat.le_of_ble_eq_true rfl) [1, 2, 3, 0] rfl (z_fX11_learns_l2 C ht hr N v0 v1 v2 N (0 : Int32) M h0)
set_option maxHeartbeats 4000000 in
set_option maxRecDepth 100000 in
theorem z_fX11_unknown_b95 {p : Program} {l : Launch} {e : Env} {s : State} {m : MethodId} {args : Array Value} {below : List Frame} {meth : Method} {c : Code} {D : va_G} {cy : Nat → ClassId} {B : Nat} {kd : Nat → Nat} {n : Nat} {sa sv : Nat → Nat} (C : zC p l s m args meth c D cy B kd n sa sv RX11 cX11_unknown 8) (ht : ∀ x ∈ c.exceptionTable.toList, False) (hr : meth.sig.returnType = some (FieldType.int)) {b0 : Int32 × Mem}  (N : Nat) (k5 : Int32 → Int32 → Mem → Option (Int32 × Mem)) (v0 : Nat) (v1 : Int32) (v2 : Int32) (v4 : Int32) (s0 : Bool) (s1 : Int32) (M : Mem) (h0 : kd v0 = 11) (hk5 : ∀ (v3 : Int32) (v4 : Int32) (M : Mem), Z p l e (rmz 4 0) s m args below meth c (vx_MQ below (QcR D cy B kd n (cvI b0)) (XcR D cy B kd n (cvI b0)) args s 0 (6 * 0) (AA B kd n)) D cy B kd n 8 b0 0 5 [(0, .ref (B + v0)), (1, .int v1), (2, .int v2), (3, .int v3), (4, .int v4)] [] M (k5 v3 v4 M)) : Z p l e (rmz 4 0) s m args below meth c (vx_MQ below (QcR D cy B kd n (cvI b0)) (XcR D cy B kd n (cvI b0)) args s 0 (6 * 0) (AA B kd n)) D cy B kd n 8 b0 0 95 [(0, .ref (B + v0)), (1, .int v1), (2, .int v2), (4, .int v4)] [.int (bI s0), .int s1] M (fX11_unknown_b95 N k5 v0 v1 v2 v4 s0 s1 M) := by
  unfold fX11_unknown_b95
  refine z_iadd C dX11_unknown_95 ?_
  refine z_istore_n C 3 (ls1 := [(3, .int (s1 + (bI s0))), (0, .ref (B + v0)), (1, .int v1), (2, .int v2), (4, .int v4)]) dX11_unknown_96 rfl (by decide) rfl ?_
  refine z_iinc C 4 4 (v := v4) (v1 := (v4 + (1 : Int32))) (ls1 := [(4, .int (v4 + (1 : Int32))), (3, .int (s1 + (bI s0))), (0, .ref (B + v0)), (1, .int v1), (2, .int v2)]) dX11_unknown_97 rfl rfl (by decide) rfl ?_
  refine z_goto C 5 dX11_unknown_100 rfl ?_
  exact z_jump (ls1 := [(0, .ref (B + v0)), (1, .int v1), (2, .int v2), (3, .int (s1 + (bI s0))), (4, .int (v4 + (1 : Int32)))]) (Nat.le_of_ble_eq_true rfl) [2, 3, 4, 1, 0] rfl (hk5 (s1 + (bI s0)) (v4 + (1 : Int32)) M)
set_option maxHeartbeats 4000000 in
set_option maxRecDepth 100000 in
theorem z_fX11_unknown_b76 {p : Program} {l : Launch} {e : Env} {s : State} {m : MethodId} {args : Array Value} {below : List Frame} {meth : Method} {c : Code} {D : va_G} {cy : Nat → ClassId} {B : Nat} {kd : Nat → Nat} {n : Nat} {sa sv : Nat → Nat} (C : zC p l s m args meth c D cy B kd n sa sv RX11 cX11_unknown 8) (ht : ∀ x ∈ c.exceptionTable.toList, False) (hr : meth.sig.returnType = some (FieldType.int)) {b0 : Int32 × Mem}  (N : Nat) (k5 : Int32 → Int32 → Mem → Option (Int32 × Mem)) (k46 : Bool → Int32 → Mem → Option (Int32 × Mem)) (v0 : Nat) (v1 : Int32) (v2 : Int32) (v3 : Int32) (v4 : Int32) (v5 : Int32) (v7 : Int32) (s0 : Bool) (M : Mem) (h0 : kd v0 = 11) (hk5 : ∀ (v3 : Int32) (v4 : Int32) (M : Mem), Z p l e (rmz 4 0) s m args below meth c (vx_MQ below (QcR D cy B kd n (cvI b0)) (XcR D cy B kd n (cvI b0)) args s 0 (6 * 0) (AA B kd n)) D cy B kd n 8 b0 0 5 [(0, .ref (B + v0)), (1, .int v1), (2, .int v2), (3, .int v3), (4, .int v4)] [] M (k5 v3 v4 M)) (hk46 : ∀ (v6 : Bool) (v7 : Int32) (M : Mem), Z p l e (rmz 4 0) s m args below meth c (vx_MQ below (QcR D cy B kd n (cvI b0)) (XcR D cy B kd n (cvI b0)) args s 0 (6 * 0) (AA B kd n)) D cy B kd n 8 b0 0 46 [(0, .ref (B + v0)), (1, .int v1), (2, .int v2), (3, .int v3), (4, .int v4), (5, .int v5), (6, .int (bI v6)), (7, .int v7)] [] M (k46 v6 v7 M)) : Z p l e (rmz 4 0) s m args below meth c (vx_MQ below (QcR D cy B kd n (cvI b0)) (XcR D cy B kd n (cvI b0)) args s 0 (6 * 0) (AA B kd n)) D cy B kd n 8 b0 0 76 [(0, .ref (B + v0)), (1, .int v1), (2, .int v2), (3, .int v3), (4, .int v4), (5, .int v5), (7, .int v7)] [.int (bI s0)] M (fX11_unknown_b76 N k5 k46 v0 v1 v2 v3 v4 v5 v7 s0 M) := by
  unfold fX11_unknown_b76
  refine z_istore C 6 (ls1 := [(6, .int (bI s0)), (0, .ref (B + v0)), (1, .int v1), (2, .int v2), (3, .int v3), (4, .int v4), (5, .int v5), (7, .int v7)]) dX11_unknown_76 (by decide) rfl ?_
  refine z_iinc C 7 7 (v := v7) (v1 := (v7 + (1 : Int32))) (ls1 := [(7, .int (v7 + (1 : Int32))), (6, .int (bI s0)), (0, .ref (B + v0)), (1, .int v1), (2, .int v2), (3, .int v3), (4, .int v4), (5, .int v5)]) dX11_unknown_78 rfl rfl (by decide) rfl ?_
  refine z_goto C 46 dX11_unknown_81 rfl ?_
  exact z_jump (ls1 := [(0, .ref (B + v0)), (1, .int v1), (2, .int v2), (3, .int v3), (4, .int v4), (5, .int v5), (6, .int (bI s0)), (7, .int (v7 + (1 : Int32)))]) (Nat.le_of_ble_eq_true rfl) [2, 3, 4, 5, 6, 7, 1, 0] rfl (hk46 s0 (v7 + (1 : Int32)) M)
set_option maxHeartbeats 4000000 in
set_option maxRecDepth 100000 in
theorem z_fX11_unknown_b75 {p : Program} {l : Launch} {e : Env} {s : State} {m : MethodId} {args : Array Value} {below : List Frame} {meth : Method} {c : Code} {D : va_G} {cy : Nat → ClassId} {B : Nat} {kd : Nat → Nat} {n : Nat} {sa sv : Nat → Nat} (C : zC p l s m args meth c D cy B kd n sa sv RX11 cX11_unknown 8) (ht : ∀ x ∈ c.exceptionTable.toList, False) (hr : meth.sig.returnType = some (FieldType.int)) {b0 : Int32 × Mem}  (N : Nat) (k5 : Int32 → Int32 → Mem → Option (Int32 × Mem)) (k46 : Bool → Int32 → Mem → Option (Int32 × Mem)) (v0 : Nat) (v1 : Int32) (v2 : Int32) (v3 : Int32) (v4 : Int32) (v5 : Int32) (v7 : Int32) (M : Mem) (h0 : kd v0 = 11) (hk5 : ∀ (v3 : Int32) (v4 : Int32) (M : Mem), Z p l e (rmz 4 0) s m args below meth c (vx_MQ below (QcR D cy B kd n (cvI b0)) (XcR D cy B kd n (cvI b0)) args s 0 (6 * 0) (AA B kd n)) D cy B kd n 8 b0 0 5 [(0, .ref (B + v0)), (1, .int v1), (2, .int v2), (3, .int v3), (4, .int v4)] [] M (k5 v3 v4 M)) (hk46 : ∀ (v6 : Bool) (v7 : Int32) (M : Mem), Z p l e (rmz 4 0) s m args below meth c (vx_MQ below (QcR D cy B kd n (cvI b0)) (XcR D cy B kd n (cvI b0)) args s 0 (6 * 0) (AA B kd n)) D cy B kd n 8 b0 0 46 [(0, .ref (B + v0)), (1, .int v1), (2, .int v2), (3, .int v3), (4, .int v4), (5, .int v5), (6, .int (bI v6)), (7, .int v7)] [] M (k46 v6 v7 M)) : Z p l e (rmz 4 0) s m args below meth c (vx_MQ below (QcR D cy B kd n (cvI b0)) (XcR D cy B kd n (cvI b0)) args s 0 (6 * 0) (AA B kd n)) D cy B kd n 8 b0 0 75 [(0, .ref (B + v0)), (1, .int v1), (2, .int v2), (3, .int v3), (4, .int v4), (5, .int v5), (7, .int v7)] [] M (fX11_unknown_b75 N k5 k46 v0 v1 v2 v3 v4 v5 v7 M) := by
  unfold fX11_unknown_b75
  refine z_iconst C dX11_unknown_75 rfl ?_
  exact z_jump (ls1 := [(0, .ref (B + v0)), (1, .int v1), (2, .int v2), (3, .int v3), (4, .int v4), (5, .int v5), (7, .int v7)]) (Nat.le_of_ble_eq_true rfl) [0, 1, 2, 3, 4, 5, 6] rfl (z_fX11_unknown_b76 C ht hr N k5 k46 v0 v1 v2 v3 v4 v5 v7 false M h0 hk5 hk46)
set_option maxHeartbeats 4000000 in
set_option maxRecDepth 100000 in
theorem z_fX11_unknown_l46_s {p : Program} {l : Launch} {e : Env} {s : State} {m : MethodId} {args : Array Value} {below : List Frame} {meth : Method} {c : Code} {D : va_G} {cy : Nat → ClassId} {B : Nat} {kd : Nat → Nat} {n : Nat} {sa sv : Nat → Nat} (C : zC p l s m args meth c D cy B kd n sa sv RX11 cX11_unknown 8) (ht : ∀ x ∈ c.exceptionTable.toList, False) (hr : meth.sig.returnType = some (FieldType.int)) {b0 : Int32 × Mem} (N : Nat) (k5 : Int32 → Int32 → Mem → Option (Int32 × Mem)) (v0 : Nat) (v1 : Int32) (v2 : Int32) (v3 : Int32) (v4 : Int32) (v5 : Int32) (k46 : Bool → Int32 → Mem → Option (Int32 × Mem)) (v6 : Bool) (v7 : Int32) (M : Mem) (h0 : kd v0 = 11) (hk5 : ∀ (v3 : Int32) (v4 : Int32) (M : Mem), Z p l e (rmz 4 0) s m args below meth c (vx_MQ below (QcR D cy B kd n (cvI b0)) (XcR D cy B kd n (cvI b0)) args s 0 (6 * 0) (AA B kd n)) D cy B kd n 8 b0 0 5 [(0, .ref (B + v0)), (1, .int v1), (2, .int v2), (3, .int v3), (4, .int v4)] [] M (k5 v3 v4 M)) (hk46 : ∀ (v6 : Bool) (v7 : Int32) (M : Mem), Z p l e (rmz 4 0) s m args below meth c (vx_MQ below (QcR D cy B kd n (cvI b0)) (XcR D cy B kd n (cvI b0)) args s 0 (6 * 0) (AA B kd n)) D cy B kd n 8 b0 0 46 [(0, .ref (B + v0)), (1, .int v1), (2, .int v2), (3, .int v3), (4, .int v4), (5, .int v5), (6, .int (bI v6)), (7, .int v7)] [] M (k46 v6 v7 M)) : Z p l e (rmz 4 0) s m args below meth c (vx_MQ below (QcR D cy B kd n (cvI b0)) (XcR D cy B kd n (cvI b0)) args s 0 (6 * 0) (AA B kd n)) D cy B kd n 8 b0 0 46 [(0, .ref (B + v0)), (1, .int v1), (2, .int v2), (3, .int v3), (4, .int v4), (5, .int v5), (6, .int (bI v6)), (7, .int v7)] [] M (fX11_unknown_l46_s N k5 v0 v1 v2 v3 v4 v5 k46 v6 v7 M) := by
  unfold fX11_unknown_l46_s
  refine z_iload C 7 dX11_unknown_46 rfl ?_
  refine z_iload C 4 dX11_unknown_48 rfl ?_
  refine z_icmp_ge C 84 dX11_unknown_50 rfl (fun _ => ?_) (fun _ => ?_)
  · refine z_iload_n C 3 3 dX11_unknown_84 rfl rfl ?_
    refine z_iload C 6 dX11_unknown_85 rfl ?_
    refine z_if_eqB C 94 dX11_unknown_87 rfl (fun _ => ?_) (fun _ => ?_)
    · refine z_iconst C dX11_unknown_90 rfl ?_
      refine z_goto C 95 dX11_unknown_91 rfl ?_
      exact z_jump (ls1 := [(0, .ref (B + v0)), (1, .int v1), (2, .int v2), (4, .int v4)]) (Nat.le_of_ble_eq_true rfl) [0, 1, 2, 4] rfl (z_fX11_unknown_b95 C ht hr N k5 v0 v1 v2 v4 true v3 M h0 hk5)
    · refine z_iconst C dX11_unknown_94 rfl ?_
      exact z_jump (ls1 := [(0, .ref (B + v0)), (1, .int v1), (2, .int v2), (4, .int v4)]) (Nat.le_of_ble_eq_true rfl) [0, 1, 2, 4] rfl (z_fX11_unknown_b95 C ht hr N k5 v0 v1 v2 v4 false v3 M h0 hk5)
  · refine z_iload C 6 dX11_unknown_53 rfl ?_
    refine z_if_eqB C 75 dX11_unknown_55 rfl (fun _ => ?_) (fun _ => ?_)
    · refine z_aload_n C 0 0 dX11_unknown_58 rfl rfl ?_
      refine z_iload_n C 1 1 dX11_unknown_59 rfl rfl ?_
      refine z_iload C 7 dX11_unknown_60 rfl ?_
      refine z_iload_n C 2 2 dX11_unknown_62 rfl rfl ?_
      refine z_callV_I (As := [.int v1, .int v7, .int v2]) (rest := []) C rfl (ctX11_spot (zG_of C) N v0 v1 v7 v2 h0 M) cw_RX11_273 rfl (okM_X11_spot) rfl cl11 h0 (okR_of rfl) (Nat.le_of_ble_eq_true rfl) dX11_unknown_63 (fun qj1 _ => ?_)
      refine z_iload C 5 dX11_unknown_66 rfl ?_
      refine z_icmp_eq C 75 dX11_unknown_68 rfl (fun _ => ?_) (fun _ => ?_)
      · exact z_jump (ls1 := [(0, .ref (B + v0)), (1, .int v1), (2, .int v2), (3, .int v3), (4, .int v4), (5, .int v5), (7, .int v7)]) (Nat.le_of_ble_eq_true rfl) [0, 1, 2, 3, 4, 5, 7] rfl (z_fX11_unknown_b75 C ht hr N k5 k46 v0 v1 v2 v3 v4 v5 v7 qj1.2 h0 hk5 hk46)
      · refine z_iconst C dX11_unknown_71 rfl ?_
        refine z_goto C 76 dX11_unknown_72 rfl ?_
        exact z_jump (ls1 := [(0, .ref (B + v0)), (1, .int v1), (2, .int v2), (3, .int v3), (4, .int v4), (5, .int v5), (7, .int v7)]) (Nat.le_of_ble_eq_true rfl) [0, 1, 2, 3, 4, 5, 7] rfl (z_fX11_unknown_b76 C ht hr N k5 k46 v0 v1 v2 v3 v4 v5 v7 true qj1.2 h0 hk5 hk46)
    · exact z_jump (ls1 := [(0, .ref (B + v0)), (1, .int v1), (2, .int v2), (3, .int v3), (4, .int v4), (5, .int v5), (7, .int v7)]) (Nat.le_of_ble_eq_true rfl) [0, 1, 2, 3, 4, 5, 7] rfl (z_fX11_unknown_b75 C ht hr N k5 k46 v0 v1 v2 v3 v4 v5 v7 M h0 hk5 hk46)
theorem z_fX11_unknown_l46_i {p : Program} {l : Launch} {e : Env} {s : State} {m : MethodId} {args : Array Value} {below : List Frame} {meth : Method} {c : Code} {D : va_G} {cy : Nat → ClassId} {B : Nat} {kd : Nat → Nat} {n : Nat} {sa sv : Nat → Nat} (C : zC p l s m args meth c D cy B kd n sa sv RX11 cX11_unknown 8) (ht : ∀ x ∈ c.exceptionTable.toList, False) (hr : meth.sig.returnType = some (FieldType.int)) {b0 : Int32 × Mem} (N : Nat) (k5 : Int32 → Int32 → Mem → Option (Int32 × Mem)) (v0 : Nat) (v1 : Int32) (v2 : Int32) (v3 : Int32) (v4 : Int32) (v5 : Int32) (h0 : kd v0 = 11) (hk5 : ∀ (v3 : Int32) (v4 : Int32) (M : Mem), Z p l e (rmz 4 0) s m args below meth c (vx_MQ below (QcR D cy B kd n (cvI b0)) (XcR D cy B kd n (cvI b0)) args s 0 (6 * 0) (AA B kd n)) D cy B kd n 8 b0 0 5 [(0, .ref (B + v0)), (1, .int v1), (2, .int v2), (3, .int v3), (4, .int v4)] [] M (k5 v3 v4 M)) (fu : Nat) : ∀ (v6 : Bool) (v7 : Int32) (M : Mem), Z p l e (rmz 4 0) s m args below meth c (vx_MQ below (QcR D cy B kd n (cvI b0)) (XcR D cy B kd n (cvI b0)) args s 0 (6 * 0) (AA B kd n)) D cy B kd n 8 b0 0 46 [(0, .ref (B + v0)), (1, .int v1), (2, .int v2), (3, .int v3), (4, .int v4), (5, .int v5), (6, .int (bI v6)), (7, .int v7)] [] M (fX11_unknown_l46 N k5 v0 v1 v2 v3 v4 v5 fu v6 v7 M) := by
  induction fu with
  | zero => intro v6 v7 M; exact z_none
  | succ fu ih => intro v6 v7 M; exact z_fX11_unknown_l46_s C ht hr N k5 v0 v1 v2 v3 v4 v5 (fX11_unknown_l46 N k5 v0 v1 v2 v3 v4 v5 fu) v6 v7 M h0 hk5 (fun v6 v7 M => ih v6 v7 M)
