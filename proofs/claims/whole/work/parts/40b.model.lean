set_option maxHeartbeats 4000000 in
set_option maxRecDepth 100000 in
theorem z_fX11_begins_l31_s {p : Program} {l : Launch} {e : Env} {s : State} {m : MethodId} {args : Array Value} {below : List Frame} {meth : Method} {c : Code} {D : va_G} {cy : Nat → ClassId} {B : Nat} {kd : Nat → Nat} {n : Nat} {sa sv : Nat → Nat} (C : zC p l s m args meth c D cy B kd n sa sv RX11 cX11_begins 2) (ht : ∀ x ∈ c.exceptionTable.toList, False) (hr : meth.sig.returnType = none) {b0 : Mem} (N : Nat) (v0 : Nat) (k31 : Int32 → Mem → Option Mem) (v1 : Int32) (M : Mem) (h0 : kd v0 = 36)  (hk31 : ∀ (v1 : Int32) (M : Mem), Z p l e (rmz 0 0) s m args below meth c (vx_MQ below (QcR D cy B kd n (cvV b0)) (XcR D cy B kd n (cvV b0)) args s 0 (6 * 0) (AA B kd n)) D cy B kd n 2 b0 0 31 [(0, .ref (B + v0)), (1, .int v1)] [] M (k31 v1 M)) : Z p l e (rmz 0 0) s m args below meth c (vx_MQ below (QcR D cy B kd n (cvV b0)) (XcR D cy B kd n (cvV b0)) args s 0 (6 * 0) (AA B kd n)) D cy B kd n 2 b0 0 31 [(0, .ref (B + v0)), (1, .int v1)] [] M (fX11_begins_l31_s N v0 k31 v1 M) := by
  unfold fX11_begins_l31_s
  refine z_iload_n C 1 1 dX11_begins_31 rfl rfl ?_
  refine z_iconst C dX11_begins_32 rfl ?_
  refine z_icmp_ge C 56 dX11_begins_33 rfl (fun _ => ?_) (fun _ => ?_)
  · exact z_vret C hr (Nat.le_of_ble_eq_true rfl) dX11_begins_56 rfl
  · refine z_aload_n C 0 0 dX11_begins_36 rfl rfl ?_
    refine z_sipush (v := 1220) C dX11_begins_37 rfl ?_
    refine z_sipush (v := 512) C dX11_begins_40 rfl ?_
    refine z_iload_n C 1 1 dX11_begins_43 rfl rfl ?_
    refine z_imul C dX11_begins_44 ?_
    refine z_iadd C dX11_begins_45 ?_
    refine z_iconst C dX11_begins_46 rfl ?_
    refine z_iadd C dX11_begins_47 ?_
    refine z_iconst C dX11_begins_48 rfl ?_
    refine z_iast C h0 rfl (by decide) dX11_begins_49 (fun _ => ?_)
    refine z_iinc C 1 1 (v := v1) (v1 := (v1 + (1 : Int32))) (ls1 := [(1, .int (v1 + (1 : Int32))), (0, .ref (B + v0))]) dX11_begins_50 rfl rfl (by decide) rfl ?_
    refine z_goto C 31 dX11_begins_53 rfl ?_
    exact z_jump (ls1 := [(0, .ref (B + v0)), (1, .int (v1 + (1 : Int32)))]) (Nat.le_of_ble_eq_true rfl) [1, 0] rfl (hk31 (v1 + (1 : Int32)) (wI M v0 ((((1220 : Int32) + ((512 : Int32) * v1)) + (0 : Int32)).toNatClampNeg) (-1 : Int32)))
theorem z_fX11_begins_l31_i {p : Program} {l : Launch} {e : Env} {s : State} {m : MethodId} {args : Array Value} {below : List Frame} {meth : Method} {c : Code} {D : va_G} {cy : Nat → ClassId} {B : Nat} {kd : Nat → Nat} {n : Nat} {sa sv : Nat → Nat} (C : zC p l s m args meth c D cy B kd n sa sv RX11 cX11_begins 2) (ht : ∀ x ∈ c.exceptionTable.toList, False) (hr : meth.sig.returnType = none) {b0 : Mem} (N : Nat) (v0 : Nat) (h0 : kd v0 = 36)  (fu : Nat) : ∀ (v1 : Int32) (M : Mem), Z p l e (rmz 0 0) s m args below meth c (vx_MQ below (QcR D cy B kd n (cvV b0)) (XcR D cy B kd n (cvV b0)) args s 0 (6 * 0) (AA B kd n)) D cy B kd n 2 b0 0 31 [(0, .ref (B + v0)), (1, .int v1)] [] M (fX11_begins_l31 N v0 fu v1 M) := by
  induction fu with
  | zero => intro v1 M; exact z_none
  | succ fu ih => intro v1 M; exact z_fX11_begins_l31_s C ht hr N v0 (fX11_begins_l31 N v0 fu) v1 M h0 (fun v1 M => ih v1 M)
theorem z_fX11_begins_l31 {p : Program} {l : Launch} {e : Env} {s : State} {m : MethodId} {args : Array Value} {below : List Frame} {meth : Method} {c : Code} {D : va_G} {cy : Nat → ClassId} {B : Nat} {kd : Nat → Nat} {n : Nat} {sa sv : Nat → Nat} (C : zC p l s m args meth c D cy B kd n sa sv RX11 cX11_begins 2) (ht : ∀ x ∈ c.exceptionTable.toList, False) (hr : meth.sig.returnType = none) {b0 : Mem} (N : Nat) (v0 : Nat) (fu : Nat) (v1 : Int32) (M : Mem) (h0 : kd v0 = 36)  : Z p l e (rmz 0 0) s m args below meth c (vx_MQ below (QcR D cy B kd n (cvV b0)) (XcR D cy B kd n (cvV b0)) args s 0 (6 * 0) (AA B kd n)) D cy B kd n 2 b0 0 31 [(0, .ref (B + v0)), (1, .int v1)] [] M (fX11_begins_l31 N v0 fu v1 M) := z_fX11_begins_l31_i C ht hr N v0 h0 fu v1 M
set_option maxHeartbeats 4000000 in
set_option maxRecDepth 100000 in
theorem z_fX11_begins_l2_s {p : Program} {l : Launch} {e : Env} {s : State} {m : MethodId} {args : Array Value} {below : List Frame} {meth : Method} {c : Code} {D : va_G} {cy : Nat → ClassId} {B : Nat} {kd : Nat → Nat} {n : Nat} {sa sv : Nat → Nat} (C : zC p l s m args meth c D cy B kd n sa sv RX11 cX11_begins 2) (ht : ∀ x ∈ c.exceptionTable.toList, False) (hr : meth.sig.returnType = none) {b0 : Mem} (N : Nat) (v0 : Nat) (k2 : Int32 → Mem → Option Mem) (v1 : Int32) (M : Mem) (h0 : kd v0 = 36)  (hk2 : ∀ (v1 : Int32) (M : Mem), Z p l e (rmz 0 0) s m args below meth c (vx_MQ below (QcR D cy B kd n (cvV b0)) (XcR D cy B kd n (cvV b0)) args s 0 (6 * 0) (AA B kd n)) D cy B kd n 2 b0 0 2 [(0, .ref (B + v0)), (1, .int v1)] [] M (k2 v1 M)) : Z p l e (rmz 0 0) s m args below meth c (vx_MQ below (QcR D cy B kd n (cvV b0)) (XcR D cy B kd n (cvV b0)) args s 0 (6 * 0) (AA B kd n)) D cy B kd n 2 b0 0 2 [(0, .ref (B + v0)), (1, .int v1)] [] M (fX11_begins_l2_s N v0 k2 v1 M) := by
  unfold fX11_begins_l2_s
  refine z_iload_n C 1 1 dX11_begins_2 rfl rfl ?_
  refine z_sipush (v := 3268) C dX11_begins_3 rfl ?_
  refine z_icmp_ge C 19 dX11_begins_6 rfl (fun _ => ?_) (fun _ => ?_)
  · refine z_aload_n C 0 0 dX11_begins_19 rfl rfl ?_
    refine z_iconst C dX11_begins_20 rfl ?_
    refine z_bipush (v := 64) C dX11_begins_21 rfl ?_
    refine z_iast C h0 rfl (by decide) dX11_begins_23 (fun _ => ?_)
    refine z_aload_n C 0 0 dX11_begins_24 rfl rfl ?_
    refine z_iconst C dX11_begins_25 rfl ?_
    refine z_bipush (v := 16) C dX11_begins_26 rfl ?_
    refine z_iast C h0 rfl (by decide) dX11_begins_28 (fun _ => ?_)
    refine z_iconst C dX11_begins_29 rfl ?_
    refine z_istore_n C 1 (ls1 := [(1, .int (0 : Int32)), (0, .ref (B + v0))]) dX11_begins_30 rfl (by decide) rfl ?_
    exact z_jump (ls1 := [(0, .ref (B + v0)), (1, .int (0 : Int32))]) (Nat.le_of_ble_eq_true rfl) [1, 0] rfl (z_fX11_begins_l31 C ht hr N v0 N (0 : Int32) (wI (wI M v0 ((1 : Int32).toNatClampNeg) (64 : Int32)) v0 ((2 : Int32).toNatClampNeg) (16 : Int32)) h0)
  · refine z_aload_n C 0 0 dX11_begins_9 rfl rfl ?_
    refine z_iload_n C 1 1 dX11_begins_10 rfl rfl ?_
    refine z_iconst C dX11_begins_11 rfl ?_
    refine z_iast C h0 rfl (by decide) dX11_begins_12 (fun _ => ?_)
    refine z_iinc C 1 1 (v := v1) (v1 := (v1 + (1 : Int32))) (ls1 := [(1, .int (v1 + (1 : Int32))), (0, .ref (B + v0))]) dX11_begins_13 rfl rfl (by decide) rfl ?_
    refine z_goto C 2 dX11_begins_16 rfl ?_
    exact z_jump (ls1 := [(0, .ref (B + v0)), (1, .int (v1 + (1 : Int32)))]) (Nat.le_of_ble_eq_true rfl) [1, 0] rfl (hk2 (v1 + (1 : Int32)) (wI M v0 v1.toNatClampNeg (0 : Int32)))
theorem z_fX11_begins_l2_i {p : Program} {l : Launch} {e : Env} {s : State} {m : MethodId} {args : Array Value} {below : List Frame} {meth : Method} {c : Code} {D : va_G} {cy : Nat → ClassId} {B : Nat} {kd : Nat → Nat} {n : Nat} {sa sv : Nat → Nat} (C : zC p l s m args meth c D cy B kd n sa sv RX11 cX11_begins 2) (ht : ∀ x ∈ c.exceptionTable.toList, False) (hr : meth.sig.returnType = none) {b0 : Mem} (N : Nat) (v0 : Nat) (h0 : kd v0 = 36)  (fu : Nat) : ∀ (v1 : Int32) (M : Mem), Z p l e (rmz 0 0) s m args below meth c (vx_MQ below (QcR D cy B kd n (cvV b0)) (XcR D cy B kd n (cvV b0)) args s 0 (6 * 0) (AA B kd n)) D cy B kd n 2 b0 0 2 [(0, .ref (B + v0)), (1, .int v1)] [] M (fX11_begins_l2 N v0 fu v1 M) := by
  induction fu with
  | zero => intro v1 M; exact z_none
  | succ fu ih => intro v1 M; exact z_fX11_begins_l2_s C ht hr N v0 (fX11_begins_l2 N v0 fu) v1 M h0 (fun v1 M => ih v1 M)
theorem z_fX11_begins_l2 {p : Program} {l : Launch} {e : Env} {s : State} {m : MethodId} {args : Array Value} {below : List Frame} {meth : Method} {c : Code} {D : va_G} {cy : Nat → ClassId} {B : Nat} {kd : Nat → Nat} {n : Nat} {sa sv : Nat → Nat} (C : zC p l s m args meth c D cy B kd n sa sv RX11 cX11_begins 2) (ht : ∀ x ∈ c.exceptionTable.toList, False) (hr : meth.sig.returnType = none) {b0 : Mem} (N : Nat) (v0 : Nat) (fu : Nat) (v1 : Int32) (M : Mem) (h0 : kd v0 = 36)  : Z p l e (rmz 0 0) s m args below meth c (vx_MQ below (QcR D cy B kd n (cvV b0)) (XcR D cy B kd n (cvV b0)) args s 0 (6 * 0) (AA B kd n)) D cy B kd n 2 b0 0 2 [(0, .ref (B + v0)), (1, .int v1)] [] M (fX11_begins_l2 N v0 fu v1 M) := z_fX11_begins_l2_i C ht hr N v0 h0 fu v1 M
set_option maxHeartbeats 4000000 in
set_option maxRecDepth 100000 in
theorem ctX11_begins {l : Launch} {D : va_G} {cy : Nat → ClassId} {B : Nat} {kd : Nat → Nat} {n : Nat} {sa sv : Nat → Nat} (G : zG l kd n) (N : Nat) (v0 : Nat) (h0 : kd v0 = 36) (M : Mem) : CT l D cy B kd n sa sv 0 0 yX11_begins cX11_begins 2 (none) cvV [.ref (B + v0)] M (fX11_begins N v0 M) := by
  refine ct_of (by decide) G.1 G.2 (Nat.le_of_ble_eq_true rfl) (ls := [(0, .ref (B + v0))]) rfl ?_
  intro p e s m args below meth c b0 C ht hr
  unfold fX11_begins
  refine z_iconst C dX11_begins_0 rfl ?_
  refine z_istore_n C 1 (ls1 := [(1, .int (0 : Int32)), (0, .ref (B + v0))]) dX11_begins_1 rfl (by decide) rfl ?_
  exact z_jump (ls1 := [(0, .ref (B + v0)), (1, .int (0 : Int32))]) (Nat.le_of_ble_eq_true rfl) [1, 0] rfl (z_fX11_begins_l2 C ht hr N v0 N (0 : Int32) M h0)
set_option maxHeartbeats 4000000 in
set_option maxRecDepth 100000 in
theorem ctX11_thrown {l : Launch} {D : va_G} {cy : Nat → ClassId} {B : Nat} {kd : Nat → Nat} {n : Nat} {sa sv : Nat → Nat} (G : zG l kd n) (v0 : Nat) (h0 : kd v0 = 11) (Mo : Mem) : CT l D cy B kd n sa sv 0 0 yX11_thrown cX11_thrown 1 (some (FieldType.int)) (pI Mo) [.ref (B + v0)] Mo (fX11_thrown v0 Mo) := by
  refine ct_of (by decide) G.1 G.2 (Nat.le_of_ble_eq_true rfl) (ls := [(0, .ref (B + v0))]) rfl ?_
  intro p e s m args below meth c b0 C ht hr
  unfold fX11_thrown
  refine z_aload_n C 0 0 dX11_thrown_0 rfl rfl ?_
  refine z_getI (k := 5) C cl11 h0 rfl gw_7_15 rfl dX11_thrown_1 ?_
  exact z_iret C hr (Nat.le_of_ble_eq_true rfl) dX11_thrown_4 rfl
set_option maxHeartbeats 4000000 in
set_option maxRecDepth 100000 in
theorem ctX11_fails {l : Launch} {D : va_G} {cy : Nat → ClassId} {B : Nat} {kd : Nat → Nat} {n : Nat} {sa sv : Nat → Nat} (G : zG l kd n) (v0 : Nat) (v1 : Int32) (h0 : kd v0 = 11) (M : Mem) : CT l D cy B kd n sa sv 0 0 yX11_fails cX11_fails 2 (some (FieldType.int)) cvI [.ref (B + v0), .int v1] M (fX11_fails v0 v1 M) := by
  refine ct_of (by decide) G.1 G.2 (Nat.le_of_ble_eq_true rfl) (ls := [(0, .ref (B + v0)), (1, .int v1)]) rfl ?_
  intro p e s m args below meth c b0 C ht hr
  unfold fX11_fails
  refine z_aload_n C 0 0 dX11_fails_0 rfl rfl ?_
  refine z_iload_n C 1 1 dX11_fails_1 rfl rfl ?_
  refine z_putI (k := 5) C cl11 h0 rfl gw_7_15 rfl rfl rfl dX11_fails_2 ?_
  refine z_iconst C dX11_fails_5 rfl ?_
  exact z_iret C hr (Nat.le_of_ble_eq_true rfl) dX11_fails_6 rfl
set_option maxHeartbeats 4000000 in
set_option maxRecDepth 100000 in
theorem z_fX11_within_b17 {p : Program} {l : Launch} {e : Env} {s : State} {m : MethodId} {args : Array Value} {below : List Frame} {meth : Method} {c : Code} {D : va_G} {cy : Nat → ClassId} {B : Nat} {kd : Nat → Nat} {n : Nat} {sa sv : Nat → Nat} (C : zC p l s m args meth c D cy B kd n sa sv RX11 cX11_within 6) (ht : ∀ x ∈ c.exceptionTable.toList, False) (hr : meth.sig.returnType = some (FieldType.boolean)) {b0 : Bool}   (Mo : Mem)  : Z p l e (rmz 0 0) s m args below meth c (vx_MQ below (QcR D cy B kd n ((pB Mo) b0)) (XcR D cy B kd n ((pB Mo) b0)) args s 0 (6 * 0) (AA B kd n)) D cy B kd n 6 b0 0 17 [] [] Mo (fX11_within_b17 Mo) := by
  unfold fX11_within_b17
  refine z_iconst C dX11_within_17 rfl ?_
  exact z_zret C (v := false) hr (Nat.le_of_ble_eq_true rfl) dX11_within_18 rfl
set_option maxHeartbeats 4000000 in
set_option maxRecDepth 100000 in
theorem ctX11_within {l : Launch} {D : va_G} {cy : Nat → ClassId} {B : Nat} {kd : Nat → Nat} {n : Nat} {sa sv : Nat → Nat} (G : zG l kd n) (v0 : Int64) (v2 : Int64) (v4 : Int64)  (Mo : Mem) : CT l D cy B kd n sa sv 0 0 yX11_within cX11_within 6 (some (FieldType.boolean)) (pB Mo) [.long v0, .long v2, .long v4] Mo (fX11_within v0 v2 v4 Mo) := by
  refine ct_of (by decide) G.1 G.2 (Nat.le_of_ble_eq_true rfl) (ls := [(0, .long v0), (2, .long v2), (4, .long v4)]) rfl ?_
  intro p e s m args below meth c b0 C ht hr
  unfold fX11_within
  refine z_lload_n C 0 0 dX11_within_0 rfl rfl ?_
  refine z_lload_n C 2 1 dX11_within_1 rfl rfl ?_
  refine z_lcmp_lt C 17 dX11_within_2 dX11_within_3 rfl (fun _ => ?_) (fun _ => ?_)
  · exact z_jump (ls1 := []) (Nat.le_of_ble_eq_true rfl) [] rfl (z_fX11_within_b17 C ht hr Mo)
  · refine z_lload_n C 0 0 dX11_within_6 rfl rfl ?_
    refine z_lload C 2 dX11_within_7 rfl ?_
    refine z_lcmp_gt C 17 dX11_within_9 dX11_within_10 rfl (fun _ => ?_) (fun _ => ?_)
    · exact z_jump (ls1 := []) (Nat.le_of_ble_eq_true rfl) [] rfl (z_fX11_within_b17 C ht hr Mo)
    · refine z_iconst C dX11_within_13 rfl ?_
      refine z_goto C 18 dX11_within_14 rfl ?_
      exact z_zret C (v := true) hr (Nat.le_of_ble_eq_true rfl) dX11_within_18 rfl
set_option maxHeartbeats 4000000 in
set_option maxRecDepth 100000 in
theorem z_fX11_feed_b76 {p : Program} {l : Launch} {e : Env} {s : State} {m : MethodId} {args : Array Value} {below : List Frame} {meth : Method} {c : Code} {D : va_G} {cy : Nat → ClassId} {B : Nat} {kd : Nat → Nat} {n : Nat} {sa sv : Nat → Nat} (C : zC p l s m args meth c D cy B kd n sa sv RX11 cX11_feed 8) (ht : ∀ x ∈ c.exceptionTable.toList, False) (hr : meth.sig.returnType = some (FieldType.int)) {b0 : Int32 × Mem}  (N : Nat) (k23 : Int32 → Mem → Option (Int32 × Mem)) (v0 : Nat) (v1 : Int32) (v2 : Int32) (v3 : Int32) (v4 : Int32) (v5 : Int32) (v6 : Int32) (s0 : Int32) (M : Mem) (h0 : kd v0 = 11) (hk23 : ∀ (v6 : Int32) (M : Mem), Z p l e (rmz 0 0) s m args below meth c (vx_MQ below (QcR D cy B kd n (cvI b0)) (XcR D cy B kd n (cvI b0)) args s 0 (6 * 0) (AA B kd n)) D cy B kd n 8 b0 0 23 [(0, .ref (B + v0)), (1, .int v1), (2, .int v2), (3, .int v3), (4, .int v4), (5, .int v5), (6, .int v6)] [] M (k23 v6 M)) : Z p l e (rmz 0 0) s m args below meth c (vx_MQ below (QcR D cy B kd n (cvI b0)) (XcR D cy B kd n (cvI b0)) args s 0 (6 * 0) (AA B kd n)) D cy B kd n 8 b0 0 76 [(0, .ref (B + v0)), (1, .int v1), (2, .int v2), (3, .int v3), (4, .int v4), (5, .int v5), (6, .int v6)] [.int s0] M (fX11_feed_b76 N k23 v0 v1 v2 v3 v4 v5 v6 s0 M) := by
  unfold fX11_feed_b76
  refine z_istore C 7 (ls1 := [(7, .int s0), (0, .ref (B + v0)), (1, .int v1), (2, .int v2), (3, .int v3), (4, .int v4), (5, .int v5), (6, .int v6)]) dX11_feed_76 (by decide) rfl ?_
  refine z_aload_n C 0 1 dX11_feed_78 rfl rfl ?_
  refine z_getR (k := 6) C cl11 h0 rfl gw_7_16 rfl dX11_feed_79 ?_
  have j1 : kd (v0 + 6) = 20 := zkd C h0 (k := 6) rfl
  refine z_aload_n C 0 1 dX11_feed_82 rfl rfl ?_
  refine z_getI (k := 7) C cl11 h0 rfl gw_7_17 rfl dX11_feed_83 ?_
  refine z_iload C 0 dX11_feed_86 rfl ?_
  refine z_bipush (v := 24) C dX11_feed_88 rfl ?_
  refine z_bipush (v := 8) C dX11_feed_90 rfl ?_
  refine z_iload C 7 dX11_feed_92 rfl ?_
  refine z_iconst C dX11_feed_94 rfl ?_
  refine z_iand C dX11_feed_95 ?_
  refine z_imul C dX11_feed_96 ?_
  refine z_isub C dX11_feed_97 ?_
  refine z_iushr C dX11_feed_98 ?_
  refine z_sipush (v := 255) C dX11_feed_99 rfl ?_
  refine z_iand C dX11_feed_102 ?_
  refine z_iast C j1 rfl (by decide) dX11_feed_103 (fun _ => ?_)
  refine z_aload_n C 0 1 dX11_feed_104 rfl rfl ?_
  refine z_dup C dX11_feed_105 rfl ?_
  refine z_getI (k := 7) C cl11 h0 rfl gw_7_17 rfl dX11_feed_106 ?_
  refine z_iconst C dX11_feed_109 rfl ?_
  refine z_iadd C dX11_feed_110 ?_
  refine z_putI (k := 7) C cl11 h0 rfl gw_7_17 rfl rfl rfl dX11_feed_111 ?_
  refine z_iinc C 6 7 (v := v6) (v1 := (v6 + (1 : Int32))) (ls1 := [(6, .int (v6 + (1 : Int32))), (7, .int s0), (0, .ref (B + v0)), (1, .int v1), (2, .int v2), (3, .int v3), (4, .int v4), (5, .int v5)]) dX11_feed_114 rfl rfl (by decide) rfl ?_
  refine z_goto C 23 dX11_feed_117 rfl ?_
  exact z_jump (ls1 := [(0, .ref (B + v0)), (1, .int v1), (2, .int v2), (3, .int v3), (4, .int v4), (5, .int v5), (6, .int (v6 + (1 : Int32)))]) (Nat.le_of_ble_eq_true rfl) [2, 3, 4, 5, 6, 7, 0] rfl (hk23 (v6 + (1 : Int32)) (wI (wI M (v0 + 6) ((rI M v0 7).toNatClampNeg) ((ushrI s0 ((24 : Int32) - ((8 : Int32) * (v6 &&& (3 : Int32))))) &&& (255 : Int32))) v0 7 ((rI (wI M (v0 + 6) ((rI M v0 7).toNatClampNeg) ((ushrI s0 ((24 : Int32) - ((8 : Int32) * (v6 &&& (3 : Int32))))) &&& (255 : Int32))) v0 7) + (1 : Int32))))
set_option maxHeartbeats 4000000 in
set_option maxRecDepth 100000 in
theorem z_fX11_feed_l23_s {p : Program} {l : Launch} {e : Env} {s : State} {m : MethodId} {args : Array Value} {below : List Frame} {meth : Method} {c : Code} {D : va_G} {cy : Nat → ClassId} {B : Nat} {kd : Nat → Nat} {n : Nat} {sa sv : Nat → Nat} (C : zC p l s m args meth c D cy B kd n sa sv RX11 cX11_feed 8) (ht : ∀ x ∈ c.exceptionTable.toList, False) (hr : meth.sig.returnType = some (FieldType.int)) {b0 : Int32 × Mem} (N : Nat) (v0 : Nat) (v1 : Int32) (v2 : Int32) (v3 : Int32) (v4 : Int32) (v5 : Int32) (k23 : Int32 → Mem → Option (Int32 × Mem)) (v6 : Int32) (M : Mem) (h0 : kd v0 = 11)  (hk23 : ∀ (v6 : Int32) (M : Mem), Z p l e (rmz 0 0) s m args below meth c (vx_MQ below (QcR D cy B kd n (cvI b0)) (XcR D cy B kd n (cvI b0)) args s 0 (6 * 0) (AA B kd n)) D cy B kd n 8 b0 0 23 [(0, .ref (B + v0)), (1, .int v1), (2, .int v2), (3, .int v3), (4, .int v4), (5, .int v5), (6, .int v6)] [] M (k23 v6 M)) : Z p l e (rmz 0 0) s m args below meth c (vx_MQ below (QcR D cy B kd n (cvI b0)) (XcR D cy B kd n (cvI b0)) args s 0 (6 * 0) (AA B kd n)) D cy B kd n 8 b0 0 23 [(0, .ref (B + v0)), (1, .int v1), (2, .int v2), (3, .int v3), (4, .int v4), (5, .int v5), (6, .int v6)] [] M (fX11_feed_l23_s N v0 v1 v2 v3 v4 v5 k23 v6 M) := by
  unfold fX11_feed_l23_s
  refine z_iload C 6 dX11_feed_23 rfl ?_
  refine z_bipush (v := 20) C dX11_feed_25 rfl ?_
  refine z_icmp_ge C 120 dX11_feed_27 rfl (fun _ => ?_) (fun _ => ?_)
  · refine z_aload_n C 0 0 dX11_feed_120 rfl rfl ?_
    refine z_getI (k := 7) C cl11 h0 rfl gw_7_17 rfl dX11_feed_121 ?_
    exact z_iret C hr (Nat.le_of_ble_eq_true rfl) dX11_feed_124 rfl
  · refine z_iload C 6 dX11_feed_30 rfl ?_
    refine z_iconst C dX11_feed_32 rfl ?_
    refine z_icmp_ge C 40 dX11_feed_33 rfl (fun _ => ?_) (fun _ => ?_)
    · refine z_iload C 6 dX11_feed_40 rfl ?_
      refine z_bipush (v := 8) C dX11_feed_42 rfl ?_
      refine z_icmp_ge C 51 dX11_feed_44 rfl (fun _ => ?_) (fun _ => ?_)
      · refine z_iload C 6 dX11_feed_51 rfl ?_
        refine z_bipush (v := 12) C dX11_feed_53 rfl ?_
        refine z_icmp_ge C 62 dX11_feed_55 rfl (fun _ => ?_) (fun _ => ?_)
        · refine z_iload C 6 dX11_feed_62 rfl ?_
          refine z_bipush (v := 16) C dX11_feed_64 rfl ?_
          refine z_icmp_ge C 74 dX11_feed_66 rfl (fun _ => ?_) (fun _ => ?_)
          · refine z_iload C 5 dX11_feed_74 rfl ?_
            exact z_jump (ls1 := [(0, .ref (B + v0)), (1, .int v1), (2, .int v2), (3, .int v3), (4, .int v4), (5, .int v5), (6, .int v6)]) (Nat.le_of_ble_eq_true rfl) [0, 1, 2, 3, 4, 5, 6] rfl (z_fX11_feed_b76 C ht hr N k23 v0 v1 v2 v3 v4 v5 v6 v5 M h0 hk23)
          · refine z_iload C 4 dX11_feed_69 rfl ?_
            refine z_goto C 76 dX11_feed_71 rfl ?_
            exact z_jump (ls1 := [(0, .ref (B + v0)), (1, .int v1), (2, .int v2), (3, .int v3), (4, .int v4), (5, .int v5), (6, .int v6)]) (Nat.le_of_ble_eq_true rfl) [0, 1, 2, 3, 4, 5, 6] rfl (z_fX11_feed_b76 C ht hr N k23 v0 v1 v2 v3 v4 v5 v6 v4 M h0 hk23)
        · refine z_iload_n C 3 3 dX11_feed_58 rfl rfl ?_
          refine z_goto C 76 dX11_feed_59 rfl ?_
          exact z_jump (ls1 := [(0, .ref (B + v0)), (1, .int v1), (2, .int v2), (3, .int v3), (4, .int v4), (5, .int v5), (6, .int v6)]) (Nat.le_of_ble_eq_true rfl) [0, 1, 2, 3, 4, 5, 6] rfl (z_fX11_feed_b76 C ht hr N k23 v0 v1 v2 v3 v4 v5 v6 v3 M h0 hk23)
      · refine z_iload_n C 2 2 dX11_feed_47 rfl rfl ?_
        refine z_goto C 76 dX11_feed_48 rfl ?_
        exact z_jump (ls1 := [(0, .ref (B + v0)), (1, .int v1), (2, .int v2), (3, .int v3), (4, .int v4), (5, .int v5), (6, .int v6)]) (Nat.le_of_ble_eq_true rfl) [0, 1, 2, 3, 4, 5, 6] rfl (z_fX11_feed_b76 C ht hr N k23 v0 v1 v2 v3 v4 v5 v6 v2 M h0 hk23)
    · refine z_iload_n C 1 1 dX11_feed_36 rfl rfl ?_
      refine z_goto C 76 dX11_feed_37 rfl ?_
      exact z_jump (ls1 := [(0, .ref (B + v0)), (1, .int v1), (2, .int v2), (3, .int v3), (4, .int v4), (5, .int v5), (6, .int v6)]) (Nat.le_of_ble_eq_true rfl) [0, 1, 2, 3, 4, 5, 6] rfl (z_fX11_feed_b76 C ht hr N k23 v0 v1 v2 v3 v4 v5 v6 v1 M h0 hk23)
theorem z_fX11_feed_l23_i {p : Program} {l : Launch} {e : Env} {s : State} {m : MethodId} {args : Array Value} {below : List Frame} {meth : Method} {c : Code} {D : va_G} {cy : Nat → ClassId} {B : Nat} {kd : Nat → Nat} {n : Nat} {sa sv : Nat → Nat} (C : zC p l s m args meth c D cy B kd n sa sv RX11 cX11_feed 8) (ht : ∀ x ∈ c.exceptionTable.toList, False) (hr : meth.sig.returnType = some (FieldType.int)) {b0 : Int32 × Mem} (N : Nat) (v0 : Nat) (v1 : Int32) (v2 : Int32) (v3 : Int32) (v4 : Int32) (v5 : Int32) (h0 : kd v0 = 11)  (fu : Nat) : ∀ (v6 : Int32) (M : Mem), Z p l e (rmz 0 0) s m args below meth c (vx_MQ below (QcR D cy B kd n (cvI b0)) (XcR D cy B kd n (cvI b0)) args s 0 (6 * 0) (AA B kd n)) D cy B kd n 8 b0 0 23 [(0, .ref (B + v0)), (1, .int v1), (2, .int v2), (3, .int v3), (4, .int v4), (5, .int v5), (6, .int v6)] [] M (fX11_feed_l23 N v0 v1 v2 v3 v4 v5 fu v6 M) := by
  induction fu with
  | zero => intro v6 M; exact z_none
  | succ fu ih => intro v6 M; exact z_fX11_feed_l23_s C ht hr N v0 v1 v2 v3 v4 v5 (fX11_feed_l23 N v0 v1 v2 v3 v4 v5 fu) v6 M h0 (fun v6 M => ih v6 M)
theorem z_fX11_feed_l23 {p : Program} {l : Launch} {e : Env} {s : State} {m : MethodId} {args : Array Value} {below : List Frame} {meth : Method} {c : Code} {D : va_G} {cy : Nat → ClassId} {B : Nat} {kd : Nat → Nat} {n : Nat} {sa sv : Nat → Nat} (C : zC p l s m args meth c D cy B kd n sa sv RX11 cX11_feed 8) (ht : ∀ x ∈ c.exceptionTable.toList, False) (hr : meth.sig.returnType = some (FieldType.int)) {b0 : Int32 × Mem} (N : Nat) (v0 : Nat) (v1 : Int32) (v2 : Int32) (v3 : Int32) (v4 : Int32) (v5 : Int32) (fu : Nat) (v6 : Int32) (M : Mem) (h0 : kd v0 = 11)  : Z p l e (rmz 0 0) s m args below meth c (vx_MQ below (QcR D cy B kd n (cvI b0)) (XcR D cy B kd n (cvI b0)) args s 0 (6 * 0) (AA B kd n)) D cy B kd n 8 b0 0 23 [(0, .ref (B + v0)), (1, .int v1), (2, .int v2), (3, .int v3), (4, .int v4), (5, .int v5), (6, .int v6)] [] M (fX11_feed_l23 N v0 v1 v2 v3 v4 v5 fu v6 M) := z_fX11_feed_l23_i C ht hr N v0 v1 v2 v3 v4 v5 h0 fu v6 M
set_option maxHeartbeats 4000000 in
set_option maxRecDepth 100000 in
theorem ctX11_feed {l : Launch} {D : va_G} {cy : Nat → ClassId} {B : Nat} {kd : Nat → Nat} {n : Nat} {sa sv : Nat → Nat} (G : zG l kd n) (N : Nat) (v0 : Nat) (v1 : Int32) (v2 : Int32) (v3 : Int32) (v4 : Int32) (v5 : Int32) (h0 : kd v0 = 11) (M : Mem) : CT l D cy B kd n sa sv 0 0 yX11_feed cX11_feed 8 (some (FieldType.int)) cvI [.ref (B + v0), .int v1, .int v2, .int v3, .int v4, .int v5] M (fX11_feed N v0 v1 v2 v3 v4 v5 M) := by
  refine ct_of (by decide) G.1 G.2 (Nat.le_of_ble_eq_true rfl) (ls := [(0, .ref (B + v0)), (1, .int v1), (2, .int v2), (3, .int v3), (4, .int v4), (5, .int v5)]) rfl ?_
  intro p e s m args below meth c b0 C ht hr
  unfold fX11_feed
  refine z_aload_n C 0 0 dX11_feed_0 rfl rfl ?_
  refine z_iconst C dX11_feed_1 rfl ?_
  refine z_putI (k := 5) C cl11 h0 rfl gw_7_15 rfl rfl rfl dX11_feed_2 ?_
  refine z_aload_n C 0 0 dX11_feed_5 rfl rfl ?_
  refine z_getI (k := 7) C cl11 h0 rfl gw_7_17 rfl dX11_feed_6 ?_
  refine z_bipush (v := 20) C dX11_feed_9 rfl ?_
  refine z_iadd C dX11_feed_11 ?_
  refine z_sipush (v := 600) C dX11_feed_12 rfl ?_
  refine z_icmp_le C 20 dX11_feed_15 rfl (fun _ => ?_) (fun _ => ?_)
  · refine z_iconst C dX11_feed_20 rfl ?_
    refine z_istore C 6 (ls1 := [(6, .int (0 : Int32)), (0, .ref (B + v0)), (1, .int v1), (2, .int v2), (3, .int v3), (4, .int v4), (5, .int v5)]) dX11_feed_21 (by decide) rfl ?_
    exact z_jump (ls1 := [(0, .ref (B + v0)), (1, .int v1), (2, .int v2), (3, .int v3), (4, .int v4), (5, .int v5), (6, .int (0 : Int32))]) (Nat.le_of_ble_eq_true rfl) [1, 2, 3, 4, 5, 6, 0] rfl (z_fX11_feed_l23 C ht hr N v0 v1 v2 v3 v4 v5 N (0 : Int32) (wI M v0 5 (0 : Int32)) h0)
  · refine z_iconst C dX11_feed_18 rfl ?_
    exact z_iret C hr (Nat.le_of_ble_eq_true rfl) dX11_feed_19 rfl
set_option maxHeartbeats 4000000 in
set_option maxRecDepth 100000 in
theorem ctX11_see {l : Launch} {D : va_G} {cy : Nat → ClassId} {B : Nat} {kd : Nat → Nat} {n : Nat} {sa sv : Nat → Nat} (G : zG l kd n) (v0 : Nat) (v1 : Int32) (h0 : kd v0 = 11) (Mo : Mem) : CT l D cy B kd n sa sv 0 0 yX11_see cX11_see 2 (some (FieldType.int)) (pI Mo) [.ref (B + v0), .int v1] Mo (fX11_see v0 v1 Mo) := by
  refine ct_of (by decide) G.1 G.2 (Nat.le_of_ble_eq_true rfl) (ls := [(0, .ref (B + v0)), (1, .int v1)]) rfl ?_
  intro p e s m args below meth c b0 C ht hr
  unfold fX11_see
  refine z_iload_n C 1 1 dX11_see_0 rfl rfl ?_
  refine z_aload_n C 0 0 dX11_see_1 rfl rfl ?_
  refine z_getI (k := 8) C cl11 h0 rfl gw_7_18 rfl dX11_see_2 ?_
  refine z_icmp_ge C 17 dX11_see_5 rfl (fun _ => ?_) (fun _ => ?_)
  · refine z_iconst C dX11_see_17 rfl ?_
    exact z_iret C hr (Nat.le_of_ble_eq_true rfl) dX11_see_18 rfl
  · refine z_aload_n C 0 0 dX11_see_8 rfl rfl ?_
    refine z_getR (k := 6) C cl11 h0 rfl gw_7_16 rfl dX11_see_9 ?_
    have j1 : kd (v0 + 6) = 20 := zkd C h0 (k := 6) rfl
    refine z_iload_n C 1 1 dX11_see_12 rfl rfl ?_
    refine z_iald C j1 rfl (by decide) dX11_see_13 (fun j2 => ?_)
    refine z_goto C 18 dX11_see_14 rfl ?_
    exact z_iret C hr (Nat.le_of_ble_eq_true rfl) dX11_see_18 rfl
set_option maxHeartbeats 4000000 in
set_option maxRecDepth 100000 in
theorem z_fX11_isLetter_b16 {p : Program} {l : Launch} {e : Env} {s : State} {m : MethodId} {args : Array Value} {below : List Frame} {meth : Method} {c : Code} {D : va_G} {cy : Nat → ClassId} {B : Nat} {kd : Nat → Nat} {n : Nat} {sa sv : Nat → Nat} (C : zC p l s m args meth c D cy B kd n sa sv RX11 cX11_isLetter 1) (ht : ∀ x ∈ c.exceptionTable.toList, False) (hr : meth.sig.returnType = some (FieldType.boolean)) {b0 : Bool}   (Mo : Mem)  : Z p l e (rmz 0 0) s m args below meth c (vx_MQ below (QcR D cy B kd n ((pB Mo) b0)) (XcR D cy B kd n ((pB Mo) b0)) args s 0 (6 * 0) (AA B kd n)) D cy B kd n 1 b0 0 16 [] [] Mo (fX11_isLetter_b16 Mo) := by
  unfold fX11_isLetter_b16
  refine z_iconst C dX11_isLetter_16 rfl ?_
  exact z_zret C (v := false) hr (Nat.le_of_ble_eq_true rfl) dX11_isLetter_17 rfl
set_option maxHeartbeats 4000000 in
set_option maxRecDepth 100000 in
theorem ctX11_isLetter {l : Launch} {D : va_G} {cy : Nat → ClassId} {B : Nat} {kd : Nat → Nat} {n : Nat} {sa sv : Nat → Nat} (G : zG l kd n) (v0 : Int32)  (Mo : Mem) : CT l D cy B kd n sa sv 0 0 yX11_isLetter cX11_isLetter 1 (some (FieldType.boolean)) (pB Mo) [.int v0] Mo (fX11_isLetter v0 Mo) := by
  refine ct_of (by decide) G.1 G.2 (Nat.le_of_ble_eq_true rfl) (ls := [(0, .int v0)]) rfl ?_
  intro p e s m args below meth c b0 C ht hr
  unfold fX11_isLetter
  refine z_iload_n C 0 0 dX11_isLetter_0 rfl rfl ?_
  refine z_bipush (v := 97) C dX11_isLetter_1 rfl ?_
  refine z_icmp_lt C 16 dX11_isLetter_3 rfl (fun _ => ?_) (fun _ => ?_)
  · exact z_jump (ls1 := []) (Nat.le_of_ble_eq_true rfl) [] rfl (z_fX11_isLetter_b16 C ht hr Mo)
  · refine z_iload_n C 0 0 dX11_isLetter_6 rfl rfl ?_
    refine z_bipush (v := 122) C dX11_isLetter_7 rfl ?_
    refine z_icmp_gt C 16 dX11_isLetter_9 rfl (fun _ => ?_) (fun _ => ?_)
    · exact z_jump (ls1 := []) (Nat.le_of_ble_eq_true rfl) [] rfl (z_fX11_isLetter_b16 C ht hr Mo)
    · refine z_iconst C dX11_isLetter_12 rfl ?_
      refine z_goto C 17 dX11_isLetter_13 rfl ?_
      exact z_zret C (v := true) hr (Nat.le_of_ble_eq_true rfl) dX11_isLetter_17 rfl
set_option maxHeartbeats 4000000 in
set_option maxRecDepth 100000 in
theorem z_fX11_isDigit_b16 {p : Program} {l : Launch} {e : Env} {s : State} {m : MethodId} {args : Array Value} {below : List Frame} {meth : Method} {c : Code} {D : va_G} {cy : Nat → ClassId} {B : Nat} {kd : Nat → Nat} {n : Nat} {sa sv : Nat → Nat} (C : zC p l s m args meth c D cy B kd n sa sv RX11 cX11_isDigit 1) (ht : ∀ x ∈ c.exceptionTable.toList, False) (hr : meth.sig.returnType = some (FieldType.boolean)) {b0 : Bool}   (Mo : Mem)  : Z p l e (rmz 0 0) s m args below meth c (vx_MQ below (QcR D cy B kd n ((pB Mo) b0)) (XcR D cy B kd n ((pB Mo) b0)) args s 0 (6 * 0) (AA B kd n)) D cy B kd n 1 b0 0 16 [] [] Mo (fX11_isDigit_b16 Mo) := by
  unfold fX11_isDigit_b16
  refine z_iconst C dX11_isDigit_16 rfl ?_
  exact z_zret C (v := false) hr (Nat.le_of_ble_eq_true rfl) dX11_isDigit_17 rfl
set_option maxHeartbeats 4000000 in
set_option maxRecDepth 100000 in
theorem ctX11_isDigit {l : Launch} {D : va_G} {cy : Nat → ClassId} {B : Nat} {kd : Nat → Nat} {n : Nat} {sa sv : Nat → Nat} (G : zG l kd n) (v0 : Int32)  (Mo : Mem) : CT l D cy B kd n sa sv 0 0 yX11_isDigit cX11_isDigit 1 (some (FieldType.boolean)) (pB Mo) [.int v0] Mo (fX11_isDigit v0 Mo) := by
  refine ct_of (by decide) G.1 G.2 (Nat.le_of_ble_eq_true rfl) (ls := [(0, .int v0)]) rfl ?_
  intro p e s m args below meth c b0 C ht hr
  unfold fX11_isDigit
  refine z_iload_n C 0 0 dX11_isDigit_0 rfl rfl ?_
  refine z_bipush (v := 48) C dX11_isDigit_1 rfl ?_
  refine z_icmp_lt C 16 dX11_isDigit_3 rfl (fun _ => ?_) (fun _ => ?_)
  · exact z_jump (ls1 := []) (Nat.le_of_ble_eq_true rfl) [] rfl (z_fX11_isDigit_b16 C ht hr Mo)
  · refine z_iload_n C 0 0 dX11_isDigit_6 rfl rfl ?_
    refine z_bipush (v := 57) C dX11_isDigit_7 rfl ?_
    refine z_icmp_gt C 16 dX11_isDigit_9 rfl (fun _ => ?_) (fun _ => ?_)
    · exact z_jump (ls1 := []) (Nat.le_of_ble_eq_true rfl) [] rfl (z_fX11_isDigit_b16 C ht hr Mo)
    · refine z_iconst C dX11_isDigit_12 rfl ?_
      refine z_goto C 17 dX11_isDigit_13 rfl ?_
      exact z_zret C (v := true) hr (Nat.le_of_ble_eq_true rfl) dX11_isDigit_17 rfl
set_option maxHeartbeats 4000000 in
set_option maxRecDepth 100000 in
theorem z_fX11_isMark_b48 {p : Program} {l : Launch} {e : Env} {s : State} {m : MethodId} {args : Array Value} {below : List Frame} {meth : Method} {c : Code} {D : va_G} {cy : Nat → ClassId} {B : Nat} {kd : Nat → Nat} {n : Nat} {sa sv : Nat → Nat} (C : zC p l s m args meth c D cy B kd n sa sv RX11 cX11_isMark 1) (ht : ∀ x ∈ c.exceptionTable.toList, False) (hr : meth.sig.returnType = some (FieldType.boolean)) {b0 : Bool}   (Mo : Mem)  : Z p l e (rmz 0 0) s m args below meth c (vx_MQ below (QcR D cy B kd n ((pB Mo) b0)) (XcR D cy B kd n ((pB Mo) b0)) args s 0 (6 * 0) (AA B kd n)) D cy B kd n 1 b0 0 48 [] [] Mo (fX11_isMark_b48 Mo) := by
  unfold fX11_isMark_b48
  refine z_iconst C dX11_isMark_48 rfl ?_
  refine z_goto C 53 dX11_isMark_49 rfl ?_
  exact z_zret C (v := true) hr (Nat.le_of_ble_eq_true rfl) dX11_isMark_53 rfl
set_option maxHeartbeats 4000000 in
set_option maxRecDepth 100000 in
theorem ctX11_isMark {l : Launch} {D : va_G} {cy : Nat → ClassId} {B : Nat} {kd : Nat → Nat} {n : Nat} {sa sv : Nat → Nat} (G : zG l kd n) (v0 : Int32)  (Mo : Mem) : CT l D cy B kd n sa sv 0 0 yX11_isMark cX11_isMark 1 (some (FieldType.boolean)) (pB Mo) [.int v0] Mo (fX11_isMark v0 Mo) := by
  refine ct_of (by decide) G.1 G.2 (Nat.le_of_ble_eq_true rfl) (ls := [(0, .int v0)]) rfl ?_
  intro p e s m args below meth c b0 C ht hr
  unfold fX11_isMark
  refine z_iload_n C 0 0 dX11_isMark_0 rfl rfl ?_
  refine z_bipush (v := 59) C dX11_isMark_1 rfl ?_
  refine z_icmp_eq C 48 dX11_isMark_3 rfl (fun _ => ?_) (fun _ => ?_)
  · exact z_jump (ls1 := []) (Nat.le_of_ble_eq_true rfl) [] rfl (z_fX11_isMark_b48 C ht hr Mo)
  · refine z_iload_n C 0 0 dX11_isMark_6 rfl rfl ?_
    refine z_bipush (v := 40) C dX11_isMark_7 rfl ?_
    refine z_icmp_eq C 48 dX11_isMark_9 rfl (fun _ => ?_) (fun _ => ?_)
    · exact z_jump (ls1 := []) (Nat.le_of_ble_eq_true rfl) [] rfl (z_fX11_isMark_b48 C ht hr Mo)
    · refine z_iload_n C 0 0 dX11_isMark_12 rfl rfl ?_
      refine z_bipush (v := 41) C dX11_isMark_13 rfl ?_
      refine z_icmp_eq C 48 dX11_isMark_15 rfl (fun _ => ?_) (fun _ => ?_)
      · exact z_jump (ls1 := []) (Nat.le_of_ble_eq_true rfl) [] rfl (z_fX11_isMark_b48 C ht hr Mo)
      · refine z_iload_n C 0 0 dX11_isMark_18 rfl rfl ?_
        refine z_bipush (v := 43) C dX11_isMark_19 rfl ?_
        refine z_icmp_eq C 48 dX11_isMark_21 rfl (fun _ => ?_) (fun _ => ?_)
        · exact z_jump (ls1 := []) (Nat.le_of_ble_eq_true rfl) [] rfl (z_fX11_isMark_b48 C ht hr Mo)
        · refine z_iload_n C 0 0 dX11_isMark_24 rfl rfl ?_
          refine z_bipush (v := 45) C dX11_isMark_25 rfl ?_
          refine z_icmp_eq C 48 dX11_isMark_27 rfl (fun _ => ?_) (fun _ => ?_)
          · exact z_jump (ls1 := []) (Nat.le_of_ble_eq_true rfl) [] rfl (z_fX11_isMark_b48 C ht hr Mo)
          · refine z_iload_n C 0 0 dX11_isMark_30 rfl rfl ?_
            refine z_bipush (v := 42) C dX11_isMark_31 rfl ?_
            refine z_icmp_eq C 48 dX11_isMark_33 rfl (fun _ => ?_) (fun _ => ?_)
            · exact z_jump (ls1 := []) (Nat.le_of_ble_eq_true rfl) [] rfl (z_fX11_isMark_b48 C ht hr Mo)
            · refine z_iload_n C 0 0 dX11_isMark_36 rfl rfl ?_
              refine z_bipush (v := 47) C dX11_isMark_37 rfl ?_
              refine z_icmp_eq C 48 dX11_isMark_39 rfl (fun _ => ?_) (fun _ => ?_)
              · exact z_jump (ls1 := []) (Nat.le_of_ble_eq_true rfl) [] rfl (z_fX11_isMark_b48 C ht hr Mo)
              · refine z_iload_n C 0 0 dX11_isMark_42 rfl rfl ?_
                refine z_bipush (v := 37) C dX11_isMark_43 rfl ?_
                refine z_icmp_ne C 52 dX11_isMark_45 rfl (fun _ => ?_) (fun _ => ?_)
                · exact z_jump (ls1 := []) (Nat.le_of_ble_eq_true rfl) [] rfl (z_fX11_isMark_b48 C ht hr Mo)
                · refine z_iconst C dX11_isMark_52 rfl ?_
                  exact z_zret C (v := false) hr (Nat.le_of_ble_eq_true rfl) dX11_isMark_53 rfl
set_option maxHeartbeats 4000000 in
set_option maxRecDepth 100000 in
theorem z_fX11_reads_l94_s {p : Program} {l : Launch} {e : Env} {s : State} {m : MethodId} {args : Array Value} {below : List Frame} {meth : Method} {c : Code} {D : va_G} {cy : Nat → ClassId} {B : Nat} {kd : Nat → Nat} {n : Nat} {sa sv : Nat → Nat} (C : zC p l s m args meth c D cy B kd n sa sv RX11 cX11_reads 2) (ht : ∀ x ∈ c.exceptionTable.toList, False) (hr : meth.sig.returnType = none) {b0 : Mem} (N : Nat) (v0 : Nat) (k94 : Mem → Option Mem) (M : Mem) (h0 : kd v0 = 11)  (hk94 : ∀ (M : Mem), Z p l e (rmz 1 0) s m args below meth c (vx_MQ below (QcR D cy B kd n (cvV b0)) (XcR D cy B kd n (cvV b0)) args s 0 (6 * 0) (AA B kd n)) D cy B kd n 2 b0 0 94 [(0, .ref (B + v0))] [] M (k94 M)) : Z p l e (rmz 1 0) s m args below meth c (vx_MQ below (QcR D cy B kd n (cvV b0)) (XcR D cy B kd n (cvV b0)) args s 0 (6 * 0) (AA B kd n)) D cy B kd n 2 b0 0 94 [(0, .ref (B + v0))] [] M (fX11_reads_l94_s N v0 k94 M) := by
  unfold fX11_reads_l94_s
  refine z_aload_n C 0 0 dX11_reads_94 rfl rfl ?_
  refine z_aload_n C 0 0 dX11_reads_95 rfl rfl ?_
  refine z_getI (k := 9) C cl11 h0 rfl gw_7_19 rfl dX11_reads_96 ?_
  refine z_callV_pI (As := [.int (rI M v0 9)]) (rest := []) C rfl (ctX11_see (zG_of C) v0 (rI M v0 9) h0 M) cw_RX11_114 rfl (okM_X11_see) rfl cl11 h0 (okR_of rfl) (Nat.le_of_ble_eq_true rfl) dX11_reads_99 (fun qj1 _ => ?_)
  refine z_callS_pB (As := [.int qj1]) (rest := []) C rfl (ctX11_isLetter (zG_of C) qj1 M) cw_RX11_110 (okM_X11_isLetter) rfl (okR_of rfl) (Nat.le_of_ble_eq_true rfl) dX11_reads_102 (fun qj2 _ => ?_)
  refine z_if_eqB C 121 dX11_reads_105 rfl (fun _ => ?_) (fun _ => ?_)
  · refine z_aload_n C 0 0 dX11_reads_108 rfl rfl ?_
    refine z_dup C dX11_reads_109 rfl ?_
    refine z_getI (k := 9) C cl11 h0 rfl gw_7_19 rfl dX11_reads_110 ?_
    refine z_iconst C dX11_reads_113 rfl ?_
    refine z_iadd C dX11_reads_114 ?_
    refine z_putI (k := 9) C cl11 h0 rfl gw_7_19 rfl rfl rfl dX11_reads_115 ?_
    refine z_goto C 94 dX11_reads_118 rfl ?_
    exact z_jump (ls1 := [(0, .ref (B + v0))]) (Nat.le_of_ble_eq_true rfl) [0] rfl (hk94 (wI M v0 9 ((rI M v0 9) + (1 : Int32))))
  · refine z_aload_n C 0 0 dX11_reads_121 rfl rfl ?_
    refine z_iconst C dX11_reads_122 rfl ?_
    refine z_putI (k := 11) C cl11 h0 rfl gw_7_21 rfl rfl rfl dX11_reads_123 ?_
    refine z_goto C 268 dX11_reads_126 rfl ?_
    exact z_vret C hr (Nat.le_of_ble_eq_true rfl) dX11_reads_268 rfl
theorem z_fX11_reads_l94_i {p : Program} {l : Launch} {e : Env} {s : State} {m : MethodId} {args : Array Value} {below : List Frame} {meth : Method} {c : Code} {D : va_G} {cy : Nat → ClassId} {B : Nat} {kd : Nat → Nat} {n : Nat} {sa sv : Nat → Nat} (C : zC p l s m args meth c D cy B kd n sa sv RX11 cX11_reads 2) (ht : ∀ x ∈ c.exceptionTable.toList, False) (hr : meth.sig.returnType = none) {b0 : Mem} (N : Nat) (v0 : Nat) (h0 : kd v0 = 11)  (fu : Nat) : ∀ (M : Mem), Z p l e (rmz 1 0) s m args below meth c (vx_MQ below (QcR D cy B kd n (cvV b0)) (XcR D cy B kd n (cvV b0)) args s 0 (6 * 0) (AA B kd n)) D cy B kd n 2 b0 0 94 [(0, .ref (B + v0))] [] M (fX11_reads_l94 N v0 fu M) := by
  induction fu with
  | zero => intro M; exact z_none
  | succ fu ih => intro M; exact z_fX11_reads_l94_s C ht hr N v0 (fX11_reads_l94 N v0 fu) M h0 (fun M => ih M)
theorem z_fX11_reads_l94 {p : Program} {l : Launch} {e : Env} {s : State} {m : MethodId} {args : Array Value} {below : List Frame} {meth : Method} {c : Code} {D : va_G} {cy : Nat → ClassId} {B : Nat} {kd : Nat → Nat} {n : Nat} {sa sv : Nat → Nat} (C : zC p l s m args meth c D cy B kd n sa sv RX11 cX11_reads 2) (ht : ∀ x ∈ c.exceptionTable.toList, False) (hr : meth.sig.returnType = none) {b0 : Mem} (N : Nat) (v0 : Nat) (fu : Nat) (M : Mem) (h0 : kd v0 = 11)  : Z p l e (rmz 1 0) s m args below meth c (vx_MQ below (QcR D cy B kd n (cvV b0)) (XcR D cy B kd n (cvV b0)) args s 0 (6 * 0) (AA B kd n)) D cy B kd n 2 b0 0 94 [(0, .ref (B + v0))] [] M (fX11_reads_l94 N v0 fu M) := z_fX11_reads_l94_i C ht hr N v0 h0 fu M
set_option maxHeartbeats 4000000 in
set_option maxRecDepth 100000 in
theorem z_fX11_reads_b196 {p : Program} {l : Launch} {e : Env} {s : State} {m : MethodId} {args : Array Value} {below : List Frame} {meth : Method} {c : Code} {D : va_G} {cy : Nat → ClassId} {B : Nat} {kd : Nat → Nat} {n : Nat} {sa sv : Nat → Nat} (C : zC p l s m args meth c D cy B kd n sa sv RX11 cX11_reads 2) (ht : ∀ x ∈ c.exceptionTable.toList, False) (hr : meth.sig.returnType = none) {b0 : Mem}  (N : Nat) (k141 : Mem → Option Mem) (v0 : Nat) (s0 : Int32) (s1 : Nat) (M : Mem) (h0 : kd v0 = 11) (hs1 : kd s1 = 11) (hk141 : ∀ (M : Mem), Z p l e (rmz 1 0) s m args below meth c (vx_MQ below (QcR D cy B kd n (cvV b0)) (XcR D cy B kd n (cvV b0)) args s 0 (6 * 0) (AA B kd n)) D cy B kd n 2 b0 0 141 [(0, .ref (B + v0))] [] M (k141 M)) : Z p l e (rmz 1 0) s m args below meth c (vx_MQ below (QcR D cy B kd n (cvV b0)) (XcR D cy B kd n (cvV b0)) args s 0 (6 * 0) (AA B kd n)) D cy B kd n 2 b0 0 196 [(0, .ref (B + v0))] [.int s0, .ref (B + s1)] M (fX11_reads_b196 N k141 v0 s0 s1 M) := by
  unfold fX11_reads_b196
  refine z_putI (k := 12) C cl11 hs1 rfl gw_7_22 rfl rfl rfl dX11_reads_196 ?_
  refine z_aload_n C 0 0 dX11_reads_199 rfl rfl ?_
  refine z_dup C dX11_reads_200 rfl ?_
  refine z_getI (k := 9) C cl11 h0 rfl gw_7_19 rfl dX11_reads_201 ?_
  refine z_iconst C dX11_reads_204 rfl ?_
  refine z_iadd C dX11_reads_205 ?_
  refine z_putI (k := 9) C cl11 h0 rfl gw_7_19 rfl rfl rfl dX11_reads_206 ?_
  refine z_goto C 141 dX11_reads_209 rfl ?_
  exact z_jump (ls1 := [(0, .ref (B + v0))]) (Nat.le_of_ble_eq_true rfl) [0] rfl (hk141 (wI (wI M s1 12 s0) v0 9 ((rI (wI M s1 12 s0) v0 9) + (1 : Int32))))
set_option maxHeartbeats 4000000 in
set_option maxRecDepth 100000 in
theorem z_fX11_reads_b231 {p : Program} {l : Launch} {e : Env} {s : State} {m : MethodId} {args : Array Value} {below : List Frame} {meth : Method} {c : Code} {D : va_G} {cy : Nat → ClassId} {B : Nat} {kd : Nat → Nat} {n : Nat} {sa sv : Nat → Nat} (C : zC p l s m args meth c D cy B kd n sa sv RX11 cX11_reads 2) (ht : ∀ x ∈ c.exceptionTable.toList, False) (hr : meth.sig.returnType = none) {b0 : Mem}  (N : Nat) (s0 : Int32) (s1 : Nat) (M : Mem) (hs1 : kd s1 = 11)  : Z p l e (rmz 1 0) s m args below meth c (vx_MQ below (QcR D cy B kd n (cvV b0)) (XcR D cy B kd n (cvV b0)) args s 0 (6 * 0) (AA B kd n)) D cy B kd n 2 b0 0 231 [] [.int s0, .ref (B + s1)] M (fX11_reads_b231 N s0 s1 M) := by
  unfold fX11_reads_b231
  refine z_putI (k := 11) C cl11 hs1 rfl gw_7_21 rfl rfl rfl dX11_reads_231 ?_
  refine z_goto C 268 dX11_reads_234 rfl ?_
  exact z_vret C hr (Nat.le_of_ble_eq_true rfl) dX11_reads_268 rfl
set_option maxHeartbeats 4000000 in
set_option maxRecDepth 100000 in
theorem z_fX11_reads_l141_s {p : Program} {l : Launch} {e : Env} {s : State} {m : MethodId} {args : Array Value} {below : List Frame} {meth : Method} {c : Code} {D : va_G} {cy : Nat → ClassId} {B : Nat} {kd : Nat → Nat} {n : Nat} {sa sv : Nat → Nat} (C : zC p l s m args meth c D cy B kd n sa sv RX11 cX11_reads 2) (ht : ∀ x ∈ c.exceptionTable.toList, False) (hr : meth.sig.returnType = none) {b0 : Mem} (N : Nat) (v0 : Nat) (k141 : Mem → Option Mem) (M : Mem) (h0 : kd v0 = 11)  (hk141 : ∀ (M : Mem), Z p l e (rmz 1 0) s m args below meth c (vx_MQ below (QcR D cy B kd n (cvV b0)) (XcR D cy B kd n (cvV b0)) args s 0 (6 * 0) (AA B kd n)) D cy B kd n 2 b0 0 141 [(0, .ref (B + v0))] [] M (k141 M)) : Z p l e (rmz 1 0) s m args below meth c (vx_MQ below (QcR D cy B kd n (cvV b0)) (XcR D cy B kd n (cvV b0)) args s 0 (6 * 0) (AA B kd n)) D cy B kd n 2 b0 0 141 [(0, .ref (B + v0))] [] M (fX11_reads_l141_s N v0 k141 M) := by
  unfold fX11_reads_l141_s
  refine z_aload_n C 0 0 dX11_reads_141 rfl rfl ?_
  refine z_aload_n C 0 0 dX11_reads_142 rfl rfl ?_
  refine z_getI (k := 9) C cl11 h0 rfl gw_7_19 rfl dX11_reads_143 ?_
  refine z_callV_pI (As := [.int (rI M v0 9)]) (rest := []) C rfl (ctX11_see (zG_of C) v0 (rI M v0 9) h0 M) cw_RX11_114 rfl (okM_X11_see) rfl cl11 h0 (okR_of rfl) (Nat.le_of_ble_eq_true rfl) dX11_reads_146 (fun qj1 _ => ?_)
  refine z_callS_pB (As := [.int qj1]) (rest := []) C rfl (ctX11_isDigit (zG_of C) qj1 M) cw_RX11_118 (okM_X11_isDigit) rfl (okR_of rfl) (Nat.le_of_ble_eq_true rfl) dX11_reads_149 (fun qj2 _ => ?_)
  refine z_if_eqB C 212 dX11_reads_152 rfl (fun _ => ?_) (fun _ => ?_)
  · refine z_aload_n C 0 0 dX11_reads_155 rfl rfl ?_
    refine z_aload_n C 0 0 dX11_reads_156 rfl rfl ?_
    refine z_getI (k := 9) C cl11 h0 rfl gw_7_19 rfl dX11_reads_157 ?_
    refine z_aload_n C 0 0 dX11_reads_160 rfl rfl ?_
    refine z_getI (k := 10) C cl11 h0 rfl gw_7_20 rfl dX11_reads_161 ?_
    refine z_isub C dX11_reads_164 ?_
    refine z_iconst C dX11_reads_165 rfl ?_
    refine z_icmp_ge C 192 dX11_reads_166 rfl (fun _ => ?_) (fun _ => ?_)
    · refine z_aload_n C 0 0 dX11_reads_192 rfl rfl ?_
      refine z_getI (k := 12) C cl11 h0 rfl gw_7_22 rfl dX11_reads_193 ?_
      exact z_jump (ls1 := [(0, .ref (B + v0))]) (Nat.le_of_ble_eq_true rfl) [0] rfl (z_fX11_reads_b196 C ht hr N k141 v0 (rI M v0 12) v0 M h0 h0 hk141)
    · refine z_bipush (v := 10) C dX11_reads_169 rfl ?_
      refine z_aload_n C 0 0 dX11_reads_171 rfl rfl ?_
      refine z_getI (k := 12) C cl11 h0 rfl gw_7_22 rfl dX11_reads_172 ?_
      refine z_imul C dX11_reads_175 ?_
      refine z_aload_n C 0 0 dX11_reads_176 rfl rfl ?_
      refine z_getR (k := 6) C cl11 h0 rfl gw_7_16 rfl dX11_reads_177 ?_
      have j3 : kd (v0 + 6) = 20 := zkd C h0 (k := 6) rfl
      refine z_aload_n C 0 0 dX11_reads_180 rfl rfl ?_
      refine z_getI (k := 9) C cl11 h0 rfl gw_7_19 rfl dX11_reads_181 ?_
      refine z_iald C j3 rfl (by decide) dX11_reads_184 (fun j4 => ?_)
      refine z_iadd C dX11_reads_185 ?_
      refine z_bipush (v := 48) C dX11_reads_186 rfl ?_
      refine z_isub C dX11_reads_188 ?_
      refine z_goto C 196 dX11_reads_189 rfl ?_
      exact z_jump (ls1 := [(0, .ref (B + v0))]) (Nat.le_of_ble_eq_true rfl) [0] rfl (z_fX11_reads_b196 C ht hr N k141 v0 ((((10 : Int32) * (rI M v0 12)) + (rI M (v0 + 6) (rI M v0 9).toNatClampNeg)) - (48 : Int32)) v0 M h0 h0 hk141)
  · refine z_aload_n C 0 0 dX11_reads_212 rfl rfl ?_
    refine z_aload_n C 0 0 dX11_reads_213 rfl rfl ?_
    refine z_getI (k := 9) C cl11 h0 rfl gw_7_19 rfl dX11_reads_214 ?_
    refine z_aload_n C 0 0 dX11_reads_217 rfl rfl ?_
    refine z_getI (k := 10) C cl11 h0 rfl gw_7_20 rfl dX11_reads_218 ?_
    refine z_isub C dX11_reads_221 ?_
    refine z_iconst C dX11_reads_222 rfl ?_
    refine z_icmp_le C 230 dX11_reads_223 rfl (fun _ => ?_) (fun _ => ?_)
    · refine z_iconst C dX11_reads_230 rfl ?_
      exact z_jump (ls1 := []) (Nat.le_of_ble_eq_true rfl) [] rfl (z_fX11_reads_b231 C ht hr N (2 : Int32) v0 M h0)
    · refine z_iconst C dX11_reads_226 rfl ?_
      refine z_goto C 231 dX11_reads_227 rfl ?_
      exact z_jump (ls1 := []) (Nat.le_of_ble_eq_true rfl) [] rfl (z_fX11_reads_b231 C ht hr N (4 : Int32) v0 M h0)
theorem z_fX11_reads_l141_i {p : Program} {l : Launch} {e : Env} {s : State} {m : MethodId} {args : Array Value} {below : List Frame} {meth : Method} {c : Code} {D : va_G} {cy : Nat → ClassId} {B : Nat} {kd : Nat → Nat} {n : Nat} {sa sv : Nat → Nat} (C : zC p l s m args meth c D cy B kd n sa sv RX11 cX11_reads 2) (ht : ∀ x ∈ c.exceptionTable.toList, False) (hr : meth.sig.returnType = none) {b0 : Mem} (N : Nat) (v0 : Nat) (h0 : kd v0 = 11)  (fu : Nat) : ∀ (M : Mem), Z p l e (rmz 1 0) s m args below meth c (vx_MQ below (QcR D cy B kd n (cvV b0)) (XcR D cy B kd n (cvV b0)) args s 0 (6 * 0) (AA B kd n)) D cy B kd n 2 b0 0 141 [(0, .ref (B + v0))] [] M (fX11_reads_l141 N v0 fu M) := by
  induction fu with
  | zero => intro M; exact z_none
  | succ fu ih => intro M; exact z_fX11_reads_l141_s C ht hr N v0 (fX11_reads_l141 N v0 fu) M h0 (fun M => ih M)
theorem z_fX11_reads_l141 {p : Program} {l : Launch} {e : Env} {s : State} {m : MethodId} {args : Array Value} {below : List Frame} {meth : Method} {c : Code} {D : va_G} {cy : Nat → ClassId} {B : Nat} {kd : Nat → Nat} {n : Nat} {sa sv : Nat → Nat} (C : zC p l s m args meth c D cy B kd n sa sv RX11 cX11_reads 2) (ht : ∀ x ∈ c.exceptionTable.toList, False) (hr : meth.sig.returnType = none) {b0 : Mem} (N : Nat) (v0 : Nat) (fu : Nat) (M : Mem) (h0 : kd v0 = 11)  : Z p l e (rmz 1 0) s m args below meth c (vx_MQ below (QcR D cy B kd n (cvV b0)) (XcR D cy B kd n (cvV b0)) args s 0 (6 * 0) (AA B kd n)) D cy B kd n 2 b0 0 141 [(0, .ref (B + v0))] [] M (fX11_reads_l141 N v0 fu M) := z_fX11_reads_l141_i C ht hr N v0 h0 fu M
set_option maxHeartbeats 4000000 in
set_option maxRecDepth 100000 in
theorem z_fX11_reads_b250 {p : Program} {l : Launch} {e : Env} {s : State} {m : MethodId} {args : Array Value} {below : List Frame} {meth : Method} {c : Code} {D : va_G} {cy : Nat → ClassId} {B : Nat} {kd : Nat → Nat} {n : Nat} {sa sv : Nat → Nat} (C : zC p l s m args meth c D cy B kd n sa sv RX11 cX11_reads 2) (ht : ∀ x ∈ c.exceptionTable.toList, False) (hr : meth.sig.returnType = none) {b0 : Mem}  (N : Nat) (v0 : Nat) (v1 : Int32) (s0 : Int32) (s1 : Nat) (M : Mem) (h0 : kd v0 = 11) (hs1 : kd s1 = 11)  : Z p l e (rmz 1 0) s m args below meth c (vx_MQ below (QcR D cy B kd n (cvV b0)) (XcR D cy B kd n (cvV b0)) args s 0 (6 * 0) (AA B kd n)) D cy B kd n 2 b0 0 250 [(0, .ref (B + v0)), (1, .int v1)] [.int s0, .ref (B + s1)] M (fX11_reads_b250 N v0 v1 s0 s1 M) := by
  unfold fX11_reads_b250
  refine z_putI (k := 11) C cl11 hs1 rfl gw_7_21 rfl rfl rfl dX11_reads_250 ?_
  refine z_aload_n C 0 0 dX11_reads_253 rfl rfl ?_
  refine z_iload_n C 1 1 dX11_reads_254 rfl rfl ?_
  refine z_putI (k := 12) C cl11 h0 rfl gw_7_22 rfl rfl rfl dX11_reads_255 ?_
  refine z_aload_n C 0 0 dX11_reads_258 rfl rfl ?_
  refine z_dup C dX11_reads_259 rfl ?_
  refine z_getI (k := 9) C cl11 h0 rfl gw_7_19 rfl dX11_reads_260 ?_
  refine z_iconst C dX11_reads_263 rfl ?_
  refine z_iadd C dX11_reads_264 ?_
  refine z_putI (k := 9) C cl11 h0 rfl gw_7_19 rfl rfl rfl dX11_reads_265 ?_
  exact z_vret C hr (Nat.le_of_ble_eq_true rfl) dX11_reads_268 rfl
set_option maxHeartbeats 4000000 in
set_option maxRecDepth 100000 in
theorem z_fX11_reads_b52 {p : Program} {l : Launch} {e : Env} {s : State} {m : MethodId} {args : Array Value} {below : List Frame} {meth : Method} {c : Code} {D : va_G} {cy : Nat → ClassId} {B : Nat} {kd : Nat → Nat} {n : Nat} {sa sv : Nat → Nat} (C : zC p l s m args meth c D cy B kd n sa sv RX11 cX11_reads 2) (ht : ∀ x ∈ c.exceptionTable.toList, False) (hr : meth.sig.returnType = none) {b0 : Mem}  (N : Nat) (v0 : Nat) (M : Mem) (h0 : kd v0 = 11)  : Z p l e (rmz 1 0) s m args below meth c (vx_MQ below (QcR D cy B kd n (cvV b0)) (XcR D cy B kd n (cvV b0)) args s 0 (6 * 0) (AA B kd n)) D cy B kd n 2 b0 0 52 [(0, .ref (B + v0))] [] M (fX11_reads_b52 N v0 M) := by
  unfold fX11_reads_b52
  refine z_aload_n C 0 0 dX11_reads_52 rfl rfl ?_
  refine z_aload_n C 0 0 dX11_reads_53 rfl rfl ?_
  refine z_getI (k := 9) C cl11 h0 rfl gw_7_19 rfl dX11_reads_54 ?_
  refine z_putI (k := 10) C cl11 h0 rfl gw_7_20 rfl rfl rfl dX11_reads_57 ?_
  refine z_aload_n C 0 0 dX11_reads_60 rfl rfl ?_
  refine z_getI (k := 9) C cl11 h0 rfl gw_7_19 rfl dX11_reads_61 ?_
  refine z_aload_n C 0 0 dX11_reads_64 rfl rfl ?_
  refine z_getI (k := 8) C cl11 h0 rfl gw_7_18 rfl dX11_reads_65 ?_
  refine z_icmp_lt C 77 dX11_reads_68 rfl (fun _ => ?_) (fun _ => ?_)
  · refine z_aload_n C 0 0 dX11_reads_77 rfl rfl ?_
    refine z_getR (k := 6) C cl11 h0 rfl gw_7_16 rfl dX11_reads_78 ?_
    have j1 : kd (v0 + 6) = 20 := zkd C h0 (k := 6) rfl
    refine z_aload_n C 0 0 dX11_reads_81 rfl rfl ?_
    refine z_getI (k := 9) C cl11 h0 rfl gw_7_19 rfl dX11_reads_82 ?_
    refine z_iald C j1 rfl (by decide) dX11_reads_85 (fun j2 => ?_)
    refine z_istore_n C 1 (ls1 := [(1, .int (rI (wI M v0 10 (rI M v0 9)) (v0 + 6) (rI (wI M v0 10 (rI M v0 9)) v0 9).toNatClampNeg)), (0, .ref (B + v0))]) dX11_reads_86 rfl (by decide) rfl ?_
    refine z_iload_n C 1 0 dX11_reads_87 rfl rfl ?_
    refine z_callS_pB (As := [.int (rI (wI M v0 10 (rI M v0 9)) (v0 + 6) (rI (wI M v0 10 (rI M v0 9)) v0 9).toNatClampNeg)]) (rest := []) C rfl (ctX11_isLetter (zG_of C) (rI (wI M v0 10 (rI M v0 9)) (v0 + 6) (rI (wI M v0 10 (rI M v0 9)) v0 9).toNatClampNeg) (wI M v0 10 (rI M v0 9))) cw_RX11_110 (okM_X11_isLetter) rfl (okR_of rfl) (Nat.le_of_ble_eq_true rfl) dX11_reads_88 (fun qj3 _ => ?_)
    refine z_if_eqB C 129 dX11_reads_91 rfl (fun _ => ?_) (fun _ => ?_)
    · exact z_jump (ls1 := [(0, .ref (B + v0))]) (Nat.le_of_ble_eq_true rfl) [1] rfl (z_fX11_reads_l94 C ht hr N v0 N (wI M v0 10 (rI M v0 9)) h0)
    · refine z_iload_n C 1 0 dX11_reads_129 rfl rfl ?_
      refine z_callS_pB (As := [.int (rI (wI M v0 10 (rI M v0 9)) (v0 + 6) (rI (wI M v0 10 (rI M v0 9)) v0 9).toNatClampNeg)]) (rest := []) C rfl (ctX11_isDigit (zG_of C) (rI (wI M v0 10 (rI M v0 9)) (v0 + 6) (rI (wI M v0 10 (rI M v0 9)) v0 9).toNatClampNeg) (wI M v0 10 (rI M v0 9))) cw_RX11_118 (okM_X11_isDigit) rfl (okR_of rfl) (Nat.le_of_ble_eq_true rfl) dX11_reads_130 (fun qj4 _ => ?_)
      refine z_if_eqB C 237 dX11_reads_133 rfl (fun _ => ?_) (fun _ => ?_)
      · refine z_aload_n C 0 1 dX11_reads_136 rfl rfl ?_
        refine z_iconst C dX11_reads_137 rfl ?_
        refine z_putI (k := 12) C cl11 h0 rfl gw_7_22 rfl rfl rfl dX11_reads_138 ?_
        exact z_jump (ls1 := [(0, .ref (B + v0))]) (Nat.le_of_ble_eq_true rfl) [1] rfl (z_fX11_reads_l141 C ht hr N v0 N (wI (wI M v0 10 (rI M v0 9)) v0 12 (0 : Int32)) h0)
      · refine z_aload_n C 0 1 dX11_reads_237 rfl rfl ?_
        refine z_iload_n C 1 0 dX11_reads_238 rfl rfl ?_
        refine z_callS_pB (As := [.int (rI (wI M v0 10 (rI M v0 9)) (v0 + 6) (rI (wI M v0 10 (rI M v0 9)) v0 9).toNatClampNeg)]) (rest := [.ref (B + v0)]) C rfl (ctX11_isMark (zG_of C) (rI (wI M v0 10 (rI M v0 9)) (v0 + 6) (rI (wI M v0 10 (rI M v0 9)) v0 9).toNatClampNeg) (wI M v0 10 (rI M v0 9))) cw_RX11_124 (okM_X11_isMark) rfl (okR_of rfl) (Nat.le_of_ble_eq_true rfl) dX11_reads_239 (fun qj5 _ => ?_)
        refine z_if_eqB C 249 dX11_reads_242 rfl (fun _ => ?_) (fun _ => ?_)
        · refine z_iconst C dX11_reads_245 rfl ?_
          refine z_goto C 250 dX11_reads_246 rfl ?_
          exact z_jump (ls1 := [(0, .ref (B + v0)), (1, .int (rI (wI M v0 10 (rI M v0 9)) (v0 + 6) (rI (wI M v0 10 (rI M v0 9)) v0 9).toNatClampNeg))]) (Nat.le_of_ble_eq_true rfl) [1, 0] rfl (z_fX11_reads_b250 C ht hr N v0 (rI (wI M v0 10 (rI M v0 9)) (v0 + 6) (rI (wI M v0 10 (rI M v0 9)) v0 9).toNatClampNeg) (3 : Int32) v0 (wI M v0 10 (rI M v0 9)) h0 h0)
        · refine z_iconst C dX11_reads_249 rfl ?_
          exact z_jump (ls1 := [(0, .ref (B + v0)), (1, .int (rI (wI M v0 10 (rI M v0 9)) (v0 + 6) (rI (wI M v0 10 (rI M v0 9)) v0 9).toNatClampNeg))]) (Nat.le_of_ble_eq_true rfl) [1, 0] rfl (z_fX11_reads_b250 C ht hr N v0 (rI (wI M v0 10 (rI M v0 9)) (v0 + 6) (rI (wI M v0 10 (rI M v0 9)) v0 9).toNatClampNeg) (4 : Int32) v0 (wI M v0 10 (rI M v0 9)) h0 h0)
  · refine z_aload_n C 0 0 dX11_reads_71 rfl rfl ?_
    refine z_iconst C dX11_reads_72 rfl ?_
    refine z_putI (k := 11) C cl11 h0 rfl gw_7_21 rfl rfl rfl dX11_reads_73 ?_
    exact z_vret C hr (Nat.le_of_ble_eq_true rfl) dX11_reads_76 rfl
set_option maxHeartbeats 4000000 in
set_option maxRecDepth 100000 in
theorem z_fX11_reads_b39 {p : Program} {l : Launch} {e : Env} {s : State} {m : MethodId} {args : Array Value} {below : List Frame} {meth : Method} {c : Code} {D : va_G} {cy : Nat → ClassId} {B : Nat} {kd : Nat → Nat} {n : Nat} {sa sv : Nat → Nat} (C : zC p l s m args meth c D cy B kd n sa sv RX11 cX11_reads 2) (ht : ∀ x ∈ c.exceptionTable.toList, False) (hr : meth.sig.returnType = none) {b0 : Mem}  (N : Nat) (k0 : Mem → Option Mem) (v0 : Nat) (M : Mem) (h0 : kd v0 = 11) (hk0 : ∀ (M : Mem), Z p l e (rmz 1 0) s m args below meth c (vx_MQ below (QcR D cy B kd n (cvV b0)) (XcR D cy B kd n (cvV b0)) args s 0 (6 * 0) (AA B kd n)) D cy B kd n 2 b0 0 0 [(0, .ref (B + v0))] [] M (k0 M)) : Z p l e (rmz 1 0) s m args below meth c (vx_MQ below (QcR D cy B kd n (cvV b0)) (XcR D cy B kd n (cvV b0)) args s 0 (6 * 0) (AA B kd n)) D cy B kd n 2 b0 0 39 [(0, .ref (B + v0))] [] M (fX11_reads_b39 N k0 v0 M) := by
  unfold fX11_reads_b39
  refine z_aload_n C 0 0 dX11_reads_39 rfl rfl ?_
  refine z_dup C dX11_reads_40 rfl ?_
  refine z_getI (k := 9) C cl11 h0 rfl gw_7_19 rfl dX11_reads_41 ?_
  refine z_iconst C dX11_reads_44 rfl ?_
  refine z_iadd C dX11_reads_45 ?_
  refine z_putI (k := 9) C cl11 h0 rfl gw_7_19 rfl rfl rfl dX11_reads_46 ?_
  refine z_goto C 0 dX11_reads_49 rfl ?_
  exact z_jump (ls1 := [(0, .ref (B + v0))]) (Nat.le_of_ble_eq_true rfl) [0] rfl (hk0 (wI M v0 9 ((rI M v0 9) + (1 : Int32))))
set_option maxHeartbeats 4000000 in
set_option maxRecDepth 100000 in
theorem z_fX11_reads_l0_s {p : Program} {l : Launch} {e : Env} {s : State} {m : MethodId} {args : Array Value} {below : List Frame} {meth : Method} {c : Code} {D : va_G} {cy : Nat → ClassId} {B : Nat} {kd : Nat → Nat} {n : Nat} {sa sv : Nat → Nat} (C : zC p l s m args meth c D cy B kd n sa sv RX11 cX11_reads 2) (ht : ∀ x ∈ c.exceptionTable.toList, False) (hr : meth.sig.returnType = none) {b0 : Mem} (N : Nat) (v0 : Nat) (k0 : Mem → Option Mem) (M : Mem) (h0 : kd v0 = 11)  (hk0 : ∀ (M : Mem), Z p l e (rmz 1 0) s m args below meth c (vx_MQ below (QcR D cy B kd n (cvV b0)) (XcR D cy B kd n (cvV b0)) args s 0 (6 * 0) (AA B kd n)) D cy B kd n 2 b0 0 0 [(0, .ref (B + v0))] [] M (k0 M)) : Z p l e (rmz 1 0) s m args below meth c (vx_MQ below (QcR D cy B kd n (cvV b0)) (XcR D cy B kd n (cvV b0)) args s 0 (6 * 0) (AA B kd n)) D cy B kd n 2 b0 0 0 [(0, .ref (B + v0))] [] M (fX11_reads_l0_s N v0 k0 M) := by
  unfold fX11_reads_l0_s
  refine z_aload_n C 0 0 dX11_reads_0 rfl rfl ?_
  refine z_getI (k := 9) C cl11 h0 rfl gw_7_19 rfl dX11_reads_1 ?_
  refine z_aload_n C 0 0 dX11_reads_4 rfl rfl ?_
  refine z_getI (k := 8) C cl11 h0 rfl gw_7_18 rfl dX11_reads_5 ?_
  refine z_icmp_ge C 52 dX11_reads_8 rfl (fun _ => ?_) (fun _ => ?_)
  · exact z_jump (ls1 := [(0, .ref (B + v0))]) (Nat.le_of_ble_eq_true rfl) [0] rfl (z_fX11_reads_b52 C ht hr N v0 M h0)
  · refine z_aload_n C 0 0 dX11_reads_11 rfl rfl ?_
    refine z_getR (k := 6) C cl11 h0 rfl gw_7_16 rfl dX11_reads_12 ?_
    have j1 : kd (v0 + 6) = 20 := zkd C h0 (k := 6) rfl
    refine z_aload_n C 0 0 dX11_reads_15 rfl rfl ?_
    refine z_getI (k := 9) C cl11 h0 rfl gw_7_19 rfl dX11_reads_16 ?_
    refine z_iald C j1 rfl (by decide) dX11_reads_19 (fun j2 => ?_)
    refine z_bipush (v := 32) C dX11_reads_20 rfl ?_
    refine z_icmp_eq C 39 dX11_reads_22 rfl (fun _ => ?_) (fun _ => ?_)
    · exact z_jump (ls1 := [(0, .ref (B + v0))]) (Nat.le_of_ble_eq_true rfl) [0] rfl (z_fX11_reads_b39 C ht hr N k0 v0 M h0 hk0)
    · refine z_aload_n C 0 0 dX11_reads_25 rfl rfl ?_
      refine z_getR (k := 6) C cl11 h0 rfl gw_7_16 rfl dX11_reads_26 ?_
      have j3 : kd (v0 + 6) = 20 := zkd C h0 (k := 6) rfl
      refine z_aload_n C 0 0 dX11_reads_29 rfl rfl ?_
      refine z_getI (k := 9) C cl11 h0 rfl gw_7_19 rfl dX11_reads_30 ?_
      refine z_iald C j3 rfl (by decide) dX11_reads_33 (fun j4 => ?_)
      refine z_bipush (v := 10) C dX11_reads_34 rfl ?_
      refine z_icmp_ne C 52 dX11_reads_36 rfl (fun _ => ?_) (fun _ => ?_)
      · exact z_jump (ls1 := [(0, .ref (B + v0))]) (Nat.le_of_ble_eq_true rfl) [0] rfl (z_fX11_reads_b39 C ht hr N k0 v0 M h0 hk0)
      · exact z_jump (ls1 := [(0, .ref (B + v0))]) (Nat.le_of_ble_eq_true rfl) [0] rfl (z_fX11_reads_b52 C ht hr N v0 M h0)
theorem z_fX11_reads_l0_i {p : Program} {l : Launch} {e : Env} {s : State} {m : MethodId} {args : Array Value} {below : List Frame} {meth : Method} {c : Code} {D : va_G} {cy : Nat → ClassId} {B : Nat} {kd : Nat → Nat} {n : Nat} {sa sv : Nat → Nat} (C : zC p l s m args meth c D cy B kd n sa sv RX11 cX11_reads 2) (ht : ∀ x ∈ c.exceptionTable.toList, False) (hr : meth.sig.returnType = none) {b0 : Mem} (N : Nat) (v0 : Nat) (h0 : kd v0 = 11)  (fu : Nat) : ∀ (M : Mem), Z p l e (rmz 1 0) s m args below meth c (vx_MQ below (QcR D cy B kd n (cvV b0)) (XcR D cy B kd n (cvV b0)) args s 0 (6 * 0) (AA B kd n)) D cy B kd n 2 b0 0 0 [(0, .ref (B + v0))] [] M (fX11_reads_l0 N v0 fu M) := by
  induction fu with
  | zero => intro M; exact z_none
  | succ fu ih => intro M; exact z_fX11_reads_l0_s C ht hr N v0 (fX11_reads_l0 N v0 fu) M h0 (fun M => ih M)
theorem z_fX11_reads_l0 {p : Program} {l : Launch} {e : Env} {s : State} {m : MethodId} {args : Array Value} {below : List Frame} {meth : Method} {c : Code} {D : va_G} {cy : Nat → ClassId} {B : Nat} {kd : Nat → Nat} {n : Nat} {sa sv : Nat → Nat} (C : zC p l s m args meth c D cy B kd n sa sv RX11 cX11_reads 2) (ht : ∀ x ∈ c.exceptionTable.toList, False) (hr : meth.sig.returnType = none) {b0 : Mem} (N : Nat) (v0 : Nat) (fu : Nat) (M : Mem) (h0 : kd v0 = 11)  : Z p l e (rmz 1 0) s m args below meth c (vx_MQ below (QcR D cy B kd n (cvV b0)) (XcR D cy B kd n (cvV b0)) args s 0 (6 * 0) (AA B kd n)) D cy B kd n 2 b0 0 0 [(0, .ref (B + v0))] [] M (fX11_reads_l0 N v0 fu M) := z_fX11_reads_l0_i C ht hr N v0 h0 fu M
set_option maxHeartbeats 4000000 in
set_option maxRecDepth 100000 in
theorem ctX11_reads {l : Launch} {D : va_G} {cy : Nat → ClassId} {B : Nat} {kd : Nat → Nat} {n : Nat} {sa sv : Nat → Nat} (G : zG l kd n) (N : Nat) (v0 : Nat) (h0 : kd v0 = 11) (M : Mem) : CT l D cy B kd n sa sv 1 0 yX11_reads cX11_reads 2 (none) cvV [.ref (B + v0)] M (fX11_reads N v0 M) := by
  refine ct_of (by decide) G.1 G.2 (Nat.le_of_ble_eq_true rfl) (ls := [(0, .ref (B + v0))]) rfl ?_
  intro p e s m args below meth c b0 C ht hr
  unfold fX11_reads
  exact z_jump (ls1 := [(0, .ref (B + v0))]) (Nat.le_of_ble_eq_true rfl) [0] rfl (z_fX11_reads_l0 C ht hr N v0 N M h0)
set_option maxHeartbeats 4000000 in
set_option maxRecDepth 100000 in
theorem z_fX11_isSign_b27 {p : Program} {l : Launch} {e : Env} {s : State} {m : MethodId} {args : Array Value} {below : List Frame} {meth : Method} {c : Code} {D : va_G} {cy : Nat → ClassId} {B : Nat} {kd : Nat → Nat} {n : Nat} {sa sv : Nat → Nat} (C : zC p l s m args meth c D cy B kd n sa sv RX11 cX11_isSign 2) (ht : ∀ x ∈ c.exceptionTable.toList, False) (hr : meth.sig.returnType = some (FieldType.boolean)) {b0 : Bool}   (Mo : Mem)  : Z p l e (rmz 0 0) s m args below meth c (vx_MQ below (QcR D cy B kd n ((pB Mo) b0)) (XcR D cy B kd n ((pB Mo) b0)) args s 0 (6 * 0) (AA B kd n)) D cy B kd n 2 b0 0 27 [] [] Mo (fX11_isSign_b27 Mo) := by
  unfold fX11_isSign_b27
  refine z_iconst C dX11_isSign_27 rfl ?_
  exact z_zret C (v := false) hr (Nat.le_of_ble_eq_true rfl) dX11_isSign_28 rfl
set_option maxHeartbeats 4000000 in
set_option maxRecDepth 100000 in
theorem ctX11_isSign {l : Launch} {D : va_G} {cy : Nat → ClassId} {B : Nat} {kd : Nat → Nat} {n : Nat} {sa sv : Nat → Nat} (G : zG l kd n) (v0 : Nat) (v1 : Int32) (h0 : kd v0 = 11) (Mo : Mem) : CT l D cy B kd n sa sv 0 0 yX11_isSign cX11_isSign 2 (some (FieldType.boolean)) (pB Mo) [.ref (B + v0), .int v1] Mo (fX11_isSign v0 v1 Mo) := by
  refine ct_of (by decide) G.1 G.2 (Nat.le_of_ble_eq_true rfl) (ls := [(0, .ref (B + v0)), (1, .int v1)]) rfl ?_
  intro p e s m args below meth c b0 C ht hr
  unfold fX11_isSign
  refine z_aload_n C 0 0 dX11_isSign_0 rfl rfl ?_
  refine z_getI (k := 14) C cl11 h0 rfl gw_7_24 rfl dX11_isSign_1 ?_
  refine z_if_ne C 27 dX11_isSign_4 rfl (fun _ => ?_) (fun _ => ?_)
  · refine z_aload_n C 0 0 dX11_isSign_7 rfl rfl ?_
    refine z_getI (k := 11) C cl11 h0 rfl gw_7_21 rfl dX11_isSign_8 ?_
    refine z_iconst C dX11_isSign_11 rfl ?_
    refine z_icmp_ne C 27 dX11_isSign_12 rfl (fun _ => ?_) (fun _ => ?_)
    · refine z_aload_n C 0 0 dX11_isSign_15 rfl rfl ?_
      refine z_getI (k := 12) C cl11 h0 rfl gw_7_22 rfl dX11_isSign_16 ?_
      refine z_iload_n C 1 1 dX11_isSign_19 rfl rfl ?_
      refine z_icmp_ne C 27 dX11_isSign_20 rfl (fun _ => ?_) (fun _ => ?_)
      · refine z_iconst C dX11_isSign_23 rfl ?_
        refine z_goto C 28 dX11_isSign_24 rfl ?_
        exact z_zret C (v := true) hr (Nat.le_of_ble_eq_true rfl) dX11_isSign_28 rfl
      · exact z_jump (ls1 := []) (Nat.le_of_ble_eq_true rfl) [] rfl (z_fX11_isSign_b27 C ht hr Mo)
    · exact z_jump (ls1 := []) (Nat.le_of_ble_eq_true rfl) [] rfl (z_fX11_isSign_b27 C ht hr Mo)
  · exact z_jump (ls1 := []) (Nat.le_of_ble_eq_true rfl) [] rfl (z_fX11_isSign_b27 C ht hr Mo)
set_option maxHeartbeats 4000000 in
set_option maxRecDepth 100000 in
theorem z_fX11_tookSign_b14 {p : Program} {l : Launch} {e : Env} {s : State} {m : MethodId} {args : Array Value} {below : List Frame} {meth : Method} {c : Code} {D : va_G} {cy : Nat → ClassId} {B : Nat} {kd : Nat → Nat} {n : Nat} {sa sv : Nat → Nat} (C : zC p l s m args meth c D cy B kd n sa sv RX11 cX11_tookSign 3) (ht : ∀ x ∈ c.exceptionTable.toList, False) (hr : meth.sig.returnType = some (FieldType.boolean)) {b0 : Bool × Mem}  (N : Nat) (v2 : Bool) (M : Mem)  : Z p l e (rmz 2 0) s m args below meth c (vx_MQ below (QcR D cy B kd n (cvB b0)) (XcR D cy B kd n (cvB b0)) args s 0 (6 * 0) (AA B kd n)) D cy B kd n 3 b0 0 14 [(2, .int (bI v2))] [] M (fX11_tookSign_b14 N v2 M) := by
  unfold fX11_tookSign_b14
  refine z_iload_n C 2 0 dX11_tookSign_14 rfl rfl ?_
  exact z_zret C (v := v2) hr (Nat.le_of_ble_eq_true rfl) dX11_tookSign_15 rfl
set_option maxHeartbeats 4000000 in
set_option maxRecDepth 100000 in
theorem ctX11_tookSign {l : Launch} {D : va_G} {cy : Nat → ClassId} {B : Nat} {kd : Nat → Nat} {n : Nat} {sa sv : Nat → Nat} (G : zG l kd n) (N : Nat) (v0 : Nat) (v1 : Int32) (h0 : kd v0 = 11) (M : Mem) : CT l D cy B kd n sa sv 2 0 yX11_tookSign cX11_tookSign 3 (some (FieldType.boolean)) cvB [.ref (B + v0), .int v1] M (fX11_tookSign N v0 v1 M) := by
  refine ct_of (by decide) G.1 G.2 (Nat.le_of_ble_eq_true rfl) (ls := [(0, .ref (B + v0)), (1, .int v1)]) rfl ?_
  intro p e s m args below meth c b0 C ht hr
  unfold fX11_tookSign
  refine z_aload_n C 0 0 dX11_tookSign_0 rfl rfl ?_
  refine z_iload_n C 1 1 dX11_tookSign_1 rfl rfl ?_
  refine z_callV_pB (As := [.int v1]) (rest := []) C rfl (ctX11_isSign (zG_of C) v0 v1 h0 M) cw_RX11_130 rfl (okM_X11_isSign) rfl cl11 h0 (okR_of rfl) (Nat.le_of_ble_eq_true rfl) dX11_tookSign_2 (fun qj1 _ => ?_)
  refine z_istore_n C 2 (ls1 := [(2, .int (bI qj1)), (0, .ref (B + v0)), (1, .int v1)]) dX11_tookSign_5 rfl (by decide) rfl ?_
  refine z_iload_n C 2 0 dX11_tookSign_6 rfl rfl ?_
  refine z_if_eqB C 14 dX11_tookSign_7 rfl (fun _ => ?_) (fun _ => ?_)
  · refine z_aload_n C 0 1 dX11_tookSign_10 rfl rfl ?_
    refine z_callV_V (As := []) (rest := []) C rfl (ctX11_reads (zG_of C) N v0 h0 M) cw_RX11_133 rfl (okM_X11_reads) rfl cl11 h0 (okR_of rfl) (Nat.le_of_ble_eq_true rfl) dX11_tookSign_11 (fun qj2 _ => ?_)
    exact z_jump (ls1 := [(2, .int (bI qj1))]) (Nat.le_of_ble_eq_true rfl) [0] rfl (z_fX11_tookSign_b14 C ht hr N qj1 qj2)
  · exact z_jump (ls1 := [(2, .int (bI qj1))]) (Nat.le_of_ble_eq_true rfl) [0] rfl (z_fX11_tookSign_b14 C ht hr N qj1 M)
set_option maxHeartbeats 4000000 in
set_option maxRecDepth 100000 in
theorem z_fX11_blames_b22 {p : Program} {l : Launch} {e : Env} {s : State} {m : MethodId} {args : Array Value} {below : List Frame} {meth : Method} {c : Code} {D : va_G} {cy : Nat → ClassId} {B : Nat} {kd : Nat → Nat} {n : Nat} {sa sv : Nat → Nat} (C : zC p l s m args meth c D cy B kd n sa sv RX11 cX11_blames 2) (ht : ∀ x ∈ c.exceptionTable.toList, False) (hr : meth.sig.returnType = none) {b0 : Mem}   (v0 : Nat) (s0 : Int32) (s1 : Nat) (M : Mem) (h0 : kd v0 = 11) (hs1 : kd s1 = 11)  : Z p l e (rmz 0 0) s m args below meth c (vx_MQ below (QcR D cy B kd n (cvV b0)) (XcR D cy B kd n (cvV b0)) args s 0 (6 * 0) (AA B kd n)) D cy B kd n 2 b0 0 22 [(0, .ref (B + v0))] [.int s0, .ref (B + s1)] M (fX11_blames_b22 v0 s0 s1 M) := by
  unfold fX11_blames_b22
  refine z_putI (k := 14) C cl11 hs1 rfl gw_7_24 rfl rfl rfl dX11_blames_22 ?_
  refine z_aload_n C 0 0 dX11_blames_25 rfl rfl ?_
  refine z_aload_n C 0 0 dX11_blames_26 rfl rfl ?_
  refine z_getI (k := 10) C cl11 h0 rfl gw_7_20 rfl dX11_blames_27 ?_
  refine z_putI (k := 15) C cl11 h0 rfl gw_7_25 rfl rfl rfl dX11_blames_30 ?_
  exact z_vret C hr (Nat.le_of_ble_eq_true rfl) dX11_blames_33 rfl
set_option maxHeartbeats 4000000 in
set_option maxRecDepth 100000 in
theorem ctX11_blames {l : Launch} {D : va_G} {cy : Nat → ClassId} {B : Nat} {kd : Nat → Nat} {n : Nat} {sa sv : Nat → Nat} (G : zG l kd n) (v0 : Nat) (v1 : Int32) (h0 : kd v0 = 11) (M : Mem) : CT l D cy B kd n sa sv 0 0 yX11_blames cX11_blames 2 (none) cvV [.ref (B + v0), .int v1] M (fX11_blames v0 v1 M) := by
  refine ct_of (by decide) G.1 G.2 (Nat.le_of_ble_eq_true rfl) (ls := [(0, .ref (B + v0)), (1, .int v1)]) rfl ?_
  intro p e s m args below meth c b0 C ht hr
  unfold fX11_blames
  refine z_aload_n C 0 0 dX11_blames_0 rfl rfl ?_
  refine z_getI (k := 14) C cl11 h0 rfl gw_7_24 rfl dX11_blames_1 ?_
  refine z_if_eq C 8 dX11_blames_4 rfl (fun _ => ?_) (fun _ => ?_)
  · refine z_aload_n C 0 0 dX11_blames_8 rfl rfl ?_
    refine z_aload_n C 0 0 dX11_blames_9 rfl rfl ?_
    refine z_getI (k := 11) C cl11 h0 rfl gw_7_21 rfl dX11_blames_10 ?_
    refine z_iconst C dX11_blames_13 rfl ?_
    refine z_icmp_ne C 21 dX11_blames_14 rfl (fun _ => ?_) (fun _ => ?_)
    · refine z_iconst C dX11_blames_17 rfl ?_
      refine z_goto C 22 dX11_blames_18 rfl ?_
      exact z_jump (ls1 := [(0, .ref (B + v0))]) (Nat.le_of_ble_eq_true rfl) [0] rfl (z_fX11_blames_b22 C ht hr v0 (1 : Int32) v0 M h0 h0)
    · refine z_iload_n C 1 1 dX11_blames_21 rfl rfl ?_
      exact z_jump (ls1 := [(0, .ref (B + v0))]) (Nat.le_of_ble_eq_true rfl) [0] rfl (z_fX11_blames_b22 C ht hr v0 v1 v0 M h0 h0)
  · exact z_vret C hr (Nat.le_of_ble_eq_true rfl) dX11_blames_7 rfl
set_option maxHeartbeats 4000000 in
set_option maxRecDepth 100000 in
theorem z_fX11_isWord_b82 {p : Program} {l : Launch} {e : Env} {s : State} {m : MethodId} {args : Array Value} {below : List Frame} {meth : Method} {c : Code} {D : va_G} {cy : Nat → ClassId} {B : Nat} {kd : Nat → Nat} {n : Nat} {sa sv : Nat → Nat} (C : zC p l s m args meth c D cy B kd n sa sv RX11 cX11_isWord 4) (ht : ∀ x ∈ c.exceptionTable.toList, False) (hr : meth.sig.returnType = some (FieldType.boolean)) {b0 : Bool}  (N : Nat) (v2 : Bool) (Mo : Mem)  : Z p l e (rmz 4 0) s m args below meth c (vx_MQ below (QcR D cy B kd n ((pB Mo) b0)) (XcR D cy B kd n ((pB Mo) b0)) args s 0 (6 * 0) (AA B kd n)) D cy B kd n 4 b0 0 82 [(2, .int (bI v2))] [] Mo (fX11_isWord_b82 N v2 Mo) := by
  unfold fX11_isWord_b82
  refine z_iload_n C 2 0 dX11_isWord_82 rfl rfl ?_
  exact z_zret C (v := v2) hr (Nat.le_of_ble_eq_true rfl) dX11_isWord_83 rfl
set_option maxHeartbeats 4000000 in
set_option maxRecDepth 100000 in
theorem z_fX11_isWord_b75 {p : Program} {l : Launch} {e : Env} {s : State} {m : MethodId} {args : Array Value} {below : List Frame} {meth : Method} {c : Code} {D : va_G} {cy : Nat → ClassId} {B : Nat} {kd : Nat → Nat} {n : Nat} {sa sv : Nat → Nat} (C : zC p l s m args meth c D cy B kd n sa sv RX11 cX11_isWord 4) (ht : ∀ x ∈ c.exceptionTable.toList, False) (hr : meth.sig.returnType = some (FieldType.boolean)) {b0 : Bool}  (N : Nat) (k39 : Bool → Int32 → Option Bool) (v0 : Nat) (v1 : Nat) (v3 : Int32) (s0 : Bool) (Mo : Mem) (h0 : kd v0 = 11) (h1 : v1 < 40) (hk39 : ∀ (v2 : Bool) (v3 : Int32), Z p l e (rmz 4 0) s m args below meth c (vx_MQ below (QcR D cy B kd n ((pB Mo) b0)) (XcR D cy B kd n ((pB Mo) b0)) args s 0 (6 * 0) (AA B kd n)) D cy B kd n 4 b0 0 39 [(0, .ref (B + v0)), (1, .ref (sa v1)), (2, .int (bI v2)), (3, .int v3)] [] Mo (k39 v2 v3)) : Z p l e (rmz 4 0) s m args below meth c (vx_MQ below (QcR D cy B kd n ((pB Mo) b0)) (XcR D cy B kd n ((pB Mo) b0)) args s 0 (6 * 0) (AA B kd n)) D cy B kd n 4 b0 0 75 [(0, .ref (B + v0)), (1, .ref (sa v1)), (3, .int v3)] [.int (bI s0)] Mo (fX11_isWord_b75 N k39 v0 v1 v3 s0 Mo) := by
  unfold fX11_isWord_b75
  refine z_istore_n C 2 (ls1 := [(2, .int (bI s0)), (0, .ref (B + v0)), (1, .ref (sa v1)), (3, .int v3)]) dX11_isWord_75 rfl (by decide) rfl ?_
  refine z_iinc C 3 3 (v := v3) (v1 := (v3 + (1 : Int32))) (ls1 := [(3, .int (v3 + (1 : Int32))), (2, .int (bI s0)), (0, .ref (B + v0)), (1, .ref (sa v1))]) dX11_isWord_76 rfl rfl (by decide) rfl ?_
  refine z_goto C 39 dX11_isWord_79 rfl ?_
  exact z_jump (ls1 := [(0, .ref (B + v0)), (1, .ref (sa v1)), (2, .int (bI s0)), (3, .int (v3 + (1 : Int32)))]) (Nat.le_of_ble_eq_true rfl) [2, 3, 1, 0] rfl (hk39 s0 (v3 + (1 : Int32)))
set_option maxHeartbeats 4000000 in
set_option maxRecDepth 100000 in
theorem z_fX11_isWord_l39_s {p : Program} {l : Launch} {e : Env} {s : State} {m : MethodId} {args : Array Value} {below : List Frame} {meth : Method} {c : Code} {D : va_G} {cy : Nat → ClassId} {B : Nat} {kd : Nat → Nat} {n : Nat} {sa sv : Nat → Nat} (C : zC p l s m args meth c D cy B kd n sa sv RX11 cX11_isWord 4) (ht : ∀ x ∈ c.exceptionTable.toList, False) (hr : meth.sig.returnType = some (FieldType.boolean)) {b0 : Bool} {Mo : Mem} (N : Nat) (v0 : Nat) (v1 : Nat) (k39 : Bool → Int32 → Option Bool) (v2 : Bool) (v3 : Int32) (h0 : kd v0 = 11) (h1 : v1 < 40)  (hk39 : ∀ (v2 : Bool) (v3 : Int32), Z p l e (rmz 4 0) s m args below meth c (vx_MQ below (QcR D cy B kd n ((pB Mo) b0)) (XcR D cy B kd n ((pB Mo) b0)) args s 0 (6 * 0) (AA B kd n)) D cy B kd n 4 b0 0 39 [(0, .ref (B + v0)), (1, .ref (sa v1)), (2, .int (bI v2)), (3, .int v3)] [] Mo (k39 v2 v3)) : Z p l e (rmz 4 0) s m args below meth c (vx_MQ below (QcR D cy B kd n ((pB Mo) b0)) (XcR D cy B kd n ((pB Mo) b0)) args s 0 (6 * 0) (AA B kd n)) D cy B kd n 4 b0 0 39 [(0, .ref (B + v0)), (1, .ref (sa v1)), (2, .int (bI v2)), (3, .int v3)] [] Mo (fX11_isWord_l39_s N v0 v1 Mo k39 v2 v3) := by
  unfold fX11_isWord_l39_s
  refine z_iload_n C 2 2 dX11_isWord_39 rfl rfl ?_
  refine z_if_eqB C 82 dX11_isWord_40 rfl (fun _ => ?_) (fun _ => ?_)
  · refine z_iload_n C 3 3 dX11_isWord_43 rfl rfl ?_
    refine z_aload_n C 1 1 dX11_isWord_44 rfl rfl ?_
    refine z_callVT_pI (As := []) (rest := [.int v3]) C rfl (ctJ0_length_8abf5 (zG_of C) v1 h1 Mo) cw_RX11_139 rfl (okM_J0_length_8abf5) rfl h1 (okR_of rfl) (Nat.le_of_ble_eq_true rfl) dX11_isWord_45 (fun qj1 _ => ?_)
    refine z_icmp_ge C 82 dX11_isWord_48 rfl (fun _ => ?_) (fun _ => ?_)
    · exact z_jump (ls1 := [(2, .int (bI v2))]) (Nat.le_of_ble_eq_true rfl) [2] rfl (z_fX11_isWord_b82 C ht hr N v2 Mo)
    · refine z_aload_n C 0 0 dX11_isWord_51 rfl rfl ?_
      refine z_getR (k := 6) C cl11 h0 rfl gw_7_16 rfl dX11_isWord_52 ?_
      have j2 : kd (v0 + 6) = 20 := zkd C h0 (k := 6) rfl
      refine z_aload_n C 0 0 dX11_isWord_55 rfl rfl ?_
      refine z_getI (k := 10) C cl11 h0 rfl gw_7_20 rfl dX11_isWord_56 ?_
      refine z_iload_n C 3 3 dX11_isWord_59 rfl rfl ?_
      refine z_iadd C dX11_isWord_60 ?_
      refine z_iald C j2 rfl (by decide) dX11_isWord_61 (fun j3 => ?_)
      refine z_aload_n C 1 1 dX11_isWord_62 rfl rfl ?_
      refine z_iload_n C 3 3 dX11_isWord_63 rfl rfl ?_
      refine z_callVT_pI (As := [.int v3]) (rest := [.int (rI Mo (v0 + 6) ((rI Mo v0 10) + v3).toNatClampNeg)]) C rfl (ctJ0_charAt_5068e (zG_of C) v1 v3 h1 Mo) cw_RX11_145 rfl (okM_J0_charAt_5068e) rfl h1 (okR_of rfl) (Nat.le_of_ble_eq_true rfl) dX11_isWord_64 (fun qj4 _ => ?_)
      refine z_icmp_ne C 74 dX11_isWord_67 rfl (fun _ => ?_) (fun _ => ?_)
      · refine z_iconst C dX11_isWord_70 rfl ?_
        refine z_goto C 75 dX11_isWord_71 rfl ?_
        exact z_jump (ls1 := [(0, .ref (B + v0)), (1, .ref (sa v1)), (3, .int v3)]) (Nat.le_of_ble_eq_true rfl) [0, 1, 3] rfl (z_fX11_isWord_b75 C ht hr N k39 v0 v1 v3 true Mo h0 h1 hk39)
      · refine z_iconst C dX11_isWord_74 rfl ?_
        exact z_jump (ls1 := [(0, .ref (B + v0)), (1, .ref (sa v1)), (3, .int v3)]) (Nat.le_of_ble_eq_true rfl) [0, 1, 3] rfl (z_fX11_isWord_b75 C ht hr N k39 v0 v1 v3 false Mo h0 h1 hk39)
  · exact z_jump (ls1 := [(2, .int (bI v2))]) (Nat.le_of_ble_eq_true rfl) [2] rfl (z_fX11_isWord_b82 C ht hr N v2 Mo)
theorem z_fX11_isWord_l39_i {p : Program} {l : Launch} {e : Env} {s : State} {m : MethodId} {args : Array Value} {below : List Frame} {meth : Method} {c : Code} {D : va_G} {cy : Nat → ClassId} {B : Nat} {kd : Nat → Nat} {n : Nat} {sa sv : Nat → Nat} (C : zC p l s m args meth c D cy B kd n sa sv RX11 cX11_isWord 4) (ht : ∀ x ∈ c.exceptionTable.toList, False) (hr : meth.sig.returnType = some (FieldType.boolean)) {b0 : Bool} {Mo : Mem} (N : Nat) (v0 : Nat) (v1 : Nat) (h0 : kd v0 = 11) (h1 : v1 < 40)  (fu : Nat) : ∀ (v2 : Bool) (v3 : Int32), Z p l e (rmz 4 0) s m args below meth c (vx_MQ below (QcR D cy B kd n ((pB Mo) b0)) (XcR D cy B kd n ((pB Mo) b0)) args s 0 (6 * 0) (AA B kd n)) D cy B kd n 4 b0 0 39 [(0, .ref (B + v0)), (1, .ref (sa v1)), (2, .int (bI v2)), (3, .int v3)] [] Mo (fX11_isWord_l39 N v0 v1 Mo fu v2 v3) := by
  induction fu with
  | zero => intro v2 v3; exact z_none
  | succ fu ih => intro v2 v3; exact z_fX11_isWord_l39_s C ht hr N v0 v1 (fX11_isWord_l39 N v0 v1 Mo fu) v2 v3 h0 h1 (fun v2 v3 => ih v2 v3)
theorem z_fX11_isWord_l39 {p : Program} {l : Launch} {e : Env} {s : State} {m : MethodId} {args : Array Value} {below : List Frame} {meth : Method} {c : Code} {D : va_G} {cy : Nat → ClassId} {B : Nat} {kd : Nat → Nat} {n : Nat} {sa sv : Nat → Nat} (C : zC p l s m args meth c D cy B kd n sa sv RX11 cX11_isWord 4) (ht : ∀ x ∈ c.exceptionTable.toList, False) (hr : meth.sig.returnType = some (FieldType.boolean)) {b0 : Bool} {Mo : Mem} (N : Nat) (v0 : Nat) (v1 : Nat) (fu : Nat) (v2 : Bool) (v3 : Int32) (h0 : kd v0 = 11) (h1 : v1 < 40)  : Z p l e (rmz 4 0) s m args below meth c (vx_MQ below (QcR D cy B kd n ((pB Mo) b0)) (XcR D cy B kd n ((pB Mo) b0)) args s 0 (6 * 0) (AA B kd n)) D cy B kd n 4 b0 0 39 [(0, .ref (B + v0)), (1, .ref (sa v1)), (2, .int (bI v2)), (3, .int v3)] [] Mo (fX11_isWord_l39 N v0 v1 Mo fu v2 v3) := z_fX11_isWord_l39_i C ht hr N v0 v1 h0 h1 fu v2 v3
set_option maxHeartbeats 4000000 in
set_option maxRecDepth 100000 in
theorem z_fX11_isWord_b36 {p : Program} {l : Launch} {e : Env} {s : State} {m : MethodId} {args : Array Value} {below : List Frame} {meth : Method} {c : Code} {D : va_G} {cy : Nat → ClassId} {B : Nat} {kd : Nat → Nat} {n : Nat} {sa sv : Nat → Nat} (C : zC p l s m args meth c D cy B kd n sa sv RX11 cX11_isWord 4) (ht : ∀ x ∈ c.exceptionTable.toList, False) (hr : meth.sig.returnType = some (FieldType.boolean)) {b0 : Bool}  (N : Nat) (v0 : Nat) (v1 : Nat) (s0 : Bool) (Mo : Mem) (h0 : kd v0 = 11) (h1 : v1 < 40)  : Z p l e (rmz 4 0) s m args below meth c (vx_MQ below (QcR D cy B kd n ((pB Mo) b0)) (XcR D cy B kd n ((pB Mo) b0)) args s 0 (6 * 0) (AA B kd n)) D cy B kd n 4 b0 0 36 [(0, .ref (B + v0)), (1, .ref (sa v1))] [.int (bI s0)] Mo (fX11_isWord_b36 N v0 v1 s0 Mo) := by
  unfold fX11_isWord_b36
  refine z_istore_n C 2 (ls1 := [(2, .int (bI s0)), (0, .ref (B + v0)), (1, .ref (sa v1))]) dX11_isWord_36 rfl (by decide) rfl ?_
  refine z_iconst C dX11_isWord_37 rfl ?_
  refine z_istore_n C 3 (ls1 := [(3, .int (0 : Int32)), (2, .int (bI s0)), (0, .ref (B + v0)), (1, .ref (sa v1))]) dX11_isWord_38 rfl (by decide) rfl ?_
  exact z_jump (ls1 := [(0, .ref (B + v0)), (1, .ref (sa v1)), (2, .int (bI s0)), (3, .int (0 : Int32))]) (Nat.le_of_ble_eq_true rfl) [2, 3, 1, 0] rfl (z_fX11_isWord_l39 C ht hr N v0 v1 N s0 (0 : Int32) h0 h1)
set_option maxHeartbeats 4000000 in
set_option maxRecDepth 100000 in
theorem z_fX11_isWord_b35 {p : Program} {l : Launch} {e : Env} {s : State} {m : MethodId} {args : Array Value} {below : List Frame} {meth : Method} {c : Code} {D : va_G} {cy : Nat → ClassId} {B : Nat} {kd : Nat → Nat} {n : Nat} {sa sv : Nat → Nat} (C : zC p l s m args meth c D cy B kd n sa sv RX11 cX11_isWord 4) (ht : ∀ x ∈ c.exceptionTable.toList, False) (hr : meth.sig.returnType = some (FieldType.boolean)) {b0 : Bool}  (N : Nat) (v0 : Nat) (v1 : Nat) (Mo : Mem) (h0 : kd v0 = 11) (h1 : v1 < 40)  : Z p l e (rmz 4 0) s m args below meth c (vx_MQ below (QcR D cy B kd n ((pB Mo) b0)) (XcR D cy B kd n ((pB Mo) b0)) args s 0 (6 * 0) (AA B kd n)) D cy B kd n 4 b0 0 35 [(0, .ref (B + v0)), (1, .ref (sa v1))] [] Mo (fX11_isWord_b35 N v0 v1 Mo) := by
  unfold fX11_isWord_b35
  refine z_iconst C dX11_isWord_35 rfl ?_
  exact z_jump (ls1 := [(0, .ref (B + v0)), (1, .ref (sa v1))]) (Nat.le_of_ble_eq_true rfl) [0, 1] rfl (z_fX11_isWord_b36 C ht hr N v0 v1 false Mo h0 h1)
set_option maxHeartbeats 4000000 in
set_option maxRecDepth 100000 in
theorem ctX11_isWord {l : Launch} {D : va_G} {cy : Nat → ClassId} {B : Nat} {kd : Nat → Nat} {n : Nat} {sa sv : Nat → Nat} (G : zG l kd n) (N : Nat) (v0 : Nat) (v1 : Nat) (h0 : kd v0 = 11)(h1 : v1 < 40) (Mo : Mem) : CT l D cy B kd n sa sv 4 0 yX11_isWord cX11_isWord 4 (some (FieldType.boolean)) (pB Mo) [.ref (B + v0), .ref (sa v1)] Mo (fX11_isWord N v0 v1 Mo) := by
  refine ct_of (by decide) G.1 G.2 (Nat.le_of_ble_eq_true rfl) (ls := [(0, .ref (B + v0)), (1, .ref (sa v1))]) rfl ?_
  intro p e s m args below meth c b0 C ht hr
  unfold fX11_isWord
  refine z_aload_n C 0 0 dX11_isWord_0 rfl rfl ?_
  refine z_getI (k := 14) C cl11 h0 rfl gw_7_24 rfl dX11_isWord_1 ?_
  refine z_if_ne C 35 dX11_isWord_4 rfl (fun _ => ?_) (fun _ => ?_)
  · refine z_aload_n C 0 0 dX11_isWord_7 rfl rfl ?_
    refine z_getI (k := 11) C cl11 h0 rfl gw_7_21 rfl dX11_isWord_8 ?_
    refine z_iconst C dX11_isWord_11 rfl ?_
    refine z_icmp_ne C 35 dX11_isWord_12 rfl (fun _ => ?_) (fun _ => ?_)
    · refine z_aload_n C 0 0 dX11_isWord_15 rfl rfl ?_
      refine z_getI (k := 9) C cl11 h0 rfl gw_7_19 rfl dX11_isWord_16 ?_
      refine z_aload_n C 0 0 dX11_isWord_19 rfl rfl ?_
      refine z_getI (k := 10) C cl11 h0 rfl gw_7_20 rfl dX11_isWord_20 ?_
      refine z_isub C dX11_isWord_23 ?_
      refine z_aload_n C 1 1 dX11_isWord_24 rfl rfl ?_
      refine z_callVT_pI (As := []) (rest := [.int ((rI Mo v0 9) - (rI Mo v0 10))]) C rfl (ctJ0_length_8abf5 (zG_of C) v1 h1 Mo) cw_RX11_139 rfl (okM_J0_length_8abf5) rfl h1 (okR_of rfl) (Nat.le_of_ble_eq_true rfl) dX11_isWord_25 (fun qj1 _ => ?_)
      refine z_icmp_ne C 35 dX11_isWord_28 rfl (fun _ => ?_) (fun _ => ?_)
      · refine z_iconst C dX11_isWord_31 rfl ?_
        refine z_goto C 36 dX11_isWord_32 rfl ?_
        exact z_jump (ls1 := [(0, .ref (B + v0)), (1, .ref (sa v1))]) (Nat.le_of_ble_eq_true rfl) [0, 1] rfl (z_fX11_isWord_b36 C ht hr N v0 v1 true Mo h0 h1)
      · exact z_jump (ls1 := [(0, .ref (B + v0)), (1, .ref (sa v1))]) (Nat.le_of_ble_eq_true rfl) [0, 1] rfl (z_fX11_isWord_b35 C ht hr N v0 v1 Mo h0 h1)
    · exact z_jump (ls1 := [(0, .ref (B + v0)), (1, .ref (sa v1))]) (Nat.le_of_ble_eq_true rfl) [0, 1] rfl (z_fX11_isWord_b35 C ht hr N v0 v1 Mo h0 h1)
  · exact z_jump (ls1 := [(0, .ref (B + v0)), (1, .ref (sa v1))]) (Nat.le_of_ble_eq_true rfl) [0, 1] rfl (z_fX11_isWord_b35 C ht hr N v0 v1 Mo h0 h1)
set_option maxHeartbeats 4000000 in
set_option maxRecDepth 100000 in
theorem z_fX11_took_b14 {p : Program} {l : Launch} {e : Env} {s : State} {m : MethodId} {args : Array Value} {below : List Frame} {meth : Method} {c : Code} {D : va_G} {cy : Nat → ClassId} {B : Nat} {kd : Nat → Nat} {n : Nat} {sa sv : Nat → Nat} (C : zC p l s m args meth c D cy B kd n sa sv RX11 cX11_took 3) (ht : ∀ x ∈ c.exceptionTable.toList, False) (hr : meth.sig.returnType = some (FieldType.boolean)) {b0 : Bool × Mem}  (N : Nat) (v2 : Bool) (M : Mem)  : Z p l e (rmz 5 0) s m args below meth c (vx_MQ below (QcR D cy B kd n (cvB b0)) (XcR D cy B kd n (cvB b0)) args s 0 (6 * 0) (AA B kd n)) D cy B kd n 3 b0 0 14 [(2, .int (bI v2))] [] M (fX11_took_b14 N v2 M) := by
  unfold fX11_took_b14
  refine z_iload_n C 2 0 dX11_took_14 rfl rfl ?_
  exact z_zret C (v := v2) hr (Nat.le_of_ble_eq_true rfl) dX11_took_15 rfl
set_option maxHeartbeats 4000000 in
set_option maxRecDepth 100000 in
theorem ctX11_took {l : Launch} {D : va_G} {cy : Nat → ClassId} {B : Nat} {kd : Nat → Nat} {n : Nat} {sa sv : Nat → Nat} (G : zG l kd n) (N : Nat) (v0 : Nat) (v1 : Nat) (h0 : kd v0 = 11)(h1 : v1 < 40) (M : Mem) : CT l D cy B kd n sa sv 5 0 yX11_took cX11_took 3 (some (FieldType.boolean)) cvB [.ref (B + v0), .ref (sa v1)] M (fX11_took N v0 v1 M) := by
  refine ct_of (by decide) G.1 G.2 (Nat.le_of_ble_eq_true rfl) (ls := [(0, .ref (B + v0)), (1, .ref (sa v1))]) rfl ?_
  intro p e s m args below meth c b0 C ht hr
  unfold fX11_took
  refine z_aload_n C 0 0 dX11_took_0 rfl rfl ?_
  refine z_aload_n C 1 1 dX11_took_1 rfl rfl ?_
  refine z_callV_pB (As := [.ref (sa v1)]) (rest := []) C rfl (ctX11_isWord (zG_of C) N v0 v1 h0 h1 M) cw_RX11_149 rfl (okM_X11_isWord) rfl cl11 h0 (okR_of rfl) (Nat.le_of_ble_eq_true rfl) dX11_took_2 (fun qj1 _ => ?_)
  refine z_istore_n C 2 (ls1 := [(2, .int (bI qj1)), (0, .ref (B + v0)), (1, .ref (sa v1))]) dX11_took_5 rfl (by decide) rfl ?_
  refine z_iload_n C 2 0 dX11_took_6 rfl rfl ?_
  refine z_if_eqB C 14 dX11_took_7 rfl (fun _ => ?_) (fun _ => ?_)
  · refine z_aload_n C 0 1 dX11_took_10 rfl rfl ?_
    refine z_callV_V (As := []) (rest := []) C rfl (ctX11_reads (zG_of C) N v0 h0 M) cw_RX11_133 rfl (okM_X11_reads) rfl cl11 h0 (okR_of rfl) (Nat.le_of_ble_eq_true rfl) dX11_took_11 (fun qj2 _ => ?_)
    exact z_jump (ls1 := [(2, .int (bI qj1))]) (Nat.le_of_ble_eq_true rfl) [0] rfl (z_fX11_took_b14 C ht hr N qj1 qj2)
  · exact z_jump (ls1 := [(2, .int (bI qj1))]) (Nat.le_of_ble_eq_true rfl) [0] rfl (z_fX11_took_b14 C ht hr N qj1 M)
set_option maxHeartbeats 4000000 in
set_option maxRecDepth 100000 in
theorem z_fX11_number_b52 {p : Program} {l : Launch} {e : Env} {s : State} {m : MethodId} {args : Array Value} {below : List Frame} {meth : Method} {c : Code} {D : va_G} {cy : Nat → ClassId} {B : Nat} {kd : Nat → Nat} {n : Nat} {sa sv : Nat → Nat} (C : zC p l s m args meth c D cy B kd n sa sv RX11 cX11_number 4) (ht : ∀ x ∈ c.exceptionTable.toList, False) (hr : meth.sig.returnType = some (FieldType.int)) {b0 : Int32 × Mem}  (N : Nat) (v0 : Nat) (v1 : Int32) (v3 : Int32) (M : Mem) (h0 : kd v0 = 11)  : Z p l e (rmz 2 0) s m args below meth c (vx_MQ below (QcR D cy B kd n (cvI b0)) (XcR D cy B kd n (cvI b0)) args s 0 (6 * 0) (AA B kd n)) D cy B kd n 4 b0 0 52 [(0, .ref (B + v0)), (1, .int v1), (3, .int v3)] [] M (fX11_number_b52 N v0 v1 v3 M) := by
  unfold fX11_number_b52
  refine z_aload_n C 0 0 dX11_number_52 rfl rfl ?_
  refine z_getI (k := 14) C cl11 h0 rfl gw_7_24 rfl dX11_number_53 ?_
  refine z_if_ne C 63 dX11_number_56 rfl (fun _ => ?_) (fun _ => ?_)
  · refine z_iload_n C 3 2 dX11_number_59 rfl rfl ?_
    refine z_goto C 64 dX11_number_60 rfl ?_
    exact z_iret C hr (Nat.le_of_ble_eq_true rfl) dX11_number_64 rfl
  · refine z_iload_n C 1 1 dX11_number_63 rfl rfl ?_
    exact z_iret C hr (Nat.le_of_ble_eq_true rfl) dX11_number_64 rfl
set_option maxHeartbeats 4000000 in
set_option maxRecDepth 100000 in
theorem z_fX11_number_b36 {p : Program} {l : Launch} {e : Env} {s : State} {m : MethodId} {args : Array Value} {below : List Frame} {meth : Method} {c : Code} {D : va_G} {cy : Nat → ClassId} {B : Nat} {kd : Nat → Nat} {n : Nat} {sa sv : Nat → Nat} (C : zC p l s m args meth c D cy B kd n sa sv RX11 cX11_number 4) (ht : ∀ x ∈ c.exceptionTable.toList, False) (hr : meth.sig.returnType = some (FieldType.int)) {b0 : Int32 × Mem}  (N : Nat) (v0 : Nat) (v1 : Int32) (M : Mem) (h0 : kd v0 = 11)  : Z p l e (rmz 2 0) s m args below meth c (vx_MQ below (QcR D cy B kd n (cvI b0)) (XcR D cy B kd n (cvI b0)) args s 0 (6 * 0) (AA B kd n)) D cy B kd n 4 b0 0 36 [(0, .ref (B + v0)), (1, .int v1)] [] M (fX11_number_b36 N v0 v1 M) := by
  unfold fX11_number_b36
  refine z_aload_n C 0 0 dX11_number_36 rfl rfl ?_
  refine z_getI (k := 12) C cl11 h0 rfl gw_7_22 rfl dX11_number_37 ?_
  refine z_istore_n C 3 (ls1 := [(3, .int (rI M v0 12)), (0, .ref (B + v0)), (1, .int v1)]) dX11_number_40 rfl (by decide) rfl ?_
  refine z_aload_n C 0 1 dX11_number_41 rfl rfl ?_
  refine z_getI (k := 14) C cl11 h0 rfl gw_7_24 rfl dX11_number_42 ?_
  refine z_if_ne C 52 dX11_number_45 rfl (fun _ => ?_) (fun _ => ?_)
  · refine z_aload_n C 0 1 dX11_number_48 rfl rfl ?_
    refine z_callV_V (As := []) (rest := []) C rfl (ctX11_reads (zG_of C) N v0 h0 M) cw_RX11_133 rfl (okM_X11_reads) rfl cl11 h0 (okR_of rfl) (Nat.le_of_ble_eq_true rfl) dX11_number_49 (fun qj1 _ => ?_)
    exact z_jump (ls1 := [(0, .ref (B + v0)), (1, .int v1), (3, .int (rI M v0 12))]) (Nat.le_of_ble_eq_true rfl) [1, 2, 0] rfl (z_fX11_number_b52 C ht hr N v0 v1 (rI M v0 12) qj1 h0)
  · exact z_jump (ls1 := [(0, .ref (B + v0)), (1, .int v1), (3, .int (rI M v0 12))]) (Nat.le_of_ble_eq_true rfl) [1, 2, 0] rfl (z_fX11_number_b52 C ht hr N v0 v1 (rI M v0 12) M h0)
set_option maxHeartbeats 4000000 in
set_option maxRecDepth 100000 in
theorem ctX11_number {l : Launch} {D : va_G} {cy : Nat → ClassId} {B : Nat} {kd : Nat → Nat} {n : Nat} {sa sv : Nat → Nat} (G : zG l kd n) (N : Nat) (v0 : Nat) (v1 : Int32) (v2 : Int32) (h0 : kd v0 = 11) (M : Mem) : CT l D cy B kd n sa sv 2 0 yX11_number cX11_number 4 (some (FieldType.int)) cvI [.ref (B + v0), .int v1, .int v2] M (fX11_number N v0 v1 v2 M) := by
  refine ct_of (by decide) G.1 G.2 (Nat.le_of_ble_eq_true rfl) (ls := [(0, .ref (B + v0)), (1, .int v1), (2, .int v2)]) rfl ?_
  intro p e s m args below meth c b0 C ht hr
  unfold fX11_number
  refine z_aload_n C 0 0 dX11_number_0 rfl rfl ?_
  refine z_getI (k := 11) C cl11 h0 rfl gw_7_21 rfl dX11_number_1 ?_
  refine z_iconst C dX11_number_4 rfl ?_
  refine z_icmp_eq C 16 dX11_number_5 rfl (fun _ => ?_) (fun _ => ?_)
  · refine z_aload_n C 0 0 dX11_number_16 rfl rfl ?_
    refine z_getI (k := 12) C cl11 h0 rfl gw_7_22 rfl dX11_number_17 ?_
    refine z_i2l C dX11_number_20 ?_
    refine z_iload_n C 1 1 dX11_number_21 rfl rfl ?_
    refine z_i2l C dX11_number_22 ?_
    refine z_iload_n C 2 2 dX11_number_23 rfl rfl ?_
    refine z_i2l C dX11_number_24 ?_
    refine z_callS_pB (As := [.long (rI M v0 12).toInt64, .long v1.toInt64, .long v2.toInt64]) (rest := []) C rfl (ctX11_within (zG_of C) ((rI M v0 12).toInt64) v1.toInt64 v2.toInt64 M) cw_RX11_157 (okM_X11_within) rfl (okR_of rfl) (Nat.le_of_ble_eq_true rfl) dX11_number_25 (fun qj1 _ => ?_)
    refine z_if_neB C 36 dX11_number_28 rfl (fun _ => ?_) (fun _ => ?_)
    · exact z_jump (ls1 := [(0, .ref (B + v0)), (1, .int v1)]) (Nat.le_of_ble_eq_true rfl) [0, 1] rfl (z_fX11_number_b36 C ht hr N v0 v1 M h0)
    · refine z_aload_n C 0 0 dX11_number_31 rfl rfl ?_
      refine z_iconst C dX11_number_32 rfl ?_
      refine z_callV_V (As := [.int (3 : Int32)]) (rest := []) C rfl (ctX11_blames (zG_of C) v0 (3 : Int32) h0 M) cw_RX11_153 rfl (okM_X11_blames) rfl cl11 h0 (okR_of rfl) (Nat.le_of_ble_eq_true rfl) dX11_number_33 (fun qj2 _ => ?_)
      exact z_jump (ls1 := [(0, .ref (B + v0)), (1, .int v1)]) (Nat.le_of_ble_eq_true rfl) [0, 1] rfl (z_fX11_number_b36 C ht hr N v0 v1 qj2 h0)
  · refine z_aload_n C 0 0 dX11_number_8 rfl rfl ?_
    refine z_iconst C dX11_number_9 rfl ?_
    refine z_callV_V (As := [.int (2 : Int32)]) (rest := []) C rfl (ctX11_blames (zG_of C) v0 (2 : Int32) h0 M) cw_RX11_153 rfl (okM_X11_blames) rfl cl11 h0 (okR_of rfl) (Nat.le_of_ble_eq_true rfl) dX11_number_10 (fun qj3 _ => ?_)
    refine z_goto C 36 dX11_number_13 rfl ?_
    exact z_jump (ls1 := [(0, .ref (B + v0)), (1, .int v1)]) (Nat.le_of_ble_eq_true rfl) [0, 1] rfl (z_fX11_number_b36 C ht hr N v0 v1 qj3 h0)
set_option maxHeartbeats 4000000 in
set_option maxRecDepth 100000 in
theorem ctX11_code {l : Launch} {D : va_G} {cy : Nat → ClassId} {B : Nat} {kd : Nat → Nat} {n : Nat} {sa sv : Nat → Nat} (G : zG l kd n) (v0 : Nat) (v1 : Int32) (v2 : Int32) (h0 : kd v0 = 11) (M : Mem) : CT l D cy B kd n sa sv 0 0 yX11_code cX11_code 3 (none) cvV [.ref (B + v0), .int v1, .int v2] M (fX11_code v0 v1 v2 M) := by
  refine ct_of (by decide) G.1 G.2 (Nat.le_of_ble_eq_true rfl) (ls := [(0, .ref (B + v0)), (1, .int v1), (2, .int v2)]) rfl ?_
  intro p e s m args below meth c b0 C ht hr
  unfold fX11_code
  refine z_aload_n C 0 0 dX11_code_0 rfl rfl ?_
  refine z_getI (k := 14) C cl11 h0 rfl gw_7_24 rfl dX11_code_1 ?_
  refine z_if_eq C 8 dX11_code_4 rfl (fun _ => ?_) (fun _ => ?_)
  · refine z_aload_n C 0 0 dX11_code_8 rfl rfl ?_
    refine z_getR (k := 1) C cl11 h0 rfl gw_7_11 rfl dX11_code_9 ?_
    have j1 : kd (v0 + 2) = 36 := zkd C h0 (k := 1) rfl
    refine z_bipush (v := 20) C dX11_code_12 rfl ?_
    refine z_iconst C dX11_code_14 rfl ?_
    refine z_aload_n C 0 0 dX11_code_15 rfl rfl ?_
    refine z_getR (k := 1) C cl11 h0 rfl gw_7_11 rfl dX11_code_16 ?_
    have j2 : kd (v0 + 2) = 36 := zkd C h0 (k := 1) rfl
    refine z_bipush (v := 18) C dX11_code_19 rfl ?_
    refine z_iald C j2 rfl (by decide) dX11_code_21 (fun j3 => ?_)
    refine z_imul C dX11_code_22 ?_
    refine z_iadd C dX11_code_23 ?_
    refine z_iload_n C 1 1 dX11_code_24 rfl rfl ?_
    refine z_iast C j1 rfl (by decide) dX11_code_25 (fun _ => ?_)
    refine z_aload_n C 0 0 dX11_code_26 rfl rfl ?_
    refine z_getR (k := 1) C cl11 h0 rfl gw_7_11 rfl dX11_code_27 ?_
    have j4 : kd (v0 + 2) = 36 := zkd C h0 (k := 1) rfl
    refine z_bipush (v := 20) C dX11_code_30 rfl ?_
    refine z_iconst C dX11_code_32 rfl ?_
    refine z_aload_n C 0 0 dX11_code_33 rfl rfl ?_
    refine z_getR (k := 1) C cl11 h0 rfl gw_7_11 rfl dX11_code_34 ?_
    have j5 : kd (v0 + 2) = 36 := zkd C h0 (k := 1) rfl
    refine z_bipush (v := 18) C dX11_code_37 rfl ?_
    refine z_iald C j5 rfl (by decide) dX11_code_39 (fun j6 => ?_)
    refine z_imul C dX11_code_40 ?_
    refine z_iadd C dX11_code_41 ?_
    refine z_iconst C dX11_code_42 rfl ?_
    refine z_iadd C dX11_code_43 ?_
    refine z_iload_n C 2 2 dX11_code_44 rfl rfl ?_
    refine z_iast C j4 rfl (by decide) dX11_code_45 (fun _ => ?_)
    refine z_aload_n C 0 0 dX11_code_46 rfl rfl ?_
    refine z_getR (k := 1) C cl11 h0 rfl gw_7_11 rfl dX11_code_47 ?_
    have j7 : kd (v0 + 2) = 36 := zkd C h0 (k := 1) rfl
    refine z_bipush (v := 18) C dX11_code_50 rfl ?_
    refine z_dup2 C dX11_code_52 rfl rfl ?_
    refine z_iald C j7 rfl (by decide) dX11_code_53 (fun j8 => ?_)
    refine z_iconst C dX11_code_54 rfl ?_
    refine z_iadd C dX11_code_55 ?_
    refine z_iast C j7 rfl (by decide) dX11_code_56 (fun _ => ?_)
    exact z_vret C hr (Nat.le_of_ble_eq_true rfl) dX11_code_57 rfl
  · exact z_vret C hr (Nat.le_of_ble_eq_true rfl) dX11_code_7 rfl
set_option maxHeartbeats 4000000 in
set_option maxRecDepth 100000 in
theorem z_fX11_readUnit_b77 {p : Program} {l : Launch} {e : Env} {s : State} {m : MethodId} {args : Array Value} {below : List Frame} {meth : Method} {c : Code} {D : va_G} {cy : Nat → ClassId} {B : Nat} {kd : Nat → Nat} {n : Nat} {sa sv : Nat → Nat} (C : zC p l s m args meth c D cy B kd n sa sv RX11 cX11_readUnit 1) (ht : ∀ x ∈ c.exceptionTable.toList, False) (hr : meth.sig.returnType = none) {b0 : Mem} (lv : Nat) (h10 : 10 ≤ lv) (rs : Nat → Mem → Option Mem) (hrs : ∀ (v0 : Nat) (M : Mem), kd v0 = 11 → CT l D cy B kd n sa sv lv 0 yX11_readSum cX11_readSum 2 none cvV [.ref (B + v0)] M (rs v0 M))  (N : Nat) (v0 : Nat) (M : Mem) (h0 : kd v0 = 11)  : Z p l e (rmz (lv + 1) 0) s m args below meth c (vx_MQ below (QcR D cy B kd n (cvV b0)) (XcR D cy B kd n (cvV b0)) args s 0 (6 * 0) (AA B kd n)) D cy B kd n 1 b0 0 77 [(0, .ref (B + v0))] [] M (fX11_readUnit_b77 rs N v0 M) := by
  unfold fX11_readUnit_b77
  refine z_aload_n C 0 0 dX11_readUnit_77 rfl rfl ?_
  refine z_dup C dX11_readUnit_78 rfl ?_
  refine z_getI (k := 13) C cl11 h0 rfl gw_7_23 rfl dX11_readUnit_79 ?_
  refine z_iconst C dX11_readUnit_82 rfl ?_
  refine z_isub C dX11_readUnit_83 ?_
  refine z_putI (k := 13) C cl11 h0 rfl gw_7_23 rfl rfl rfl dX11_readUnit_84 ?_
  refine z_goto C 155 dX11_readUnit_87 rfl ?_
  exact z_vret C hr (Nat.le_of_ble_eq_true rfl) dX11_readUnit_155 rfl
set_option maxHeartbeats 4000000 in
set_option maxRecDepth 100000 in
theorem z_fX11_readUnit_b63 {p : Program} {l : Launch} {e : Env} {s : State} {m : MethodId} {args : Array Value} {below : List Frame} {meth : Method} {c : Code} {D : va_G} {cy : Nat → ClassId} {B : Nat} {kd : Nat → Nat} {n : Nat} {sa sv : Nat → Nat} (C : zC p l s m args meth c D cy B kd n sa sv RX11 cX11_readUnit 1) (ht : ∀ x ∈ c.exceptionTable.toList, False) (hr : meth.sig.returnType = none) {b0 : Mem} (lv : Nat) (h10 : 10 ≤ lv) (rs : Nat → Mem → Option Mem) (hrs : ∀ (v0 : Nat) (M : Mem), kd v0 = 11 → CT l D cy B kd n sa sv lv 0 yX11_readSum cX11_readSum 2 none cvV [.ref (B + v0)] M (rs v0 M))  (N : Nat) (v0 : Nat) (M : Mem) (h0 : kd v0 = 11)  : Z p l e (rmz (lv + 1) 0) s m args below meth c (vx_MQ below (QcR D cy B kd n (cvV b0)) (XcR D cy B kd n (cvV b0)) args s 0 (6 * 0) (AA B kd n)) D cy B kd n 1 b0 0 63 [(0, .ref (B + v0))] [] M (fX11_readUnit_b63 rs N v0 M) := by
  unfold fX11_readUnit_b63
  refine z_aload_n C 0 0 dX11_readUnit_63 rfl rfl ?_
  refine z_bipush (v := 41) C dX11_readUnit_64 rfl ?_
  refine z_callV_B (As := [.int (41 : Int32)]) (rest := []) C rfl (ctX11_tookSign (zG_of C) N v0 (41 : Int32) h0 M) cw_RX11_177 rfl (okM_X11_tookSign) rfl cl11 h0 (okR_l (by omega) (by decide) (Nat.le_of_ble_eq_true rfl)) (Nat.le_of_ble_eq_true rfl) dX11_readUnit_66 (fun qj1 _ => ?_)
  refine z_if_neB C 77 dX11_readUnit_69 rfl (fun _ => ?_) (fun _ => ?_)
  · exact z_jump (ls1 := [(0, .ref (B + v0))]) (Nat.le_of_ble_eq_true rfl) [0] rfl (z_fX11_readUnit_b77 C ht hr lv h10 rs hrs N v0 qj1.2 h0)
  · refine z_aload_n C 0 0 dX11_readUnit_72 rfl rfl ?_
    refine z_iconst C dX11_readUnit_73 rfl ?_
    refine z_callV_V (As := [.int (2 : Int32)]) (rest := []) C rfl (ctX11_blames (zG_of C) v0 (2 : Int32) h0 qj1.2) cw_RX11_153 rfl (okM_X11_blames) rfl cl11 h0 (okR_l (by omega) (by decide) (Nat.le_of_ble_eq_true rfl)) (Nat.le_of_ble_eq_true rfl) dX11_readUnit_74 (fun qj2 _ => ?_)
    exact z_jump (ls1 := [(0, .ref (B + v0))]) (Nat.le_of_ble_eq_true rfl) [0] rfl (z_fX11_readUnit_b77 C ht hr lv h10 rs hrs N v0 qj2 h0)
set_option maxHeartbeats 4000000 in
set_option maxRecDepth 100000 in
theorem z_fX11_readUnit_b52 {p : Program} {l : Launch} {e : Env} {s : State} {m : MethodId} {args : Array Value} {below : List Frame} {meth : Method} {c : Code} {D : va_G} {cy : Nat → ClassId} {B : Nat} {kd : Nat → Nat} {n : Nat} {sa sv : Nat → Nat} (C : zC p l s m args meth c D cy B kd n sa sv RX11 cX11_readUnit 1) (ht : ∀ x ∈ c.exceptionTable.toList, False) (hr : meth.sig.returnType = none) {b0 : Mem} (lv : Nat) (h10 : 10 ≤ lv) (rs : Nat → Mem → Option Mem) (hrs : ∀ (v0 : Nat) (M : Mem), kd v0 = 11 → CT l D cy B kd n sa sv lv 0 yX11_readSum cX11_readSum 2 none cvV [.ref (B + v0)] M (rs v0 M))  (N : Nat) (v0 : Nat) (M : Mem) (h0 : kd v0 = 11)  : Z p l e (rmz (lv + 1) 0) s m args below meth c (vx_MQ below (QcR D cy B kd n (cvV b0)) (XcR D cy B kd n (cvV b0)) args s 0 (6 * 0) (AA B kd n)) D cy B kd n 1 b0 0 52 [(0, .ref (B + v0))] [] M (fX11_readUnit_b52 rs N v0 M) := by
  unfold fX11_readUnit_b52
  refine z_aload_n C 0 0 dX11_readUnit_52 rfl rfl ?_
  refine z_getI (k := 14) C cl11 h0 rfl gw_7_24 rfl dX11_readUnit_53 ?_
  refine z_if_ne C 63 dX11_readUnit_56 rfl (fun _ => ?_) (fun _ => ?_)
  · refine z_aload_n C 0 0 dX11_readUnit_59 rfl rfl ?_
    refine z_callV_V (As := []) (rest := []) C rfl (hrs v0 M h0) cw_RX11_174 rfl (okM_X11_readSum) rfl cl11 h0 (okR_l (by omega) (by decide) (Nat.le_of_ble_eq_true rfl)) (Nat.le_of_ble_eq_true rfl) dX11_readUnit_60 (fun qj1 _ => ?_)
    exact z_jump (ls1 := [(0, .ref (B + v0))]) (Nat.le_of_ble_eq_true rfl) [0] rfl (z_fX11_readUnit_b63 C ht hr lv h10 rs hrs N v0 qj1 h0)
  · exact z_jump (ls1 := [(0, .ref (B + v0))]) (Nat.le_of_ble_eq_true rfl) [0] rfl (z_fX11_readUnit_b63 C ht hr lv h10 rs hrs N v0 M h0)
set_option maxHeartbeats 4000000 in
set_option maxRecDepth 100000 in
theorem z_fX11_readUnit_b31 {p : Program} {l : Launch} {e : Env} {s : State} {m : MethodId} {args : Array Value} {below : List Frame} {meth : Method} {c : Code} {D : va_G} {cy : Nat → ClassId} {B : Nat} {kd : Nat → Nat} {n : Nat} {sa sv : Nat → Nat} (C : zC p l s m args meth c D cy B kd n sa sv RX11 cX11_readUnit 1) (ht : ∀ x ∈ c.exceptionTable.toList, False) (hr : meth.sig.returnType = none) {b0 : Mem} (lv : Nat) (h10 : 10 ≤ lv) (rs : Nat → Mem → Option Mem) (hrs : ∀ (v0 : Nat) (M : Mem), kd v0 = 11 → CT l D cy B kd n sa sv lv 0 yX11_readSum cX11_readSum 2 none cvV [.ref (B + v0)] M (rs v0 M))  (N : Nat) (v0 : Nat) (M : Mem) (h0 : kd v0 = 11)  : Z p l e (rmz (lv + 1) 0) s m args below meth c (vx_MQ below (QcR D cy B kd n (cvV b0)) (XcR D cy B kd n (cvV b0)) args s 0 (6 * 0) (AA B kd n)) D cy B kd n 1 b0 0 31 [(0, .ref (B + v0))] [] M (fX11_readUnit_b31 rs N v0 M) := by
  unfold fX11_readUnit_b31
  refine z_aload_n C 0 0 dX11_readUnit_31 rfl rfl ?_
  refine z_dup C dX11_readUnit_32 rfl ?_
  refine z_getI (k := 13) C cl11 h0 rfl gw_7_23 rfl dX11_readUnit_33 ?_
  refine z_iconst C dX11_readUnit_36 rfl ?_
  refine z_iadd C dX11_readUnit_37 ?_
  refine z_putI (k := 13) C cl11 h0 rfl gw_7_23 rfl rfl rfl dX11_readUnit_38 ?_
  refine z_aload_n C 0 0 dX11_readUnit_41 rfl rfl ?_
  refine z_getI (k := 14) C cl11 h0 rfl gw_7_24 rfl dX11_readUnit_42 ?_
  refine z_if_ne C 52 dX11_readUnit_45 rfl (fun _ => ?_) (fun _ => ?_)
  · refine z_aload_n C 0 0 dX11_readUnit_48 rfl rfl ?_
    refine z_callV_V (As := []) (rest := []) C rfl (ctX11_reads (zG_of C) N v0 h0 (wI M v0 13 ((rI M v0 13) + (1 : Int32)))) cw_RX11_133 rfl (okM_X11_reads) rfl cl11 h0 (okR_l (by omega) (by decide) (Nat.le_of_ble_eq_true rfl)) (Nat.le_of_ble_eq_true rfl) dX11_readUnit_49 (fun qj1 _ => ?_)
    exact z_jump (ls1 := [(0, .ref (B + v0))]) (Nat.le_of_ble_eq_true rfl) [0] rfl (z_fX11_readUnit_b52 C ht hr lv h10 rs hrs N v0 qj1 h0)
  · exact z_jump (ls1 := [(0, .ref (B + v0))]) (Nat.le_of_ble_eq_true rfl) [0] rfl (z_fX11_readUnit_b52 C ht hr lv h10 rs hrs N v0 (wI M v0 13 ((rI M v0 13) + (1 : Int32))) h0)
set_option maxHeartbeats 4000000 in
set_option maxRecDepth 100000 in
theorem ctX11_readUnit {l : Launch} {D : va_G} {cy : Nat → ClassId} {B : Nat} {kd : Nat → Nat} {n : Nat} {sa sv : Nat → Nat} (G : zG l kd n) (lv : Nat) (h10 : 10 ≤ lv) (rs : Nat → Mem → Option Mem) (hrs : ∀ (v0 : Nat) (M : Mem), kd v0 = 11 → CT l D cy B kd n sa sv lv 0 yX11_readSum cX11_readSum 2 none cvV [.ref (B + v0)] M (rs v0 M)) (N : Nat) (v0 : Nat) (h0 : kd v0 = 11) (M : Mem) : CT l D cy B kd n sa sv (lv + 1) 0 yX11_readUnit cX11_readUnit 1 (none) cvV [.ref (B + v0)] M (fX11_readUnit rs N v0 M) := by
  refine ct_of (by decide) G.1 G.2 (Nat.le_of_ble_eq_true rfl) (ls := [(0, .ref (B + v0))]) rfl ?_
  intro p e s m args below meth c b0 C ht hr
  unfold fX11_readUnit
  refine z_aload_n C 0 0 dX11_readUnit_0 rfl rfl ?_
  refine z_getI (k := 14) C cl11 h0 rfl gw_7_24 rfl dX11_readUnit_1 ?_
  refine z_if_eq C 8 dX11_readUnit_4 rfl (fun _ => ?_) (fun _ => ?_)
  · refine z_aload_n C 0 0 dX11_readUnit_8 rfl rfl ?_
    refine z_bipush (v := 40) C dX11_readUnit_9 rfl ?_
    refine z_callV_pB (As := [.int (40 : Int32)]) (rest := []) C rfl (ctX11_isSign (zG_of C) v0 (40 : Int32) h0 M) cw_RX11_130 rfl (okM_X11_isSign) rfl cl11 h0 (okR_l (by omega) (by decide) (Nat.le_of_ble_eq_true rfl)) (Nat.le_of_ble_eq_true rfl) dX11_readUnit_11 (fun qj1 _ => ?_)
    refine z_if_eqB C 90 dX11_readUnit_14 rfl (fun _ => ?_) (fun _ => ?_)
    · refine z_aload_n C 0 0 dX11_readUnit_17 rfl rfl ?_
      refine z_getI (k := 13) C cl11 h0 rfl gw_7_23 rfl dX11_readUnit_18 ?_
      refine z_bipush (v := 6) C dX11_readUnit_21 rfl ?_
      refine z_icmp_ne C 31 dX11_readUnit_23 rfl (fun _ => ?_) (fun _ => ?_)
      · refine z_aload_n C 0 0 dX11_readUnit_26 rfl rfl ?_
        refine z_iconst C dX11_readUnit_27 rfl ?_
        refine z_callV_V (As := [.int (5 : Int32)]) (rest := []) C rfl (ctX11_blames (zG_of C) v0 (5 : Int32) h0 M) cw_RX11_153 rfl (okM_X11_blames) rfl cl11 h0 (okR_l (by omega) (by decide) (Nat.le_of_ble_eq_true rfl)) (Nat.le_of_ble_eq_true rfl) dX11_readUnit_28 (fun qj2 _ => ?_)
        exact z_jump (ls1 := [(0, .ref (B + v0))]) (Nat.le_of_ble_eq_true rfl) [0] rfl (z_fX11_readUnit_b31 C ht hr lv h10 rs hrs N v0 qj2 h0)
      · exact z_jump (ls1 := [(0, .ref (B + v0))]) (Nat.le_of_ble_eq_true rfl) [0] rfl (z_fX11_readUnit_b31 C ht hr lv h10 rs hrs N v0 M h0)
    · refine z_aload_n C 0 0 dX11_readUnit_90 rfl rfl ?_
      refine z_getI (k := 11) C cl11 h0 rfl gw_7_21 rfl dX11_readUnit_91 ?_
      refine z_iconst C dX11_readUnit_94 rfl ?_
      refine z_icmp_ne C 114 dX11_readUnit_95 rfl (fun _ => ?_) (fun _ => ?_)
      · refine z_aload_n C 0 0 dX11_readUnit_98 rfl rfl ?_
        refine z_iconst C dX11_readUnit_99 rfl ?_
        refine z_aload_n C 0 0 dX11_readUnit_100 rfl rfl ?_
        refine z_getI (k := 12) C cl11 h0 rfl gw_7_22 rfl dX11_readUnit_101 ?_
        refine z_callV_V (As := [.int (0 : Int32), .int (rI M v0 12)]) (rest := []) C rfl (ctX11_code (zG_of C) v0 (0 : Int32) (rI M v0 12) h0 M) cw_RX11_164 rfl (okM_X11_code) rfl cl11 h0 (okR_l (by omega) (by decide) (Nat.le_of_ble_eq_true rfl)) (Nat.le_of_ble_eq_true rfl) dX11_readUnit_104 (fun qj3 _ => ?_)
        refine z_aload_n C 0 0 dX11_readUnit_107 rfl rfl ?_
        refine z_callV_V (As := []) (rest := []) C rfl (ctX11_reads (zG_of C) N v0 h0 qj3) cw_RX11_133 rfl (okM_X11_reads) rfl cl11 h0 (okR_l (by omega) (by decide) (Nat.le_of_ble_eq_true rfl)) (Nat.le_of_ble_eq_true rfl) dX11_readUnit_108 (fun qj4 _ => ?_)
        refine z_goto C 155 dX11_readUnit_111 rfl ?_
        exact z_vret C hr (Nat.le_of_ble_eq_true rfl) dX11_readUnit_155 rfl
      · refine z_aload_n C 0 0 dX11_readUnit_114 rfl rfl ?_
        refine z_ldcS (i := 37) C dX11_readUnit_115 rfl ?_
        refine z_callV_B (As := [.ref (sa 37)]) (rest := []) C rfl (ctX11_took (zG_of C) N v0 37 h0 (by decide) M) cw_RX11_182 rfl (okM_X11_took) rfl cl11 h0 (okR_l (by omega) (by decide) (Nat.le_of_ble_eq_true rfl)) (Nat.le_of_ble_eq_true rfl) dX11_readUnit_117 (fun qj5 _ => ?_)
        refine z_if_eqB C 132 dX11_readUnit_120 rfl (fun _ => ?_) (fun _ => ?_)
        · refine z_aload_n C 0 0 dX11_readUnit_123 rfl rfl ?_
          refine z_iconst C dX11_readUnit_124 rfl ?_
          refine z_iconst C dX11_readUnit_125 rfl ?_
          refine z_callV_V (As := [.int (1 : Int32), .int (0 : Int32)]) (rest := []) C rfl (ctX11_code (zG_of C) v0 (1 : Int32) (0 : Int32) h0 qj5.2) cw_RX11_164 rfl (okM_X11_code) rfl cl11 h0 (okR_l (by omega) (by decide) (Nat.le_of_ble_eq_true rfl)) (Nat.le_of_ble_eq_true rfl) dX11_readUnit_126 (fun qj6 _ => ?_)
          refine z_goto C 155 dX11_readUnit_129 rfl ?_
          exact z_vret C hr (Nat.le_of_ble_eq_true rfl) dX11_readUnit_155 rfl
        · refine z_aload_n C 0 0 dX11_readUnit_132 rfl rfl ?_
          refine z_ldcS (i := 38) C dX11_readUnit_133 rfl ?_
          refine z_callV_B (As := [.ref (sa 38)]) (rest := []) C rfl (ctX11_took (zG_of C) N v0 38 h0 (by decide) qj5.2) cw_RX11_182 rfl (okM_X11_took) rfl cl11 h0 (okR_l (by omega) (by decide) (Nat.le_of_ble_eq_true rfl)) (Nat.le_of_ble_eq_true rfl) dX11_readUnit_135 (fun qj7 _ => ?_)
          refine z_if_eqB C 150 dX11_readUnit_138 rfl (fun _ => ?_) (fun _ => ?_)
          · refine z_aload_n C 0 0 dX11_readUnit_141 rfl rfl ?_
            refine z_iconst C dX11_readUnit_142 rfl ?_
            refine z_iconst C dX11_readUnit_143 rfl ?_
            refine z_callV_V (As := [.int (2 : Int32), .int (0 : Int32)]) (rest := []) C rfl (ctX11_code (zG_of C) v0 (2 : Int32) (0 : Int32) h0 qj7.2) cw_RX11_164 rfl (okM_X11_code) rfl cl11 h0 (okR_l (by omega) (by decide) (Nat.le_of_ble_eq_true rfl)) (Nat.le_of_ble_eq_true rfl) dX11_readUnit_144 (fun qj8 _ => ?_)
            refine z_goto C 155 dX11_readUnit_147 rfl ?_
            exact z_vret C hr (Nat.le_of_ble_eq_true rfl) dX11_readUnit_155 rfl
          · refine z_aload_n C 0 0 dX11_readUnit_150 rfl rfl ?_
            refine z_iconst C dX11_readUnit_151 rfl ?_
            refine z_callV_V (As := [.int (2 : Int32)]) (rest := []) C rfl (ctX11_blames (zG_of C) v0 (2 : Int32) h0 qj7.2) cw_RX11_153 rfl (okM_X11_blames) rfl cl11 h0 (okR_l (by omega) (by decide) (Nat.le_of_ble_eq_true rfl)) (Nat.le_of_ble_eq_true rfl) dX11_readUnit_152 (fun qj9 _ => ?_)
            exact z_vret C hr (Nat.le_of_ble_eq_true rfl) dX11_readUnit_155 rfl
  · exact z_vret C hr (Nat.le_of_ble_eq_true rfl) dX11_readUnit_7 rfl
set_option maxHeartbeats 4000000 in
set_option maxRecDepth 100000 in
theorem z_fX11_readProduct_b31 {p : Program} {l : Launch} {e : Env} {s : State} {m : MethodId} {args : Array Value} {below : List Frame} {meth : Method} {c : Code} {D : va_G} {cy : Nat → ClassId} {B : Nat} {kd : Nat → Nat} {n : Nat} {sa sv : Nat → Nat} (C : zC p l s m args meth c D cy B kd n sa sv RX11 cX11_readProduct 2) (ht : ∀ x ∈ c.exceptionTable.toList, False) (hr : meth.sig.returnType = none) {b0 : Mem} (lv : Nat) (h10 : 10 ≤ lv) (rs : Nat → Mem → Option Mem) (hrs : ∀ (v0 : Nat) (M : Mem), kd v0 = 11 → CT l D cy B kd n sa sv lv 0 yX11_readSum cX11_readSum 2 none cvV [.ref (B + v0)] M (rs v0 M))  (N : Nat) (k4 : Mem → Option Mem) (v0 : Nat) (M : Mem) (h0 : kd v0 = 11) (hk4 : ∀ (M : Mem), Z p l e (rmz (lv + 2) 0) s m args below meth c (vx_MQ below (QcR D cy B kd n (cvV b0)) (XcR D cy B kd n (cvV b0)) args s 0 (6 * 0) (AA B kd n)) D cy B kd n 2 b0 0 4 [(0, .ref (B + v0))] [] M (k4 M)) : Z p l e (rmz (lv + 2) 0) s m args below meth c (vx_MQ below (QcR D cy B kd n (cvV b0)) (XcR D cy B kd n (cvV b0)) args s 0 (6 * 0) (AA B kd n)) D cy B kd n 2 b0 0 31 [(0, .ref (B + v0))] [] M (fX11_readProduct_b31 rs N k4 v0 M) := by
  unfold fX11_readProduct_b31
  refine z_aload_n C 0 0 dX11_readProduct_31 rfl rfl ?_
  refine z_getI (k := 12) C cl11 h0 rfl gw_7_22 rfl dX11_readProduct_32 ?_
  refine z_istore_n C 1 (ls1 := [(1, .int (rI M v0 12)), (0, .ref (B + v0))]) dX11_readProduct_35 rfl (by decide) rfl ?_
  refine z_aload_n C 0 1 dX11_readProduct_36 rfl rfl ?_
  refine z_callV_V (As := []) (rest := []) C rfl (ctX11_reads (zG_of C) N v0 h0 M) cw_RX11_133 rfl (okM_X11_reads) rfl cl11 h0 (okR_l (by omega) (by decide) (Nat.le_of_ble_eq_true rfl)) (Nat.le_of_ble_eq_true rfl) dX11_readProduct_37 (fun qj1 _ => ?_)
  refine z_aload_n C 0 1 dX11_readProduct_40 rfl rfl ?_
  refine z_callV_V (As := []) (rest := []) C rfl (ctX11_readUnit (zG_of C) lv h10 rs hrs N v0 h0 qj1) cw_RX11_168 rfl (okM_X11_readUnit) rfl cl11 h0 (okR_l (by omega) (by decide) (Nat.le_of_ble_eq_true rfl)) (Nat.le_of_ble_eq_true rfl) dX11_readProduct_41 (fun qj2 _ => ?_)
  refine z_aload_n C 0 1 dX11_readProduct_44 rfl rfl ?_
  refine z_iload_n C 1 0 dX11_readProduct_45 rfl rfl ?_
  refine z_iconst C dX11_readProduct_46 rfl ?_
  refine z_callV_V (As := [.int (rI M v0 12), .int (0 : Int32)]) (rest := []) C rfl (ctX11_code (zG_of C) v0 (rI M v0 12) (0 : Int32) h0 qj2) cw_RX11_164 rfl (okM_X11_code) rfl cl11 h0 (okR_l (by omega) (by decide) (Nat.le_of_ble_eq_true rfl)) (Nat.le_of_ble_eq_true rfl) dX11_readProduct_47 (fun qj3 _ => ?_)
  refine z_goto C 4 dX11_readProduct_50 rfl ?_
  exact z_jump (ls1 := [(0, .ref (B + v0))]) (Nat.le_of_ble_eq_true rfl) [1] rfl (hk4 qj3)
set_option maxHeartbeats 4000000 in
set_option maxRecDepth 100000 in
theorem z_fX11_readProduct_l4_s {p : Program} {l : Launch} {e : Env} {s : State} {m : MethodId} {args : Array Value} {below : List Frame} {meth : Method} {c : Code} {D : va_G} {cy : Nat → ClassId} {B : Nat} {kd : Nat → Nat} {n : Nat} {sa sv : Nat → Nat} (C : zC p l s m args meth c D cy B kd n sa sv RX11 cX11_readProduct 2) (ht : ∀ x ∈ c.exceptionTable.toList, False) (hr : meth.sig.returnType = none) {b0 : Mem} (lv : Nat) (h10 : 10 ≤ lv) (rs : Nat → Mem → Option Mem) (hrs : ∀ (v0 : Nat) (M : Mem), kd v0 = 11 → CT l D cy B kd n sa sv lv 0 yX11_readSum cX11_readSum 2 none cvV [.ref (B + v0)] M (rs v0 M)) (N : Nat) (v0 : Nat) (k4 : Mem → Option Mem) (M : Mem) (h0 : kd v0 = 11)  (hk4 : ∀ (M : Mem), Z p l e (rmz (lv + 2) 0) s m args below meth c (vx_MQ below (QcR D cy B kd n (cvV b0)) (XcR D cy B kd n (cvV b0)) args s 0 (6 * 0) (AA B kd n)) D cy B kd n 2 b0 0 4 [(0, .ref (B + v0))] [] M (k4 M)) : Z p l e (rmz (lv + 2) 0) s m args below meth c (vx_MQ below (QcR D cy B kd n (cvV b0)) (XcR D cy B kd n (cvV b0)) args s 0 (6 * 0) (AA B kd n)) D cy B kd n 2 b0 0 4 [(0, .ref (B + v0))] [] M (fX11_readProduct_l4_s rs N v0 k4 M) := by
  unfold fX11_readProduct_l4_s
  refine z_aload_n C 0 0 dX11_readProduct_4 rfl rfl ?_
  refine z_bipush (v := 42) C dX11_readProduct_5 rfl ?_
  refine z_callV_pB (As := [.int (42 : Int32)]) (rest := []) C rfl (ctX11_isSign (zG_of C) v0 (42 : Int32) h0 M) cw_RX11_130 rfl (okM_X11_isSign) rfl cl11 h0 (okR_l (by omega) (by decide) (Nat.le_of_ble_eq_true rfl)) (Nat.le_of_ble_eq_true rfl) dX11_readProduct_7 (fun qj1 _ => ?_)
  refine z_if_neB C 31 dX11_readProduct_10 rfl (fun _ => ?_) (fun _ => ?_)
  · exact z_jump (ls1 := [(0, .ref (B + v0))]) (Nat.le_of_ble_eq_true rfl) [0] rfl (z_fX11_readProduct_b31 C ht hr lv h10 rs hrs N k4 v0 M h0 hk4)
  · refine z_aload_n C 0 0 dX11_readProduct_13 rfl rfl ?_
    refine z_bipush (v := 47) C dX11_readProduct_14 rfl ?_
    refine z_callV_pB (As := [.int (47 : Int32)]) (rest := []) C rfl (ctX11_isSign (zG_of C) v0 (47 : Int32) h0 M) cw_RX11_130 rfl (okM_X11_isSign) rfl cl11 h0 (okR_l (by omega) (by decide) (Nat.le_of_ble_eq_true rfl)) (Nat.le_of_ble_eq_true rfl) dX11_readProduct_16 (fun qj2 _ => ?_)
    refine z_if_neB C 31 dX11_readProduct_19 rfl (fun _ => ?_) (fun _ => ?_)
    · exact z_jump (ls1 := [(0, .ref (B + v0))]) (Nat.le_of_ble_eq_true rfl) [0] rfl (z_fX11_readProduct_b31 C ht hr lv h10 rs hrs N k4 v0 M h0 hk4)
    · refine z_aload_n C 0 0 dX11_readProduct_22 rfl rfl ?_
      refine z_bipush (v := 37) C dX11_readProduct_23 rfl ?_
      refine z_callV_pB (As := [.int (37 : Int32)]) (rest := []) C rfl (ctX11_isSign (zG_of C) v0 (37 : Int32) h0 M) cw_RX11_130 rfl (okM_X11_isSign) rfl cl11 h0 (okR_l (by omega) (by decide) (Nat.le_of_ble_eq_true rfl)) (Nat.le_of_ble_eq_true rfl) dX11_readProduct_25 (fun qj3 _ => ?_)
      refine z_if_eqB C 53 dX11_readProduct_28 rfl (fun _ => ?_) (fun _ => ?_)
      · exact z_jump (ls1 := [(0, .ref (B + v0))]) (Nat.le_of_ble_eq_true rfl) [0] rfl (z_fX11_readProduct_b31 C ht hr lv h10 rs hrs N k4 v0 M h0 hk4)
      · exact z_vret C hr (Nat.le_of_ble_eq_true rfl) dX11_readProduct_53 rfl
theorem z_fX11_readProduct_l4_i {p : Program} {l : Launch} {e : Env} {s : State} {m : MethodId} {args : Array Value} {below : List Frame} {meth : Method} {c : Code} {D : va_G} {cy : Nat → ClassId} {B : Nat} {kd : Nat → Nat} {n : Nat} {sa sv : Nat → Nat} (C : zC p l s m args meth c D cy B kd n sa sv RX11 cX11_readProduct 2) (ht : ∀ x ∈ c.exceptionTable.toList, False) (hr : meth.sig.returnType = none) {b0 : Mem} (lv : Nat) (h10 : 10 ≤ lv) (rs : Nat → Mem → Option Mem) (hrs : ∀ (v0 : Nat) (M : Mem), kd v0 = 11 → CT l D cy B kd n sa sv lv 0 yX11_readSum cX11_readSum 2 none cvV [.ref (B + v0)] M (rs v0 M)) (N : Nat) (v0 : Nat) (h0 : kd v0 = 11)  (fu : Nat) : ∀ (M : Mem), Z p l e (rmz (lv + 2) 0) s m args below meth c (vx_MQ below (QcR D cy B kd n (cvV b0)) (XcR D cy B kd n (cvV b0)) args s 0 (6 * 0) (AA B kd n)) D cy B kd n 2 b0 0 4 [(0, .ref (B + v0))] [] M (fX11_readProduct_l4 rs N v0 fu M) := by
  induction fu with
  | zero => intro M; exact z_none
  | succ fu ih => intro M; exact z_fX11_readProduct_l4_s C ht hr lv h10 rs hrs N v0 (fX11_readProduct_l4 rs N v0 fu) M h0 (fun M => ih M)
theorem z_fX11_readProduct_l4 {p : Program} {l : Launch} {e : Env} {s : State} {m : MethodId} {args : Array Value} {below : List Frame} {meth : Method} {c : Code} {D : va_G} {cy : Nat → ClassId} {B : Nat} {kd : Nat → Nat} {n : Nat} {sa sv : Nat → Nat} (C : zC p l s m args meth c D cy B kd n sa sv RX11 cX11_readProduct 2) (ht : ∀ x ∈ c.exceptionTable.toList, False) (hr : meth.sig.returnType = none) {b0 : Mem} (lv : Nat) (h10 : 10 ≤ lv) (rs : Nat → Mem → Option Mem) (hrs : ∀ (v0 : Nat) (M : Mem), kd v0 = 11 → CT l D cy B kd n sa sv lv 0 yX11_readSum cX11_readSum 2 none cvV [.ref (B + v0)] M (rs v0 M)) (N : Nat) (v0 : Nat) (fu : Nat) (M : Mem) (h0 : kd v0 = 11)  : Z p l e (rmz (lv + 2) 0) s m args below meth c (vx_MQ below (QcR D cy B kd n (cvV b0)) (XcR D cy B kd n (cvV b0)) args s 0 (6 * 0) (AA B kd n)) D cy B kd n 2 b0 0 4 [(0, .ref (B + v0))] [] M (fX11_readProduct_l4 rs N v0 fu M) := z_fX11_readProduct_l4_i C ht hr lv h10 rs hrs N v0 h0 fu M
set_option maxHeartbeats 4000000 in
set_option maxRecDepth 100000 in
theorem ctX11_readProduct {l : Launch} {D : va_G} {cy : Nat → ClassId} {B : Nat} {kd : Nat → Nat} {n : Nat} {sa sv : Nat → Nat} (G : zG l kd n) (lv : Nat) (h10 : 10 ≤ lv) (rs : Nat → Mem → Option Mem) (hrs : ∀ (v0 : Nat) (M : Mem), kd v0 = 11 → CT l D cy B kd n sa sv lv 0 yX11_readSum cX11_readSum 2 none cvV [.ref (B + v0)] M (rs v0 M)) (N : Nat) (v0 : Nat) (h0 : kd v0 = 11) (M : Mem) : CT l D cy B kd n sa sv (lv + 2) 0 yX11_readProduct cX11_readProduct 2 (none) cvV [.ref (B + v0)] M (fX11_readProduct rs N v0 M) := by
  refine ct_of (by decide) G.1 G.2 (Nat.le_of_ble_eq_true rfl) (ls := [(0, .ref (B + v0))]) rfl ?_
  intro p e s m args below meth c b0 C ht hr
  unfold fX11_readProduct
  refine z_aload_n C 0 0 dX11_readProduct_0 rfl rfl ?_
  refine z_callV_V (As := []) (rest := []) C rfl (ctX11_readUnit (zG_of C) lv h10 rs hrs N v0 h0 M) cw_RX11_168 rfl (okM_X11_readUnit) rfl cl11 h0 (okR_l (by omega) (by decide) (Nat.le_of_ble_eq_true rfl)) (Nat.le_of_ble_eq_true rfl) dX11_readProduct_1 (fun qj1 _ => ?_)
  exact z_jump (ls1 := [(0, .ref (B + v0))]) (Nat.le_of_ble_eq_true rfl) [0] rfl (z_fX11_readProduct_l4 C ht hr lv h10 rs hrs N v0 N qj1 h0)
set_option maxHeartbeats 4000000 in
set_option maxRecDepth 100000 in
theorem z_fX11_readSum_b22 {p : Program} {l : Launch} {e : Env} {s : State} {m : MethodId} {args : Array Value} {below : List Frame} {meth : Method} {c : Code} {D : va_G} {cy : Nat → ClassId} {B : Nat} {kd : Nat → Nat} {n : Nat} {sa sv : Nat → Nat} (C : zC p l s m args meth c D cy B kd n sa sv RX11 cX11_readSum 2) (ht : ∀ x ∈ c.exceptionTable.toList, False) (hr : meth.sig.returnType = none) {b0 : Mem} (lv : Nat) (h10 : 10 ≤ lv) (rs : Nat → Mem → Option Mem) (hrs : ∀ (v0 : Nat) (M : Mem), kd v0 = 11 → CT l D cy B kd n sa sv lv 0 yX11_readSum cX11_readSum 2 none cvV [.ref (B + v0)] M (rs v0 M))  (N : Nat) (k4 : Mem → Option Mem) (v0 : Nat) (M : Mem) (h0 : kd v0 = 11) (hk4 : ∀ (M : Mem), Z p l e (rmz (lv + 3) 0) s m args below meth c (vx_MQ below (QcR D cy B kd n (cvV b0)) (XcR D cy B kd n (cvV b0)) args s 0 (6 * 0) (AA B kd n)) D cy B kd n 2 b0 0 4 [(0, .ref (B + v0))] [] M (k4 M)) : Z p l e (rmz (lv + 3) 0) s m args below meth c (vx_MQ below (QcR D cy B kd n (cvV b0)) (XcR D cy B kd n (cvV b0)) args s 0 (6 * 0) (AA B kd n)) D cy B kd n 2 b0 0 22 [(0, .ref (B + v0))] [] M (fX11_readSumB_b22 rs N k4 v0 M) := by
  unfold fX11_readSumB_b22
  refine z_aload_n C 0 0 dX11_readSum_22 rfl rfl ?_
  refine z_getI (k := 12) C cl11 h0 rfl gw_7_22 rfl dX11_readSum_23 ?_
  refine z_istore_n C 1 (ls1 := [(1, .int (rI M v0 12)), (0, .ref (B + v0))]) dX11_readSum_26 rfl (by decide) rfl ?_
  refine z_aload_n C 0 1 dX11_readSum_27 rfl rfl ?_
  refine z_callV_V (As := []) (rest := []) C rfl (ctX11_reads (zG_of C) N v0 h0 M) cw_RX11_133 rfl (okM_X11_reads) rfl cl11 h0 (okR_l (by omega) (by decide) (Nat.le_of_ble_eq_true rfl)) (Nat.le_of_ble_eq_true rfl) dX11_readSum_28 (fun qj1 _ => ?_)
  refine z_aload_n C 0 1 dX11_readSum_31 rfl rfl ?_
  refine z_callV_V (As := []) (rest := []) C rfl (ctX11_readProduct (zG_of C) lv h10 rs hrs N v0 h0 qj1) cw_RX11_161 rfl (okM_X11_readProduct) rfl cl11 h0 (okR_l (by omega) (by decide) (Nat.le_of_ble_eq_true rfl)) (Nat.le_of_ble_eq_true rfl) dX11_readSum_32 (fun qj2 _ => ?_)
  refine z_aload_n C 0 1 dX11_readSum_35 rfl rfl ?_
  refine z_iload_n C 1 0 dX11_readSum_36 rfl rfl ?_
  refine z_iconst C dX11_readSum_37 rfl ?_
  refine z_callV_V (As := [.int (rI M v0 12), .int (0 : Int32)]) (rest := []) C rfl (ctX11_code (zG_of C) v0 (rI M v0 12) (0 : Int32) h0 qj2) cw_RX11_164 rfl (okM_X11_code) rfl cl11 h0 (okR_l (by omega) (by decide) (Nat.le_of_ble_eq_true rfl)) (Nat.le_of_ble_eq_true rfl) dX11_readSum_38 (fun qj3 _ => ?_)
  refine z_goto C 4 dX11_readSum_41 rfl ?_
  exact z_jump (ls1 := [(0, .ref (B + v0))]) (Nat.le_of_ble_eq_true rfl) [1] rfl (hk4 qj3)
set_option maxHeartbeats 4000000 in
set_option maxRecDepth 100000 in
theorem z_fX11_readSum_l4_s {p : Program} {l : Launch} {e : Env} {s : State} {m : MethodId} {args : Array Value} {below : List Frame} {meth : Method} {c : Code} {D : va_G} {cy : Nat → ClassId} {B : Nat} {kd : Nat → Nat} {n : Nat} {sa sv : Nat → Nat} (C : zC p l s m args meth c D cy B kd n sa sv RX11 cX11_readSum 2) (ht : ∀ x ∈ c.exceptionTable.toList, False) (hr : meth.sig.returnType = none) {b0 : Mem} (lv : Nat) (h10 : 10 ≤ lv) (rs : Nat → Mem → Option Mem) (hrs : ∀ (v0 : Nat) (M : Mem), kd v0 = 11 → CT l D cy B kd n sa sv lv 0 yX11_readSum cX11_readSum 2 none cvV [.ref (B + v0)] M (rs v0 M)) (N : Nat) (v0 : Nat) (k4 : Mem → Option Mem) (M : Mem) (h0 : kd v0 = 11)  (hk4 : ∀ (M : Mem), Z p l e (rmz (lv + 3) 0) s m args below meth c (vx_MQ below (QcR D cy B kd n (cvV b0)) (XcR D cy B kd n (cvV b0)) args s 0 (6 * 0) (AA B kd n)) D cy B kd n 2 b0 0 4 [(0, .ref (B + v0))] [] M (k4 M)) : Z p l e (rmz (lv + 3) 0) s m args below meth c (vx_MQ below (QcR D cy B kd n (cvV b0)) (XcR D cy B kd n (cvV b0)) args s 0 (6 * 0) (AA B kd n)) D cy B kd n 2 b0 0 4 [(0, .ref (B + v0))] [] M (fX11_readSumB_l4_s rs N v0 k4 M) := by
  unfold fX11_readSumB_l4_s
  refine z_aload_n C 0 0 dX11_readSum_4 rfl rfl ?_
  refine z_bipush (v := 43) C dX11_readSum_5 rfl ?_
  refine z_callV_pB (As := [.int (43 : Int32)]) (rest := []) C rfl (ctX11_isSign (zG_of C) v0 (43 : Int32) h0 M) cw_RX11_130 rfl (okM_X11_isSign) rfl cl11 h0 (okR_l (by omega) (by decide) (Nat.le_of_ble_eq_true rfl)) (Nat.le_of_ble_eq_true rfl) dX11_readSum_7 (fun qj1 _ => ?_)
  refine z_if_neB C 22 dX11_readSum_10 rfl (fun _ => ?_) (fun _ => ?_)
  · exact z_jump (ls1 := [(0, .ref (B + v0))]) (Nat.le_of_ble_eq_true rfl) [0] rfl (z_fX11_readSum_b22 C ht hr lv h10 rs hrs N k4 v0 M h0 hk4)
  · refine z_aload_n C 0 0 dX11_readSum_13 rfl rfl ?_
    refine z_bipush (v := 45) C dX11_readSum_14 rfl ?_
    refine z_callV_pB (As := [.int (45 : Int32)]) (rest := []) C rfl (ctX11_isSign (zG_of C) v0 (45 : Int32) h0 M) cw_RX11_130 rfl (okM_X11_isSign) rfl cl11 h0 (okR_l (by omega) (by decide) (Nat.le_of_ble_eq_true rfl)) (Nat.le_of_ble_eq_true rfl) dX11_readSum_16 (fun qj2 _ => ?_)
    refine z_if_eqB C 44 dX11_readSum_19 rfl (fun _ => ?_) (fun _ => ?_)
    · exact z_jump (ls1 := [(0, .ref (B + v0))]) (Nat.le_of_ble_eq_true rfl) [0] rfl (z_fX11_readSum_b22 C ht hr lv h10 rs hrs N k4 v0 M h0 hk4)
    · exact z_vret C hr (Nat.le_of_ble_eq_true rfl) dX11_readSum_44 rfl
theorem z_fX11_readSum_l4_i {p : Program} {l : Launch} {e : Env} {s : State} {m : MethodId} {args : Array Value} {below : List Frame} {meth : Method} {c : Code} {D : va_G} {cy : Nat → ClassId} {B : Nat} {kd : Nat → Nat} {n : Nat} {sa sv : Nat → Nat} (C : zC p l s m args meth c D cy B kd n sa sv RX11 cX11_readSum 2) (ht : ∀ x ∈ c.exceptionTable.toList, False) (hr : meth.sig.returnType = none) {b0 : Mem} (lv : Nat) (h10 : 10 ≤ lv) (rs : Nat → Mem → Option Mem) (hrs : ∀ (v0 : Nat) (M : Mem), kd v0 = 11 → CT l D cy B kd n sa sv lv 0 yX11_readSum cX11_readSum 2 none cvV [.ref (B + v0)] M (rs v0 M)) (N : Nat) (v0 : Nat) (h0 : kd v0 = 11)  (fu : Nat) : ∀ (M : Mem), Z p l e (rmz (lv + 3) 0) s m args below meth c (vx_MQ below (QcR D cy B kd n (cvV b0)) (XcR D cy B kd n (cvV b0)) args s 0 (6 * 0) (AA B kd n)) D cy B kd n 2 b0 0 4 [(0, .ref (B + v0))] [] M (fX11_readSumB_l4 rs N v0 fu M) := by
  induction fu with
  | zero => intro M; exact z_none
  | succ fu ih => intro M; exact z_fX11_readSum_l4_s C ht hr lv h10 rs hrs N v0 (fX11_readSumB_l4 rs N v0 fu) M h0 (fun M => ih M)
theorem z_fX11_readSum_l4 {p : Program} {l : Launch} {e : Env} {s : State} {m : MethodId} {args : Array Value} {below : List Frame} {meth : Method} {c : Code} {D : va_G} {cy : Nat → ClassId} {B : Nat} {kd : Nat → Nat} {n : Nat} {sa sv : Nat → Nat} (C : zC p l s m args meth c D cy B kd n sa sv RX11 cX11_readSum 2) (ht : ∀ x ∈ c.exceptionTable.toList, False) (hr : meth.sig.returnType = none) {b0 : Mem} (lv : Nat) (h10 : 10 ≤ lv) (rs : Nat → Mem → Option Mem) (hrs : ∀ (v0 : Nat) (M : Mem), kd v0 = 11 → CT l D cy B kd n sa sv lv 0 yX11_readSum cX11_readSum 2 none cvV [.ref (B + v0)] M (rs v0 M)) (N : Nat) (v0 : Nat) (fu : Nat) (M : Mem) (h0 : kd v0 = 11)  : Z p l e (rmz (lv + 3) 0) s m args below meth c (vx_MQ below (QcR D cy B kd n (cvV b0)) (XcR D cy B kd n (cvV b0)) args s 0 (6 * 0) (AA B kd n)) D cy B kd n 2 b0 0 4 [(0, .ref (B + v0))] [] M (fX11_readSumB_l4 rs N v0 fu M) := z_fX11_readSum_l4_i C ht hr lv h10 rs hrs N v0 h0 fu M
set_option maxHeartbeats 4000000 in
set_option maxRecDepth 100000 in
theorem ctX11_readSumB {l : Launch} {D : va_G} {cy : Nat → ClassId} {B : Nat} {kd : Nat → Nat} {n : Nat} {sa sv : Nat → Nat} (G : zG l kd n) (lv : Nat) (h10 : 10 ≤ lv) (rs : Nat → Mem → Option Mem) (hrs : ∀ (v0 : Nat) (M : Mem), kd v0 = 11 → CT l D cy B kd n sa sv lv 0 yX11_readSum cX11_readSum 2 none cvV [.ref (B + v0)] M (rs v0 M)) (N : Nat) (v0 : Nat) (h0 : kd v0 = 11) (M : Mem) : CT l D cy B kd n sa sv (lv + 3) 0 yX11_readSum cX11_readSum 2 (none) cvV [.ref (B + v0)] M (fX11_readSumB rs N v0 M) := by
  refine ct_of (by decide) G.1 G.2 (Nat.le_of_ble_eq_true rfl) (ls := [(0, .ref (B + v0))]) rfl ?_
  intro p e s m args below meth c b0 C ht hr
  unfold fX11_readSumB
  refine z_aload_n C 0 0 dX11_readSum_0 rfl rfl ?_
  refine z_callV_V (As := []) (rest := []) C rfl (ctX11_readProduct (zG_of C) lv h10 rs hrs N v0 h0 M) cw_RX11_161 rfl (okM_X11_readProduct) rfl cl11 h0 (okR_l (by omega) (by decide) (Nat.le_of_ble_eq_true rfl)) (Nat.le_of_ble_eq_true rfl) dX11_readSum_1 (fun qj1 _ => ?_)
  exact z_jump (ls1 := [(0, .ref (B + v0))]) (Nat.le_of_ble_eq_true rfl) [0] rfl (z_fX11_readSum_l4 C ht hr lv h10 rs hrs N v0 N qj1 h0)
theorem ctX11_readSumD {l : Launch} {D : va_G} {cy : Nat → ClassId} {B : Nat} {kd : Nat → Nat} {n : Nat} {sa sv : Nat → Nat} (G : zG l kd n) (N : Nat) : ∀ (d v0 : Nat) (M : Mem), kd v0 = 11 → CT l D cy B kd n sa sv (10 + 3 * d) 0 yX11_readSum cX11_readSum 2 none cvV [.ref (B + v0)] M (fX11_readSumD N d v0 M)
  | 0, v0, M, _ => fun b hb => by cases hb
  | d + 1, v0, M, h0 => ctX11_readSumB G (10 + 3 * d) (by omega) (fX11_readSumD N d) (fun v0 M h => ctX11_readSumD G N d v0 M h) N v0 h0 M
theorem ctX11_readSum {l : Launch} {D : va_G} {cy : Nat → ClassId} {B : Nat} {kd : Nat → Nat} {n : Nat} {sa sv : Nat → Nat} (G : zG l kd n) (N : Nat) (v0 : Nat) (h0 : kd v0 = 11) (M : Mem) : CT l D cy B kd n sa sv 34 0 yX11_readSum cX11_readSum 2 none cvV [.ref (B + v0)] M (fX11_readSum N v0 M) := ctX11_readSumD G N 8 v0 M h0
set_option maxHeartbeats 4000000 in
set_option maxRecDepth 100000 in
theorem ctX11_readFor {l : Launch} {D : va_G} {cy : Nat → ClassId} {B : Nat} {kd : Nat → Nat} {n : Nat} {sa sv : Nat → Nat} (G : zG l kd n) (N : Nat) (v0 : Nat) (v1 : Int32) (h0 : kd v0 = 11) (M : Mem) : CT l D cy B kd n sa sv 35 0 yX11_readFor cX11_readFor 3 (none) cvV [.ref (B + v0), .int v1] M (fX11_readFor N v0 v1 M) := by
  refine ct_of (by decide) G.1 G.2 (Nat.le_of_ble_eq_true rfl) (ls := [(0, .ref (B + v0)), (1, .int v1)]) rfl ?_
  intro p e s m args below meth c b0 C ht hr
  unfold fX11_readFor
  refine z_aload_n C 0 0 dX11_readFor_0 rfl rfl ?_
  refine z_getI (k := 14) C cl11 h0 rfl gw_7_24 rfl dX11_readFor_1 ?_
  refine z_if_eq C 8 dX11_readFor_4 rfl (fun _ => ?_) (fun _ => ?_)
  · refine z_aload_n C 0 0 dX11_readFor_8 rfl rfl ?_
    refine z_callV_V (As := []) (rest := []) C rfl (ctX11_reads (zG_of C) N v0 h0 M) cw_RX11_133 rfl (okM_X11_reads) rfl cl11 h0 (okR_of rfl) (Nat.le_of_ble_eq_true rfl) dX11_readFor_9 (fun qj1 _ => ?_)
    refine z_aload_n C 0 0 dX11_readFor_12 rfl rfl ?_
    refine z_getR (k := 1) C cl11 h0 rfl gw_7_11 rfl dX11_readFor_13 ?_
    have j2 : kd (v0 + 2) = 36 := zkd C h0 (k := 1) rfl
    refine z_bipush (v := 18) C dX11_readFor_16 rfl ?_
    refine z_iald C j2 rfl (by decide) dX11_readFor_18 (fun j3 => ?_)
    refine z_istore_n C 2 (ls1 := [(2, .int (rI qj1 (v0 + 2) (18 : Int32).toNatClampNeg)), (0, .ref (B + v0)), (1, .int v1)]) dX11_readFor_19 rfl (by decide) rfl ?_
    refine z_aload_n C 0 1 dX11_readFor_20 rfl rfl ?_
    refine z_callV_V (As := []) (rest := []) C rfl (ctX11_readSum (zG_of C) N v0 h0 qj1) cw_RX11_174 rfl (okM_X11_readSum) rfl cl11 h0 (okR_of rfl) (Nat.le_of_ble_eq_true rfl) dX11_readFor_21 (fun qj4 _ => ?_)
    refine z_aload_n C 0 1 dX11_readFor_24 rfl rfl ?_
    refine z_getI (k := 14) C cl11 h0 rfl gw_7_24 rfl dX11_readFor_25 ?_
    refine z_if_eq C 32 dX11_readFor_28 rfl (fun _ => ?_) (fun _ => ?_)
    · refine z_aload_n C 0 1 dX11_readFor_32 rfl rfl ?_
      refine z_getR (k := 1) C cl11 h0 rfl gw_7_11 rfl dX11_readFor_33 ?_
      have j5 : kd (v0 + 2) = 36 := zkd C h0 (k := 1) rfl
      refine z_iconst C dX11_readFor_36 rfl ?_
      refine z_iconst C dX11_readFor_37 rfl ?_
      refine z_iload_n C 1 2 dX11_readFor_38 rfl rfl ?_
      refine z_imul C dX11_readFor_39 ?_
      refine z_iadd C dX11_readFor_40 ?_
      refine z_iload_n C 2 0 dX11_readFor_41 rfl rfl ?_
      refine z_iast C j5 rfl (by decide) dX11_readFor_42 (fun _ => ?_)
      refine z_aload_n C 0 1 dX11_readFor_43 rfl rfl ?_
      refine z_getR (k := 1) C cl11 h0 rfl gw_7_11 rfl dX11_readFor_44 ?_
      have j6 : kd (v0 + 2) = 36 := zkd C h0 (k := 1) rfl
      refine z_iconst C dX11_readFor_47 rfl ?_
      refine z_iconst C dX11_readFor_48 rfl ?_
      refine z_iload_n C 1 2 dX11_readFor_49 rfl rfl ?_
      refine z_imul C dX11_readFor_50 ?_
      refine z_iadd C dX11_readFor_51 ?_
      refine z_iconst C dX11_readFor_52 rfl ?_
      refine z_iadd C dX11_readFor_53 ?_
      refine z_aload_n C 0 1 dX11_readFor_54 rfl rfl ?_
      refine z_getR (k := 1) C cl11 h0 rfl gw_7_11 rfl dX11_readFor_55 ?_
      have j7 : kd (v0 + 2) = 36 := zkd C h0 (k := 1) rfl
      refine z_bipush (v := 18) C dX11_readFor_58 rfl ?_
      refine z_iald C j7 rfl (by decide) dX11_readFor_60 (fun j8 => ?_)
      refine z_iast C j6 rfl (by decide) dX11_readFor_61 (fun _ => ?_)
      refine z_iload_n C 1 2 dX11_readFor_62 rfl rfl ?_
      refine z_bipush (v := 6) C dX11_readFor_63 rfl ?_
      refine z_icmp_ge C 78 dX11_readFor_65 rfl (fun _ => ?_) (fun _ => ?_)
      · exact z_vret C hr (Nat.le_of_ble_eq_true rfl) dX11_readFor_78 rfl
      · refine z_aload_n C 0 1 dX11_readFor_68 rfl rfl ?_
        refine z_getR (k := 1) C cl11 h0 rfl gw_7_11 rfl dX11_readFor_69 ?_
        have j9 : kd (v0 + 2) = 36 := zkd C h0 (k := 1) rfl
        refine z_iconst C dX11_readFor_72 rfl ?_
        refine z_dup2 C dX11_readFor_73 rfl rfl ?_
        refine z_iald C j9 rfl (by decide) dX11_readFor_74 (fun j10 => ?_)
        refine z_iconst C dX11_readFor_75 rfl ?_
        refine z_iadd C dX11_readFor_76 ?_
        refine z_iast C j9 rfl (by decide) dX11_readFor_77 (fun _ => ?_)
        exact z_vret C hr (Nat.le_of_ble_eq_true rfl) dX11_readFor_78 rfl
    · exact z_vret C hr (Nat.le_of_ble_eq_true rfl) dX11_readFor_31 rfl
  · exact z_vret C hr (Nat.le_of_ble_eq_true rfl) dX11_readFor_7 rfl
set_option maxHeartbeats 4000000 in
set_option maxRecDepth 100000 in
theorem z_fX11_readLine_b126 {p : Program} {l : Launch} {e : Env} {s : State} {m : MethodId} {args : Array Value} {below : List Frame} {meth : Method} {c : Code} {D : va_G} {cy : Nat → ClassId} {B : Nat} {kd : Nat → Nat} {n : Nat} {sa sv : Nat → Nat} (C : zC p l s m args meth c D cy B kd n sa sv RX11 cX11_readLine 1) (ht : ∀ x ∈ c.exceptionTable.toList, False) (hr : meth.sig.returnType = none) {b0 : Mem}  (N : Nat) (v0 : Nat) (M : Mem) (h0 : kd v0 = 11)  : Z p l e (rmz 36 0) s m args below meth c (vx_MQ below (QcR D cy B kd n (cvV b0)) (XcR D cy B kd n (cvV b0)) args s 0 (6 * 0) (AA B kd n)) D cy B kd n 1 b0 0 126 [(0, .ref (B + v0))] [] M (fX11_readLine_b126 N v0 M) := by
  unfold fX11_readLine_b126
  refine z_aload_n C 0 0 dX11_readLine_126 rfl rfl ?_
  refine z_getI (k := 14) C cl11 h0 rfl gw_7_24 rfl dX11_readLine_127 ?_
  refine z_if_ne C 143 dX11_readLine_130 rfl (fun _ => ?_) (fun _ => ?_)
  · refine z_aload_n C 0 0 dX11_readLine_133 rfl rfl ?_
    refine z_getR (k := 1) C cl11 h0 rfl gw_7_11 rfl dX11_readLine_134 ?_
    have j1 : kd (v0 + 2) = 36 := zkd C h0 (k := 1) rfl
    refine z_iconst C dX11_readLine_137 rfl ?_
    refine z_dup2 C dX11_readLine_138 rfl rfl ?_
    refine z_iald C j1 rfl (by decide) dX11_readLine_139 (fun j2 => ?_)
    refine z_iconst C dX11_readLine_140 rfl ?_
    refine z_iadd C dX11_readLine_141 ?_
    refine z_iast C j1 rfl (by decide) dX11_readLine_142 (fun _ => ?_)
    exact z_vret C hr (Nat.le_of_ble_eq_true rfl) dX11_readLine_143 rfl
  · exact z_vret C hr (Nat.le_of_ble_eq_true rfl) dX11_readLine_143 rfl
set_option maxHeartbeats 4000000 in
set_option maxRecDepth 100000 in
theorem z_fX11_readLine_b112 {p : Program} {l : Launch} {e : Env} {s : State} {m : MethodId} {args : Array Value} {below : List Frame} {meth : Method} {c : Code} {D : va_G} {cy : Nat → ClassId} {B : Nat} {kd : Nat → Nat} {n : Nat} {sa sv : Nat → Nat} (C : zC p l s m args meth c D cy B kd n sa sv RX11 cX11_readLine 1) (ht : ∀ x ∈ c.exceptionTable.toList, False) (hr : meth.sig.returnType = none) {b0 : Mem}  (N : Nat) (v0 : Nat) (M : Mem) (h0 : kd v0 = 11)  : Z p l e (rmz 36 0) s m args below meth c (vx_MQ below (QcR D cy B kd n (cvV b0)) (XcR D cy B kd n (cvV b0)) args s 0 (6 * 0) (AA B kd n)) D cy B kd n 1 b0 0 112 [(0, .ref (B + v0))] [] M (fX11_readLine_b112 N v0 M) := by
  unfold fX11_readLine_b112
  refine z_aload_n C 0 0 dX11_readLine_112 rfl rfl ?_
  refine z_bipush (v := 59) C dX11_readLine_113 rfl ?_
  refine z_callV_B (As := [.int (59 : Int32)]) (rest := []) C rfl (ctX11_tookSign (zG_of C) N v0 (59 : Int32) h0 M) cw_RX11_177 rfl (okM_X11_tookSign) rfl cl11 h0 (okR_of rfl) (Nat.le_of_ble_eq_true rfl) dX11_readLine_115 (fun qj1 _ => ?_)
  refine z_if_neB C 126 dX11_readLine_118 rfl (fun _ => ?_) (fun _ => ?_)
  · exact z_jump (ls1 := [(0, .ref (B + v0))]) (Nat.le_of_ble_eq_true rfl) [0] rfl (z_fX11_readLine_b126 C ht hr N v0 qj1.2 h0)
  · refine z_aload_n C 0 0 dX11_readLine_121 rfl rfl ?_
    refine z_iconst C dX11_readLine_122 rfl ?_
    refine z_callV_V (As := [.int (2 : Int32)]) (rest := []) C rfl (ctX11_blames (zG_of C) v0 (2 : Int32) h0 qj1.2) cw_RX11_153 rfl (okM_X11_blames) rfl cl11 h0 (okR_of rfl) (Nat.le_of_ble_eq_true rfl) dX11_readLine_123 (fun qj2 _ => ?_)
    exact z_jump (ls1 := [(0, .ref (B + v0))]) (Nat.le_of_ble_eq_true rfl) [0] rfl (z_fX11_readLine_b126 C ht hr N v0 qj2 h0)
set_option maxHeartbeats 4000000 in
set_option maxRecDepth 100000 in
theorem z_fX11_readLine_b76 {p : Program} {l : Launch} {e : Env} {s : State} {m : MethodId} {args : Array Value} {below : List Frame} {meth : Method} {c : Code} {D : va_G} {cy : Nat → ClassId} {B : Nat} {kd : Nat → Nat} {n : Nat} {sa sv : Nat → Nat} (C : zC p l s m args meth c D cy B kd n sa sv RX11 cX11_readLine 1) (ht : ∀ x ∈ c.exceptionTable.toList, False) (hr : meth.sig.returnType = none) {b0 : Mem}  (N : Nat) (v0 : Nat) (M : Mem) (h0 : kd v0 = 11)  : Z p l e (rmz 36 0) s m args below meth c (vx_MQ below (QcR D cy B kd n (cvV b0)) (XcR D cy B kd n (cvV b0)) args s 0 (6 * 0) (AA B kd n)) D cy B kd n 1 b0 0 76 [(0, .ref (B + v0))] [] M (fX11_readLine_b76 N v0 M) := by
  unfold fX11_readLine_b76
  refine z_aload_n C 0 0 dX11_readLine_76 rfl rfl ?_
  refine z_aload_n C 0 0 dX11_readLine_77 rfl rfl ?_
  refine z_getR (k := 1) C cl11 h0 rfl gw_7_11 rfl dX11_readLine_78 ?_
  have j1 : kd (v0 + 2) = 36 := zkd C h0 (k := 1) rfl
  refine z_iconst C dX11_readLine_81 rfl ?_
  refine z_iald C j1 rfl (by decide) dX11_readLine_82 (fun j2 => ?_)
  refine z_callV_V (As := [.int (rI M (v0 + 2) (3 : Int32).toNatClampNeg)]) (rest := []) C rfl (ctX11_readFor (zG_of C) N v0 (rI M (v0 + 2) (3 : Int32).toNatClampNeg) h0 M) cw_RX11_196 rfl (okM_X11_readFor) rfl cl11 h0 (okR_of rfl) (Nat.le_of_ble_eq_true rfl) dX11_readLine_83 (fun qj3 _ => ?_)
  refine z_goto C 112 dX11_readLine_86 rfl ?_
  exact z_jump (ls1 := [(0, .ref (B + v0))]) (Nat.le_of_ble_eq_true rfl) [0] rfl (z_fX11_readLine_b112 C ht hr N v0 qj3 h0)
set_option maxHeartbeats 4000000 in
set_option maxRecDepth 100000 in
theorem ctX11_readLine {l : Launch} {D : va_G} {cy : Nat → ClassId} {B : Nat} {kd : Nat → Nat} {n : Nat} {sa sv : Nat → Nat} (G : zG l kd n) (N : Nat) (v0 : Nat) (h0 : kd v0 = 11) (M : Mem) : CT l D cy B kd n sa sv 36 0 yX11_readLine cX11_readLine 1 (none) cvV [.ref (B + v0)] M (fX11_readLine N v0 M) := by
  refine ct_of (by decide) G.1 G.2 (Nat.le_of_ble_eq_true rfl) (ls := [(0, .ref (B + v0))]) rfl ?_
  intro p e s m args below meth c b0 C ht hr
  unfold fX11_readLine
  refine z_aload_n C 0 0 dX11_readLine_0 rfl rfl ?_
  refine z_ldcS (i := 34) C dX11_readLine_1 rfl ?_
  refine z_callV_B (As := [.ref (sa 34)]) (rest := []) C rfl (ctX11_took (zG_of C) N v0 34 h0 (by decide) M) cw_RX11_182 rfl (okM_X11_took) rfl cl11 h0 (okR_of rfl) (Nat.le_of_ble_eq_true rfl) dX11_readLine_3 (fun qj1 _ => ?_)
  refine z_if_eqB C 26 dX11_readLine_6 rfl (fun _ => ?_) (fun _ => ?_)
  · refine z_aload_n C 0 0 dX11_readLine_9 rfl rfl ?_
    refine z_getR (k := 1) C cl11 h0 rfl gw_7_11 rfl dX11_readLine_10 ?_
    have j2 : kd (v0 + 2) = 36 := zkd C h0 (k := 1) rfl
    refine z_iconst C dX11_readLine_13 rfl ?_
    refine z_aload_n C 0 0 dX11_readLine_14 rfl rfl ?_
    refine z_iconst C dX11_readLine_15 rfl ?_
    refine z_sipush (v := 256) C dX11_readLine_16 rfl ?_
    refine z_callV_I (As := [.int (2 : Int32), .int (256 : Int32)]) (rest := [.int (1 : Int32), .ref (B + (v0 + 2))]) C rfl (ctX11_number (zG_of C) N v0 (2 : Int32) (256 : Int32) h0 qj1.2) cw_RX11_188 rfl (okM_X11_number) rfl cl11 h0 (okR_of rfl) (Nat.le_of_ble_eq_true rfl) dX11_readLine_19 (fun qj3 _ => ?_)
    refine z_iast C j2 rfl (by decide) dX11_readLine_22 (fun _ => ?_)
    refine z_goto C 112 dX11_readLine_23 rfl ?_
    exact z_jump (ls1 := [(0, .ref (B + v0))]) (Nat.le_of_ble_eq_true rfl) [0] rfl (z_fX11_readLine_b112 C ht hr N v0 (wI qj3.2 (v0 + 2) ((1 : Int32).toNatClampNeg) qj3.1) h0)
  · refine z_aload_n C 0 0 dX11_readLine_26 rfl rfl ?_
    refine z_ldcS (i := 35) C dX11_readLine_27 rfl ?_
    refine z_callV_B (As := [.ref (sa 35)]) (rest := []) C rfl (ctX11_took (zG_of C) N v0 35 h0 (by decide) qj1.2) cw_RX11_182 rfl (okM_X11_took) rfl cl11 h0 (okR_of rfl) (Nat.le_of_ble_eq_true rfl) dX11_readLine_29 (fun qj4 _ => ?_)
    refine z_if_eqB C 51 dX11_readLine_32 rfl (fun _ => ?_) (fun _ => ?_)
    · refine z_aload_n C 0 0 dX11_readLine_35 rfl rfl ?_
      refine z_getR (k := 1) C cl11 h0 rfl gw_7_11 rfl dX11_readLine_36 ?_
      have j5 : kd (v0 + 2) = 36 := zkd C h0 (k := 1) rfl
      refine z_iconst C dX11_readLine_39 rfl ?_
      refine z_aload_n C 0 0 dX11_readLine_40 rfl rfl ?_
      refine z_iconst C dX11_readLine_41 rfl ?_
      refine z_bipush (v := 64) C dX11_readLine_42 rfl ?_
      refine z_callV_I (As := [.int (2 : Int32), .int (64 : Int32)]) (rest := [.int (2 : Int32), .ref (B + (v0 + 2))]) C rfl (ctX11_number (zG_of C) N v0 (2 : Int32) (64 : Int32) h0 qj4.2) cw_RX11_188 rfl (okM_X11_number) rfl cl11 h0 (okR_of rfl) (Nat.le_of_ble_eq_true rfl) dX11_readLine_44 (fun qj6 _ => ?_)
      refine z_iast C j5 rfl (by decide) dX11_readLine_47 (fun _ => ?_)
      refine z_goto C 112 dX11_readLine_48 rfl ?_
      exact z_jump (ls1 := [(0, .ref (B + v0))]) (Nat.le_of_ble_eq_true rfl) [0] rfl (z_fX11_readLine_b112 C ht hr N v0 (wI qj6.2 (v0 + 2) ((2 : Int32).toNatClampNeg) qj6.1) h0)
    · refine z_aload_n C 0 0 dX11_readLine_51 rfl rfl ?_
      refine z_ldcS (i := 36) C dX11_readLine_52 rfl ?_
      refine z_callV_pB (As := [.ref (sa 36)]) (rest := []) C rfl (ctX11_isWord (zG_of C) N v0 36 h0 (by decide) qj4.2) cw_RX11_149 rfl (okM_X11_isWord) rfl cl11 h0 (okR_of rfl) (Nat.le_of_ble_eq_true rfl) dX11_readLine_54 (fun qj7 _ => ?_)
      refine z_if_eqB C 89 dX11_readLine_57 rfl (fun _ => ?_) (fun _ => ?_)
      · refine z_aload_n C 0 0 dX11_readLine_60 rfl rfl ?_
        refine z_getR (k := 1) C cl11 h0 rfl gw_7_11 rfl dX11_readLine_61 ?_
        have j8 : kd (v0 + 2) = 36 := zkd C h0 (k := 1) rfl
        refine z_iconst C dX11_readLine_64 rfl ?_
        refine z_iald C j8 rfl (by decide) dX11_readLine_65 (fun j9 => ?_)
        refine z_bipush (v := 6) C dX11_readLine_66 rfl ?_
        refine z_icmp_ne C 76 dX11_readLine_68 rfl (fun _ => ?_) (fun _ => ?_)
        · refine z_aload_n C 0 0 dX11_readLine_71 rfl rfl ?_
          refine z_iconst C dX11_readLine_72 rfl ?_
          refine z_callV_V (As := [.int (4 : Int32)]) (rest := []) C rfl (ctX11_blames (zG_of C) v0 (4 : Int32) h0 qj4.2) cw_RX11_153 rfl (okM_X11_blames) rfl cl11 h0 (okR_of rfl) (Nat.le_of_ble_eq_true rfl) dX11_readLine_73 (fun qj10 _ => ?_)
          exact z_jump (ls1 := [(0, .ref (B + v0))]) (Nat.le_of_ble_eq_true rfl) [0] rfl (z_fX11_readLine_b76 C ht hr N v0 qj10 h0)
        · exact z_jump (ls1 := [(0, .ref (B + v0))]) (Nat.le_of_ble_eq_true rfl) [0] rfl (z_fX11_readLine_b76 C ht hr N v0 qj4.2 h0)
      · refine z_aload_n C 0 0 dX11_readLine_89 rfl rfl ?_
        refine z_ldcS (i := 39) C dX11_readLine_90 rfl ?_
        refine z_callV_pB (As := [.ref (sa 39)]) (rest := []) C rfl (ctX11_isWord (zG_of C) N v0 39 h0 (by decide) qj4.2) cw_RX11_149 rfl (okM_X11_isWord) rfl cl11 h0 (okR_of rfl) (Nat.le_of_ble_eq_true rfl) dX11_readLine_92 (fun qj11 _ => ?_)
        refine z_if_eqB C 107 dX11_readLine_95 rfl (fun _ => ?_) (fun _ => ?_)
        · refine z_aload_n C 0 0 dX11_readLine_98 rfl rfl ?_
          refine z_bipush (v := 6) C dX11_readLine_99 rfl ?_
          refine z_callV_V (As := [.int (6 : Int32)]) (rest := []) C rfl (ctX11_readFor (zG_of C) N v0 (6 : Int32) h0 qj4.2) cw_RX11_196 rfl (okM_X11_readFor) rfl cl11 h0 (okR_of rfl) (Nat.le_of_ble_eq_true rfl) dX11_readLine_101 (fun qj12 _ => ?_)
          refine z_goto C 112 dX11_readLine_104 rfl ?_
          exact z_jump (ls1 := [(0, .ref (B + v0))]) (Nat.le_of_ble_eq_true rfl) [0] rfl (z_fX11_readLine_b112 C ht hr N v0 qj12 h0)
        · refine z_aload_n C 0 0 dX11_readLine_107 rfl rfl ?_
          refine z_iconst C dX11_readLine_108 rfl ?_
          refine z_callV_V (As := [.int (2 : Int32)]) (rest := []) C rfl (ctX11_blames (zG_of C) v0 (2 : Int32) h0 qj4.2) cw_RX11_153 rfl (okM_X11_blames) rfl cl11 h0 (okR_of rfl) (Nat.le_of_ble_eq_true rfl) dX11_readLine_109 (fun qj13 _ => ?_)
          exact z_jump (ls1 := [(0, .ref (B + v0))]) (Nat.le_of_ble_eq_true rfl) [0] rfl (z_fX11_readLine_b112 C ht hr N v0 qj13 h0)
set_option maxHeartbeats 4000000 in
set_option maxRecDepth 100000 in
theorem z_fX11_rules_l126_s {p : Program} {l : Launch} {e : Env} {s : State} {m : MethodId} {args : Array Value} {below : List Frame} {meth : Method} {c : Code} {D : va_G} {cy : Nat → ClassId} {B : Nat} {kd : Nat → Nat} {n : Nat} {sa sv : Nat → Nat} (C : zC p l s m args meth c D cy B kd n sa sv RX11 cX11_rules 3) (ht : ∀ x ∈ c.exceptionTable.toList, False) (hr : meth.sig.returnType = some (FieldType.int)) {b0 : Int32 × Mem} (N : Nat) (v0 : Nat) (k126 : Int32 → Mem → Option (Int32 × Mem)) (v2 : Int32) (M : Mem) (h0 : kd v0 = 11)  (hk126 : ∀ (v2 : Int32) (M : Mem), Z p l e (rmz 37 0) s m args below meth c (vx_MQ below (QcR D cy B kd n (cvI b0)) (XcR D cy B kd n (cvI b0)) args s 0 (6 * 0) (AA B kd n)) D cy B kd n 3 b0 0 126 [(0, .ref (B + v0)), (2, .int v2)] [] M (k126 v2 M)) : Z p l e (rmz 37 0) s m args below meth c (vx_MQ below (QcR D cy B kd n (cvI b0)) (XcR D cy B kd n (cvI b0)) args s 0 (6 * 0) (AA B kd n)) D cy B kd n 3 b0 0 126 [(0, .ref (B + v0)), (2, .int v2)] [] M (fX11_rules_l126_s N v0 k126 v2 M) := by
  unfold fX11_rules_l126_s
  refine z_iload_n C 2 1 dX11_rules_126 rfl rfl ?_
  refine z_sipush (v := 3268) C dX11_rules_127 rfl ?_
  refine z_icmp_ge C 151 dX11_rules_130 rfl (fun _ => ?_) (fun _ => ?_)
  · refine z_aload_n C 0 0 dX11_rules_151 rfl rfl ?_
    refine z_getR (k := 0) C cl11 h0 rfl gw_7_10 rfl dX11_rules_152 ?_
    have j1 : kd (v0 + 1) = 36 := zkd C h0 (k := 0) rfl
    refine z_iconst C dX11_rules_155 rfl ?_
    refine z_iald C j1 rfl (by decide) dX11_rules_156 (fun j2 => ?_)
    exact z_iret C hr (Nat.le_of_ble_eq_true rfl) dX11_rules_157 rfl
  · refine z_aload_n C 0 0 dX11_rules_133 rfl rfl ?_
    refine z_getR (k := 0) C cl11 h0 rfl gw_7_10 rfl dX11_rules_134 ?_
    have j3 : kd (v0 + 1) = 36 := zkd C h0 (k := 0) rfl
    refine z_iload_n C 2 1 dX11_rules_137 rfl rfl ?_
    refine z_aload_n C 0 0 dX11_rules_138 rfl rfl ?_
    refine z_getR (k := 1) C cl11 h0 rfl gw_7_11 rfl dX11_rules_139 ?_
    have j4 : kd (v0 + 2) = 36 := zkd C h0 (k := 1) rfl
    refine z_iload_n C 2 1 dX11_rules_142 rfl rfl ?_
    refine z_iald C j4 rfl (by decide) dX11_rules_143 (fun j5 => ?_)
    refine z_iast C j3 rfl (by decide) dX11_rules_144 (fun _ => ?_)
    refine z_iinc C 2 1 (v := v2) (v1 := (v2 + (1 : Int32))) (ls1 := [(2, .int (v2 + (1 : Int32))), (0, .ref (B + v0))]) dX11_rules_145 rfl rfl (by decide) rfl ?_
    refine z_goto C 126 dX11_rules_148 rfl ?_
    exact z_jump (ls1 := [(0, .ref (B + v0)), (2, .int (v2 + (1 : Int32)))]) (Nat.le_of_ble_eq_true rfl) [1, 0] rfl (hk126 (v2 + (1 : Int32)) (wI M (v0 + 1) v2.toNatClampNeg (rI M (v0 + 2) v2.toNatClampNeg)))
theorem z_fX11_rules_l126_i {p : Program} {l : Launch} {e : Env} {s : State} {m : MethodId} {args : Array Value} {below : List Frame} {meth : Method} {c : Code} {D : va_G} {cy : Nat → ClassId} {B : Nat} {kd : Nat → Nat} {n : Nat} {sa sv : Nat → Nat} (C : zC p l s m args meth c D cy B kd n sa sv RX11 cX11_rules 3) (ht : ∀ x ∈ c.exceptionTable.toList, False) (hr : meth.sig.returnType = some (FieldType.int)) {b0 : Int32 × Mem} (N : Nat) (v0 : Nat) (h0 : kd v0 = 11)  (fu : Nat) : ∀ (v2 : Int32) (M : Mem), Z p l e (rmz 37 0) s m args below meth c (vx_MQ below (QcR D cy B kd n (cvI b0)) (XcR D cy B kd n (cvI b0)) args s 0 (6 * 0) (AA B kd n)) D cy B kd n 3 b0 0 126 [(0, .ref (B + v0)), (2, .int v2)] [] M (fX11_rules_l126 N v0 fu v2 M) := by
  induction fu with
  | zero => intro v2 M; exact z_none
  | succ fu ih => intro v2 M; exact z_fX11_rules_l126_s C ht hr N v0 (fX11_rules_l126 N v0 fu) v2 M h0 (fun v2 M => ih v2 M)
theorem z_fX11_rules_l126 {p : Program} {l : Launch} {e : Env} {s : State} {m : MethodId} {args : Array Value} {below : List Frame} {meth : Method} {c : Code} {D : va_G} {cy : Nat → ClassId} {B : Nat} {kd : Nat → Nat} {n : Nat} {sa sv : Nat → Nat} (C : zC p l s m args meth c D cy B kd n sa sv RX11 cX11_rules 3) (ht : ∀ x ∈ c.exceptionTable.toList, False) (hr : meth.sig.returnType = some (FieldType.int)) {b0 : Int32 × Mem} (N : Nat) (v0 : Nat) (fu : Nat) (v2 : Int32) (M : Mem) (h0 : kd v0 = 11)  : Z p l e (rmz 37 0) s m args below meth c (vx_MQ below (QcR D cy B kd n (cvI b0)) (XcR D cy B kd n (cvI b0)) args s 0 (6 * 0) (AA B kd n)) D cy B kd n 3 b0 0 126 [(0, .ref (B + v0)), (2, .int v2)] [] M (fX11_rules_l126 N v0 fu v2 M) := z_fX11_rules_l126_i C ht hr N v0 h0 fu v2 M
set_option maxHeartbeats 4000000 in
set_option maxRecDepth 100000 in
theorem z_fX11_rules_b106 {p : Program} {l : Launch} {e : Env} {s : State} {m : MethodId} {args : Array Value} {below : List Frame} {meth : Method} {c : Code} {D : va_G} {cy : Nat → ClassId} {B : Nat} {kd : Nat → Nat} {n : Nat} {sa sv : Nat → Nat} (C : zC p l s m args meth c D cy B kd n sa sv RX11 cX11_rules 3) (ht : ∀ x ∈ c.exceptionTable.toList, False) (hr : meth.sig.returnType = some (FieldType.int)) {b0 : Int32 × Mem}  (N : Nat) (v0 : Nat) (s0 : Int32) (s1 : Nat) (M : Mem) (h0 : kd v0 = 11) (hs1 : kd s1 = 11)  : Z p l e (rmz 37 0) s m args below meth c (vx_MQ below (QcR D cy B kd n (cvI b0)) (XcR D cy B kd n (cvI b0)) args s 0 (6 * 0) (AA B kd n)) D cy B kd n 3 b0 0 106 [(0, .ref (B + v0))] [.int s0, .ref (B + s1)] M (fX11_rules_b106 N v0 s0 s1 M) := by
  unfold fX11_rules_b106
  refine z_putI (k := 17) C cl11 hs1 rfl gw_7_27 rfl rfl rfl dX11_rules_106 ?_
  refine z_aload_n C 0 0 dX11_rules_109 rfl rfl ?_
  refine z_getI (k := 14) C cl11 h0 rfl gw_7_24 rfl dX11_rules_110 ?_
  refine z_if_eq C 124 dX11_rules_113 rfl (fun _ => ?_) (fun _ => ?_)
  · refine z_iconst C dX11_rules_124 rfl ?_
    refine z_istore_n C 2 (ls1 := [(2, .int (0 : Int32)), (0, .ref (B + v0))]) dX11_rules_125 rfl (by decide) rfl ?_
    exact z_jump (ls1 := [(0, .ref (B + v0)), (2, .int (0 : Int32))]) (Nat.le_of_ble_eq_true rfl) [1, 0] rfl (z_fX11_rules_l126 C ht hr N v0 N (0 : Int32) (wI M s1 17 s0) h0)
  · refine z_bipush (v := -10) C dX11_rules_116 rfl ?_
    refine z_aload_n C 0 0 dX11_rules_118 rfl rfl ?_
    refine z_getI (k := 14) C cl11 h0 rfl gw_7_24 rfl dX11_rules_119 ?_
    refine z_isub C dX11_rules_122 ?_
    exact z_iret C hr (Nat.le_of_ble_eq_true rfl) dX11_rules_123 rfl
set_option maxHeartbeats 4000000 in
set_option maxRecDepth 100000 in
theorem z_fX11_rules_b82 {p : Program} {l : Launch} {e : Env} {s : State} {m : MethodId} {args : Array Value} {below : List Frame} {meth : Method} {c : Code} {D : va_G} {cy : Nat → ClassId} {B : Nat} {kd : Nat → Nat} {n : Nat} {sa sv : Nat → Nat} (C : zC p l s m args meth c D cy B kd n sa sv RX11 cX11_rules 3) (ht : ∀ x ∈ c.exceptionTable.toList, False) (hr : meth.sig.returnType = some (FieldType.int)) {b0 : Int32 × Mem}  (N : Nat) (v0 : Nat) (M : Mem) (h0 : kd v0 = 11)  : Z p l e (rmz 37 0) s m args below meth c (vx_MQ below (QcR D cy B kd n (cvI b0)) (XcR D cy B kd n (cvI b0)) args s 0 (6 * 0) (AA B kd n)) D cy B kd n 3 b0 0 82 [(0, .ref (B + v0))] [] M (fX11_rules_b82 N v0 M) := by
  unfold fX11_rules_b82
  refine z_aload_n C 0 0 dX11_rules_82 rfl rfl ?_
  refine z_aload_n C 0 0 dX11_rules_83 rfl rfl ?_
  refine z_getI (k := 14) C cl11 h0 rfl gw_7_24 rfl dX11_rules_84 ?_
  refine z_putI (k := 16) C cl11 h0 rfl gw_7_26 rfl rfl rfl dX11_rules_87 ?_
  refine z_aload_n C 0 0 dX11_rules_90 rfl rfl ?_
  refine z_aload_n C 0 0 dX11_rules_91 rfl rfl ?_
  refine z_getI (k := 14) C cl11 h0 rfl gw_7_24 rfl dX11_rules_92 ?_
  refine z_if_ne C 102 dX11_rules_95 rfl (fun _ => ?_) (fun _ => ?_)
  · refine z_iconst C dX11_rules_98 rfl ?_
    refine z_goto C 106 dX11_rules_99 rfl ?_
    exact z_jump (ls1 := [(0, .ref (B + v0))]) (Nat.le_of_ble_eq_true rfl) [0] rfl (z_fX11_rules_b106 C ht hr N v0 (-1 : Int32) v0 (wI M v0 16 (rI M v0 14)) h0 h0)
  · refine z_aload_n C 0 0 dX11_rules_102 rfl rfl ?_
    refine z_getI (k := 15) C cl11 h0 rfl gw_7_25 rfl dX11_rules_103 ?_
    exact z_jump (ls1 := [(0, .ref (B + v0))]) (Nat.le_of_ble_eq_true rfl) [0] rfl (z_fX11_rules_b106 C ht hr N v0 (rI (wI M v0 16 (rI M v0 14)) v0 15) v0 (wI M v0 16 (rI M v0 14)) h0 h0)
set_option maxHeartbeats 4000000 in
set_option maxRecDepth 100000 in
theorem z_fX11_rules_l61_s {p : Program} {l : Launch} {e : Env} {s : State} {m : MethodId} {args : Array Value} {below : List Frame} {meth : Method} {c : Code} {D : va_G} {cy : Nat → ClassId} {B : Nat} {kd : Nat → Nat} {n : Nat} {sa sv : Nat → Nat} (C : zC p l s m args meth c D cy B kd n sa sv RX11 cX11_rules 3) (ht : ∀ x ∈ c.exceptionTable.toList, False) (hr : meth.sig.returnType = some (FieldType.int)) {b0 : Int32 × Mem} (N : Nat) (v0 : Nat) (k61 : Mem → Option (Int32 × Mem)) (M : Mem) (h0 : kd v0 = 11)  (hk61 : ∀ (M : Mem), Z p l e (rmz 37 0) s m args below meth c (vx_MQ below (QcR D cy B kd n (cvI b0)) (XcR D cy B kd n (cvI b0)) args s 0 (6 * 0) (AA B kd n)) D cy B kd n 3 b0 0 61 [(0, .ref (B + v0))] [] M (k61 M)) : Z p l e (rmz 37 0) s m args below meth c (vx_MQ below (QcR D cy B kd n (cvI b0)) (XcR D cy B kd n (cvI b0)) args s 0 (6 * 0) (AA B kd n)) D cy B kd n 3 b0 0 61 [(0, .ref (B + v0))] [] M (fX11_rules_l61_s N v0 k61 M) := by
  unfold fX11_rules_l61_s
  refine z_aload_n C 0 0 dX11_rules_61 rfl rfl ?_
  refine z_getI (k := 14) C cl11 h0 rfl gw_7_24 rfl dX11_rules_62 ?_
  refine z_if_ne C 82 dX11_rules_65 rfl (fun _ => ?_) (fun _ => ?_)
  · refine z_aload_n C 0 0 dX11_rules_68 rfl rfl ?_
    refine z_getI (k := 11) C cl11 h0 rfl gw_7_21 rfl dX11_rules_69 ?_
    refine z_if_eq C 82 dX11_rules_72 rfl (fun _ => ?_) (fun _ => ?_)
    · exact z_jump (ls1 := [(0, .ref (B + v0))]) (Nat.le_of_ble_eq_true rfl) [0] rfl (z_fX11_rules_b82 C ht hr N v0 M h0)
    · refine z_aload_n C 0 0 dX11_rules_75 rfl rfl ?_
      refine z_callV_V (As := []) (rest := []) C rfl (ctX11_readLine (zG_of C) N v0 h0 M) cw_RX11_204 rfl (okM_X11_readLine) rfl cl11 h0 (okR_of rfl) (Nat.le_of_ble_eq_true rfl) dX11_rules_76 (fun qj1 _ => ?_)
      refine z_goto C 61 dX11_rules_79 rfl ?_
      exact z_jump (ls1 := [(0, .ref (B + v0))]) (Nat.le_of_ble_eq_true rfl) [0] rfl (hk61 qj1)
  · exact z_jump (ls1 := [(0, .ref (B + v0))]) (Nat.le_of_ble_eq_true rfl) [0] rfl (z_fX11_rules_b82 C ht hr N v0 M h0)
theorem z_fX11_rules_l61_i {p : Program} {l : Launch} {e : Env} {s : State} {m : MethodId} {args : Array Value} {below : List Frame} {meth : Method} {c : Code} {D : va_G} {cy : Nat → ClassId} {B : Nat} {kd : Nat → Nat} {n : Nat} {sa sv : Nat → Nat} (C : zC p l s m args meth c D cy B kd n sa sv RX11 cX11_rules 3) (ht : ∀ x ∈ c.exceptionTable.toList, False) (hr : meth.sig.returnType = some (FieldType.int)) {b0 : Int32 × Mem} (N : Nat) (v0 : Nat) (h0 : kd v0 = 11)  (fu : Nat) : ∀ (M : Mem), Z p l e (rmz 37 0) s m args below meth c (vx_MQ below (QcR D cy B kd n (cvI b0)) (XcR D cy B kd n (cvI b0)) args s 0 (6 * 0) (AA B kd n)) D cy B kd n 3 b0 0 61 [(0, .ref (B + v0))] [] M (fX11_rules_l61 N v0 fu M) := by
  induction fu with
  | zero => intro M; exact z_none
  | succ fu ih => intro M; exact z_fX11_rules_l61_s C ht hr N v0 (fX11_rules_l61 N v0 fu) M h0 (fun M => ih M)
theorem z_fX11_rules_l61 {p : Program} {l : Launch} {e : Env} {s : State} {m : MethodId} {args : Array Value} {below : List Frame} {meth : Method} {c : Code} {D : va_G} {cy : Nat → ClassId} {B : Nat} {kd : Nat → Nat} {n : Nat} {sa sv : Nat → Nat} (C : zC p l s m args meth c D cy B kd n sa sv RX11 cX11_rules 3) (ht : ∀ x ∈ c.exceptionTable.toList, False) (hr : meth.sig.returnType = some (FieldType.int)) {b0 : Int32 × Mem} (N : Nat) (v0 : Nat) (fu : Nat) (M : Mem) (h0 : kd v0 = 11)  : Z p l e (rmz 37 0) s m args below meth c (vx_MQ below (QcR D cy B kd n (cvI b0)) (XcR D cy B kd n (cvI b0)) args s 0 (6 * 0) (AA B kd n)) D cy B kd n 3 b0 0 61 [(0, .ref (B + v0))] [] M (fX11_rules_l61 N v0 fu M) := z_fX11_rules_l61_i C ht hr N v0 h0 fu M
set_option maxHeartbeats 4000000 in
set_option maxRecDepth 100000 in
theorem ctX11_rules {l : Launch} {D : va_G} {cy : Nat → ClassId} {B : Nat} {kd : Nat → Nat} {n : Nat} {sa sv : Nat → Nat} (G : zG l kd n) (N : Nat) (v0 : Nat) (v1 : Int32) (h0 : kd v0 = 11) (M : Mem) : CT l D cy B kd n sa sv 37 0 yX11_rules cX11_rules 3 (some (FieldType.int)) cvI [.ref (B + v0), .int v1] M (fX11_rules N v0 v1 M) := by
  refine ct_of (by decide) G.1 G.2 (Nat.le_of_ble_eq_true rfl) (ls := [(0, .ref (B + v0)), (1, .int v1)]) rfl ?_
  intro p e s m args below meth c b0 C ht hr
  unfold fX11_rules
  refine z_aload_n C 0 0 dX11_rules_0 rfl rfl ?_
  refine z_iconst C dX11_rules_1 rfl ?_
  refine z_putI (k := 5) C cl11 h0 rfl gw_7_15 rfl rfl rfl dX11_rules_2 ?_
  refine z_iload_n C 1 1 dX11_rules_5 rfl rfl ?_
  refine z_i2l C dX11_rules_6 ?_
  refine z_lconst (v := 0) C dX11_rules_7 rfl ?_
  refine z_aload_n C 0 0 dX11_rules_8 rfl rfl ?_
  refine z_getI (k := 7) C cl11 h0 rfl gw_7_17 rfl dX11_rules_9 ?_
  refine z_i2l C dX11_rules_12 ?_
  refine z_callS_pB (As := [.long v1.toInt64, .long (0 : Int64), .long (rI (wI M v0 5 (0 : Int32)) v0 7).toInt64]) (rest := []) C rfl (ctX11_within (zG_of C) v1.toInt64 (0 : Int64) ((rI (wI M v0 5 (0 : Int32)) v0 7).toInt64) (wI M v0 5 (0 : Int32))) cw_RX11_157 (okM_X11_within) rfl (okR_of rfl) (Nat.le_of_ble_eq_true rfl) dX11_rules_13 (fun qj1 _ => ?_)
  refine z_if_neB C 25 dX11_rules_16 rfl (fun _ => ?_) (fun _ => ?_)
  · refine z_aload_n C 0 0 dX11_rules_25 rfl rfl ?_
    refine z_iload_n C 1 1 dX11_rules_26 rfl rfl ?_
    refine z_putI (k := 8) C cl11 h0 rfl gw_7_18 rfl rfl rfl dX11_rules_27 ?_
    refine z_aload_n C 0 0 dX11_rules_30 rfl rfl ?_
    refine z_iconst C dX11_rules_31 rfl ?_
    refine z_putI (k := 7) C cl11 h0 rfl gw_7_17 rfl rfl rfl dX11_rules_32 ?_
    refine z_aload_n C 0 0 dX11_rules_35 rfl rfl ?_
    refine z_iconst C dX11_rules_36 rfl ?_
    refine z_putI (k := 9) C cl11 h0 rfl gw_7_19 rfl rfl rfl dX11_rules_37 ?_
    refine z_aload_n C 0 0 dX11_rules_40 rfl rfl ?_
    refine z_iconst C dX11_rules_41 rfl ?_
    refine z_putI (k := 14) C cl11 h0 rfl gw_7_24 rfl rfl rfl dX11_rules_42 ?_
    refine z_aload_n C 0 0 dX11_rules_45 rfl rfl ?_
    refine z_iconst C dX11_rules_46 rfl ?_
    refine z_putI (k := 13) C cl11 h0 rfl gw_7_23 rfl rfl rfl dX11_rules_47 ?_
    refine z_aload_n C 0 0 dX11_rules_50 rfl rfl ?_
    refine z_getR (k := 1) C cl11 h0 rfl gw_7_11 rfl dX11_rules_51 ?_
    have j2 : kd (v0 + 2) = 36 := zkd C h0 (k := 1) rfl
    refine z_callS_V (As := [.ref (B + (v0 + 2))]) (rest := []) C rfl (ctX11_begins (zG_of C) N (v0 + 2) j2 (wI (wI (wI (wI (wI (wI M v0 5 (0 : Int32)) v0 8 v1) v0 7 (0 : Int32)) v0 9 (0 : Int32)) v0 14 (0 : Int32)) v0 13 (0 : Int32))) cw_RX11_88 (okM_X11_begins) rfl (okR_of rfl) (Nat.le_of_ble_eq_true rfl) dX11_rules_54 (fun qj3 _ => ?_)
    refine z_aload_n C 0 0 dX11_rules_57 rfl rfl ?_
    refine z_callV_V (As := []) (rest := []) C rfl (ctX11_reads (zG_of C) N v0 h0 qj3) cw_RX11_133 rfl (okM_X11_reads) rfl cl11 h0 (okR_of rfl) (Nat.le_of_ble_eq_true rfl) dX11_rules_58 (fun qj4 _ => ?_)
    exact z_jump (ls1 := [(0, .ref (B + v0))]) (Nat.le_of_ble_eq_true rfl) [0] rfl (z_fX11_rules_l61 C ht hr N v0 N qj4 h0)
  · refine z_aload_n C 0 0 dX11_rules_19 rfl rfl ?_
    refine z_iconst C dX11_rules_20 rfl ?_
    refine z_callV_I (As := [.int (1 : Int32)]) (rest := []) C rfl (ctX11_fails (zG_of C) v0 (1 : Int32) h0 (wI M v0 5 (0 : Int32))) cw_RX11_201 rfl (okM_X11_fails) rfl cl11 h0 (okR_of rfl) (Nat.le_of_ble_eq_true rfl) dX11_rules_21 (fun qj5 _ => ?_)
    exact z_iret C hr (Nat.le_of_ble_eq_true rfl) dX11_rules_24 rfl
set_option maxHeartbeats 4000000 in
set_option maxRecDepth 100000 in
theorem ctX11_fault {l : Launch} {D : va_G} {cy : Nat → ClassId} {B : Nat} {kd : Nat → Nat} {n : Nat} {sa sv : Nat → Nat} (G : zG l kd n) (v0 : Nat) (v1 : Int32) (h0 : kd v0 = 11) (M : Mem) : CT l D cy B kd n sa sv 0 0 yX11_fault cX11_fault 2 (some (FieldType.int)) cvI [.ref (B + v0), .int v1] M (fX11_fault v0 v1 M) := by
  refine ct_of (by decide) G.1 G.2 (Nat.le_of_ble_eq_true rfl) (ls := [(0, .ref (B + v0)), (1, .int v1)]) rfl ?_
  intro p e s m args below meth c b0 C ht hr
  unfold fX11_fault
  refine z_aload_n C 0 0 dX11_fault_0 rfl rfl ?_
  refine z_iconst C dX11_fault_1 rfl ?_
  refine z_putI (k := 5) C cl11 h0 rfl gw_7_15 rfl rfl rfl dX11_fault_2 ?_
  refine z_iload_n C 1 1 dX11_fault_5 rfl rfl ?_
  refine z_if_ne C 16 dX11_fault_6 rfl (fun _ => ?_) (fun _ => ?_)
  · refine z_aload_n C 0 0 dX11_fault_9 rfl rfl ?_
    refine z_getI (k := 16) C cl11 h0 rfl gw_7_26 rfl dX11_fault_10 ?_
    refine z_goto C 29 dX11_fault_13 rfl ?_
    exact z_iret C hr (Nat.le_of_ble_eq_true rfl) dX11_fault_29 rfl
  · refine z_iload_n C 1 1 dX11_fault_16 rfl rfl ?_
    refine z_iconst C dX11_fault_17 rfl ?_
    refine z_icmp_ne C 28 dX11_fault_18 rfl (fun _ => ?_) (fun _ => ?_)
    · refine z_aload_n C 0 0 dX11_fault_21 rfl rfl ?_
      refine z_getI (k := 17) C cl11 h0 rfl gw_7_27 rfl dX11_fault_22 ?_
      refine z_goto C 29 dX11_fault_25 rfl ?_
      exact z_iret C hr (Nat.le_of_ble_eq_true rfl) dX11_fault_29 rfl
    · refine z_iconst C dX11_fault_28 rfl ?_
      exact z_iret C hr (Nat.le_of_ble_eq_true rfl) dX11_fault_29 rfl
set_option maxHeartbeats 4000000 in
set_option maxRecDepth 100000 in
theorem ctX11_joins {l : Launch} {D : va_G} {cy : Nat → ClassId} {B : Nat} {kd : Nat → Nat} {n : Nat} {sa sv : Nat → Nat} (G : zG l kd n) (v0 : Int32) (v1 : Int32) (v2 : Int32)  (Mo : Mem) : CT l D cy B kd n sa sv 0 0 yX11_joins cX11_joins 3 (some (FieldType.int)) (pI Mo) [.int v0, .int v1, .int v2] Mo (fX11_joins v0 v1 v2 Mo) := by
  refine ct_of (by decide) G.1 G.2 (Nat.le_of_ble_eq_true rfl) (ls := [(0, .int v0), (1, .int v1), (2, .int v2)]) rfl ?_
  intro p e s m args below meth c b0 C ht hr
  unfold fX11_joins
  refine z_iload_n C 0 0 dX11_joins_0 rfl rfl ?_
  refine z_bipush (v := 43) C dX11_joins_1 rfl ?_
  refine z_icmp_ne C 10 dX11_joins_3 rfl (fun _ => ?_) (fun _ => ?_)
  · refine z_iload_n C 1 1 dX11_joins_6 rfl rfl ?_
    refine z_iload_n C 2 2 dX11_joins_7 rfl rfl ?_
    refine z_iadd C dX11_joins_8 ?_
    exact z_iret C hr (Nat.le_of_ble_eq_true rfl) dX11_joins_9 rfl
  · refine z_iload_n C 0 0 dX11_joins_10 rfl rfl ?_
    refine z_bipush (v := 45) C dX11_joins_11 rfl ?_
    refine z_icmp_ne C 20 dX11_joins_13 rfl (fun _ => ?_) (fun _ => ?_)
    · refine z_iload_n C 1 1 dX11_joins_16 rfl rfl ?_
      refine z_iload_n C 2 2 dX11_joins_17 rfl rfl ?_
      refine z_isub C dX11_joins_18 ?_
      exact z_iret C hr (Nat.le_of_ble_eq_true rfl) dX11_joins_19 rfl
    · refine z_iload_n C 0 0 dX11_joins_20 rfl rfl ?_
      refine z_bipush (v := 42) C dX11_joins_21 rfl ?_
      refine z_icmp_ne C 30 dX11_joins_23 rfl (fun _ => ?_) (fun _ => ?_)
      · refine z_iload_n C 1 1 dX11_joins_26 rfl rfl ?_
        refine z_iload_n C 2 2 dX11_joins_27 rfl rfl ?_
        refine z_imul C dX11_joins_28 ?_
        exact z_iret C hr (Nat.le_of_ble_eq_true rfl) dX11_joins_29 rfl
      · refine z_iload_n C 2 2 dX11_joins_30 rfl rfl ?_
        refine z_if_ne C 38 dX11_joins_31 rfl (fun _ => ?_) (fun _ => ?_)
        · refine z_iconst C dX11_joins_34 rfl ?_
          refine z_goto C 53 dX11_joins_35 rfl ?_
          exact z_iret C hr (Nat.le_of_ble_eq_true rfl) dX11_joins_53 rfl
        · refine z_iload_n C 0 0 dX11_joins_38 rfl rfl ?_
          refine z_bipush (v := 47) C dX11_joins_39 rfl ?_
          refine z_icmp_ne C 50 dX11_joins_41 rfl (fun _ => ?_) (fun _ => ?_)
          · refine z_iload_n C 1 1 dX11_joins_44 rfl rfl ?_
            refine z_iload_n C 2 2 dX11_joins_45 rfl rfl ?_
            refine z_idiv C dX11_joins_46 (fun _ => ?_)
            refine z_goto C 53 dX11_joins_47 rfl ?_
            exact z_iret C hr (Nat.le_of_ble_eq_true rfl) dX11_joins_53 rfl
          · refine z_iload_n C 1 1 dX11_joins_50 rfl rfl ?_
            refine z_iload_n C 2 2 dX11_joins_51 rfl rfl ?_
            refine z_irem C dX11_joins_52 (fun _ => ?_)
            exact z_iret C hr (Nat.le_of_ble_eq_true rfl) dX11_joins_53 rfl
set_option maxHeartbeats 4000000 in
set_option maxRecDepth 100000 in
theorem z_fX11_valueOf_b131 {p : Program} {l : Launch} {e : Env} {s : State} {m : MethodId} {args : Array Value} {below : List Frame} {meth : Method} {c : Code} {D : va_G} {cy : Nat → ClassId} {B : Nat} {kd : Nat → Nat} {n : Nat} {sa sv : Nat → Nat} (C : zC p l s m args meth c D cy B kd n sa sv RX11 cX11_valueOf 7) (ht : ∀ x ∈ c.exceptionTable.toList, False) (hr : meth.sig.returnType = some (FieldType.int)) {b0 : Int32 × Mem}  (N : Nat) (k20 : Int32 → Int32 → Mem → Option (Int32 × Mem)) (v0 : Nat) (v1 : Int32) (v2 : Int32) (v3 : Int32) (v4 : Int32) (v5 : Int32) (M : Mem) (h0 : kd v0 = 11) (hk20 : ∀ (v4 : Int32) (v5 : Int32) (M : Mem), Z p l e (rmz 1 0) s m args below meth c (vx_MQ below (QcR D cy B kd n (cvI b0)) (XcR D cy B kd n (cvI b0)) args s 0 (6 * 0) (AA B kd n)) D cy B kd n 7 b0 0 20 [(0, .ref (B + v0)), (1, .int v1), (2, .int v2), (3, .int v3), (4, .int v4), (5, .int v5)] [] M (k20 v4 v5 M)) : Z p l e (rmz 1 0) s m args below meth c (vx_MQ below (QcR D cy B kd n (cvI b0)) (XcR D cy B kd n (cvI b0)) args s 0 (6 * 0) (AA B kd n)) D cy B kd n 7 b0 0 131 [(0, .ref (B + v0)), (1, .int v1), (2, .int v2), (3, .int v3), (4, .int v4), (5, .int v5)] [] M (fX11_valueOf_b131 N k20 v0 v1 v2 v3 v4 v5 M) := by
  unfold fX11_valueOf_b131
  refine z_iinc C 5 5 (v := v5) (v1 := (v5 + (2 : Int32))) (ls1 := [(5, .int (v5 + (2 : Int32))), (0, .ref (B + v0)), (1, .int v1), (2, .int v2), (3, .int v3), (4, .int v4)]) dX11_valueOf_131 rfl rfl (by decide) rfl ?_
  refine z_goto C 20 dX11_valueOf_134 rfl ?_
  exact z_jump (ls1 := [(0, .ref (B + v0)), (1, .int v1), (2, .int v2), (3, .int v3), (4, .int v4), (5, .int (v5 + (2 : Int32)))]) (Nat.le_of_ble_eq_true rfl) [1, 2, 3, 4, 5, 0] rfl (hk20 v4 (v5 + (2 : Int32)) M)
set_option maxHeartbeats 4000000 in
set_option maxRecDepth 100000 in
theorem z_fX11_valueOf_b91 {p : Program} {l : Launch} {e : Env} {s : State} {m : MethodId} {args : Array Value} {below : List Frame} {meth : Method} {c : Code} {D : va_G} {cy : Nat → ClassId} {B : Nat} {kd : Nat → Nat} {n : Nat} {sa sv : Nat → Nat} (C : zC p l s m args meth c D cy B kd n sa sv RX11 cX11_valueOf 7) (ht : ∀ x ∈ c.exceptionTable.toList, False) (hr : meth.sig.returnType = some (FieldType.int)) {b0 : Int32 × Mem}  (N : Nat) (k20 : Int32 → Int32 → Mem → Option (Int32 × Mem)) (v0 : Nat) (v1 : Int32) (v2 : Int32) (v3 : Int32) (v4 : Int32) (v5 : Int32) (s0 : Int32) (s1 : Int32) (s2 : Nat) (M : Mem) (h0 : kd v0 = 11) (hs2 : kd s2 = 40) (hk20 : ∀ (v4 : Int32) (v5 : Int32) (M : Mem), Z p l e (rmz 1 0) s m args below meth c (vx_MQ below (QcR D cy B kd n (cvI b0)) (XcR D cy B kd n (cvI b0)) args s 0 (6 * 0) (AA B kd n)) D cy B kd n 7 b0 0 20 [(0, .ref (B + v0)), (1, .int v1), (2, .int v2), (3, .int v3), (4, .int v4), (5, .int v5)] [] M (k20 v4 v5 M)) : Z p l e (rmz 1 0) s m args below meth c (vx_MQ below (QcR D cy B kd n (cvI b0)) (XcR D cy B kd n (cvI b0)) args s 0 (6 * 0) (AA B kd n)) D cy B kd n 7 b0 0 91 [(0, .ref (B + v0)), (1, .int v1), (2, .int v2), (3, .int v3), (4, .int v4), (5, .int v5)] [.int s0, .int s1, .ref (B + s2)] M (fX11_valueOf_b91 N k20 v0 v1 v2 v3 v4 v5 s0 s1 s2 M) := by
  unfold fX11_valueOf_b91
  refine z_iast C hs2 rfl (by decide) dX11_valueOf_91 (fun _ => ?_)
  refine z_iinc C 4 4 (v := v4) (v1 := (v4 + (1 : Int32))) (ls1 := [(4, .int (v4 + (1 : Int32))), (0, .ref (B + v0)), (1, .int v1), (2, .int v2), (3, .int v3), (5, .int v5)]) dX11_valueOf_92 rfl rfl (by decide) rfl ?_
  refine z_goto C 131 dX11_valueOf_95 rfl ?_
  exact z_jump (ls1 := [(0, .ref (B + v0)), (1, .int v1), (2, .int v2), (3, .int v3), (4, .int (v4 + (1 : Int32))), (5, .int v5)]) (Nat.le_of_ble_eq_true rfl) [1, 2, 3, 4, 0, 5] rfl (z_fX11_valueOf_b131 C ht hr N k20 v0 v1 v2 v3 (v4 + (1 : Int32)) v5 (wI M s2 s1.toNatClampNeg s0) h0 hk20)
set_option maxHeartbeats 4000000 in
set_option maxRecDepth 100000 in
theorem z_fX11_valueOf_l20_s {p : Program} {l : Launch} {e : Env} {s : State} {m : MethodId} {args : Array Value} {below : List Frame} {meth : Method} {c : Code} {D : va_G} {cy : Nat → ClassId} {B : Nat} {kd : Nat → Nat} {n : Nat} {sa sv : Nat → Nat} (C : zC p l s m args meth c D cy B kd n sa sv RX11 cX11_valueOf 7) (ht : ∀ x ∈ c.exceptionTable.toList, False) (hr : meth.sig.returnType = some (FieldType.int)) {b0 : Int32 × Mem} (N : Nat) (v0 : Nat) (v1 : Int32) (v2 : Int32) (v3 : Int32) (k20 : Int32 → Int32 → Mem → Option (Int32 × Mem)) (v4 : Int32) (v5 : Int32) (M : Mem) (h0 : kd v0 = 11)  (hk20 : ∀ (v4 : Int32) (v5 : Int32) (M : Mem), Z p l e (rmz 1 0) s m args below meth c (vx_MQ below (QcR D cy B kd n (cvI b0)) (XcR D cy B kd n (cvI b0)) args s 0 (6 * 0) (AA B kd n)) D cy B kd n 7 b0 0 20 [(0, .ref (B + v0)), (1, .int v1), (2, .int v2), (3, .int v3), (4, .int v4), (5, .int v5)] [] M (k20 v4 v5 M)) : Z p l e (rmz 1 0) s m args below meth c (vx_MQ below (QcR D cy B kd n (cvI b0)) (XcR D cy B kd n (cvI b0)) args s 0 (6 * 0) (AA B kd n)) D cy B kd n 7 b0 0 20 [(0, .ref (B + v0)), (1, .int v1), (2, .int v2), (3, .int v3), (4, .int v4), (5, .int v5)] [] M (fX11_valueOf_l20_s N v0 v1 v2 v3 k20 v4 v5 M) := by
  unfold fX11_valueOf_l20_s
  refine z_iload C 5 dX11_valueOf_20 rfl ?_
  refine z_bipush (v := 20) C dX11_valueOf_22 rfl ?_
  refine z_iconst C dX11_valueOf_24 rfl ?_
  refine z_aload_n C 0 0 dX11_valueOf_25 rfl rfl ?_
  refine z_getR (k := 0) C cl11 h0 rfl gw_7_10 rfl dX11_valueOf_26 ?_
  have j1 : kd (v0 + 1) = 36 := zkd C h0 (k := 0) rfl
  refine z_iconst C dX11_valueOf_29 rfl ?_
  refine z_iconst C dX11_valueOf_30 rfl ?_
  refine z_iload_n C 1 1 dX11_valueOf_31 rfl rfl ?_
  refine z_imul C dX11_valueOf_32 ?_
  refine z_iadd C dX11_valueOf_33 ?_
  refine z_iconst C dX11_valueOf_34 rfl ?_
  refine z_iadd C dX11_valueOf_35 ?_
  refine z_iald C j1 rfl (by decide) dX11_valueOf_36 (fun j2 => ?_)
  refine z_imul C dX11_valueOf_37 ?_
  refine z_iadd C dX11_valueOf_38 ?_
  refine z_icmp_ge C 137 dX11_valueOf_39 rfl (fun _ => ?_) (fun _ => ?_)
  · refine z_aload_n C 0 0 dX11_valueOf_137 rfl rfl ?_
    refine z_getR (k := 18) C cl11 h0 rfl gw_7_28 rfl dX11_valueOf_138 ?_
    have j3 : kd (v0 + 7) = 40 := zkd C h0 (k := 18) rfl
    refine z_iconst C dX11_valueOf_141 rfl ?_
    refine z_iald C j3 rfl (by decide) dX11_valueOf_142 (fun j4 => ?_)
    exact z_iret C hr (Nat.le_of_ble_eq_true rfl) dX11_valueOf_143 rfl
  · refine z_aload_n C 0 0 dX11_valueOf_42 rfl rfl ?_
    refine z_getR (k := 0) C cl11 h0 rfl gw_7_10 rfl dX11_valueOf_43 ?_
    have j5 : kd (v0 + 1) = 36 := zkd C h0 (k := 0) rfl
    refine z_iload C 5 dX11_valueOf_46 rfl ?_
    refine z_iald C j5 rfl (by decide) dX11_valueOf_48 (fun j6 => ?_)
    refine z_istore C 6 (ls1 := [(6, .int (rI M (v0 + 1) v5.toNatClampNeg)), (0, .ref (B + v0)), (1, .int v1), (2, .int v2), (3, .int v3), (4, .int v4), (5, .int v5)]) dX11_valueOf_49 (by decide) rfl ?_
    refine z_iload C 0 dX11_valueOf_51 rfl ?_
    refine z_iconst C dX11_valueOf_53 rfl ?_
    refine z_icmp_gt C 98 dX11_valueOf_54 rfl (fun _ => ?_) (fun _ => ?_)
    · refine z_iinc C 4 5 (v := v4) (v1 := (v4 + (-1 : Int32))) (ls1 := [(4, .int (v4 + (-1 : Int32))), (6, .int (rI M (v0 + 1) v5.toNatClampNeg)), (0, .ref (B + v0)), (1, .int v1), (2, .int v2), (3, .int v3), (5, .int v5)]) dX11_valueOf_98 rfl rfl (by decide) rfl ?_
      refine z_aload_n C 0 2 dX11_valueOf_101 rfl rfl ?_
      refine z_getR (k := 18) C cl11 h0 rfl gw_7_28 rfl dX11_valueOf_102 ?_
      have j7 : kd (v0 + 7) = 40 := zkd C h0 (k := 18) rfl
      refine z_iload C 0 dX11_valueOf_105 rfl ?_
      refine z_iconst C dX11_valueOf_107 rfl ?_
      refine z_isub C dX11_valueOf_108 ?_
      refine z_iload C 1 dX11_valueOf_109 rfl ?_
      refine z_aload_n C 0 2 dX11_valueOf_111 rfl rfl ?_
      refine z_getR (k := 18) C cl11 h0 rfl gw_7_28 rfl dX11_valueOf_112 ?_
      have j8 : kd (v0 + 7) = 40 := zkd C h0 (k := 18) rfl
      refine z_iload C 0 dX11_valueOf_115 rfl ?_
      refine z_iconst C dX11_valueOf_117 rfl ?_
      refine z_isub C dX11_valueOf_118 ?_
      refine z_iald C j8 rfl (by decide) dX11_valueOf_119 (fun j9 => ?_)
      refine z_aload_n C 0 2 dX11_valueOf_120 rfl rfl ?_
      refine z_getR (k := 18) C cl11 h0 rfl gw_7_28 rfl dX11_valueOf_121 ?_
      have j10 : kd (v0 + 7) = 40 := zkd C h0 (k := 18) rfl
      refine z_iload C 0 dX11_valueOf_124 rfl ?_
      refine z_iald C j10 rfl (by decide) dX11_valueOf_126 (fun j11 => ?_)
      refine z_callS_pI (As := [.int (rI M (v0 + 1) v5.toNatClampNeg), .int (rI M (v0 + 7) ((v4 + (-1 : Int32)) - (1 : Int32)).toNatClampNeg), .int (rI M (v0 + 7) (v4 + (-1 : Int32)).toNatClampNeg)]) (rest := [.int ((v4 + (-1 : Int32)) - (1 : Int32)), .ref (B + (v0 + 7))]) C rfl (ctX11_joins (zG_of C) (rI M (v0 + 1) v5.toNatClampNeg) (rI M (v0 + 7) ((v4 + (-1 : Int32)) - (1 : Int32)).toNatClampNeg) (rI M (v0 + 7) (v4 + (-1 : Int32)).toNatClampNeg) M) cw_RX11_210 (okM_X11_joins) rfl (okR_of rfl) (Nat.le_of_ble_eq_true rfl) dX11_valueOf_127 (fun qj12 _ => ?_)
      refine z_iast C j7 rfl (by decide) dX11_valueOf_130 (fun _ => ?_)
      exact z_jump (ls1 := [(0, .ref (B + v0)), (1, .int v1), (2, .int v2), (3, .int v3), (4, .int (v4 + (-1 : Int32))), (5, .int v5)]) (Nat.le_of_ble_eq_true rfl) [2, 3, 4, 5, 0, 6] rfl (z_fX11_valueOf_b131 C ht hr N k20 v0 v1 v2 v3 (v4 + (-1 : Int32)) v5 (wI M (v0 + 7) (((v4 + (-1 : Int32)) - (1 : Int32)).toNatClampNeg) qj12) h0 hk20)
    · refine z_aload_n C 0 1 dX11_valueOf_57 rfl rfl ?_
      refine z_getR (k := 18) C cl11 h0 rfl gw_7_28 rfl dX11_valueOf_58 ?_
      have j13 : kd (v0 + 7) = 40 := zkd C h0 (k := 18) rfl
      refine z_iload C 5 dX11_valueOf_61 rfl ?_
      refine z_iload C 0 dX11_valueOf_63 rfl ?_
      refine z_if_ne C 80 dX11_valueOf_65 rfl (fun _ => ?_) (fun _ => ?_)
      · refine z_aload_n C 0 1 dX11_valueOf_68 rfl rfl ?_
        refine z_getR (k := 0) C cl11 h0 rfl gw_7_10 rfl dX11_valueOf_69 ?_
        have j14 : kd (v0 + 1) = 36 := zkd C h0 (k := 0) rfl
        refine z_iload C 6 dX11_valueOf_72 rfl ?_
        refine z_iconst C dX11_valueOf_74 rfl ?_
        refine z_iadd C dX11_valueOf_75 ?_
        refine z_iald C j14 rfl (by decide) dX11_valueOf_76 (fun j15 => ?_)
        refine z_goto C 91 dX11_valueOf_77 rfl ?_
        exact z_jump (ls1 := [(0, .ref (B + v0)), (1, .int v1), (2, .int v2), (3, .int v3), (4, .int v4), (5, .int v5)]) (Nat.le_of_ble_eq_true rfl) [1, 2, 3, 4, 5, 6] rfl (z_fX11_valueOf_b91 C ht hr N k20 v0 v1 v2 v3 v4 v5 (rI M (v0 + 1) (v5 + (1 : Int32)).toNatClampNeg) v4 (v0 + 7) M h0 j13 hk20)
      · refine z_iload C 0 dX11_valueOf_80 rfl ?_
        refine z_iconst C dX11_valueOf_82 rfl ?_
        refine z_icmp_ne C 90 dX11_valueOf_83 rfl (fun _ => ?_) (fun _ => ?_)
        · refine z_iload_n C 2 3 dX11_valueOf_86 rfl rfl ?_
          refine z_goto C 91 dX11_valueOf_87 rfl ?_
          exact z_jump (ls1 := [(0, .ref (B + v0)), (1, .int v1), (2, .int v2), (3, .int v3), (4, .int v4), (5, .int v5)]) (Nat.le_of_ble_eq_true rfl) [1, 2, 3, 4, 5, 6] rfl (z_fX11_valueOf_b91 C ht hr N k20 v0 v1 v2 v3 v4 v5 v2 v4 (v0 + 7) M h0 j13 hk20)
        · refine z_iload_n C 3 4 dX11_valueOf_90 rfl rfl ?_
          exact z_jump (ls1 := [(0, .ref (B + v0)), (1, .int v1), (2, .int v2), (3, .int v3), (4, .int v4), (5, .int v5)]) (Nat.le_of_ble_eq_true rfl) [1, 2, 3, 4, 5, 6] rfl (z_fX11_valueOf_b91 C ht hr N k20 v0 v1 v2 v3 v4 v5 v3 v4 (v0 + 7) M h0 j13 hk20)
theorem z_fX11_valueOf_l20_i {p : Program} {l : Launch} {e : Env} {s : State} {m : MethodId} {args : Array Value} {below : List Frame} {meth : Method} {c : Code} {D : va_G} {cy : Nat → ClassId} {B : Nat} {kd : Nat → Nat} {n : Nat} {sa sv : Nat → Nat} (C : zC p l s m args meth c D cy B kd n sa sv RX11 cX11_valueOf 7) (ht : ∀ x ∈ c.exceptionTable.toList, False) (hr : meth.sig.returnType = some (FieldType.int)) {b0 : Int32 × Mem} (N : Nat) (v0 : Nat) (v1 : Int32) (v2 : Int32) (v3 : Int32) (h0 : kd v0 = 11)  (fu : Nat) : ∀ (v4 : Int32) (v5 : Int32) (M : Mem), Z p l e (rmz 1 0) s m args below meth c (vx_MQ below (QcR D cy B kd n (cvI b0)) (XcR D cy B kd n (cvI b0)) args s 0 (6 * 0) (AA B kd n)) D cy B kd n 7 b0 0 20 [(0, .ref (B + v0)), (1, .int v1), (2, .int v2), (3, .int v3), (4, .int v4), (5, .int v5)] [] M (fX11_valueOf_l20 N v0 v1 v2 v3 fu v4 v5 M) := by
  induction fu with
  | zero => intro v4 v5 M; exact z_none
  | succ fu ih => intro v4 v5 M; exact z_fX11_valueOf_l20_s C ht hr N v0 v1 v2 v3 (fX11_valueOf_l20 N v0 v1 v2 v3 fu) v4 v5 M h0 (fun v4 v5 M => ih v4 v5 M)
theorem z_fX11_valueOf_l20 {p : Program} {l : Launch} {e : Env} {s : State} {m : MethodId} {args : Array Value} {below : List Frame} {meth : Method} {c : Code} {D : va_G} {cy : Nat → ClassId} {B : Nat} {kd : Nat → Nat} {n : Nat} {sa sv : Nat → Nat} (C : zC p l s m args meth c D cy B kd n sa sv RX11 cX11_valueOf 7) (ht : ∀ x ∈ c.exceptionTable.toList, False) (hr : meth.sig.returnType = some (FieldType.int)) {b0 : Int32 × Mem} (N : Nat) (v0 : Nat) (v1 : Int32) (v2 : Int32) (v3 : Int32) (fu : Nat) (v4 : Int32) (v5 : Int32) (M : Mem) (h0 : kd v0 = 11)  : Z p l e (rmz 1 0) s m args below meth c (vx_MQ below (QcR D cy B kd n (cvI b0)) (XcR D cy B kd n (cvI b0)) args s 0 (6 * 0) (AA B kd n)) D cy B kd n 7 b0 0 20 [(0, .ref (B + v0)), (1, .int v1), (2, .int v2), (3, .int v3), (4, .int v4), (5, .int v5)] [] M (fX11_valueOf_l20 N v0 v1 v2 v3 fu v4 v5 M) := z_fX11_valueOf_l20_i C ht hr N v0 v1 v2 v3 h0 fu v4 v5 M
set_option maxHeartbeats 4000000 in
set_option maxRecDepth 100000 in
theorem ctX11_valueOf {l : Launch} {D : va_G} {cy : Nat → ClassId} {B : Nat} {kd : Nat → Nat} {n : Nat} {sa sv : Nat → Nat} (G : zG l kd n) (N : Nat) (v0 : Nat) (v1 : Int32) (v2 : Int32) (v3 : Int32) (h0 : kd v0 = 11) (M : Mem) : CT l D cy B kd n sa sv 1 0 yX11_valueOf cX11_valueOf 7 (some (FieldType.int)) cvI [.ref (B + v0), .int v1, .int v2, .int v3] M (fX11_valueOf N v0 v1 v2 v3 M) := by
  refine ct_of (by decide) G.1 G.2 (Nat.le_of_ble_eq_true rfl) (ls := [(0, .ref (B + v0)), (1, .int v1), (2, .int v2), (3, .int v3)]) rfl ?_
  intro p e s m args below meth c b0 C ht hr
  unfold fX11_valueOf
  refine z_iconst C dX11_valueOf_0 rfl ?_
  refine z_istore C 4 (ls1 := [(4, .int (0 : Int32)), (0, .ref (B + v0)), (1, .int v1), (2, .int v2), (3, .int v3)]) dX11_valueOf_1 (by decide) rfl ?_
  refine z_bipush (v := 20) C dX11_valueOf_3 rfl ?_
  refine z_iconst C dX11_valueOf_5 rfl ?_
  refine z_aload_n C 0 1 dX11_valueOf_6 rfl rfl ?_
  refine z_getR (k := 0) C cl11 h0 rfl gw_7_10 rfl dX11_valueOf_7 ?_
  have j1 : kd (v0 + 1) = 36 := zkd C h0 (k := 0) rfl
  refine z_iconst C dX11_valueOf_10 rfl ?_
  refine z_iconst C dX11_valueOf_11 rfl ?_
  refine z_iload_n C 1 2 dX11_valueOf_12 rfl rfl ?_
  refine z_imul C dX11_valueOf_13 ?_
  refine z_iadd C dX11_valueOf_14 ?_
  refine z_iald C j1 rfl (by decide) dX11_valueOf_15 (fun j2 => ?_)
  refine z_imul C dX11_valueOf_16 ?_
  refine z_iadd C dX11_valueOf_17 ?_
  refine z_istore C 5 (ls1 := [(5, .int ((20 : Int32) + ((2 : Int32) * (rI M (v0 + 1) ((4 : Int32) + ((2 : Int32) * v1)).toNatClampNeg)))), (4, .int (0 : Int32)), (0, .ref (B + v0)), (1, .int v1), (2, .int v2), (3, .int v3)]) dX11_valueOf_18 (by decide) rfl ?_
  exact z_jump (ls1 := [(0, .ref (B + v0)), (1, .int v1), (2, .int v2), (3, .int v3), (4, .int (0 : Int32)), (5, .int ((20 : Int32) + ((2 : Int32) * (rI M (v0 + 1) ((4 : Int32) + ((2 : Int32) * v1)).toNatClampNeg))))]) (Nat.le_of_ble_eq_true rfl) [2, 3, 4, 5, 1, 0] rfl (z_fX11_valueOf_l20 C ht hr N v0 v1 v2 v3 N (0 : Int32) ((20 : Int32) + ((2 : Int32) * (rI M (v0 + 1) ((4 : Int32) + ((2 : Int32) * v1)).toNatClampNeg))) M h0)
set_option maxHeartbeats 4000000 in
set_option maxRecDepth 100000 in
theorem ctX11_modulo {l : Launch} {D : va_G} {cy : Nat → ClassId} {B : Nat} {kd : Nat → Nat} {n : Nat} {sa sv : Nat → Nat} (G : zG l kd n) (v0 : Int32) (v1 : Int32)  (Mo : Mem) : CT l D cy B kd n sa sv 0 0 yX11_modulo cX11_modulo 2 (some (FieldType.int)) (pI Mo) [.int v0, .int v1] Mo (fX11_modulo v0 v1 Mo) := by
  refine ct_of (by decide) G.1 G.2 (Nat.le_of_ble_eq_true rfl) (ls := [(0, .int v0), (1, .int v1)]) rfl ?_
  intro p e s m args below meth c b0 C ht hr
  unfold fX11_modulo
  refine z_iload_n C 0 0 dX11_modulo_0 rfl rfl ?_
  refine z_iload_n C 1 1 dX11_modulo_1 rfl rfl ?_
  refine z_irem C dX11_modulo_2 (fun _ => ?_)
  refine z_iload_n C 1 1 dX11_modulo_3 rfl rfl ?_
  refine z_iadd C dX11_modulo_4 ?_
  refine z_iload_n C 1 1 dX11_modulo_5 rfl rfl ?_
  refine z_irem C dX11_modulo_6 (fun _ => ?_)
  exact z_iret C hr (Nat.le_of_ble_eq_true rfl) dX11_modulo_7 rfl
set_option maxHeartbeats 4000000 in
set_option maxRecDepth 100000 in
theorem ctX11_placeOf {l : Launch} {D : va_G} {cy : Nat → ClassId} {B : Nat} {kd : Nat → Nat} {n : Nat} {sa sv : Nat → Nat} (G : zG l kd n) (N : Nat) (v0 : Nat) (v1 : Int32) (v2 : Int32) (v3 : Int32) (h0 : kd v0 = 11) (M : Mem) : CT l D cy B kd n sa sv 2 0 yX11_placeOf cX11_placeOf 4 (some (FieldType.int)) cvI [.ref (B + v0), .int v1, .int v2, .int v3] M (fX11_placeOf N v0 v1 v2 v3 M) := by
  refine ct_of (by decide) G.1 G.2 (Nat.le_of_ble_eq_true rfl) (ls := [(0, .ref (B + v0)), (1, .int v1), (2, .int v2), (3, .int v3)]) rfl ?_
  intro p e s m args below meth c b0 C ht hr
  unfold fX11_placeOf
  refine z_aload_n C 0 0 dX11_placeOf_0 rfl rfl ?_
  refine z_iload_n C 1 1 dX11_placeOf_1 rfl rfl ?_
  refine z_iload_n C 2 2 dX11_placeOf_2 rfl rfl ?_
  refine z_iload_n C 3 3 dX11_placeOf_3 rfl rfl ?_
  refine z_callV_I (As := [.int v1, .int v2, .int v3]) (rest := []) C rfl (ctX11_valueOf (zG_of C) N v0 v1 v2 v3 h0 M) cw_RX11_214 rfl (okM_X11_valueOf) rfl cl11 h0 (okR_of rfl) (Nat.le_of_ble_eq_true rfl) dX11_placeOf_4 (fun qj1 _ => ?_)
  refine z_iload_n C 3 3 dX11_placeOf_7 rfl rfl ?_
  refine z_callS_pI (As := [.int qj1.1, .int v3]) (rest := []) C rfl (ctX11_modulo (zG_of C) qj1.1 v3 qj1.2) cw_RX11_217 (okM_X11_modulo) rfl (okR_of rfl) (Nat.le_of_ble_eq_true rfl) dX11_placeOf_8 (fun qj2 _ => ?_)
  exact z_iret C hr (Nat.le_of_ble_eq_true rfl) dX11_placeOf_11 rfl
set_option maxHeartbeats 4000000 in
set_option maxRecDepth 100000 in
theorem z_fX11_tagOf_b22 {p : Program} {l : Launch} {e : Env} {s : State} {m : MethodId} {args : Array Value} {below : List Frame} {meth : Method} {c : Code} {D : va_G} {cy : Nat → ClassId} {B : Nat} {kd : Nat → Nat} {n : Nat} {sa sv : Nat → Nat} (C : zC p l s m args meth c D cy B kd n sa sv RX11 cX11_tagOf 3) (ht : ∀ x ∈ c.exceptionTable.toList, False) (hr : meth.sig.returnType = some (FieldType.int)) {b0 : Int32 × Mem}  (N : Nat) (v0 : Nat) (v1 : Int32) (s0 : Bool) (M : Mem) (h0 : kd v0 = 11)  : Z p l e (rmz 2 0) s m args below meth c (vx_MQ below (QcR D cy B kd n (cvI b0)) (XcR D cy B kd n (cvI b0)) args s 0 (6 * 0) (AA B kd n)) D cy B kd n 3 b0 0 22 [(0, .ref (B + v0)), (1, .int v1)] [.int (bI s0)] M (fX11_tagOf_b22 N v0 v1 s0 M) := by
  unfold fX11_tagOf_b22
  refine z_istore_n C 2 (ls1 := [(2, .int (bI s0)), (0, .ref (B + v0)), (1, .int v1)]) dX11_tagOf_22 rfl (by decide) rfl ?_
  refine z_iload_n C 2 0 dX11_tagOf_23 rfl rfl ?_
  refine z_if_eqB C 38 dX11_tagOf_24 rfl (fun _ => ?_) (fun _ => ?_)
  · refine z_iload_n C 1 2 dX11_tagOf_27 rfl rfl ?_
    refine z_aload_n C 0 1 dX11_tagOf_28 rfl rfl ?_
    refine z_getR (k := 0) C cl11 h0 rfl gw_7_10 rfl dX11_tagOf_29 ?_
    have j1 : kd (v0 + 1) = 36 := zkd C h0 (k := 0) rfl
    refine z_iconst C dX11_tagOf_32 rfl ?_
    refine z_iald C j1 rfl (by decide) dX11_tagOf_33 (fun j2 => ?_)
    refine z_irem C dX11_tagOf_34 (fun _ => ?_)
    refine z_goto C 60 dX11_tagOf_35 rfl ?_
    exact z_iret C hr (Nat.le_of_ble_eq_true rfl) dX11_tagOf_60 rfl
  · refine z_aload_n C 0 1 dX11_tagOf_38 rfl rfl ?_
    refine z_bipush (v := 6) C dX11_tagOf_39 rfl ?_
    refine z_iload_n C 1 2 dX11_tagOf_41 rfl rfl ?_
    refine z_aload_n C 0 1 dX11_tagOf_42 rfl rfl ?_
    refine z_getR (k := 0) C cl11 h0 rfl gw_7_10 rfl dX11_tagOf_43 ?_
    have j3 : kd (v0 + 1) = 36 := zkd C h0 (k := 0) rfl
    refine z_iconst C dX11_tagOf_46 rfl ?_
    refine z_iald C j3 rfl (by decide) dX11_tagOf_47 (fun j4 => ?_)
    refine z_callV_I (As := [.int (6 : Int32), .int v1, .int (rI M (v0 + 1) (2 : Int32).toNatClampNeg)]) (rest := []) C rfl (ctX11_valueOf (zG_of C) N v0 (6 : Int32) v1 (rI M (v0 + 1) (2 : Int32).toNatClampNeg) h0 M) cw_RX11_214 rfl (okM_X11_valueOf) rfl cl11 h0 (okR_of rfl) (Nat.le_of_ble_eq_true rfl) dX11_tagOf_48 (fun qj5 _ => ?_)
    refine z_aload_n C 0 1 dX11_tagOf_51 rfl rfl ?_
    refine z_getR (k := 0) C cl11 h0 rfl gw_7_10 rfl dX11_tagOf_52 ?_
    have j6 : kd (v0 + 1) = 36 := zkd C h0 (k := 0) rfl
    refine z_iconst C dX11_tagOf_55 rfl ?_
    refine z_iald C j6 rfl (by decide) dX11_tagOf_56 (fun j7 => ?_)
    refine z_callS_pI (As := [.int qj5.1, .int (rI qj5.2 (v0 + 1) (2 : Int32).toNatClampNeg)]) (rest := []) C rfl (ctX11_modulo (zG_of C) qj5.1 (rI qj5.2 (v0 + 1) (2 : Int32).toNatClampNeg) qj5.2) cw_RX11_217 (okM_X11_modulo) rfl (okR_of rfl) (Nat.le_of_ble_eq_true rfl) dX11_tagOf_57 (fun qj8 _ => ?_)
    exact z_iret C hr (Nat.le_of_ble_eq_true rfl) dX11_tagOf_60 rfl
set_option maxHeartbeats 4000000 in
set_option maxRecDepth 100000 in
theorem ctX11_tagOf {l : Launch} {D : va_G} {cy : Nat → ClassId} {B : Nat} {kd : Nat → Nat} {n : Nat} {sa sv : Nat → Nat} (G : zG l kd n) (N : Nat) (v0 : Nat) (v1 : Int32) (h0 : kd v0 = 11) (M : Mem) : CT l D cy B kd n sa sv 2 0 yX11_tagOf cX11_tagOf 3 (some (FieldType.int)) cvI [.ref (B + v0), .int v1] M (fX11_tagOf N v0 v1 M) := by
  refine ct_of (by decide) G.1 G.2 (Nat.le_of_ble_eq_true rfl) (ls := [(0, .ref (B + v0)), (1, .int v1)]) rfl ?_
  intro p e s m args below meth c b0 C ht hr
  unfold fX11_tagOf
  refine z_aload_n C 0 0 dX11_tagOf_0 rfl rfl ?_
  refine z_getR (k := 0) C cl11 h0 rfl gw_7_10 rfl dX11_tagOf_1 ?_
  have j1 : kd (v0 + 1) = 36 := zkd C h0 (k := 0) rfl
  refine z_bipush (v := 16) C dX11_tagOf_4 rfl ?_
  refine z_iald C j1 rfl (by decide) dX11_tagOf_6 (fun j2 => ?_)
  refine z_aload_n C 0 0 dX11_tagOf_7 rfl rfl ?_
  refine z_getR (k := 0) C cl11 h0 rfl gw_7_10 rfl dX11_tagOf_8 ?_
  have j3 : kd (v0 + 1) = 36 := zkd C h0 (k := 0) rfl
  refine z_bipush (v := 17) C dX11_tagOf_11 rfl ?_
  refine z_iald C j3 rfl (by decide) dX11_tagOf_13 (fun j4 => ?_)
  refine z_icmp_ne C 21 dX11_tagOf_14 rfl (fun _ => ?_) (fun _ => ?_)
  · refine z_iconst C dX11_tagOf_17 rfl ?_
    refine z_goto C 22 dX11_tagOf_18 rfl ?_
    exact z_jump (ls1 := [(0, .ref (B + v0)), (1, .int v1)]) (Nat.le_of_ble_eq_true rfl) [0, 1] rfl (z_fX11_tagOf_b22 C ht hr N v0 v1 true M h0)
  · refine z_iconst C dX11_tagOf_21 rfl ?_
    exact z_jump (ls1 := [(0, .ref (B + v0)), (1, .int v1)]) (Nat.le_of_ble_eq_true rfl) [0, 1] rfl (z_fX11_tagOf_b22 C ht hr N v0 v1 false M h0)
set_option maxHeartbeats 4000000 in
set_option maxRecDepth 100000 in
theorem ctX11_markFault {l : Launch} {D : va_G} {cy : Nat → ClassId} {B : Nat} {kd : Nat → Nat} {n : Nat} {sa sv : Nat → Nat} (G : zG l kd n) (v0 : Nat) (v1 : Int32) (v2 : Int32) (h0 : kd v0 = 11) (Mo : Mem) : CT l D cy B kd n sa sv 1 0 yX11_markFault cX11_markFault 3 (some (FieldType.int)) (pI Mo) [.ref (B + v0), .int v1, .int v2] Mo (fX11_markFault v0 v1 v2 Mo) := by
  refine ct_of (by decide) G.1 G.2 (Nat.le_of_ble_eq_true rfl) (ls := [(0, .ref (B + v0)), (1, .int v1), (2, .int v2)]) rfl ?_
  intro p e s m args below meth c b0 C ht hr
  unfold fX11_markFault
  refine z_iload_n C 1 1 dX11_markFault_0 rfl rfl ?_
  refine z_i2l C dX11_markFault_1 ?_
  refine z_lconst (v := 0) C dX11_markFault_2 rfl ?_
  refine z_aload_n C 0 0 dX11_markFault_3 rfl rfl ?_
  refine z_getR (k := 0) C cl11 h0 rfl gw_7_10 rfl dX11_markFault_4 ?_
  have j1 : kd (v0 + 1) = 36 := zkd C h0 (k := 0) rfl
  refine z_iconst C dX11_markFault_7 rfl ?_
  refine z_iald C j1 rfl (by decide) dX11_markFault_8 (fun j2 => ?_)
  refine z_iconst C dX11_markFault_9 rfl ?_
  refine z_isub C dX11_markFault_10 ?_
  refine z_i2l C dX11_markFault_11 ?_
  refine z_callS_pB (As := [.long v1.toInt64, .long (0 : Int64), .long ((rI Mo (v0 + 1) (3 : Int32).toNatClampNeg) - (1 : Int32)).toInt64]) (rest := []) C rfl (ctX11_within (zG_of C) v1.toInt64 (0 : Int64) (((rI Mo (v0 + 1) (3 : Int32).toNatClampNeg) - (1 : Int32)).toInt64) Mo) cw_RX11_157 (okM_X11_within) rfl (okR_of rfl) (Nat.le_of_ble_eq_true rfl) dX11_markFault_12 (fun qj3 _ => ?_)
  refine z_if_neB C 22 dX11_markFault_15 rfl (fun _ => ?_) (fun _ => ?_)
  · refine z_iload_n C 2 2 dX11_markFault_22 rfl rfl ?_
    refine z_i2l C dX11_markFault_23 ?_
    refine z_lconst (v := 1) C dX11_markFault_24 rfl ?_
    refine z_ldc2 C dX11_markFault_25 gw_7_230 ?_
    refine z_callS_pB (As := [.long v2.toInt64, .long (1 : Int64), .long (128 : Int64)]) (rest := []) C rfl (ctX11_within (zG_of C) v2.toInt64 (1 : Int64) (128 : Int64) Mo) cw_RX11_157 (okM_X11_within) rfl (okR_of rfl) (Nat.le_of_ble_eq_true rfl) dX11_markFault_28 (fun qj4 _ => ?_)
    refine z_if_eqB C 38 dX11_markFault_31 rfl (fun _ => ?_) (fun _ => ?_)
    · refine z_iconst C dX11_markFault_34 rfl ?_
      refine z_goto C 39 dX11_markFault_35 rfl ?_
      exact z_iret C hr (Nat.le_of_ble_eq_true rfl) dX11_markFault_39 rfl
    · refine z_iconst C dX11_markFault_38 rfl ?_
      exact z_iret C hr (Nat.le_of_ble_eq_true rfl) dX11_markFault_39 rfl
  · refine z_iconst C dX11_markFault_18 rfl ?_
    refine z_goto C 39 dX11_markFault_19 rfl ?_
    exact z_iret C hr (Nat.le_of_ble_eq_true rfl) dX11_markFault_39 rfl
set_option maxHeartbeats 4000000 in
set_option maxRecDepth 100000 in
theorem ctX11_value {l : Launch} {D : va_G} {cy : Nat → ClassId} {B : Nat} {kd : Nat → Nat} {n : Nat} {sa sv : Nat → Nat} (G : zG l kd n) (N : Nat) (v0 : Nat) (v1 : Int32) (v2 : Int32) (v3 : Int32) (h0 : kd v0 = 11) (M : Mem) : CT l D cy B kd n sa sv 2 0 yX11_value cX11_value 4 (some (FieldType.int)) cvI [.ref (B + v0), .int v1, .int v2, .int v3] M (fX11_value N v0 v1 v2 v3 M) := by
  refine ct_of (by decide) G.1 G.2 (Nat.le_of_ble_eq_true rfl) (ls := [(0, .ref (B + v0)), (1, .int v1), (2, .int v2), (3, .int v3)]) rfl ?_
  intro p e s m args below meth c b0 C ht hr
  unfold fX11_value
  refine z_aload_n C 0 0 dX11_value_0 rfl rfl ?_
  refine z_aload_n C 0 0 dX11_value_1 rfl rfl ?_
  refine z_iload_n C 1 1 dX11_value_2 rfl rfl ?_
  refine z_iload_n C 3 3 dX11_value_3 rfl rfl ?_
  refine z_callV_pI (As := [.int v1, .int v3]) (rest := [.ref (B + v0)]) C rfl (ctX11_markFault (zG_of C) v0 v1 v3 h0 M) cw_RX11_222 rfl (okM_X11_markFault) rfl cl11 h0 (okR_of rfl) (Nat.le_of_ble_eq_true rfl) dX11_value_4 (fun qj1 _ => ?_)
  refine z_putI (k := 5) C cl11 h0 rfl gw_7_15 rfl rfl rfl dX11_value_7 ?_
  refine z_aload_n C 0 0 dX11_value_10 rfl rfl ?_
  refine z_getI (k := 5) C cl11 h0 rfl gw_7_15 rfl dX11_value_11 ?_
  refine z_if_le C 21 dX11_value_14 rfl (fun _ => ?_) (fun _ => ?_)
  · refine z_aload_n C 0 0 dX11_value_21 rfl rfl ?_
    refine z_iload_n C 1 1 dX11_value_22 rfl rfl ?_
    refine z_iload_n C 2 2 dX11_value_23 rfl rfl ?_
    refine z_iload_n C 3 3 dX11_value_24 rfl rfl ?_
    refine z_callV_I (As := [.int v1, .int v2, .int v3]) (rest := []) C rfl (ctX11_valueOf (zG_of C) N v0 v1 v2 v3 h0 (wI M v0 5 qj1)) cw_RX11_214 rfl (okM_X11_valueOf) rfl cl11 h0 (okR_of rfl) (Nat.le_of_ble_eq_true rfl) dX11_value_25 (fun qj2 _ => ?_)
    exact z_iret C hr (Nat.le_of_ble_eq_true rfl) dX11_value_28 rfl
  · refine z_iconst C dX11_value_17 rfl ?_
    refine z_goto C 28 dX11_value_18 rfl ?_
    exact z_iret C hr (Nat.le_of_ble_eq_true rfl) dX11_value_28 rfl
set_option maxHeartbeats 4000000 in
set_option maxRecDepth 100000 in
theorem ctX11_place {l : Launch} {D : va_G} {cy : Nat → ClassId} {B : Nat} {kd : Nat → Nat} {n : Nat} {sa sv : Nat → Nat} (G : zG l kd n) (N : Nat) (v0 : Nat) (v1 : Int32) (v2 : Int32) (v3 : Int32) (h0 : kd v0 = 11) (M : Mem) : CT l D cy B kd n sa sv 3 0 yX11_place cX11_place 4 (some (FieldType.int)) cvI [.ref (B + v0), .int v1, .int v2, .int v3] M (fX11_place N v0 v1 v2 v3 M) := by
  refine ct_of (by decide) G.1 G.2 (Nat.le_of_ble_eq_true rfl) (ls := [(0, .ref (B + v0)), (1, .int v1), (2, .int v2), (3, .int v3)]) rfl ?_
  intro p e s m args below meth c b0 C ht hr
  unfold fX11_place
  refine z_aload_n C 0 0 dX11_place_0 rfl rfl ?_
  refine z_aload_n C 0 0 dX11_place_1 rfl rfl ?_
  refine z_iload_n C 1 1 dX11_place_2 rfl rfl ?_
  refine z_iload_n C 3 3 dX11_place_3 rfl rfl ?_
  refine z_callV_pI (As := [.int v1, .int v3]) (rest := [.ref (B + v0)]) C rfl (ctX11_markFault (zG_of C) v0 v1 v3 h0 M) cw_RX11_222 rfl (okM_X11_markFault) rfl cl11 h0 (okR_of rfl) (Nat.le_of_ble_eq_true rfl) dX11_place_4 (fun qj1 _ => ?_)
  refine z_putI (k := 5) C cl11 h0 rfl gw_7_15 rfl rfl rfl dX11_place_7 ?_
  refine z_aload_n C 0 0 dX11_place_10 rfl rfl ?_
  refine z_getI (k := 5) C cl11 h0 rfl gw_7_15 rfl dX11_place_11 ?_
  refine z_if_le C 21 dX11_place_14 rfl (fun _ => ?_) (fun _ => ?_)
  · refine z_aload_n C 0 0 dX11_place_21 rfl rfl ?_
    refine z_iload_n C 1 1 dX11_place_22 rfl rfl ?_
    refine z_iload_n C 2 2 dX11_place_23 rfl rfl ?_
    refine z_iload_n C 3 3 dX11_place_24 rfl rfl ?_
    refine z_callV_I (As := [.int v1, .int v2, .int v3]) (rest := []) C rfl (ctX11_placeOf (zG_of C) N v0 v1 v2 v3 h0 (wI M v0 5 qj1)) cw_RX11_225 rfl (okM_X11_placeOf) rfl cl11 h0 (okR_of rfl) (Nat.le_of_ble_eq_true rfl) dX11_place_25 (fun qj2 _ => ?_)
    exact z_iret C hr (Nat.le_of_ble_eq_true rfl) dX11_place_28 rfl
  · refine z_iconst C dX11_place_17 rfl ?_
    refine z_goto C 28 dX11_place_18 rfl ?_
    exact z_iret C hr (Nat.le_of_ble_eq_true rfl) dX11_place_28 rfl
set_option maxHeartbeats 4000000 in
set_option maxRecDepth 100000 in
theorem ctX11_isName {l : Launch} {D : va_G} {cy : Nat → ClassId} {B : Nat} {kd : Nat → Nat} {n : Nat} {sa sv : Nat → Nat} (G : zG l kd n) (v0 : Nat) (v1 : Int64) (h0 : kd v0 = 11) (Mo : Mem) : CT l D cy B kd n sa sv 1 0 yX11_isName cX11_isName 3 (some (FieldType.boolean)) (pB Mo) [.ref (B + v0), .long v1] Mo (fX11_isName v0 v1 Mo) := by
  refine ct_of (by decide) G.1 G.2 (Nat.le_of_ble_eq_true rfl) (ls := [(0, .ref (B + v0)), (1, .long v1)]) rfl ?_
  intro p e s m args below meth c b0 C ht hr
  unfold fX11_isName
  refine z_lload_n C 1 1 dX11_isName_0 rfl rfl ?_
  refine z_lconst (v := 0) C dX11_isName_1 rfl ?_
  refine z_aload_n C 0 0 dX11_isName_2 rfl rfl ?_
  refine z_getR (k := 0) C cl11 h0 rfl gw_7_10 rfl dX11_isName_3 ?_
  have j1 : kd (v0 + 1) = 36 := zkd C h0 (k := 0) rfl
  refine z_iconst C dX11_isName_6 rfl ?_
  refine z_iald C j1 rfl (by decide) dX11_isName_7 (fun j2 => ?_)
  refine z_iconst C dX11_isName_8 rfl ?_
  refine z_isub C dX11_isName_9 ?_
  refine z_i2l C dX11_isName_10 ?_
  refine z_callS_pB (As := [.long v1, .long (0 : Int64), .long ((rI Mo (v0 + 1) (1 : Int32).toNatClampNeg) - (1 : Int32)).toInt64]) (rest := []) C rfl (ctX11_within (zG_of C) v1 (0 : Int64) (((rI Mo (v0 + 1) (1 : Int32).toNatClampNeg) - (1 : Int32)).toInt64) Mo) cw_RX11_157 (okM_X11_within) rfl (okR_of rfl) (Nat.le_of_ble_eq_true rfl) dX11_isName_11 (fun qj3 _ => ?_)
  exact z_zret C (v := qj3) hr (Nat.le_of_ble_eq_true rfl) dX11_isName_14 rfl
set_option maxHeartbeats 4000000 in
set_option maxRecDepth 100000 in
theorem ctX11_tag {l : Launch} {D : va_G} {cy : Nat → ClassId} {B : Nat} {kd : Nat → Nat} {n : Nat} {sa sv : Nat → Nat} (G : zG l kd n) (N : Nat) (v0 : Nat) (v1 : Int32) (h0 : kd v0 = 11) (M : Mem) : CT l D cy B kd n sa sv 3 0 yX11_tag cX11_tag 2 (some (FieldType.int)) cvI [.ref (B + v0), .int v1] M (fX11_tag N v0 v1 M) := by
  refine ct_of (by decide) G.1 G.2 (Nat.le_of_ble_eq_true rfl) (ls := [(0, .ref (B + v0)), (1, .int v1)]) rfl ?_
  intro p e s m args below meth c b0 C ht hr
  unfold fX11_tag
  refine z_aload_n C 0 0 dX11_tag_0 rfl rfl ?_
  refine z_iconst C dX11_tag_1 rfl ?_
  refine z_putI (k := 5) C cl11 h0 rfl gw_7_15 rfl rfl rfl dX11_tag_2 ?_
  refine z_aload_n C 0 0 dX11_tag_5 rfl rfl ?_
  refine z_iload_n C 1 1 dX11_tag_6 rfl rfl ?_
  refine z_i2l C dX11_tag_7 ?_
  refine z_callV_pB (As := [.long v1.toInt64]) (rest := []) C rfl (ctX11_isName (zG_of C) v0 v1.toInt64 h0 (wI M v0 5 (0 : Int32))) cw_RX11_228 rfl (okM_X11_isName) rfl cl11 h0 (okR_of rfl) (Nat.le_of_ble_eq_true rfl) dX11_tag_8 (fun qj1 _ => ?_)
  refine z_if_eqB C 22 dX11_tag_11 rfl (fun _ => ?_) (fun _ => ?_)
  · refine z_aload_n C 0 0 dX11_tag_14 rfl rfl ?_
    refine z_iload_n C 1 1 dX11_tag_15 rfl rfl ?_
    refine z_callV_I (As := [.int v1]) (rest := []) C rfl (ctX11_tagOf (zG_of C) N v0 v1 h0 (wI M v0 5 (0 : Int32))) cw_RX11_232 rfl (okM_X11_tagOf) rfl cl11 h0 (okR_of rfl) (Nat.le_of_ble_eq_true rfl) dX11_tag_16 (fun qj2 _ => ?_)
    refine z_goto C 27 dX11_tag_19 rfl ?_
    exact z_iret C hr (Nat.le_of_ble_eq_true rfl) dX11_tag_27 rfl
  · refine z_aload_n C 0 0 dX11_tag_22 rfl rfl ?_
    refine z_iconst C dX11_tag_23 rfl ?_
    refine z_callV_I (As := [.int (1 : Int32)]) (rest := []) C rfl (ctX11_fails (zG_of C) v0 (1 : Int32) h0 (wI M v0 5 (0 : Int32))) cw_RX11_201 rfl (okM_X11_fails) rfl cl11 h0 (okR_of rfl) (Nat.le_of_ble_eq_true rfl) dX11_tag_24 (fun qj3 _ => ?_)
    exact z_iret C hr (Nat.le_of_ble_eq_true rfl) dX11_tag_27 rfl
set_option maxHeartbeats 4000000 in
set_option maxRecDepth 100000 in
theorem ctX11_get {l : Launch} {D : va_G} {cy : Nat → ClassId} {B : Nat} {kd : Nat → Nat} {n : Nat} {sa sv : Nat → Nat} (G : zG l kd n) (v0 : Nat) (v1 : Int32) (v2 : Int32) (h0 : kd v0 = 11) (Mo : Mem) : CT l D cy B kd n sa sv 0 0 yX11_get cX11_get 3 (some (FieldType.int)) (pI Mo) [.ref (B + v0), .int v1, .int v2] Mo (fX11_get v0 v1 v2 Mo) := by
  refine ct_of (by decide) G.1 G.2 (Nat.le_of_ble_eq_true rfl) (ls := [(0, .ref (B + v0)), (1, .int v1), (2, .int v2)]) rfl ?_
  intro p e s m args below meth c b0 C ht hr
  unfold fX11_get
  refine z_aload_n C 0 0 dX11_get_0 rfl rfl ?_
  refine z_getR (k := 0) C cl11 h0 rfl gw_7_10 rfl dX11_get_1 ?_
  have j1 : kd (v0 + 1) = 36 := zkd C h0 (k := 0) rfl
  refine z_sipush (v := 1220) C dX11_get_4 rfl ?_
  refine z_sipush (v := 512) C dX11_get_7 rfl ?_
  refine z_iload_n C 1 1 dX11_get_10 rfl rfl ?_
  refine z_imul C dX11_get_11 ?_
  refine z_iadd C dX11_get_12 ?_
  refine z_iload_n C 2 2 dX11_get_13 rfl rfl ?_
  refine z_iadd C dX11_get_14 ?_
  refine z_iald C j1 rfl (by decide) dX11_get_15 (fun j2 => ?_)
  exact z_iret C hr (Nat.le_of_ble_eq_true rfl) dX11_get_16 rfl
set_option maxHeartbeats 4000000 in
set_option maxRecDepth 100000 in
theorem ctX11_set {l : Launch} {D : va_G} {cy : Nat → ClassId} {B : Nat} {kd : Nat → Nat} {n : Nat} {sa sv : Nat → Nat} (G : zG l kd n) (v0 : Nat) (v1 : Int32) (v2 : Int32) (v3 : Int32) (h0 : kd v0 = 11) (M : Mem) : CT l D cy B kd n sa sv 0 0 yX11_set cX11_set 4 (none) cvV [.ref (B + v0), .int v1, .int v2, .int v3] M (fX11_set v0 v1 v2 v3 M) := by
  refine ct_of (by decide) G.1 G.2 (Nat.le_of_ble_eq_true rfl) (ls := [(0, .ref (B + v0)), (1, .int v1), (2, .int v2), (3, .int v3)]) rfl ?_
  intro p e s m args below meth c b0 C ht hr
  unfold fX11_set
  refine z_aload_n C 0 0 dX11_set_0 rfl rfl ?_
  refine z_getR (k := 0) C cl11 h0 rfl gw_7_10 rfl dX11_set_1 ?_
  have j1 : kd (v0 + 1) = 36 := zkd C h0 (k := 0) rfl
  refine z_sipush (v := 1220) C dX11_set_4 rfl ?_
  refine z_sipush (v := 512) C dX11_set_7 rfl ?_
  refine z_iload_n C 1 1 dX11_set_10 rfl rfl ?_
  refine z_imul C dX11_set_11 ?_
  refine z_iadd C dX11_set_12 ?_
  refine z_iload_n C 2 2 dX11_set_13 rfl rfl ?_
  refine z_iadd C dX11_set_14 ?_
  refine z_iload_n C 3 3 dX11_set_15 rfl rfl ?_
  refine z_iast C j1 rfl (by decide) dX11_set_16 (fun _ => ?_)
  exact z_vret C hr (Nat.le_of_ble_eq_true rfl) dX11_set_17 rfl
set_option maxHeartbeats 4000000 in
set_option maxRecDepth 100000 in
theorem z_fX11_isRow_b26 {p : Program} {l : Launch} {e : Env} {s : State} {m : MethodId} {args : Array Value} {below : List Frame} {meth : Method} {c : Code} {D : va_G} {cy : Nat → ClassId} {B : Nat} {kd : Nat → Nat} {n : Nat} {sa sv : Nat → Nat} (C : zC p l s m args meth c D cy B kd n sa sv RX11 cX11_isRow 2) (ht : ∀ x ∈ c.exceptionTable.toList, False) (hr : meth.sig.returnType = some (FieldType.boolean)) {b0 : Bool}   (Mo : Mem)  : Z p l e (rmz 1 0) s m args below meth c (vx_MQ below (QcR D cy B kd n ((pB Mo) b0)) (XcR D cy B kd n ((pB Mo) b0)) args s 0 (6 * 0) (AA B kd n)) D cy B kd n 2 b0 0 26 [] [] Mo (fX11_isRow_b26 Mo) := by
  unfold fX11_isRow_b26
  refine z_iconst C dX11_isRow_26 rfl ?_
  exact z_zret C (v := false) hr (Nat.le_of_ble_eq_true rfl) dX11_isRow_27 rfl
set_option maxHeartbeats 4000000 in
set_option maxRecDepth 100000 in
theorem ctX11_isRow {l : Launch} {D : va_G} {cy : Nat → ClassId} {B : Nat} {kd : Nat → Nat} {n : Nat} {sa sv : Nat → Nat} (G : zG l kd n) (v0 : Nat) (v1 : Int32) (h0 : kd v0 = 11) (Mo : Mem) : CT l D cy B kd n sa sv 1 0 yX11_isRow cX11_isRow 2 (some (FieldType.boolean)) (pB Mo) [.ref (B + v0), .int v1] Mo (fX11_isRow v0 v1 Mo) := by
  refine ct_of (by decide) G.1 G.2 (Nat.le_of_ble_eq_true rfl) (ls := [(0, .ref (B + v0)), (1, .int v1)]) rfl ?_
  intro p e s m args below meth c b0 C ht hr
  unfold fX11_isRow
  refine z_iload_n C 1 1 dX11_isRow_0 rfl rfl ?_
  refine z_i2l C dX11_isRow_1 ?_
  refine z_lconst (v := 0) C dX11_isRow_2 rfl ?_
  refine z_ldc2 C dX11_isRow_3 gw_8_25 ?_
  refine z_callS_pB (As := [.long v1.toInt64, .long (0 : Int64), .long (3 : Int64)]) (rest := []) C rfl (ctX11_within (zG_of C) v1.toInt64 (0 : Int64) (3 : Int64) Mo) cw_RX11_157 (okM_X11_within) rfl (okR_of rfl) (Nat.le_of_ble_eq_true rfl) dX11_isRow_6 (fun qj1 _ => ?_)
  refine z_if_eqB C 26 dX11_isRow_9 rfl (fun _ => ?_) (fun _ => ?_)
  · refine z_aload_n C 0 0 dX11_isRow_12 rfl rfl ?_
    refine z_iload_n C 1 1 dX11_isRow_13 rfl rfl ?_
    refine z_iconst C dX11_isRow_14 rfl ?_
    refine z_callV_pI (As := [.int v1, .int (0 : Int32)]) (rest := []) C rfl (ctX11_get (zG_of C) v0 v1 (0 : Int32) h0 Mo) cw_RX11_237 rfl (okM_X11_get) rfl cl11 h0 (okR_of rfl) (Nat.le_of_ble_eq_true rfl) dX11_isRow_15 (fun qj2 _ => ?_)
    refine z_iconst C dX11_isRow_18 rfl ?_
    refine z_icmp_eq C 26 dX11_isRow_19 rfl (fun _ => ?_) (fun _ => ?_)
    · exact z_jump (ls1 := []) (Nat.le_of_ble_eq_true rfl) [] rfl (z_fX11_isRow_b26 C ht hr Mo)
    · refine z_iconst C dX11_isRow_22 rfl ?_
      refine z_goto C 27 dX11_isRow_23 rfl ?_
      exact z_zret C (v := true) hr (Nat.le_of_ble_eq_true rfl) dX11_isRow_27 rfl
  · exact z_jump (ls1 := []) (Nat.le_of_ble_eq_true rfl) [] rfl (z_fX11_isRow_b26 C ht hr Mo)
set_option maxHeartbeats 4000000 in
set_option maxRecDepth 100000 in
theorem z_fX11_all_b10 {p : Program} {l : Launch} {e : Env} {s : State} {m : MethodId} {args : Array Value} {below : List Frame} {meth : Method} {c : Code} {D : va_G} {cy : Nat → ClassId} {B : Nat} {kd : Nat → Nat} {n : Nat} {sa sv : Nat → Nat} (C : zC p l s m args meth c D cy B kd n sa sv RX11 cX11_all 2) (ht : ∀ x ∈ c.exceptionTable.toList, False) (hr : meth.sig.returnType = some (FieldType.int)) {b0 : Int32}   (Mo : Mem)  : Z p l e (rmz 0 0) s m args below meth c (vx_MQ below (QcR D cy B kd n ((pI Mo) b0)) (XcR D cy B kd n ((pI Mo) b0)) args s 0 (6 * 0) (AA B kd n)) D cy B kd n 2 b0 0 10 [] [] Mo (fX11_all_b10 Mo) := by
  unfold fX11_all_b10
  refine z_bipush (v := 16) C dX11_all_10 rfl ?_
  refine z_goto C 17 dX11_all_12 rfl ?_
  exact z_iret C hr (Nat.le_of_ble_eq_true rfl) dX11_all_17 rfl
set_option maxHeartbeats 4000000 in
set_option maxRecDepth 100000 in
theorem ctX11_all {l : Launch} {D : va_G} {cy : Nat → ClassId} {B : Nat} {kd : Nat → Nat} {n : Nat} {sa sv : Nat → Nat} (G : zG l kd n) (v0 : Nat) (v1 : Int32) (h0 : kd v0 = 11) (Mo : Mem) : CT l D cy B kd n sa sv 0 0 yX11_all cX11_all 2 (some (FieldType.int)) (pI Mo) [.ref (B + v0), .int v1] Mo (fX11_all v0 v1 Mo) := by
  refine ct_of (by decide) G.1 G.2 (Nat.le_of_ble_eq_true rfl) (ls := [(0, .ref (B + v0)), (1, .int v1)]) rfl ?_
  intro p e s m args below meth c b0 C ht hr
  unfold fX11_all
  refine z_iload_n C 1 1 dX11_all_0 rfl rfl ?_
  refine z_iconst C dX11_all_1 rfl ?_
  refine z_icmp_eq C 10 dX11_all_2 rfl (fun _ => ?_) (fun _ => ?_)
  · exact z_jump (ls1 := []) (Nat.le_of_ble_eq_true rfl) [] rfl (z_fX11_all_b10 C ht hr Mo)
  · refine z_iload_n C 1 1 dX11_all_5 rfl rfl ?_
    refine z_iconst C dX11_all_6 rfl ?_
    refine z_icmp_ne C 15 dX11_all_7 rfl (fun _ => ?_) (fun _ => ?_)
    · exact z_jump (ls1 := []) (Nat.le_of_ble_eq_true rfl) [] rfl (z_fX11_all_b10 C ht hr Mo)
    · refine z_bipush (v := 64) C dX11_all_15 rfl ?_
      exact z_iret C hr (Nat.le_of_ble_eq_true rfl) dX11_all_17 rfl
set_option maxHeartbeats 4000000 in
set_option maxRecDepth 100000 in
theorem z_fX11_make_l192_s {p : Program} {l : Launch} {e : Env} {s : State} {m : MethodId} {args : Array Value} {below : List Frame} {meth : Method} {c : Code} {D : va_G} {cy : Nat → ClassId} {B : Nat} {kd : Nat → Nat} {n : Nat} {sa sv : Nat → Nat} (C : zC p l s m args meth c D cy B kd n sa sv RX11 cX11_make 9) (ht : ∀ x ∈ c.exceptionTable.toList, False) (hr : meth.sig.returnType = none) {b0 : Mem} (N : Nat) (v0 : Nat) (v1 : Int32) (v2 : Int32) (v3 : Int32) (v4 : Int32) (v5 : Int32) (k192 : Int32 → Mem → Option Mem) (v8 : Int32) (M : Mem) (h0 : kd v0 = 11)  (hk192 : ∀ (v8 : Int32) (M : Mem), Z p l e (rmz 1 0) s m args below meth c (vx_MQ below (QcR D cy B kd n (cvV b0)) (XcR D cy B kd n (cvV b0)) args s 0 (6 * 0) (AA B kd n)) D cy B kd n 9 b0 0 192 [(0, .ref (B + v0)), (1, .int v1), (2, .int v2), (3, .int v3), (4, .int v4), (5, .int v5), (8, .int v8)] [] M (k192 v8 M)) : Z p l e (rmz 1 0) s m args below meth c (vx_MQ below (QcR D cy B kd n (cvV b0)) (XcR D cy B kd n (cvV b0)) args s 0 (6 * 0) (AA B kd n)) D cy B kd n 9 b0 0 192 [(0, .ref (B + v0)), (1, .int v1), (2, .int v2), (3, .int v3), (4, .int v4), (5, .int v5), (8, .int v8)] [] M (fX11_make_l192_s N v0 v1 v2 v3 v4 v5 k192 v8 M) := by
  unfold fX11_make_l192_s
  refine z_iload C 6 dX11_make_192 rfl ?_
  refine z_sipush (v := 512) C dX11_make_194 rfl ?_
  refine z_icmp_ge C 214 dX11_make_197 rfl (fun _ => ?_) (fun _ => ?_)
  · refine z_aload_n C 0 0 dX11_make_214 rfl rfl ?_
    refine z_iload_n C 1 1 dX11_make_215 rfl rfl ?_
    refine z_iconst C dX11_make_216 rfl ?_
    refine z_iload_n C 2 2 dX11_make_217 rfl rfl ?_
    refine z_callV_V (As := [.int v1, .int (0 : Int32), .int v2]) (rest := []) C rfl (ctX11_set (zG_of C) v0 v1 (0 : Int32) v2 h0 M) cw_RX11_252 rfl (okM_X11_set) rfl cl11 h0 (okR_of rfl) (Nat.le_of_ble_eq_true rfl) dX11_make_218 (fun qj1 _ => ?_)
    refine z_aload_n C 0 0 dX11_make_221 rfl rfl ?_
    refine z_iload_n C 1 1 dX11_make_222 rfl rfl ?_
    refine z_iconst C dX11_make_223 rfl ?_
    refine z_iload_n C 3 3 dX11_make_224 rfl rfl ?_
    refine z_callV_V (As := [.int v1, .int (1 : Int32), .int v3]) (rest := []) C rfl (ctX11_set (zG_of C) v0 v1 (1 : Int32) v3 h0 qj1) cw_RX11_252 rfl (okM_X11_set) rfl cl11 h0 (okR_of rfl) (Nat.le_of_ble_eq_true rfl) dX11_make_225 (fun qj2 _ => ?_)
    refine z_aload_n C 0 0 dX11_make_228 rfl rfl ?_
    refine z_iload_n C 1 1 dX11_make_229 rfl rfl ?_
    refine z_iconst C dX11_make_230 rfl ?_
    refine z_iload C 4 dX11_make_231 rfl ?_
    refine z_callV_V (As := [.int v1, .int (2 : Int32), .int v4]) (rest := []) C rfl (ctX11_set (zG_of C) v0 v1 (2 : Int32) v4 h0 qj2) cw_RX11_252 rfl (okM_X11_set) rfl cl11 h0 (okR_of rfl) (Nat.le_of_ble_eq_true rfl) dX11_make_233 (fun qj3 _ => ?_)
    refine z_aload_n C 0 0 dX11_make_236 rfl rfl ?_
    refine z_iload_n C 1 1 dX11_make_237 rfl rfl ?_
    refine z_iconst C dX11_make_238 rfl ?_
    refine z_iload C 5 dX11_make_239 rfl ?_
    refine z_callV_V (As := [.int v1, .int (3 : Int32), .int v5]) (rest := []) C rfl (ctX11_set (zG_of C) v0 v1 (3 : Int32) v5 h0 qj3) cw_RX11_252 rfl (okM_X11_set) rfl cl11 h0 (okR_of rfl) (Nat.le_of_ble_eq_true rfl) dX11_make_241 (fun qj4 _ => ?_)
    refine z_aload_n C 0 0 dX11_make_244 rfl rfl ?_
    refine z_iload_n C 1 1 dX11_make_245 rfl rfl ?_
    refine z_iconst C dX11_make_246 rfl ?_
    refine z_iconst C dX11_make_247 rfl ?_
    refine z_callV_V (As := [.int v1, .int (4 : Int32), .int (1 : Int32)]) (rest := []) C rfl (ctX11_set (zG_of C) v0 v1 (4 : Int32) (1 : Int32) h0 qj4) cw_RX11_252 rfl (okM_X11_set) rfl cl11 h0 (okR_of rfl) (Nat.le_of_ble_eq_true rfl) dX11_make_248 (fun qj5 _ => ?_)
    exact z_vret C hr (Nat.le_of_ble_eq_true rfl) dX11_make_251 rfl
  · refine z_aload_n C 0 0 dX11_make_200 rfl rfl ?_
    refine z_iload_n C 1 1 dX11_make_201 rfl rfl ?_
    refine z_iload C 6 dX11_make_202 rfl ?_
    refine z_iconst C dX11_make_204 rfl ?_
    refine z_callV_V (As := [.int v1, .int v8, .int (0 : Int32)]) (rest := []) C rfl (ctX11_set (zG_of C) v0 v1 v8 (0 : Int32) h0 M) cw_RX11_252 rfl (okM_X11_set) rfl cl11 h0 (okR_of rfl) (Nat.le_of_ble_eq_true rfl) dX11_make_205 (fun qj6 _ => ?_)
    refine z_iinc C 8 6 (v := v8) (v1 := (v8 + (1 : Int32))) (ls1 := [(8, .int (v8 + (1 : Int32))), (0, .ref (B + v0)), (1, .int v1), (2, .int v2), (3, .int v3), (4, .int v4), (5, .int v5)]) dX11_make_208 rfl rfl (by decide) rfl ?_
    refine z_goto C 192 dX11_make_211 rfl ?_
    exact z_jump (ls1 := [(0, .ref (B + v0)), (1, .int v1), (2, .int v2), (3, .int v3), (4, .int v4), (5, .int v5), (8, .int (v8 + (1 : Int32)))]) (Nat.le_of_ble_eq_true rfl) [1, 2, 3, 4, 5, 6, 0] rfl (hk192 (v8 + (1 : Int32)) qj6)
theorem z_fX11_make_l192_i {p : Program} {l : Launch} {e : Env} {s : State} {m : MethodId} {args : Array Value} {below : List Frame} {meth : Method} {c : Code} {D : va_G} {cy : Nat → ClassId} {B : Nat} {kd : Nat → Nat} {n : Nat} {sa sv : Nat → Nat} (C : zC p l s m args meth c D cy B kd n sa sv RX11 cX11_make 9) (ht : ∀ x ∈ c.exceptionTable.toList, False) (hr : meth.sig.returnType = none) {b0 : Mem} (N : Nat) (v0 : Nat) (v1 : Int32) (v2 : Int32) (v3 : Int32) (v4 : Int32) (v5 : Int32) (h0 : kd v0 = 11)  (fu : Nat) : ∀ (v8 : Int32) (M : Mem), Z p l e (rmz 1 0) s m args below meth c (vx_MQ below (QcR D cy B kd n (cvV b0)) (XcR D cy B kd n (cvV b0)) args s 0 (6 * 0) (AA B kd n)) D cy B kd n 9 b0 0 192 [(0, .ref (B + v0)), (1, .int v1), (2, .int v2), (3, .int v3), (4, .int v4), (5, .int v5), (8, .int v8)] [] M (fX11_make_l192 N v0 v1 v2 v3 v4 v5 fu v8 M) := by
  induction fu with
  | zero => intro v8 M; exact z_none
  | succ fu ih => intro v8 M; exact z_fX11_make_l192_s C ht hr N v0 v1 v2 v3 v4 v5 (fX11_make_l192 N v0 v1 v2 v3 v4 v5 fu) v8 M h0 (fun v8 M => ih v8 M)
theorem z_fX11_make_l192 {p : Program} {l : Launch} {e : Env} {s : State} {m : MethodId} {args : Array Value} {below : List Frame} {meth : Method} {c : Code} {D : va_G} {cy : Nat → ClassId} {B : Nat} {kd : Nat → Nat} {n : Nat} {sa sv : Nat → Nat} (C : zC p l s m args meth c D cy B kd n sa sv RX11 cX11_make 9) (ht : ∀ x ∈ c.exceptionTable.toList, False) (hr : meth.sig.returnType = none) {b0 : Mem} (N : Nat) (v0 : Nat) (v1 : Int32) (v2 : Int32) (v3 : Int32) (v4 : Int32) (v5 : Int32) (fu : Nat) (v8 : Int32) (M : Mem) (h0 : kd v0 = 11)  : Z p l e (rmz 1 0) s m args below meth c (vx_MQ below (QcR D cy B kd n (cvV b0)) (XcR D cy B kd n (cvV b0)) args s 0 (6 * 0) (AA B kd n)) D cy B kd n 9 b0 0 192 [(0, .ref (B + v0)), (1, .int v1), (2, .int v2), (3, .int v3), (4, .int v4), (5, .int v5), (8, .int v8)] [] M (fX11_make_l192 N v0 v1 v2 v3 v4 v5 fu v8 M) := z_fX11_make_l192_i C ht hr N v0 v1 v2 v3 v4 v5 h0 fu v8 M
set_option maxHeartbeats 4000000 in
set_option maxRecDepth 100000 in
theorem z_fX11_make_b181 {p : Program} {l : Launch} {e : Env} {s : State} {m : MethodId} {args : Array Value} {below : List Frame} {meth : Method} {c : Code} {D : va_G} {cy : Nat → ClassId} {B : Nat} {kd : Nat → Nat} {n : Nat} {sa sv : Nat → Nat} (C : zC p l s m args meth c D cy B kd n sa sv RX11 cX11_make 9) (ht : ∀ x ∈ c.exceptionTable.toList, False) (hr : meth.sig.returnType = none) {b0 : Mem}  (N : Nat) (v0 : Nat) (v1 : Int32) (v2 : Int32) (v3 : Int32) (v4 : Int32) (v5 : Int32) (M : Mem) (h0 : kd v0 = 11)  : Z p l e (rmz 1 0) s m args below meth c (vx_MQ below (QcR D cy B kd n (cvV b0)) (XcR D cy B kd n (cvV b0)) args s 0 (6 * 0) (AA B kd n)) D cy B kd n 9 b0 0 181 [(0, .ref (B + v0)), (1, .int v1), (2, .int v2), (3, .int v3), (4, .int v4), (5, .int v5)] [] M (fX11_make_b181 N v0 v1 v2 v3 v4 v5 M) := by
  unfold fX11_make_b181
  refine z_aload_n C 0 0 dX11_make_181 rfl rfl ?_
  refine z_getI (k := 5) C cl11 h0 rfl gw_7_15 rfl dX11_make_182 ?_
  refine z_if_le C 189 dX11_make_185 rfl (fun _ => ?_) (fun _ => ?_)
  · refine z_iconst C dX11_make_189 rfl ?_
    refine z_istore C 8 (ls1 := [(8, .int (0 : Int32)), (0, .ref (B + v0)), (1, .int v1), (2, .int v2), (3, .int v3), (4, .int v4), (5, .int v5)]) dX11_make_190 (by decide) rfl ?_
    exact z_jump (ls1 := [(0, .ref (B + v0)), (1, .int v1), (2, .int v2), (3, .int v3), (4, .int v4), (5, .int v5), (8, .int (0 : Int32))]) (Nat.le_of_ble_eq_true rfl) [1, 2, 3, 4, 5, 6, 0] rfl (z_fX11_make_l192 C ht hr N v0 v1 v2 v3 v4 v5 N (0 : Int32) M h0)
  · exact z_vret C hr (Nat.le_of_ble_eq_true rfl) dX11_make_188 rfl
set_option maxHeartbeats 4000000 in
set_option maxRecDepth 100000 in
theorem z_fX11_make_b162 {p : Program} {l : Launch} {e : Env} {s : State} {m : MethodId} {args : Array Value} {below : List Frame} {meth : Method} {c : Code} {D : va_G} {cy : Nat → ClassId} {B : Nat} {kd : Nat → Nat} {n : Nat} {sa sv : Nat → Nat} (C : zC p l s m args meth c D cy B kd n sa sv RX11 cX11_make 9) (ht : ∀ x ∈ c.exceptionTable.toList, False) (hr : meth.sig.returnType = none) {b0 : Mem}  (N : Nat) (v0 : Nat) (v1 : Int32) (v2 : Int32) (v3 : Int32) (v4 : Int32) (v5 : Int32) (s0 : Bool) (M : Mem) (h0 : kd v0 = 11)  : Z p l e (rmz 1 0) s m args below meth c (vx_MQ below (QcR D cy B kd n (cvV b0)) (XcR D cy B kd n (cvV b0)) args s 0 (6 * 0) (AA B kd n)) D cy B kd n 9 b0 0 162 [(0, .ref (B + v0)), (1, .int v1), (2, .int v2), (3, .int v3), (4, .int v4), (5, .int v5)] [.int (bI s0)] M (fX11_make_b162 N v0 v1 v2 v3 v4 v5 s0 M) := by
  unfold fX11_make_b162
  refine z_istore C 7 (ls1 := [(7, .int (bI s0)), (0, .ref (B + v0)), (1, .int v1), (2, .int v2), (3, .int v3), (4, .int v4), (5, .int v5)]) dX11_make_162 (by decide) rfl ?_
  refine z_aload_n C 0 1 dX11_make_164 rfl rfl ?_
  refine z_getI (k := 5) C cl11 h0 rfl gw_7_15 rfl dX11_make_165 ?_
  refine z_if_ne C 181 dX11_make_168 rfl (fun _ => ?_) (fun _ => ?_)
  · refine z_iload C 0 dX11_make_171 rfl ?_
    refine z_if_neB C 181 dX11_make_173 rfl (fun _ => ?_) (fun _ => ?_)
    · exact z_jump (ls1 := [(0, .ref (B + v0)), (1, .int v1), (2, .int v2), (3, .int v3), (4, .int v4), (5, .int v5)]) (Nat.le_of_ble_eq_true rfl) [1, 2, 3, 4, 5, 6] rfl (z_fX11_make_b181 C ht hr N v0 v1 v2 v3 v4 v5 M h0)
    · refine z_aload_n C 0 1 dX11_make_176 rfl rfl ?_
      refine z_iconst C dX11_make_177 rfl ?_
      refine z_putI (k := 5) C cl11 h0 rfl gw_7_15 rfl rfl rfl dX11_make_178 ?_
      exact z_jump (ls1 := [(0, .ref (B + v0)), (1, .int v1), (2, .int v2), (3, .int v3), (4, .int v4), (5, .int v5)]) (Nat.le_of_ble_eq_true rfl) [1, 2, 3, 4, 5, 6] rfl (z_fX11_make_b181 C ht hr N v0 v1 v2 v3 v4 v5 (wI M v0 5 (2 : Int32)) h0)
  · exact z_jump (ls1 := [(0, .ref (B + v0)), (1, .int v1), (2, .int v2), (3, .int v3), (4, .int v4), (5, .int v5)]) (Nat.le_of_ble_eq_true rfl) [1, 2, 3, 4, 5, 6] rfl (z_fX11_make_b181 C ht hr N v0 v1 v2 v3 v4 v5 M h0)
set_option maxHeartbeats 4000000 in
set_option maxRecDepth 100000 in
theorem z_fX11_make_b157 {p : Program} {l : Launch} {e : Env} {s : State} {m : MethodId} {args : Array Value} {below : List Frame} {meth : Method} {c : Code} {D : va_G} {cy : Nat → ClassId} {B : Nat} {kd : Nat → Nat} {n : Nat} {sa sv : Nat → Nat} (C : zC p l s m args meth c D cy B kd n sa sv RX11 cX11_make 9) (ht : ∀ x ∈ c.exceptionTable.toList, False) (hr : meth.sig.returnType = none) {b0 : Mem}  (N : Nat) (v0 : Nat) (v1 : Int32) (v2 : Int32) (v3 : Int32) (v4 : Int32) (v5 : Int32) (M : Mem) (h0 : kd v0 = 11)  : Z p l e (rmz 1 0) s m args below meth c (vx_MQ below (QcR D cy B kd n (cvV b0)) (XcR D cy B kd n (cvV b0)) args s 0 (6 * 0) (AA B kd n)) D cy B kd n 9 b0 0 157 [(0, .ref (B + v0)), (1, .int v1), (2, .int v2), (3, .int v3), (4, .int v4), (5, .int v5)] [] M (fX11_make_b157 N v0 v1 v2 v3 v4 v5 M) := by
  unfold fX11_make_b157
  refine z_iconst C dX11_make_157 rfl ?_
  refine z_goto C 162 dX11_make_158 rfl ?_
  exact z_jump (ls1 := [(0, .ref (B + v0)), (1, .int v1), (2, .int v2), (3, .int v3), (4, .int v4), (5, .int v5)]) (Nat.le_of_ble_eq_true rfl) [0, 1, 2, 3, 4, 5] rfl (z_fX11_make_b162 C ht hr N v0 v1 v2 v3 v4 v5 true M h0)
set_option maxHeartbeats 4000000 in
set_option maxRecDepth 100000 in
theorem z_fX11_make_b161 {p : Program} {l : Launch} {e : Env} {s : State} {m : MethodId} {args : Array Value} {below : List Frame} {meth : Method} {c : Code} {D : va_G} {cy : Nat → ClassId} {B : Nat} {kd : Nat → Nat} {n : Nat} {sa sv : Nat → Nat} (C : zC p l s m args meth c D cy B kd n sa sv RX11 cX11_make 9) (ht : ∀ x ∈ c.exceptionTable.toList, False) (hr : meth.sig.returnType = none) {b0 : Mem}  (N : Nat) (v0 : Nat) (v1 : Int32) (v2 : Int32) (v3 : Int32) (v4 : Int32) (v5 : Int32) (M : Mem) (h0 : kd v0 = 11)  : Z p l e (rmz 1 0) s m args below meth c (vx_MQ below (QcR D cy B kd n (cvV b0)) (XcR D cy B kd n (cvV b0)) args s 0 (6 * 0) (AA B kd n)) D cy B kd n 9 b0 0 161 [(0, .ref (B + v0)), (1, .int v1), (2, .int v2), (3, .int v3), (4, .int v4), (5, .int v5)] [] M (fX11_make_b161 N v0 v1 v2 v3 v4 v5 M) := by
  unfold fX11_make_b161
  refine z_iconst C dX11_make_161 rfl ?_
  exact z_jump (ls1 := [(0, .ref (B + v0)), (1, .int v1), (2, .int v2), (3, .int v3), (4, .int v4), (5, .int v5)]) (Nat.le_of_ble_eq_true rfl) [0, 1, 2, 3, 4, 5] rfl (z_fX11_make_b162 C ht hr N v0 v1 v2 v3 v4 v5 false M h0)
set_option maxHeartbeats 4000000 in
set_option maxRecDepth 100000 in
theorem z_fX11_make_b103 {p : Program} {l : Launch} {e : Env} {s : State} {m : MethodId} {args : Array Value} {below : List Frame} {meth : Method} {c : Code} {D : va_G} {cy : Nat → ClassId} {B : Nat} {kd : Nat → Nat} {n : Nat} {sa sv : Nat → Nat} (C : zC p l s m args meth c D cy B kd n sa sv RX11 cX11_make 9) (ht : ∀ x ∈ c.exceptionTable.toList, False) (hr : meth.sig.returnType = none) {b0 : Mem}  (N : Nat) (v0 : Nat) (v1 : Int32) (v2 : Int32) (v3 : Int32) (v4 : Int32) (v5 : Int32) (s0 : Bool) (M : Mem) (h0 : kd v0 = 11)  : Z p l e (rmz 1 0) s m args below meth c (vx_MQ below (QcR D cy B kd n (cvV b0)) (XcR D cy B kd n (cvV b0)) args s 0 (6 * 0) (AA B kd n)) D cy B kd n 9 b0 0 103 [(0, .ref (B + v0)), (1, .int v1), (2, .int v2), (3, .int v3), (4, .int v4), (5, .int v5)] [.int (bI s0)] M (fX11_make_b103 N v0 v1 v2 v3 v4 v5 s0 M) := by
  unfold fX11_make_b103
  refine z_istore C 7 (ls1 := [(7, .int (bI s0)), (0, .ref (B + v0)), (1, .int v1), (2, .int v2), (3, .int v3), (4, .int v4), (5, .int v5)]) dX11_make_103 (by decide) rfl ?_
  refine z_iload C 0 dX11_make_105 rfl ?_
  refine z_if_eqB C 161 dX11_make_107 rfl (fun _ => ?_) (fun _ => ?_)
  · refine z_iload_n C 2 3 dX11_make_110 rfl rfl ?_
    refine z_iconst C dX11_make_111 rfl ?_
    refine z_icmp_ne C 131 dX11_make_112 rfl (fun _ => ?_) (fun _ => ?_)
    · refine z_iload C 6 dX11_make_115 rfl ?_
      refine z_i2l C dX11_make_117 ?_
      refine z_lconst (v := 1) C dX11_make_118 rfl ?_
      refine z_ldc2 C dX11_make_119 gw_8_27 ?_
      refine z_callS_pB (As := [.long v5.toInt64, .long (1 : Int64), .long (4 : Int64)]) (rest := []) C rfl (ctX11_within (zG_of C) v5.toInt64 (1 : Int64) (4 : Int64) M) cw_RX11_157 (okM_X11_within) rfl (okR_of rfl) (Nat.le_of_ble_eq_true rfl) dX11_make_122 (fun qj1 _ => ?_)
      refine z_if_eqB C 161 dX11_make_125 rfl (fun _ => ?_) (fun _ => ?_)
      · refine z_goto C 157 dX11_make_128 rfl ?_
        exact z_jump (ls1 := [(0, .ref (B + v0)), (1, .int v1), (2, .int v2), (3, .int v3), (4, .int v4), (5, .int v5)]) (Nat.le_of_ble_eq_true rfl) [1, 2, 3, 4, 5, 6] rfl (z_fX11_make_b157 C ht hr N v0 v1 v2 v3 v4 v5 M h0)
      · exact z_jump (ls1 := [(0, .ref (B + v0)), (1, .int v1), (2, .int v2), (3, .int v3), (4, .int v4), (5, .int v5)]) (Nat.le_of_ble_eq_true rfl) [1, 2, 3, 4, 5, 6] rfl (z_fX11_make_b161 C ht hr N v0 v1 v2 v3 v4 v5 M h0)
    · refine z_iload_n C 2 3 dX11_make_131 rfl rfl ?_
      refine z_iconst C dX11_make_132 rfl ?_
      refine z_icmp_ne C 152 dX11_make_133 rfl (fun _ => ?_) (fun _ => ?_)
      · refine z_iload C 6 dX11_make_136 rfl ?_
        refine z_i2l C dX11_make_138 ?_
        refine z_lconst (v := 1) C dX11_make_139 rfl ?_
        refine z_ldc2 C dX11_make_140 gw_8_32 ?_
        refine z_callS_pB (As := [.long v5.toInt64, .long (1 : Int64), .long (20 : Int64)]) (rest := []) C rfl (ctX11_within (zG_of C) v5.toInt64 (1 : Int64) (20 : Int64) M) cw_RX11_157 (okM_X11_within) rfl (okR_of rfl) (Nat.le_of_ble_eq_true rfl) dX11_make_143 (fun qj2 _ => ?_)
        refine z_if_eqB C 161 dX11_make_146 rfl (fun _ => ?_) (fun _ => ?_)
        · refine z_goto C 157 dX11_make_149 rfl ?_
          exact z_jump (ls1 := [(0, .ref (B + v0)), (1, .int v1), (2, .int v2), (3, .int v3), (4, .int v4), (5, .int v5)]) (Nat.le_of_ble_eq_true rfl) [1, 2, 3, 4, 5, 6] rfl (z_fX11_make_b157 C ht hr N v0 v1 v2 v3 v4 v5 M h0)
        · exact z_jump (ls1 := [(0, .ref (B + v0)), (1, .int v1), (2, .int v2), (3, .int v3), (4, .int v4), (5, .int v5)]) (Nat.le_of_ble_eq_true rfl) [1, 2, 3, 4, 5, 6] rfl (z_fX11_make_b161 C ht hr N v0 v1 v2 v3 v4 v5 M h0)
      · refine z_iload C 6 dX11_make_152 rfl ?_
        refine z_if_ne C 161 dX11_make_154 rfl (fun _ => ?_) (fun _ => ?_)
        · exact z_jump (ls1 := [(0, .ref (B + v0)), (1, .int v1), (2, .int v2), (3, .int v3), (4, .int v4), (5, .int v5)]) (Nat.le_of_ble_eq_true rfl) [1, 2, 3, 4, 5, 6] rfl (z_fX11_make_b157 C ht hr N v0 v1 v2 v3 v4 v5 M h0)
        · exact z_jump (ls1 := [(0, .ref (B + v0)), (1, .int v1), (2, .int v2), (3, .int v3), (4, .int v4), (5, .int v5)]) (Nat.le_of_ble_eq_true rfl) [1, 2, 3, 4, 5, 6] rfl (z_fX11_make_b161 C ht hr N v0 v1 v2 v3 v4 v5 M h0)
  · exact z_jump (ls1 := [(0, .ref (B + v0)), (1, .int v1), (2, .int v2), (3, .int v3), (4, .int v4), (5, .int v5)]) (Nat.le_of_ble_eq_true rfl) [1, 2, 3, 4, 5, 6] rfl (z_fX11_make_b161 C ht hr N v0 v1 v2 v3 v4 v5 M h0)
set_option maxHeartbeats 4000000 in
set_option maxRecDepth 100000 in
theorem z_fX11_make_b98 {p : Program} {l : Launch} {e : Env} {s : State} {m : MethodId} {args : Array Value} {below : List Frame} {meth : Method} {c : Code} {D : va_G} {cy : Nat → ClassId} {B : Nat} {kd : Nat → Nat} {n : Nat} {sa sv : Nat → Nat} (C : zC p l s m args meth c D cy B kd n sa sv RX11 cX11_make 9) (ht : ∀ x ∈ c.exceptionTable.toList, False) (hr : meth.sig.returnType = none) {b0 : Mem}  (N : Nat) (v0 : Nat) (v1 : Int32) (v2 : Int32) (v3 : Int32) (v4 : Int32) (v5 : Int32) (M : Mem) (h0 : kd v0 = 11)  : Z p l e (rmz 1 0) s m args below meth c (vx_MQ below (QcR D cy B kd n (cvV b0)) (XcR D cy B kd n (cvV b0)) args s 0 (6 * 0) (AA B kd n)) D cy B kd n 9 b0 0 98 [(0, .ref (B + v0)), (1, .int v1), (2, .int v2), (3, .int v3), (4, .int v4), (5, .int v5)] [] M (fX11_make_b98 N v0 v1 v2 v3 v4 v5 M) := by
  unfold fX11_make_b98
  refine z_iconst C dX11_make_98 rfl ?_
  refine z_goto C 103 dX11_make_99 rfl ?_
  exact z_jump (ls1 := [(0, .ref (B + v0)), (1, .int v1), (2, .int v2), (3, .int v3), (4, .int v4), (5, .int v5)]) (Nat.le_of_ble_eq_true rfl) [0, 1, 2, 3, 4, 5] rfl (z_fX11_make_b103 C ht hr N v0 v1 v2 v3 v4 v5 true M h0)
set_option maxHeartbeats 4000000 in
set_option maxRecDepth 100000 in
theorem z_fX11_make_b102 {p : Program} {l : Launch} {e : Env} {s : State} {m : MethodId} {args : Array Value} {below : List Frame} {meth : Method} {c : Code} {D : va_G} {cy : Nat → ClassId} {B : Nat} {kd : Nat → Nat} {n : Nat} {sa sv : Nat → Nat} (C : zC p l s m args meth c D cy B kd n sa sv RX11 cX11_make 9) (ht : ∀ x ∈ c.exceptionTable.toList, False) (hr : meth.sig.returnType = none) {b0 : Mem}  (N : Nat) (v0 : Nat) (v1 : Int32) (v2 : Int32) (v3 : Int32) (v4 : Int32) (v5 : Int32) (M : Mem) (h0 : kd v0 = 11)  : Z p l e (rmz 1 0) s m args below meth c (vx_MQ below (QcR D cy B kd n (cvV b0)) (XcR D cy B kd n (cvV b0)) args s 0 (6 * 0) (AA B kd n)) D cy B kd n 9 b0 0 102 [(0, .ref (B + v0)), (1, .int v1), (2, .int v2), (3, .int v3), (4, .int v4), (5, .int v5)] [] M (fX11_make_b102 N v0 v1 v2 v3 v4 v5 M) := by
  unfold fX11_make_b102
  refine z_iconst C dX11_make_102 rfl ?_
  exact z_jump (ls1 := [(0, .ref (B + v0)), (1, .int v1), (2, .int v2), (3, .int v3), (4, .int v4), (5, .int v5)]) (Nat.le_of_ble_eq_true rfl) [0, 1, 2, 3, 4, 5] rfl (z_fX11_make_b103 C ht hr N v0 v1 v2 v3 v4 v5 false M h0)
set_option maxHeartbeats 4000000 in
set_option maxRecDepth 100000 in
theorem z_fX11_make_b45 {p : Program} {l : Launch} {e : Env} {s : State} {m : MethodId} {args : Array Value} {below : List Frame} {meth : Method} {c : Code} {D : va_G} {cy : Nat → ClassId} {B : Nat} {kd : Nat → Nat} {n : Nat} {sa sv : Nat → Nat} (C : zC p l s m args meth c D cy B kd n sa sv RX11 cX11_make 9) (ht : ∀ x ∈ c.exceptionTable.toList, False) (hr : meth.sig.returnType = none) {b0 : Mem}  (N : Nat) (v0 : Nat) (v1 : Int32) (v2 : Int32) (v3 : Int32) (v4 : Int32) (v5 : Int32) (s0 : Int32) (M : Mem) (h0 : kd v0 = 11)  : Z p l e (rmz 1 0) s m args below meth c (vx_MQ below (QcR D cy B kd n (cvV b0)) (XcR D cy B kd n (cvV b0)) args s 0 (6 * 0) (AA B kd n)) D cy B kd n 9 b0 0 45 [(0, .ref (B + v0)), (1, .int v1), (2, .int v2), (3, .int v3), (4, .int v4), (5, .int v5)] [.int s0] M (fX11_make_b45 N v0 v1 v2 v3 v4 v5 s0 M) := by
  unfold fX11_make_b45
  refine z_istore C 6 (ls1 := [(6, .int s0), (0, .ref (B + v0)), (1, .int v1), (2, .int v2), (3, .int v3), (4, .int v4), (5, .int v5)]) dX11_make_45 (by decide) rfl ?_
  refine z_iload_n C 2 3 dX11_make_47 rfl rfl ?_
  refine z_i2l C dX11_make_48 ?_
  refine z_lconst (v := 0) C dX11_make_49 rfl ?_
  refine z_ldc2 C dX11_make_50 gw_8_27 ?_
  refine z_callS_pB (As := [.long v2.toInt64, .long (0 : Int64), .long (4 : Int64)]) (rest := []) C rfl (ctX11_within (zG_of C) v2.toInt64 (0 : Int64) (4 : Int64) M) cw_RX11_157 (okM_X11_within) rfl (okR_of rfl) (Nat.le_of_ble_eq_true rfl) dX11_make_53 (fun qj1 _ => ?_)
  refine z_if_eqB C 102 dX11_make_56 rfl (fun _ => ?_) (fun _ => ?_)
  · refine z_iload_n C 3 4 dX11_make_59 rfl rfl ?_
    refine z_i2l C dX11_make_60 ?_
    refine z_lconst (v := 1) C dX11_make_61 rfl ?_
    refine z_aload_n C 0 1 dX11_make_62 rfl rfl ?_
    refine z_iload_n C 2 3 dX11_make_63 rfl rfl ?_
    refine z_callV_pI (As := [.int v2]) (rest := [.long (1 : Int64), .long v3.toInt64]) C rfl (ctX11_all (zG_of C) v0 v2 h0 M) cw_RX11_247 rfl (okM_X11_all) rfl cl11 h0 (okR_of rfl) (Nat.le_of_ble_eq_true rfl) dX11_make_64 (fun qj2 _ => ?_)
    refine z_i2l C dX11_make_67 ?_
    refine z_callS_pB (As := [.long v3.toInt64, .long (1 : Int64), .long qj2.toInt64]) (rest := []) C rfl (ctX11_within (zG_of C) v3.toInt64 (1 : Int64) qj2.toInt64 M) cw_RX11_157 (okM_X11_within) rfl (okR_of rfl) (Nat.le_of_ble_eq_true rfl) dX11_make_68 (fun qj3 _ => ?_)
    refine z_if_eqB C 102 dX11_make_71 rfl (fun _ => ?_) (fun _ => ?_)
    · refine z_iload C 5 dX11_make_74 rfl ?_
      refine z_i2l C dX11_make_76 ?_
      refine z_lconst (v := 1) C dX11_make_77 rfl ?_
      refine z_iload C 0 dX11_make_78 rfl ?_
      refine z_i2l C dX11_make_80 ?_
      refine z_callS_pB (As := [.long v4.toInt64, .long (1 : Int64), .long s0.toInt64]) (rest := []) C rfl (ctX11_within (zG_of C) v4.toInt64 (1 : Int64) s0.toInt64 M) cw_RX11_157 (okM_X11_within) rfl (okR_of rfl) (Nat.le_of_ble_eq_true rfl) dX11_make_81 (fun qj4 _ => ?_)
      refine z_if_eqB C 102 dX11_make_84 rfl (fun _ => ?_) (fun _ => ?_)
      · refine z_iload_n C 2 3 dX11_make_87 rfl rfl ?_
        refine z_iconst C dX11_make_88 rfl ?_
        refine z_icmp_ne C 98 dX11_make_89 rfl (fun _ => ?_) (fun _ => ?_)
        · refine z_iload C 5 dX11_make_92 rfl ?_
          refine z_iconst C dX11_make_94 rfl ?_
          refine z_icmp_ne C 102 dX11_make_95 rfl (fun _ => ?_) (fun _ => ?_)
          · exact z_jump (ls1 := [(0, .ref (B + v0)), (1, .int v1), (2, .int v2), (3, .int v3), (4, .int v4), (5, .int v5)]) (Nat.le_of_ble_eq_true rfl) [1, 2, 3, 4, 5, 6] rfl (z_fX11_make_b98 C ht hr N v0 v1 v2 v3 v4 v5 M h0)
          · exact z_jump (ls1 := [(0, .ref (B + v0)), (1, .int v1), (2, .int v2), (3, .int v3), (4, .int v4), (5, .int v5)]) (Nat.le_of_ble_eq_true rfl) [1, 2, 3, 4, 5, 6] rfl (z_fX11_make_b102 C ht hr N v0 v1 v2 v3 v4 v5 M h0)
        · exact z_jump (ls1 := [(0, .ref (B + v0)), (1, .int v1), (2, .int v2), (3, .int v3), (4, .int v4), (5, .int v5)]) (Nat.le_of_ble_eq_true rfl) [1, 2, 3, 4, 5, 6] rfl (z_fX11_make_b98 C ht hr N v0 v1 v2 v3 v4 v5 M h0)
      · exact z_jump (ls1 := [(0, .ref (B + v0)), (1, .int v1), (2, .int v2), (3, .int v3), (4, .int v4), (5, .int v5)]) (Nat.le_of_ble_eq_true rfl) [1, 2, 3, 4, 5, 6] rfl (z_fX11_make_b102 C ht hr N v0 v1 v2 v3 v4 v5 M h0)
    · exact z_jump (ls1 := [(0, .ref (B + v0)), (1, .int v1), (2, .int v2), (3, .int v3), (4, .int v4), (5, .int v5)]) (Nat.le_of_ble_eq_true rfl) [1, 2, 3, 4, 5, 6] rfl (z_fX11_make_b102 C ht hr N v0 v1 v2 v3 v4 v5 M h0)
  · exact z_jump (ls1 := [(0, .ref (B + v0)), (1, .int v1), (2, .int v2), (3, .int v3), (4, .int v4), (5, .int v5)]) (Nat.le_of_ble_eq_true rfl) [1, 2, 3, 4, 5, 6] rfl (z_fX11_make_b102 C ht hr N v0 v1 v2 v3 v4 v5 M h0)
set_option maxHeartbeats 4000000 in
set_option maxRecDepth 100000 in
theorem z_fX11_make_b18 {p : Program} {l : Launch} {e : Env} {s : State} {m : MethodId} {args : Array Value} {below : List Frame} {meth : Method} {c : Code} {D : va_G} {cy : Nat → ClassId} {B : Nat} {kd : Nat → Nat} {n : Nat} {sa sv : Nat → Nat} (C : zC p l s m args meth c D cy B kd n sa sv RX11 cX11_make 9) (ht : ∀ x ∈ c.exceptionTable.toList, False) (hr : meth.sig.returnType = none) {b0 : Mem}  (N : Nat) (v0 : Nat) (v1 : Int32) (v2 : Int32) (v3 : Int32) (v4 : Int32) (v5 : Int32) (s0 : Bool) (s1 : Nat) (M : Mem) (h0 : kd v0 = 11) (hs1 : kd s1 = 11)  : Z p l e (rmz 1 0) s m args below meth c (vx_MQ below (QcR D cy B kd n (cvV b0)) (XcR D cy B kd n (cvV b0)) args s 0 (6 * 0) (AA B kd n)) D cy B kd n 9 b0 0 18 [(0, .ref (B + v0)), (1, .int v1), (2, .int v2), (3, .int v3), (4, .int v4), (5, .int v5)] [.int (bI s0), .ref (B + s1)] M (fX11_make_b18 N v0 v1 v2 v3 v4 v5 s0 s1 M) := by
  unfold fX11_make_b18
  refine z_putI (k := 5) C cl11 hs1 rfl gw_7_15 rfl rfl rfl dX11_make_18 ?_
  refine z_iload_n C 2 2 dX11_make_21 rfl rfl ?_
  refine z_iconst C dX11_make_22 rfl ?_
  refine z_icmp_ne C 39 dX11_make_23 rfl (fun _ => ?_) (fun _ => ?_)
  · refine z_iconst C dX11_make_26 rfl ?_
    refine z_aload_n C 0 0 dX11_make_27 rfl rfl ?_
    refine z_getR (k := 0) C cl11 h0 rfl gw_7_10 rfl dX11_make_28 ?_
    have j1 : kd (v0 + 1) = 36 := zkd C h0 (k := 0) rfl
    refine z_iconst C dX11_make_31 rfl ?_
    refine z_iald C j1 rfl (by decide) dX11_make_32 (fun j2 => ?_)
    refine z_min C cw_RX11_240 ⟨Nat.le_of_ble_eq_true rfl, Nat.le_of_ble_eq_true rfl, Nat.le_of_ble_eq_true rfl, Nat.le_of_ble_eq_true rfl⟩ (Nat.le_of_ble_eq_true rfl) dX11_make_33 ?_
    refine z_goto C 45 dX11_make_36 rfl ?_
    exact z_jump (ls1 := [(0, .ref (B + v0)), (1, .int v1), (2, .int v2), (3, .int v3), (4, .int v4), (5, .int v5)]) (Nat.le_of_ble_eq_true rfl) [0, 1, 2, 3, 4, 5] rfl (z_fX11_make_b45 C ht hr N v0 v1 v2 v3 v4 v5 (minI (3 : Int32) (rI (wI M s1 5 (bI s0)) (v0 + 1) (3 : Int32).toNatClampNeg)) (wI M s1 5 (bI s0)) h0)
  · refine z_aload_n C 0 0 dX11_make_39 rfl rfl ?_
    refine z_getR (k := 0) C cl11 h0 rfl gw_7_10 rfl dX11_make_40 ?_
    have j3 : kd (v0 + 1) = 36 := zkd C h0 (k := 0) rfl
    refine z_iconst C dX11_make_43 rfl ?_
    refine z_iald C j3 rfl (by decide) dX11_make_44 (fun j4 => ?_)
    exact z_jump (ls1 := [(0, .ref (B + v0)), (1, .int v1), (2, .int v2), (3, .int v3), (4, .int v4), (5, .int v5)]) (Nat.le_of_ble_eq_true rfl) [0, 1, 2, 3, 4, 5] rfl (z_fX11_make_b45 C ht hr N v0 v1 v2 v3 v4 v5 (rI (wI M s1 5 (bI s0)) (v0 + 1) (3 : Int32).toNatClampNeg) (wI M s1 5 (bI s0)) h0)
set_option maxHeartbeats 4000000 in
set_option maxRecDepth 100000 in
theorem ctX11_make {l : Launch} {D : va_G} {cy : Nat → ClassId} {B : Nat} {kd : Nat → Nat} {n : Nat} {sa sv : Nat → Nat} (G : zG l kd n) (N : Nat) (v0 : Nat) (v1 : Int32) (v2 : Int32) (v3 : Int32) (v4 : Int32) (v5 : Int32) (h0 : kd v0 = 11) (M : Mem) : CT l D cy B kd n sa sv 1 0 yX11_make cX11_make 9 (none) cvV [.ref (B + v0), .int v1, .int v2, .int v3, .int v4, .int v5] M (fX11_make N v0 v1 v2 v3 v4 v5 M) := by
  refine ct_of (by decide) G.1 G.2 (Nat.le_of_ble_eq_true rfl) (ls := [(0, .ref (B + v0)), (1, .int v1), (2, .int v2), (3, .int v3), (4, .int v4), (5, .int v5)]) rfl ?_
  intro p e s m args below meth c b0 C ht hr
  unfold fX11_make
  refine z_aload_n C 0 0 dX11_make_0 rfl rfl ?_
  refine z_iload_n C 1 1 dX11_make_1 rfl rfl ?_
  refine z_i2l C dX11_make_2 ?_
  refine z_lconst (v := 0) C dX11_make_3 rfl ?_
  refine z_ldc2 C dX11_make_4 gw_8_25 ?_
  refine z_callS_pB (As := [.long v1.toInt64, .long (0 : Int64), .long (3 : Int64)]) (rest := [.ref (B + v0)]) C rfl (ctX11_within (zG_of C) v1.toInt64 (0 : Int64) (3 : Int64) M) cw_RX11_157 (okM_X11_within) rfl (okR_of rfl) (Nat.le_of_ble_eq_true rfl) dX11_make_7 (fun qj1 _ => ?_)
  refine z_if_neB C 17 dX11_make_10 rfl (fun _ => ?_) (fun _ => ?_)
  · refine z_iconst C dX11_make_17 rfl ?_
    exact z_jump (ls1 := [(0, .ref (B + v0)), (1, .int v1), (2, .int v2), (3, .int v3), (4, .int v4), (5, .int v5)]) (Nat.le_of_ble_eq_true rfl) [0, 1, 2, 3, 4, 5] rfl (z_fX11_make_b18 C ht hr N v0 v1 v2 v3 v4 v5 false v0 M h0 h0)
  · refine z_iconst C dX11_make_13 rfl ?_
    refine z_goto C 18 dX11_make_14 rfl ?_
    exact z_jump (ls1 := [(0, .ref (B + v0)), (1, .int v1), (2, .int v2), (3, .int v3), (4, .int v4), (5, .int v5)]) (Nat.le_of_ble_eq_true rfl) [0, 1, 2, 3, 4, 5] rfl (z_fX11_make_b18 C ht hr N v0 v1 v2 v3 v4 v5 true v0 M h0 h0)
set_option maxHeartbeats 4000000 in
set_option maxRecDepth 100000 in
theorem ctX11_isIn {l : Launch} {D : va_G} {cy : Nat → ClassId} {B : Nat} {kd : Nat → Nat} {n : Nat} {sa sv : Nat → Nat} (G : zG l kd n) (v0 : Nat) (v1 : Int32) (v2 : Int32) (h0 : kd v0 = 11) (Mo : Mem) : CT l D cy B kd n sa sv 1 0 yX11_isIn cX11_isIn 3 (some (FieldType.boolean)) (pB Mo) [.ref (B + v0), .int v1, .int v2] Mo (fX11_isIn v0 v1 v2 Mo) := by
  refine ct_of (by decide) G.1 G.2 (Nat.le_of_ble_eq_true rfl) (ls := [(0, .ref (B + v0)), (1, .int v1), (2, .int v2)]) rfl ?_
  intro p e s m args below meth c b0 C ht hr
  unfold fX11_isIn
  refine z_aload_n C 0 0 dX11_isIn_0 rfl rfl ?_
  refine z_iload_n C 1 1 dX11_isIn_1 rfl rfl ?_
  refine z_sipush (v := 250) C dX11_isIn_2 rfl ?_
  refine z_iload_n C 2 2 dX11_isIn_5 rfl rfl ?_
  refine z_iadd C dX11_isIn_6 ?_
  refine z_callV_pI (As := [.int v1, .int ((250 : Int32) + v2)]) (rest := []) C rfl (ctX11_get (zG_of C) v0 v1 ((250 : Int32) + v2) h0 Mo) cw_RX11_237 rfl (okM_X11_get) rfl cl11 h0 (okR_of rfl) (Nat.le_of_ble_eq_true rfl) dX11_isIn_7 (fun qj1 _ => ?_)
  refine z_iconst C dX11_isIn_10 rfl ?_
  refine z_icmp_ne C 18 dX11_isIn_11 rfl (fun _ => ?_) (fun _ => ?_)
  · refine z_iconst C dX11_isIn_14 rfl ?_
    refine z_goto C 19 dX11_isIn_15 rfl ?_
    exact z_zret C (v := true) hr (Nat.le_of_ble_eq_true rfl) dX11_isIn_19 rfl
  · refine z_iconst C dX11_isIn_18 rfl ?_
    exact z_zret C (v := false) hr (Nat.le_of_ble_eq_true rfl) dX11_isIn_19 rfl
set_option maxHeartbeats 4000000 in
set_option maxRecDepth 100000 in
theorem z_fX11_many_l4_s {p : Program} {l : Launch} {e : Env} {s : State} {m : MethodId} {args : Array Value} {below : List Frame} {meth : Method} {c : Code} {D : va_G} {cy : Nat → ClassId} {B : Nat} {kd : Nat → Nat} {n : Nat} {sa sv : Nat → Nat} (C : zC p l s m args meth c D cy B kd n sa sv RX11 cX11_many 4) (ht : ∀ x ∈ c.exceptionTable.toList, False) (hr : meth.sig.returnType = some (FieldType.int)) {b0 : Int32} {Mo : Mem} (N : Nat) (v0 : Nat) (v1 : Int32) (k4 : Int32 → Int32 → Option Int32) (v2 : Int32) (v3 : Int32) (h0 : kd v0 = 11)  (hk4 : ∀ (v2 : Int32) (v3 : Int32), Z p l e (rmz 1 0) s m args below meth c (vx_MQ below (QcR D cy B kd n ((pI Mo) b0)) (XcR D cy B kd n ((pI Mo) b0)) args s 0 (6 * 0) (AA B kd n)) D cy B kd n 4 b0 0 4 [(0, .ref (B + v0)), (1, .int v1), (2, .int v2), (3, .int v3)] [] Mo (k4 v2 v3)) : Z p l e (rmz 1 0) s m args below meth c (vx_MQ below (QcR D cy B kd n ((pI Mo) b0)) (XcR D cy B kd n ((pI Mo) b0)) args s 0 (6 * 0) (AA B kd n)) D cy B kd n 4 b0 0 4 [(0, .ref (B + v0)), (1, .int v1), (2, .int v2), (3, .int v3)] [] Mo (fX11_many_l4_s N v0 v1 Mo k4 v2 v3) := by
  unfold fX11_many_l4_s
  refine z_iload_n C 3 3 dX11_many_4 rfl rfl ?_
  refine z_aload_n C 0 0 dX11_many_5 rfl rfl ?_
  refine z_getR (k := 0) C cl11 h0 rfl gw_7_10 rfl dX11_many_6 ?_
  have j1 : kd (v0 + 1) = 36 := zkd C h0 (k := 0) rfl
  refine z_iconst C dX11_many_9 rfl ?_
  refine z_iald C j1 rfl (by decide) dX11_many_10 (fun j2 => ?_)
  refine z_icmp_ge C 33 dX11_many_11 rfl (fun _ => ?_) (fun _ => ?_)
  · refine z_iload_n C 2 2 dX11_many_33 rfl rfl ?_
    exact z_iret C hr (Nat.le_of_ble_eq_true rfl) dX11_many_34 rfl
  · refine z_iload_n C 2 2 dX11_many_14 rfl rfl ?_
    refine z_aload_n C 0 0 dX11_many_15 rfl rfl ?_
    refine z_iload_n C 1 1 dX11_many_16 rfl rfl ?_
    refine z_sipush (v := 250) C dX11_many_17 rfl ?_
    refine z_iload_n C 3 3 dX11_many_20 rfl rfl ?_
    refine z_iadd C dX11_many_21 ?_
    refine z_callV_pI (As := [.int v1, .int ((250 : Int32) + v3)]) (rest := [.int v2]) C rfl (ctX11_get (zG_of C) v0 v1 ((250 : Int32) + v3) h0 Mo) cw_RX11_237 rfl (okM_X11_get) rfl cl11 h0 (okR_of rfl) (Nat.le_of_ble_eq_true rfl) dX11_many_22 (fun qj3 _ => ?_)
    refine z_iadd C dX11_many_25 ?_
    refine z_istore_n C 2 (ls1 := [(2, .int (v2 + qj3)), (0, .ref (B + v0)), (1, .int v1), (3, .int v3)]) dX11_many_26 rfl (by decide) rfl ?_
    refine z_iinc C 3 3 (v := v3) (v1 := (v3 + (1 : Int32))) (ls1 := [(3, .int (v3 + (1 : Int32))), (2, .int (v2 + qj3)), (0, .ref (B + v0)), (1, .int v1)]) dX11_many_27 rfl rfl (by decide) rfl ?_
    refine z_goto C 4 dX11_many_30 rfl ?_
    exact z_jump (ls1 := [(0, .ref (B + v0)), (1, .int v1), (2, .int (v2 + qj3)), (3, .int (v3 + (1 : Int32)))]) (Nat.le_of_ble_eq_true rfl) [2, 3, 1, 0] rfl (hk4 (v2 + qj3) (v3 + (1 : Int32)))
theorem z_fX11_many_l4_i {p : Program} {l : Launch} {e : Env} {s : State} {m : MethodId} {args : Array Value} {below : List Frame} {meth : Method} {c : Code} {D : va_G} {cy : Nat → ClassId} {B : Nat} {kd : Nat → Nat} {n : Nat} {sa sv : Nat → Nat} (C : zC p l s m args meth c D cy B kd n sa sv RX11 cX11_many 4) (ht : ∀ x ∈ c.exceptionTable.toList, False) (hr : meth.sig.returnType = some (FieldType.int)) {b0 : Int32} {Mo : Mem} (N : Nat) (v0 : Nat) (v1 : Int32) (h0 : kd v0 = 11)  (fu : Nat) : ∀ (v2 : Int32) (v3 : Int32), Z p l e (rmz 1 0) s m args below meth c (vx_MQ below (QcR D cy B kd n ((pI Mo) b0)) (XcR D cy B kd n ((pI Mo) b0)) args s 0 (6 * 0) (AA B kd n)) D cy B kd n 4 b0 0 4 [(0, .ref (B + v0)), (1, .int v1), (2, .int v2), (3, .int v3)] [] Mo (fX11_many_l4 N v0 v1 Mo fu v2 v3) := by
  induction fu with
  | zero => intro v2 v3; exact z_none
  | succ fu ih => intro v2 v3; exact z_fX11_many_l4_s C ht hr N v0 v1 (fX11_many_l4 N v0 v1 Mo fu) v2 v3 h0 (fun v2 v3 => ih v2 v3)
theorem z_fX11_many_l4 {p : Program} {l : Launch} {e : Env} {s : State} {m : MethodId} {args : Array Value} {below : List Frame} {meth : Method} {c : Code} {D : va_G} {cy : Nat → ClassId} {B : Nat} {kd : Nat → Nat} {n : Nat} {sa sv : Nat → Nat} (C : zC p l s m args meth c D cy B kd n sa sv RX11 cX11_many 4) (ht : ∀ x ∈ c.exceptionTable.toList, False) (hr : meth.sig.returnType = some (FieldType.int)) {b0 : Int32} {Mo : Mem} (N : Nat) (v0 : Nat) (v1 : Int32) (fu : Nat) (v2 : Int32) (v3 : Int32) (h0 : kd v0 = 11)  : Z p l e (rmz 1 0) s m args below meth c (vx_MQ below (QcR D cy B kd n ((pI Mo) b0)) (XcR D cy B kd n ((pI Mo) b0)) args s 0 (6 * 0) (AA B kd n)) D cy B kd n 4 b0 0 4 [(0, .ref (B + v0)), (1, .int v1), (2, .int v2), (3, .int v3)] [] Mo (fX11_many_l4 N v0 v1 Mo fu v2 v3) := z_fX11_many_l4_i C ht hr N v0 v1 h0 fu v2 v3
set_option maxHeartbeats 4000000 in
set_option maxRecDepth 100000 in
theorem ctX11_many {l : Launch} {D : va_G} {cy : Nat → ClassId} {B : Nat} {kd : Nat → Nat} {n : Nat} {sa sv : Nat → Nat} (G : zG l kd n) (N : Nat) (v0 : Nat) (v1 : Int32) (h0 : kd v0 = 11) (Mo : Mem) : CT l D cy B kd n sa sv 1 0 yX11_many cX11_many 4 (some (FieldType.int)) (pI Mo) [.ref (B + v0), .int v1] Mo (fX11_many N v0 v1 Mo) := by
  refine ct_of (by decide) G.1 G.2 (Nat.le_of_ble_eq_true rfl) (ls := [(0, .ref (B + v0)), (1, .int v1)]) rfl ?_
  intro p e s m args below meth c b0 C ht hr
  unfold fX11_many
  refine z_iconst C dX11_many_0 rfl ?_
  refine z_istore_n C 2 (ls1 := [(2, .int (0 : Int32)), (0, .ref (B + v0)), (1, .int v1)]) dX11_many_1 rfl (by decide) rfl ?_
  refine z_iconst C dX11_many_2 rfl ?_
  refine z_istore_n C 3 (ls1 := [(3, .int (0 : Int32)), (2, .int (0 : Int32)), (0, .ref (B + v0)), (1, .int v1)]) dX11_many_3 rfl (by decide) rfl ?_
  exact z_jump (ls1 := [(0, .ref (B + v0)), (1, .int v1), (2, .int (0 : Int32)), (3, .int (0 : Int32))]) (Nat.le_of_ble_eq_true rfl) [2, 3, 1, 0] rfl (z_fX11_many_l4 C ht hr N v0 v1 N (0 : Int32) (0 : Int32) h0)
set_option maxHeartbeats 4000000 in
set_option maxRecDepth 100000 in
theorem ctX11_of {l : Launch} {D : va_G} {cy : Nat → ClassId} {B : Nat} {kd : Nat → Nat} {n : Nat} {sa sv : Nat → Nat} (G : zG l kd n) (N : Nat) (v0 : Nat) (v1 : Int32) (v2 : Int32) (h0 : kd v0 = 11) (M : Mem) : CT l D cy B kd n sa sv 2 0 yX11_of cX11_of 3 (some (FieldType.int)) cvI [.ref (B + v0), .int v1, .int v2] M (fX11_of N v0 v1 v2 M) := by
  refine ct_of (by decide) G.1 G.2 (Nat.le_of_ble_eq_true rfl) (ls := [(0, .ref (B + v0)), (1, .int v1), (2, .int v2)]) rfl ?_
  intro p e s m args below meth c b0 C ht hr
  unfold fX11_of
  refine z_aload_n C 0 0 dX11_of_0 rfl rfl ?_
  refine z_iconst C dX11_of_1 rfl ?_
  refine z_putI (k := 5) C cl11 h0 rfl gw_7_15 rfl rfl rfl dX11_of_2 ?_
  refine z_aload_n C 0 0 dX11_of_5 rfl rfl ?_
  refine z_iload_n C 1 1 dX11_of_6 rfl rfl ?_
  refine z_callV_pB (As := [.int v1]) (rest := []) C rfl (ctX11_isRow (zG_of C) v0 v1 h0 (wI M v0 5 (0 : Int32))) cw_RX11_256 rfl (okM_X11_isRow) rfl cl11 h0 (okR_of rfl) (Nat.le_of_ble_eq_true rfl) dX11_of_7 (fun qj1 _ => ?_)
  refine z_if_neB C 19 dX11_of_10 rfl (fun _ => ?_) (fun _ => ?_)
  · refine z_iload_n C 2 2 dX11_of_19 rfl rfl ?_
    refine z_i2l C dX11_of_20 ?_
    refine z_lconst (v := 0) C dX11_of_21 rfl ?_
    refine z_ldc2 C dX11_of_22 gw_8_49 ?_
    refine z_callS_pB (As := [.long v2.toInt64, .long (0 : Int64), .long (6 : Int64)]) (rest := []) C rfl (ctX11_within (zG_of C) v2.toInt64 (0 : Int64) (6 : Int64) (wI M v0 5 (0 : Int32))) cw_RX11_157 (okM_X11_within) rfl (okR_of rfl) (Nat.le_of_ble_eq_true rfl) dX11_of_25 (fun qj2 _ => ?_)
    refine z_if_neB C 37 dX11_of_28 rfl (fun _ => ?_) (fun _ => ?_)
    · refine z_iload_n C 2 2 dX11_of_37 rfl rfl ?_
      refine z_iconst C dX11_of_38 rfl ?_
      refine z_icmp_ge C 51 dX11_of_39 rfl (fun _ => ?_) (fun _ => ?_)
      · refine z_iload_n C 2 2 dX11_of_51 rfl rfl ?_
        refine z_iconst C dX11_of_52 rfl ?_
        refine z_icmp_ne C 64 dX11_of_53 rfl (fun _ => ?_) (fun _ => ?_)
        · refine z_aload_n C 0 0 dX11_of_56 rfl rfl ?_
          refine z_iload_n C 1 1 dX11_of_57 rfl rfl ?_
          refine z_callV_pI (As := [.int v1]) (rest := []) C rfl (ctX11_many (zG_of C) N v0 v1 h0 (wI M v0 5 (0 : Int32))) cw_RX11_261 rfl (okM_X11_many) rfl cl11 h0 (okR_of rfl) (Nat.le_of_ble_eq_true rfl) dX11_of_58 (fun qj3 _ => ?_)
          refine z_goto C 72 dX11_of_61 rfl ?_
          exact z_iret C hr (Nat.le_of_ble_eq_true rfl) dX11_of_72 rfl
        · refine z_aload_n C 0 0 dX11_of_64 rfl rfl ?_
          refine z_iload_n C 1 1 dX11_of_65 rfl rfl ?_
          refine z_iload_n C 2 2 dX11_of_66 rfl rfl ?_
          refine z_iconst C dX11_of_67 rfl ?_
          refine z_isub C dX11_of_68 ?_
          refine z_callV_pI (As := [.int v1, .int (v2 - (1 : Int32))]) (rest := []) C rfl (ctX11_get (zG_of C) v0 v1 (v2 - (1 : Int32)) h0 (wI M v0 5 (0 : Int32))) cw_RX11_237 rfl (okM_X11_get) rfl cl11 h0 (okR_of rfl) (Nat.le_of_ble_eq_true rfl) dX11_of_69 (fun qj4 _ => ?_)
          exact z_iret C hr (Nat.le_of_ble_eq_true rfl) dX11_of_72 rfl
      · refine z_aload_n C 0 0 dX11_of_42 rfl rfl ?_
        refine z_iload_n C 1 1 dX11_of_43 rfl rfl ?_
        refine z_iload_n C 2 2 dX11_of_44 rfl rfl ?_
        refine z_callV_pI (As := [.int v1, .int v2]) (rest := []) C rfl (ctX11_get (zG_of C) v0 v1 v2 h0 (wI M v0 5 (0 : Int32))) cw_RX11_237 rfl (okM_X11_get) rfl cl11 h0 (okR_of rfl) (Nat.le_of_ble_eq_true rfl) dX11_of_45 (fun qj5 _ => ?_)
        refine z_goto C 72 dX11_of_48 rfl ?_
        exact z_iret C hr (Nat.le_of_ble_eq_true rfl) dX11_of_72 rfl
    · refine z_aload_n C 0 0 dX11_of_31 rfl rfl ?_
      refine z_iconst C dX11_of_32 rfl ?_
      refine z_callV_I (As := [.int (2 : Int32)]) (rest := []) C rfl (ctX11_fails (zG_of C) v0 (2 : Int32) h0 (wI M v0 5 (0 : Int32))) cw_RX11_201 rfl (okM_X11_fails) rfl cl11 h0 (okR_of rfl) (Nat.le_of_ble_eq_true rfl) dX11_of_33 (fun qj6 _ => ?_)
      exact z_iret C hr (Nat.le_of_ble_eq_true rfl) dX11_of_36 rfl
  · refine z_aload_n C 0 0 dX11_of_13 rfl rfl ?_
    refine z_iconst C dX11_of_14 rfl ?_
    refine z_callV_I (As := [.int (1 : Int32)]) (rest := []) C rfl (ctX11_fails (zG_of C) v0 (1 : Int32) h0 (wI M v0 5 (0 : Int32))) cw_RX11_201 rfl (okM_X11_fails) rfl cl11 h0 (okR_of rfl) (Nat.le_of_ble_eq_true rfl) dX11_of_15 (fun qj7 _ => ?_)
    exact z_iret C hr (Nat.le_of_ble_eq_true rfl) dX11_of_18 rfl
set_option maxHeartbeats 4000000 in
set_option maxRecDepth 100000 in
theorem ctX11_layerAt {l : Launch} {D : va_G} {cy : Nat → ClassId} {B : Nat} {kd : Nat → Nat} {n : Nat} {sa sv : Nat → Nat} (G : zG l kd n) (v0 : Nat) (v1 : Int32) (v2 : Int32) (h0 : kd v0 = 11) (Mo : Mem) : CT l D cy B kd n sa sv 1 0 yX11_layerAt cX11_layerAt 3 (some (FieldType.int)) (pI Mo) [.ref (B + v0), .int v1, .int v2] Mo (fX11_layerAt v0 v1 v2 Mo) := by
  refine ct_of (by decide) G.1 G.2 (Nat.le_of_ble_eq_true rfl) (ls := [(0, .ref (B + v0)), (1, .int v1), (2, .int v2)]) rfl ?_
  intro p e s m args below meth c b0 C ht hr
  unfold fX11_layerAt
  refine z_bipush (v := 10) C dX11_layerAt_0 rfl ?_
  refine z_aload_n C 0 0 dX11_layerAt_2 rfl rfl ?_
  refine z_iload_n C 1 1 dX11_layerAt_3 rfl rfl ?_
  refine z_iconst C dX11_layerAt_4 rfl ?_
  refine z_callV_pI (As := [.int v1, .int (1 : Int32)]) (rest := [.int (10 : Int32)]) C rfl (ctX11_get (zG_of C) v0 v1 (1 : Int32) h0 Mo) cw_RX11_237 rfl (okM_X11_get) rfl cl11 h0 (okR_of rfl) (Nat.le_of_ble_eq_true rfl) dX11_layerAt_5 (fun qj1 _ => ?_)
  refine z_iconst C dX11_layerAt_8 rfl ?_
  refine z_iload_n C 2 2 dX11_layerAt_9 rfl rfl ?_
  refine z_ishl C dX11_layerAt_10 ?_
  refine z_iconst C dX11_layerAt_11 rfl ?_
  refine z_isub C dX11_layerAt_12 ?_
  refine z_imul C dX11_layerAt_13 ?_
  refine z_iadd C dX11_layerAt_14 ?_
  exact z_iret C hr (Nat.le_of_ble_eq_true rfl) dX11_layerAt_15 rfl
set_option maxHeartbeats 4000000 in
set_option maxRecDepth 100000 in
theorem ctX11_slotAt {l : Launch} {D : va_G} {cy : Nat → ClassId} {B : Nat} {kd : Nat → Nat} {n : Nat} {sa sv : Nat → Nat} (G : zG l kd n) (v0 : Nat) (v1 : Int32) (v2 : Int32) (v3 : Int32) (h0 : kd v0 = 11) (Mo : Mem) : CT l D cy B kd n sa sv 1 0 yX11_slotAt cX11_slotAt 4 (some (FieldType.int)) (pI Mo) [.ref (B + v0), .int v1, .int v2, .int v3] Mo (fX11_slotAt v0 v1 v2 v3 Mo) := by
  refine ct_of (by decide) G.1 G.2 (Nat.le_of_ble_eq_true rfl) (ls := [(0, .ref (B + v0)), (1, .int v1), (2, .int v2), (3, .int v3)]) rfl ?_
  intro p e s m args below meth c b0 C ht hr
  unfold fX11_slotAt
  refine z_bipush (v := 10) C dX11_slotAt_0 rfl ?_
  refine z_aload_n C 0 0 dX11_slotAt_2 rfl rfl ?_
  refine z_iload_n C 1 1 dX11_slotAt_3 rfl rfl ?_
  refine z_iconst C dX11_slotAt_4 rfl ?_
  refine z_callV_pI (As := [.int v1, .int (3 : Int32)]) (rest := [.int (10 : Int32)]) C rfl (ctX11_get (zG_of C) v0 v1 (3 : Int32) h0 Mo) cw_RX11_237 rfl (okM_X11_get) rfl cl11 h0 (okR_of rfl) (Nat.le_of_ble_eq_true rfl) dX11_slotAt_5 (fun qj1 _ => ?_)
  refine z_iload_n C 2 2 dX11_slotAt_8 rfl rfl ?_
  refine z_imul C dX11_slotAt_9 ?_
  refine z_iadd C dX11_slotAt_10 ?_
  refine z_iload_n C 3 3 dX11_slotAt_11 rfl rfl ?_
  refine z_iadd C dX11_slotAt_12 ?_
  exact z_iret C hr (Nat.le_of_ble_eq_true rfl) dX11_slotAt_13 rfl
set_option maxHeartbeats 4000000 in
set_option maxRecDepth 100000 in
theorem ctX11_guestIn {l : Launch} {D : va_G} {cy : Nat → ClassId} {B : Nat} {kd : Nat → Nat} {n : Nat} {sa sv : Nat → Nat} (G : zG l kd n) (v0 : Nat) (v1 : Int32) (v2 : Int32) (v3 : Int32) (h0 : kd v0 = 11) (Mo : Mem) : CT l D cy B kd n sa sv 2 0 yX11_guestIn cX11_guestIn 4 (some (FieldType.int)) (pI Mo) [.ref (B + v0), .int v1, .int v2, .int v3] Mo (fX11_guestIn v0 v1 v2 v3 Mo) := by
  refine ct_of (by decide) G.1 G.2 (Nat.le_of_ble_eq_true rfl) (ls := [(0, .ref (B + v0)), (1, .int v1), (2, .int v2), (3, .int v3)]) rfl ?_
  intro p e s m args below meth c b0 C ht hr
  unfold fX11_guestIn
  refine z_aload_n C 0 0 dX11_guestIn_0 rfl rfl ?_
  refine z_iload_n C 1 1 dX11_guestIn_1 rfl rfl ?_
  refine z_aload_n C 0 0 dX11_guestIn_2 rfl rfl ?_
  refine z_iload_n C 1 1 dX11_guestIn_3 rfl rfl ?_
  refine z_iload_n C 2 2 dX11_guestIn_4 rfl rfl ?_
  refine z_iload_n C 3 3 dX11_guestIn_5 rfl rfl ?_
  refine z_callV_pI (As := [.int v1, .int v2, .int v3]) (rest := [.int v1, .ref (B + v0)]) C rfl (ctX11_slotAt (zG_of C) v0 v1 v2 v3 h0 Mo) cw_RX11_270 rfl (okM_X11_slotAt) rfl cl11 h0 (okR_of rfl) (Nat.le_of_ble_eq_true rfl) dX11_guestIn_6 (fun qj1 _ => ?_)
  refine z_callV_pI (As := [.int v1, .int qj1]) (rest := []) C rfl (ctX11_get (zG_of C) v0 v1 qj1 h0 Mo) cw_RX11_237 rfl (okM_X11_get) rfl cl11 h0 (okR_of rfl) (Nat.le_of_ble_eq_true rfl) dX11_guestIn_9 (fun qj2 _ => ?_)
  refine z_iconst C dX11_guestIn_12 rfl ?_
  refine z_isub C dX11_guestIn_13 ?_
  exact z_iret C hr (Nat.le_of_ble_eq_true rfl) dX11_guestIn_14 rfl
set_option maxHeartbeats 4000000 in
set_option maxRecDepth 100000 in
theorem z_fX11_cell_b128 {p : Program} {l : Launch} {e : Env} {s : State} {m : MethodId} {args : Array Value} {below : List Frame} {meth : Method} {c : Code} {D : va_G} {cy : Nat → ClassId} {B : Nat} {kd : Nat → Nat} {n : Nat} {sa sv : Nat → Nat} (C : zC p l s m args meth c D cy B kd n sa sv RX11 cX11_cell 6) (ht : ∀ x ∈ c.exceptionTable.toList, False) (hr : meth.sig.returnType = some (FieldType.int)) {b0 : Int32 × Mem}  (N : Nat) (k98 : Int32 → Int32 → Option (Int32 × Mem)) (v0 : Nat) (v1 : Int32) (v2 : Int32) (v5 : Int32) (s0 : Bool) (s1 : Int32) (M : Mem) (h0 : kd v0 = 11) (hk98 : ∀ (v4 : Int32) (v5 : Int32), Z p l e (rmz 3 0) s m args below meth c (vx_MQ below (QcR D cy B kd n (cvI b0)) (XcR D cy B kd n (cvI b0)) args s 0 (6 * 0) (AA B kd n)) D cy B kd n 6 b0 0 98 [(0, .ref (B + v0)), (1, .int v1), (2, .int v2), (4, .int v4), (5, .int v5)] [] M (k98 v4 v5)) : Z p l e (rmz 3 0) s m args below meth c (vx_MQ below (QcR D cy B kd n (cvI b0)) (XcR D cy B kd n (cvI b0)) args s 0 (6 * 0) (AA B kd n)) D cy B kd n 6 b0 0 128 [(0, .ref (B + v0)), (1, .int v1), (2, .int v2), (5, .int v5)] [.int (bI s0), .int s1] M (fX11_cell_b128 N k98 v0 v1 v2 v5 s0 s1 M) := by
  unfold fX11_cell_b128
  refine z_iadd C dX11_cell_128 ?_
  refine z_istore C 4 (ls1 := [(4, .int (s1 + (bI s0))), (0, .ref (B + v0)), (1, .int v1), (2, .int v2), (5, .int v5)]) dX11_cell_129 (by decide) rfl ?_
  refine z_iinc C 5 4 (v := v5) (v1 := (v5 + (1 : Int32))) (ls1 := [(5, .int (v5 + (1 : Int32))), (4, .int (s1 + (bI s0))), (0, .ref (B + v0)), (1, .int v1), (2, .int v2)]) dX11_cell_131 rfl rfl (by decide) rfl ?_
  refine z_goto C 98 dX11_cell_134 rfl ?_
  exact z_jump (ls1 := [(0, .ref (B + v0)), (1, .int v1), (2, .int v2), (4, .int (s1 + (bI s0))), (5, .int (v5 + (1 : Int32)))]) (Nat.le_of_ble_eq_true rfl) [2, 3, 4, 1, 0] rfl (hk98 (s1 + (bI s0)) (v5 + (1 : Int32)))
set_option maxHeartbeats 4000000 in
set_option maxRecDepth 100000 in
theorem z_fX11_cell_l98_s {p : Program} {l : Launch} {e : Env} {s : State} {m : MethodId} {args : Array Value} {below : List Frame} {meth : Method} {c : Code} {D : va_G} {cy : Nat → ClassId} {B : Nat} {kd : Nat → Nat} {n : Nat} {sa sv : Nat → Nat} (C : zC p l s m args meth c D cy B kd n sa sv RX11 cX11_cell 6) (ht : ∀ x ∈ c.exceptionTable.toList, False) (hr : meth.sig.returnType = some (FieldType.int)) {b0 : Int32 × Mem} (N : Nat) (v0 : Nat) (v1 : Int32) (v2 : Int32) (M : Mem) (k98 : Int32 → Int32 → Option (Int32 × Mem)) (v4 : Int32) (v5 : Int32) (h0 : kd v0 = 11)  (hk98 : ∀ (v4 : Int32) (v5 : Int32), Z p l e (rmz 3 0) s m args below meth c (vx_MQ below (QcR D cy B kd n (cvI b0)) (XcR D cy B kd n (cvI b0)) args s 0 (6 * 0) (AA B kd n)) D cy B kd n 6 b0 0 98 [(0, .ref (B + v0)), (1, .int v1), (2, .int v2), (4, .int v4), (5, .int v5)] [] M (k98 v4 v5)) : Z p l e (rmz 3 0) s m args below meth c (vx_MQ below (QcR D cy B kd n (cvI b0)) (XcR D cy B kd n (cvI b0)) args s 0 (6 * 0) (AA B kd n)) D cy B kd n 6 b0 0 98 [(0, .ref (B + v0)), (1, .int v1), (2, .int v2), (4, .int v4), (5, .int v5)] [] M (fX11_cell_l98_s N v0 v1 v2 M k98 v4 v5) := by
  unfold fX11_cell_l98_s
  refine z_iload C 4 dX11_cell_98 rfl ?_
  refine z_aload_n C 0 0 dX11_cell_100 rfl rfl ?_
  refine z_iload_n C 1 1 dX11_cell_101 rfl rfl ?_
  refine z_iconst C dX11_cell_102 rfl ?_
  refine z_callV_pI (As := [.int v1, .int (3 : Int32)]) (rest := [.int v5]) C rfl (ctX11_get (zG_of C) v0 v1 (3 : Int32) h0 M) cw_RX11_237 rfl (okM_X11_get) rfl cl11 h0 (okR_of rfl) (Nat.le_of_ble_eq_true rfl) dX11_cell_103 (fun qj1 _ => ?_)
  refine z_icmp_ge C 137 dX11_cell_106 rfl (fun _ => ?_) (fun _ => ?_)
  · refine z_iload C 3 dX11_cell_137 rfl ?_
    exact z_iret C hr (Nat.le_of_ble_eq_true rfl) dX11_cell_139 rfl
  · refine z_iload C 3 dX11_cell_109 rfl ?_
    refine z_aload_n C 0 0 dX11_cell_111 rfl rfl ?_
    refine z_iload_n C 1 1 dX11_cell_112 rfl rfl ?_
    refine z_iload_n C 2 2 dX11_cell_113 rfl rfl ?_
    refine z_iload C 4 dX11_cell_114 rfl ?_
    refine z_callV_pI (As := [.int v1, .int v2, .int v5]) (rest := [.int v4]) C rfl (ctX11_guestIn (zG_of C) v0 v1 v2 v5 h0 M) cw_RX11_267 rfl (okM_X11_guestIn) rfl cl11 h0 (okR_of rfl) (Nat.le_of_ble_eq_true rfl) dX11_cell_116 (fun qj2 _ => ?_)
    refine z_iconst C dX11_cell_119 rfl ?_
    refine z_icmp_eq C 127 dX11_cell_120 rfl (fun _ => ?_) (fun _ => ?_)
    · refine z_iconst C dX11_cell_127 rfl ?_
      exact z_jump (ls1 := [(0, .ref (B + v0)), (1, .int v1), (2, .int v2), (5, .int v5)]) (Nat.le_of_ble_eq_true rfl) [0, 1, 2, 4] rfl (z_fX11_cell_b128 C ht hr N k98 v0 v1 v2 v5 false v4 M h0 hk98)
    · refine z_iconst C dX11_cell_123 rfl ?_
      refine z_goto C 128 dX11_cell_124 rfl ?_
      exact z_jump (ls1 := [(0, .ref (B + v0)), (1, .int v1), (2, .int v2), (5, .int v5)]) (Nat.le_of_ble_eq_true rfl) [0, 1, 2, 4] rfl (z_fX11_cell_b128 C ht hr N k98 v0 v1 v2 v5 true v4 M h0 hk98)
theorem z_fX11_cell_l98_i {p : Program} {l : Launch} {e : Env} {s : State} {m : MethodId} {args : Array Value} {below : List Frame} {meth : Method} {c : Code} {D : va_G} {cy : Nat → ClassId} {B : Nat} {kd : Nat → Nat} {n : Nat} {sa sv : Nat → Nat} (C : zC p l s m args meth c D cy B kd n sa sv RX11 cX11_cell 6) (ht : ∀ x ∈ c.exceptionTable.toList, False) (hr : meth.sig.returnType = some (FieldType.int)) {b0 : Int32 × Mem} (N : Nat) (v0 : Nat) (v1 : Int32) (v2 : Int32) (M : Mem) (h0 : kd v0 = 11)  (fu : Nat) : ∀ (v4 : Int32) (v5 : Int32), Z p l e (rmz 3 0) s m args below meth c (vx_MQ below (QcR D cy B kd n (cvI b0)) (XcR D cy B kd n (cvI b0)) args s 0 (6 * 0) (AA B kd n)) D cy B kd n 6 b0 0 98 [(0, .ref (B + v0)), (1, .int v1), (2, .int v2), (4, .int v4), (5, .int v5)] [] M (fX11_cell_l98 N v0 v1 v2 M fu v4 v5) := by
  induction fu with
  | zero => intro v4 v5; exact z_none
  | succ fu ih => intro v4 v5; exact z_fX11_cell_l98_s C ht hr N v0 v1 v2 M (fX11_cell_l98 N v0 v1 v2 M fu) v4 v5 h0 (fun v4 v5 => ih v4 v5)
theorem z_fX11_cell_l98 {p : Program} {l : Launch} {e : Env} {s : State} {m : MethodId} {args : Array Value} {below : List Frame} {meth : Method} {c : Code} {D : va_G} {cy : Nat → ClassId} {B : Nat} {kd : Nat → Nat} {n : Nat} {sa sv : Nat → Nat} (C : zC p l s m args meth c D cy B kd n sa sv RX11 cX11_cell 6) (ht : ∀ x ∈ c.exceptionTable.toList, False) (hr : meth.sig.returnType = some (FieldType.int)) {b0 : Int32 × Mem} (N : Nat) (v0 : Nat) (v1 : Int32) (v2 : Int32) (M : Mem) (fu : Nat) (v4 : Int32) (v5 : Int32) (h0 : kd v0 = 11)  : Z p l e (rmz 3 0) s m args below meth c (vx_MQ below (QcR D cy B kd n (cvI b0)) (XcR D cy B kd n (cvI b0)) args s 0 (6 * 0) (AA B kd n)) D cy B kd n 6 b0 0 98 [(0, .ref (B + v0)), (1, .int v1), (2, .int v2), (4, .int v4), (5, .int v5)] [] M (fX11_cell_l98 N v0 v1 v2 M fu v4 v5) := z_fX11_cell_l98_i C ht hr N v0 v1 v2 M h0 fu v4 v5
set_option maxHeartbeats 4000000 in
set_option maxRecDepth 100000 in
theorem z_fX11_cell_b52 {p : Program} {l : Launch} {e : Env} {s : State} {m : MethodId} {args : Array Value} {below : List Frame} {meth : Method} {c : Code} {D : va_G} {cy : Nat → ClassId} {B : Nat} {kd : Nat → Nat} {n : Nat} {sa sv : Nat → Nat} (C : zC p l s m args meth c D cy B kd n sa sv RX11 cX11_cell 6) (ht : ∀ x ∈ c.exceptionTable.toList, False) (hr : meth.sig.returnType = some (FieldType.int)) {b0 : Int32 × Mem}  (N : Nat) (v0 : Nat) (v1 : Int32) (v2 : Int32) (s0 : Int32) (M : Mem) (h0 : kd v0 = 11)  : Z p l e (rmz 3 0) s m args below meth c (vx_MQ below (QcR D cy B kd n (cvI b0)) (XcR D cy B kd n (cvI b0)) args s 0 (6 * 0) (AA B kd n)) D cy B kd n 6 b0 0 52 [(0, .ref (B + v0)), (1, .int v1), (2, .int v2)] [.int s0] M (fX11_cell_b52 N v0 v1 v2 s0 M) := by
  unfold fX11_cell_b52
  refine z_istore_n C 3 (ls1 := [(3, .int s0), (0, .ref (B + v0)), (1, .int v1), (2, .int v2)]) dX11_cell_52 rfl (by decide) rfl ?_
  refine z_iload_n C 2 3 dX11_cell_53 rfl rfl ?_
  refine z_i2l C dX11_cell_54 ?_
  refine z_lconst (v := 0) C dX11_cell_55 rfl ?_
  refine z_iload_n C 3 0 dX11_cell_56 rfl rfl ?_
  refine z_iconst C dX11_cell_57 rfl ?_
  refine z_isub C dX11_cell_58 ?_
  refine z_i2l C dX11_cell_59 ?_
  refine z_callS_pB (As := [.long v2.toInt64, .long (0 : Int64), .long (s0 - (1 : Int32)).toInt64]) (rest := []) C rfl (ctX11_within (zG_of C) v2.toInt64 (0 : Int64) ((s0 - (1 : Int32)).toInt64) M) cw_RX11_157 (okM_X11_within) rfl (okR_of rfl) (Nat.le_of_ble_eq_true rfl) dX11_cell_60 (fun qj1 _ => ?_)
  refine z_if_neB C 72 dX11_cell_63 rfl (fun _ => ?_) (fun _ => ?_)
  · refine z_aload_n C 0 1 dX11_cell_72 rfl rfl ?_
    refine z_iload_n C 1 2 dX11_cell_73 rfl rfl ?_
    refine z_iconst C dX11_cell_74 rfl ?_
    refine z_callV_pI (As := [.int v1, .int (0 : Int32)]) (rest := []) C rfl (ctX11_get (zG_of C) v0 v1 (0 : Int32) h0 M) cw_RX11_237 rfl (okM_X11_get) rfl cl11 h0 (okR_of rfl) (Nat.le_of_ble_eq_true rfl) dX11_cell_75 (fun qj2 _ => ?_)
    refine z_iconst C dX11_cell_78 rfl ?_
    refine z_icmp_eq C 92 dX11_cell_79 rfl (fun _ => ?_) (fun _ => ?_)
    · refine z_iconst C dX11_cell_92 rfl ?_
      refine z_istore C 4 (ls1 := [(4, .int (0 : Int32)), (3, .int s0), (0, .ref (B + v0)), (1, .int v1), (2, .int v2)]) dX11_cell_93 (by decide) rfl ?_
      refine z_iconst C dX11_cell_95 rfl ?_
      refine z_istore C 5 (ls1 := [(5, .int (0 : Int32)), (4, .int (0 : Int32)), (3, .int s0), (0, .ref (B + v0)), (1, .int v1), (2, .int v2)]) dX11_cell_96 (by decide) rfl ?_
      exact z_jump (ls1 := [(0, .ref (B + v0)), (1, .int v1), (2, .int v2), (4, .int (0 : Int32)), (5, .int (0 : Int32))]) (Nat.le_of_ble_eq_true rfl) [3, 4, 5, 1, 0] rfl (z_fX11_cell_l98 C ht hr N v0 v1 v2 M N (0 : Int32) (0 : Int32) h0)
    · refine z_aload_n C 0 1 dX11_cell_82 rfl rfl ?_
      refine z_iload_n C 1 2 dX11_cell_83 rfl rfl ?_
      refine z_bipush (v := 10) C dX11_cell_84 rfl ?_
      refine z_iload_n C 2 3 dX11_cell_86 rfl rfl ?_
      refine z_iadd C dX11_cell_87 ?_
      refine z_callV_pI (As := [.int v1, .int ((10 : Int32) + v2)]) (rest := []) C rfl (ctX11_get (zG_of C) v0 v1 ((10 : Int32) + v2) h0 M) cw_RX11_237 rfl (okM_X11_get) rfl cl11 h0 (okR_of rfl) (Nat.le_of_ble_eq_true rfl) dX11_cell_88 (fun qj3 _ => ?_)
      exact z_iret C hr (Nat.le_of_ble_eq_true rfl) dX11_cell_91 rfl
  · refine z_aload_n C 0 1 dX11_cell_66 rfl rfl ?_
    refine z_iconst C dX11_cell_67 rfl ?_
    refine z_callV_I (As := [.int (2 : Int32)]) (rest := []) C rfl (ctX11_fails (zG_of C) v0 (2 : Int32) h0 M) cw_RX11_201 rfl (okM_X11_fails) rfl cl11 h0 (okR_of rfl) (Nat.le_of_ble_eq_true rfl) dX11_cell_68 (fun qj4 _ => ?_)
    exact z_iret C hr (Nat.le_of_ble_eq_true rfl) dX11_cell_71 rfl
set_option maxHeartbeats 4000000 in
set_option maxRecDepth 100000 in
theorem ctX11_cell {l : Launch} {D : va_G} {cy : Nat → ClassId} {B : Nat} {kd : Nat → Nat} {n : Nat} {sa sv : Nat → Nat} (G : zG l kd n) (N : Nat) (v0 : Nat) (v1 : Int32) (v2 : Int32) (h0 : kd v0 = 11) (M : Mem) : CT l D cy B kd n sa sv 3 0 yX11_cell cX11_cell 6 (some (FieldType.int)) cvI [.ref (B + v0), .int v1, .int v2] M (fX11_cell N v0 v1 v2 M) := by
  refine ct_of (by decide) G.1 G.2 (Nat.le_of_ble_eq_true rfl) (ls := [(0, .ref (B + v0)), (1, .int v1), (2, .int v2)]) rfl ?_
  intro p e s m args below meth c b0 C ht hr
  unfold fX11_cell
  refine z_aload_n C 0 0 dX11_cell_0 rfl rfl ?_
  refine z_iconst C dX11_cell_1 rfl ?_
  refine z_putI (k := 5) C cl11 h0 rfl gw_7_15 rfl rfl rfl dX11_cell_2 ?_
  refine z_aload_n C 0 0 dX11_cell_5 rfl rfl ?_
  refine z_iload_n C 1 1 dX11_cell_6 rfl rfl ?_
  refine z_callV_pB (As := [.int v1]) (rest := []) C rfl (ctX11_isRow (zG_of C) v0 v1 h0 (wI M v0 5 (0 : Int32))) cw_RX11_256 rfl (okM_X11_isRow) rfl cl11 h0 (okR_of rfl) (Nat.le_of_ble_eq_true rfl) dX11_cell_7 (fun qj1 _ => ?_)
  refine z_if_neB C 19 dX11_cell_10 rfl (fun _ => ?_) (fun _ => ?_)
  · refine z_aload_n C 0 0 dX11_cell_19 rfl rfl ?_
    refine z_iload_n C 1 1 dX11_cell_20 rfl rfl ?_
    refine z_iconst C dX11_cell_21 rfl ?_
    refine z_callV_pI (As := [.int v1, .int (0 : Int32)]) (rest := []) C rfl (ctX11_get (zG_of C) v0 v1 (0 : Int32) h0 (wI M v0 5 (0 : Int32))) cw_RX11_237 rfl (okM_X11_get) rfl cl11 h0 (okR_of rfl) (Nat.le_of_ble_eq_true rfl) dX11_cell_22 (fun qj2 _ => ?_)
    refine z_iconst C dX11_cell_25 rfl ?_
    refine z_icmp_ne C 46 dX11_cell_26 rfl (fun _ => ?_) (fun _ => ?_)
    · refine z_aload_n C 0 0 dX11_cell_29 rfl rfl ?_
      refine z_iload_n C 1 1 dX11_cell_30 rfl rfl ?_
      refine z_aload_n C 0 0 dX11_cell_31 rfl rfl ?_
      refine z_iload_n C 1 1 dX11_cell_32 rfl rfl ?_
      refine z_iconst C dX11_cell_33 rfl ?_
      refine z_callV_pI (As := [.int v1, .int (4 : Int32)]) (rest := [.int v1, .ref (B + v0)]) C rfl (ctX11_get (zG_of C) v0 v1 (4 : Int32) h0 (wI M v0 5 (0 : Int32))) cw_RX11_237 rfl (okM_X11_get) rfl cl11 h0 (okR_of rfl) (Nat.le_of_ble_eq_true rfl) dX11_cell_34 (fun qj3 _ => ?_)
      refine z_callV_pI (As := [.int v1, .int qj3]) (rest := []) C rfl (ctX11_layerAt (zG_of C) v0 v1 qj3 h0 (wI M v0 5 (0 : Int32))) cw_RX11_264 rfl (okM_X11_layerAt) rfl cl11 h0 (okR_of rfl) (Nat.le_of_ble_eq_true rfl) dX11_cell_37 (fun qj4 _ => ?_)
      refine z_bipush (v := 10) C dX11_cell_40 rfl ?_
      refine z_isub C dX11_cell_42 ?_
      refine z_goto C 52 dX11_cell_43 rfl ?_
      exact z_jump (ls1 := [(0, .ref (B + v0)), (1, .int v1), (2, .int v2)]) (Nat.le_of_ble_eq_true rfl) [0, 1, 2] rfl (z_fX11_cell_b52 C ht hr N v0 v1 v2 (qj4 - (10 : Int32)) (wI M v0 5 (0 : Int32)) h0)
    · refine z_aload_n C 0 0 dX11_cell_46 rfl rfl ?_
      refine z_iload_n C 1 1 dX11_cell_47 rfl rfl ?_
      refine z_iconst C dX11_cell_48 rfl ?_
      refine z_callV_pI (As := [.int v1, .int (1 : Int32)]) (rest := []) C rfl (ctX11_get (zG_of C) v0 v1 (1 : Int32) h0 (wI M v0 5 (0 : Int32))) cw_RX11_237 rfl (okM_X11_get) rfl cl11 h0 (okR_of rfl) (Nat.le_of_ble_eq_true rfl) dX11_cell_49 (fun qj5 _ => ?_)
      exact z_jump (ls1 := [(0, .ref (B + v0)), (1, .int v1), (2, .int v2)]) (Nat.le_of_ble_eq_true rfl) [0, 1, 2] rfl (z_fX11_cell_b52 C ht hr N v0 v1 v2 qj5 (wI M v0 5 (0 : Int32)) h0)
  · refine z_aload_n C 0 0 dX11_cell_13 rfl rfl ?_
    refine z_iconst C dX11_cell_14 rfl ?_
    refine z_callV_I (As := [.int (1 : Int32)]) (rest := []) C rfl (ctX11_fails (zG_of C) v0 (1 : Int32) h0 (wI M v0 5 (0 : Int32))) cw_RX11_201 rfl (okM_X11_fails) rfl cl11 h0 (okR_of rfl) (Nat.le_of_ble_eq_true rfl) dX11_cell_15 (fun qj6 _ => ?_)
    exact z_iret C hr (Nat.le_of_ble_eq_true rfl) dX11_cell_18 rfl
set_option maxHeartbeats 4000000 in
set_option maxRecDepth 100000 in
theorem z_fX11_guest_b71 {p : Program} {l : Launch} {e : Env} {s : State} {m : MethodId} {args : Array Value} {below : List Frame} {meth : Method} {c : Code} {D : va_G} {cy : Nat → ClassId} {B : Nat} {kd : Nat → Nat} {n : Nat} {sa sv : Nat → Nat} (C : zC p l s m args meth c D cy B kd n sa sv RX11 cX11_guest 4) (ht : ∀ x ∈ c.exceptionTable.toList, False) (hr : meth.sig.returnType = some (FieldType.int)) {b0 : Int32 × Mem}   (v0 : Nat) (M : Mem) (h0 : kd v0 = 11)  : Z p l e (rmz 3 0) s m args below meth c (vx_MQ below (QcR D cy B kd n (cvI b0)) (XcR D cy B kd n (cvI b0)) args s 0 (6 * 0) (AA B kd n)) D cy B kd n 4 b0 0 71 [(0, .ref (B + v0))] [] M (fX11_guest_b71 v0 M) := by
  unfold fX11_guest_b71
  refine z_aload_n C 0 0 dX11_guest_71 rfl rfl ?_
  refine z_iconst C dX11_guest_72 rfl ?_
  refine z_callV_I (As := [.int (3 : Int32)]) (rest := []) C rfl (ctX11_fails (zG_of C) v0 (3 : Int32) h0 M) cw_RX11_201 rfl (okM_X11_fails) rfl cl11 h0 (okR_of rfl) (Nat.le_of_ble_eq_true rfl) dX11_guest_73 (fun qj1 _ => ?_)
  exact z_iret C hr (Nat.le_of_ble_eq_true rfl) dX11_guest_76 rfl
