set_option maxHeartbeats 4000000 in
set_option maxRecDepth 100000 in
theorem ctX11_guest {l : Launch} {D : va_G} {cy : Nat → ClassId} {B : Nat} {kd : Nat → Nat} {n : Nat} {sa sv : Nat → Nat} (G : zG l kd n) (v0 : Nat) (v1 : Int32) (v2 : Int32) (v3 : Int32) (h0 : kd v0 = 11) (M : Mem) : CT l D cy B kd n sa sv 3 0 yX11_guest cX11_guest 4 (some (FieldType.int)) cvI [.ref (B + v0), .int v1, .int v2, .int v3] M (fX11_guest v0 v1 v2 v3 M) := by
  refine ct_of (by decide) G.1 G.2 (Nat.le_of_ble_eq_true rfl) (ls := [(0, .ref (B + v0)), (1, .int v1), (2, .int v2), (3, .int v3)]) rfl ?_
  intro p e s m args below meth c b0 C ht hr
  unfold fX11_guest
  refine z_aload_n C 0 0 dX11_guest_0 rfl rfl ?_
  refine z_iconst C dX11_guest_1 rfl ?_
  refine z_putI (k := 5) C cl11 h0 rfl gw_7_15 rfl rfl rfl dX11_guest_2 ?_
  refine z_aload_n C 0 0 dX11_guest_5 rfl rfl ?_
  refine z_iload_n C 1 1 dX11_guest_6 rfl rfl ?_
  refine z_callV_pB (As := [.int v1]) (rest := []) C rfl (ctX11_isRow (zG_of C) v0 v1 h0 (wI M v0 5 (0 : Int32))) cw_RX11_256 rfl (okM_X11_isRow) rfl cl11 h0 (okR_of rfl) (Nat.le_of_ble_eq_true rfl) dX11_guest_7 (fun qj1 _ => ?_)
  refine z_if_neB C 19 dX11_guest_10 rfl (fun _ => ?_) (fun _ => ?_)
  · refine z_aload_n C 0 0 dX11_guest_19 rfl rfl ?_
    refine z_iload_n C 1 1 dX11_guest_20 rfl rfl ?_
    refine z_iconst C dX11_guest_21 rfl ?_
    refine z_callV_pI (As := [.int v1, .int (0 : Int32)]) (rest := []) C rfl (ctX11_get (zG_of C) v0 v1 (0 : Int32) h0 (wI M v0 5 (0 : Int32))) cw_RX11_237 rfl (okM_X11_get) rfl cl11 h0 (okR_of rfl) (Nat.le_of_ble_eq_true rfl) dX11_guest_22 (fun qj2 _ => ?_)
    refine z_iconst C dX11_guest_25 rfl ?_
    refine z_icmp_eq C 35 dX11_guest_26 rfl (fun _ => ?_) (fun _ => ?_)
    · refine z_iload_n C 2 2 dX11_guest_35 rfl rfl ?_
      refine z_i2l C dX11_guest_36 ?_
      refine z_lconst (v := 0) C dX11_guest_37 rfl ?_
      refine z_aload_n C 0 0 dX11_guest_38 rfl rfl ?_
      refine z_iload_n C 1 1 dX11_guest_39 rfl rfl ?_
      refine z_iconst C dX11_guest_40 rfl ?_
      refine z_callV_pI (As := [.int v1, .int (1 : Int32)]) (rest := [.long (0 : Int64), .long v2.toInt64]) C rfl (ctX11_get (zG_of C) v0 v1 (1 : Int32) h0 (wI M v0 5 (0 : Int32))) cw_RX11_237 rfl (okM_X11_get) rfl cl11 h0 (okR_of rfl) (Nat.le_of_ble_eq_true rfl) dX11_guest_41 (fun qj3 _ => ?_)
      refine z_iconst C dX11_guest_44 rfl ?_
      refine z_isub C dX11_guest_45 ?_
      refine z_i2l C dX11_guest_46 ?_
      refine z_callS_pB (As := [.long v2.toInt64, .long (0 : Int64), .long (qj3 - (1 : Int32)).toInt64]) (rest := []) C rfl (ctX11_within (zG_of C) v2.toInt64 (0 : Int64) ((qj3 - (1 : Int32)).toInt64) (wI M v0 5 (0 : Int32))) cw_RX11_157 (okM_X11_within) rfl (okR_of rfl) (Nat.le_of_ble_eq_true rfl) dX11_guest_47 (fun qj4 _ => ?_)
      refine z_if_eqB C 71 dX11_guest_50 rfl (fun _ => ?_) (fun _ => ?_)
      · refine z_iload_n C 3 3 dX11_guest_53 rfl rfl ?_
        refine z_i2l C dX11_guest_54 ?_
        refine z_lconst (v := 0) C dX11_guest_55 rfl ?_
        refine z_aload_n C 0 0 dX11_guest_56 rfl rfl ?_
        refine z_iload_n C 1 1 dX11_guest_57 rfl rfl ?_
        refine z_iconst C dX11_guest_58 rfl ?_
        refine z_callV_pI (As := [.int v1, .int (3 : Int32)]) (rest := [.long (0 : Int64), .long v3.toInt64]) C rfl (ctX11_get (zG_of C) v0 v1 (3 : Int32) h0 (wI M v0 5 (0 : Int32))) cw_RX11_237 rfl (okM_X11_get) rfl cl11 h0 (okR_of rfl) (Nat.le_of_ble_eq_true rfl) dX11_guest_59 (fun qj5 _ => ?_)
        refine z_iconst C dX11_guest_62 rfl ?_
        refine z_isub C dX11_guest_63 ?_
        refine z_i2l C dX11_guest_64 ?_
        refine z_callS_pB (As := [.long v3.toInt64, .long (0 : Int64), .long (qj5 - (1 : Int32)).toInt64]) (rest := []) C rfl (ctX11_within (zG_of C) v3.toInt64 (0 : Int64) ((qj5 - (1 : Int32)).toInt64) (wI M v0 5 (0 : Int32))) cw_RX11_157 (okM_X11_within) rfl (okR_of rfl) (Nat.le_of_ble_eq_true rfl) dX11_guest_65 (fun qj6 _ => ?_)
        refine z_if_neB C 77 dX11_guest_68 rfl (fun _ => ?_) (fun _ => ?_)
        · refine z_aload_n C 0 0 dX11_guest_77 rfl rfl ?_
          refine z_iload_n C 1 1 dX11_guest_78 rfl rfl ?_
          refine z_iload_n C 2 2 dX11_guest_79 rfl rfl ?_
          refine z_iload_n C 3 3 dX11_guest_80 rfl rfl ?_
          refine z_callV_pI (As := [.int v1, .int v2, .int v3]) (rest := []) C rfl (ctX11_guestIn (zG_of C) v0 v1 v2 v3 h0 (wI M v0 5 (0 : Int32))) cw_RX11_267 rfl (okM_X11_guestIn) rfl cl11 h0 (okR_of rfl) (Nat.le_of_ble_eq_true rfl) dX11_guest_81 (fun qj7 _ => ?_)
          exact z_iret C hr (Nat.le_of_ble_eq_true rfl) dX11_guest_84 rfl
        · exact z_jump (ls1 := [(0, .ref (B + v0))]) (Nat.le_of_ble_eq_true rfl) [0] rfl (z_fX11_guest_b71 C ht hr v0 (wI M v0 5 (0 : Int32)) h0)
      · exact z_jump (ls1 := [(0, .ref (B + v0))]) (Nat.le_of_ble_eq_true rfl) [0] rfl (z_fX11_guest_b71 C ht hr v0 (wI M v0 5 (0 : Int32)) h0)
    · refine z_aload_n C 0 0 dX11_guest_29 rfl rfl ?_
      refine z_iconst C dX11_guest_30 rfl ?_
      refine z_callV_I (As := [.int (2 : Int32)]) (rest := []) C rfl (ctX11_fails (zG_of C) v0 (2 : Int32) h0 (wI M v0 5 (0 : Int32))) cw_RX11_201 rfl (okM_X11_fails) rfl cl11 h0 (okR_of rfl) (Nat.le_of_ble_eq_true rfl) dX11_guest_31 (fun qj8 _ => ?_)
      exact z_iret C hr (Nat.le_of_ble_eq_true rfl) dX11_guest_34 rfl
  · refine z_aload_n C 0 0 dX11_guest_13 rfl rfl ?_
    refine z_iconst C dX11_guest_14 rfl ?_
    refine z_callV_I (As := [.int (1 : Int32)]) (rest := []) C rfl (ctX11_fails (zG_of C) v0 (1 : Int32) h0 (wI M v0 5 (0 : Int32))) cw_RX11_201 rfl (okM_X11_fails) rfl cl11 h0 (okR_of rfl) (Nat.le_of_ble_eq_true rfl) dX11_guest_15 (fun qj9 _ => ?_)
    exact z_iret C hr (Nat.le_of_ble_eq_true rfl) dX11_guest_18 rfl
set_option maxHeartbeats 4000000 in
set_option maxRecDepth 100000 in
theorem ctX11_spot {l : Launch} {D : va_G} {cy : Nat → ClassId} {B : Nat} {kd : Nat → Nat} {n : Nat} {sa sv : Nat → Nat} (G : zG l kd n) (N : Nat) (v0 : Nat) (v1 : Int32) (v2 : Int32) (v3 : Int32) (h0 : kd v0 = 11) (M : Mem) : CT l D cy B kd n sa sv 3 0 yX11_spot cX11_spot 4 (some (FieldType.int)) cvI [.ref (B + v0), .int v1, .int v2, .int v3] M (fX11_spot N v0 v1 v2 v3 M) := by
  refine ct_of (by decide) G.1 G.2 (Nat.le_of_ble_eq_true rfl) (ls := [(0, .ref (B + v0)), (1, .int v1), (2, .int v2), (3, .int v3)]) rfl ?_
  intro p e s m args below meth c b0 C ht hr
  unfold fX11_spot
  refine z_aload_n C 0 0 dX11_spot_0 rfl rfl ?_
  refine z_iload_n C 2 2 dX11_spot_1 rfl rfl ?_
  refine z_iload_n C 3 3 dX11_spot_2 rfl rfl ?_
  refine z_aload_n C 0 0 dX11_spot_3 rfl rfl ?_
  refine z_iload_n C 1 1 dX11_spot_4 rfl rfl ?_
  refine z_iconst C dX11_spot_5 rfl ?_
  refine z_callV_pI (As := [.int v1, .int (1 : Int32)]) (rest := [.int v3, .int v2, .ref (B + v0)]) C rfl (ctX11_get (zG_of C) v0 v1 (1 : Int32) h0 M) cw_RX11_237 rfl (okM_X11_get) rfl cl11 h0 (okR_of rfl) (Nat.le_of_ble_eq_true rfl) dX11_spot_6 (fun qj1 _ => ?_)
  refine z_callV_I (As := [.int v2, .int v3, .int qj1]) (rest := []) C rfl (ctX11_placeOf (zG_of C) N v0 v2 v3 qj1 h0 M) cw_RX11_225 rfl (okM_X11_placeOf) rfl cl11 h0 (okR_of rfl) (Nat.le_of_ble_eq_true rfl) dX11_spot_9 (fun qj2 _ => ?_)
  exact z_iret C hr (Nat.le_of_ble_eq_true rfl) dX11_spot_12 rfl
set_option maxHeartbeats 4000000 in
set_option maxRecDepth 100000 in
theorem z_fX11_isTagged_b44 {p : Program} {l : Launch} {e : Env} {s : State} {m : MethodId} {args : Array Value} {below : List Frame} {meth : Method} {c : Code} {D : va_G} {cy : Nat → ClassId} {B : Nat} {kd : Nat → Nat} {n : Nat} {sa sv : Nat → Nat} (C : zC p l s m args meth c D cy B kd n sa sv RX11 cX11_isTagged 5) (ht : ∀ x ∈ c.exceptionTable.toList, False) (hr : meth.sig.returnType = some (FieldType.boolean)) {b0 : Bool × Mem}  (N : Nat) (k3 : Int32 → Mem → Option (Bool × Mem)) (v0 : Nat) (v1 : Int32) (v2 : Int32) (v3 : Int32) (v4 : Int32) (M : Mem) (h0 : kd v0 = 11) (hk3 : ∀ (v4 : Int32) (M : Mem), Z p l e (rmz 3 0) s m args below meth c (vx_MQ below (QcR D cy B kd n (cvB b0)) (XcR D cy B kd n (cvB b0)) args s 0 (6 * 0) (AA B kd n)) D cy B kd n 5 b0 0 3 [(0, .ref (B + v0)), (1, .int v1), (2, .int v2), (3, .int v3), (4, .int v4)] [] M (k3 v4 M)) : Z p l e (rmz 3 0) s m args below meth c (vx_MQ below (QcR D cy B kd n (cvB b0)) (XcR D cy B kd n (cvB b0)) args s 0 (6 * 0) (AA B kd n)) D cy B kd n 5 b0 0 44 [(0, .ref (B + v0)), (1, .int v1), (2, .int v2), (3, .int v3), (4, .int v4)] [] M (fX11_isTagged_b44 N k3 v0 v1 v2 v3 v4 M) := by
  unfold fX11_isTagged_b44
  refine z_iinc C 4 4 (v := v4) (v1 := (v4 + (1 : Int32))) (ls1 := [(4, .int (v4 + (1 : Int32))), (0, .ref (B + v0)), (1, .int v1), (2, .int v2), (3, .int v3)]) dX11_isTagged_44 rfl rfl (by decide) rfl ?_
  refine z_goto C 3 dX11_isTagged_47 rfl ?_
  exact z_jump (ls1 := [(0, .ref (B + v0)), (1, .int v1), (2, .int v2), (3, .int v3), (4, .int (v4 + (1 : Int32)))]) (Nat.le_of_ble_eq_true rfl) [1, 2, 3, 4, 0] rfl (hk3 (v4 + (1 : Int32)) M)
set_option maxHeartbeats 4000000 in
set_option maxRecDepth 100000 in
theorem z_fX11_isTagged_l3_s {p : Program} {l : Launch} {e : Env} {s : State} {m : MethodId} {args : Array Value} {below : List Frame} {meth : Method} {c : Code} {D : va_G} {cy : Nat → ClassId} {B : Nat} {kd : Nat → Nat} {n : Nat} {sa sv : Nat → Nat} (C : zC p l s m args meth c D cy B kd n sa sv RX11 cX11_isTagged 5) (ht : ∀ x ∈ c.exceptionTable.toList, False) (hr : meth.sig.returnType = some (FieldType.boolean)) {b0 : Bool × Mem} (N : Nat) (v0 : Nat) (v1 : Int32) (v2 : Int32) (v3 : Int32) (k3 : Int32 → Mem → Option (Bool × Mem)) (v4 : Int32) (M : Mem) (h0 : kd v0 = 11)  (hk3 : ∀ (v4 : Int32) (M : Mem), Z p l e (rmz 3 0) s m args below meth c (vx_MQ below (QcR D cy B kd n (cvB b0)) (XcR D cy B kd n (cvB b0)) args s 0 (6 * 0) (AA B kd n)) D cy B kd n 5 b0 0 3 [(0, .ref (B + v0)), (1, .int v1), (2, .int v2), (3, .int v3), (4, .int v4)] [] M (k3 v4 M)) : Z p l e (rmz 3 0) s m args below meth c (vx_MQ below (QcR D cy B kd n (cvB b0)) (XcR D cy B kd n (cvB b0)) args s 0 (6 * 0) (AA B kd n)) D cy B kd n 5 b0 0 3 [(0, .ref (B + v0)), (1, .int v1), (2, .int v2), (3, .int v3), (4, .int v4)] [] M (fX11_isTagged_l3_s N v0 v1 v2 v3 k3 v4 M) := by
  unfold fX11_isTagged_l3_s
  refine z_iload C 4 dX11_isTagged_3 rfl ?_
  refine z_aload_n C 0 0 dX11_isTagged_5 rfl rfl ?_
  refine z_iload_n C 1 1 dX11_isTagged_6 rfl rfl ?_
  refine z_iconst C dX11_isTagged_7 rfl ?_
  refine z_callV_pI (As := [.int v1, .int (3 : Int32)]) (rest := [.int v4]) C rfl (ctX11_get (zG_of C) v0 v1 (3 : Int32) h0 M) cw_RX11_237 rfl (okM_X11_get) rfl cl11 h0 (okR_of rfl) (Nat.le_of_ble_eq_true rfl) dX11_isTagged_8 (fun qj1 _ => ?_)
  refine z_icmp_ge C 50 dX11_isTagged_11 rfl (fun _ => ?_) (fun _ => ?_)
  · refine z_iconst C dX11_isTagged_50 rfl ?_
    exact z_zret C (v := false) hr (Nat.le_of_ble_eq_true rfl) dX11_isTagged_51 rfl
  · refine z_aload_n C 0 0 dX11_isTagged_14 rfl rfl ?_
    refine z_iload_n C 1 1 dX11_isTagged_15 rfl rfl ?_
    refine z_iload_n C 2 2 dX11_isTagged_16 rfl rfl ?_
    refine z_iload C 4 dX11_isTagged_17 rfl ?_
    refine z_callV_pI (As := [.int v1, .int v2, .int v4]) (rest := []) C rfl (ctX11_guestIn (zG_of C) v0 v1 v2 v4 h0 M) cw_RX11_267 rfl (okM_X11_guestIn) rfl cl11 h0 (okR_of rfl) (Nat.le_of_ble_eq_true rfl) dX11_isTagged_19 (fun qj2 _ => ?_)
    refine z_iconst C dX11_isTagged_22 rfl ?_
    refine z_icmp_eq C 44 dX11_isTagged_23 rfl (fun _ => ?_) (fun _ => ?_)
    · exact z_jump (ls1 := [(0, .ref (B + v0)), (1, .int v1), (2, .int v2), (3, .int v3), (4, .int v4)]) (Nat.le_of_ble_eq_true rfl) [0, 1, 2, 3, 4] rfl (z_fX11_isTagged_b44 C ht hr N k3 v0 v1 v2 v3 v4 M h0 hk3)
    · refine z_aload_n C 0 0 dX11_isTagged_26 rfl rfl ?_
      refine z_aload_n C 0 0 dX11_isTagged_27 rfl rfl ?_
      refine z_iload_n C 1 1 dX11_isTagged_28 rfl rfl ?_
      refine z_iload_n C 2 2 dX11_isTagged_29 rfl rfl ?_
      refine z_iload C 4 dX11_isTagged_30 rfl ?_
      refine z_callV_pI (As := [.int v1, .int v2, .int v4]) (rest := [.ref (B + v0)]) C rfl (ctX11_guestIn (zG_of C) v0 v1 v2 v4 h0 M) cw_RX11_267 rfl (okM_X11_guestIn) rfl cl11 h0 (okR_of rfl) (Nat.le_of_ble_eq_true rfl) dX11_isTagged_32 (fun qj3 _ => ?_)
      refine z_callV_I (As := [.int qj3]) (rest := []) C rfl (ctX11_tagOf (zG_of C) N v0 qj3 h0 M) cw_RX11_232 rfl (okM_X11_tagOf) rfl cl11 h0 (okR_of rfl) (Nat.le_of_ble_eq_true rfl) dX11_isTagged_35 (fun qj4 _ => ?_)
      refine z_iload_n C 3 3 dX11_isTagged_38 rfl rfl ?_
      refine z_icmp_ne C 44 dX11_isTagged_39 rfl (fun _ => ?_) (fun _ => ?_)
      · refine z_iconst C dX11_isTagged_42 rfl ?_
        exact z_zret C (v := true) hr (Nat.le_of_ble_eq_true rfl) dX11_isTagged_43 rfl
      · exact z_jump (ls1 := [(0, .ref (B + v0)), (1, .int v1), (2, .int v2), (3, .int v3), (4, .int v4)]) (Nat.le_of_ble_eq_true rfl) [0, 1, 2, 3, 4] rfl (z_fX11_isTagged_b44 C ht hr N k3 v0 v1 v2 v3 v4 qj4.2 h0 hk3)
theorem z_fX11_isTagged_l3_i {p : Program} {l : Launch} {e : Env} {s : State} {m : MethodId} {args : Array Value} {below : List Frame} {meth : Method} {c : Code} {D : va_G} {cy : Nat → ClassId} {B : Nat} {kd : Nat → Nat} {n : Nat} {sa sv : Nat → Nat} (C : zC p l s m args meth c D cy B kd n sa sv RX11 cX11_isTagged 5) (ht : ∀ x ∈ c.exceptionTable.toList, False) (hr : meth.sig.returnType = some (FieldType.boolean)) {b0 : Bool × Mem} (N : Nat) (v0 : Nat) (v1 : Int32) (v2 : Int32) (v3 : Int32) (h0 : kd v0 = 11)  (fu : Nat) : ∀ (v4 : Int32) (M : Mem), Z p l e (rmz 3 0) s m args below meth c (vx_MQ below (QcR D cy B kd n (cvB b0)) (XcR D cy B kd n (cvB b0)) args s 0 (6 * 0) (AA B kd n)) D cy B kd n 5 b0 0 3 [(0, .ref (B + v0)), (1, .int v1), (2, .int v2), (3, .int v3), (4, .int v4)] [] M (fX11_isTagged_l3 N v0 v1 v2 v3 fu v4 M) := by
  induction fu with
  | zero => intro v4 M; exact z_none
  | succ fu ih => intro v4 M; exact z_fX11_isTagged_l3_s C ht hr N v0 v1 v2 v3 (fX11_isTagged_l3 N v0 v1 v2 v3 fu) v4 M h0 (fun v4 M => ih v4 M)
theorem z_fX11_isTagged_l3 {p : Program} {l : Launch} {e : Env} {s : State} {m : MethodId} {args : Array Value} {below : List Frame} {meth : Method} {c : Code} {D : va_G} {cy : Nat → ClassId} {B : Nat} {kd : Nat → Nat} {n : Nat} {sa sv : Nat → Nat} (C : zC p l s m args meth c D cy B kd n sa sv RX11 cX11_isTagged 5) (ht : ∀ x ∈ c.exceptionTable.toList, False) (hr : meth.sig.returnType = some (FieldType.boolean)) {b0 : Bool × Mem} (N : Nat) (v0 : Nat) (v1 : Int32) (v2 : Int32) (v3 : Int32) (fu : Nat) (v4 : Int32) (M : Mem) (h0 : kd v0 = 11)  : Z p l e (rmz 3 0) s m args below meth c (vx_MQ below (QcR D cy B kd n (cvB b0)) (XcR D cy B kd n (cvB b0)) args s 0 (6 * 0) (AA B kd n)) D cy B kd n 5 b0 0 3 [(0, .ref (B + v0)), (1, .int v1), (2, .int v2), (3, .int v3), (4, .int v4)] [] M (fX11_isTagged_l3 N v0 v1 v2 v3 fu v4 M) := z_fX11_isTagged_l3_i C ht hr N v0 v1 v2 v3 h0 fu v4 M
set_option maxHeartbeats 4000000 in
set_option maxRecDepth 100000 in
theorem ctX11_isTagged {l : Launch} {D : va_G} {cy : Nat → ClassId} {B : Nat} {kd : Nat → Nat} {n : Nat} {sa sv : Nat → Nat} (G : zG l kd n) (N : Nat) (v0 : Nat) (v1 : Int32) (v2 : Int32) (v3 : Int32) (h0 : kd v0 = 11) (M : Mem) : CT l D cy B kd n sa sv 3 0 yX11_isTagged cX11_isTagged 5 (some (FieldType.boolean)) cvB [.ref (B + v0), .int v1, .int v2, .int v3] M (fX11_isTagged N v0 v1 v2 v3 M) := by
  refine ct_of (by decide) G.1 G.2 (Nat.le_of_ble_eq_true rfl) (ls := [(0, .ref (B + v0)), (1, .int v1), (2, .int v2), (3, .int v3)]) rfl ?_
  intro p e s m args below meth c b0 C ht hr
  unfold fX11_isTagged
  refine z_iconst C dX11_isTagged_0 rfl ?_
  refine z_istore C 4 (ls1 := [(4, .int (0 : Int32)), (0, .ref (B + v0)), (1, .int v1), (2, .int v2), (3, .int v3)]) dX11_isTagged_1 (by decide) rfl ?_
  exact z_jump (ls1 := [(0, .ref (B + v0)), (1, .int v1), (2, .int v2), (3, .int v3), (4, .int (0 : Int32))]) (Nat.le_of_ble_eq_true rfl) [1, 2, 3, 4, 0] rfl (z_fX11_isTagged_l3 C ht hr N v0 v1 v2 v3 N (0 : Int32) M h0)
set_option maxHeartbeats 4000000 in
set_option maxRecDepth 100000 in
theorem z_fX11_freeSlot_l2_s {p : Program} {l : Launch} {e : Env} {s : State} {m : MethodId} {args : Array Value} {below : List Frame} {meth : Method} {c : Code} {D : va_G} {cy : Nat → ClassId} {B : Nat} {kd : Nat → Nat} {n : Nat} {sa sv : Nat → Nat} (C : zC p l s m args meth c D cy B kd n sa sv RX11 cX11_freeSlot 4) (ht : ∀ x ∈ c.exceptionTable.toList, False) (hr : meth.sig.returnType = some (FieldType.int)) {b0 : Int32} {Mo : Mem} (N : Nat) (v0 : Nat) (v1 : Int32) (v2 : Int32) (k2 : Int32 → Option Int32) (v3 : Int32) (h0 : kd v0 = 11)  (hk2 : ∀ (v3 : Int32), Z p l e (rmz 3 0) s m args below meth c (vx_MQ below (QcR D cy B kd n ((pI Mo) b0)) (XcR D cy B kd n ((pI Mo) b0)) args s 0 (6 * 0) (AA B kd n)) D cy B kd n 4 b0 0 2 [(0, .ref (B + v0)), (1, .int v1), (2, .int v2), (3, .int v3)] [] Mo (k2 v3)) : Z p l e (rmz 3 0) s m args below meth c (vx_MQ below (QcR D cy B kd n ((pI Mo) b0)) (XcR D cy B kd n ((pI Mo) b0)) args s 0 (6 * 0) (AA B kd n)) D cy B kd n 4 b0 0 2 [(0, .ref (B + v0)), (1, .int v1), (2, .int v2), (3, .int v3)] [] Mo (fX11_freeSlot_l2_s N v0 v1 v2 Mo k2 v3) := by
  unfold fX11_freeSlot_l2_s
  refine z_iload_n C 3 3 dX11_freeSlot_2 rfl rfl ?_
  refine z_aload_n C 0 0 dX11_freeSlot_3 rfl rfl ?_
  refine z_iload_n C 1 1 dX11_freeSlot_4 rfl rfl ?_
  refine z_iconst C dX11_freeSlot_5 rfl ?_
  refine z_callV_pI (As := [.int v1, .int (3 : Int32)]) (rest := [.int v3]) C rfl (ctX11_get (zG_of C) v0 v1 (3 : Int32) h0 Mo) cw_RX11_237 rfl (okM_X11_get) rfl cl11 h0 (okR_of rfl) (Nat.le_of_ble_eq_true rfl) dX11_freeSlot_6 (fun qj1 _ => ?_)
  refine z_icmp_ge C 31 dX11_freeSlot_9 rfl (fun _ => ?_) (fun _ => ?_)
  · refine z_iconst C dX11_freeSlot_31 rfl ?_
    exact z_iret C hr (Nat.le_of_ble_eq_true rfl) dX11_freeSlot_32 rfl
  · refine z_aload_n C 0 0 dX11_freeSlot_12 rfl rfl ?_
    refine z_iload_n C 1 1 dX11_freeSlot_13 rfl rfl ?_
    refine z_iload_n C 2 2 dX11_freeSlot_14 rfl rfl ?_
    refine z_iload_n C 3 3 dX11_freeSlot_15 rfl rfl ?_
    refine z_callV_pI (As := [.int v1, .int v2, .int v3]) (rest := []) C rfl (ctX11_guestIn (zG_of C) v0 v1 v2 v3 h0 Mo) cw_RX11_267 rfl (okM_X11_guestIn) rfl cl11 h0 (okR_of rfl) (Nat.le_of_ble_eq_true rfl) dX11_freeSlot_16 (fun qj2 _ => ?_)
    refine z_iconst C dX11_freeSlot_19 rfl ?_
    refine z_icmp_ne C 25 dX11_freeSlot_20 rfl (fun _ => ?_) (fun _ => ?_)
    · refine z_iload_n C 3 3 dX11_freeSlot_23 rfl rfl ?_
      exact z_iret C hr (Nat.le_of_ble_eq_true rfl) dX11_freeSlot_24 rfl
    · refine z_iinc C 3 3 (v := v3) (v1 := (v3 + (1 : Int32))) (ls1 := [(3, .int (v3 + (1 : Int32))), (0, .ref (B + v0)), (1, .int v1), (2, .int v2)]) dX11_freeSlot_25 rfl rfl (by decide) rfl ?_
      refine z_goto C 2 dX11_freeSlot_28 rfl ?_
      exact z_jump (ls1 := [(0, .ref (B + v0)), (1, .int v1), (2, .int v2), (3, .int (v3 + (1 : Int32)))]) (Nat.le_of_ble_eq_true rfl) [1, 2, 3, 0] rfl (hk2 (v3 + (1 : Int32)))
theorem z_fX11_freeSlot_l2_i {p : Program} {l : Launch} {e : Env} {s : State} {m : MethodId} {args : Array Value} {below : List Frame} {meth : Method} {c : Code} {D : va_G} {cy : Nat → ClassId} {B : Nat} {kd : Nat → Nat} {n : Nat} {sa sv : Nat → Nat} (C : zC p l s m args meth c D cy B kd n sa sv RX11 cX11_freeSlot 4) (ht : ∀ x ∈ c.exceptionTable.toList, False) (hr : meth.sig.returnType = some (FieldType.int)) {b0 : Int32} {Mo : Mem} (N : Nat) (v0 : Nat) (v1 : Int32) (v2 : Int32) (h0 : kd v0 = 11)  (fu : Nat) : ∀ (v3 : Int32), Z p l e (rmz 3 0) s m args below meth c (vx_MQ below (QcR D cy B kd n ((pI Mo) b0)) (XcR D cy B kd n ((pI Mo) b0)) args s 0 (6 * 0) (AA B kd n)) D cy B kd n 4 b0 0 2 [(0, .ref (B + v0)), (1, .int v1), (2, .int v2), (3, .int v3)] [] Mo (fX11_freeSlot_l2 N v0 v1 v2 Mo fu v3) := by
  induction fu with
  | zero => intro v3; exact z_none
  | succ fu ih => intro v3; exact z_fX11_freeSlot_l2_s C ht hr N v0 v1 v2 (fX11_freeSlot_l2 N v0 v1 v2 Mo fu) v3 h0 (fun v3 => ih v3)
theorem z_fX11_freeSlot_l2 {p : Program} {l : Launch} {e : Env} {s : State} {m : MethodId} {args : Array Value} {below : List Frame} {meth : Method} {c : Code} {D : va_G} {cy : Nat → ClassId} {B : Nat} {kd : Nat → Nat} {n : Nat} {sa sv : Nat → Nat} (C : zC p l s m args meth c D cy B kd n sa sv RX11 cX11_freeSlot 4) (ht : ∀ x ∈ c.exceptionTable.toList, False) (hr : meth.sig.returnType = some (FieldType.int)) {b0 : Int32} {Mo : Mem} (N : Nat) (v0 : Nat) (v1 : Int32) (v2 : Int32) (fu : Nat) (v3 : Int32) (h0 : kd v0 = 11)  : Z p l e (rmz 3 0) s m args below meth c (vx_MQ below (QcR D cy B kd n ((pI Mo) b0)) (XcR D cy B kd n ((pI Mo) b0)) args s 0 (6 * 0) (AA B kd n)) D cy B kd n 4 b0 0 2 [(0, .ref (B + v0)), (1, .int v1), (2, .int v2), (3, .int v3)] [] Mo (fX11_freeSlot_l2 N v0 v1 v2 Mo fu v3) := z_fX11_freeSlot_l2_i C ht hr N v0 v1 v2 h0 fu v3
set_option maxHeartbeats 4000000 in
set_option maxRecDepth 100000 in
theorem ctX11_freeSlot {l : Launch} {D : va_G} {cy : Nat → ClassId} {B : Nat} {kd : Nat → Nat} {n : Nat} {sa sv : Nat → Nat} (G : zG l kd n) (N : Nat) (v0 : Nat) (v1 : Int32) (v2 : Int32) (h0 : kd v0 = 11) (Mo : Mem) : CT l D cy B kd n sa sv 3 0 yX11_freeSlot cX11_freeSlot 4 (some (FieldType.int)) (pI Mo) [.ref (B + v0), .int v1, .int v2] Mo (fX11_freeSlot N v0 v1 v2 Mo) := by
  refine ct_of (by decide) G.1 G.2 (Nat.le_of_ble_eq_true rfl) (ls := [(0, .ref (B + v0)), (1, .int v1), (2, .int v2)]) rfl ?_
  intro p e s m args below meth c b0 C ht hr
  unfold fX11_freeSlot
  refine z_iconst C dX11_freeSlot_0 rfl ?_
  refine z_istore_n C 3 (ls1 := [(3, .int (0 : Int32)), (0, .ref (B + v0)), (1, .int v1), (2, .int v2)]) dX11_freeSlot_1 rfl (by decide) rfl ?_
  exact z_jump (ls1 := [(0, .ref (B + v0)), (1, .int v1), (2, .int v2), (3, .int (0 : Int32))]) (Nat.le_of_ble_eq_true rfl) [1, 2, 3, 0] rfl (z_fX11_freeSlot_l2 C ht hr N v0 v1 v2 N (0 : Int32) h0)
set_option maxHeartbeats 4000000 in
set_option maxRecDepth 100000 in
theorem ctX11_otherNest {l : Launch} {D : va_G} {cy : Nat → ClassId} {B : Nat} {kd : Nat → Nat} {n : Nat} {sa sv : Nat → Nat} (G : zG l kd n) (N : Nat) (v0 : Nat) (v1 : Int32) (v2 : Int32) (v3 : Int32) (h0 : kd v0 = 11) (M : Mem) : CT l D cy B kd n sa sv 4 0 yX11_otherNest cX11_otherNest 6 (some (FieldType.int)) cvI [.ref (B + v0), .int v1, .int v2, .int v3] M (fX11_otherNest N v0 v1 v2 v3 M) := by
  refine ct_of (by decide) G.1 G.2 (Nat.le_of_ble_eq_true rfl) (ls := [(0, .ref (B + v0)), (1, .int v1), (2, .int v2), (3, .int v3)]) rfl ?_
  intro p e s m args below meth c b0 C ht hr
  unfold fX11_otherNest
  refine z_aload_n C 0 0 dX11_otherNest_0 rfl rfl ?_
  refine z_iload_n C 1 1 dX11_otherNest_1 rfl rfl ?_
  refine z_iconst C dX11_otherNest_2 rfl ?_
  refine z_iload_n C 3 3 dX11_otherNest_3 rfl rfl ?_
  refine z_callV_I (As := [.int v1, .int (0 : Int32), .int v3]) (rest := []) C rfl (ctX11_spot (zG_of C) N v0 v1 (0 : Int32) v3 h0 M) cw_RX11_273 rfl (okM_X11_spot) rfl cl11 h0 (okR_of rfl) (Nat.le_of_ble_eq_true rfl) dX11_otherNest_4 (fun qj1 _ => ?_)
  refine z_istore C 4 (ls1 := [(4, .int qj1.1), (0, .ref (B + v0)), (1, .int v1), (2, .int v2), (3, .int v3)]) dX11_otherNest_7 (by decide) rfl ?_
  refine z_aload_n C 0 1 dX11_otherNest_9 rfl rfl ?_
  refine z_iload_n C 1 2 dX11_otherNest_10 rfl rfl ?_
  refine z_iconst C dX11_otherNest_11 rfl ?_
  refine z_iload_n C 3 4 dX11_otherNest_12 rfl rfl ?_
  refine z_callV_I (As := [.int v1, .int (1 : Int32), .int v3]) (rest := []) C rfl (ctX11_spot (zG_of C) N v0 v1 (1 : Int32) v3 h0 qj1.2) cw_RX11_273 rfl (okM_X11_spot) rfl cl11 h0 (okR_of rfl) (Nat.le_of_ble_eq_true rfl) dX11_otherNest_13 (fun qj2 _ => ?_)
  refine z_istore C 5 (ls1 := [(5, .int qj2.1), (4, .int qj1.1), (0, .ref (B + v0)), (1, .int v1), (2, .int v2), (3, .int v3)]) dX11_otherNest_16 (by decide) rfl ?_
  refine z_iload C 1 dX11_otherNest_18 rfl ?_
  refine z_iload C 0 dX11_otherNest_20 rfl ?_
  refine z_icmp_ne C 29 dX11_otherNest_22 rfl (fun _ => ?_) (fun _ => ?_)
  · refine z_iconst C dX11_otherNest_25 rfl ?_
    refine z_goto C 42 dX11_otherNest_26 rfl ?_
    exact z_iret C hr (Nat.le_of_ble_eq_true rfl) dX11_otherNest_42 rfl
  · refine z_iload C 1 dX11_otherNest_29 rfl ?_
    refine z_iload_n C 2 4 dX11_otherNest_31 rfl rfl ?_
    refine z_icmp_ne C 40 dX11_otherNest_32 rfl (fun _ => ?_) (fun _ => ?_)
    · refine z_iload C 0 dX11_otherNest_35 rfl ?_
      refine z_goto C 42 dX11_otherNest_37 rfl ?_
      exact z_iret C hr (Nat.le_of_ble_eq_true rfl) dX11_otherNest_42 rfl
    · refine z_iload C 1 dX11_otherNest_40 rfl ?_
      exact z_iret C hr (Nat.le_of_ble_eq_true rfl) dX11_otherNest_42 rfl
set_option maxHeartbeats 4000000 in
set_option maxRecDepth 100000 in
theorem z_fX11_pushes_l14_s {p : Program} {l : Launch} {e : Env} {s : State} {m : MethodId} {args : Array Value} {below : List Frame} {meth : Method} {c : Code} {D : va_G} {cy : Nat → ClassId} {B : Nat} {kd : Nat → Nat} {n : Nat} {sa sv : Nat → Nat} (C : zC p l s m args meth c D cy B kd n sa sv RX11 cX11_pushes 8) (ht : ∀ x ∈ c.exceptionTable.toList, False) (hr : meth.sig.returnType = none) {b0 : Mem} (N : Nat) (v0 : Nat) (v1 : Int32) (v2 : Int32) (k14 : Int32 → Int32 → Int32 → Mem → Option Mem) (v4 : Int32) (v5 : Int32) (v6 : Int32) (M : Mem) (h0 : kd v0 = 11)  (hk14 : ∀ (v4 : Int32) (v5 : Int32) (v6 : Int32) (M : Mem), Z p l e (rmz 4 0) s m args below meth c (vx_MQ below (QcR D cy B kd n (cvV b0)) (XcR D cy B kd n (cvV b0)) args s 0 (6 * 0) (AA B kd n)) D cy B kd n 8 b0 0 14 [(0, .ref (B + v0)), (1, .int v1), (2, .int v2), (4, .int v4), (5, .int v5), (6, .int v6)] [] M (k14 v4 v5 v6 M)) : Z p l e (rmz 4 0) s m args below meth c (vx_MQ below (QcR D cy B kd n (cvV b0)) (XcR D cy B kd n (cvV b0)) args s 0 (6 * 0) (AA B kd n)) D cy B kd n 8 b0 0 14 [(0, .ref (B + v0)), (1, .int v1), (2, .int v2), (4, .int v4), (5, .int v5), (6, .int v6)] [] M (fX11_pushes_l14_s N v0 v1 v2 k14 v4 v5 v6 M) := by
  unfold fX11_pushes_l14_s
  refine z_aload_n C 0 0 dX11_pushes_14 rfl rfl ?_
  refine z_getR (k := 20) C cl11 h0 rfl gw_7_30 rfl dX11_pushes_15 ?_
  have j1 : kd (v0 + 9) = 24 := zkd C h0 (k := 20) rfl
  refine z_iload C 4 dX11_pushes_18 rfl ?_
  refine z_iald C j1 rfl (by decide) dX11_pushes_20 (fun j2 => ?_)
  refine z_iconst C dX11_pushes_21 rfl ?_
  refine z_icmp_eq C 81 dX11_pushes_22 rfl (fun _ => ?_) (fun _ => ?_)
  · refine z_aload_n C 0 0 dX11_pushes_81 rfl rfl ?_
    refine z_iload_n C 1 1 dX11_pushes_82 rfl rfl ?_
    refine z_aload_n C 0 0 dX11_pushes_83 rfl rfl ?_
    refine z_iload_n C 1 1 dX11_pushes_84 rfl rfl ?_
    refine z_iload C 4 dX11_pushes_85 rfl ?_
    refine z_iload C 5 dX11_pushes_87 rfl ?_
    refine z_callV_pI (As := [.int v1, .int v5, .int v6]) (rest := [.int v1, .ref (B + v0)]) C rfl (ctX11_slotAt (zG_of C) v0 v1 v5 v6 h0 M) cw_RX11_270 rfl (okM_X11_slotAt) rfl cl11 h0 (okR_of rfl) (Nat.le_of_ble_eq_true rfl) dX11_pushes_89 (fun qj3 _ => ?_)
    refine z_iload_n C 2 2 dX11_pushes_92 rfl rfl ?_
    refine z_iconst C dX11_pushes_93 rfl ?_
    refine z_iadd C dX11_pushes_94 ?_
    refine z_callV_V (As := [.int v1, .int qj3, .int (v2 + (1 : Int32))]) (rest := []) C rfl (ctX11_set (zG_of C) v0 v1 qj3 (v2 + (1 : Int32)) h0 M) cw_RX11_252 rfl (okM_X11_set) rfl cl11 h0 (okR_of rfl) (Nat.le_of_ble_eq_true rfl) dX11_pushes_95 (fun qj4 _ => ?_)
    refine z_aload_n C 0 0 dX11_pushes_98 rfl rfl ?_
    refine z_iload_n C 1 1 dX11_pushes_99 rfl rfl ?_
    refine z_iconst C dX11_pushes_100 rfl ?_
    refine z_iload C 3 dX11_pushes_101 rfl ?_
    refine z_callV_V (As := [.int v1, .int (5 : Int32), .int v4]) (rest := []) C rfl (ctX11_set (zG_of C) v0 v1 (5 : Int32) v4 h0 qj4) cw_RX11_252 rfl (okM_X11_set) rfl cl11 h0 (okR_of rfl) (Nat.le_of_ble_eq_true rfl) dX11_pushes_103 (fun qj5 _ => ?_)
    exact z_vret C hr (Nat.le_of_ble_eq_true rfl) dX11_pushes_106 rfl
  · refine z_aload_n C 0 0 dX11_pushes_25 rfl rfl ?_
    refine z_getR (k := 20) C cl11 h0 rfl gw_7_30 rfl dX11_pushes_26 ?_
    have j6 : kd (v0 + 9) = 24 := zkd C h0 (k := 20) rfl
    refine z_iload C 4 dX11_pushes_29 rfl ?_
    refine z_iald C j6 rfl (by decide) dX11_pushes_31 (fun j7 => ?_)
    refine z_istore C 7 (ls1 := [(7, .int (rI M (v0 + 9) v5.toNatClampNeg)), (0, .ref (B + v0)), (1, .int v1), (2, .int v2), (4, .int v4), (5, .int v5), (6, .int v6)]) dX11_pushes_32 (by decide) rfl ?_
    refine z_aload_n C 0 1 dX11_pushes_34 rfl rfl ?_
    refine z_iload_n C 1 2 dX11_pushes_35 rfl rfl ?_
    refine z_aload_n C 0 1 dX11_pushes_36 rfl rfl ?_
    refine z_iload_n C 1 2 dX11_pushes_37 rfl rfl ?_
    refine z_iload C 5 dX11_pushes_38 rfl ?_
    refine z_iload C 6 dX11_pushes_40 rfl ?_
    refine z_callV_pI (As := [.int v1, .int v5, .int v6]) (rest := [.int v1, .ref (B + v0)]) C rfl (ctX11_slotAt (zG_of C) v0 v1 v5 v6 h0 M) cw_RX11_270 rfl (okM_X11_slotAt) rfl cl11 h0 (okR_of rfl) (Nat.le_of_ble_eq_true rfl) dX11_pushes_42 (fun qj8 _ => ?_)
    refine z_aload_n C 0 1 dX11_pushes_45 rfl rfl ?_
    refine z_iload_n C 1 2 dX11_pushes_46 rfl rfl ?_
    refine z_iload C 0 dX11_pushes_47 rfl ?_
    refine z_iconst C dX11_pushes_49 rfl ?_
    refine z_idivK C dX11_pushes_50 (by decide) ?_
    refine z_iload C 0 dX11_pushes_51 rfl ?_
    refine z_iconst C dX11_pushes_53 rfl ?_
    refine z_iremK C dX11_pushes_54 (by decide) ?_
    refine z_callV_pI (As := [.int v1, .int ((rI M (v0 + 9) v5.toNatClampNeg) / (4 : Int32)), .int (remI (rI M (v0 + 9) v5.toNatClampNeg) (4 : Int32))]) (rest := [.int qj8, .int v1, .ref (B + v0)]) C rfl (ctX11_guestIn (zG_of C) v0 v1 ((rI M (v0 + 9) v5.toNatClampNeg) / (4 : Int32)) (remI (rI M (v0 + 9) v5.toNatClampNeg) (4 : Int32)) h0 M) cw_RX11_267 rfl (okM_X11_guestIn) rfl cl11 h0 (okR_of rfl) (Nat.le_of_ble_eq_true rfl) dX11_pushes_55 (fun qj9 _ => ?_)
    refine z_iconst C dX11_pushes_58 rfl ?_
    refine z_iadd C dX11_pushes_59 ?_
    refine z_callV_V (As := [.int v1, .int qj8, .int (qj9 + (1 : Int32))]) (rest := []) C rfl (ctX11_set (zG_of C) v0 v1 qj8 (qj9 + (1 : Int32)) h0 M) cw_RX11_252 rfl (okM_X11_set) rfl cl11 h0 (okR_of rfl) (Nat.le_of_ble_eq_true rfl) dX11_pushes_60 (fun qj10 _ => ?_)
    refine z_iload C 0 dX11_pushes_63 rfl ?_
    refine z_iconst C dX11_pushes_65 rfl ?_
    refine z_idivK C dX11_pushes_66 (by decide) ?_
    refine z_istore C 5 (ls1 := [(5, .int ((rI M (v0 + 9) v5.toNatClampNeg) / (4 : Int32))), (7, .int (rI M (v0 + 9) v5.toNatClampNeg)), (0, .ref (B + v0)), (1, .int v1), (2, .int v2), (4, .int v4), (6, .int v6)]) dX11_pushes_67 (by decide) rfl ?_
    refine z_iload C 1 dX11_pushes_69 rfl ?_
    refine z_iconst C dX11_pushes_71 rfl ?_
    refine z_iremK C dX11_pushes_72 (by decide) ?_
    refine z_istore C 6 (ls1 := [(6, .int (remI (rI M (v0 + 9) v5.toNatClampNeg) (4 : Int32))), (5, .int ((rI M (v0 + 9) v5.toNatClampNeg) / (4 : Int32))), (7, .int (rI M (v0 + 9) v5.toNatClampNeg)), (0, .ref (B + v0)), (1, .int v1), (2, .int v2), (4, .int v4)]) dX11_pushes_73 (by decide) rfl ?_
    refine z_iinc C 4 6 (v := v4) (v1 := (v4 + (1 : Int32))) (ls1 := [(4, .int (v4 + (1 : Int32))), (6, .int (remI (rI M (v0 + 9) v5.toNatClampNeg) (4 : Int32))), (5, .int ((rI M (v0 + 9) v5.toNatClampNeg) / (4 : Int32))), (7, .int (rI M (v0 + 9) v5.toNatClampNeg)), (0, .ref (B + v0)), (1, .int v1), (2, .int v2)]) dX11_pushes_75 rfl rfl (by decide) rfl ?_
    refine z_goto C 14 dX11_pushes_78 rfl ?_
    exact z_jump (ls1 := [(0, .ref (B + v0)), (1, .int v1), (2, .int v2), (4, .int (v4 + (1 : Int32))), (5, .int ((rI M (v0 + 9) v5.toNatClampNeg) / (4 : Int32))), (6, .int (remI (rI M (v0 + 9) v5.toNatClampNeg) (4 : Int32)))]) (Nat.le_of_ble_eq_true rfl) [4, 5, 6, 0, 2, 1] rfl (hk14 (v4 + (1 : Int32)) ((rI M (v0 + 9) v5.toNatClampNeg) / (4 : Int32)) (remI (rI M (v0 + 9) v5.toNatClampNeg) (4 : Int32)) qj10)
theorem z_fX11_pushes_l14_i {p : Program} {l : Launch} {e : Env} {s : State} {m : MethodId} {args : Array Value} {below : List Frame} {meth : Method} {c : Code} {D : va_G} {cy : Nat → ClassId} {B : Nat} {kd : Nat → Nat} {n : Nat} {sa sv : Nat → Nat} (C : zC p l s m args meth c D cy B kd n sa sv RX11 cX11_pushes 8) (ht : ∀ x ∈ c.exceptionTable.toList, False) (hr : meth.sig.returnType = none) {b0 : Mem} (N : Nat) (v0 : Nat) (v1 : Int32) (v2 : Int32) (h0 : kd v0 = 11)  (fu : Nat) : ∀ (v4 : Int32) (v5 : Int32) (v6 : Int32) (M : Mem), Z p l e (rmz 4 0) s m args below meth c (vx_MQ below (QcR D cy B kd n (cvV b0)) (XcR D cy B kd n (cvV b0)) args s 0 (6 * 0) (AA B kd n)) D cy B kd n 8 b0 0 14 [(0, .ref (B + v0)), (1, .int v1), (2, .int v2), (4, .int v4), (5, .int v5), (6, .int v6)] [] M (fX11_pushes_l14 N v0 v1 v2 fu v4 v5 v6 M) := by
  induction fu with
  | zero => intro v4 v5 v6 M; exact z_none
  | succ fu ih => intro v4 v5 v6 M; exact z_fX11_pushes_l14_s C ht hr N v0 v1 v2 (fX11_pushes_l14 N v0 v1 v2 fu) v4 v5 v6 M h0 (fun v4 v5 v6 M => ih v4 v5 v6 M)
theorem z_fX11_pushes_l14 {p : Program} {l : Launch} {e : Env} {s : State} {m : MethodId} {args : Array Value} {below : List Frame} {meth : Method} {c : Code} {D : va_G} {cy : Nat → ClassId} {B : Nat} {kd : Nat → Nat} {n : Nat} {sa sv : Nat → Nat} (C : zC p l s m args meth c D cy B kd n sa sv RX11 cX11_pushes 8) (ht : ∀ x ∈ c.exceptionTable.toList, False) (hr : meth.sig.returnType = none) {b0 : Mem} (N : Nat) (v0 : Nat) (v1 : Int32) (v2 : Int32) (fu : Nat) (v4 : Int32) (v5 : Int32) (v6 : Int32) (M : Mem) (h0 : kd v0 = 11)  : Z p l e (rmz 4 0) s m args below meth c (vx_MQ below (QcR D cy B kd n (cvV b0)) (XcR D cy B kd n (cvV b0)) args s 0 (6 * 0) (AA B kd n)) D cy B kd n 8 b0 0 14 [(0, .ref (B + v0)), (1, .int v1), (2, .int v2), (4, .int v4), (5, .int v5), (6, .int v6)] [] M (fX11_pushes_l14 N v0 v1 v2 fu v4 v5 v6 M) := z_fX11_pushes_l14_i C ht hr N v0 v1 v2 h0 fu v4 v5 v6 M
set_option maxHeartbeats 4000000 in
set_option maxRecDepth 100000 in
theorem ctX11_pushes {l : Launch} {D : va_G} {cy : Nat → ClassId} {B : Nat} {kd : Nat → Nat} {n : Nat} {sa sv : Nat → Nat} (G : zG l kd n) (N : Nat) (v0 : Nat) (v1 : Int32) (v2 : Int32) (v3 : Int32) (h0 : kd v0 = 11) (M : Mem) : CT l D cy B kd n sa sv 4 0 yX11_pushes cX11_pushes 8 (none) cvV [.ref (B + v0), .int v1, .int v2, .int v3] M (fX11_pushes N v0 v1 v2 v3 M) := by
  refine ct_of (by decide) G.1 G.2 (Nat.le_of_ble_eq_true rfl) (ls := [(0, .ref (B + v0)), (1, .int v1), (2, .int v2), (3, .int v3)]) rfl ?_
  intro p e s m args below meth c b0 C ht hr
  unfold fX11_pushes
  refine z_iconst C dX11_pushes_0 rfl ?_
  refine z_istore C 4 (ls1 := [(4, .int (0 : Int32)), (0, .ref (B + v0)), (1, .int v1), (2, .int v2), (3, .int v3)]) dX11_pushes_1 (by decide) rfl ?_
  refine z_iload_n C 3 4 dX11_pushes_3 rfl rfl ?_
  refine z_istore C 5 (ls1 := [(5, .int v3), (4, .int (0 : Int32)), (0, .ref (B + v0)), (1, .int v1), (2, .int v2), (3, .int v3)]) dX11_pushes_4 (by decide) rfl ?_
  refine z_aload_n C 0 2 dX11_pushes_6 rfl rfl ?_
  refine z_iload_n C 1 3 dX11_pushes_7 rfl rfl ?_
  refine z_iload_n C 3 5 dX11_pushes_8 rfl rfl ?_
  refine z_callV_pI (As := [.int v1, .int v3]) (rest := []) C rfl (ctX11_freeSlot (zG_of C) N v0 v1 v3 h0 M) cw_RX11_276 rfl (okM_X11_freeSlot) rfl cl11 h0 (okR_of rfl) (Nat.le_of_ble_eq_true rfl) dX11_pushes_9 (fun qj1 _ => ?_)
  refine z_istore C 6 (ls1 := [(6, .int qj1), (5, .int v3), (4, .int (0 : Int32)), (0, .ref (B + v0)), (1, .int v1), (2, .int v2), (3, .int v3)]) dX11_pushes_12 (by decide) rfl ?_
  exact z_jump (ls1 := [(0, .ref (B + v0)), (1, .int v1), (2, .int v2), (4, .int (0 : Int32)), (5, .int v3), (6, .int qj1)]) (Nat.le_of_ble_eq_true rfl) [3, 4, 5, 2, 1, 0] rfl (z_fX11_pushes_l14 C ht hr N v0 v1 v2 N (0 : Int32) v3 qj1 M h0)
set_option maxHeartbeats 4000000 in
set_option maxRecDepth 100000 in
theorem z_fX11_nestPuts_b314 {p : Program} {l : Launch} {e : Env} {s : State} {m : MethodId} {args : Array Value} {below : List Frame} {meth : Method} {c : Code} {D : va_G} {cy : Nat → ClassId} {B : Nat} {kd : Nat → Nat} {n : Nat} {sa sv : Nat → Nat} (C : zC p l s m args meth c D cy B kd n sa sv RX11 cX11_nestPuts 10) (ht : ∀ x ∈ c.exceptionTable.toList, False) (hr : meth.sig.returnType = some (FieldType.boolean)) {b0 : Bool × Mem}  (N : Nat) (k186 : Int32 → Int32 → Mem → Option (Bool × Mem)) (k196 : Int32 → Int32 → Mem → Option (Bool × Mem)) (v0 : Nat) (v1 : Int32) (v2 : Int32) (v6 : Int32) (v7 : Int32) (v8 : Int32) (M : Mem) (h0 : kd v0 = 11) (hk186 : ∀ (v6 : Int32) (v7 : Int32) (M : Mem), Z p l e (rmz 5 0) s m args below meth c (vx_MQ below (QcR D cy B kd n (cvB b0)) (XcR D cy B kd n (cvB b0)) args s 0 (6 * 0) (AA B kd n)) D cy B kd n 10 b0 0 186 [(0, .ref (B + v0)), (1, .int v1), (2, .int v2), (6, .int v6), (7, .int v7)] [] M (k186 v6 v7 M)) (hk196 : ∀ (v6 : Int32) (v8 : Int32) (M : Mem), Z p l e (rmz 5 0) s m args below meth c (vx_MQ below (QcR D cy B kd n (cvB b0)) (XcR D cy B kd n (cvB b0)) args s 0 (6 * 0) (AA B kd n)) D cy B kd n 10 b0 0 196 [(0, .ref (B + v0)), (1, .int v1), (2, .int v2), (6, .int v6), (7, .int v7), (8, .int v8)] [] M (k196 v6 v8 M)) : Z p l e (rmz 5 0) s m args below meth c (vx_MQ below (QcR D cy B kd n (cvB b0)) (XcR D cy B kd n (cvB b0)) args s 0 (6 * 0) (AA B kd n)) D cy B kd n 10 b0 0 314 [(0, .ref (B + v0)), (1, .int v1), (2, .int v2), (6, .int v6), (7, .int v7), (8, .int v8)] [] M (fX11_nestPuts_b314 N k186 k196 v0 v1 v2 v6 v7 v8 M) := by
  unfold fX11_nestPuts_b314
  refine z_iinc C 8 5 (v := v8) (v1 := (v8 + (1 : Int32))) (ls1 := [(8, .int (v8 + (1 : Int32))), (0, .ref (B + v0)), (1, .int v1), (2, .int v2), (6, .int v6), (7, .int v7)]) dX11_nestPuts_314 rfl rfl (by decide) rfl ?_
  refine z_goto C 196 dX11_nestPuts_317 rfl ?_
  exact z_jump (ls1 := [(0, .ref (B + v0)), (1, .int v1), (2, .int v2), (6, .int v6), (7, .int v7), (8, .int (v8 + (1 : Int32)))]) (Nat.le_of_ble_eq_true rfl) [1, 2, 3, 4, 5, 0] rfl (hk196 v6 (v8 + (1 : Int32)) M)
set_option maxHeartbeats 4000000 in
set_option maxRecDepth 100000 in
theorem z_fX11_nestPuts_l196_s {p : Program} {l : Launch} {e : Env} {s : State} {m : MethodId} {args : Array Value} {below : List Frame} {meth : Method} {c : Code} {D : va_G} {cy : Nat → ClassId} {B : Nat} {kd : Nat → Nat} {n : Nat} {sa sv : Nat → Nat} (C : zC p l s m args meth c D cy B kd n sa sv RX11 cX11_nestPuts 10) (ht : ∀ x ∈ c.exceptionTable.toList, False) (hr : meth.sig.returnType = some (FieldType.boolean)) {b0 : Bool × Mem} (N : Nat) (k186 : Int32 → Int32 → Mem → Option (Bool × Mem)) (v0 : Nat) (v1 : Int32) (v2 : Int32) (v7 : Int32) (k196 : Int32 → Int32 → Mem → Option (Bool × Mem)) (v6 : Int32) (v8 : Int32) (M : Mem) (h0 : kd v0 = 11) (hk186 : ∀ (v6 : Int32) (v7 : Int32) (M : Mem), Z p l e (rmz 5 0) s m args below meth c (vx_MQ below (QcR D cy B kd n (cvB b0)) (XcR D cy B kd n (cvB b0)) args s 0 (6 * 0) (AA B kd n)) D cy B kd n 10 b0 0 186 [(0, .ref (B + v0)), (1, .int v1), (2, .int v2), (6, .int v6), (7, .int v7)] [] M (k186 v6 v7 M)) (hk196 : ∀ (v6 : Int32) (v8 : Int32) (M : Mem), Z p l e (rmz 5 0) s m args below meth c (vx_MQ below (QcR D cy B kd n (cvB b0)) (XcR D cy B kd n (cvB b0)) args s 0 (6 * 0) (AA B kd n)) D cy B kd n 10 b0 0 196 [(0, .ref (B + v0)), (1, .int v1), (2, .int v2), (6, .int v6), (7, .int v7), (8, .int v8)] [] M (k196 v6 v8 M)) : Z p l e (rmz 5 0) s m args below meth c (vx_MQ below (QcR D cy B kd n (cvB b0)) (XcR D cy B kd n (cvB b0)) args s 0 (6 * 0) (AA B kd n)) D cy B kd n 10 b0 0 196 [(0, .ref (B + v0)), (1, .int v1), (2, .int v2), (6, .int v6), (7, .int v7), (8, .int v8)] [] M (fX11_nestPuts_l196_s N k186 v0 v1 v2 v7 k196 v6 v8 M) := by
  unfold fX11_nestPuts_l196_s
  refine z_iload C 5 dX11_nestPuts_196 rfl ?_
  refine z_aload_n C 0 0 dX11_nestPuts_198 rfl rfl ?_
  refine z_iload_n C 1 1 dX11_nestPuts_199 rfl rfl ?_
  refine z_iconst C dX11_nestPuts_200 rfl ?_
  refine z_callV_pI (As := [.int v1, .int (3 : Int32)]) (rest := [.int v8]) C rfl (ctX11_get (zG_of C) v0 v1 (3 : Int32) h0 M) cw_RX11_237 rfl (okM_X11_get) rfl cl11 h0 (okR_of rfl) (Nat.le_of_ble_eq_true rfl) dX11_nestPuts_201 (fun qj1 _ => ?_)
  refine z_icmp_ge C 320 dX11_nestPuts_204 rfl (fun _ => ?_) (fun _ => ?_)
  · refine z_iinc C 7 4 (v := v7) (v1 := (v7 + (1 : Int32))) (ls1 := [(7, .int (v7 + (1 : Int32))), (0, .ref (B + v0)), (1, .int v1), (2, .int v2), (6, .int v6), (8, .int v8)]) dX11_nestPuts_320 rfl rfl (by decide) rfl ?_
    refine z_goto C 186 dX11_nestPuts_323 rfl ?_
    exact z_jump (ls1 := [(0, .ref (B + v0)), (1, .int v1), (2, .int v2), (6, .int v6), (7, .int (v7 + (1 : Int32)))]) (Nat.le_of_ble_eq_true rfl) [1, 2, 3, 4, 0] rfl (hk186 v6 (v7 + (1 : Int32)) M)
  · refine z_aload_n C 0 0 dX11_nestPuts_207 rfl rfl ?_
    refine z_iload_n C 1 1 dX11_nestPuts_208 rfl rfl ?_
    refine z_aload_n C 0 0 dX11_nestPuts_209 rfl rfl ?_
    refine z_getR (k := 19) C cl11 h0 rfl gw_7_29 rfl dX11_nestPuts_210 ?_
    have j2 : kd (v0 + 8) = 24 := zkd C h0 (k := 19) rfl
    refine z_iload C 4 dX11_nestPuts_213 rfl ?_
    refine z_iald C j2 rfl (by decide) dX11_nestPuts_215 (fun j3 => ?_)
    refine z_aload_n C 0 0 dX11_nestPuts_216 rfl rfl ?_
    refine z_iload_n C 1 1 dX11_nestPuts_217 rfl rfl ?_
    refine z_aload_n C 0 0 dX11_nestPuts_218 rfl rfl ?_
    refine z_getR (k := 19) C cl11 h0 rfl gw_7_29 rfl dX11_nestPuts_219 ?_
    have j4 : kd (v0 + 8) = 24 := zkd C h0 (k := 19) rfl
    refine z_iload C 4 dX11_nestPuts_222 rfl ?_
    refine z_iald C j4 rfl (by decide) dX11_nestPuts_224 (fun j5 => ?_)
    refine z_iload C 5 dX11_nestPuts_225 rfl ?_
    refine z_callV_pI (As := [.int v1, .int (rI M (v0 + 8) v7.toNatClampNeg), .int v8]) (rest := [.int (rI M (v0 + 8) v7.toNatClampNeg), .int v1, .ref (B + v0)]) C rfl (ctX11_guestIn (zG_of C) v0 v1 (rI M (v0 + 8) v7.toNatClampNeg) v8 h0 M) cw_RX11_267 rfl (okM_X11_guestIn) rfl cl11 h0 (okR_of rfl) (Nat.le_of_ble_eq_true rfl) dX11_nestPuts_227 (fun qj6 _ => ?_)
    refine z_callV_I (As := [.int v1, .int (rI M (v0 + 8) v7.toNatClampNeg), .int qj6]) (rest := []) C rfl (ctX11_otherNest (zG_of C) N v0 v1 (rI M (v0 + 8) v7.toNatClampNeg) qj6 h0 M) cw_RX11_279 rfl (okM_X11_otherNest) rfl cl11 h0 (okR_of rfl) (Nat.le_of_ble_eq_true rfl) dX11_nestPuts_230 (fun qj7 _ => ?_)
    refine z_istore C 9 (ls1 := [(9, .int qj7.1), (0, .ref (B + v0)), (1, .int v1), (2, .int v2), (6, .int v6), (7, .int v7), (8, .int v8)]) dX11_nestPuts_233 (by decide) rfl ?_
    refine z_iload C 0 dX11_nestPuts_235 rfl ?_
    refine z_iconst C dX11_nestPuts_237 rfl ?_
    refine z_icmp_eq C 314 dX11_nestPuts_238 rfl (fun _ => ?_) (fun _ => ?_)
    · exact z_jump (ls1 := [(0, .ref (B + v0)), (1, .int v1), (2, .int v2), (6, .int v6), (7, .int v7), (8, .int v8)]) (Nat.le_of_ble_eq_true rfl) [1, 2, 3, 4, 5, 6] rfl (z_fX11_nestPuts_b314 C ht hr N k186 k196 v0 v1 v2 v6 v7 v8 qj7.2 h0 hk186 hk196)
    · refine z_aload_n C 0 1 dX11_nestPuts_241 rfl rfl ?_
      refine z_getR (k := 21) C cl11 h0 rfl gw_7_31 rfl dX11_nestPuts_242 ?_
      have j8 : kd (v0 + 10) = 41 := zkd C h0 (k := 21) rfl
      refine z_iload C 0 dX11_nestPuts_245 rfl ?_
      refine z_zald C j8 rfl (by decide) dX11_nestPuts_247 (fun j9 => ?_)
      refine z_if_eq C 254 dX11_nestPuts_248 rfl (fun _ => ?_) (fun _ => ?_)
      · refine z_aload_n C 0 1 dX11_nestPuts_254 rfl rfl ?_
        refine z_getR (k := 21) C cl11 h0 rfl gw_7_31 rfl dX11_nestPuts_255 ?_
        have j10 : kd (v0 + 10) = 41 := zkd C h0 (k := 21) rfl
        refine z_iload C 0 dX11_nestPuts_258 rfl ?_
        refine z_iconst C dX11_nestPuts_260 rfl ?_
        refine z_zast C j10 rfl (by decide) dX11_nestPuts_261 (fun _ => ?_)
        refine z_aload_n C 0 1 dX11_nestPuts_262 rfl rfl ?_
        refine z_getR (k := 20) C cl11 h0 rfl gw_7_30 rfl dX11_nestPuts_263 ?_
        have j11 : kd (v0 + 9) = 24 := zkd C h0 (k := 20) rfl
        refine z_iload C 0 dX11_nestPuts_266 rfl ?_
        refine z_iconst C dX11_nestPuts_268 rfl ?_
        refine z_aload_n C 0 1 dX11_nestPuts_269 rfl rfl ?_
        refine z_getR (k := 19) C cl11 h0 rfl gw_7_29 rfl dX11_nestPuts_270 ?_
        have j12 : kd (v0 + 8) = 24 := zkd C h0 (k := 19) rfl
        refine z_iload C 5 dX11_nestPuts_273 rfl ?_
        refine z_iald C j12 rfl (by decide) dX11_nestPuts_275 (fun j13 => ?_)
        refine z_imul C dX11_nestPuts_276 ?_
        refine z_iload C 6 dX11_nestPuts_277 rfl ?_
        refine z_iadd C dX11_nestPuts_279 ?_
        refine z_iast C j11 rfl (by decide) dX11_nestPuts_280 (fun _ => ?_)
        refine z_aload_n C 0 1 dX11_nestPuts_281 rfl rfl ?_
        refine z_iload_n C 1 2 dX11_nestPuts_282 rfl rfl ?_
        refine z_iload C 0 dX11_nestPuts_283 rfl ?_
        refine z_callV_pI (As := [.int v1, .int qj7.1]) (rest := []) C rfl (ctX11_freeSlot (zG_of C) N v0 v1 qj7.1 h0 (wI (wI qj7.2 (v0 + 10) qj7.1.toNatClampNeg (vp_nar .boolean (1 : Int32))) (v0 + 9) qj7.1.toNatClampNeg (((4 : Int32) * (rI (wI qj7.2 (v0 + 10) qj7.1.toNatClampNeg (vp_nar .boolean (1 : Int32))) (v0 + 8) v7.toNatClampNeg)) + v8))) cw_RX11_276 rfl (okM_X11_freeSlot) rfl cl11 h0 (okR_of rfl) (Nat.le_of_ble_eq_true rfl) dX11_nestPuts_285 (fun qj14 _ => ?_)
        refine z_iconst C dX11_nestPuts_288 rfl ?_
        refine z_icmp_eq C 302 dX11_nestPuts_289 rfl (fun _ => ?_) (fun _ => ?_)
        · refine z_aload_n C 0 1 dX11_nestPuts_302 rfl rfl ?_
          refine z_getR (k := 19) C cl11 h0 rfl gw_7_29 rfl dX11_nestPuts_303 ?_
          have j15 : kd (v0 + 8) = 24 := zkd C h0 (k := 19) rfl
          refine z_iload C 4 dX11_nestPuts_306 rfl ?_
          refine z_iload C 0 dX11_nestPuts_308 rfl ?_
          refine z_iast C j15 rfl (by decide) dX11_nestPuts_310 (fun _ => ?_)
          refine z_iinc C 6 4 (v := v6) (v1 := (v6 + (1 : Int32))) (ls1 := [(6, .int (v6 + (1 : Int32))), (9, .int qj7.1), (0, .ref (B + v0)), (1, .int v1), (2, .int v2), (7, .int v7), (8, .int v8)]) dX11_nestPuts_311 rfl rfl (by decide) rfl ?_
          exact z_jump (ls1 := [(0, .ref (B + v0)), (1, .int v1), (2, .int v2), (6, .int (v6 + (1 : Int32))), (7, .int v7), (8, .int v8)]) (Nat.le_of_ble_eq_true rfl) [2, 3, 4, 0, 5, 6] rfl (z_fX11_nestPuts_b314 C ht hr N k186 k196 v0 v1 v2 (v6 + (1 : Int32)) v7 v8 (wI (wI (wI qj7.2 (v0 + 10) qj7.1.toNatClampNeg (vp_nar .boolean (1 : Int32))) (v0 + 9) qj7.1.toNatClampNeg (((4 : Int32) * (rI (wI qj7.2 (v0 + 10) qj7.1.toNatClampNeg (vp_nar .boolean (1 : Int32))) (v0 + 8) v7.toNatClampNeg)) + v8)) (v0 + 8) v6.toNatClampNeg qj7.1) h0 hk186 hk196)
        · refine z_aload_n C 0 1 dX11_nestPuts_292 rfl rfl ?_
          refine z_iload_n C 1 2 dX11_nestPuts_293 rfl rfl ?_
          refine z_iload_n C 2 3 dX11_nestPuts_294 rfl rfl ?_
          refine z_iload C 0 dX11_nestPuts_295 rfl ?_
          refine z_callV_V (As := [.int v1, .int v2, .int qj7.1]) (rest := []) C rfl (ctX11_pushes (zG_of C) N v0 v1 v2 qj7.1 h0 (wI (wI qj7.2 (v0 + 10) qj7.1.toNatClampNeg (vp_nar .boolean (1 : Int32))) (v0 + 9) qj7.1.toNatClampNeg (((4 : Int32) * (rI (wI qj7.2 (v0 + 10) qj7.1.toNatClampNeg (vp_nar .boolean (1 : Int32))) (v0 + 8) v7.toNatClampNeg)) + v8))) cw_RX11_282 rfl (okM_X11_pushes) rfl cl11 h0 (okR_of rfl) (Nat.le_of_ble_eq_true rfl) dX11_nestPuts_297 (fun qj16 _ => ?_)
          refine z_iconst C dX11_nestPuts_300 rfl ?_
          exact z_zret C (v := true) hr (Nat.le_of_ble_eq_true rfl) dX11_nestPuts_301 rfl
      · refine z_goto C 314 dX11_nestPuts_251 rfl ?_
        exact z_jump (ls1 := [(0, .ref (B + v0)), (1, .int v1), (2, .int v2), (6, .int v6), (7, .int v7), (8, .int v8)]) (Nat.le_of_ble_eq_true rfl) [1, 2, 3, 4, 5, 6] rfl (z_fX11_nestPuts_b314 C ht hr N k186 k196 v0 v1 v2 v6 v7 v8 qj7.2 h0 hk186 hk196)
theorem z_fX11_nestPuts_l196_i {p : Program} {l : Launch} {e : Env} {s : State} {m : MethodId} {args : Array Value} {below : List Frame} {meth : Method} {c : Code} {D : va_G} {cy : Nat → ClassId} {B : Nat} {kd : Nat → Nat} {n : Nat} {sa sv : Nat → Nat} (C : zC p l s m args meth c D cy B kd n sa sv RX11 cX11_nestPuts 10) (ht : ∀ x ∈ c.exceptionTable.toList, False) (hr : meth.sig.returnType = some (FieldType.boolean)) {b0 : Bool × Mem} (N : Nat) (k186 : Int32 → Int32 → Mem → Option (Bool × Mem)) (v0 : Nat) (v1 : Int32) (v2 : Int32) (v7 : Int32) (h0 : kd v0 = 11) (hk186 : ∀ (v6 : Int32) (v7 : Int32) (M : Mem), Z p l e (rmz 5 0) s m args below meth c (vx_MQ below (QcR D cy B kd n (cvB b0)) (XcR D cy B kd n (cvB b0)) args s 0 (6 * 0) (AA B kd n)) D cy B kd n 10 b0 0 186 [(0, .ref (B + v0)), (1, .int v1), (2, .int v2), (6, .int v6), (7, .int v7)] [] M (k186 v6 v7 M)) (fu : Nat) : ∀ (v6 : Int32) (v8 : Int32) (M : Mem), Z p l e (rmz 5 0) s m args below meth c (vx_MQ below (QcR D cy B kd n (cvB b0)) (XcR D cy B kd n (cvB b0)) args s 0 (6 * 0) (AA B kd n)) D cy B kd n 10 b0 0 196 [(0, .ref (B + v0)), (1, .int v1), (2, .int v2), (6, .int v6), (7, .int v7), (8, .int v8)] [] M (fX11_nestPuts_l196 N k186 v0 v1 v2 v7 fu v6 v8 M) := by
  induction fu with
  | zero => intro v6 v8 M; exact z_none
  | succ fu ih => intro v6 v8 M; exact z_fX11_nestPuts_l196_s C ht hr N k186 v0 v1 v2 v7 (fX11_nestPuts_l196 N k186 v0 v1 v2 v7 fu) v6 v8 M h0 hk186 (fun v6 v8 M => ih v6 v8 M)
theorem z_fX11_nestPuts_l196 {p : Program} {l : Launch} {e : Env} {s : State} {m : MethodId} {args : Array Value} {below : List Frame} {meth : Method} {c : Code} {D : va_G} {cy : Nat → ClassId} {B : Nat} {kd : Nat → Nat} {n : Nat} {sa sv : Nat → Nat} (C : zC p l s m args meth c D cy B kd n sa sv RX11 cX11_nestPuts 10) (ht : ∀ x ∈ c.exceptionTable.toList, False) (hr : meth.sig.returnType = some (FieldType.boolean)) {b0 : Bool × Mem} (N : Nat) (k186 : Int32 → Int32 → Mem → Option (Bool × Mem)) (v0 : Nat) (v1 : Int32) (v2 : Int32) (v7 : Int32) (fu : Nat) (v6 : Int32) (v8 : Int32) (M : Mem) (h0 : kd v0 = 11) (hk186 : ∀ (v6 : Int32) (v7 : Int32) (M : Mem), Z p l e (rmz 5 0) s m args below meth c (vx_MQ below (QcR D cy B kd n (cvB b0)) (XcR D cy B kd n (cvB b0)) args s 0 (6 * 0) (AA B kd n)) D cy B kd n 10 b0 0 186 [(0, .ref (B + v0)), (1, .int v1), (2, .int v2), (6, .int v6), (7, .int v7)] [] M (k186 v6 v7 M)) : Z p l e (rmz 5 0) s m args below meth c (vx_MQ below (QcR D cy B kd n (cvB b0)) (XcR D cy B kd n (cvB b0)) args s 0 (6 * 0) (AA B kd n)) D cy B kd n 10 b0 0 196 [(0, .ref (B + v0)), (1, .int v1), (2, .int v2), (6, .int v6), (7, .int v7), (8, .int v8)] [] M (fX11_nestPuts_l196 N k186 v0 v1 v2 v7 fu v6 v8 M) := z_fX11_nestPuts_l196_i C ht hr N k186 v0 v1 v2 v7 h0 hk186 fu v6 v8 M
set_option maxHeartbeats 4000000 in
set_option maxRecDepth 100000 in
theorem z_fX11_nestPuts_l186_s {p : Program} {l : Launch} {e : Env} {s : State} {m : MethodId} {args : Array Value} {below : List Frame} {meth : Method} {c : Code} {D : va_G} {cy : Nat → ClassId} {B : Nat} {kd : Nat → Nat} {n : Nat} {sa sv : Nat → Nat} (C : zC p l s m args meth c D cy B kd n sa sv RX11 cX11_nestPuts 10) (ht : ∀ x ∈ c.exceptionTable.toList, False) (hr : meth.sig.returnType = some (FieldType.boolean)) {b0 : Bool × Mem} (N : Nat) (v0 : Nat) (v1 : Int32) (v2 : Int32) (k186 : Int32 → Int32 → Mem → Option (Bool × Mem)) (v6 : Int32) (v7 : Int32) (M : Mem) (h0 : kd v0 = 11)  (hk186 : ∀ (v6 : Int32) (v7 : Int32) (M : Mem), Z p l e (rmz 5 0) s m args below meth c (vx_MQ below (QcR D cy B kd n (cvB b0)) (XcR D cy B kd n (cvB b0)) args s 0 (6 * 0) (AA B kd n)) D cy B kd n 10 b0 0 186 [(0, .ref (B + v0)), (1, .int v1), (2, .int v2), (6, .int v6), (7, .int v7)] [] M (k186 v6 v7 M)) : Z p l e (rmz 5 0) s m args below meth c (vx_MQ below (QcR D cy B kd n (cvB b0)) (XcR D cy B kd n (cvB b0)) args s 0 (6 * 0) (AA B kd n)) D cy B kd n 10 b0 0 186 [(0, .ref (B + v0)), (1, .int v1), (2, .int v2), (6, .int v6), (7, .int v7)] [] M (fX11_nestPuts_l186_s N v0 v1 v2 k186 v6 v7 M) := by
  unfold fX11_nestPuts_l186_s
  refine z_iload C 4 dX11_nestPuts_186 rfl ?_
  refine z_iload C 3 dX11_nestPuts_188 rfl ?_
  refine z_icmp_ge C 326 dX11_nestPuts_190 rfl (fun _ => ?_) (fun _ => ?_)
  · refine z_iconst C dX11_nestPuts_326 rfl ?_
    exact z_zret C (v := false) hr (Nat.le_of_ble_eq_true rfl) dX11_nestPuts_327 rfl
  · refine z_iconst C dX11_nestPuts_193 rfl ?_
    refine z_istore C 8 (ls1 := [(8, .int (0 : Int32)), (0, .ref (B + v0)), (1, .int v1), (2, .int v2), (6, .int v6), (7, .int v7)]) dX11_nestPuts_194 (by decide) rfl ?_
    exact z_jump (ls1 := [(0, .ref (B + v0)), (1, .int v1), (2, .int v2), (6, .int v6), (7, .int v7), (8, .int (0 : Int32))]) (Nat.le_of_ble_eq_true rfl) [1, 2, 3, 4, 5, 0] rfl (z_fX11_nestPuts_l196 C ht hr N k186 v0 v1 v2 v7 N v6 (0 : Int32) M h0 hk186)
theorem z_fX11_nestPuts_l186_i {p : Program} {l : Launch} {e : Env} {s : State} {m : MethodId} {args : Array Value} {below : List Frame} {meth : Method} {c : Code} {D : va_G} {cy : Nat → ClassId} {B : Nat} {kd : Nat → Nat} {n : Nat} {sa sv : Nat → Nat} (C : zC p l s m args meth c D cy B kd n sa sv RX11 cX11_nestPuts 10) (ht : ∀ x ∈ c.exceptionTable.toList, False) (hr : meth.sig.returnType = some (FieldType.boolean)) {b0 : Bool × Mem} (N : Nat) (v0 : Nat) (v1 : Int32) (v2 : Int32) (h0 : kd v0 = 11)  (fu : Nat) : ∀ (v6 : Int32) (v7 : Int32) (M : Mem), Z p l e (rmz 5 0) s m args below meth c (vx_MQ below (QcR D cy B kd n (cvB b0)) (XcR D cy B kd n (cvB b0)) args s 0 (6 * 0) (AA B kd n)) D cy B kd n 10 b0 0 186 [(0, .ref (B + v0)), (1, .int v1), (2, .int v2), (6, .int v6), (7, .int v7)] [] M (fX11_nestPuts_l186 N v0 v1 v2 fu v6 v7 M) := by
  induction fu with
  | zero => intro v6 v7 M; exact z_none
  | succ fu ih => intro v6 v7 M; exact z_fX11_nestPuts_l186_s C ht hr N v0 v1 v2 (fX11_nestPuts_l186 N v0 v1 v2 fu) v6 v7 M h0 (fun v6 v7 M => ih v6 v7 M)
theorem z_fX11_nestPuts_l186 {p : Program} {l : Launch} {e : Env} {s : State} {m : MethodId} {args : Array Value} {below : List Frame} {meth : Method} {c : Code} {D : va_G} {cy : Nat → ClassId} {B : Nat} {kd : Nat → Nat} {n : Nat} {sa sv : Nat → Nat} (C : zC p l s m args meth c D cy B kd n sa sv RX11 cX11_nestPuts 10) (ht : ∀ x ∈ c.exceptionTable.toList, False) (hr : meth.sig.returnType = some (FieldType.boolean)) {b0 : Bool × Mem} (N : Nat) (v0 : Nat) (v1 : Int32) (v2 : Int32) (fu : Nat) (v6 : Int32) (v7 : Int32) (M : Mem) (h0 : kd v0 = 11)  : Z p l e (rmz 5 0) s m args below meth c (vx_MQ below (QcR D cy B kd n (cvB b0)) (XcR D cy B kd n (cvB b0)) args s 0 (6 * 0) (AA B kd n)) D cy B kd n 10 b0 0 186 [(0, .ref (B + v0)), (1, .int v1), (2, .int v2), (6, .int v6), (7, .int v7)] [] M (fX11_nestPuts_l186 N v0 v1 v2 fu v6 v7 M) := z_fX11_nestPuts_l186_i C ht hr N v0 v1 v2 h0 fu v6 v7 M
set_option maxHeartbeats 4000000 in
set_option maxRecDepth 100000 in
theorem z_fX11_nestPuts_b177 {p : Program} {l : Launch} {e : Env} {s : State} {m : MethodId} {args : Array Value} {below : List Frame} {meth : Method} {c : Code} {D : va_G} {cy : Nat → ClassId} {B : Nat} {kd : Nat → Nat} {n : Nat} {sa sv : Nat → Nat} (C : zC p l s m args meth c D cy B kd n sa sv RX11 cX11_nestPuts 10) (ht : ∀ x ∈ c.exceptionTable.toList, False) (hr : meth.sig.returnType = some (FieldType.boolean)) {b0 : Bool × Mem}  (N : Nat) (k117 : Int32 → Int32 → Mem → Option (Bool × Mem)) (v0 : Nat) (v1 : Int32) (v2 : Int32) (v3 : Int32) (v4 : Int32) (v6 : Int32) (v7 : Int32) (M : Mem) (h0 : kd v0 = 11) (hk117 : ∀ (v6 : Int32) (v7 : Int32) (M : Mem), Z p l e (rmz 5 0) s m args below meth c (vx_MQ below (QcR D cy B kd n (cvB b0)) (XcR D cy B kd n (cvB b0)) args s 0 (6 * 0) (AA B kd n)) D cy B kd n 10 b0 0 117 [(0, .ref (B + v0)), (1, .int v1), (2, .int v2), (3, .int v3), (4, .int v4), (6, .int v6), (7, .int v7)] [] M (k117 v6 v7 M)) : Z p l e (rmz 5 0) s m args below meth c (vx_MQ below (QcR D cy B kd n (cvB b0)) (XcR D cy B kd n (cvB b0)) args s 0 (6 * 0) (AA B kd n)) D cy B kd n 10 b0 0 177 [(0, .ref (B + v0)), (1, .int v1), (2, .int v2), (3, .int v3), (4, .int v4), (6, .int v6), (7, .int v7)] [] M (fX11_nestPuts_b177 N k117 v0 v1 v2 v3 v4 v6 v7 M) := by
  unfold fX11_nestPuts_b177
  refine z_iinc C 7 6 (v := v7) (v1 := (v7 + (1 : Int32))) (ls1 := [(7, .int (v7 + (1 : Int32))), (0, .ref (B + v0)), (1, .int v1), (2, .int v2), (3, .int v3), (4, .int v4), (6, .int v6)]) dX11_nestPuts_177 rfl rfl (by decide) rfl ?_
  refine z_goto C 117 dX11_nestPuts_180 rfl ?_
  exact z_jump (ls1 := [(0, .ref (B + v0)), (1, .int v1), (2, .int v2), (3, .int v3), (4, .int v4), (6, .int v6), (7, .int (v7 + (1 : Int32)))]) (Nat.le_of_ble_eq_true rfl) [1, 2, 3, 4, 5, 6, 0] rfl (hk117 v6 (v7 + (1 : Int32)) M)
set_option maxHeartbeats 4000000 in
set_option maxRecDepth 100000 in
theorem z_fX11_nestPuts_b134 {p : Program} {l : Launch} {e : Env} {s : State} {m : MethodId} {args : Array Value} {below : List Frame} {meth : Method} {c : Code} {D : va_G} {cy : Nat → ClassId} {B : Nat} {kd : Nat → Nat} {n : Nat} {sa sv : Nat → Nat} (C : zC p l s m args meth c D cy B kd n sa sv RX11 cX11_nestPuts 10) (ht : ∀ x ∈ c.exceptionTable.toList, False) (hr : meth.sig.returnType = some (FieldType.boolean)) {b0 : Bool × Mem}  (N : Nat) (k117 : Int32 → Int32 → Mem → Option (Bool × Mem)) (v0 : Nat) (v1 : Int32) (v2 : Int32) (v3 : Int32) (v4 : Int32) (v6 : Int32) (v7 : Int32) (s0 : Int32) (M : Mem) (h0 : kd v0 = 11) (hk117 : ∀ (v6 : Int32) (v7 : Int32) (M : Mem), Z p l e (rmz 5 0) s m args below meth c (vx_MQ below (QcR D cy B kd n (cvB b0)) (XcR D cy B kd n (cvB b0)) args s 0 (6 * 0) (AA B kd n)) D cy B kd n 10 b0 0 117 [(0, .ref (B + v0)), (1, .int v1), (2, .int v2), (3, .int v3), (4, .int v4), (6, .int v6), (7, .int v7)] [] M (k117 v6 v7 M)) : Z p l e (rmz 5 0) s m args below meth c (vx_MQ below (QcR D cy B kd n (cvB b0)) (XcR D cy B kd n (cvB b0)) args s 0 (6 * 0) (AA B kd n)) D cy B kd n 10 b0 0 134 [(0, .ref (B + v0)), (1, .int v1), (2, .int v2), (3, .int v3), (4, .int v4), (6, .int v6), (7, .int v7)] [.int s0] M (fX11_nestPuts_b134 N k117 v0 v1 v2 v3 v4 v6 v7 s0 M) := by
  unfold fX11_nestPuts_b134
  refine z_istore C 8 (ls1 := [(8, .int s0), (0, .ref (B + v0)), (1, .int v1), (2, .int v2), (3, .int v3), (4, .int v4), (6, .int v6), (7, .int v7)]) dX11_nestPuts_134 (by decide) rfl ?_
  refine z_aload_n C 0 1 dX11_nestPuts_136 rfl rfl ?_
  refine z_getR (k := 21) C cl11 h0 rfl gw_7_31 rfl dX11_nestPuts_137 ?_
  have j1 : kd (v0 + 10) = 41 := zkd C h0 (k := 21) rfl
  refine z_iload C 0 dX11_nestPuts_140 rfl ?_
  refine z_zald C j1 rfl (by decide) dX11_nestPuts_142 (fun j2 => ?_)
  refine z_if_eq C 149 dX11_nestPuts_143 rfl (fun _ => ?_) (fun _ => ?_)
  · refine z_aload_n C 0 1 dX11_nestPuts_149 rfl rfl ?_
    refine z_getR (k := 21) C cl11 h0 rfl gw_7_31 rfl dX11_nestPuts_150 ?_
    have j3 : kd (v0 + 10) = 41 := zkd C h0 (k := 21) rfl
    refine z_iload C 0 dX11_nestPuts_153 rfl ?_
    refine z_iconst C dX11_nestPuts_155 rfl ?_
    refine z_zast C j3 rfl (by decide) dX11_nestPuts_156 (fun _ => ?_)
    refine z_aload_n C 0 1 dX11_nestPuts_157 rfl rfl ?_
    refine z_getR (k := 20) C cl11 h0 rfl gw_7_30 rfl dX11_nestPuts_158 ?_
    have j4 : kd (v0 + 9) = 24 := zkd C h0 (k := 20) rfl
    refine z_iload C 0 dX11_nestPuts_161 rfl ?_
    refine z_iconst C dX11_nestPuts_163 rfl ?_
    refine z_iast C j4 rfl (by decide) dX11_nestPuts_164 (fun _ => ?_)
    refine z_aload_n C 0 1 dX11_nestPuts_165 rfl rfl ?_
    refine z_getR (k := 19) C cl11 h0 rfl gw_7_29 rfl dX11_nestPuts_166 ?_
    have j5 : kd (v0 + 8) = 24 := zkd C h0 (k := 19) rfl
    refine z_iload C 6 dX11_nestPuts_169 rfl ?_
    refine z_iload C 0 dX11_nestPuts_171 rfl ?_
    refine z_iast C j5 rfl (by decide) dX11_nestPuts_173 (fun _ => ?_)
    refine z_iinc C 6 6 (v := v6) (v1 := (v6 + (1 : Int32))) (ls1 := [(6, .int (v6 + (1 : Int32))), (8, .int s0), (0, .ref (B + v0)), (1, .int v1), (2, .int v2), (3, .int v3), (4, .int v4), (7, .int v7)]) dX11_nestPuts_174 rfl rfl (by decide) rfl ?_
    exact z_jump (ls1 := [(0, .ref (B + v0)), (1, .int v1), (2, .int v2), (3, .int v3), (4, .int v4), (6, .int (v6 + (1 : Int32))), (7, .int v7)]) (Nat.le_of_ble_eq_true rfl) [2, 3, 4, 5, 6, 0, 7] rfl (z_fX11_nestPuts_b177 C ht hr N k117 v0 v1 v2 v3 v4 (v6 + (1 : Int32)) v7 (wI (wI (wI M (v0 + 10) s0.toNatClampNeg (vp_nar .boolean (1 : Int32))) (v0 + 9) s0.toNatClampNeg (-1 : Int32)) (v0 + 8) v6.toNatClampNeg s0) h0 hk117)
  · refine z_goto C 177 dX11_nestPuts_146 rfl ?_
    exact z_jump (ls1 := [(0, .ref (B + v0)), (1, .int v1), (2, .int v2), (3, .int v3), (4, .int v4), (6, .int v6), (7, .int v7)]) (Nat.le_of_ble_eq_true rfl) [1, 2, 3, 4, 5, 6, 7] rfl (z_fX11_nestPuts_b177 C ht hr N k117 v0 v1 v2 v3 v4 v6 v7 M h0 hk117)
set_option maxHeartbeats 4000000 in
set_option maxRecDepth 100000 in
theorem z_fX11_nestPuts_l117_s {p : Program} {l : Launch} {e : Env} {s : State} {m : MethodId} {args : Array Value} {below : List Frame} {meth : Method} {c : Code} {D : va_G} {cy : Nat → ClassId} {B : Nat} {kd : Nat → Nat} {n : Nat} {sa sv : Nat → Nat} (C : zC p l s m args meth c D cy B kd n sa sv RX11 cX11_nestPuts 10) (ht : ∀ x ∈ c.exceptionTable.toList, False) (hr : meth.sig.returnType = some (FieldType.boolean)) {b0 : Bool × Mem} (N : Nat) (v0 : Nat) (v1 : Int32) (v2 : Int32) (v3 : Int32) (v4 : Int32) (k117 : Int32 → Int32 → Mem → Option (Bool × Mem)) (v6 : Int32) (v7 : Int32) (M : Mem) (h0 : kd v0 = 11)  (hk117 : ∀ (v6 : Int32) (v7 : Int32) (M : Mem), Z p l e (rmz 5 0) s m args below meth c (vx_MQ below (QcR D cy B kd n (cvB b0)) (XcR D cy B kd n (cvB b0)) args s 0 (6 * 0) (AA B kd n)) D cy B kd n 10 b0 0 117 [(0, .ref (B + v0)), (1, .int v1), (2, .int v2), (3, .int v3), (4, .int v4), (6, .int v6), (7, .int v7)] [] M (k117 v6 v7 M)) : Z p l e (rmz 5 0) s m args below meth c (vx_MQ below (QcR D cy B kd n (cvB b0)) (XcR D cy B kd n (cvB b0)) args s 0 (6 * 0) (AA B kd n)) D cy B kd n 10 b0 0 117 [(0, .ref (B + v0)), (1, .int v1), (2, .int v2), (3, .int v3), (4, .int v4), (6, .int v6), (7, .int v7)] [] M (fX11_nestPuts_l117_s N v0 v1 v2 v3 v4 k117 v6 v7 M) := by
  unfold fX11_nestPuts_l117_s
  refine z_iload C 6 dX11_nestPuts_117 rfl ?_
  refine z_iconst C dX11_nestPuts_119 rfl ?_
  refine z_icmp_ge C 183 dX11_nestPuts_120 rfl (fun _ => ?_) (fun _ => ?_)
  · refine z_iconst C dX11_nestPuts_183 rfl ?_
    refine z_istore C 7 (ls1 := [(7, .int (0 : Int32)), (0, .ref (B + v0)), (1, .int v1), (2, .int v2), (3, .int v3), (4, .int v4), (6, .int v6)]) dX11_nestPuts_184 (by decide) rfl ?_
    exact z_jump (ls1 := [(0, .ref (B + v0)), (1, .int v1), (2, .int v2), (6, .int v6), (7, .int (0 : Int32))]) (Nat.le_of_ble_eq_true rfl) [1, 2, 3, 6, 0] rfl (z_fX11_nestPuts_l186 C ht hr N v0 v1 v2 N v6 (0 : Int32) M h0)
  · refine z_iload C 6 dX11_nestPuts_123 rfl ?_
    refine z_if_ne C 132 dX11_nestPuts_125 rfl (fun _ => ?_) (fun _ => ?_)
    · refine z_iload_n C 3 3 dX11_nestPuts_128 rfl rfl ?_
      refine z_goto C 134 dX11_nestPuts_129 rfl ?_
      exact z_jump (ls1 := [(0, .ref (B + v0)), (1, .int v1), (2, .int v2), (3, .int v3), (4, .int v4), (6, .int v6), (7, .int v7)]) (Nat.le_of_ble_eq_true rfl) [0, 1, 2, 3, 4, 5, 6] rfl (z_fX11_nestPuts_b134 C ht hr N k117 v0 v1 v2 v3 v4 v6 v7 v3 M h0 hk117)
    · refine z_iload C 4 dX11_nestPuts_132 rfl ?_
      exact z_jump (ls1 := [(0, .ref (B + v0)), (1, .int v1), (2, .int v2), (3, .int v3), (4, .int v4), (6, .int v6), (7, .int v7)]) (Nat.le_of_ble_eq_true rfl) [0, 1, 2, 3, 4, 5, 6] rfl (z_fX11_nestPuts_b134 C ht hr N k117 v0 v1 v2 v3 v4 v6 v7 v4 M h0 hk117)
theorem z_fX11_nestPuts_l117_i {p : Program} {l : Launch} {e : Env} {s : State} {m : MethodId} {args : Array Value} {below : List Frame} {meth : Method} {c : Code} {D : va_G} {cy : Nat → ClassId} {B : Nat} {kd : Nat → Nat} {n : Nat} {sa sv : Nat → Nat} (C : zC p l s m args meth c D cy B kd n sa sv RX11 cX11_nestPuts 10) (ht : ∀ x ∈ c.exceptionTable.toList, False) (hr : meth.sig.returnType = some (FieldType.boolean)) {b0 : Bool × Mem} (N : Nat) (v0 : Nat) (v1 : Int32) (v2 : Int32) (v3 : Int32) (v4 : Int32) (h0 : kd v0 = 11)  (fu : Nat) : ∀ (v6 : Int32) (v7 : Int32) (M : Mem), Z p l e (rmz 5 0) s m args below meth c (vx_MQ below (QcR D cy B kd n (cvB b0)) (XcR D cy B kd n (cvB b0)) args s 0 (6 * 0) (AA B kd n)) D cy B kd n 10 b0 0 117 [(0, .ref (B + v0)), (1, .int v1), (2, .int v2), (3, .int v3), (4, .int v4), (6, .int v6), (7, .int v7)] [] M (fX11_nestPuts_l117 N v0 v1 v2 v3 v4 fu v6 v7 M) := by
  induction fu with
  | zero => intro v6 v7 M; exact z_none
  | succ fu ih => intro v6 v7 M; exact z_fX11_nestPuts_l117_s C ht hr N v0 v1 v2 v3 v4 (fX11_nestPuts_l117 N v0 v1 v2 v3 v4 fu) v6 v7 M h0 (fun v6 v7 M => ih v6 v7 M)
theorem z_fX11_nestPuts_l117 {p : Program} {l : Launch} {e : Env} {s : State} {m : MethodId} {args : Array Value} {below : List Frame} {meth : Method} {c : Code} {D : va_G} {cy : Nat → ClassId} {B : Nat} {kd : Nat → Nat} {n : Nat} {sa sv : Nat → Nat} (C : zC p l s m args meth c D cy B kd n sa sv RX11 cX11_nestPuts 10) (ht : ∀ x ∈ c.exceptionTable.toList, False) (hr : meth.sig.returnType = some (FieldType.boolean)) {b0 : Bool × Mem} (N : Nat) (v0 : Nat) (v1 : Int32) (v2 : Int32) (v3 : Int32) (v4 : Int32) (fu : Nat) (v6 : Int32) (v7 : Int32) (M : Mem) (h0 : kd v0 = 11)  : Z p l e (rmz 5 0) s m args below meth c (vx_MQ below (QcR D cy B kd n (cvB b0)) (XcR D cy B kd n (cvB b0)) args s 0 (6 * 0) (AA B kd n)) D cy B kd n 10 b0 0 117 [(0, .ref (B + v0)), (1, .int v1), (2, .int v2), (3, .int v3), (4, .int v4), (6, .int v6), (7, .int v7)] [] M (fX11_nestPuts_l117 N v0 v1 v2 v3 v4 fu v6 v7 M) := z_fX11_nestPuts_l117_i C ht hr N v0 v1 v2 v3 v4 h0 fu v6 v7 M
set_option maxHeartbeats 4000000 in
set_option maxRecDepth 100000 in
theorem z_fX11_nestPuts_l90_s {p : Program} {l : Launch} {e : Env} {s : State} {m : MethodId} {args : Array Value} {below : List Frame} {meth : Method} {c : Code} {D : va_G} {cy : Nat → ClassId} {B : Nat} {kd : Nat → Nat} {n : Nat} {sa sv : Nat → Nat} (C : zC p l s m args meth c D cy B kd n sa sv RX11 cX11_nestPuts 10) (ht : ∀ x ∈ c.exceptionTable.toList, False) (hr : meth.sig.returnType = some (FieldType.boolean)) {b0 : Bool × Mem} (N : Nat) (v0 : Nat) (v1 : Int32) (v2 : Int32) (v3 : Int32) (v4 : Int32) (k90 : Int32 → Mem → Option (Bool × Mem)) (v6 : Int32) (M : Mem) (h0 : kd v0 = 11)  (hk90 : ∀ (v6 : Int32) (M : Mem), Z p l e (rmz 5 0) s m args below meth c (vx_MQ below (QcR D cy B kd n (cvB b0)) (XcR D cy B kd n (cvB b0)) args s 0 (6 * 0) (AA B kd n)) D cy B kd n 10 b0 0 90 [(0, .ref (B + v0)), (1, .int v1), (2, .int v2), (3, .int v3), (4, .int v4), (6, .int v6)] [] M (k90 v6 M)) : Z p l e (rmz 5 0) s m args below meth c (vx_MQ below (QcR D cy B kd n (cvB b0)) (XcR D cy B kd n (cvB b0)) args s 0 (6 * 0) (AA B kd n)) D cy B kd n 10 b0 0 90 [(0, .ref (B + v0)), (1, .int v1), (2, .int v2), (3, .int v3), (4, .int v4), (6, .int v6)] [] M (fX11_nestPuts_l90_s N v0 v1 v2 v3 v4 k90 v6 M) := by
  unfold fX11_nestPuts_l90_s
  refine z_iload C 5 dX11_nestPuts_90 rfl ?_
  refine z_bipush (v := 16) C dX11_nestPuts_92 rfl ?_
  refine z_icmp_ge C 111 dX11_nestPuts_94 rfl (fun _ => ?_) (fun _ => ?_)
  · refine z_iconst C dX11_nestPuts_111 rfl ?_
    refine z_istore C 6 (ls1 := [(6, .int (0 : Int32)), (0, .ref (B + v0)), (1, .int v1), (2, .int v2), (3, .int v3), (4, .int v4)]) dX11_nestPuts_112 (by decide) rfl ?_
    refine z_iconst C dX11_nestPuts_114 rfl ?_
    refine z_istore C 7 (ls1 := [(7, .int (0 : Int32)), (6, .int (0 : Int32)), (0, .ref (B + v0)), (1, .int v1), (2, .int v2), (3, .int v3), (4, .int v4)]) dX11_nestPuts_115 (by decide) rfl ?_
    exact z_jump (ls1 := [(0, .ref (B + v0)), (1, .int v1), (2, .int v2), (3, .int v3), (4, .int v4), (6, .int (0 : Int32)), (7, .int (0 : Int32))]) (Nat.le_of_ble_eq_true rfl) [2, 3, 4, 5, 6, 1, 0] rfl (z_fX11_nestPuts_l117 C ht hr N v0 v1 v2 v3 v4 N (0 : Int32) (0 : Int32) M h0)
  · refine z_aload_n C 0 0 dX11_nestPuts_97 rfl rfl ?_
    refine z_getR (k := 21) C cl11 h0 rfl gw_7_31 rfl dX11_nestPuts_98 ?_
    have j1 : kd (v0 + 10) = 41 := zkd C h0 (k := 21) rfl
    refine z_iload C 5 dX11_nestPuts_101 rfl ?_
    refine z_iconst C dX11_nestPuts_103 rfl ?_
    refine z_zast C j1 rfl (by decide) dX11_nestPuts_104 (fun _ => ?_)
    refine z_iinc C 6 5 (v := v6) (v1 := (v6 + (1 : Int32))) (ls1 := [(6, .int (v6 + (1 : Int32))), (0, .ref (B + v0)), (1, .int v1), (2, .int v2), (3, .int v3), (4, .int v4)]) dX11_nestPuts_105 rfl rfl (by decide) rfl ?_
    refine z_goto C 90 dX11_nestPuts_108 rfl ?_
    exact z_jump (ls1 := [(0, .ref (B + v0)), (1, .int v1), (2, .int v2), (3, .int v3), (4, .int v4), (6, .int (v6 + (1 : Int32)))]) (Nat.le_of_ble_eq_true rfl) [1, 2, 3, 4, 5, 0] rfl (hk90 (v6 + (1 : Int32)) (wI M (v0 + 10) v6.toNatClampNeg (vp_nar .boolean (0 : Int32))))
theorem z_fX11_nestPuts_l90_i {p : Program} {l : Launch} {e : Env} {s : State} {m : MethodId} {args : Array Value} {below : List Frame} {meth : Method} {c : Code} {D : va_G} {cy : Nat → ClassId} {B : Nat} {kd : Nat → Nat} {n : Nat} {sa sv : Nat → Nat} (C : zC p l s m args meth c D cy B kd n sa sv RX11 cX11_nestPuts 10) (ht : ∀ x ∈ c.exceptionTable.toList, False) (hr : meth.sig.returnType = some (FieldType.boolean)) {b0 : Bool × Mem} (N : Nat) (v0 : Nat) (v1 : Int32) (v2 : Int32) (v3 : Int32) (v4 : Int32) (h0 : kd v0 = 11)  (fu : Nat) : ∀ (v6 : Int32) (M : Mem), Z p l e (rmz 5 0) s m args below meth c (vx_MQ below (QcR D cy B kd n (cvB b0)) (XcR D cy B kd n (cvB b0)) args s 0 (6 * 0) (AA B kd n)) D cy B kd n 10 b0 0 90 [(0, .ref (B + v0)), (1, .int v1), (2, .int v2), (3, .int v3), (4, .int v4), (6, .int v6)] [] M (fX11_nestPuts_l90 N v0 v1 v2 v3 v4 fu v6 M) := by
  induction fu with
  | zero => intro v6 M; exact z_none
  | succ fu ih => intro v6 M; exact z_fX11_nestPuts_l90_s C ht hr N v0 v1 v2 v3 v4 (fX11_nestPuts_l90 N v0 v1 v2 v3 v4 fu) v6 M h0 (fun v6 M => ih v6 M)
theorem z_fX11_nestPuts_l90 {p : Program} {l : Launch} {e : Env} {s : State} {m : MethodId} {args : Array Value} {below : List Frame} {meth : Method} {c : Code} {D : va_G} {cy : Nat → ClassId} {B : Nat} {kd : Nat → Nat} {n : Nat} {sa sv : Nat → Nat} (C : zC p l s m args meth c D cy B kd n sa sv RX11 cX11_nestPuts 10) (ht : ∀ x ∈ c.exceptionTable.toList, False) (hr : meth.sig.returnType = some (FieldType.boolean)) {b0 : Bool × Mem} (N : Nat) (v0 : Nat) (v1 : Int32) (v2 : Int32) (v3 : Int32) (v4 : Int32) (fu : Nat) (v6 : Int32) (M : Mem) (h0 : kd v0 = 11)  : Z p l e (rmz 5 0) s m args below meth c (vx_MQ below (QcR D cy B kd n (cvB b0)) (XcR D cy B kd n (cvB b0)) args s 0 (6 * 0) (AA B kd n)) D cy B kd n 10 b0 0 90 [(0, .ref (B + v0)), (1, .int v1), (2, .int v2), (3, .int v3), (4, .int v4), (6, .int v6)] [] M (fX11_nestPuts_l90 N v0 v1 v2 v3 v4 fu v6 M) := z_fX11_nestPuts_l90_i C ht hr N v0 v1 v2 v3 v4 h0 fu v6 M
set_option maxHeartbeats 4000000 in
set_option maxRecDepth 100000 in
theorem z_fX11_nestPuts_b48 {p : Program} {l : Launch} {e : Env} {s : State} {m : MethodId} {args : Array Value} {below : List Frame} {meth : Method} {c : Code} {D : va_G} {cy : Nat → ClassId} {B : Nat} {kd : Nat → Nat} {n : Nat} {sa sv : Nat → Nat} (C : zC p l s m args meth c D cy B kd n sa sv RX11 cX11_nestPuts 10) (ht : ∀ x ∈ c.exceptionTable.toList, False) (hr : meth.sig.returnType = some (FieldType.boolean)) {b0 : Bool × Mem}  (N : Nat) (v0 : Nat) (v1 : Int32) (v2 : Int32) (v3 : Int32) (v4 : Int32) (s0 : Int32) (M : Mem) (h0 : kd v0 = 11)  : Z p l e (rmz 5 0) s m args below meth c (vx_MQ below (QcR D cy B kd n (cvB b0)) (XcR D cy B kd n (cvB b0)) args s 0 (6 * 0) (AA B kd n)) D cy B kd n 10 b0 0 48 [(0, .ref (B + v0)), (1, .int v1), (2, .int v2), (3, .int v3), (4, .int v4)] [.int s0] M (fX11_nestPuts_b48 N v0 v1 v2 v3 v4 s0 M) := by
  unfold fX11_nestPuts_b48
  refine z_istore C 5 (ls1 := [(5, .int s0), (0, .ref (B + v0)), (1, .int v1), (2, .int v2), (3, .int v3), (4, .int v4)]) dX11_nestPuts_48 (by decide) rfl ?_
  refine z_iload C 0 dX11_nestPuts_50 rfl ?_
  refine z_iconst C dX11_nestPuts_52 rfl ?_
  refine z_icmp_eq C 87 dX11_nestPuts_53 rfl (fun _ => ?_) (fun _ => ?_)
  · refine z_iconst C dX11_nestPuts_87 rfl ?_
    refine z_istore C 6 (ls1 := [(6, .int (0 : Int32)), (5, .int s0), (0, .ref (B + v0)), (1, .int v1), (2, .int v2), (3, .int v3), (4, .int v4)]) dX11_nestPuts_88 (by decide) rfl ?_
    exact z_jump (ls1 := [(0, .ref (B + v0)), (1, .int v1), (2, .int v2), (3, .int v3), (4, .int v4), (6, .int (0 : Int32))]) (Nat.le_of_ble_eq_true rfl) [2, 3, 4, 5, 6, 0] rfl (z_fX11_nestPuts_l90 C ht hr N v0 v1 v2 v3 v4 N (0 : Int32) M h0)
  · refine z_aload_n C 0 1 dX11_nestPuts_56 rfl rfl ?_
    refine z_iload_n C 1 2 dX11_nestPuts_57 rfl rfl ?_
    refine z_aload_n C 0 1 dX11_nestPuts_58 rfl rfl ?_
    refine z_iload_n C 1 2 dX11_nestPuts_59 rfl rfl ?_
    refine z_iload C 0 dX11_nestPuts_60 rfl ?_
    refine z_aload_n C 0 1 dX11_nestPuts_62 rfl rfl ?_
    refine z_iload_n C 1 2 dX11_nestPuts_63 rfl rfl ?_
    refine z_iload C 0 dX11_nestPuts_64 rfl ?_
    refine z_callV_pI (As := [.int v1, .int s0]) (rest := [.int s0, .int v1, .ref (B + v0), .int v1, .ref (B + v0)]) C rfl (ctX11_freeSlot (zG_of C) N v0 v1 s0 h0 M) cw_RX11_276 rfl (okM_X11_freeSlot) rfl cl11 h0 (okR_of rfl) (Nat.le_of_ble_eq_true rfl) dX11_nestPuts_66 (fun qj1 _ => ?_)
    refine z_callV_pI (As := [.int v1, .int s0, .int qj1]) (rest := [.int v1, .ref (B + v0)]) C rfl (ctX11_slotAt (zG_of C) v0 v1 s0 qj1 h0 M) cw_RX11_270 rfl (okM_X11_slotAt) rfl cl11 h0 (okR_of rfl) (Nat.le_of_ble_eq_true rfl) dX11_nestPuts_69 (fun qj2 _ => ?_)
    refine z_iload_n C 2 3 dX11_nestPuts_72 rfl rfl ?_
    refine z_iconst C dX11_nestPuts_73 rfl ?_
    refine z_iadd C dX11_nestPuts_74 ?_
    refine z_callV_V (As := [.int v1, .int qj2, .int (v2 + (1 : Int32))]) (rest := []) C rfl (ctX11_set (zG_of C) v0 v1 qj2 (v2 + (1 : Int32)) h0 M) cw_RX11_252 rfl (okM_X11_set) rfl cl11 h0 (okR_of rfl) (Nat.le_of_ble_eq_true rfl) dX11_nestPuts_75 (fun qj3 _ => ?_)
    refine z_aload_n C 0 1 dX11_nestPuts_78 rfl rfl ?_
    refine z_iload_n C 1 2 dX11_nestPuts_79 rfl rfl ?_
    refine z_iconst C dX11_nestPuts_80 rfl ?_
    refine z_iconst C dX11_nestPuts_81 rfl ?_
    refine z_callV_V (As := [.int v1, .int (5 : Int32), .int (0 : Int32)]) (rest := []) C rfl (ctX11_set (zG_of C) v0 v1 (5 : Int32) (0 : Int32) h0 qj3) cw_RX11_252 rfl (okM_X11_set) rfl cl11 h0 (okR_of rfl) (Nat.le_of_ble_eq_true rfl) dX11_nestPuts_82 (fun qj4 _ => ?_)
    refine z_iconst C dX11_nestPuts_85 rfl ?_
    exact z_zret C (v := true) hr (Nat.le_of_ble_eq_true rfl) dX11_nestPuts_86 rfl
set_option maxHeartbeats 4000000 in
set_option maxRecDepth 100000 in
theorem ctX11_nestPuts {l : Launch} {D : va_G} {cy : Nat → ClassId} {B : Nat} {kd : Nat → Nat} {n : Nat} {sa sv : Nat → Nat} (G : zG l kd n) (N : Nat) (v0 : Nat) (v1 : Int32) (v2 : Int32) (h0 : kd v0 = 11) (M : Mem) : CT l D cy B kd n sa sv 5 0 yX11_nestPuts cX11_nestPuts 10 (some (FieldType.boolean)) cvB [.ref (B + v0), .int v1, .int v2] M (fX11_nestPuts N v0 v1 v2 M) := by
  refine ct_of (by decide) G.1 G.2 (Nat.le_of_ble_eq_true rfl) (ls := [(0, .ref (B + v0)), (1, .int v1), (2, .int v2)]) rfl ?_
  intro p e s m args below meth c b0 C ht hr
  unfold fX11_nestPuts
  refine z_aload_n C 0 0 dX11_nestPuts_0 rfl rfl ?_
  refine z_iload_n C 1 1 dX11_nestPuts_1 rfl rfl ?_
  refine z_iconst C dX11_nestPuts_2 rfl ?_
  refine z_iload_n C 2 2 dX11_nestPuts_3 rfl rfl ?_
  refine z_callV_I (As := [.int v1, .int (0 : Int32), .int v2]) (rest := []) C rfl (ctX11_spot (zG_of C) N v0 v1 (0 : Int32) v2 h0 M) cw_RX11_273 rfl (okM_X11_spot) rfl cl11 h0 (okR_of rfl) (Nat.le_of_ble_eq_true rfl) dX11_nestPuts_4 (fun qj1 _ => ?_)
  refine z_istore_n C 3 (ls1 := [(3, .int qj1.1), (0, .ref (B + v0)), (1, .int v1), (2, .int v2)]) dX11_nestPuts_7 rfl (by decide) rfl ?_
  refine z_aload_n C 0 1 dX11_nestPuts_8 rfl rfl ?_
  refine z_iload_n C 1 2 dX11_nestPuts_9 rfl rfl ?_
  refine z_iconst C dX11_nestPuts_10 rfl ?_
  refine z_iload_n C 2 3 dX11_nestPuts_11 rfl rfl ?_
  refine z_callV_I (As := [.int v1, .int (1 : Int32), .int v2]) (rest := []) C rfl (ctX11_spot (zG_of C) N v0 v1 (1 : Int32) v2 h0 qj1.2) cw_RX11_273 rfl (okM_X11_spot) rfl cl11 h0 (okR_of rfl) (Nat.le_of_ble_eq_true rfl) dX11_nestPuts_12 (fun qj2 _ => ?_)
  refine z_istore C 4 (ls1 := [(4, .int qj2.1), (3, .int qj1.1), (0, .ref (B + v0)), (1, .int v1), (2, .int v2)]) dX11_nestPuts_15 (by decide) rfl ?_
  refine z_aload_n C 0 2 dX11_nestPuts_17 rfl rfl ?_
  refine z_iload_n C 1 3 dX11_nestPuts_18 rfl rfl ?_
  refine z_iload_n C 3 1 dX11_nestPuts_19 rfl rfl ?_
  refine z_callV_pI (As := [.int v1, .int qj1.1]) (rest := []) C rfl (ctX11_freeSlot (zG_of C) N v0 v1 qj1.1 h0 qj2.2) cw_RX11_276 rfl (okM_X11_freeSlot) rfl cl11 h0 (okR_of rfl) (Nat.le_of_ble_eq_true rfl) dX11_nestPuts_20 (fun qj3 _ => ?_)
  refine z_iconst C dX11_nestPuts_23 rfl ?_
  refine z_icmp_eq C 31 dX11_nestPuts_24 rfl (fun _ => ?_) (fun _ => ?_)
  · refine z_aload_n C 0 2 dX11_nestPuts_31 rfl rfl ?_
    refine z_iload_n C 1 3 dX11_nestPuts_32 rfl rfl ?_
    refine z_iload C 0 dX11_nestPuts_33 rfl ?_
    refine z_callV_pI (As := [.int v1, .int qj2.1]) (rest := []) C rfl (ctX11_freeSlot (zG_of C) N v0 v1 qj2.1 h0 qj2.2) cw_RX11_276 rfl (okM_X11_freeSlot) rfl cl11 h0 (okR_of rfl) (Nat.le_of_ble_eq_true rfl) dX11_nestPuts_35 (fun qj4 _ => ?_)
    refine z_iconst C dX11_nestPuts_38 rfl ?_
    refine z_icmp_eq C 47 dX11_nestPuts_39 rfl (fun _ => ?_) (fun _ => ?_)
    · refine z_iconst C dX11_nestPuts_47 rfl ?_
      exact z_jump (ls1 := [(0, .ref (B + v0)), (1, .int v1), (2, .int v2), (3, .int qj1.1), (4, .int qj2.1)]) (Nat.le_of_ble_eq_true rfl) [2, 3, 4, 1, 0] rfl (z_fX11_nestPuts_b48 C ht hr N v0 v1 v2 qj1.1 qj2.1 (-1 : Int32) qj2.2 h0)
    · refine z_iload C 0 dX11_nestPuts_42 rfl ?_
      refine z_goto C 48 dX11_nestPuts_44 rfl ?_
      exact z_jump (ls1 := [(0, .ref (B + v0)), (1, .int v1), (2, .int v2), (3, .int qj1.1), (4, .int qj2.1)]) (Nat.le_of_ble_eq_true rfl) [2, 3, 4, 1, 0] rfl (z_fX11_nestPuts_b48 C ht hr N v0 v1 v2 qj1.1 qj2.1 qj2.1 qj2.2 h0)
  · refine z_iload_n C 3 1 dX11_nestPuts_27 rfl rfl ?_
    refine z_goto C 48 dX11_nestPuts_28 rfl ?_
    exact z_jump (ls1 := [(0, .ref (B + v0)), (1, .int v1), (2, .int v2), (3, .int qj1.1), (4, .int qj2.1)]) (Nat.le_of_ble_eq_true rfl) [2, 3, 4, 1, 0] rfl (z_fX11_nestPuts_b48 C ht hr N v0 v1 v2 qj1.1 qj2.1 qj1.1 qj2.2 h0)
set_option maxHeartbeats 4000000 in
set_option maxRecDepth 100000 in
theorem z_fX11_areSet_l3_s {p : Program} {l : Launch} {e : Env} {s : State} {m : MethodId} {args : Array Value} {below : List Frame} {meth : Method} {c : Code} {D : va_G} {cy : Nat → ClassId} {B : Nat} {kd : Nat → Nat} {n : Nat} {sa sv : Nat → Nat} (C : zC p l s m args meth c D cy B kd n sa sv RX11 cX11_areSet 6) (ht : ∀ x ∈ c.exceptionTable.toList, False) (hr : meth.sig.returnType = some (FieldType.boolean)) {b0 : Bool × Mem} (N : Nat) (v0 : Nat) (v1 : Int32) (v2 : Int32) (v3 : Int32) (v4 : Int32) (k3 : Int32 → Mem → Option (Bool × Mem)) (v5 : Int32) (M : Mem) (h0 : kd v0 = 11)  (hk3 : ∀ (v5 : Int32) (M : Mem), Z p l e (rmz 3 0) s m args below meth c (vx_MQ below (QcR D cy B kd n (cvB b0)) (XcR D cy B kd n (cvB b0)) args s 0 (6 * 0) (AA B kd n)) D cy B kd n 6 b0 0 3 [(0, .ref (B + v0)), (1, .int v1), (2, .int v2), (3, .int v3), (4, .int v4), (5, .int v5)] [] M (k3 v5 M)) : Z p l e (rmz 3 0) s m args below meth c (vx_MQ below (QcR D cy B kd n (cvB b0)) (XcR D cy B kd n (cvB b0)) args s 0 (6 * 0) (AA B kd n)) D cy B kd n 6 b0 0 3 [(0, .ref (B + v0)), (1, .int v1), (2, .int v2), (3, .int v3), (4, .int v4), (5, .int v5)] [] M (fX11_areSet_l3_s N v0 v1 v2 v3 v4 k3 v5 M) := by
  unfold fX11_areSet_l3_s
  refine z_iload C 5 dX11_areSet_3 rfl ?_
  refine z_aload_n C 0 0 dX11_areSet_5 rfl rfl ?_
  refine z_iload_n C 1 1 dX11_areSet_6 rfl rfl ?_
  refine z_iconst C dX11_areSet_7 rfl ?_
  refine z_callV_pI (As := [.int v1, .int (2 : Int32)]) (rest := [.int v5]) C rfl (ctX11_get (zG_of C) v0 v1 (2 : Int32) h0 M) cw_RX11_237 rfl (okM_X11_get) rfl cl11 h0 (okR_of rfl) (Nat.le_of_ble_eq_true rfl) dX11_areSet_8 (fun qj1 _ => ?_)
  refine z_icmp_ge C 41 dX11_areSet_11 rfl (fun _ => ?_) (fun _ => ?_)
  · refine z_iconst C dX11_areSet_41 rfl ?_
    exact z_zret C (v := true) hr (Nat.le_of_ble_eq_true rfl) dX11_areSet_42 rfl
  · refine z_aload_n C 0 0 dX11_areSet_14 rfl rfl ?_
    refine z_iload_n C 1 1 dX11_areSet_15 rfl rfl ?_
    refine z_iload_n C 2 2 dX11_areSet_16 rfl rfl ?_
    refine z_aload_n C 0 0 dX11_areSet_17 rfl rfl ?_
    refine z_iload C 5 dX11_areSet_18 rfl ?_
    refine z_iload C 4 dX11_areSet_20 rfl ?_
    refine z_iload_n C 3 3 dX11_areSet_22 rfl rfl ?_
    refine z_callV_I (As := [.int v5, .int v4, .int v3]) (rest := [.int v2, .int v1, .ref (B + v0)]) C rfl (ctX11_placeOf (zG_of C) N v0 v5 v4 v3 h0 M) cw_RX11_225 rfl (okM_X11_placeOf) rfl cl11 h0 (okR_of rfl) (Nat.le_of_ble_eq_true rfl) dX11_areSet_23 (fun qj2 _ => ?_)
    refine z_iadd C dX11_areSet_26 ?_
    refine z_callV_pI (As := [.int v1, .int (v2 + qj2.1)]) (rest := []) C rfl (ctX11_get (zG_of C) v0 v1 (v2 + qj2.1) h0 qj2.2) cw_RX11_237 rfl (okM_X11_get) rfl cl11 h0 (okR_of rfl) (Nat.le_of_ble_eq_true rfl) dX11_areSet_27 (fun qj3 _ => ?_)
    refine z_if_ne C 35 dX11_areSet_30 rfl (fun _ => ?_) (fun _ => ?_)
    · refine z_iconst C dX11_areSet_33 rfl ?_
      exact z_zret C (v := false) hr (Nat.le_of_ble_eq_true rfl) dX11_areSet_34 rfl
    · refine z_iinc C 5 5 (v := v5) (v1 := (v5 + (1 : Int32))) (ls1 := [(5, .int (v5 + (1 : Int32))), (0, .ref (B + v0)), (1, .int v1), (2, .int v2), (3, .int v3), (4, .int v4)]) dX11_areSet_35 rfl rfl (by decide) rfl ?_
      refine z_goto C 3 dX11_areSet_38 rfl ?_
      exact z_jump (ls1 := [(0, .ref (B + v0)), (1, .int v1), (2, .int v2), (3, .int v3), (4, .int v4), (5, .int (v5 + (1 : Int32)))]) (Nat.le_of_ble_eq_true rfl) [1, 2, 3, 4, 5, 0] rfl (hk3 (v5 + (1 : Int32)) qj2.2)
theorem z_fX11_areSet_l3_i {p : Program} {l : Launch} {e : Env} {s : State} {m : MethodId} {args : Array Value} {below : List Frame} {meth : Method} {c : Code} {D : va_G} {cy : Nat → ClassId} {B : Nat} {kd : Nat → Nat} {n : Nat} {sa sv : Nat → Nat} (C : zC p l s m args meth c D cy B kd n sa sv RX11 cX11_areSet 6) (ht : ∀ x ∈ c.exceptionTable.toList, False) (hr : meth.sig.returnType = some (FieldType.boolean)) {b0 : Bool × Mem} (N : Nat) (v0 : Nat) (v1 : Int32) (v2 : Int32) (v3 : Int32) (v4 : Int32) (h0 : kd v0 = 11)  (fu : Nat) : ∀ (v5 : Int32) (M : Mem), Z p l e (rmz 3 0) s m args below meth c (vx_MQ below (QcR D cy B kd n (cvB b0)) (XcR D cy B kd n (cvB b0)) args s 0 (6 * 0) (AA B kd n)) D cy B kd n 6 b0 0 3 [(0, .ref (B + v0)), (1, .int v1), (2, .int v2), (3, .int v3), (4, .int v4), (5, .int v5)] [] M (fX11_areSet_l3 N v0 v1 v2 v3 v4 fu v5 M) := by
  induction fu with
  | zero => intro v5 M; exact z_none
  | succ fu ih => intro v5 M; exact z_fX11_areSet_l3_s C ht hr N v0 v1 v2 v3 v4 (fX11_areSet_l3 N v0 v1 v2 v3 v4 fu) v5 M h0 (fun v5 M => ih v5 M)
theorem z_fX11_areSet_l3 {p : Program} {l : Launch} {e : Env} {s : State} {m : MethodId} {args : Array Value} {below : List Frame} {meth : Method} {c : Code} {D : va_G} {cy : Nat → ClassId} {B : Nat} {kd : Nat → Nat} {n : Nat} {sa sv : Nat → Nat} (C : zC p l s m args meth c D cy B kd n sa sv RX11 cX11_areSet 6) (ht : ∀ x ∈ c.exceptionTable.toList, False) (hr : meth.sig.returnType = some (FieldType.boolean)) {b0 : Bool × Mem} (N : Nat) (v0 : Nat) (v1 : Int32) (v2 : Int32) (v3 : Int32) (v4 : Int32) (fu : Nat) (v5 : Int32) (M : Mem) (h0 : kd v0 = 11)  : Z p l e (rmz 3 0) s m args below meth c (vx_MQ below (QcR D cy B kd n (cvB b0)) (XcR D cy B kd n (cvB b0)) args s 0 (6 * 0) (AA B kd n)) D cy B kd n 6 b0 0 3 [(0, .ref (B + v0)), (1, .int v1), (2, .int v2), (3, .int v3), (4, .int v4), (5, .int v5)] [] M (fX11_areSet_l3 N v0 v1 v2 v3 v4 fu v5 M) := z_fX11_areSet_l3_i C ht hr N v0 v1 v2 v3 v4 h0 fu v5 M
set_option maxHeartbeats 4000000 in
set_option maxRecDepth 100000 in
theorem ctX11_areSet {l : Launch} {D : va_G} {cy : Nat → ClassId} {B : Nat} {kd : Nat → Nat} {n : Nat} {sa sv : Nat → Nat} (G : zG l kd n) (N : Nat) (v0 : Nat) (v1 : Int32) (v2 : Int32) (v3 : Int32) (v4 : Int32) (h0 : kd v0 = 11) (M : Mem) : CT l D cy B kd n sa sv 3 0 yX11_areSet cX11_areSet 6 (some (FieldType.boolean)) cvB [.ref (B + v0), .int v1, .int v2, .int v3, .int v4] M (fX11_areSet N v0 v1 v2 v3 v4 M) := by
  refine ct_of (by decide) G.1 G.2 (Nat.le_of_ble_eq_true rfl) (ls := [(0, .ref (B + v0)), (1, .int v1), (2, .int v2), (3, .int v3), (4, .int v4)]) rfl ?_
  intro p e s m args below meth c b0 C ht hr
  unfold fX11_areSet
  refine z_iconst C dX11_areSet_0 rfl ?_
  refine z_istore C 5 (ls1 := [(5, .int (0 : Int32)), (0, .ref (B + v0)), (1, .int v1), (2, .int v2), (3, .int v3), (4, .int v4)]) dX11_areSet_1 (by decide) rfl ?_
  exact z_jump (ls1 := [(0, .ref (B + v0)), (1, .int v1), (2, .int v2), (3, .int v3), (4, .int v4), (5, .int (0 : Int32))]) (Nat.le_of_ble_eq_true rfl) [1, 2, 3, 4, 5, 0] rfl (z_fX11_areSet_l3 C ht hr N v0 v1 v2 v3 v4 N (0 : Int32) M h0)
set_option maxHeartbeats 4000000 in
set_option maxRecDepth 100000 in
theorem z_fX11_says_b52 {p : Program} {l : Launch} {e : Env} {s : State} {m : MethodId} {args : Array Value} {below : List Frame} {meth : Method} {c : Code} {D : va_G} {cy : Nat → ClassId} {B : Nat} {kd : Nat → Nat} {n : Nat} {sa sv : Nat → Nat} (C : zC p l s m args meth c D cy B kd n sa sv RX11 cX11_says 6) (ht : ∀ x ∈ c.exceptionTable.toList, False) (hr : meth.sig.returnType = some (FieldType.boolean)) {b0 : Bool × Mem}  (N : Nat) (M : Mem)  : Z p l e (rmz 4 0) s m args below meth c (vx_MQ below (QcR D cy B kd n (cvB b0)) (XcR D cy B kd n (cvB b0)) args s 0 (6 * 0) (AA B kd n)) D cy B kd n 6 b0 0 52 [] [] M (fX11_says_b52 N M) := by
  unfold fX11_says_b52
  refine z_iconst C dX11_says_52 rfl ?_
  refine z_goto C 57 dX11_says_53 rfl ?_
  exact z_zret C (v := true) hr (Nat.le_of_ble_eq_true rfl) dX11_says_57 rfl
set_option maxHeartbeats 4000000 in
set_option maxRecDepth 100000 in
theorem z_fX11_says_l69_s {p : Program} {l : Launch} {e : Env} {s : State} {m : MethodId} {args : Array Value} {below : List Frame} {meth : Method} {c : Code} {D : va_G} {cy : Nat → ClassId} {B : Nat} {kd : Nat → Nat} {n : Nat} {sa sv : Nat → Nat} (C : zC p l s m args meth c D cy B kd n sa sv RX11 cX11_says 6) (ht : ∀ x ∈ c.exceptionTable.toList, False) (hr : meth.sig.returnType = some (FieldType.boolean)) {b0 : Bool × Mem} (N : Nat) (v0 : Nat) (v1 : Int32) (v2 : Int32) (k69 : Int32 → Int32 → Mem → Option (Bool × Mem)) (v4 : Int32) (v5 : Int32) (M : Mem) (h0 : kd v0 = 11)  (hk69 : ∀ (v4 : Int32) (v5 : Int32) (M : Mem), Z p l e (rmz 4 0) s m args below meth c (vx_MQ below (QcR D cy B kd n (cvB b0)) (XcR D cy B kd n (cvB b0)) args s 0 (6 * 0) (AA B kd n)) D cy B kd n 6 b0 0 69 [(0, .ref (B + v0)), (1, .int v1), (2, .int v2), (4, .int v4), (5, .int v5)] [] M (k69 v4 v5 M)) : Z p l e (rmz 4 0) s m args below meth c (vx_MQ below (QcR D cy B kd n (cvB b0)) (XcR D cy B kd n (cvB b0)) args s 0 (6 * 0) (AA B kd n)) D cy B kd n 6 b0 0 69 [(0, .ref (B + v0)), (1, .int v1), (2, .int v2), (4, .int v4), (5, .int v5)] [] M (fX11_says_l69_s N v0 v1 v2 k69 v4 v5 M) := by
  unfold fX11_says_l69_s
  refine z_iload C 4 dX11_says_69 rfl ?_
  refine z_aload_n C 0 0 dX11_says_71 rfl rfl ?_
  refine z_iload_n C 1 1 dX11_says_72 rfl rfl ?_
  refine z_iconst C dX11_says_73 rfl ?_
  refine z_callV_pI (As := [.int v1, .int (2 : Int32)]) (rest := [.int v5]) C rfl (ctX11_get (zG_of C) v0 v1 (2 : Int32) h0 M) cw_RX11_237 rfl (okM_X11_get) rfl cl11 h0 (okR_of rfl) (Nat.le_of_ble_eq_true rfl) dX11_says_74 (fun qj1 _ => ?_)
  refine z_icmp_ge C 107 dX11_says_77 rfl (fun _ => ?_) (fun _ => ?_)
  · refine z_iload C 3 dX11_says_107 rfl ?_
    refine z_aload_n C 0 0 dX11_says_109 rfl rfl ?_
    refine z_iload_n C 2 2 dX11_says_110 rfl rfl ?_
    refine z_callV_I (As := [.int v2]) (rest := [.int v4]) C rfl (ctX11_tagOf (zG_of C) N v0 v2 h0 M) cw_RX11_232 rfl (okM_X11_tagOf) rfl cl11 h0 (okR_of rfl) (Nat.le_of_ble_eq_true rfl) dX11_says_111 (fun qj2 _ => ?_)
    refine z_icmp_ne C 121 dX11_says_114 rfl (fun _ => ?_) (fun _ => ?_)
    · refine z_iconst C dX11_says_117 rfl ?_
      refine z_goto C 122 dX11_says_118 rfl ?_
      exact z_zret C (v := true) hr (Nat.le_of_ble_eq_true rfl) dX11_says_122 rfl
    · refine z_iconst C dX11_says_121 rfl ?_
      exact z_zret C (v := false) hr (Nat.le_of_ble_eq_true rfl) dX11_says_122 rfl
  · refine z_iload C 3 dX11_says_80 rfl ?_
    refine z_aload_n C 0 0 dX11_says_82 rfl rfl ?_
    refine z_iload_n C 1 1 dX11_says_83 rfl rfl ?_
    refine z_bipush (v := 10) C dX11_says_84 rfl ?_
    refine z_aload_n C 0 0 dX11_says_86 rfl rfl ?_
    refine z_iload_n C 1 1 dX11_says_87 rfl rfl ?_
    refine z_iload C 4 dX11_says_88 rfl ?_
    refine z_iload_n C 2 2 dX11_says_90 rfl rfl ?_
    refine z_callV_I (As := [.int v1, .int v5, .int v2]) (rest := [.int (10 : Int32), .int v1, .ref (B + v0), .int v4]) C rfl (ctX11_spot (zG_of C) N v0 v1 v5 v2 h0 M) cw_RX11_273 rfl (okM_X11_spot) rfl cl11 h0 (okR_of rfl) (Nat.le_of_ble_eq_true rfl) dX11_says_91 (fun qj3 _ => ?_)
    refine z_iadd C dX11_says_94 ?_
    refine z_callV_pI (As := [.int v1, .int ((10 : Int32) + qj3.1)]) (rest := [.int v4]) C rfl (ctX11_get (zG_of C) v0 v1 ((10 : Int32) + qj3.1) h0 qj3.2) cw_RX11_237 rfl (okM_X11_get) rfl cl11 h0 (okR_of rfl) (Nat.le_of_ble_eq_true rfl) dX11_says_95 (fun qj4 _ => ?_)
    refine z_ixor C dX11_says_98 ?_
    refine z_istore C 4 (ls1 := [(4, .int (v4 ^^^ qj4)), (0, .ref (B + v0)), (1, .int v1), (2, .int v2), (5, .int v5)]) dX11_says_99 (by decide) rfl ?_
    refine z_iinc C 5 4 (v := v5) (v1 := (v5 + (1 : Int32))) (ls1 := [(5, .int (v5 + (1 : Int32))), (4, .int (v4 ^^^ qj4)), (0, .ref (B + v0)), (1, .int v1), (2, .int v2)]) dX11_says_101 rfl rfl (by decide) rfl ?_
    refine z_goto C 69 dX11_says_104 rfl ?_
    exact z_jump (ls1 := [(0, .ref (B + v0)), (1, .int v1), (2, .int v2), (4, .int (v4 ^^^ qj4)), (5, .int (v5 + (1 : Int32)))]) (Nat.le_of_ble_eq_true rfl) [2, 3, 4, 1, 0] rfl (hk69 (v4 ^^^ qj4) (v5 + (1 : Int32)) qj3.2)
theorem z_fX11_says_l69_i {p : Program} {l : Launch} {e : Env} {s : State} {m : MethodId} {args : Array Value} {below : List Frame} {meth : Method} {c : Code} {D : va_G} {cy : Nat → ClassId} {B : Nat} {kd : Nat → Nat} {n : Nat} {sa sv : Nat → Nat} (C : zC p l s m args meth c D cy B kd n sa sv RX11 cX11_says 6) (ht : ∀ x ∈ c.exceptionTable.toList, False) (hr : meth.sig.returnType = some (FieldType.boolean)) {b0 : Bool × Mem} (N : Nat) (v0 : Nat) (v1 : Int32) (v2 : Int32) (h0 : kd v0 = 11)  (fu : Nat) : ∀ (v4 : Int32) (v5 : Int32) (M : Mem), Z p l e (rmz 4 0) s m args below meth c (vx_MQ below (QcR D cy B kd n (cvB b0)) (XcR D cy B kd n (cvB b0)) args s 0 (6 * 0) (AA B kd n)) D cy B kd n 6 b0 0 69 [(0, .ref (B + v0)), (1, .int v1), (2, .int v2), (4, .int v4), (5, .int v5)] [] M (fX11_says_l69 N v0 v1 v2 fu v4 v5 M) := by
  induction fu with
  | zero => intro v4 v5 M; exact z_none
  | succ fu ih => intro v4 v5 M; exact z_fX11_says_l69_s C ht hr N v0 v1 v2 (fX11_says_l69 N v0 v1 v2 fu) v4 v5 M h0 (fun v4 v5 M => ih v4 v5 M)
theorem z_fX11_says_l69 {p : Program} {l : Launch} {e : Env} {s : State} {m : MethodId} {args : Array Value} {below : List Frame} {meth : Method} {c : Code} {D : va_G} {cy : Nat → ClassId} {B : Nat} {kd : Nat → Nat} {n : Nat} {sa sv : Nat → Nat} (C : zC p l s m args meth c D cy B kd n sa sv RX11 cX11_says 6) (ht : ∀ x ∈ c.exceptionTable.toList, False) (hr : meth.sig.returnType = some (FieldType.boolean)) {b0 : Bool × Mem} (N : Nat) (v0 : Nat) (v1 : Int32) (v2 : Int32) (fu : Nat) (v4 : Int32) (v5 : Int32) (M : Mem) (h0 : kd v0 = 11)  : Z p l e (rmz 4 0) s m args below meth c (vx_MQ below (QcR D cy B kd n (cvB b0)) (XcR D cy B kd n (cvB b0)) args s 0 (6 * 0) (AA B kd n)) D cy B kd n 6 b0 0 69 [(0, .ref (B + v0)), (1, .int v1), (2, .int v2), (4, .int v4), (5, .int v5)] [] M (fX11_says_l69 N v0 v1 v2 fu v4 v5 M) := z_fX11_says_l69_i C ht hr N v0 v1 v2 h0 fu v4 v5 M
set_option maxHeartbeats 4000000 in
set_option maxRecDepth 100000 in
theorem z_fX11_says_l126_s {p : Program} {l : Launch} {e : Env} {s : State} {m : MethodId} {args : Array Value} {below : List Frame} {meth : Method} {c : Code} {D : va_G} {cy : Nat → ClassId} {B : Nat} {kd : Nat → Nat} {n : Nat} {sa sv : Nat → Nat} (C : zC p l s m args meth c D cy B kd n sa sv RX11 cX11_says 6) (ht : ∀ x ∈ c.exceptionTable.toList, False) (hr : meth.sig.returnType = some (FieldType.boolean)) {b0 : Bool × Mem} (N : Nat) (v0 : Nat) (v1 : Int32) (v2 : Int32) (k126 : Int32 → Mem → Option (Bool × Mem)) (v4 : Int32) (M : Mem) (h0 : kd v0 = 11)  (hk126 : ∀ (v4 : Int32) (M : Mem), Z p l e (rmz 4 0) s m args below meth c (vx_MQ below (QcR D cy B kd n (cvB b0)) (XcR D cy B kd n (cvB b0)) args s 0 (6 * 0) (AA B kd n)) D cy B kd n 6 b0 0 126 [(0, .ref (B + v0)), (1, .int v1), (2, .int v2), (4, .int v4)] [] M (k126 v4 M)) : Z p l e (rmz 4 0) s m args below meth c (vx_MQ below (QcR D cy B kd n (cvB b0)) (XcR D cy B kd n (cvB b0)) args s 0 (6 * 0) (AA B kd n)) D cy B kd n 6 b0 0 126 [(0, .ref (B + v0)), (1, .int v1), (2, .int v2), (4, .int v4)] [] M (fX11_says_l126_s N v0 v1 v2 k126 v4 M) := by
  unfold fX11_says_l126_s
  refine z_iload C 3 dX11_says_126 rfl ?_
  refine z_aload_n C 0 0 dX11_says_128 rfl rfl ?_
  refine z_iload_n C 1 1 dX11_says_129 rfl rfl ?_
  refine z_iconst C dX11_says_130 rfl ?_
  refine z_callV_pI (As := [.int v1, .int (4 : Int32)]) (rest := [.int v4]) C rfl (ctX11_get (zG_of C) v0 v1 (4 : Int32) h0 M) cw_RX11_237 rfl (okM_X11_get) rfl cl11 h0 (okR_of rfl) (Nat.le_of_ble_eq_true rfl) dX11_says_131 (fun qj1 _ => ?_)
  refine z_icmp_ge C 170 dX11_says_134 rfl (fun _ => ?_) (fun _ => ?_)
  · refine z_iconst C dX11_says_170 rfl ?_
    exact z_zret C (v := false) hr (Nat.le_of_ble_eq_true rfl) dX11_says_171 rfl
  · refine z_aload_n C 0 0 dX11_says_137 rfl rfl ?_
    refine z_iload_n C 1 1 dX11_says_138 rfl rfl ?_
    refine z_aload_n C 0 0 dX11_says_139 rfl rfl ?_
    refine z_iload_n C 1 1 dX11_says_140 rfl rfl ?_
    refine z_iload C 3 dX11_says_141 rfl ?_
    refine z_callV_pI (As := [.int v1, .int v4]) (rest := [.int v1, .ref (B + v0)]) C rfl (ctX11_layerAt (zG_of C) v0 v1 v4 h0 M) cw_RX11_264 rfl (okM_X11_layerAt) rfl cl11 h0 (okR_of rfl) (Nat.le_of_ble_eq_true rfl) dX11_says_143 (fun qj2 _ => ?_)
    refine z_aload_n C 0 0 dX11_says_146 rfl rfl ?_
    refine z_iload_n C 1 1 dX11_says_147 rfl rfl ?_
    refine z_iconst C dX11_says_148 rfl ?_
    refine z_callV_pI (As := [.int v1, .int (1 : Int32)]) (rest := [.int qj2, .int v1, .ref (B + v0)]) C rfl (ctX11_get (zG_of C) v0 v1 (1 : Int32) h0 M) cw_RX11_237 rfl (okM_X11_get) rfl cl11 h0 (okR_of rfl) (Nat.le_of_ble_eq_true rfl) dX11_says_149 (fun qj3 _ => ?_)
    refine z_iload C 3 dX11_says_152 rfl ?_
    refine z_ishl C dX11_says_154 ?_
    refine z_iload_n C 2 2 dX11_says_155 rfl rfl ?_
    refine z_callV_B (As := [.int v1, .int qj2, .int (shlI qj3 v4), .int v2]) (rest := []) C rfl (ctX11_areSet (zG_of C) N v0 v1 qj2 (shlI qj3 v4) v2 h0 M) cw_RX11_289 rfl (okM_X11_areSet) rfl cl11 h0 (okR_of rfl) (Nat.le_of_ble_eq_true rfl) dX11_says_156 (fun qj4 _ => ?_)
    refine z_if_eqB C 164 dX11_says_159 rfl (fun _ => ?_) (fun _ => ?_)
    · refine z_iconst C dX11_says_162 rfl ?_
      exact z_zret C (v := true) hr (Nat.le_of_ble_eq_true rfl) dX11_says_163 rfl
    · refine z_iinc C 4 3 (v := v4) (v1 := (v4 + (1 : Int32))) (ls1 := [(4, .int (v4 + (1 : Int32))), (0, .ref (B + v0)), (1, .int v1), (2, .int v2)]) dX11_says_164 rfl rfl (by decide) rfl ?_
      refine z_goto C 126 dX11_says_167 rfl ?_
      exact z_jump (ls1 := [(0, .ref (B + v0)), (1, .int v1), (2, .int v2), (4, .int (v4 + (1 : Int32)))]) (Nat.le_of_ble_eq_true rfl) [1, 2, 3, 0] rfl (hk126 (v4 + (1 : Int32)) qj4.2)
theorem z_fX11_says_l126_i {p : Program} {l : Launch} {e : Env} {s : State} {m : MethodId} {args : Array Value} {below : List Frame} {meth : Method} {c : Code} {D : va_G} {cy : Nat → ClassId} {B : Nat} {kd : Nat → Nat} {n : Nat} {sa sv : Nat → Nat} (C : zC p l s m args meth c D cy B kd n sa sv RX11 cX11_says 6) (ht : ∀ x ∈ c.exceptionTable.toList, False) (hr : meth.sig.returnType = some (FieldType.boolean)) {b0 : Bool × Mem} (N : Nat) (v0 : Nat) (v1 : Int32) (v2 : Int32) (h0 : kd v0 = 11)  (fu : Nat) : ∀ (v4 : Int32) (M : Mem), Z p l e (rmz 4 0) s m args below meth c (vx_MQ below (QcR D cy B kd n (cvB b0)) (XcR D cy B kd n (cvB b0)) args s 0 (6 * 0) (AA B kd n)) D cy B kd n 6 b0 0 126 [(0, .ref (B + v0)), (1, .int v1), (2, .int v2), (4, .int v4)] [] M (fX11_says_l126 N v0 v1 v2 fu v4 M) := by
  induction fu with
  | zero => intro v4 M; exact z_none
  | succ fu ih => intro v4 M; exact z_fX11_says_l126_s C ht hr N v0 v1 v2 (fX11_says_l126 N v0 v1 v2 fu) v4 M h0 (fun v4 M => ih v4 M)
theorem z_fX11_says_l126 {p : Program} {l : Launch} {e : Env} {s : State} {m : MethodId} {args : Array Value} {below : List Frame} {meth : Method} {c : Code} {D : va_G} {cy : Nat → ClassId} {B : Nat} {kd : Nat → Nat} {n : Nat} {sa sv : Nat → Nat} (C : zC p l s m args meth c D cy B kd n sa sv RX11 cX11_says 6) (ht : ∀ x ∈ c.exceptionTable.toList, False) (hr : meth.sig.returnType = some (FieldType.boolean)) {b0 : Bool × Mem} (N : Nat) (v0 : Nat) (v1 : Int32) (v2 : Int32) (fu : Nat) (v4 : Int32) (M : Mem) (h0 : kd v0 = 11)  : Z p l e (rmz 4 0) s m args below meth c (vx_MQ below (QcR D cy B kd n (cvB b0)) (XcR D cy B kd n (cvB b0)) args s 0 (6 * 0) (AA B kd n)) D cy B kd n 6 b0 0 126 [(0, .ref (B + v0)), (1, .int v1), (2, .int v2), (4, .int v4)] [] M (fX11_says_l126 N v0 v1 v2 fu v4 M) := z_fX11_says_l126_i C ht hr N v0 v1 v2 h0 fu v4 M
set_option maxHeartbeats 4000000 in
set_option maxRecDepth 100000 in
theorem ctX11_says {l : Launch} {D : va_G} {cy : Nat → ClassId} {B : Nat} {kd : Nat → Nat} {n : Nat} {sa sv : Nat → Nat} (G : zG l kd n) (N : Nat) (v0 : Nat) (v1 : Int32) (v2 : Int32) (h0 : kd v0 = 11) (M : Mem) : CT l D cy B kd n sa sv 4 0 yX11_says cX11_says 6 (some (FieldType.boolean)) cvB [.ref (B + v0), .int v1, .int v2] M (fX11_says N v0 v1 v2 M) := by
  refine ct_of (by decide) G.1 G.2 (Nat.le_of_ble_eq_true rfl) (ls := [(0, .ref (B + v0)), (1, .int v1), (2, .int v2)]) rfl ?_
  intro p e s m args below meth c b0 C ht hr
  unfold fX11_says
  refine z_aload_n C 0 0 dX11_says_0 rfl rfl ?_
  refine z_iload_n C 1 1 dX11_says_1 rfl rfl ?_
  refine z_iconst C dX11_says_2 rfl ?_
  refine z_callV_pI (As := [.int v1, .int (0 : Int32)]) (rest := []) C rfl (ctX11_get (zG_of C) v0 v1 (0 : Int32) h0 M) cw_RX11_237 rfl (okM_X11_get) rfl cl11 h0 (okR_of rfl) (Nat.le_of_ble_eq_true rfl) dX11_says_3 (fun qj1 _ => ?_)
  refine z_istore_n C 3 (ls1 := [(3, .int qj1), (0, .ref (B + v0)), (1, .int v1), (2, .int v2)]) dX11_says_6 rfl (by decide) rfl ?_
  refine z_iload_n C 3 0 dX11_says_7 rfl rfl ?_
  refine z_iconst C dX11_says_8 rfl ?_
  refine z_icmp_ne C 58 dX11_says_9 rfl (fun _ => ?_) (fun _ => ?_)
  · refine z_aload_n C 0 1 dX11_says_12 rfl rfl ?_
    refine z_iload_n C 1 2 dX11_says_13 rfl rfl ?_
    refine z_aload_n C 0 1 dX11_says_14 rfl rfl ?_
    refine z_iload_n C 1 2 dX11_says_15 rfl rfl ?_
    refine z_iconst C dX11_says_16 rfl ?_
    refine z_iload_n C 2 3 dX11_says_17 rfl rfl ?_
    refine z_callV_I (As := [.int v1, .int (0 : Int32), .int v2]) (rest := [.int v1, .ref (B + v0)]) C rfl (ctX11_spot (zG_of C) N v0 v1 (0 : Int32) v2 h0 M) cw_RX11_273 rfl (okM_X11_spot) rfl cl11 h0 (okR_of rfl) (Nat.le_of_ble_eq_true rfl) dX11_says_18 (fun qj2 _ => ?_)
    refine z_aload_n C 0 1 dX11_says_21 rfl rfl ?_
    refine z_iload_n C 2 3 dX11_says_22 rfl rfl ?_
    refine z_callV_I (As := [.int v2]) (rest := [.int qj2.1, .int v1, .ref (B + v0)]) C rfl (ctX11_tagOf (zG_of C) N v0 v2 h0 qj2.2) cw_RX11_232 rfl (okM_X11_tagOf) rfl cl11 h0 (okR_of rfl) (Nat.le_of_ble_eq_true rfl) dX11_says_23 (fun qj3 _ => ?_)
    refine z_callV_B (As := [.int v1, .int qj2.1, .int qj3.1]) (rest := []) C rfl (ctX11_isTagged (zG_of C) N v0 v1 qj2.1 qj3.1 h0 qj3.2) cw_RX11_285 rfl (okM_X11_isTagged) rfl cl11 h0 (okR_of rfl) (Nat.le_of_ble_eq_true rfl) dX11_says_26 (fun qj4 _ => ?_)
    refine z_if_neB C 52 dX11_says_29 rfl (fun _ => ?_) (fun _ => ?_)
    · exact z_jump (ls1 := []) (Nat.le_of_ble_eq_true rfl) [] rfl (z_fX11_says_b52 C ht hr N qj4.2)
    · refine z_aload_n C 0 1 dX11_says_32 rfl rfl ?_
      refine z_iload_n C 1 2 dX11_says_33 rfl rfl ?_
      refine z_aload_n C 0 1 dX11_says_34 rfl rfl ?_
      refine z_iload_n C 1 2 dX11_says_35 rfl rfl ?_
      refine z_iconst C dX11_says_36 rfl ?_
      refine z_iload_n C 2 3 dX11_says_37 rfl rfl ?_
      refine z_callV_I (As := [.int v1, .int (1 : Int32), .int v2]) (rest := [.int v1, .ref (B + v0)]) C rfl (ctX11_spot (zG_of C) N v0 v1 (1 : Int32) v2 h0 qj4.2) cw_RX11_273 rfl (okM_X11_spot) rfl cl11 h0 (okR_of rfl) (Nat.le_of_ble_eq_true rfl) dX11_says_38 (fun qj5 _ => ?_)
      refine z_aload_n C 0 1 dX11_says_41 rfl rfl ?_
      refine z_iload_n C 2 3 dX11_says_42 rfl rfl ?_
      refine z_callV_I (As := [.int v2]) (rest := [.int qj5.1, .int v1, .ref (B + v0)]) C rfl (ctX11_tagOf (zG_of C) N v0 v2 h0 qj5.2) cw_RX11_232 rfl (okM_X11_tagOf) rfl cl11 h0 (okR_of rfl) (Nat.le_of_ble_eq_true rfl) dX11_says_43 (fun qj6 _ => ?_)
      refine z_callV_B (As := [.int v1, .int qj5.1, .int qj6.1]) (rest := []) C rfl (ctX11_isTagged (zG_of C) N v0 v1 qj5.1 qj6.1 h0 qj6.2) cw_RX11_285 rfl (okM_X11_isTagged) rfl cl11 h0 (okR_of rfl) (Nat.le_of_ble_eq_true rfl) dX11_says_46 (fun qj7 _ => ?_)
      refine z_if_eqB C 56 dX11_says_49 rfl (fun _ => ?_) (fun _ => ?_)
      · exact z_jump (ls1 := []) (Nat.le_of_ble_eq_true rfl) [] rfl (z_fX11_says_b52 C ht hr N qj7.2)
      · refine z_iconst C dX11_says_56 rfl ?_
        exact z_zret C (v := false) hr (Nat.le_of_ble_eq_true rfl) dX11_says_57 rfl
  · refine z_iload_n C 3 0 dX11_says_58 rfl rfl ?_
    refine z_iconst C dX11_says_59 rfl ?_
    refine z_icmp_ne C 123 dX11_says_60 rfl (fun _ => ?_) (fun _ => ?_)
    · refine z_iconst C dX11_says_63 rfl ?_
      refine z_istore C 4 (ls1 := [(4, .int (0 : Int32)), (3, .int qj1), (0, .ref (B + v0)), (1, .int v1), (2, .int v2)]) dX11_says_64 (by decide) rfl ?_
      refine z_iconst C dX11_says_66 rfl ?_
      refine z_istore C 5 (ls1 := [(5, .int (0 : Int32)), (4, .int (0 : Int32)), (3, .int qj1), (0, .ref (B + v0)), (1, .int v1), (2, .int v2)]) dX11_says_67 (by decide) rfl ?_
      exact z_jump (ls1 := [(0, .ref (B + v0)), (1, .int v1), (2, .int v2), (4, .int (0 : Int32)), (5, .int (0 : Int32))]) (Nat.le_of_ble_eq_true rfl) [3, 4, 5, 1, 0] rfl (z_fX11_says_l69 C ht hr N v0 v1 v2 N (0 : Int32) (0 : Int32) M h0)
    · refine z_iconst C dX11_says_123 rfl ?_
      refine z_istore C 4 (ls1 := [(4, .int (0 : Int32)), (3, .int qj1), (0, .ref (B + v0)), (1, .int v1), (2, .int v2)]) dX11_says_124 (by decide) rfl ?_
      exact z_jump (ls1 := [(0, .ref (B + v0)), (1, .int v1), (2, .int v2), (4, .int (0 : Int32))]) (Nat.le_of_ble_eq_true rfl) [2, 3, 4, 0] rfl (z_fX11_says_l126 C ht hr N v0 v1 v2 N (0 : Int32) M h0)
set_option maxHeartbeats 4000000 in
set_option maxRecDepth 100000 in
theorem ctX11_nameFault {l : Launch} {D : va_G} {cy : Nat → ClassId} {B : Nat} {kd : Nat → Nat} {n : Nat} {sa sv : Nat → Nat} (G : zG l kd n) (v0 : Nat) (v1 : Int32) (v2 : Int32) (h0 : kd v0 = 11) (Mo : Mem) : CT l D cy B kd n sa sv 2 0 yX11_nameFault cX11_nameFault 3 (some (FieldType.int)) (pI Mo) [.ref (B + v0), .int v1, .int v2] Mo (fX11_nameFault v0 v1 v2 Mo) := by
  refine ct_of (by decide) G.1 G.2 (Nat.le_of_ble_eq_true rfl) (ls := [(0, .ref (B + v0)), (1, .int v1), (2, .int v2)]) rfl ?_
  intro p e s m args below meth c b0 C ht hr
  unfold fX11_nameFault
  refine z_aload_n C 0 0 dX11_nameFault_0 rfl rfl ?_
  refine z_iload_n C 1 1 dX11_nameFault_1 rfl rfl ?_
  refine z_callV_pB (As := [.int v1]) (rest := []) C rfl (ctX11_isRow (zG_of C) v0 v1 h0 Mo) cw_RX11_256 rfl (okM_X11_isRow) rfl cl11 h0 (okR_of rfl) (Nat.le_of_ble_eq_true rfl) dX11_nameFault_2 (fun qj1 _ => ?_)
  refine z_if_neB C 12 dX11_nameFault_5 rfl (fun _ => ?_) (fun _ => ?_)
  · refine z_aload_n C 0 0 dX11_nameFault_12 rfl rfl ?_
    refine z_iload_n C 2 2 dX11_nameFault_13 rfl rfl ?_
    refine z_i2l C dX11_nameFault_14 ?_
    refine z_callV_pB (As := [.long v2.toInt64]) (rest := []) C rfl (ctX11_isName (zG_of C) v0 v2.toInt64 h0 Mo) cw_RX11_228 rfl (okM_X11_isName) rfl cl11 h0 (okR_of rfl) (Nat.le_of_ble_eq_true rfl) dX11_nameFault_15 (fun qj2 _ => ?_)
    refine z_if_eqB C 25 dX11_nameFault_18 rfl (fun _ => ?_) (fun _ => ?_)
    · refine z_iconst C dX11_nameFault_21 rfl ?_
      refine z_goto C 26 dX11_nameFault_22 rfl ?_
      exact z_iret C hr (Nat.le_of_ble_eq_true rfl) dX11_nameFault_26 rfl
    · refine z_iconst C dX11_nameFault_25 rfl ?_
      exact z_iret C hr (Nat.le_of_ble_eq_true rfl) dX11_nameFault_26 rfl
  · refine z_iconst C dX11_nameFault_8 rfl ?_
    refine z_goto C 26 dX11_nameFault_9 rfl ?_
    exact z_iret C hr (Nat.le_of_ble_eq_true rfl) dX11_nameFault_26 rfl
set_option maxHeartbeats 4000000 in
set_option maxRecDepth 100000 in
theorem z_fX11_yes_b30 {p : Program} {l : Launch} {e : Env} {s : State} {m : MethodId} {args : Array Value} {below : List Frame} {meth : Method} {c : Code} {D : va_G} {cy : Nat → ClassId} {B : Nat} {kd : Nat → Nat} {n : Nat} {sa sv : Nat → Nat} (C : zC p l s m args meth c D cy B kd n sa sv RX11 cX11_yes 3) (ht : ∀ x ∈ c.exceptionTable.toList, False) (hr : meth.sig.returnType = some (FieldType.boolean)) {b0 : Bool × Mem}  (N : Nat) (M : Mem)  : Z p l e (rmz 5 0) s m args below meth c (vx_MQ below (QcR D cy B kd n (cvB b0)) (XcR D cy B kd n (cvB b0)) args s 0 (6 * 0) (AA B kd n)) D cy B kd n 3 b0 0 30 [] [] M (fX11_yes_b30 N M) := by
  unfold fX11_yes_b30
  refine z_iconst C dX11_yes_30 rfl ?_
  exact z_zret C (v := false) hr (Nat.le_of_ble_eq_true rfl) dX11_yes_31 rfl
set_option maxHeartbeats 4000000 in
set_option maxRecDepth 100000 in
theorem ctX11_yes {l : Launch} {D : va_G} {cy : Nat → ClassId} {B : Nat} {kd : Nat → Nat} {n : Nat} {sa sv : Nat → Nat} (G : zG l kd n) (N : Nat) (v0 : Nat) (v1 : Int32) (v2 : Int32) (h0 : kd v0 = 11) (M : Mem) : CT l D cy B kd n sa sv 5 0 yX11_yes cX11_yes 3 (some (FieldType.boolean)) cvB [.ref (B + v0), .int v1, .int v2] M (fX11_yes N v0 v1 v2 M) := by
  refine ct_of (by decide) G.1 G.2 (Nat.le_of_ble_eq_true rfl) (ls := [(0, .ref (B + v0)), (1, .int v1), (2, .int v2)]) rfl ?_
  intro p e s m args below meth c b0 C ht hr
  unfold fX11_yes
  refine z_aload_n C 0 0 dX11_yes_0 rfl rfl ?_
  refine z_aload_n C 0 0 dX11_yes_1 rfl rfl ?_
  refine z_iload_n C 1 1 dX11_yes_2 rfl rfl ?_
  refine z_iload_n C 2 2 dX11_yes_3 rfl rfl ?_
  refine z_callV_pI (As := [.int v1, .int v2]) (rest := [.ref (B + v0)]) C rfl (ctX11_nameFault (zG_of C) v0 v1 v2 h0 M) cw_RX11_293 rfl (okM_X11_nameFault) rfl cl11 h0 (okR_of rfl) (Nat.le_of_ble_eq_true rfl) dX11_yes_4 (fun qj1 _ => ?_)
  refine z_putI (k := 5) C cl11 h0 rfl gw_7_15 rfl rfl rfl dX11_yes_7 ?_
  refine z_aload_n C 0 0 dX11_yes_10 rfl rfl ?_
  refine z_getI (k := 5) C cl11 h0 rfl gw_7_15 rfl dX11_yes_11 ?_
  refine z_if_ne C 30 dX11_yes_14 rfl (fun _ => ?_) (fun _ => ?_)
  · refine z_aload_n C 0 0 dX11_yes_17 rfl rfl ?_
    refine z_iload_n C 1 1 dX11_yes_18 rfl rfl ?_
    refine z_iload_n C 2 2 dX11_yes_19 rfl rfl ?_
    refine z_callV_B (As := [.int v1, .int v2]) (rest := []) C rfl (ctX11_says (zG_of C) N v0 v1 v2 h0 (wI M v0 5 qj1)) cw_RX11_296 rfl (okM_X11_says) rfl cl11 h0 (okR_of rfl) (Nat.le_of_ble_eq_true rfl) dX11_yes_20 (fun qj2 _ => ?_)
    refine z_if_eqB C 30 dX11_yes_23 rfl (fun _ => ?_) (fun _ => ?_)
    · refine z_iconst C dX11_yes_26 rfl ?_
      refine z_goto C 31 dX11_yes_27 rfl ?_
      exact z_zret C (v := true) hr (Nat.le_of_ble_eq_true rfl) dX11_yes_31 rfl
    · exact z_jump (ls1 := []) (Nat.le_of_ble_eq_true rfl) [] rfl (z_fX11_yes_b30 C ht hr N qj2.2)
  · exact z_jump (ls1 := []) (Nat.le_of_ble_eq_true rfl) [] rfl (z_fX11_yes_b30 C ht hr N (wI M v0 5 qj1))
set_option maxHeartbeats 4000000 in
set_option maxRecDepth 100000 in
theorem z_fX11_isPut_b30 {p : Program} {l : Launch} {e : Env} {s : State} {m : MethodId} {args : Array Value} {below : List Frame} {meth : Method} {c : Code} {D : va_G} {cy : Nat → ClassId} {B : Nat} {kd : Nat → Nat} {n : Nat} {sa sv : Nat → Nat} (C : zC p l s m args meth c D cy B kd n sa sv RX11 cX11_isPut 3) (ht : ∀ x ∈ c.exceptionTable.toList, False) (hr : meth.sig.returnType = some (FieldType.boolean)) {b0 : Bool × Mem}   (M : Mem)  : Z p l e (rmz 3 0) s m args below meth c (vx_MQ below (QcR D cy B kd n (cvB b0)) (XcR D cy B kd n (cvB b0)) args s 0 (6 * 0) (AA B kd n)) D cy B kd n 3 b0 0 30 [] [] M (fX11_isPut_b30 M) := by
  unfold fX11_isPut_b30
  refine z_iconst C dX11_isPut_30 rfl ?_
  exact z_zret C (v := false) hr (Nat.le_of_ble_eq_true rfl) dX11_isPut_31 rfl
set_option maxHeartbeats 4000000 in
set_option maxRecDepth 100000 in
theorem ctX11_isPut {l : Launch} {D : va_G} {cy : Nat → ClassId} {B : Nat} {kd : Nat → Nat} {n : Nat} {sa sv : Nat → Nat} (G : zG l kd n) (v0 : Nat) (v1 : Int32) (v2 : Int32) (h0 : kd v0 = 11) (M : Mem) : CT l D cy B kd n sa sv 3 0 yX11_isPut cX11_isPut 3 (some (FieldType.boolean)) cvB [.ref (B + v0), .int v1, .int v2] M (fX11_isPut v0 v1 v2 M) := by
  refine ct_of (by decide) G.1 G.2 (Nat.le_of_ble_eq_true rfl) (ls := [(0, .ref (B + v0)), (1, .int v1), (2, .int v2)]) rfl ?_
  intro p e s m args below meth c b0 C ht hr
  unfold fX11_isPut
  refine z_aload_n C 0 0 dX11_isPut_0 rfl rfl ?_
  refine z_aload_n C 0 0 dX11_isPut_1 rfl rfl ?_
  refine z_iload_n C 1 1 dX11_isPut_2 rfl rfl ?_
  refine z_iload_n C 2 2 dX11_isPut_3 rfl rfl ?_
  refine z_callV_pI (As := [.int v1, .int v2]) (rest := [.ref (B + v0)]) C rfl (ctX11_nameFault (zG_of C) v0 v1 v2 h0 M) cw_RX11_293 rfl (okM_X11_nameFault) rfl cl11 h0 (okR_of rfl) (Nat.le_of_ble_eq_true rfl) dX11_isPut_4 (fun qj1 _ => ?_)
  refine z_putI (k := 5) C cl11 h0 rfl gw_7_15 rfl rfl rfl dX11_isPut_7 ?_
  refine z_aload_n C 0 0 dX11_isPut_10 rfl rfl ?_
  refine z_getI (k := 5) C cl11 h0 rfl gw_7_15 rfl dX11_isPut_11 ?_
  refine z_if_ne C 30 dX11_isPut_14 rfl (fun _ => ?_) (fun _ => ?_)
  · refine z_aload_n C 0 0 dX11_isPut_17 rfl rfl ?_
    refine z_iload_n C 1 1 dX11_isPut_18 rfl rfl ?_
    refine z_iload_n C 2 2 dX11_isPut_19 rfl rfl ?_
    refine z_callV_pB (As := [.int v1, .int v2]) (rest := []) C rfl (ctX11_isIn (zG_of C) v0 v1 v2 h0 (wI M v0 5 qj1)) cw_RX11_300 rfl (okM_X11_isIn) rfl cl11 h0 (okR_of rfl) (Nat.le_of_ble_eq_true rfl) dX11_isPut_20 (fun qj2 _ => ?_)
    refine z_if_eqB C 30 dX11_isPut_23 rfl (fun _ => ?_) (fun _ => ?_)
    · refine z_iconst C dX11_isPut_26 rfl ?_
      refine z_goto C 31 dX11_isPut_27 rfl ?_
      exact z_zret C (v := true) hr (Nat.le_of_ble_eq_true rfl) dX11_isPut_31 rfl
    · exact z_jump (ls1 := []) (Nat.le_of_ble_eq_true rfl) [] rfl (z_fX11_isPut_b30 C ht hr (wI M v0 5 qj1))
  · exact z_jump (ls1 := []) (Nat.le_of_ble_eq_true rfl) [] rfl (z_fX11_isPut_b30 C ht hr (wI M v0 5 qj1))
set_option maxHeartbeats 4000000 in
set_option maxRecDepth 100000 in
theorem z_fX11_puts_b181 {p : Program} {l : Launch} {e : Env} {s : State} {m : MethodId} {args : Array Value} {below : List Frame} {meth : Method} {c : Code} {D : va_G} {cy : Nat → ClassId} {B : Nat} {kd : Nat → Nat} {n : Nat} {sa sv : Nat → Nat} (C : zC p l s m args meth c D cy B kd n sa sv RX11 cX11_puts 7) (ht : ∀ x ∈ c.exceptionTable.toList, False) (hr : meth.sig.returnType = some (FieldType.boolean)) {b0 : Bool × Mem}  (N : Nat) (v0 : Nat) (v1 : Int32) (v2 : Int32) (M : Mem) (h0 : kd v0 = 11)  : Z p l e (rmz 6 0) s m args below meth c (vx_MQ below (QcR D cy B kd n (cvB b0)) (XcR D cy B kd n (cvB b0)) args s 0 (6 * 0) (AA B kd n)) D cy B kd n 7 b0 0 181 [(0, .ref (B + v0)), (1, .int v1), (2, .int v2)] [] M (fX11_puts_b181 N v0 v1 v2 M) := by
  unfold fX11_puts_b181
  refine z_aload_n C 0 0 dX11_puts_181 rfl rfl ?_
  refine z_iload_n C 1 1 dX11_puts_182 rfl rfl ?_
  refine z_sipush (v := 250) C dX11_puts_183 rfl ?_
  refine z_iload_n C 2 2 dX11_puts_186 rfl rfl ?_
  refine z_iadd C dX11_puts_187 ?_
  refine z_iconst C dX11_puts_188 rfl ?_
  refine z_callV_V (As := [.int v1, .int ((250 : Int32) + v2), .int (1 : Int32)]) (rest := []) C rfl (ctX11_set (zG_of C) v0 v1 ((250 : Int32) + v2) (1 : Int32) h0 M) cw_RX11_252 rfl (okM_X11_set) rfl cl11 h0 (okR_of rfl) (Nat.le_of_ble_eq_true rfl) dX11_puts_189 (fun qj1 _ => ?_)
  refine z_iconst C dX11_puts_192 rfl ?_
  exact z_zret C (v := true) hr (Nat.le_of_ble_eq_true rfl) dX11_puts_193 rfl
set_option maxHeartbeats 4000000 in
set_option maxRecDepth 100000 in
theorem z_fX11_puts_b172 {p : Program} {l : Launch} {e : Env} {s : State} {m : MethodId} {args : Array Value} {below : List Frame} {meth : Method} {c : Code} {D : va_G} {cy : Nat → ClassId} {B : Nat} {kd : Nat → Nat} {n : Nat} {sa sv : Nat → Nat} (C : zC p l s m args meth c D cy B kd n sa sv RX11 cX11_puts 7) (ht : ∀ x ∈ c.exceptionTable.toList, False) (hr : meth.sig.returnType = some (FieldType.boolean)) {b0 : Bool × Mem}  (N : Nat) (k108 : Int32 → Mem → Option (Bool × Mem)) (v0 : Nat) (v1 : Int32) (v2 : Int32) (v3 : Int32) (v4 : Int32) (v5 : Int32) (s0 : Int32) (s1 : Int32) (s2 : Int32) (s3 : Nat) (M : Mem) (h0 : kd v0 = 11) (hs3 : kd s3 = 11) (hk108 : ∀ (v5 : Int32) (M : Mem), Z p l e (rmz 6 0) s m args below meth c (vx_MQ below (QcR D cy B kd n (cvB b0)) (XcR D cy B kd n (cvB b0)) args s 0 (6 * 0) (AA B kd n)) D cy B kd n 7 b0 0 108 [(0, .ref (B + v0)), (1, .int v1), (2, .int v2), (3, .int v3), (4, .int v4), (5, .int v5)] [] M (k108 v5 M)) : Z p l e (rmz 6 0) s m args below meth c (vx_MQ below (QcR D cy B kd n (cvB b0)) (XcR D cy B kd n (cvB b0)) args s 0 (6 * 0) (AA B kd n)) D cy B kd n 7 b0 0 172 [(0, .ref (B + v0)), (1, .int v1), (2, .int v2), (3, .int v3), (4, .int v4), (5, .int v5)] [.int s0, .int s1, .int s2, .ref (B + s3)] M (fX11_puts_b172 N k108 v0 v1 v2 v3 v4 v5 s0 s1 s2 s3 M) := by
  unfold fX11_puts_b172
  refine z_callV_V (As := [.int s2, .int s1, .int s0]) (rest := []) C rfl (ctX11_set (zG_of C) s3 s2 s1 s0 hs3 M) cw_RX11_252 rfl (okM_X11_set) rfl cl11 hs3 (okR_of rfl) (Nat.le_of_ble_eq_true rfl) dX11_puts_172 (fun qj1 _ => ?_)
  refine z_iinc C 5 5 (v := v5) (v1 := (v5 + (1 : Int32))) (ls1 := [(5, .int (v5 + (1 : Int32))), (0, .ref (B + v0)), (1, .int v1), (2, .int v2), (3, .int v3), (4, .int v4)]) dX11_puts_175 rfl rfl (by decide) rfl ?_
  refine z_goto C 108 dX11_puts_178 rfl ?_
  exact z_jump (ls1 := [(0, .ref (B + v0)), (1, .int v1), (2, .int v2), (3, .int v3), (4, .int v4), (5, .int (v5 + (1 : Int32)))]) (Nat.le_of_ble_eq_true rfl) [1, 2, 3, 4, 5, 0] rfl (hk108 (v5 + (1 : Int32)) qj1)
set_option maxHeartbeats 4000000 in
set_option maxRecDepth 100000 in
theorem z_fX11_puts_l108_s {p : Program} {l : Launch} {e : Env} {s : State} {m : MethodId} {args : Array Value} {below : List Frame} {meth : Method} {c : Code} {D : va_G} {cy : Nat → ClassId} {B : Nat} {kd : Nat → Nat} {n : Nat} {sa sv : Nat → Nat} (C : zC p l s m args meth c D cy B kd n sa sv RX11 cX11_puts 7) (ht : ∀ x ∈ c.exceptionTable.toList, False) (hr : meth.sig.returnType = some (FieldType.boolean)) {b0 : Bool × Mem} (N : Nat) (v0 : Nat) (v1 : Int32) (v2 : Int32) (v3 : Int32) (v4 : Int32) (k108 : Int32 → Mem → Option (Bool × Mem)) (v5 : Int32) (M : Mem) (h0 : kd v0 = 11)  (hk108 : ∀ (v5 : Int32) (M : Mem), Z p l e (rmz 6 0) s m args below meth c (vx_MQ below (QcR D cy B kd n (cvB b0)) (XcR D cy B kd n (cvB b0)) args s 0 (6 * 0) (AA B kd n)) D cy B kd n 7 b0 0 108 [(0, .ref (B + v0)), (1, .int v1), (2, .int v2), (3, .int v3), (4, .int v4), (5, .int v5)] [] M (k108 v5 M)) : Z p l e (rmz 6 0) s m args below meth c (vx_MQ below (QcR D cy B kd n (cvB b0)) (XcR D cy B kd n (cvB b0)) args s 0 (6 * 0) (AA B kd n)) D cy B kd n 7 b0 0 108 [(0, .ref (B + v0)), (1, .int v1), (2, .int v2), (3, .int v3), (4, .int v4), (5, .int v5)] [] M (fX11_puts_l108_s N v0 v1 v2 v3 v4 k108 v5 M) := by
  unfold fX11_puts_l108_s
  refine z_iload C 5 dX11_puts_108 rfl ?_
  refine z_aload_n C 0 0 dX11_puts_110 rfl rfl ?_
  refine z_iload_n C 1 1 dX11_puts_111 rfl rfl ?_
  refine z_iconst C dX11_puts_112 rfl ?_
  refine z_callV_pI (As := [.int v1, .int (2 : Int32)]) (rest := [.int v5]) C rfl (ctX11_get (zG_of C) v0 v1 (2 : Int32) h0 M) cw_RX11_237 rfl (okM_X11_get) rfl cl11 h0 (okR_of rfl) (Nat.le_of_ble_eq_true rfl) dX11_puts_113 (fun qj1 _ => ?_)
  refine z_icmp_ge C 181 dX11_puts_116 rfl (fun _ => ?_) (fun _ => ?_)
  · exact z_jump (ls1 := [(0, .ref (B + v0)), (1, .int v1), (2, .int v2)]) (Nat.le_of_ble_eq_true rfl) [0, 1, 2] rfl (z_fX11_puts_b181 C ht hr N v0 v1 v2 M h0)
  · refine z_aload_n C 0 0 dX11_puts_119 rfl rfl ?_
    refine z_iload_n C 1 1 dX11_puts_120 rfl rfl ?_
    refine z_iload C 4 dX11_puts_121 rfl ?_
    refine z_callV_pI (As := [.int v1, .int v4]) (rest := []) C rfl (ctX11_layerAt (zG_of C) v0 v1 v4 h0 M) cw_RX11_264 rfl (okM_X11_layerAt) rfl cl11 h0 (okR_of rfl) (Nat.le_of_ble_eq_true rfl) dX11_puts_123 (fun qj2 _ => ?_)
    refine z_aload_n C 0 0 dX11_puts_126 rfl rfl ?_
    refine z_iload C 5 dX11_puts_127 rfl ?_
    refine z_iload_n C 2 2 dX11_puts_129 rfl rfl ?_
    refine z_aload_n C 0 0 dX11_puts_130 rfl rfl ?_
    refine z_iload_n C 1 1 dX11_puts_131 rfl rfl ?_
    refine z_iconst C dX11_puts_132 rfl ?_
    refine z_callV_pI (As := [.int v1, .int (1 : Int32)]) (rest := [.int v2, .int v5, .ref (B + v0), .int qj2]) C rfl (ctX11_get (zG_of C) v0 v1 (1 : Int32) h0 M) cw_RX11_237 rfl (okM_X11_get) rfl cl11 h0 (okR_of rfl) (Nat.le_of_ble_eq_true rfl) dX11_puts_133 (fun qj3 _ => ?_)
    refine z_iload C 4 dX11_puts_136 rfl ?_
    refine z_ishl C dX11_puts_138 ?_
    refine z_callV_I (As := [.int v5, .int v2, .int (shlI qj3 v4)]) (rest := [.int qj2]) C rfl (ctX11_placeOf (zG_of C) N v0 v5 v2 (shlI qj3 v4) h0 M) cw_RX11_225 rfl (okM_X11_placeOf) rfl cl11 h0 (okR_of rfl) (Nat.le_of_ble_eq_true rfl) dX11_puts_139 (fun qj4 _ => ?_)
    refine z_iadd C dX11_puts_142 ?_
    refine z_istore C 6 (ls1 := [(6, .int (qj2 + qj4.1)), (0, .ref (B + v0)), (1, .int v1), (2, .int v2), (3, .int v3), (4, .int v4), (5, .int v5)]) dX11_puts_143 (by decide) rfl ?_
    refine z_aload_n C 0 1 dX11_puts_145 rfl rfl ?_
    refine z_iload_n C 1 2 dX11_puts_146 rfl rfl ?_
    refine z_iload C 0 dX11_puts_147 rfl ?_
    refine z_iload_n C 3 4 dX11_puts_149 rfl rfl ?_
    refine z_iconst C dX11_puts_150 rfl ?_
    refine z_icmp_ne C 171 dX11_puts_151 rfl (fun _ => ?_) (fun _ => ?_)
    · refine z_bipush (v := 15) C dX11_puts_154 rfl ?_
      refine z_aload_n C 0 1 dX11_puts_156 rfl rfl ?_
      refine z_iload_n C 1 2 dX11_puts_157 rfl rfl ?_
      refine z_iload C 0 dX11_puts_158 rfl ?_
      refine z_callV_pI (As := [.int v1, .int (qj2 + qj4.1)]) (rest := [.int (15 : Int32), .int (qj2 + qj4.1), .int v1, .ref (B + v0)]) C rfl (ctX11_get (zG_of C) v0 v1 (qj2 + qj4.1) h0 qj4.2) cw_RX11_237 rfl (okM_X11_get) rfl cl11 h0 (okR_of rfl) (Nat.le_of_ble_eq_true rfl) dX11_puts_160 (fun qj5 _ => ?_)
      refine z_iconst C dX11_puts_163 rfl ?_
      refine z_iadd C dX11_puts_164 ?_
      refine z_min C cw_RX11_240 ⟨Nat.le_of_ble_eq_true rfl, Nat.le_of_ble_eq_true rfl, Nat.le_of_ble_eq_true rfl, Nat.le_of_ble_eq_true rfl⟩ (Nat.le_of_ble_eq_true rfl) dX11_puts_165 ?_
      refine z_goto C 172 dX11_puts_168 rfl ?_
      exact z_jump (ls1 := [(0, .ref (B + v0)), (1, .int v1), (2, .int v2), (3, .int v3), (4, .int v4), (5, .int v5)]) (Nat.le_of_ble_eq_true rfl) [1, 2, 3, 4, 5, 6] rfl (z_fX11_puts_b172 C ht hr N k108 v0 v1 v2 v3 v4 v5 (minI (15 : Int32) (qj5 + (1 : Int32))) (qj2 + qj4.1) v1 v0 qj4.2 h0 h0 hk108)
    · refine z_iconst C dX11_puts_171 rfl ?_
      exact z_jump (ls1 := [(0, .ref (B + v0)), (1, .int v1), (2, .int v2), (3, .int v3), (4, .int v4), (5, .int v5)]) (Nat.le_of_ble_eq_true rfl) [1, 2, 3, 4, 5, 6] rfl (z_fX11_puts_b172 C ht hr N k108 v0 v1 v2 v3 v4 v5 (1 : Int32) (qj2 + qj4.1) v1 v0 qj4.2 h0 h0 hk108)
theorem z_fX11_puts_l108_i {p : Program} {l : Launch} {e : Env} {s : State} {m : MethodId} {args : Array Value} {below : List Frame} {meth : Method} {c : Code} {D : va_G} {cy : Nat → ClassId} {B : Nat} {kd : Nat → Nat} {n : Nat} {sa sv : Nat → Nat} (C : zC p l s m args meth c D cy B kd n sa sv RX11 cX11_puts 7) (ht : ∀ x ∈ c.exceptionTable.toList, False) (hr : meth.sig.returnType = some (FieldType.boolean)) {b0 : Bool × Mem} (N : Nat) (v0 : Nat) (v1 : Int32) (v2 : Int32) (v3 : Int32) (v4 : Int32) (h0 : kd v0 = 11)  (fu : Nat) : ∀ (v5 : Int32) (M : Mem), Z p l e (rmz 6 0) s m args below meth c (vx_MQ below (QcR D cy B kd n (cvB b0)) (XcR D cy B kd n (cvB b0)) args s 0 (6 * 0) (AA B kd n)) D cy B kd n 7 b0 0 108 [(0, .ref (B + v0)), (1, .int v1), (2, .int v2), (3, .int v3), (4, .int v4), (5, .int v5)] [] M (fX11_puts_l108 N v0 v1 v2 v3 v4 fu v5 M) := by
  induction fu with
  | zero => intro v5 M; exact z_none
  | succ fu ih => intro v5 M; exact z_fX11_puts_l108_s C ht hr N v0 v1 v2 v3 v4 (fX11_puts_l108 N v0 v1 v2 v3 v4 fu) v5 M h0 (fun v5 M => ih v5 M)
theorem z_fX11_puts_l108 {p : Program} {l : Launch} {e : Env} {s : State} {m : MethodId} {args : Array Value} {below : List Frame} {meth : Method} {c : Code} {D : va_G} {cy : Nat → ClassId} {B : Nat} {kd : Nat → Nat} {n : Nat} {sa sv : Nat → Nat} (C : zC p l s m args meth c D cy B kd n sa sv RX11 cX11_puts 7) (ht : ∀ x ∈ c.exceptionTable.toList, False) (hr : meth.sig.returnType = some (FieldType.boolean)) {b0 : Bool × Mem} (N : Nat) (v0 : Nat) (v1 : Int32) (v2 : Int32) (v3 : Int32) (v4 : Int32) (fu : Nat) (v5 : Int32) (M : Mem) (h0 : kd v0 = 11)  : Z p l e (rmz 6 0) s m args below meth c (vx_MQ below (QcR D cy B kd n (cvB b0)) (XcR D cy B kd n (cvB b0)) args s 0 (6 * 0) (AA B kd n)) D cy B kd n 7 b0 0 108 [(0, .ref (B + v0)), (1, .int v1), (2, .int v2), (3, .int v3), (4, .int v4), (5, .int v5)] [] M (fX11_puts_l108 N v0 v1 v2 v3 v4 fu v5 M) := z_fX11_puts_l108_i C ht hr N v0 v1 v2 v3 v4 h0 fu v5 M
set_option maxHeartbeats 4000000 in
set_option maxRecDepth 100000 in
theorem z_fX11_puts_b105 {p : Program} {l : Launch} {e : Env} {s : State} {m : MethodId} {args : Array Value} {below : List Frame} {meth : Method} {c : Code} {D : va_G} {cy : Nat → ClassId} {B : Nat} {kd : Nat → Nat} {n : Nat} {sa sv : Nat → Nat} (C : zC p l s m args meth c D cy B kd n sa sv RX11 cX11_puts 7) (ht : ∀ x ∈ c.exceptionTable.toList, False) (hr : meth.sig.returnType = some (FieldType.boolean)) {b0 : Bool × Mem}  (N : Nat) (v0 : Nat) (v1 : Int32) (v2 : Int32) (v3 : Int32) (v4 : Int32) (M : Mem) (h0 : kd v0 = 11)  : Z p l e (rmz 6 0) s m args below meth c (vx_MQ below (QcR D cy B kd n (cvB b0)) (XcR D cy B kd n (cvB b0)) args s 0 (6 * 0) (AA B kd n)) D cy B kd n 7 b0 0 105 [(0, .ref (B + v0)), (1, .int v1), (2, .int v2), (3, .int v3), (4, .int v4)] [] M (fX11_puts_b105 N v0 v1 v2 v3 v4 M) := by
  unfold fX11_puts_b105
  refine z_iconst C dX11_puts_105 rfl ?_
  refine z_istore C 5 (ls1 := [(5, .int (0 : Int32)), (0, .ref (B + v0)), (1, .int v1), (2, .int v2), (3, .int v3), (4, .int v4)]) dX11_puts_106 (by decide) rfl ?_
  exact z_jump (ls1 := [(0, .ref (B + v0)), (1, .int v1), (2, .int v2), (3, .int v3), (4, .int v4), (5, .int (0 : Int32))]) (Nat.le_of_ble_eq_true rfl) [1, 2, 3, 4, 5, 0] rfl (z_fX11_puts_l108 C ht hr N v0 v1 v2 v3 v4 N (0 : Int32) M h0)
set_option maxHeartbeats 4000000 in
set_option maxRecDepth 100000 in
theorem z_fX11_puts_b78 {p : Program} {l : Launch} {e : Env} {s : State} {m : MethodId} {args : Array Value} {below : List Frame} {meth : Method} {c : Code} {D : va_G} {cy : Nat → ClassId} {B : Nat} {kd : Nat → Nat} {n : Nat} {sa sv : Nat → Nat} (C : zC p l s m args meth c D cy B kd n sa sv RX11 cX11_puts 7) (ht : ∀ x ∈ c.exceptionTable.toList, False) (hr : meth.sig.returnType = some (FieldType.boolean)) {b0 : Bool × Mem}  (N : Nat) (v0 : Nat) (v1 : Int32) (v2 : Int32) (v3 : Int32) (v4 : Int32) (M : Mem) (h0 : kd v0 = 11)  : Z p l e (rmz 6 0) s m args below meth c (vx_MQ below (QcR D cy B kd n (cvB b0)) (XcR D cy B kd n (cvB b0)) args s 0 (6 * 0) (AA B kd n)) D cy B kd n 7 b0 0 78 [(0, .ref (B + v0)), (1, .int v1), (2, .int v2), (3, .int v3), (4, .int v4)] [] M (fX11_puts_b78 N v0 v1 v2 v3 v4 M) := by
  unfold fX11_puts_b78
  refine z_iload_n C 3 3 dX11_puts_78 rfl rfl ?_
  refine z_iconst C dX11_puts_79 rfl ?_
  refine z_icmp_ne C 105 dX11_puts_80 rfl (fun _ => ?_) (fun _ => ?_)
  · refine z_aload_n C 0 0 dX11_puts_83 rfl rfl ?_
    refine z_iload_n C 1 1 dX11_puts_84 rfl rfl ?_
    refine z_bipush (v := 6) C dX11_puts_85 rfl ?_
    refine z_iload C 4 dX11_puts_87 rfl ?_
    refine z_iadd C dX11_puts_89 ?_
    refine z_aload_n C 0 0 dX11_puts_90 rfl rfl ?_
    refine z_iload_n C 1 1 dX11_puts_91 rfl rfl ?_
    refine z_bipush (v := 6) C dX11_puts_92 rfl ?_
    refine z_iload C 4 dX11_puts_94 rfl ?_
    refine z_iadd C dX11_puts_96 ?_
    refine z_callV_pI (As := [.int v1, .int ((6 : Int32) + v4)]) (rest := [.int ((6 : Int32) + v4), .int v1, .ref (B + v0)]) C rfl (ctX11_get (zG_of C) v0 v1 ((6 : Int32) + v4) h0 M) cw_RX11_237 rfl (okM_X11_get) rfl cl11 h0 (okR_of rfl) (Nat.le_of_ble_eq_true rfl) dX11_puts_97 (fun qj1 _ => ?_)
    refine z_iconst C dX11_puts_100 rfl ?_
    refine z_iadd C dX11_puts_101 ?_
    refine z_callV_V (As := [.int v1, .int ((6 : Int32) + v4), .int (qj1 + (1 : Int32))]) (rest := []) C rfl (ctX11_set (zG_of C) v0 v1 ((6 : Int32) + v4) (qj1 + (1 : Int32)) h0 M) cw_RX11_252 rfl (okM_X11_set) rfl cl11 h0 (okR_of rfl) (Nat.le_of_ble_eq_true rfl) dX11_puts_102 (fun qj2 _ => ?_)
    exact z_jump (ls1 := [(0, .ref (B + v0)), (1, .int v1), (2, .int v2), (3, .int v3), (4, .int v4)]) (Nat.le_of_ble_eq_true rfl) [0, 1, 2, 3, 4] rfl (z_fX11_puts_b105 C ht hr N v0 v1 v2 v3 v4 qj2 h0)
  · exact z_jump (ls1 := [(0, .ref (B + v0)), (1, .int v1), (2, .int v2), (3, .int v3), (4, .int v4)]) (Nat.le_of_ble_eq_true rfl) [0, 1, 2, 3, 4] rfl (z_fX11_puts_b105 C ht hr N v0 v1 v2 v3 v4 M h0)
set_option maxHeartbeats 4000000 in
set_option maxRecDepth 100000 in
theorem ctX11_puts {l : Launch} {D : va_G} {cy : Nat → ClassId} {B : Nat} {kd : Nat → Nat} {n : Nat} {sa sv : Nat → Nat} (G : zG l kd n) (N : Nat) (v0 : Nat) (v1 : Int32) (v2 : Int32) (h0 : kd v0 = 11) (M : Mem) : CT l D cy B kd n sa sv 6 0 yX11_puts cX11_puts 7 (some (FieldType.boolean)) cvB [.ref (B + v0), .int v1, .int v2] M (fX11_puts N v0 v1 v2 M) := by
  refine ct_of (by decide) G.1 G.2 (Nat.le_of_ble_eq_true rfl) (ls := [(0, .ref (B + v0)), (1, .int v1), (2, .int v2)]) rfl ?_
  intro p e s m args below meth c b0 C ht hr
  unfold fX11_puts
  refine z_aload_n C 0 0 dX11_puts_0 rfl rfl ?_
  refine z_iload_n C 1 1 dX11_puts_1 rfl rfl ?_
  refine z_iconst C dX11_puts_2 rfl ?_
  refine z_callV_pI (As := [.int v1, .int (0 : Int32)]) (rest := []) C rfl (ctX11_get (zG_of C) v0 v1 (0 : Int32) h0 M) cw_RX11_237 rfl (okM_X11_get) rfl cl11 h0 (okR_of rfl) (Nat.le_of_ble_eq_true rfl) dX11_puts_3 (fun qj1 _ => ?_)
  refine z_istore_n C 3 (ls1 := [(3, .int qj1), (0, .ref (B + v0)), (1, .int v1), (2, .int v2)]) dX11_puts_6 rfl (by decide) rfl ?_
  refine z_iload_n C 3 0 dX11_puts_7 rfl rfl ?_
  refine z_iconst C dX11_puts_8 rfl ?_
  refine z_icmp_ne C 23 dX11_puts_9 rfl (fun _ => ?_) (fun _ => ?_)
  · refine z_aload_n C 0 1 dX11_puts_12 rfl rfl ?_
    refine z_iload_n C 1 2 dX11_puts_13 rfl rfl ?_
    refine z_iload_n C 2 3 dX11_puts_14 rfl rfl ?_
    refine z_callV_B (As := [.int v1, .int v2]) (rest := []) C rfl (ctX11_nestPuts (zG_of C) N v0 v1 v2 h0 M) cw_RX11_303 rfl (okM_X11_nestPuts) rfl cl11 h0 (okR_of rfl) (Nat.le_of_ble_eq_true rfl) dX11_puts_15 (fun qj2 _ => ?_)
    refine z_if_neB C 181 dX11_puts_18 rfl (fun _ => ?_) (fun _ => ?_)
    · exact z_jump (ls1 := [(0, .ref (B + v0)), (1, .int v1), (2, .int v2)]) (Nat.le_of_ble_eq_true rfl) [1, 2, 3] rfl (z_fX11_puts_b181 C ht hr N v0 v1 v2 qj2.2 h0)
    · refine z_iconst C dX11_puts_21 rfl ?_
      exact z_zret C (v := false) hr (Nat.le_of_ble_eq_true rfl) dX11_puts_22 rfl
  · refine z_aload_n C 0 1 dX11_puts_23 rfl rfl ?_
    refine z_iload_n C 1 2 dX11_puts_24 rfl rfl ?_
    refine z_iconst C dX11_puts_25 rfl ?_
    refine z_callV_pI (As := [.int v1, .int (4 : Int32)]) (rest := []) C rfl (ctX11_get (zG_of C) v0 v1 (4 : Int32) h0 M) cw_RX11_237 rfl (okM_X11_get) rfl cl11 h0 (okR_of rfl) (Nat.le_of_ble_eq_true rfl) dX11_puts_26 (fun qj3 _ => ?_)
    refine z_iconst C dX11_puts_29 rfl ?_
    refine z_isub C dX11_puts_30 ?_
    refine z_istore C 4 (ls1 := [(4, .int (qj3 - (1 : Int32))), (3, .int qj1), (0, .ref (B + v0)), (1, .int v1), (2, .int v2)]) dX11_puts_31 (by decide) rfl ?_
    refine z_iload_n C 3 1 dX11_puts_33 rfl rfl ?_
    refine z_iconst C dX11_puts_34 rfl ?_
    refine z_icmp_ne C 78 dX11_puts_35 rfl (fun _ => ?_) (fun _ => ?_)
    · refine z_aload_n C 0 2 dX11_puts_38 rfl rfl ?_
      refine z_iload_n C 1 3 dX11_puts_39 rfl rfl ?_
      refine z_bipush (v := 6) C dX11_puts_40 rfl ?_
      refine z_iload C 0 dX11_puts_42 rfl ?_
      refine z_iadd C dX11_puts_44 ?_
      refine z_callV_pI (As := [.int v1, .int ((6 : Int32) + (qj3 - (1 : Int32)))]) (rest := []) C rfl (ctX11_get (zG_of C) v0 v1 ((6 : Int32) + (qj3 - (1 : Int32))) h0 M) cw_RX11_237 rfl (okM_X11_get) rfl cl11 h0 (okR_of rfl) (Nat.le_of_ble_eq_true rfl) dX11_puts_45 (fun qj4 _ => ?_)
      refine z_aload_n C 0 2 dX11_puts_48 rfl rfl ?_
      refine z_iload_n C 1 3 dX11_puts_49 rfl rfl ?_
      refine z_iconst C dX11_puts_50 rfl ?_
      refine z_callV_pI (As := [.int v1, .int (3 : Int32)]) (rest := [.int qj4]) C rfl (ctX11_get (zG_of C) v0 v1 (3 : Int32) h0 M) cw_RX11_237 rfl (okM_X11_get) rfl cl11 h0 (okR_of rfl) (Nat.le_of_ble_eq_true rfl) dX11_puts_51 (fun qj5 _ => ?_)
      refine z_icmp_ne C 78 dX11_puts_54 rfl (fun _ => ?_) (fun _ => ?_)
      · refine z_iload C 0 dX11_puts_57 rfl ?_
        refine z_iconst C dX11_puts_59 rfl ?_
        refine z_icmp_ne C 65 dX11_puts_60 rfl (fun _ => ?_) (fun _ => ?_)
        · refine z_iconst C dX11_puts_63 rfl ?_
          exact z_zret C (v := false) hr (Nat.le_of_ble_eq_true rfl) dX11_puts_64 rfl
        · refine z_iinc C 4 0 (v := (qj3 - (1 : Int32))) (v1 := ((qj3 - (1 : Int32)) + (1 : Int32))) (ls1 := [(4, .int ((qj3 - (1 : Int32)) + (1 : Int32))), (3, .int qj1), (0, .ref (B + v0)), (1, .int v1), (2, .int v2)]) dX11_puts_65 rfl rfl (by decide) rfl ?_
          refine z_aload_n C 0 2 dX11_puts_68 rfl rfl ?_
          refine z_iload_n C 1 3 dX11_puts_69 rfl rfl ?_
          refine z_iconst C dX11_puts_70 rfl ?_
          refine z_iload C 0 dX11_puts_71 rfl ?_
          refine z_iconst C dX11_puts_73 rfl ?_
          refine z_iadd C dX11_puts_74 ?_
          refine z_callV_V (As := [.int v1, .int (4 : Int32), .int (((qj3 - (1 : Int32)) + (1 : Int32)) + (1 : Int32))]) (rest := []) C rfl (ctX11_set (zG_of C) v0 v1 (4 : Int32) (((qj3 - (1 : Int32)) + (1 : Int32)) + (1 : Int32)) h0 M) cw_RX11_252 rfl (okM_X11_set) rfl cl11 h0 (okR_of rfl) (Nat.le_of_ble_eq_true rfl) dX11_puts_75 (fun qj6 _ => ?_)
          exact z_jump (ls1 := [(0, .ref (B + v0)), (1, .int v1), (2, .int v2), (3, .int qj1), (4, .int ((qj3 - (1 : Int32)) + (1 : Int32)))]) (Nat.le_of_ble_eq_true rfl) [2, 3, 4, 1, 0] rfl (z_fX11_puts_b78 C ht hr N v0 v1 v2 qj1 ((qj3 - (1 : Int32)) + (1 : Int32)) qj6 h0)
      · exact z_jump (ls1 := [(0, .ref (B + v0)), (1, .int v1), (2, .int v2), (3, .int qj1), (4, .int (qj3 - (1 : Int32)))]) (Nat.le_of_ble_eq_true rfl) [2, 3, 4, 1, 0] rfl (z_fX11_puts_b78 C ht hr N v0 v1 v2 qj1 (qj3 - (1 : Int32)) M h0)
    · exact z_jump (ls1 := [(0, .ref (B + v0)), (1, .int v1), (2, .int v2), (3, .int qj1), (4, .int (qj3 - (1 : Int32)))]) (Nat.le_of_ble_eq_true rfl) [2, 3, 4, 1, 0] rfl (z_fX11_puts_b78 C ht hr N v0 v1 v2 qj1 (qj3 - (1 : Int32)) M h0)
set_option maxHeartbeats 4000000 in
set_option maxRecDepth 100000 in
theorem ctX11_putsOr {l : Launch} {D : va_G} {cy : Nat → ClassId} {B : Nat} {kd : Nat → Nat} {n : Nat} {sa sv : Nat → Nat} (G : zG l kd n) (N : Nat) (v0 : Nat) (v1 : Int32) (v2 : Int32) (h0 : kd v0 = 11) (M : Mem) : CT l D cy B kd n sa sv 7 0 yX11_putsOr cX11_putsOr 3 (some (FieldType.int)) cvI [.ref (B + v0), .int v1, .int v2] M (fX11_putsOr N v0 v1 v2 M) := by
  refine ct_of (by decide) G.1 G.2 (Nat.le_of_ble_eq_true rfl) (ls := [(0, .ref (B + v0)), (1, .int v1), (2, .int v2)]) rfl ?_
  intro p e s m args below meth c b0 C ht hr
  unfold fX11_putsOr
  refine z_aload_n C 0 0 dX11_putsOr_0 rfl rfl ?_
  refine z_iload_n C 1 1 dX11_putsOr_1 rfl rfl ?_
  refine z_iload_n C 2 2 dX11_putsOr_2 rfl rfl ?_
  refine z_callV_pB (As := [.int v1, .int v2]) (rest := []) C rfl (ctX11_isIn (zG_of C) v0 v1 v2 h0 M) cw_RX11_300 rfl (okM_X11_isIn) rfl cl11 h0 (okR_of rfl) (Nat.le_of_ble_eq_true rfl) dX11_putsOr_3 (fun qj1 _ => ?_)
  refine z_if_eqB C 13 dX11_putsOr_6 rfl (fun _ => ?_) (fun _ => ?_)
  · refine z_iconst C dX11_putsOr_9 rfl ?_
    refine z_goto C 27 dX11_putsOr_10 rfl ?_
    exact z_iret C hr (Nat.le_of_ble_eq_true rfl) dX11_putsOr_27 rfl
  · refine z_aload_n C 0 0 dX11_putsOr_13 rfl rfl ?_
    refine z_iload_n C 1 1 dX11_putsOr_14 rfl rfl ?_
    refine z_iload_n C 2 2 dX11_putsOr_15 rfl rfl ?_
    refine z_callV_B (As := [.int v1, .int v2]) (rest := []) C rfl (ctX11_puts (zG_of C) N v0 v1 v2 h0 M) cw_RX11_306 rfl (okM_X11_puts) rfl cl11 h0 (okR_of rfl) (Nat.le_of_ble_eq_true rfl) dX11_putsOr_16 (fun qj2 _ => ?_)
    refine z_if_eqB C 26 dX11_putsOr_19 rfl (fun _ => ?_) (fun _ => ?_)
    · refine z_iconst C dX11_putsOr_22 rfl ?_
      refine z_goto C 27 dX11_putsOr_23 rfl ?_
      exact z_iret C hr (Nat.le_of_ble_eq_true rfl) dX11_putsOr_27 rfl
    · refine z_iconst C dX11_putsOr_26 rfl ?_
      exact z_iret C hr (Nat.le_of_ble_eq_true rfl) dX11_putsOr_27 rfl
set_option maxHeartbeats 4000000 in
set_option maxRecDepth 100000 in
theorem z_fX11_put_b41 {p : Program} {l : Launch} {e : Env} {s : State} {m : MethodId} {args : Array Value} {below : List Frame} {meth : Method} {c : Code} {D : va_G} {cy : Nat → ClassId} {B : Nat} {kd : Nat → Nat} {n : Nat} {sa sv : Nat → Nat} (C : zC p l s m args meth c D cy B kd n sa sv RX11 cX11_put 3) (ht : ∀ x ∈ c.exceptionTable.toList, False) (hr : meth.sig.returnType = some (FieldType.int)) {b0 : Int32 × Mem}  (N : Nat) (v0 : Nat) (v1 : Int32) (v2 : Int32) (s0 : Int32) (s1 : Nat) (M : Mem) (h0 : kd v0 = 11) (hs1 : kd s1 = 11)  : Z p l e (rmz 8 0) s m args below meth c (vx_MQ below (QcR D cy B kd n (cvI b0)) (XcR D cy B kd n (cvI b0)) args s 0 (6 * 0) (AA B kd n)) D cy B kd n 3 b0 0 41 [(0, .ref (B + v0)), (1, .int v1), (2, .int v2)] [.int s0, .ref (B + s1)] M (fX11_put_b41 N v0 v1 v2 s0 s1 M) := by
  unfold fX11_put_b41
  refine z_putI (k := 5) C cl11 hs1 rfl gw_7_15 rfl rfl rfl dX11_put_41 ?_
  refine z_aload_n C 0 0 dX11_put_44 rfl rfl ?_
  refine z_getI (k := 5) C cl11 h0 rfl gw_7_15 rfl dX11_put_45 ?_
  refine z_if_le C 55 dX11_put_48 rfl (fun _ => ?_) (fun _ => ?_)
  · refine z_aload_n C 0 0 dX11_put_55 rfl rfl ?_
    refine z_iload_n C 1 1 dX11_put_56 rfl rfl ?_
    refine z_iload_n C 2 2 dX11_put_57 rfl rfl ?_
    refine z_callV_I (As := [.int v1, .int v2]) (rest := []) C rfl (ctX11_putsOr (zG_of C) N v0 v1 v2 h0 (wI M s1 5 s0)) cw_RX11_309 rfl (okM_X11_putsOr) rfl cl11 h0 (okR_of rfl) (Nat.le_of_ble_eq_true rfl) dX11_put_58 (fun qj1 _ => ?_)
    exact z_iret C hr (Nat.le_of_ble_eq_true rfl) dX11_put_61 rfl
  · refine z_iconst C dX11_put_51 rfl ?_
    refine z_goto C 61 dX11_put_52 rfl ?_
    exact z_iret C hr (Nat.le_of_ble_eq_true rfl) dX11_put_61 rfl
set_option maxHeartbeats 4000000 in
set_option maxRecDepth 100000 in
theorem ctX11_put {l : Launch} {D : va_G} {cy : Nat → ClassId} {B : Nat} {kd : Nat → Nat} {n : Nat} {sa sv : Nat → Nat} (G : zG l kd n) (N : Nat) (v0 : Nat) (v1 : Int32) (v2 : Int32) (h0 : kd v0 = 11) (M : Mem) : CT l D cy B kd n sa sv 8 0 yX11_put cX11_put 3 (some (FieldType.int)) cvI [.ref (B + v0), .int v1, .int v2] M (fX11_put N v0 v1 v2 M) := by
  refine ct_of (by decide) G.1 G.2 (Nat.le_of_ble_eq_true rfl) (ls := [(0, .ref (B + v0)), (1, .int v1), (2, .int v2)]) rfl ?_
  intro p e s m args below meth c b0 C ht hr
  unfold fX11_put
  refine z_aload_n C 0 0 dX11_put_0 rfl rfl ?_
  refine z_aload_n C 0 0 dX11_put_1 rfl rfl ?_
  refine z_iload_n C 1 1 dX11_put_2 rfl rfl ?_
  refine z_callV_pB (As := [.int v1]) (rest := [.ref (B + v0)]) C rfl (ctX11_isRow (zG_of C) v0 v1 h0 M) cw_RX11_256 rfl (okM_X11_isRow) rfl cl11 h0 (okR_of rfl) (Nat.le_of_ble_eq_true rfl) dX11_put_3 (fun qj1 _ => ?_)
  refine z_if_neB C 13 dX11_put_6 rfl (fun _ => ?_) (fun _ => ?_)
  · refine z_aload_n C 0 0 dX11_put_13 rfl rfl ?_
    refine z_iload_n C 1 1 dX11_put_14 rfl rfl ?_
    refine z_iconst C dX11_put_15 rfl ?_
    refine z_callV_pI (As := [.int v1, .int (0 : Int32)]) (rest := [.ref (B + v0)]) C rfl (ctX11_get (zG_of C) v0 v1 (0 : Int32) h0 M) cw_RX11_237 rfl (okM_X11_get) rfl cl11 h0 (okR_of rfl) (Nat.le_of_ble_eq_true rfl) dX11_put_16 (fun qj2 _ => ?_)
    refine z_iconst C dX11_put_19 rfl ?_
    refine z_icmp_ne C 27 dX11_put_20 rfl (fun _ => ?_) (fun _ => ?_)
    · refine z_iconst C dX11_put_23 rfl ?_
      refine z_goto C 41 dX11_put_24 rfl ?_
      exact z_jump (ls1 := [(0, .ref (B + v0)), (1, .int v1), (2, .int v2)]) (Nat.le_of_ble_eq_true rfl) [0, 1, 2] rfl (z_fX11_put_b41 C ht hr N v0 v1 v2 (2 : Int32) v0 M h0 h0)
    · refine z_aload_n C 0 0 dX11_put_27 rfl rfl ?_
      refine z_iload_n C 2 2 dX11_put_28 rfl rfl ?_
      refine z_i2l C dX11_put_29 ?_
      refine z_callV_pB (As := [.long v2.toInt64]) (rest := [.ref (B + v0)]) C rfl (ctX11_isName (zG_of C) v0 v2.toInt64 h0 M) cw_RX11_228 rfl (okM_X11_isName) rfl cl11 h0 (okR_of rfl) (Nat.le_of_ble_eq_true rfl) dX11_put_30 (fun qj3 _ => ?_)
      refine z_if_eqB C 40 dX11_put_33 rfl (fun _ => ?_) (fun _ => ?_)
      · refine z_iconst C dX11_put_36 rfl ?_
        refine z_goto C 41 dX11_put_37 rfl ?_
        exact z_jump (ls1 := [(0, .ref (B + v0)), (1, .int v1), (2, .int v2)]) (Nat.le_of_ble_eq_true rfl) [0, 1, 2] rfl (z_fX11_put_b41 C ht hr N v0 v1 v2 (0 : Int32) v0 M h0 h0)
      · refine z_iconst C dX11_put_40 rfl ?_
        exact z_jump (ls1 := [(0, .ref (B + v0)), (1, .int v1), (2, .int v2)]) (Nat.le_of_ble_eq_true rfl) [0, 1, 2] rfl (z_fX11_put_b41 C ht hr N v0 v1 v2 (3 : Int32) v0 M h0 h0)
  · refine z_iconst C dX11_put_9 rfl ?_
    refine z_goto C 41 dX11_put_10 rfl ?_
    exact z_jump (ls1 := [(0, .ref (B + v0)), (1, .int v1), (2, .int v2)]) (Nat.le_of_ble_eq_true rfl) [0, 1, 2] rfl (z_fX11_put_b41 C ht hr N v0 v1 v2 (1 : Int32) v0 M h0 h0)
set_option maxHeartbeats 4000000 in
set_option maxRecDepth 100000 in
theorem z_fX11_take_b70 {p : Program} {l : Launch} {e : Env} {s : State} {m : MethodId} {args : Array Value} {below : List Frame} {meth : Method} {c : Code} {D : va_G} {cy : Nat → ClassId} {B : Nat} {kd : Nat → Nat} {n : Nat} {sa sv : Nat → Nat} (C : zC p l s m args meth c D cy B kd n sa sv RX11 cX11_take 5) (ht : ∀ x ∈ c.exceptionTable.toList, False) (hr : meth.sig.returnType = some (FieldType.boolean)) {b0 : Bool × Mem}  (N : Nat) (M : Mem)  : Z p l e (rmz 4 0) s m args below meth c (vx_MQ below (QcR D cy B kd n (cvB b0)) (XcR D cy B kd n (cvB b0)) args s 0 (6 * 0) (AA B kd n)) D cy B kd n 5 b0 0 70 [] [] M (fX11_take_b70 N M) := by
  unfold fX11_take_b70
  refine z_iconst C dX11_take_70 rfl ?_
  exact z_zret C (v := false) hr (Nat.le_of_ble_eq_true rfl) dX11_take_71 rfl
set_option maxHeartbeats 4000000 in
set_option maxRecDepth 100000 in
theorem z_fX11_take_b151 {p : Program} {l : Launch} {e : Env} {s : State} {m : MethodId} {args : Array Value} {below : List Frame} {meth : Method} {c : Code} {D : va_G} {cy : Nat → ClassId} {B : Nat} {kd : Nat → Nat} {n : Nat} {sa sv : Nat → Nat} (C : zC p l s m args meth c D cy B kd n sa sv RX11 cX11_take 5) (ht : ∀ x ∈ c.exceptionTable.toList, False) (hr : meth.sig.returnType = some (FieldType.boolean)) {b0 : Bool × Mem}  (N : Nat) (k95 : Int32 → Mem → Option (Bool × Mem)) (v0 : Nat) (v1 : Int32) (v2 : Int32) (v3 : Int32) (M : Mem) (h0 : kd v0 = 11) (hk95 : ∀ (v3 : Int32) (M : Mem), Z p l e (rmz 4 0) s m args below meth c (vx_MQ below (QcR D cy B kd n (cvB b0)) (XcR D cy B kd n (cvB b0)) args s 0 (6 * 0) (AA B kd n)) D cy B kd n 5 b0 0 95 [(0, .ref (B + v0)), (1, .int v1), (2, .int v2), (3, .int v3)] [] M (k95 v3 M)) : Z p l e (rmz 4 0) s m args below meth c (vx_MQ below (QcR D cy B kd n (cvB b0)) (XcR D cy B kd n (cvB b0)) args s 0 (6 * 0) (AA B kd n)) D cy B kd n 5 b0 0 151 [(0, .ref (B + v0)), (1, .int v1), (2, .int v2), (3, .int v3)] [] M (fX11_take_b151 N k95 v0 v1 v2 v3 M) := by
  unfold fX11_take_b151
  refine z_iinc C 3 3 (v := v3) (v1 := (v3 + (1 : Int32))) (ls1 := [(3, .int (v3 + (1 : Int32))), (0, .ref (B + v0)), (1, .int v1), (2, .int v2)]) dX11_take_151 rfl rfl (by decide) rfl ?_
  refine z_goto C 95 dX11_take_154 rfl ?_
  exact z_jump (ls1 := [(0, .ref (B + v0)), (1, .int v1), (2, .int v2), (3, .int (v3 + (1 : Int32)))]) (Nat.le_of_ble_eq_true rfl) [1, 2, 3, 0] rfl (hk95 (v3 + (1 : Int32)) M)
set_option maxHeartbeats 4000000 in
set_option maxRecDepth 100000 in
theorem z_fX11_take_l95_s {p : Program} {l : Launch} {e : Env} {s : State} {m : MethodId} {args : Array Value} {below : List Frame} {meth : Method} {c : Code} {D : va_G} {cy : Nat → ClassId} {B : Nat} {kd : Nat → Nat} {n : Nat} {sa sv : Nat → Nat} (C : zC p l s m args meth c D cy B kd n sa sv RX11 cX11_take 5) (ht : ∀ x ∈ c.exceptionTable.toList, False) (hr : meth.sig.returnType = some (FieldType.boolean)) {b0 : Bool × Mem} (N : Nat) (v0 : Nat) (v1 : Int32) (v2 : Int32) (k95 : Int32 → Mem → Option (Bool × Mem)) (v3 : Int32) (M : Mem) (h0 : kd v0 = 11)  (hk95 : ∀ (v3 : Int32) (M : Mem), Z p l e (rmz 4 0) s m args below meth c (vx_MQ below (QcR D cy B kd n (cvB b0)) (XcR D cy B kd n (cvB b0)) args s 0 (6 * 0) (AA B kd n)) D cy B kd n 5 b0 0 95 [(0, .ref (B + v0)), (1, .int v1), (2, .int v2), (3, .int v3)] [] M (k95 v3 M)) : Z p l e (rmz 4 0) s m args below meth c (vx_MQ below (QcR D cy B kd n (cvB b0)) (XcR D cy B kd n (cvB b0)) args s 0 (6 * 0) (AA B kd n)) D cy B kd n 5 b0 0 95 [(0, .ref (B + v0)), (1, .int v1), (2, .int v2), (3, .int v3)] [] M (fX11_take_l95_s N v0 v1 v2 k95 v3 M) := by
  unfold fX11_take_l95_s
  refine z_iload_n C 3 3 dX11_take_95 rfl rfl ?_
  refine z_aload_n C 0 0 dX11_take_96 rfl rfl ?_
  refine z_iload_n C 1 1 dX11_take_97 rfl rfl ?_
  refine z_iconst C dX11_take_98 rfl ?_
  refine z_callV_pI (As := [.int v1, .int (2 : Int32)]) (rest := [.int v3]) C rfl (ctX11_get (zG_of C) v0 v1 (2 : Int32) h0 M) cw_RX11_237 rfl (okM_X11_get) rfl cl11 h0 (okR_of rfl) (Nat.le_of_ble_eq_true rfl) dX11_take_99 (fun qj1 _ => ?_)
  refine z_icmp_ge C 157 dX11_take_102 rfl (fun _ => ?_) (fun _ => ?_)
  · refine z_iconst C dX11_take_157 rfl ?_
    exact z_zret C (v := true) hr (Nat.le_of_ble_eq_true rfl) dX11_take_158 rfl
  · refine z_bipush (v := 10) C dX11_take_105 rfl ?_
    refine z_aload_n C 0 0 dX11_take_107 rfl rfl ?_
    refine z_iload_n C 1 1 dX11_take_108 rfl rfl ?_
    refine z_iload_n C 3 3 dX11_take_109 rfl rfl ?_
    refine z_iload_n C 2 2 dX11_take_110 rfl rfl ?_
    refine z_callV_I (As := [.int v1, .int v3, .int v2]) (rest := [.int (10 : Int32)]) C rfl (ctX11_spot (zG_of C) N v0 v1 v3 v2 h0 M) cw_RX11_273 rfl (okM_X11_spot) rfl cl11 h0 (okR_of rfl) (Nat.le_of_ble_eq_true rfl) dX11_take_111 (fun qj2 _ => ?_)
    refine z_iadd C dX11_take_114 ?_
    refine z_istore C 4 (ls1 := [(4, .int ((10 : Int32) + qj2.1)), (0, .ref (B + v0)), (1, .int v1), (2, .int v2), (3, .int v3)]) dX11_take_115 (by decide) rfl ?_
    refine z_aload_n C 0 1 dX11_take_117 rfl rfl ?_
    refine z_iload_n C 1 2 dX11_take_118 rfl rfl ?_
    refine z_iload C 0 dX11_take_119 rfl ?_
    refine z_callV_pI (As := [.int v1, .int ((10 : Int32) + qj2.1)]) (rest := []) C rfl (ctX11_get (zG_of C) v0 v1 ((10 : Int32) + qj2.1) h0 qj2.2) cw_RX11_237 rfl (okM_X11_get) rfl cl11 h0 (okR_of rfl) (Nat.le_of_ble_eq_true rfl) dX11_take_121 (fun qj3 _ => ?_)
    refine z_i2l C dX11_take_124 ?_
    refine z_lconst (v := 1) C dX11_take_125 rfl ?_
    refine z_ldc2 C dX11_take_126 gw_8_138 ?_
    refine z_callS_pB (As := [.long qj3.toInt64, .long (1 : Int64), .long (14 : Int64)]) (rest := []) C rfl (ctX11_within (zG_of C) qj3.toInt64 (1 : Int64) (14 : Int64) qj2.2) cw_RX11_157 (okM_X11_within) rfl (okR_of rfl) (Nat.le_of_ble_eq_true rfl) dX11_take_129 (fun qj4 _ => ?_)
    refine z_if_eqB C 151 dX11_take_132 rfl (fun _ => ?_) (fun _ => ?_)
    · refine z_aload_n C 0 1 dX11_take_135 rfl rfl ?_
      refine z_iload_n C 1 2 dX11_take_136 rfl rfl ?_
      refine z_iload C 0 dX11_take_137 rfl ?_
      refine z_aload_n C 0 1 dX11_take_139 rfl rfl ?_
      refine z_iload_n C 1 2 dX11_take_140 rfl rfl ?_
      refine z_iload C 0 dX11_take_141 rfl ?_
      refine z_callV_pI (As := [.int v1, .int ((10 : Int32) + qj2.1)]) (rest := [.int ((10 : Int32) + qj2.1), .int v1, .ref (B + v0)]) C rfl (ctX11_get (zG_of C) v0 v1 ((10 : Int32) + qj2.1) h0 qj2.2) cw_RX11_237 rfl (okM_X11_get) rfl cl11 h0 (okR_of rfl) (Nat.le_of_ble_eq_true rfl) dX11_take_143 (fun qj5 _ => ?_)
      refine z_iconst C dX11_take_146 rfl ?_
      refine z_isub C dX11_take_147 ?_
      refine z_callV_V (As := [.int v1, .int ((10 : Int32) + qj2.1), .int (qj5 - (1 : Int32))]) (rest := []) C rfl (ctX11_set (zG_of C) v0 v1 ((10 : Int32) + qj2.1) (qj5 - (1 : Int32)) h0 qj2.2) cw_RX11_252 rfl (okM_X11_set) rfl cl11 h0 (okR_of rfl) (Nat.le_of_ble_eq_true rfl) dX11_take_148 (fun qj6 _ => ?_)
      exact z_jump (ls1 := [(0, .ref (B + v0)), (1, .int v1), (2, .int v2), (3, .int v3)]) (Nat.le_of_ble_eq_true rfl) [1, 2, 3, 4] rfl (z_fX11_take_b151 C ht hr N k95 v0 v1 v2 v3 qj6 h0 hk95)
    · exact z_jump (ls1 := [(0, .ref (B + v0)), (1, .int v1), (2, .int v2), (3, .int v3)]) (Nat.le_of_ble_eq_true rfl) [1, 2, 3, 4] rfl (z_fX11_take_b151 C ht hr N k95 v0 v1 v2 v3 qj2.2 h0 hk95)
theorem z_fX11_take_l95_i {p : Program} {l : Launch} {e : Env} {s : State} {m : MethodId} {args : Array Value} {below : List Frame} {meth : Method} {c : Code} {D : va_G} {cy : Nat → ClassId} {B : Nat} {kd : Nat → Nat} {n : Nat} {sa sv : Nat → Nat} (C : zC p l s m args meth c D cy B kd n sa sv RX11 cX11_take 5) (ht : ∀ x ∈ c.exceptionTable.toList, False) (hr : meth.sig.returnType = some (FieldType.boolean)) {b0 : Bool × Mem} (N : Nat) (v0 : Nat) (v1 : Int32) (v2 : Int32) (h0 : kd v0 = 11)  (fu : Nat) : ∀ (v3 : Int32) (M : Mem), Z p l e (rmz 4 0) s m args below meth c (vx_MQ below (QcR D cy B kd n (cvB b0)) (XcR D cy B kd n (cvB b0)) args s 0 (6 * 0) (AA B kd n)) D cy B kd n 5 b0 0 95 [(0, .ref (B + v0)), (1, .int v1), (2, .int v2), (3, .int v3)] [] M (fX11_take_l95 N v0 v1 v2 fu v3 M) := by
  induction fu with
  | zero => intro v3 M; exact z_none
  | succ fu ih => intro v3 M; exact z_fX11_take_l95_s C ht hr N v0 v1 v2 (fX11_take_l95 N v0 v1 v2 fu) v3 M h0 (fun v3 M => ih v3 M)
theorem z_fX11_take_l95 {p : Program} {l : Launch} {e : Env} {s : State} {m : MethodId} {args : Array Value} {below : List Frame} {meth : Method} {c : Code} {D : va_G} {cy : Nat → ClassId} {B : Nat} {kd : Nat → Nat} {n : Nat} {sa sv : Nat → Nat} (C : zC p l s m args meth c D cy B kd n sa sv RX11 cX11_take 5) (ht : ∀ x ∈ c.exceptionTable.toList, False) (hr : meth.sig.returnType = some (FieldType.boolean)) {b0 : Bool × Mem} (N : Nat) (v0 : Nat) (v1 : Int32) (v2 : Int32) (fu : Nat) (v3 : Int32) (M : Mem) (h0 : kd v0 = 11)  : Z p l e (rmz 4 0) s m args below meth c (vx_MQ below (QcR D cy B kd n (cvB b0)) (XcR D cy B kd n (cvB b0)) args s 0 (6 * 0) (AA B kd n)) D cy B kd n 5 b0 0 95 [(0, .ref (B + v0)), (1, .int v1), (2, .int v2), (3, .int v3)] [] M (fX11_take_l95 N v0 v1 v2 fu v3 M) := z_fX11_take_l95_i C ht hr N v0 v1 v2 h0 fu v3 M
set_option maxHeartbeats 4000000 in
set_option maxRecDepth 100000 in
theorem z_fX11_take_b197 {p : Program} {l : Launch} {e : Env} {s : State} {m : MethodId} {args : Array Value} {below : List Frame} {meth : Method} {c : Code} {D : va_G} {cy : Nat → ClassId} {B : Nat} {kd : Nat → Nat} {n : Nat} {sa sv : Nat → Nat} (C : zC p l s m args meth c D cy B kd n sa sv RX11 cX11_take 5) (ht : ∀ x ∈ c.exceptionTable.toList, False) (hr : meth.sig.returnType = some (FieldType.boolean)) {b0 : Bool × Mem}  (N : Nat) (k162 : Int32 → Mem → Option (Bool × Mem)) (v0 : Nat) (v1 : Int32) (v2 : Int32) (v3 : Int32) (M : Mem) (h0 : kd v0 = 11) (hk162 : ∀ (v3 : Int32) (M : Mem), Z p l e (rmz 4 0) s m args below meth c (vx_MQ below (QcR D cy B kd n (cvB b0)) (XcR D cy B kd n (cvB b0)) args s 0 (6 * 0) (AA B kd n)) D cy B kd n 5 b0 0 162 [(0, .ref (B + v0)), (1, .int v1), (2, .int v2), (3, .int v3)] [] M (k162 v3 M)) : Z p l e (rmz 4 0) s m args below meth c (vx_MQ below (QcR D cy B kd n (cvB b0)) (XcR D cy B kd n (cvB b0)) args s 0 (6 * 0) (AA B kd n)) D cy B kd n 5 b0 0 197 [(0, .ref (B + v0)), (1, .int v1), (2, .int v2), (3, .int v3)] [] M (fX11_take_b197 N k162 v0 v1 v2 v3 M) := by
  unfold fX11_take_b197
  refine z_iinc C 3 3 (v := v3) (v1 := (v3 + (1 : Int32))) (ls1 := [(3, .int (v3 + (1 : Int32))), (0, .ref (B + v0)), (1, .int v1), (2, .int v2)]) dX11_take_197 rfl rfl (by decide) rfl ?_
  refine z_goto C 162 dX11_take_200 rfl ?_
  exact z_jump (ls1 := [(0, .ref (B + v0)), (1, .int v1), (2, .int v2), (3, .int (v3 + (1 : Int32)))]) (Nat.le_of_ble_eq_true rfl) [1, 2, 3, 0] rfl (hk162 (v3 + (1 : Int32)) M)
set_option maxHeartbeats 4000000 in
set_option maxRecDepth 100000 in
theorem z_fX11_take_l162_s {p : Program} {l : Launch} {e : Env} {s : State} {m : MethodId} {args : Array Value} {below : List Frame} {meth : Method} {c : Code} {D : va_G} {cy : Nat → ClassId} {B : Nat} {kd : Nat → Nat} {n : Nat} {sa sv : Nat → Nat} (C : zC p l s m args meth c D cy B kd n sa sv RX11 cX11_take 5) (ht : ∀ x ∈ c.exceptionTable.toList, False) (hr : meth.sig.returnType = some (FieldType.boolean)) {b0 : Bool × Mem} (N : Nat) (v0 : Nat) (v1 : Int32) (v2 : Int32) (k162 : Int32 → Mem → Option (Bool × Mem)) (v3 : Int32) (M : Mem) (h0 : kd v0 = 11)  (hk162 : ∀ (v3 : Int32) (M : Mem), Z p l e (rmz 4 0) s m args below meth c (vx_MQ below (QcR D cy B kd n (cvB b0)) (XcR D cy B kd n (cvB b0)) args s 0 (6 * 0) (AA B kd n)) D cy B kd n 5 b0 0 162 [(0, .ref (B + v0)), (1, .int v1), (2, .int v2), (3, .int v3)] [] M (k162 v3 M)) : Z p l e (rmz 4 0) s m args below meth c (vx_MQ below (QcR D cy B kd n (cvB b0)) (XcR D cy B kd n (cvB b0)) args s 0 (6 * 0) (AA B kd n)) D cy B kd n 5 b0 0 162 [(0, .ref (B + v0)), (1, .int v1), (2, .int v2), (3, .int v3)] [] M (fX11_take_l162_s N v0 v1 v2 k162 v3 M) := by
  unfold fX11_take_l162_s
  refine z_iload_n C 3 3 dX11_take_162 rfl rfl ?_
  refine z_aload_n C 0 0 dX11_take_163 rfl rfl ?_
  refine z_iload_n C 1 1 dX11_take_164 rfl rfl ?_
  refine z_aload_n C 0 0 dX11_take_165 rfl rfl ?_
  refine z_iload_n C 1 1 dX11_take_166 rfl rfl ?_
  refine z_iconst C dX11_take_167 rfl ?_
  refine z_callV_pI (As := [.int v1, .int (1 : Int32)]) (rest := [.int v1, .ref (B + v0), .int v3]) C rfl (ctX11_get (zG_of C) v0 v1 (1 : Int32) h0 M) cw_RX11_237 rfl (okM_X11_get) rfl cl11 h0 (okR_of rfl) (Nat.le_of_ble_eq_true rfl) dX11_take_168 (fun qj1 _ => ?_)
  refine z_iconst C dX11_take_171 rfl ?_
  refine z_callV_pI (As := [.int v1, .int qj1, .int (0 : Int32)]) (rest := [.int v3]) C rfl (ctX11_slotAt (zG_of C) v0 v1 qj1 (0 : Int32) h0 M) cw_RX11_270 rfl (okM_X11_slotAt) rfl cl11 h0 (okR_of rfl) (Nat.le_of_ble_eq_true rfl) dX11_take_172 (fun qj2 _ => ?_)
  refine z_icmp_ge C 203 dX11_take_175 rfl (fun _ => ?_) (fun _ => ?_)
  · refine z_iconst C dX11_take_203 rfl ?_
    exact z_zret C (v := true) hr (Nat.le_of_ble_eq_true rfl) dX11_take_204 rfl
  · refine z_aload_n C 0 0 dX11_take_178 rfl rfl ?_
    refine z_iload_n C 1 1 dX11_take_179 rfl rfl ?_
    refine z_iload_n C 3 3 dX11_take_180 rfl rfl ?_
    refine z_callV_pI (As := [.int v1, .int v3]) (rest := []) C rfl (ctX11_get (zG_of C) v0 v1 v3 h0 M) cw_RX11_237 rfl (okM_X11_get) rfl cl11 h0 (okR_of rfl) (Nat.le_of_ble_eq_true rfl) dX11_take_181 (fun qj3 _ => ?_)
    refine z_iload_n C 2 2 dX11_take_184 rfl rfl ?_
    refine z_iconst C dX11_take_185 rfl ?_
    refine z_iadd C dX11_take_186 ?_
    refine z_icmp_ne C 197 dX11_take_187 rfl (fun _ => ?_) (fun _ => ?_)
    · refine z_aload_n C 0 0 dX11_take_190 rfl rfl ?_
      refine z_iload_n C 1 1 dX11_take_191 rfl rfl ?_
      refine z_iload_n C 3 3 dX11_take_192 rfl rfl ?_
      refine z_iconst C dX11_take_193 rfl ?_
      refine z_callV_V (As := [.int v1, .int v3, .int (0 : Int32)]) (rest := []) C rfl (ctX11_set (zG_of C) v0 v1 v3 (0 : Int32) h0 M) cw_RX11_252 rfl (okM_X11_set) rfl cl11 h0 (okR_of rfl) (Nat.le_of_ble_eq_true rfl) dX11_take_194 (fun qj4 _ => ?_)
      exact z_jump (ls1 := [(0, .ref (B + v0)), (1, .int v1), (2, .int v2), (3, .int v3)]) (Nat.le_of_ble_eq_true rfl) [0, 1, 2, 3] rfl (z_fX11_take_b197 C ht hr N k162 v0 v1 v2 v3 qj4 h0 hk162)
    · exact z_jump (ls1 := [(0, .ref (B + v0)), (1, .int v1), (2, .int v2), (3, .int v3)]) (Nat.le_of_ble_eq_true rfl) [0, 1, 2, 3] rfl (z_fX11_take_b197 C ht hr N k162 v0 v1 v2 v3 M h0 hk162)
theorem z_fX11_take_l162_i {p : Program} {l : Launch} {e : Env} {s : State} {m : MethodId} {args : Array Value} {below : List Frame} {meth : Method} {c : Code} {D : va_G} {cy : Nat → ClassId} {B : Nat} {kd : Nat → Nat} {n : Nat} {sa sv : Nat → Nat} (C : zC p l s m args meth c D cy B kd n sa sv RX11 cX11_take 5) (ht : ∀ x ∈ c.exceptionTable.toList, False) (hr : meth.sig.returnType = some (FieldType.boolean)) {b0 : Bool × Mem} (N : Nat) (v0 : Nat) (v1 : Int32) (v2 : Int32) (h0 : kd v0 = 11)  (fu : Nat) : ∀ (v3 : Int32) (M : Mem), Z p l e (rmz 4 0) s m args below meth c (vx_MQ below (QcR D cy B kd n (cvB b0)) (XcR D cy B kd n (cvB b0)) args s 0 (6 * 0) (AA B kd n)) D cy B kd n 5 b0 0 162 [(0, .ref (B + v0)), (1, .int v1), (2, .int v2), (3, .int v3)] [] M (fX11_take_l162 N v0 v1 v2 fu v3 M) := by
  induction fu with
  | zero => intro v3 M; exact z_none
  | succ fu ih => intro v3 M; exact z_fX11_take_l162_s C ht hr N v0 v1 v2 (fX11_take_l162 N v0 v1 v2 fu) v3 M h0 (fun v3 M => ih v3 M)
theorem z_fX11_take_l162 {p : Program} {l : Launch} {e : Env} {s : State} {m : MethodId} {args : Array Value} {below : List Frame} {meth : Method} {c : Code} {D : va_G} {cy : Nat → ClassId} {B : Nat} {kd : Nat → Nat} {n : Nat} {sa sv : Nat → Nat} (C : zC p l s m args meth c D cy B kd n sa sv RX11 cX11_take 5) (ht : ∀ x ∈ c.exceptionTable.toList, False) (hr : meth.sig.returnType = some (FieldType.boolean)) {b0 : Bool × Mem} (N : Nat) (v0 : Nat) (v1 : Int32) (v2 : Int32) (fu : Nat) (v3 : Int32) (M : Mem) (h0 : kd v0 = 11)  : Z p l e (rmz 4 0) s m args below meth c (vx_MQ below (QcR D cy B kd n (cvB b0)) (XcR D cy B kd n (cvB b0)) args s 0 (6 * 0) (AA B kd n)) D cy B kd n 5 b0 0 162 [(0, .ref (B + v0)), (1, .int v1), (2, .int v2), (3, .int v3)] [] M (fX11_take_l162 N v0 v1 v2 fu v3 M) := z_fX11_take_l162_i C ht hr N v0 v1 v2 h0 fu v3 M
set_option maxHeartbeats 4000000 in
set_option maxRecDepth 100000 in
theorem z_fX11_take_b51 {p : Program} {l : Launch} {e : Env} {s : State} {m : MethodId} {args : Array Value} {below : List Frame} {meth : Method} {c : Code} {D : va_G} {cy : Nat → ClassId} {B : Nat} {kd : Nat → Nat} {n : Nat} {sa sv : Nat → Nat} (C : zC p l s m args meth c D cy B kd n sa sv RX11 cX11_take 5) (ht : ∀ x ∈ c.exceptionTable.toList, False) (hr : meth.sig.returnType = some (FieldType.boolean)) {b0 : Bool × Mem}  (N : Nat) (v0 : Nat) (v1 : Int32) (v2 : Int32) (s0 : Int32) (s1 : Nat) (M : Mem) (h0 : kd v0 = 11) (hs1 : kd s1 = 11)  : Z p l e (rmz 4 0) s m args below meth c (vx_MQ below (QcR D cy B kd n (cvB b0)) (XcR D cy B kd n (cvB b0)) args s 0 (6 * 0) (AA B kd n)) D cy B kd n 5 b0 0 51 [(0, .ref (B + v0)), (1, .int v1), (2, .int v2)] [.int s0, .ref (B + s1)] M (fX11_take_b51 N v0 v1 v2 s0 s1 M) := by
  unfold fX11_take_b51
  refine z_putI (k := 5) C cl11 hs1 rfl gw_7_15 rfl rfl rfl dX11_take_51 ?_
  refine z_aload_n C 0 0 dX11_take_54 rfl rfl ?_
  refine z_getI (k := 5) C cl11 h0 rfl gw_7_15 rfl dX11_take_55 ?_
  refine z_if_gt C 70 dX11_take_58 rfl (fun _ => ?_) (fun _ => ?_)
  · exact z_jump (ls1 := []) (Nat.le_of_ble_eq_true rfl) [] rfl (z_fX11_take_b70 C ht hr N (wI M s1 5 s0))
  · refine z_aload_n C 0 0 dX11_take_61 rfl rfl ?_
    refine z_iload_n C 1 1 dX11_take_62 rfl rfl ?_
    refine z_iload_n C 2 2 dX11_take_63 rfl rfl ?_
    refine z_callV_pB (As := [.int v1, .int v2]) (rest := []) C rfl (ctX11_isIn (zG_of C) v0 v1 v2 h0 (wI M s1 5 s0)) cw_RX11_300 rfl (okM_X11_isIn) rfl cl11 h0 (okR_of rfl) (Nat.le_of_ble_eq_true rfl) dX11_take_64 (fun qj1 _ => ?_)
    refine z_if_neB C 72 dX11_take_67 rfl (fun _ => ?_) (fun _ => ?_)
    · refine z_aload_n C 0 0 dX11_take_72 rfl rfl ?_
      refine z_iload_n C 1 1 dX11_take_73 rfl rfl ?_
      refine z_sipush (v := 250) C dX11_take_74 rfl ?_
      refine z_iload_n C 2 2 dX11_take_77 rfl rfl ?_
      refine z_iadd C dX11_take_78 ?_
      refine z_iconst C dX11_take_79 rfl ?_
      refine z_callV_V (As := [.int v1, .int ((250 : Int32) + v2), .int (0 : Int32)]) (rest := []) C rfl (ctX11_set (zG_of C) v0 v1 ((250 : Int32) + v2) (0 : Int32) h0 (wI M s1 5 s0)) cw_RX11_252 rfl (okM_X11_set) rfl cl11 h0 (okR_of rfl) (Nat.le_of_ble_eq_true rfl) dX11_take_80 (fun qj2 _ => ?_)
      refine z_aload_n C 0 0 dX11_take_83 rfl rfl ?_
      refine z_iload_n C 1 1 dX11_take_84 rfl rfl ?_
      refine z_iconst C dX11_take_85 rfl ?_
      refine z_callV_pI (As := [.int v1, .int (0 : Int32)]) (rest := []) C rfl (ctX11_get (zG_of C) v0 v1 (0 : Int32) h0 qj2) cw_RX11_237 rfl (okM_X11_get) rfl cl11 h0 (okR_of rfl) (Nat.le_of_ble_eq_true rfl) dX11_take_86 (fun qj3 _ => ?_)
      refine z_iconst C dX11_take_89 rfl ?_
      refine z_icmp_ne C 159 dX11_take_90 rfl (fun _ => ?_) (fun _ => ?_)
      · refine z_iconst C dX11_take_93 rfl ?_
        refine z_istore_n C 3 (ls1 := [(3, .int (0 : Int32)), (0, .ref (B + v0)), (1, .int v1), (2, .int v2)]) dX11_take_94 rfl (by decide) rfl ?_
        exact z_jump (ls1 := [(0, .ref (B + v0)), (1, .int v1), (2, .int v2), (3, .int (0 : Int32))]) (Nat.le_of_ble_eq_true rfl) [1, 2, 3, 0] rfl (z_fX11_take_l95 C ht hr N v0 v1 v2 N (0 : Int32) qj2 h0)
      · refine z_bipush (v := 10) C dX11_take_159 rfl ?_
        refine z_istore_n C 3 (ls1 := [(3, .int (10 : Int32)), (0, .ref (B + v0)), (1, .int v1), (2, .int v2)]) dX11_take_161 rfl (by decide) rfl ?_
        exact z_jump (ls1 := [(0, .ref (B + v0)), (1, .int v1), (2, .int v2), (3, .int (10 : Int32))]) (Nat.le_of_ble_eq_true rfl) [1, 2, 3, 0] rfl (z_fX11_take_l162 C ht hr N v0 v1 v2 N (10 : Int32) qj2 h0)
    · exact z_jump (ls1 := []) (Nat.le_of_ble_eq_true rfl) [] rfl (z_fX11_take_b70 C ht hr N (wI M s1 5 s0))
set_option maxHeartbeats 4000000 in
set_option maxRecDepth 100000 in
theorem z_fX11_take_b37 {p : Program} {l : Launch} {e : Env} {s : State} {m : MethodId} {args : Array Value} {below : List Frame} {meth : Method} {c : Code} {D : va_G} {cy : Nat → ClassId} {B : Nat} {kd : Nat → Nat} {n : Nat} {sa sv : Nat → Nat} (C : zC p l s m args meth c D cy B kd n sa sv RX11 cX11_take 5) (ht : ∀ x ∈ c.exceptionTable.toList, False) (hr : meth.sig.returnType = some (FieldType.boolean)) {b0 : Bool × Mem}  (N : Nat) (v0 : Nat) (v1 : Int32) (v2 : Int32) (s0 : Nat) (M : Mem) (h0 : kd v0 = 11) (hs0 : kd s0 = 11)  : Z p l e (rmz 4 0) s m args below meth c (vx_MQ below (QcR D cy B kd n (cvB b0)) (XcR D cy B kd n (cvB b0)) args s 0 (6 * 0) (AA B kd n)) D cy B kd n 5 b0 0 37 [(0, .ref (B + v0)), (1, .int v1), (2, .int v2)] [.ref (B + s0)] M (fX11_take_b37 N v0 v1 v2 s0 M) := by
  unfold fX11_take_b37
  refine z_aload_n C 0 0 dX11_take_37 rfl rfl ?_
  refine z_iload_n C 2 2 dX11_take_38 rfl rfl ?_
  refine z_i2l C dX11_take_39 ?_
  refine z_callV_pB (As := [.long v2.toInt64]) (rest := [.ref (B + s0)]) C rfl (ctX11_isName (zG_of C) v0 v2.toInt64 h0 M) cw_RX11_228 rfl (okM_X11_isName) rfl cl11 h0 (okR_of rfl) (Nat.le_of_ble_eq_true rfl) dX11_take_40 (fun qj1 _ => ?_)
  refine z_if_eqB C 50 dX11_take_43 rfl (fun _ => ?_) (fun _ => ?_)
  · refine z_iconst C dX11_take_46 rfl ?_
    refine z_goto C 51 dX11_take_47 rfl ?_
    exact z_jump (ls1 := [(0, .ref (B + v0)), (1, .int v1), (2, .int v2)]) (Nat.le_of_ble_eq_true rfl) [0, 1, 2] rfl (z_fX11_take_b51 C ht hr N v0 v1 v2 (0 : Int32) s0 M h0 hs0)
  · refine z_iconst C dX11_take_50 rfl ?_
    exact z_jump (ls1 := [(0, .ref (B + v0)), (1, .int v1), (2, .int v2)]) (Nat.le_of_ble_eq_true rfl) [0, 1, 2] rfl (z_fX11_take_b51 C ht hr N v0 v1 v2 (3 : Int32) s0 M h0 hs0)
set_option maxHeartbeats 4000000 in
set_option maxRecDepth 100000 in
theorem ctX11_take {l : Launch} {D : va_G} {cy : Nat → ClassId} {B : Nat} {kd : Nat → Nat} {n : Nat} {sa sv : Nat → Nat} (G : zG l kd n) (N : Nat) (v0 : Nat) (v1 : Int32) (v2 : Int32) (h0 : kd v0 = 11) (M : Mem) : CT l D cy B kd n sa sv 4 0 yX11_take cX11_take 5 (some (FieldType.boolean)) cvB [.ref (B + v0), .int v1, .int v2] M (fX11_take N v0 v1 v2 M) := by
  refine ct_of (by decide) G.1 G.2 (Nat.le_of_ble_eq_true rfl) (ls := [(0, .ref (B + v0)), (1, .int v1), (2, .int v2)]) rfl ?_
  intro p e s m args below meth c b0 C ht hr
  unfold fX11_take
  refine z_aload_n C 0 0 dX11_take_0 rfl rfl ?_
  refine z_aload_n C 0 0 dX11_take_1 rfl rfl ?_
  refine z_iload_n C 1 1 dX11_take_2 rfl rfl ?_
  refine z_callV_pB (As := [.int v1]) (rest := [.ref (B + v0)]) C rfl (ctX11_isRow (zG_of C) v0 v1 h0 M) cw_RX11_256 rfl (okM_X11_isRow) rfl cl11 h0 (okR_of rfl) (Nat.le_of_ble_eq_true rfl) dX11_take_3 (fun qj1 _ => ?_)
  refine z_if_neB C 13 dX11_take_6 rfl (fun _ => ?_) (fun _ => ?_)
  · refine z_aload_n C 0 0 dX11_take_13 rfl rfl ?_
    refine z_iload_n C 1 1 dX11_take_14 rfl rfl ?_
    refine z_iconst C dX11_take_15 rfl ?_
    refine z_callV_pI (As := [.int v1, .int (0 : Int32)]) (rest := [.ref (B + v0)]) C rfl (ctX11_get (zG_of C) v0 v1 (0 : Int32) h0 M) cw_RX11_237 rfl (okM_X11_get) rfl cl11 h0 (okR_of rfl) (Nat.le_of_ble_eq_true rfl) dX11_take_16 (fun qj2 _ => ?_)
    refine z_iconst C dX11_take_19 rfl ?_
    refine z_icmp_eq C 37 dX11_take_20 rfl (fun _ => ?_) (fun _ => ?_)
    · exact z_jump (ls1 := [(0, .ref (B + v0)), (1, .int v1), (2, .int v2)]) (Nat.le_of_ble_eq_true rfl) [0, 1, 2] rfl (z_fX11_take_b37 C ht hr N v0 v1 v2 v0 M h0 h0)
    · refine z_aload_n C 0 0 dX11_take_23 rfl rfl ?_
      refine z_iload_n C 1 1 dX11_take_24 rfl rfl ?_
      refine z_iconst C dX11_take_25 rfl ?_
      refine z_callV_pI (As := [.int v1, .int (0 : Int32)]) (rest := [.ref (B + v0)]) C rfl (ctX11_get (zG_of C) v0 v1 (0 : Int32) h0 M) cw_RX11_237 rfl (okM_X11_get) rfl cl11 h0 (okR_of rfl) (Nat.le_of_ble_eq_true rfl) dX11_take_26 (fun qj3 _ => ?_)
      refine z_iconst C dX11_take_29 rfl ?_
      refine z_icmp_eq C 37 dX11_take_30 rfl (fun _ => ?_) (fun _ => ?_)
      · exact z_jump (ls1 := [(0, .ref (B + v0)), (1, .int v1), (2, .int v2)]) (Nat.le_of_ble_eq_true rfl) [0, 1, 2] rfl (z_fX11_take_b37 C ht hr N v0 v1 v2 v0 M h0 h0)
      · refine z_iconst C dX11_take_33 rfl ?_
        refine z_goto C 51 dX11_take_34 rfl ?_
        exact z_jump (ls1 := [(0, .ref (B + v0)), (1, .int v1), (2, .int v2)]) (Nat.le_of_ble_eq_true rfl) [0, 1, 2] rfl (z_fX11_take_b51 C ht hr N v0 v1 v2 (2 : Int32) v0 M h0 h0)
  · refine z_iconst C dX11_take_9 rfl ?_
    refine z_goto C 51 dX11_take_10 rfl ?_
    exact z_jump (ls1 := [(0, .ref (B + v0)), (1, .int v1), (2, .int v2)]) (Nat.le_of_ble_eq_true rfl) [0, 1, 2] rfl (z_fX11_take_b51 C ht hr N v0 v1 v2 (1 : Int32) v0 M h0 h0)
set_option maxHeartbeats 4000000 in
set_option maxRecDepth 100000 in
theorem z_fX11_isCounted_b9 {p : Program} {l : Launch} {e : Env} {s : State} {m : MethodId} {args : Array Value} {below : List Frame} {meth : Method} {c : Code} {D : va_G} {cy : Nat → ClassId} {B : Nat} {kd : Nat → Nat} {n : Nat} {sa sv : Nat → Nat} (C : zC p l s m args meth c D cy B kd n sa sv RX11 cX11_isCounted 1) (ht : ∀ x ∈ c.exceptionTable.toList, False) (hr : meth.sig.returnType = some (FieldType.boolean)) {b0 : Bool}   (Mo : Mem)  : Z p l e (rmz 0 0) s m args below meth c (vx_MQ below (QcR D cy B kd n ((pB Mo) b0)) (XcR D cy B kd n ((pB Mo) b0)) args s 0 (6 * 0) (AA B kd n)) D cy B kd n 1 b0 0 9 [] [] Mo (fX11_isCounted_b9 Mo) := by
  unfold fX11_isCounted_b9
  refine z_iconst C dX11_isCounted_9 rfl ?_
  refine z_goto C 14 dX11_isCounted_10 rfl ?_
  exact z_zret C (v := true) hr (Nat.le_of_ble_eq_true rfl) dX11_isCounted_14 rfl
set_option maxHeartbeats 4000000 in
set_option maxRecDepth 100000 in
theorem ctX11_isCounted {l : Launch} {D : va_G} {cy : Nat → ClassId} {B : Nat} {kd : Nat → Nat} {n : Nat} {sa sv : Nat → Nat} (G : zG l kd n) (v0 : Int32)  (Mo : Mem) : CT l D cy B kd n sa sv 0 0 yX11_isCounted cX11_isCounted 1 (some (FieldType.boolean)) (pB Mo) [.int v0] Mo (fX11_isCounted v0 Mo) := by
  refine ct_of (by decide) G.1 G.2 (Nat.le_of_ble_eq_true rfl) (ls := [(0, .int v0)]) rfl ?_
  intro p e s m args below meth c b0 C ht hr
  unfold fX11_isCounted
  refine z_iload_n C 0 0 dX11_isCounted_0 rfl rfl ?_
  refine z_if_eq C 9 dX11_isCounted_1 rfl (fun _ => ?_) (fun _ => ?_)
  · exact z_jump (ls1 := []) (Nat.le_of_ble_eq_true rfl) [] rfl (z_fX11_isCounted_b9 C ht hr Mo)
  · refine z_iload_n C 0 0 dX11_isCounted_4 rfl rfl ?_
    refine z_iconst C dX11_isCounted_5 rfl ?_
    refine z_icmp_ne C 13 dX11_isCounted_6 rfl (fun _ => ?_) (fun _ => ?_)
    · exact z_jump (ls1 := []) (Nat.le_of_ble_eq_true rfl) [] rfl (z_fX11_isCounted_b9 C ht hr Mo)
    · refine z_iconst C dX11_isCounted_13 rfl ?_
      exact z_zret C (v := false) hr (Nat.le_of_ble_eq_true rfl) dX11_isCounted_14 rfl
set_option maxHeartbeats 4000000 in
set_option maxRecDepth 100000 in
theorem ctX11_together {l : Launch} {D : va_G} {cy : Nat → ClassId} {B : Nat} {kd : Nat → Nat} {n : Nat} {sa sv : Nat → Nat} (G : zG l kd n) (v0 : Nat) (v1 : Int32) (v2 : Int32) (v3 : Int32) (h0 : kd v0 = 11) (Mo : Mem) : CT l D cy B kd n sa sv 1 0 yX11_together cX11_together 4 (some (FieldType.int)) (pI Mo) [.ref (B + v0), .int v1, .int v2, .int v3] Mo (fX11_together v0 v1 v2 v3 Mo) := by
  refine ct_of (by decide) G.1 G.2 (Nat.le_of_ble_eq_true rfl) (ls := [(0, .ref (B + v0)), (1, .int v1), (2, .int v2), (3, .int v3)]) rfl ?_
  intro p e s m args below meth c b0 C ht hr
  unfold fX11_together
  refine z_aload_n C 0 0 dX11_together_0 rfl rfl ?_
  refine z_iload_n C 1 1 dX11_together_1 rfl rfl ?_
  refine z_iconst C dX11_together_2 rfl ?_
  refine z_callV_pI (As := [.int v1, .int (0 : Int32)]) (rest := []) C rfl (ctX11_get (zG_of C) v0 v1 (0 : Int32) h0 Mo) cw_RX11_237 rfl (okM_X11_get) rfl cl11 h0 (okR_of rfl) (Nat.le_of_ble_eq_true rfl) dX11_together_3 (fun qj1 _ => ?_)
  refine z_if_ne C 15 dX11_together_6 rfl (fun _ => ?_) (fun _ => ?_)
  · refine z_iload_n C 2 2 dX11_together_9 rfl rfl ?_
    refine z_iload_n C 3 3 dX11_together_10 rfl rfl ?_
    refine z_ior C dX11_together_11 ?_
    refine z_goto C 23 dX11_together_12 rfl ?_
    exact z_iret C hr (Nat.le_of_ble_eq_true rfl) dX11_together_23 rfl
  · refine z_bipush (v := 15) C dX11_together_15 rfl ?_
    refine z_iload_n C 2 2 dX11_together_17 rfl rfl ?_
    refine z_iload_n C 3 3 dX11_together_18 rfl rfl ?_
    refine z_iadd C dX11_together_19 ?_
    refine z_min C cw_RX11_240 ⟨Nat.le_of_ble_eq_true rfl, Nat.le_of_ble_eq_true rfl, Nat.le_of_ble_eq_true rfl, Nat.le_of_ble_eq_true rfl⟩ (Nat.le_of_ble_eq_true rfl) dX11_together_20 ?_
    exact z_iret C hr (Nat.le_of_ble_eq_true rfl) dX11_together_23 rfl
set_option maxHeartbeats 4000000 in
set_option maxRecDepth 100000 in
theorem z_fX11_join_b167 {p : Program} {l : Launch} {e : Env} {s : State} {m : MethodId} {args : Array Value} {below : List Frame} {meth : Method} {c : Code} {D : va_G} {cy : Nat → ClassId} {B : Nat} {kd : Nat → Nat} {n : Nat} {sa sv : Nat → Nat} (C : zC p l s m args meth c D cy B kd n sa sv RX11 cX11_join 4) (ht : ∀ x ∈ c.exceptionTable.toList, False) (hr : meth.sig.returnType = some (FieldType.int)) {b0 : Int32 × Mem}  (N : Nat) (k137 : Int32 → Mem → Option (Int32 × Mem)) (v0 : Nat) (v1 : Int32) (v2 : Int32) (v3 : Int32) (M : Mem) (h0 : kd v0 = 11) (hk137 : ∀ (v3 : Int32) (M : Mem), Z p l e (rmz 2 0) s m args below meth c (vx_MQ below (QcR D cy B kd n (cvI b0)) (XcR D cy B kd n (cvI b0)) args s 0 (6 * 0) (AA B kd n)) D cy B kd n 4 b0 0 137 [(0, .ref (B + v0)), (1, .int v1), (2, .int v2), (3, .int v3)] [] M (k137 v3 M)) : Z p l e (rmz 2 0) s m args below meth c (vx_MQ below (QcR D cy B kd n (cvI b0)) (XcR D cy B kd n (cvI b0)) args s 0 (6 * 0) (AA B kd n)) D cy B kd n 4 b0 0 167 [(0, .ref (B + v0)), (1, .int v1), (2, .int v2), (3, .int v3)] [] M (fX11_join_b167 N k137 v0 v1 v2 v3 M) := by
  unfold fX11_join_b167
  refine z_iinc C 3 3 (v := v3) (v1 := (v3 + (1 : Int32))) (ls1 := [(3, .int (v3 + (1 : Int32))), (0, .ref (B + v0)), (1, .int v1), (2, .int v2)]) dX11_join_167 rfl rfl (by decide) rfl ?_
  refine z_goto C 137 dX11_join_170 rfl ?_
  exact z_jump (ls1 := [(0, .ref (B + v0)), (1, .int v1), (2, .int v2), (3, .int (v3 + (1 : Int32)))]) (Nat.le_of_ble_eq_true rfl) [1, 2, 3, 0] rfl (hk137 (v3 + (1 : Int32)) M)
set_option maxHeartbeats 4000000 in
set_option maxRecDepth 100000 in
theorem z_fX11_join_l137_s {p : Program} {l : Launch} {e : Env} {s : State} {m : MethodId} {args : Array Value} {below : List Frame} {meth : Method} {c : Code} {D : va_G} {cy : Nat → ClassId} {B : Nat} {kd : Nat → Nat} {n : Nat} {sa sv : Nat → Nat} (C : zC p l s m args meth c D cy B kd n sa sv RX11 cX11_join 4) (ht : ∀ x ∈ c.exceptionTable.toList, False) (hr : meth.sig.returnType = some (FieldType.int)) {b0 : Int32 × Mem} (N : Nat) (v0 : Nat) (v1 : Int32) (v2 : Int32) (k137 : Int32 → Mem → Option (Int32 × Mem)) (v3 : Int32) (M : Mem) (h0 : kd v0 = 11)  (hk137 : ∀ (v3 : Int32) (M : Mem), Z p l e (rmz 2 0) s m args below meth c (vx_MQ below (QcR D cy B kd n (cvI b0)) (XcR D cy B kd n (cvI b0)) args s 0 (6 * 0) (AA B kd n)) D cy B kd n 4 b0 0 137 [(0, .ref (B + v0)), (1, .int v1), (2, .int v2), (3, .int v3)] [] M (k137 v3 M)) : Z p l e (rmz 2 0) s m args below meth c (vx_MQ below (QcR D cy B kd n (cvI b0)) (XcR D cy B kd n (cvI b0)) args s 0 (6 * 0) (AA B kd n)) D cy B kd n 4 b0 0 137 [(0, .ref (B + v0)), (1, .int v1), (2, .int v2), (3, .int v3)] [] M (fX11_join_l137_s N v0 v1 v2 k137 v3 M) := by
  unfold fX11_join_l137_s
  refine z_iload_n C 3 3 dX11_join_137 rfl rfl ?_
  refine z_aload_n C 0 0 dX11_join_138 rfl rfl ?_
  refine z_getR (k := 0) C cl11 h0 rfl gw_7_10 rfl dX11_join_139 ?_
  have j1 : kd (v0 + 1) = 36 := zkd C h0 (k := 0) rfl
  refine z_iconst C dX11_join_142 rfl ?_
  refine z_iald C j1 rfl (by decide) dX11_join_143 (fun j2 => ?_)
  refine z_icmp_ge C 173 dX11_join_144 rfl (fun _ => ?_) (fun _ => ?_)
  · refine z_aload_n C 0 0 dX11_join_173 rfl rfl ?_
    refine z_iload_n C 1 1 dX11_join_174 rfl rfl ?_
    refine z_callV_pI (As := [.int v1]) (rest := []) C rfl (ctX11_many (zG_of C) N v0 v1 h0 M) cw_RX11_261 rfl (okM_X11_many) rfl cl11 h0 (okR_of rfl) (Nat.le_of_ble_eq_true rfl) dX11_join_175 (fun qj3 _ => ?_)
    exact z_iret C hr (Nat.le_of_ble_eq_true rfl) dX11_join_178 rfl
  · refine z_aload_n C 0 0 dX11_join_147 rfl rfl ?_
    refine z_iload_n C 2 2 dX11_join_148 rfl rfl ?_
    refine z_iload_n C 3 3 dX11_join_149 rfl rfl ?_
    refine z_callV_pB (As := [.int v2, .int v3]) (rest := []) C rfl (ctX11_isIn (zG_of C) v0 v2 v3 h0 M) cw_RX11_300 rfl (okM_X11_isIn) rfl cl11 h0 (okR_of rfl) (Nat.le_of_ble_eq_true rfl) dX11_join_150 (fun qj4 _ => ?_)
    refine z_if_eqB C 167 dX11_join_153 rfl (fun _ => ?_) (fun _ => ?_)
    · refine z_aload_n C 0 0 dX11_join_156 rfl rfl ?_
      refine z_iload_n C 1 1 dX11_join_157 rfl rfl ?_
      refine z_sipush (v := 250) C dX11_join_158 rfl ?_
      refine z_iload_n C 3 3 dX11_join_161 rfl rfl ?_
      refine z_iadd C dX11_join_162 ?_
      refine z_iconst C dX11_join_163 rfl ?_
      refine z_callV_V (As := [.int v1, .int ((250 : Int32) + v3), .int (1 : Int32)]) (rest := []) C rfl (ctX11_set (zG_of C) v0 v1 ((250 : Int32) + v3) (1 : Int32) h0 M) cw_RX11_252 rfl (okM_X11_set) rfl cl11 h0 (okR_of rfl) (Nat.le_of_ble_eq_true rfl) dX11_join_164 (fun qj5 _ => ?_)
      exact z_jump (ls1 := [(0, .ref (B + v0)), (1, .int v1), (2, .int v2), (3, .int v3)]) (Nat.le_of_ble_eq_true rfl) [0, 1, 2, 3] rfl (z_fX11_join_b167 C ht hr N k137 v0 v1 v2 v3 qj5 h0 hk137)
    · exact z_jump (ls1 := [(0, .ref (B + v0)), (1, .int v1), (2, .int v2), (3, .int v3)]) (Nat.le_of_ble_eq_true rfl) [0, 1, 2, 3] rfl (z_fX11_join_b167 C ht hr N k137 v0 v1 v2 v3 M h0 hk137)
theorem z_fX11_join_l137_i {p : Program} {l : Launch} {e : Env} {s : State} {m : MethodId} {args : Array Value} {below : List Frame} {meth : Method} {c : Code} {D : va_G} {cy : Nat → ClassId} {B : Nat} {kd : Nat → Nat} {n : Nat} {sa sv : Nat → Nat} (C : zC p l s m args meth c D cy B kd n sa sv RX11 cX11_join 4) (ht : ∀ x ∈ c.exceptionTable.toList, False) (hr : meth.sig.returnType = some (FieldType.int)) {b0 : Int32 × Mem} (N : Nat) (v0 : Nat) (v1 : Int32) (v2 : Int32) (h0 : kd v0 = 11)  (fu : Nat) : ∀ (v3 : Int32) (M : Mem), Z p l e (rmz 2 0) s m args below meth c (vx_MQ below (QcR D cy B kd n (cvI b0)) (XcR D cy B kd n (cvI b0)) args s 0 (6 * 0) (AA B kd n)) D cy B kd n 4 b0 0 137 [(0, .ref (B + v0)), (1, .int v1), (2, .int v2), (3, .int v3)] [] M (fX11_join_l137 N v0 v1 v2 fu v3 M) := by
  induction fu with
  | zero => intro v3 M; exact z_none
  | succ fu ih => intro v3 M; exact z_fX11_join_l137_s C ht hr N v0 v1 v2 (fX11_join_l137 N v0 v1 v2 fu) v3 M h0 (fun v3 M => ih v3 M)
theorem z_fX11_join_l137 {p : Program} {l : Launch} {e : Env} {s : State} {m : MethodId} {args : Array Value} {below : List Frame} {meth : Method} {c : Code} {D : va_G} {cy : Nat → ClassId} {B : Nat} {kd : Nat → Nat} {n : Nat} {sa sv : Nat → Nat} (C : zC p l s m args meth c D cy B kd n sa sv RX11 cX11_join 4) (ht : ∀ x ∈ c.exceptionTable.toList, False) (hr : meth.sig.returnType = some (FieldType.int)) {b0 : Int32 × Mem} (N : Nat) (v0 : Nat) (v1 : Int32) (v2 : Int32) (fu : Nat) (v3 : Int32) (M : Mem) (h0 : kd v0 = 11)  : Z p l e (rmz 2 0) s m args below meth c (vx_MQ below (QcR D cy B kd n (cvI b0)) (XcR D cy B kd n (cvI b0)) args s 0 (6 * 0) (AA B kd n)) D cy B kd n 4 b0 0 137 [(0, .ref (B + v0)), (1, .int v1), (2, .int v2), (3, .int v3)] [] M (fX11_join_l137 N v0 v1 v2 fu v3 M) := z_fX11_join_l137_i C ht hr N v0 v1 v2 h0 fu v3 M
set_option maxHeartbeats 4000000 in
set_option maxRecDepth 100000 in
theorem z_fX11_join_l93_s {p : Program} {l : Launch} {e : Env} {s : State} {m : MethodId} {args : Array Value} {below : List Frame} {meth : Method} {c : Code} {D : va_G} {cy : Nat → ClassId} {B : Nat} {kd : Nat → Nat} {n : Nat} {sa sv : Nat → Nat} (C : zC p l s m args meth c D cy B kd n sa sv RX11 cX11_join 4) (ht : ∀ x ∈ c.exceptionTable.toList, False) (hr : meth.sig.returnType = some (FieldType.int)) {b0 : Int32 × Mem} (N : Nat) (v0 : Nat) (v1 : Int32) (v2 : Int32) (k93 : Int32 → Mem → Option (Int32 × Mem)) (v3 : Int32) (M : Mem) (h0 : kd v0 = 11)  (hk93 : ∀ (v3 : Int32) (M : Mem), Z p l e (rmz 2 0) s m args below meth c (vx_MQ below (QcR D cy B kd n (cvI b0)) (XcR D cy B kd n (cvI b0)) args s 0 (6 * 0) (AA B kd n)) D cy B kd n 4 b0 0 93 [(0, .ref (B + v0)), (1, .int v1), (2, .int v2), (3, .int v3)] [] M (k93 v3 M)) : Z p l e (rmz 2 0) s m args below meth c (vx_MQ below (QcR D cy B kd n (cvI b0)) (XcR D cy B kd n (cvI b0)) args s 0 (6 * 0) (AA B kd n)) D cy B kd n 4 b0 0 93 [(0, .ref (B + v0)), (1, .int v1), (2, .int v2), (3, .int v3)] [] M (fX11_join_l93_s N v0 v1 v2 k93 v3 M) := by
  unfold fX11_join_l93_s
  refine z_iload_n C 3 3 dX11_join_93 rfl rfl ?_
  refine z_bipush (v := 10) C dX11_join_94 rfl ?_
  refine z_aload_n C 0 0 dX11_join_96 rfl rfl ?_
  refine z_iload_n C 1 1 dX11_join_97 rfl rfl ?_
  refine z_iconst C dX11_join_98 rfl ?_
  refine z_callV_pI (As := [.int v1, .int (1 : Int32)]) (rest := [.int (10 : Int32), .int v3]) C rfl (ctX11_get (zG_of C) v0 v1 (1 : Int32) h0 M) cw_RX11_237 rfl (okM_X11_get) rfl cl11 h0 (okR_of rfl) (Nat.le_of_ble_eq_true rfl) dX11_join_99 (fun qj1 _ => ?_)
  refine z_iadd C dX11_join_102 ?_
  refine z_icmp_ge C 135 dX11_join_103 rfl (fun _ => ?_) (fun _ => ?_)
  · refine z_iconst C dX11_join_135 rfl ?_
    refine z_istore_n C 3 (ls1 := [(3, .int (0 : Int32)), (0, .ref (B + v0)), (1, .int v1), (2, .int v2)]) dX11_join_136 rfl (by decide) rfl ?_
    exact z_jump (ls1 := [(0, .ref (B + v0)), (1, .int v1), (2, .int v2), (3, .int (0 : Int32))]) (Nat.le_of_ble_eq_true rfl) [1, 2, 3, 0] rfl (z_fX11_join_l137 C ht hr N v0 v1 v2 N (0 : Int32) M h0)
  · refine z_aload_n C 0 0 dX11_join_106 rfl rfl ?_
    refine z_iload_n C 1 1 dX11_join_107 rfl rfl ?_
    refine z_iload_n C 3 3 dX11_join_108 rfl rfl ?_
    refine z_aload_n C 0 0 dX11_join_109 rfl rfl ?_
    refine z_iload_n C 1 1 dX11_join_110 rfl rfl ?_
    refine z_aload_n C 0 0 dX11_join_111 rfl rfl ?_
    refine z_iload_n C 1 1 dX11_join_112 rfl rfl ?_
    refine z_iload_n C 3 3 dX11_join_113 rfl rfl ?_
    refine z_callV_pI (As := [.int v1, .int v3]) (rest := [.int v1, .ref (B + v0), .int v3, .int v1, .ref (B + v0)]) C rfl (ctX11_get (zG_of C) v0 v1 v3 h0 M) cw_RX11_237 rfl (okM_X11_get) rfl cl11 h0 (okR_of rfl) (Nat.le_of_ble_eq_true rfl) dX11_join_114 (fun qj2 _ => ?_)
    refine z_aload_n C 0 0 dX11_join_117 rfl rfl ?_
    refine z_iload_n C 2 2 dX11_join_118 rfl rfl ?_
    refine z_iload_n C 3 3 dX11_join_119 rfl rfl ?_
    refine z_callV_pI (As := [.int v2, .int v3]) (rest := [.int qj2, .int v1, .ref (B + v0), .int v3, .int v1, .ref (B + v0)]) C rfl (ctX11_get (zG_of C) v0 v2 v3 h0 M) cw_RX11_237 rfl (okM_X11_get) rfl cl11 h0 (okR_of rfl) (Nat.le_of_ble_eq_true rfl) dX11_join_120 (fun qj3 _ => ?_)
    refine z_callV_pI (As := [.int v1, .int qj2, .int qj3]) (rest := [.int v3, .int v1, .ref (B + v0)]) C rfl (ctX11_together (zG_of C) v0 v1 qj2 qj3 h0 M) cw_RX11_317 rfl (okM_X11_together) rfl cl11 h0 (okR_of rfl) (Nat.le_of_ble_eq_true rfl) dX11_join_123 (fun qj4 _ => ?_)
    refine z_callV_V (As := [.int v1, .int v3, .int qj4]) (rest := []) C rfl (ctX11_set (zG_of C) v0 v1 v3 qj4 h0 M) cw_RX11_252 rfl (okM_X11_set) rfl cl11 h0 (okR_of rfl) (Nat.le_of_ble_eq_true rfl) dX11_join_126 (fun qj5 _ => ?_)
    refine z_iinc C 3 3 (v := v3) (v1 := (v3 + (1 : Int32))) (ls1 := [(3, .int (v3 + (1 : Int32))), (0, .ref (B + v0)), (1, .int v1), (2, .int v2)]) dX11_join_129 rfl rfl (by decide) rfl ?_
    refine z_goto C 93 dX11_join_132 rfl ?_
    exact z_jump (ls1 := [(0, .ref (B + v0)), (1, .int v1), (2, .int v2), (3, .int (v3 + (1 : Int32)))]) (Nat.le_of_ble_eq_true rfl) [1, 2, 3, 0] rfl (hk93 (v3 + (1 : Int32)) qj5)
theorem z_fX11_join_l93_i {p : Program} {l : Launch} {e : Env} {s : State} {m : MethodId} {args : Array Value} {below : List Frame} {meth : Method} {c : Code} {D : va_G} {cy : Nat → ClassId} {B : Nat} {kd : Nat → Nat} {n : Nat} {sa sv : Nat → Nat} (C : zC p l s m args meth c D cy B kd n sa sv RX11 cX11_join 4) (ht : ∀ x ∈ c.exceptionTable.toList, False) (hr : meth.sig.returnType = some (FieldType.int)) {b0 : Int32 × Mem} (N : Nat) (v0 : Nat) (v1 : Int32) (v2 : Int32) (h0 : kd v0 = 11)  (fu : Nat) : ∀ (v3 : Int32) (M : Mem), Z p l e (rmz 2 0) s m args below meth c (vx_MQ below (QcR D cy B kd n (cvI b0)) (XcR D cy B kd n (cvI b0)) args s 0 (6 * 0) (AA B kd n)) D cy B kd n 4 b0 0 93 [(0, .ref (B + v0)), (1, .int v1), (2, .int v2), (3, .int v3)] [] M (fX11_join_l93 N v0 v1 v2 fu v3 M) := by
  induction fu with
  | zero => intro v3 M; exact z_none
  | succ fu ih => intro v3 M; exact z_fX11_join_l93_s C ht hr N v0 v1 v2 (fX11_join_l93 N v0 v1 v2 fu) v3 M h0 (fun v3 M => ih v3 M)
theorem z_fX11_join_l93 {p : Program} {l : Launch} {e : Env} {s : State} {m : MethodId} {args : Array Value} {below : List Frame} {meth : Method} {c : Code} {D : va_G} {cy : Nat → ClassId} {B : Nat} {kd : Nat → Nat} {n : Nat} {sa sv : Nat → Nat} (C : zC p l s m args meth c D cy B kd n sa sv RX11 cX11_join 4) (ht : ∀ x ∈ c.exceptionTable.toList, False) (hr : meth.sig.returnType = some (FieldType.int)) {b0 : Int32 × Mem} (N : Nat) (v0 : Nat) (v1 : Int32) (v2 : Int32) (fu : Nat) (v3 : Int32) (M : Mem) (h0 : kd v0 = 11)  : Z p l e (rmz 2 0) s m args below meth c (vx_MQ below (QcR D cy B kd n (cvI b0)) (XcR D cy B kd n (cvI b0)) args s 0 (6 * 0) (AA B kd n)) D cy B kd n 4 b0 0 93 [(0, .ref (B + v0)), (1, .int v1), (2, .int v2), (3, .int v3)] [] M (fX11_join_l93 N v0 v1 v2 fu v3 M) := z_fX11_join_l93_i C ht hr N v0 v1 v2 h0 fu v3 M
set_option maxHeartbeats 4000000 in
set_option maxRecDepth 100000 in
theorem z_fX11_join_l29_s {p : Program} {l : Launch} {e : Env} {s : State} {m : MethodId} {args : Array Value} {below : List Frame} {meth : Method} {c : Code} {D : va_G} {cy : Nat → ClassId} {B : Nat} {kd : Nat → Nat} {n : Nat} {sa sv : Nat → Nat} (C : zC p l s m args meth c D cy B kd n sa sv RX11 cX11_join 4) (ht : ∀ x ∈ c.exceptionTable.toList, False) (hr : meth.sig.returnType = some (FieldType.int)) {b0 : Int32 × Mem} (N : Nat) (v0 : Nat) (v1 : Int32) (v2 : Int32) (M : Mem) (k29 : Int32 → Option (Int32 × Mem)) (v3 : Int32) (h0 : kd v0 = 11)  (hk29 : ∀ (v3 : Int32), Z p l e (rmz 2 0) s m args below meth c (vx_MQ below (QcR D cy B kd n (cvI b0)) (XcR D cy B kd n (cvI b0)) args s 0 (6 * 0) (AA B kd n)) D cy B kd n 4 b0 0 29 [(0, .ref (B + v0)), (1, .int v1), (2, .int v2), (3, .int v3)] [] M (k29 v3)) : Z p l e (rmz 2 0) s m args below meth c (vx_MQ below (QcR D cy B kd n (cvI b0)) (XcR D cy B kd n (cvI b0)) args s 0 (6 * 0) (AA B kd n)) D cy B kd n 4 b0 0 29 [(0, .ref (B + v0)), (1, .int v1), (2, .int v2), (3, .int v3)] [] M (fX11_join_l29_s N v0 v1 v2 M k29 v3) := by
  unfold fX11_join_l29_s
  refine z_iload_n C 3 3 dX11_join_29 rfl rfl ?_
  refine z_iconst C dX11_join_30 rfl ?_
  refine z_icmp_gt C 61 dX11_join_31 rfl (fun _ => ?_) (fun _ => ?_)
  · refine z_aload_n C 0 0 dX11_join_61 rfl rfl ?_
    refine z_iload_n C 1 1 dX11_join_62 rfl rfl ?_
    refine z_iconst C dX11_join_63 rfl ?_
    refine z_callV_pI (As := [.int v1, .int (0 : Int32)]) (rest := []) C rfl (ctX11_get (zG_of C) v0 v1 (0 : Int32) h0 M) cw_RX11_237 rfl (okM_X11_get) rfl cl11 h0 (okR_of rfl) (Nat.le_of_ble_eq_true rfl) dX11_join_64 (fun qj1 _ => ?_)
    refine z_callS_pB (As := [.int qj1]) (rest := []) C rfl (ctX11_isCounted (zG_of C) qj1 M) cw_RX11_314 (okM_X11_isCounted) rfl (okR_of rfl) (Nat.le_of_ble_eq_true rfl) dX11_join_67 (fun qj2 _ => ?_)
    refine z_if_neB C 79 dX11_join_70 rfl (fun _ => ?_) (fun _ => ?_)
    · refine z_iload_n C 1 1 dX11_join_79 rfl rfl ?_
      refine z_iload_n C 2 2 dX11_join_80 rfl rfl ?_
      refine z_icmp_ne C 90 dX11_join_81 rfl (fun _ => ?_) (fun _ => ?_)
      · refine z_aload_n C 0 0 dX11_join_84 rfl rfl ?_
        refine z_iconst C dX11_join_85 rfl ?_
        refine z_callV_I (As := [.int (3 : Int32)]) (rest := []) C rfl (ctX11_fails (zG_of C) v0 (3 : Int32) h0 M) cw_RX11_201 rfl (okM_X11_fails) rfl cl11 h0 (okR_of rfl) (Nat.le_of_ble_eq_true rfl) dX11_join_86 (fun qj3 _ => ?_)
        exact z_iret C hr (Nat.le_of_ble_eq_true rfl) dX11_join_89 rfl
      · refine z_bipush (v := 10) C dX11_join_90 rfl ?_
        refine z_istore_n C 3 (ls1 := [(3, .int (10 : Int32)), (0, .ref (B + v0)), (1, .int v1), (2, .int v2)]) dX11_join_92 rfl (by decide) rfl ?_
        exact z_jump (ls1 := [(0, .ref (B + v0)), (1, .int v1), (2, .int v2), (3, .int (10 : Int32))]) (Nat.le_of_ble_eq_true rfl) [1, 2, 3, 0] rfl (z_fX11_join_l93 C ht hr N v0 v1 v2 N (10 : Int32) M h0)
    · refine z_aload_n C 0 0 dX11_join_73 rfl rfl ?_
      refine z_iconst C dX11_join_74 rfl ?_
      refine z_callV_I (As := [.int (2 : Int32)]) (rest := []) C rfl (ctX11_fails (zG_of C) v0 (2 : Int32) h0 M) cw_RX11_201 rfl (okM_X11_fails) rfl cl11 h0 (okR_of rfl) (Nat.le_of_ble_eq_true rfl) dX11_join_75 (fun qj4 _ => ?_)
      exact z_iret C hr (Nat.le_of_ble_eq_true rfl) dX11_join_78 rfl
  · refine z_aload_n C 0 0 dX11_join_34 rfl rfl ?_
    refine z_iload_n C 1 1 dX11_join_35 rfl rfl ?_
    refine z_iload_n C 3 3 dX11_join_36 rfl rfl ?_
    refine z_callV_pI (As := [.int v1, .int v3]) (rest := []) C rfl (ctX11_get (zG_of C) v0 v1 v3 h0 M) cw_RX11_237 rfl (okM_X11_get) rfl cl11 h0 (okR_of rfl) (Nat.le_of_ble_eq_true rfl) dX11_join_37 (fun qj5 _ => ?_)
    refine z_aload_n C 0 0 dX11_join_40 rfl rfl ?_
    refine z_iload_n C 2 2 dX11_join_41 rfl rfl ?_
    refine z_iload_n C 3 3 dX11_join_42 rfl rfl ?_
    refine z_callV_pI (As := [.int v2, .int v3]) (rest := [.int qj5]) C rfl (ctX11_get (zG_of C) v0 v2 v3 h0 M) cw_RX11_237 rfl (okM_X11_get) rfl cl11 h0 (okR_of rfl) (Nat.le_of_ble_eq_true rfl) dX11_join_43 (fun qj6 _ => ?_)
    refine z_icmp_eq C 55 dX11_join_46 rfl (fun _ => ?_) (fun _ => ?_)
    · refine z_iinc C 3 3 (v := v3) (v1 := (v3 + (1 : Int32))) (ls1 := [(3, .int (v3 + (1 : Int32))), (0, .ref (B + v0)), (1, .int v1), (2, .int v2)]) dX11_join_55 rfl rfl (by decide) rfl ?_
      refine z_goto C 29 dX11_join_58 rfl ?_
      exact z_jump (ls1 := [(0, .ref (B + v0)), (1, .int v1), (2, .int v2), (3, .int (v3 + (1 : Int32)))]) (Nat.le_of_ble_eq_true rfl) [1, 2, 3, 0] rfl (hk29 (v3 + (1 : Int32)))
    · refine z_aload_n C 0 0 dX11_join_49 rfl rfl ?_
      refine z_iconst C dX11_join_50 rfl ?_
      refine z_callV_I (As := [.int (2 : Int32)]) (rest := []) C rfl (ctX11_fails (zG_of C) v0 (2 : Int32) h0 M) cw_RX11_201 rfl (okM_X11_fails) rfl cl11 h0 (okR_of rfl) (Nat.le_of_ble_eq_true rfl) dX11_join_51 (fun qj7 _ => ?_)
      exact z_iret C hr (Nat.le_of_ble_eq_true rfl) dX11_join_54 rfl
theorem z_fX11_join_l29_i {p : Program} {l : Launch} {e : Env} {s : State} {m : MethodId} {args : Array Value} {below : List Frame} {meth : Method} {c : Code} {D : va_G} {cy : Nat → ClassId} {B : Nat} {kd : Nat → Nat} {n : Nat} {sa sv : Nat → Nat} (C : zC p l s m args meth c D cy B kd n sa sv RX11 cX11_join 4) (ht : ∀ x ∈ c.exceptionTable.toList, False) (hr : meth.sig.returnType = some (FieldType.int)) {b0 : Int32 × Mem} (N : Nat) (v0 : Nat) (v1 : Int32) (v2 : Int32) (M : Mem) (h0 : kd v0 = 11)  (fu : Nat) : ∀ (v3 : Int32), Z p l e (rmz 2 0) s m args below meth c (vx_MQ below (QcR D cy B kd n (cvI b0)) (XcR D cy B kd n (cvI b0)) args s 0 (6 * 0) (AA B kd n)) D cy B kd n 4 b0 0 29 [(0, .ref (B + v0)), (1, .int v1), (2, .int v2), (3, .int v3)] [] M (fX11_join_l29 N v0 v1 v2 M fu v3) := by
  induction fu with
  | zero => intro v3; exact z_none
  | succ fu ih => intro v3; exact z_fX11_join_l29_s C ht hr N v0 v1 v2 M (fX11_join_l29 N v0 v1 v2 M fu) v3 h0 (fun v3 => ih v3)
theorem z_fX11_join_l29 {p : Program} {l : Launch} {e : Env} {s : State} {m : MethodId} {args : Array Value} {below : List Frame} {meth : Method} {c : Code} {D : va_G} {cy : Nat → ClassId} {B : Nat} {kd : Nat → Nat} {n : Nat} {sa sv : Nat → Nat} (C : zC p l s m args meth c D cy B kd n sa sv RX11 cX11_join 4) (ht : ∀ x ∈ c.exceptionTable.toList, False) (hr : meth.sig.returnType = some (FieldType.int)) {b0 : Int32 × Mem} (N : Nat) (v0 : Nat) (v1 : Int32) (v2 : Int32) (M : Mem) (fu : Nat) (v3 : Int32) (h0 : kd v0 = 11)  : Z p l e (rmz 2 0) s m args below meth c (vx_MQ below (QcR D cy B kd n (cvI b0)) (XcR D cy B kd n (cvI b0)) args s 0 (6 * 0) (AA B kd n)) D cy B kd n 4 b0 0 29 [(0, .ref (B + v0)), (1, .int v1), (2, .int v2), (3, .int v3)] [] M (fX11_join_l29 N v0 v1 v2 M fu v3) := z_fX11_join_l29_i C ht hr N v0 v1 v2 M h0 fu v3
set_option maxHeartbeats 4000000 in
set_option maxRecDepth 100000 in
theorem z_fX11_join_b21 {p : Program} {l : Launch} {e : Env} {s : State} {m : MethodId} {args : Array Value} {below : List Frame} {meth : Method} {c : Code} {D : va_G} {cy : Nat → ClassId} {B : Nat} {kd : Nat → Nat} {n : Nat} {sa sv : Nat → Nat} (C : zC p l s m args meth c D cy B kd n sa sv RX11 cX11_join 4) (ht : ∀ x ∈ c.exceptionTable.toList, False) (hr : meth.sig.returnType = some (FieldType.int)) {b0 : Int32 × Mem}  (N : Nat) (v0 : Nat) (M : Mem) (h0 : kd v0 = 11)  : Z p l e (rmz 2 0) s m args below meth c (vx_MQ below (QcR D cy B kd n (cvI b0)) (XcR D cy B kd n (cvI b0)) args s 0 (6 * 0) (AA B kd n)) D cy B kd n 4 b0 0 21 [(0, .ref (B + v0))] [] M (fX11_join_b21 N v0 M) := by
  unfold fX11_join_b21
  refine z_aload_n C 0 0 dX11_join_21 rfl rfl ?_
  refine z_iconst C dX11_join_22 rfl ?_
  refine z_callV_I (As := [.int (1 : Int32)]) (rest := []) C rfl (ctX11_fails (zG_of C) v0 (1 : Int32) h0 M) cw_RX11_201 rfl (okM_X11_fails) rfl cl11 h0 (okR_of rfl) (Nat.le_of_ble_eq_true rfl) dX11_join_23 (fun qj1 _ => ?_)
  exact z_iret C hr (Nat.le_of_ble_eq_true rfl) dX11_join_26 rfl
set_option maxHeartbeats 4000000 in
set_option maxRecDepth 100000 in
theorem ctX11_join {l : Launch} {D : va_G} {cy : Nat → ClassId} {B : Nat} {kd : Nat → Nat} {n : Nat} {sa sv : Nat → Nat} (G : zG l kd n) (N : Nat) (v0 : Nat) (v1 : Int32) (v2 : Int32) (h0 : kd v0 = 11) (M : Mem) : CT l D cy B kd n sa sv 2 0 yX11_join cX11_join 4 (some (FieldType.int)) cvI [.ref (B + v0), .int v1, .int v2] M (fX11_join N v0 v1 v2 M) := by
  refine ct_of (by decide) G.1 G.2 (Nat.le_of_ble_eq_true rfl) (ls := [(0, .ref (B + v0)), (1, .int v1), (2, .int v2)]) rfl ?_
  intro p e s m args below meth c b0 C ht hr
  unfold fX11_join
  refine z_aload_n C 0 0 dX11_join_0 rfl rfl ?_
  refine z_iconst C dX11_join_1 rfl ?_
  refine z_putI (k := 5) C cl11 h0 rfl gw_7_15 rfl rfl rfl dX11_join_2 ?_
  refine z_aload_n C 0 0 dX11_join_5 rfl rfl ?_
  refine z_iload_n C 1 1 dX11_join_6 rfl rfl ?_
  refine z_callV_pB (As := [.int v1]) (rest := []) C rfl (ctX11_isRow (zG_of C) v0 v1 h0 (wI M v0 5 (0 : Int32))) cw_RX11_256 rfl (okM_X11_isRow) rfl cl11 h0 (okR_of rfl) (Nat.le_of_ble_eq_true rfl) dX11_join_7 (fun qj1 _ => ?_)
  refine z_if_eqB C 21 dX11_join_10 rfl (fun _ => ?_) (fun _ => ?_)
  · refine z_aload_n C 0 0 dX11_join_13 rfl rfl ?_
    refine z_iload_n C 2 2 dX11_join_14 rfl rfl ?_
    refine z_callV_pB (As := [.int v2]) (rest := []) C rfl (ctX11_isRow (zG_of C) v0 v2 h0 (wI M v0 5 (0 : Int32))) cw_RX11_256 rfl (okM_X11_isRow) rfl cl11 h0 (okR_of rfl) (Nat.le_of_ble_eq_true rfl) dX11_join_15 (fun qj2 _ => ?_)
    refine z_if_neB C 27 dX11_join_18 rfl (fun _ => ?_) (fun _ => ?_)
    · refine z_iconst C dX11_join_27 rfl ?_
      refine z_istore_n C 3 (ls1 := [(3, .int (0 : Int32)), (0, .ref (B + v0)), (1, .int v1), (2, .int v2)]) dX11_join_28 rfl (by decide) rfl ?_
      exact z_jump (ls1 := [(0, .ref (B + v0)), (1, .int v1), (2, .int v2), (3, .int (0 : Int32))]) (Nat.le_of_ble_eq_true rfl) [1, 2, 3, 0] rfl (z_fX11_join_l29 C ht hr N v0 v1 v2 (wI M v0 5 (0 : Int32)) N (0 : Int32) h0)
    · exact z_jump (ls1 := [(0, .ref (B + v0))]) (Nat.le_of_ble_eq_true rfl) [0] rfl (z_fX11_join_b21 C ht hr N v0 (wI M v0 5 (0 : Int32)) h0)
  · exact z_jump (ls1 := [(0, .ref (B + v0))]) (Nat.le_of_ble_eq_true rfl) [0] rfl (z_fX11_join_b21 C ht hr N v0 (wI M v0 5 (0 : Int32)) h0)
set_option maxHeartbeats 4000000 in
set_option maxRecDepth 100000 in
theorem z_fX11_halve_b43 {p : Program} {l : Launch} {e : Env} {s : State} {m : MethodId} {args : Array Value} {below : List Frame} {meth : Method} {c : Code} {D : va_G} {cy : Nat → ClassId} {B : Nat} {kd : Nat → Nat} {n : Nat} {sa sv : Nat → Nat} (C : zC p l s m args meth c D cy B kd n sa sv RX11 cX11_halve 4) (ht : ∀ x ∈ c.exceptionTable.toList, False) (hr : meth.sig.returnType = some (FieldType.int)) {b0 : Int32 × Mem}  (N : Nat) (v0 : Nat) (M : Mem) (h0 : kd v0 = 11)  : Z p l e (rmz 2 0) s m args below meth c (vx_MQ below (QcR D cy B kd n (cvI b0)) (XcR D cy B kd n (cvI b0)) args s 0 (6 * 0) (AA B kd n)) D cy B kd n 4 b0 0 43 [(0, .ref (B + v0))] [] M (fX11_halve_b43 N v0 M) := by
  unfold fX11_halve_b43
  refine z_aload_n C 0 0 dX11_halve_43 rfl rfl ?_
  refine z_iconst C dX11_halve_44 rfl ?_
  refine z_callV_I (As := [.int (2 : Int32)]) (rest := []) C rfl (ctX11_fails (zG_of C) v0 (2 : Int32) h0 M) cw_RX11_201 rfl (okM_X11_fails) rfl cl11 h0 (okR_of rfl) (Nat.le_of_ble_eq_true rfl) dX11_halve_45 (fun qj1 _ => ?_)
  exact z_iret C hr (Nat.le_of_ble_eq_true rfl) dX11_halve_48 rfl
set_option maxHeartbeats 4000000 in
set_option maxRecDepth 100000 in
theorem z_fX11_halve_l61_s {p : Program} {l : Launch} {e : Env} {s : State} {m : MethodId} {args : Array Value} {below : List Frame} {meth : Method} {c : Code} {D : va_G} {cy : Nat → ClassId} {B : Nat} {kd : Nat → Nat} {n : Nat} {sa sv : Nat → Nat} (C : zC p l s m args meth c D cy B kd n sa sv RX11 cX11_halve 4) (ht : ∀ x ∈ c.exceptionTable.toList, False) (hr : meth.sig.returnType = some (FieldType.int)) {b0 : Int32 × Mem} (N : Nat) (v0 : Nat) (v1 : Int32) (v2 : Int32) (k61 : Int32 → Mem → Option (Int32 × Mem)) (v3 : Int32) (M : Mem) (h0 : kd v0 = 11)  (hk61 : ∀ (v3 : Int32) (M : Mem), Z p l e (rmz 2 0) s m args below meth c (vx_MQ below (QcR D cy B kd n (cvI b0)) (XcR D cy B kd n (cvI b0)) args s 0 (6 * 0) (AA B kd n)) D cy B kd n 4 b0 0 61 [(0, .ref (B + v0)), (1, .int v1), (2, .int v2), (3, .int v3)] [] M (k61 v3 M)) : Z p l e (rmz 2 0) s m args below meth c (vx_MQ below (QcR D cy B kd n (cvI b0)) (XcR D cy B kd n (cvI b0)) args s 0 (6 * 0) (AA B kd n)) D cy B kd n 4 b0 0 61 [(0, .ref (B + v0)), (1, .int v1), (2, .int v2), (3, .int v3)] [] M (fX11_halve_l61_s N v0 v1 v2 k61 v3 M) := by
  unfold fX11_halve_l61_s
  refine z_iload_n C 3 3 dX11_halve_61 rfl rfl ?_
  refine z_bipush (v := 10) C dX11_halve_62 rfl ?_
  refine z_iload_n C 2 2 dX11_halve_64 rfl rfl ?_
  refine z_iadd C dX11_halve_65 ?_
  refine z_icmp_ge C 109 dX11_halve_66 rfl (fun _ => ?_) (fun _ => ?_)
  · refine z_aload_n C 0 0 dX11_halve_109 rfl rfl ?_
    refine z_iload_n C 1 1 dX11_halve_110 rfl rfl ?_
    refine z_iconst C dX11_halve_111 rfl ?_
    refine z_iload_n C 2 2 dX11_halve_112 rfl rfl ?_
    refine z_callV_V (As := [.int v1, .int (1 : Int32), .int v2]) (rest := []) C rfl (ctX11_set (zG_of C) v0 v1 (1 : Int32) v2 h0 M) cw_RX11_252 rfl (okM_X11_set) rfl cl11 h0 (okR_of rfl) (Nat.le_of_ble_eq_true rfl) dX11_halve_113 (fun qj1 _ => ?_)
    refine z_iload_n C 2 2 dX11_halve_116 rfl rfl ?_
    exact z_iret C hr (Nat.le_of_ble_eq_true rfl) dX11_halve_117 rfl
  · refine z_aload_n C 0 0 dX11_halve_69 rfl rfl ?_
    refine z_iload_n C 1 1 dX11_halve_70 rfl rfl ?_
    refine z_iload_n C 3 3 dX11_halve_71 rfl rfl ?_
    refine z_aload_n C 0 0 dX11_halve_72 rfl rfl ?_
    refine z_iload_n C 1 1 dX11_halve_73 rfl rfl ?_
    refine z_aload_n C 0 0 dX11_halve_74 rfl rfl ?_
    refine z_iload_n C 1 1 dX11_halve_75 rfl rfl ?_
    refine z_iload_n C 3 3 dX11_halve_76 rfl rfl ?_
    refine z_callV_pI (As := [.int v1, .int v3]) (rest := [.int v1, .ref (B + v0), .int v3, .int v1, .ref (B + v0)]) C rfl (ctX11_get (zG_of C) v0 v1 v3 h0 M) cw_RX11_237 rfl (okM_X11_get) rfl cl11 h0 (okR_of rfl) (Nat.le_of_ble_eq_true rfl) dX11_halve_77 (fun qj2 _ => ?_)
    refine z_aload_n C 0 0 dX11_halve_80 rfl rfl ?_
    refine z_iload_n C 1 1 dX11_halve_81 rfl rfl ?_
    refine z_iload_n C 3 3 dX11_halve_82 rfl rfl ?_
    refine z_iload_n C 2 2 dX11_halve_83 rfl rfl ?_
    refine z_iadd C dX11_halve_84 ?_
    refine z_callV_pI (As := [.int v1, .int (v3 + v2)]) (rest := [.int qj2, .int v1, .ref (B + v0), .int v3, .int v1, .ref (B + v0)]) C rfl (ctX11_get (zG_of C) v0 v1 (v3 + v2) h0 M) cw_RX11_237 rfl (okM_X11_get) rfl cl11 h0 (okR_of rfl) (Nat.le_of_ble_eq_true rfl) dX11_halve_85 (fun qj3 _ => ?_)
    refine z_callV_pI (As := [.int v1, .int qj2, .int qj3]) (rest := [.int v3, .int v1, .ref (B + v0)]) C rfl (ctX11_together (zG_of C) v0 v1 qj2 qj3 h0 M) cw_RX11_317 rfl (okM_X11_together) rfl cl11 h0 (okR_of rfl) (Nat.le_of_ble_eq_true rfl) dX11_halve_88 (fun qj4 _ => ?_)
    refine z_callV_V (As := [.int v1, .int v3, .int qj4]) (rest := []) C rfl (ctX11_set (zG_of C) v0 v1 v3 qj4 h0 M) cw_RX11_252 rfl (okM_X11_set) rfl cl11 h0 (okR_of rfl) (Nat.le_of_ble_eq_true rfl) dX11_halve_91 (fun qj5 _ => ?_)
    refine z_aload_n C 0 0 dX11_halve_94 rfl rfl ?_
    refine z_iload_n C 1 1 dX11_halve_95 rfl rfl ?_
    refine z_iload_n C 3 3 dX11_halve_96 rfl rfl ?_
    refine z_iload_n C 2 2 dX11_halve_97 rfl rfl ?_
    refine z_iadd C dX11_halve_98 ?_
    refine z_iconst C dX11_halve_99 rfl ?_
    refine z_callV_V (As := [.int v1, .int (v3 + v2), .int (0 : Int32)]) (rest := []) C rfl (ctX11_set (zG_of C) v0 v1 (v3 + v2) (0 : Int32) h0 qj5) cw_RX11_252 rfl (okM_X11_set) rfl cl11 h0 (okR_of rfl) (Nat.le_of_ble_eq_true rfl) dX11_halve_100 (fun qj6 _ => ?_)
    refine z_iinc C 3 3 (v := v3) (v1 := (v3 + (1 : Int32))) (ls1 := [(3, .int (v3 + (1 : Int32))), (0, .ref (B + v0)), (1, .int v1), (2, .int v2)]) dX11_halve_103 rfl rfl (by decide) rfl ?_
    refine z_goto C 61 dX11_halve_106 rfl ?_
    exact z_jump (ls1 := [(0, .ref (B + v0)), (1, .int v1), (2, .int v2), (3, .int (v3 + (1 : Int32)))]) (Nat.le_of_ble_eq_true rfl) [1, 2, 3, 0] rfl (hk61 (v3 + (1 : Int32)) qj6)
theorem z_fX11_halve_l61_i {p : Program} {l : Launch} {e : Env} {s : State} {m : MethodId} {args : Array Value} {below : List Frame} {meth : Method} {c : Code} {D : va_G} {cy : Nat → ClassId} {B : Nat} {kd : Nat → Nat} {n : Nat} {sa sv : Nat → Nat} (C : zC p l s m args meth c D cy B kd n sa sv RX11 cX11_halve 4) (ht : ∀ x ∈ c.exceptionTable.toList, False) (hr : meth.sig.returnType = some (FieldType.int)) {b0 : Int32 × Mem} (N : Nat) (v0 : Nat) (v1 : Int32) (v2 : Int32) (h0 : kd v0 = 11)  (fu : Nat) : ∀ (v3 : Int32) (M : Mem), Z p l e (rmz 2 0) s m args below meth c (vx_MQ below (QcR D cy B kd n (cvI b0)) (XcR D cy B kd n (cvI b0)) args s 0 (6 * 0) (AA B kd n)) D cy B kd n 4 b0 0 61 [(0, .ref (B + v0)), (1, .int v1), (2, .int v2), (3, .int v3)] [] M (fX11_halve_l61 N v0 v1 v2 fu v3 M) := by
  induction fu with
  | zero => intro v3 M; exact z_none
  | succ fu ih => intro v3 M; exact z_fX11_halve_l61_s C ht hr N v0 v1 v2 (fX11_halve_l61 N v0 v1 v2 fu) v3 M h0 (fun v3 M => ih v3 M)
theorem z_fX11_halve_l61 {p : Program} {l : Launch} {e : Env} {s : State} {m : MethodId} {args : Array Value} {below : List Frame} {meth : Method} {c : Code} {D : va_G} {cy : Nat → ClassId} {B : Nat} {kd : Nat → Nat} {n : Nat} {sa sv : Nat → Nat} (C : zC p l s m args meth c D cy B kd n sa sv RX11 cX11_halve 4) (ht : ∀ x ∈ c.exceptionTable.toList, False) (hr : meth.sig.returnType = some (FieldType.int)) {b0 : Int32 × Mem} (N : Nat) (v0 : Nat) (v1 : Int32) (v2 : Int32) (fu : Nat) (v3 : Int32) (M : Mem) (h0 : kd v0 = 11)  : Z p l e (rmz 2 0) s m args below meth c (vx_MQ below (QcR D cy B kd n (cvI b0)) (XcR D cy B kd n (cvI b0)) args s 0 (6 * 0) (AA B kd n)) D cy B kd n 4 b0 0 61 [(0, .ref (B + v0)), (1, .int v1), (2, .int v2), (3, .int v3)] [] M (fX11_halve_l61 N v0 v1 v2 fu v3 M) := z_fX11_halve_l61_i C ht hr N v0 v1 v2 h0 fu v3 M
set_option maxHeartbeats 4000000 in
set_option maxRecDepth 100000 in
theorem ctX11_halve {l : Launch} {D : va_G} {cy : Nat → ClassId} {B : Nat} {kd : Nat → Nat} {n : Nat} {sa sv : Nat → Nat} (G : zG l kd n) (N : Nat) (v0 : Nat) (v1 : Int32) (h0 : kd v0 = 11) (M : Mem) : CT l D cy B kd n sa sv 2 0 yX11_halve cX11_halve 4 (some (FieldType.int)) cvI [.ref (B + v0), .int v1] M (fX11_halve N v0 v1 M) := by
  refine ct_of (by decide) G.1 G.2 (Nat.le_of_ble_eq_true rfl) (ls := [(0, .ref (B + v0)), (1, .int v1)]) rfl ?_
  intro p e s m args below meth c b0 C ht hr
  unfold fX11_halve
  refine z_aload_n C 0 0 dX11_halve_0 rfl rfl ?_
  refine z_iconst C dX11_halve_1 rfl ?_
  refine z_putI (k := 5) C cl11 h0 rfl gw_7_15 rfl rfl rfl dX11_halve_2 ?_
  refine z_aload_n C 0 0 dX11_halve_5 rfl rfl ?_
  refine z_iload_n C 1 1 dX11_halve_6 rfl rfl ?_
  refine z_callV_pB (As := [.int v1]) (rest := []) C rfl (ctX11_isRow (zG_of C) v0 v1 h0 (wI M v0 5 (0 : Int32))) cw_RX11_256 rfl (okM_X11_isRow) rfl cl11 h0 (okR_of rfl) (Nat.le_of_ble_eq_true rfl) dX11_halve_7 (fun qj1 _ => ?_)
  refine z_if_neB C 19 dX11_halve_10 rfl (fun _ => ?_) (fun _ => ?_)
  · refine z_aload_n C 0 0 dX11_halve_19 rfl rfl ?_
    refine z_iload_n C 1 1 dX11_halve_20 rfl rfl ?_
    refine z_iconst C dX11_halve_21 rfl ?_
    refine z_callV_pI (As := [.int v1, .int (0 : Int32)]) (rest := []) C rfl (ctX11_get (zG_of C) v0 v1 (0 : Int32) h0 (wI M v0 5 (0 : Int32))) cw_RX11_237 rfl (okM_X11_get) rfl cl11 h0 (okR_of rfl) (Nat.le_of_ble_eq_true rfl) dX11_halve_22 (fun qj2 _ => ?_)
    refine z_callS_pB (As := [.int qj2]) (rest := []) C rfl (ctX11_isCounted (zG_of C) qj2 (wI M v0 5 (0 : Int32))) cw_RX11_314 (okM_X11_isCounted) rfl (okR_of rfl) (Nat.le_of_ble_eq_true rfl) dX11_halve_25 (fun qj3 _ => ?_)
    refine z_if_eqB C 43 dX11_halve_28 rfl (fun _ => ?_) (fun _ => ?_)
    · refine z_aload_n C 0 0 dX11_halve_31 rfl rfl ?_
      refine z_iload_n C 1 1 dX11_halve_32 rfl rfl ?_
      refine z_iconst C dX11_halve_33 rfl ?_
      refine z_callV_pI (As := [.int v1, .int (1 : Int32)]) (rest := []) C rfl (ctX11_get (zG_of C) v0 v1 (1 : Int32) h0 (wI M v0 5 (0 : Int32))) cw_RX11_237 rfl (okM_X11_get) rfl cl11 h0 (okR_of rfl) (Nat.le_of_ble_eq_true rfl) dX11_halve_34 (fun qj4 _ => ?_)
      refine z_iconst C dX11_halve_37 rfl ?_
      refine z_iremK C dX11_halve_38 (by decide) ?_
      refine z_iconst C dX11_halve_39 rfl ?_
      refine z_icmp_ne C 49 dX11_halve_40 rfl (fun _ => ?_) (fun _ => ?_)
      · exact z_jump (ls1 := [(0, .ref (B + v0))]) (Nat.le_of_ble_eq_true rfl) [0] rfl (z_fX11_halve_b43 C ht hr N v0 (wI M v0 5 (0 : Int32)) h0)
      · refine z_aload_n C 0 0 dX11_halve_49 rfl rfl ?_
        refine z_iload_n C 1 1 dX11_halve_50 rfl rfl ?_
        refine z_iconst C dX11_halve_51 rfl ?_
        refine z_callV_pI (As := [.int v1, .int (1 : Int32)]) (rest := []) C rfl (ctX11_get (zG_of C) v0 v1 (1 : Int32) h0 (wI M v0 5 (0 : Int32))) cw_RX11_237 rfl (okM_X11_get) rfl cl11 h0 (okR_of rfl) (Nat.le_of_ble_eq_true rfl) dX11_halve_52 (fun qj5 _ => ?_)
        refine z_iconst C dX11_halve_55 rfl ?_
        refine z_idivK C dX11_halve_56 (by decide) ?_
        refine z_istore_n C 2 (ls1 := [(2, .int (qj5 / (2 : Int32))), (0, .ref (B + v0)), (1, .int v1)]) dX11_halve_57 rfl (by decide) rfl ?_
        refine z_bipush (v := 10) C dX11_halve_58 rfl ?_
        refine z_istore_n C 3 (ls1 := [(3, .int (10 : Int32)), (2, .int (qj5 / (2 : Int32))), (0, .ref (B + v0)), (1, .int v1)]) dX11_halve_60 rfl (by decide) rfl ?_
        exact z_jump (ls1 := [(0, .ref (B + v0)), (1, .int v1), (2, .int (qj5 / (2 : Int32))), (3, .int (10 : Int32))]) (Nat.le_of_ble_eq_true rfl) [2, 3, 1, 0] rfl (z_fX11_halve_l61 C ht hr N v0 v1 (qj5 / (2 : Int32)) N (10 : Int32) (wI M v0 5 (0 : Int32)) h0)
    · exact z_jump (ls1 := [(0, .ref (B + v0))]) (Nat.le_of_ble_eq_true rfl) [0] rfl (z_fX11_halve_b43 C ht hr N v0 (wI M v0 5 (0 : Int32)) h0)
  · refine z_aload_n C 0 0 dX11_halve_13 rfl rfl ?_
    refine z_iconst C dX11_halve_14 rfl ?_
    refine z_callV_I (As := [.int (1 : Int32)]) (rest := []) C rfl (ctX11_fails (zG_of C) v0 (1 : Int32) h0 (wI M v0 5 (0 : Int32))) cw_RX11_201 rfl (okM_X11_fails) rfl cl11 h0 (okR_of rfl) (Nat.le_of_ble_eq_true rfl) dX11_halve_15 (fun qj6 _ => ?_)
    exact z_iret C hr (Nat.le_of_ble_eq_true rfl) dX11_halve_18 rfl
set_option maxHeartbeats 4000000 in
set_option maxRecDepth 100000 in
theorem z_fX11_grow_b172 {p : Program} {l : Launch} {e : Env} {s : State} {m : MethodId} {args : Array Value} {below : List Frame} {meth : Method} {c : Code} {D : va_G} {cy : Nat → ClassId} {B : Nat} {kd : Nat → Nat} {n : Nat} {sa sv : Nat → Nat} (C : zC p l s m args meth c D cy B kd n sa sv RX11 cX11_grow 4) (ht : ∀ x ∈ c.exceptionTable.toList, False) (hr : meth.sig.returnType = some (FieldType.int)) {b0 : Int32 × Mem}  (N : Nat) (k112 : Int32 → Mem → Option (Int32 × Mem)) (v0 : Nat) (v1 : Int32) (v2 : Int32) (M : Mem) (h0 : kd v0 = 11) (hk112 : ∀ (v2 : Int32) (M : Mem), Z p l e (rmz 6 0) s m args below meth c (vx_MQ below (QcR D cy B kd n (cvI b0)) (XcR D cy B kd n (cvI b0)) args s 0 (6 * 0) (AA B kd n)) D cy B kd n 4 b0 0 112 [(0, .ref (B + v0)), (1, .int v1), (2, .int v2)] [] M (k112 v2 M)) : Z p l e (rmz 6 0) s m args below meth c (vx_MQ below (QcR D cy B kd n (cvI b0)) (XcR D cy B kd n (cvI b0)) args s 0 (6 * 0) (AA B kd n)) D cy B kd n 4 b0 0 172 [(0, .ref (B + v0)), (1, .int v1), (2, .int v2)] [] M (fX11_grow_b172 N k112 v0 v1 v2 M) := by
  unfold fX11_grow_b172
  refine z_iinc C 2 2 (v := v2) (v1 := (v2 + (1 : Int32))) (ls1 := [(2, .int (v2 + (1 : Int32))), (0, .ref (B + v0)), (1, .int v1)]) dX11_grow_172 rfl rfl (by decide) rfl ?_
  refine z_goto C 112 dX11_grow_175 rfl ?_
  exact z_jump (ls1 := [(0, .ref (B + v0)), (1, .int v1), (2, .int (v2 + (1 : Int32)))]) (Nat.le_of_ble_eq_true rfl) [1, 2, 0] rfl (hk112 (v2 + (1 : Int32)) M)
set_option maxHeartbeats 4000000 in
set_option maxRecDepth 100000 in
theorem z_fX11_grow_l145_s {p : Program} {l : Launch} {e : Env} {s : State} {m : MethodId} {args : Array Value} {below : List Frame} {meth : Method} {c : Code} {D : va_G} {cy : Nat → ClassId} {B : Nat} {kd : Nat → Nat} {n : Nat} {sa sv : Nat → Nat} (C : zC p l s m args meth c D cy B kd n sa sv RX11 cX11_grow 4) (ht : ∀ x ∈ c.exceptionTable.toList, False) (hr : meth.sig.returnType = some (FieldType.int)) {b0 : Int32 × Mem} (N : Nat) (v0 : Nat) (v1 : Int32) (k145 : Int32 → Mem → Option (Int32 × Mem)) (v3 : Int32) (M : Mem) (h0 : kd v0 = 11)  (hk145 : ∀ (v3 : Int32) (M : Mem), Z p l e (rmz 6 0) s m args below meth c (vx_MQ below (QcR D cy B kd n (cvI b0)) (XcR D cy B kd n (cvI b0)) args s 0 (6 * 0) (AA B kd n)) D cy B kd n 4 b0 0 145 [(0, .ref (B + v0)), (1, .int v1), (3, .int v3)] [] M (k145 v3 M)) : Z p l e (rmz 6 0) s m args below meth c (vx_MQ below (QcR D cy B kd n (cvI b0)) (XcR D cy B kd n (cvI b0)) args s 0 (6 * 0) (AA B kd n)) D cy B kd n 4 b0 0 145 [(0, .ref (B + v0)), (1, .int v1), (3, .int v3)] [] M (fX11_grow_l145_s N v0 v1 k145 v3 M) := by
  unfold fX11_grow_l145_s
  refine z_iload_n C 3 2 dX11_grow_145 rfl rfl ?_
  refine z_sipush (v := 512) C dX11_grow_146 rfl ?_
  refine z_icmp_ge C 170 dX11_grow_149 rfl (fun _ => ?_) (fun _ => ?_)
  · refine z_iconst C dX11_grow_170 rfl ?_
    exact z_iret C hr (Nat.le_of_ble_eq_true rfl) dX11_grow_171 rfl
  · refine z_aload_n C 0 0 dX11_grow_152 rfl rfl ?_
    refine z_iload_n C 1 1 dX11_grow_153 rfl rfl ?_
    refine z_iload_n C 3 2 dX11_grow_154 rfl rfl ?_
    refine z_aload_n C 0 0 dX11_grow_155 rfl rfl ?_
    refine z_getR (k := 3) C cl11 h0 rfl gw_7_13 rfl dX11_grow_156 ?_
    have j1 : kd (v0 + 4) = 38 := zkd C h0 (k := 3) rfl
    refine z_iload_n C 3 2 dX11_grow_159 rfl rfl ?_
    refine z_iald C j1 rfl (by decide) dX11_grow_160 (fun j2 => ?_)
    refine z_callV_V (As := [.int v1, .int v3, .int (rI M (v0 + 4) v3.toNatClampNeg)]) (rest := []) C rfl (ctX11_set (zG_of C) v0 v1 v3 (rI M (v0 + 4) v3.toNatClampNeg) h0 M) cw_RX11_252 rfl (okM_X11_set) rfl cl11 h0 (okR_of rfl) (Nat.le_of_ble_eq_true rfl) dX11_grow_161 (fun qj3 _ => ?_)
    refine z_iinc C 3 2 (v := v3) (v1 := (v3 + (1 : Int32))) (ls1 := [(3, .int (v3 + (1 : Int32))), (0, .ref (B + v0)), (1, .int v1)]) dX11_grow_164 rfl rfl (by decide) rfl ?_
    refine z_goto C 145 dX11_grow_167 rfl ?_
    exact z_jump (ls1 := [(0, .ref (B + v0)), (1, .int v1), (3, .int (v3 + (1 : Int32)))]) (Nat.le_of_ble_eq_true rfl) [1, 2, 0] rfl (hk145 (v3 + (1 : Int32)) qj3)
theorem z_fX11_grow_l145_i {p : Program} {l : Launch} {e : Env} {s : State} {m : MethodId} {args : Array Value} {below : List Frame} {meth : Method} {c : Code} {D : va_G} {cy : Nat → ClassId} {B : Nat} {kd : Nat → Nat} {n : Nat} {sa sv : Nat → Nat} (C : zC p l s m args meth c D cy B kd n sa sv RX11 cX11_grow 4) (ht : ∀ x ∈ c.exceptionTable.toList, False) (hr : meth.sig.returnType = some (FieldType.int)) {b0 : Int32 × Mem} (N : Nat) (v0 : Nat) (v1 : Int32) (h0 : kd v0 = 11)  (fu : Nat) : ∀ (v3 : Int32) (M : Mem), Z p l e (rmz 6 0) s m args below meth c (vx_MQ below (QcR D cy B kd n (cvI b0)) (XcR D cy B kd n (cvI b0)) args s 0 (6 * 0) (AA B kd n)) D cy B kd n 4 b0 0 145 [(0, .ref (B + v0)), (1, .int v1), (3, .int v3)] [] M (fX11_grow_l145 N v0 v1 fu v3 M) := by
  induction fu with
  | zero => intro v3 M; exact z_none
  | succ fu ih => intro v3 M; exact z_fX11_grow_l145_s C ht hr N v0 v1 (fX11_grow_l145 N v0 v1 fu) v3 M h0 (fun v3 M => ih v3 M)
theorem z_fX11_grow_l145 {p : Program} {l : Launch} {e : Env} {s : State} {m : MethodId} {args : Array Value} {below : List Frame} {meth : Method} {c : Code} {D : va_G} {cy : Nat → ClassId} {B : Nat} {kd : Nat → Nat} {n : Nat} {sa sv : Nat → Nat} (C : zC p l s m args meth c D cy B kd n sa sv RX11 cX11_grow 4) (ht : ∀ x ∈ c.exceptionTable.toList, False) (hr : meth.sig.returnType = some (FieldType.int)) {b0 : Int32 × Mem} (N : Nat) (v0 : Nat) (v1 : Int32) (fu : Nat) (v3 : Int32) (M : Mem) (h0 : kd v0 = 11)  : Z p l e (rmz 6 0) s m args below meth c (vx_MQ below (QcR D cy B kd n (cvI b0)) (XcR D cy B kd n (cvI b0)) args s 0 (6 * 0) (AA B kd n)) D cy B kd n 4 b0 0 145 [(0, .ref (B + v0)), (1, .int v1), (3, .int v3)] [] M (fX11_grow_l145 N v0 v1 fu v3 M) := z_fX11_grow_l145_i C ht hr N v0 v1 h0 fu v3 M
set_option maxHeartbeats 4000000 in
set_option maxRecDepth 100000 in
theorem z_fX11_grow_l112_s {p : Program} {l : Launch} {e : Env} {s : State} {m : MethodId} {args : Array Value} {below : List Frame} {meth : Method} {c : Code} {D : va_G} {cy : Nat → ClassId} {B : Nat} {kd : Nat → Nat} {n : Nat} {sa sv : Nat → Nat} (C : zC p l s m args meth c D cy B kd n sa sv RX11 cX11_grow 4) (ht : ∀ x ∈ c.exceptionTable.toList, False) (hr : meth.sig.returnType = some (FieldType.int)) {b0 : Int32 × Mem} (N : Nat) (v0 : Nat) (v1 : Int32) (k112 : Int32 → Mem → Option (Int32 × Mem)) (v2 : Int32) (M : Mem) (h0 : kd v0 = 11)  (hk112 : ∀ (v2 : Int32) (M : Mem), Z p l e (rmz 6 0) s m args below meth c (vx_MQ below (QcR D cy B kd n (cvI b0)) (XcR D cy B kd n (cvI b0)) args s 0 (6 * 0) (AA B kd n)) D cy B kd n 4 b0 0 112 [(0, .ref (B + v0)), (1, .int v1), (2, .int v2)] [] M (k112 v2 M)) : Z p l e (rmz 6 0) s m args below meth c (vx_MQ below (QcR D cy B kd n (cvI b0)) (XcR D cy B kd n (cvI b0)) args s 0 (6 * 0) (AA B kd n)) D cy B kd n 4 b0 0 112 [(0, .ref (B + v0)), (1, .int v1), (2, .int v2)] [] M (fX11_grow_l112_s N v0 v1 k112 v2 M) := by
  unfold fX11_grow_l112_s
  refine z_iload_n C 2 2 dX11_grow_112 rfl rfl ?_
  refine z_aload_n C 0 0 dX11_grow_113 rfl rfl ?_
  refine z_getR (k := 0) C cl11 h0 rfl gw_7_10 rfl dX11_grow_114 ?_
  have j1 : kd (v0 + 1) = 36 := zkd C h0 (k := 0) rfl
  refine z_iconst C dX11_grow_117 rfl ?_
  refine z_iald C j1 rfl (by decide) dX11_grow_118 (fun j2 => ?_)
  refine z_icmp_ge C 178 dX11_grow_119 rfl (fun _ => ?_) (fun _ => ?_)
  · refine z_aload_n C 0 0 dX11_grow_178 rfl rfl ?_
    refine z_iload_n C 1 1 dX11_grow_179 rfl rfl ?_
    refine z_iconst C dX11_grow_180 rfl ?_
    refine z_callV_pI (As := [.int v1, .int (1 : Int32)]) (rest := []) C rfl (ctX11_get (zG_of C) v0 v1 (1 : Int32) h0 M) cw_RX11_237 rfl (okM_X11_get) rfl cl11 h0 (okR_of rfl) (Nat.le_of_ble_eq_true rfl) dX11_grow_181 (fun qj3 _ => ?_)
    exact z_iret C hr (Nat.le_of_ble_eq_true rfl) dX11_grow_184 rfl
  · refine z_aload_n C 0 0 dX11_grow_122 rfl rfl ?_
    refine z_iload_n C 1 1 dX11_grow_123 rfl rfl ?_
    refine z_iload_n C 2 2 dX11_grow_124 rfl rfl ?_
    refine z_callV_pB (As := [.int v1, .int v2]) (rest := []) C rfl (ctX11_isIn (zG_of C) v0 v1 v2 h0 M) cw_RX11_300 rfl (okM_X11_isIn) rfl cl11 h0 (okR_of rfl) (Nat.le_of_ble_eq_true rfl) dX11_grow_125 (fun qj4 _ => ?_)
    refine z_if_eqB C 172 dX11_grow_128 rfl (fun _ => ?_) (fun _ => ?_)
    · refine z_aload_n C 0 0 dX11_grow_131 rfl rfl ?_
      refine z_iload_n C 1 1 dX11_grow_132 rfl rfl ?_
      refine z_iload_n C 2 2 dX11_grow_133 rfl rfl ?_
      refine z_callV_B (As := [.int v1, .int v2]) (rest := []) C rfl (ctX11_nestPuts (zG_of C) N v0 v1 v2 h0 M) cw_RX11_303 rfl (okM_X11_nestPuts) rfl cl11 h0 (okR_of rfl) (Nat.le_of_ble_eq_true rfl) dX11_grow_134 (fun qj5 _ => ?_)
      refine z_if_eqB C 143 dX11_grow_137 rfl (fun _ => ?_) (fun _ => ?_)
      · refine z_goto C 172 dX11_grow_140 rfl ?_
        exact z_jump (ls1 := [(0, .ref (B + v0)), (1, .int v1), (2, .int v2)]) (Nat.le_of_ble_eq_true rfl) [0, 1, 2] rfl (z_fX11_grow_b172 C ht hr N k112 v0 v1 v2 qj5.2 h0 hk112)
      · refine z_iconst C dX11_grow_143 rfl ?_
        refine z_istore_n C 3 (ls1 := [(3, .int (0 : Int32)), (0, .ref (B + v0)), (1, .int v1), (2, .int v2)]) dX11_grow_144 rfl (by decide) rfl ?_
        exact z_jump (ls1 := [(0, .ref (B + v0)), (1, .int v1), (3, .int (0 : Int32))]) (Nat.le_of_ble_eq_true rfl) [1, 2, 0] rfl (z_fX11_grow_l145 C ht hr N v0 v1 N (0 : Int32) qj5.2 h0)
    · exact z_jump (ls1 := [(0, .ref (B + v0)), (1, .int v1), (2, .int v2)]) (Nat.le_of_ble_eq_true rfl) [0, 1, 2] rfl (z_fX11_grow_b172 C ht hr N k112 v0 v1 v2 M h0 hk112)
theorem z_fX11_grow_l112_i {p : Program} {l : Launch} {e : Env} {s : State} {m : MethodId} {args : Array Value} {below : List Frame} {meth : Method} {c : Code} {D : va_G} {cy : Nat → ClassId} {B : Nat} {kd : Nat → Nat} {n : Nat} {sa sv : Nat → Nat} (C : zC p l s m args meth c D cy B kd n sa sv RX11 cX11_grow 4) (ht : ∀ x ∈ c.exceptionTable.toList, False) (hr : meth.sig.returnType = some (FieldType.int)) {b0 : Int32 × Mem} (N : Nat) (v0 : Nat) (v1 : Int32) (h0 : kd v0 = 11)  (fu : Nat) : ∀ (v2 : Int32) (M : Mem), Z p l e (rmz 6 0) s m args below meth c (vx_MQ below (QcR D cy B kd n (cvI b0)) (XcR D cy B kd n (cvI b0)) args s 0 (6 * 0) (AA B kd n)) D cy B kd n 4 b0 0 112 [(0, .ref (B + v0)), (1, .int v1), (2, .int v2)] [] M (fX11_grow_l112 N v0 v1 fu v2 M) := by
  induction fu with
  | zero => intro v2 M; exact z_none
  | succ fu ih => intro v2 M; exact z_fX11_grow_l112_s C ht hr N v0 v1 (fX11_grow_l112 N v0 v1 fu) v2 M h0 (fun v2 M => ih v2 M)
theorem z_fX11_grow_l112 {p : Program} {l : Launch} {e : Env} {s : State} {m : MethodId} {args : Array Value} {below : List Frame} {meth : Method} {c : Code} {D : va_G} {cy : Nat → ClassId} {B : Nat} {kd : Nat → Nat} {n : Nat} {sa sv : Nat → Nat} (C : zC p l s m args meth c D cy B kd n sa sv RX11 cX11_grow 4) (ht : ∀ x ∈ c.exceptionTable.toList, False) (hr : meth.sig.returnType = some (FieldType.int)) {b0 : Int32 × Mem} (N : Nat) (v0 : Nat) (v1 : Int32) (fu : Nat) (v2 : Int32) (M : Mem) (h0 : kd v0 = 11)  : Z p l e (rmz 6 0) s m args below meth c (vx_MQ below (QcR D cy B kd n (cvI b0)) (XcR D cy B kd n (cvI b0)) args s 0 (6 * 0) (AA B kd n)) D cy B kd n 4 b0 0 112 [(0, .ref (B + v0)), (1, .int v1), (2, .int v2)] [] M (fX11_grow_l112 N v0 v1 fu v2 M) := z_fX11_grow_l112_i C ht hr N v0 v1 h0 fu v2 M
set_option maxHeartbeats 4000000 in
set_option maxRecDepth 100000 in
theorem z_fX11_grow_l76_s {p : Program} {l : Launch} {e : Env} {s : State} {m : MethodId} {args : Array Value} {below : List Frame} {meth : Method} {c : Code} {D : va_G} {cy : Nat → ClassId} {B : Nat} {kd : Nat → Nat} {n : Nat} {sa sv : Nat → Nat} (C : zC p l s m args meth c D cy B kd n sa sv RX11 cX11_grow 4) (ht : ∀ x ∈ c.exceptionTable.toList, False) (hr : meth.sig.returnType = some (FieldType.int)) {b0 : Int32 × Mem} (N : Nat) (v0 : Nat) (v1 : Int32) (k76 : Int32 → Mem → Option (Int32 × Mem)) (v2 : Int32) (M : Mem) (h0 : kd v0 = 11)  (hk76 : ∀ (v2 : Int32) (M : Mem), Z p l e (rmz 6 0) s m args below meth c (vx_MQ below (QcR D cy B kd n (cvI b0)) (XcR D cy B kd n (cvI b0)) args s 0 (6 * 0) (AA B kd n)) D cy B kd n 4 b0 0 76 [(0, .ref (B + v0)), (1, .int v1), (2, .int v2)] [] M (k76 v2 M)) : Z p l e (rmz 6 0) s m args below meth c (vx_MQ below (QcR D cy B kd n (cvI b0)) (XcR D cy B kd n (cvI b0)) args s 0 (6 * 0) (AA B kd n)) D cy B kd n 4 b0 0 76 [(0, .ref (B + v0)), (1, .int v1), (2, .int v2)] [] M (fX11_grow_l76_s N v0 v1 k76 v2 M) := by
  unfold fX11_grow_l76_s
  refine z_iload_n C 2 2 dX11_grow_76 rfl rfl ?_
  refine z_sipush (v := 250) C dX11_grow_77 rfl ?_
  refine z_icmp_ge C 96 dX11_grow_80 rfl (fun _ => ?_) (fun _ => ?_)
  · refine z_aload_n C 0 0 dX11_grow_96 rfl rfl ?_
    refine z_iload_n C 1 1 dX11_grow_97 rfl rfl ?_
    refine z_iconst C dX11_grow_98 rfl ?_
    refine z_iconst C dX11_grow_99 rfl ?_
    refine z_aload_n C 0 0 dX11_grow_100 rfl rfl ?_
    refine z_iload_n C 1 1 dX11_grow_101 rfl rfl ?_
    refine z_iconst C dX11_grow_102 rfl ?_
    refine z_callV_pI (As := [.int v1, .int (1 : Int32)]) (rest := [.int (2 : Int32), .int (1 : Int32), .int v1, .ref (B + v0)]) C rfl (ctX11_get (zG_of C) v0 v1 (1 : Int32) h0 M) cw_RX11_237 rfl (okM_X11_get) rfl cl11 h0 (okR_of rfl) (Nat.le_of_ble_eq_true rfl) dX11_grow_103 (fun qj1 _ => ?_)
    refine z_imul C dX11_grow_106 ?_
    refine z_callV_V (As := [.int v1, .int (1 : Int32), .int ((2 : Int32) * qj1)]) (rest := []) C rfl (ctX11_set (zG_of C) v0 v1 (1 : Int32) ((2 : Int32) * qj1) h0 M) cw_RX11_252 rfl (okM_X11_set) rfl cl11 h0 (okR_of rfl) (Nat.le_of_ble_eq_true rfl) dX11_grow_107 (fun qj2 _ => ?_)
    refine z_iconst C dX11_grow_110 rfl ?_
    refine z_istore_n C 2 (ls1 := [(2, .int (0 : Int32)), (0, .ref (B + v0)), (1, .int v1)]) dX11_grow_111 rfl (by decide) rfl ?_
    exact z_jump (ls1 := [(0, .ref (B + v0)), (1, .int v1), (2, .int (0 : Int32))]) (Nat.le_of_ble_eq_true rfl) [1, 2, 0] rfl (z_fX11_grow_l112 C ht hr N v0 v1 N (0 : Int32) qj2 h0)
  · refine z_aload_n C 0 0 dX11_grow_83 rfl rfl ?_
    refine z_iload_n C 1 1 dX11_grow_84 rfl rfl ?_
    refine z_iload_n C 2 2 dX11_grow_85 rfl rfl ?_
    refine z_iconst C dX11_grow_86 rfl ?_
    refine z_callV_V (As := [.int v1, .int v2, .int (0 : Int32)]) (rest := []) C rfl (ctX11_set (zG_of C) v0 v1 v2 (0 : Int32) h0 M) cw_RX11_252 rfl (okM_X11_set) rfl cl11 h0 (okR_of rfl) (Nat.le_of_ble_eq_true rfl) dX11_grow_87 (fun qj3 _ => ?_)
    refine z_iinc C 2 2 (v := v2) (v1 := (v2 + (1 : Int32))) (ls1 := [(2, .int (v2 + (1 : Int32))), (0, .ref (B + v0)), (1, .int v1)]) dX11_grow_90 rfl rfl (by decide) rfl ?_
    refine z_goto C 76 dX11_grow_93 rfl ?_
    exact z_jump (ls1 := [(0, .ref (B + v0)), (1, .int v1), (2, .int (v2 + (1 : Int32)))]) (Nat.le_of_ble_eq_true rfl) [1, 2, 0] rfl (hk76 (v2 + (1 : Int32)) qj3)
theorem z_fX11_grow_l76_i {p : Program} {l : Launch} {e : Env} {s : State} {m : MethodId} {args : Array Value} {below : List Frame} {meth : Method} {c : Code} {D : va_G} {cy : Nat → ClassId} {B : Nat} {kd : Nat → Nat} {n : Nat} {sa sv : Nat → Nat} (C : zC p l s m args meth c D cy B kd n sa sv RX11 cX11_grow 4) (ht : ∀ x ∈ c.exceptionTable.toList, False) (hr : meth.sig.returnType = some (FieldType.int)) {b0 : Int32 × Mem} (N : Nat) (v0 : Nat) (v1 : Int32) (h0 : kd v0 = 11)  (fu : Nat) : ∀ (v2 : Int32) (M : Mem), Z p l e (rmz 6 0) s m args below meth c (vx_MQ below (QcR D cy B kd n (cvI b0)) (XcR D cy B kd n (cvI b0)) args s 0 (6 * 0) (AA B kd n)) D cy B kd n 4 b0 0 76 [(0, .ref (B + v0)), (1, .int v1), (2, .int v2)] [] M (fX11_grow_l76 N v0 v1 fu v2 M) := by
  induction fu with
  | zero => intro v2 M; exact z_none
  | succ fu ih => intro v2 M; exact z_fX11_grow_l76_s C ht hr N v0 v1 (fX11_grow_l76 N v0 v1 fu) v2 M h0 (fun v2 M => ih v2 M)
theorem z_fX11_grow_l76 {p : Program} {l : Launch} {e : Env} {s : State} {m : MethodId} {args : Array Value} {below : List Frame} {meth : Method} {c : Code} {D : va_G} {cy : Nat → ClassId} {B : Nat} {kd : Nat → Nat} {n : Nat} {sa sv : Nat → Nat} (C : zC p l s m args meth c D cy B kd n sa sv RX11 cX11_grow 4) (ht : ∀ x ∈ c.exceptionTable.toList, False) (hr : meth.sig.returnType = some (FieldType.int)) {b0 : Int32 × Mem} (N : Nat) (v0 : Nat) (v1 : Int32) (fu : Nat) (v2 : Int32) (M : Mem) (h0 : kd v0 = 11)  : Z p l e (rmz 6 0) s m args below meth c (vx_MQ below (QcR D cy B kd n (cvI b0)) (XcR D cy B kd n (cvI b0)) args s 0 (6 * 0) (AA B kd n)) D cy B kd n 4 b0 0 76 [(0, .ref (B + v0)), (1, .int v1), (2, .int v2)] [] M (fX11_grow_l76 N v0 v1 fu v2 M) := z_fX11_grow_l76_i C ht hr N v0 v1 h0 fu v2 M
set_option maxHeartbeats 4000000 in
set_option maxRecDepth 100000 in
theorem z_fX11_grow_l48_s {p : Program} {l : Launch} {e : Env} {s : State} {m : MethodId} {args : Array Value} {below : List Frame} {meth : Method} {c : Code} {D : va_G} {cy : Nat → ClassId} {B : Nat} {kd : Nat → Nat} {n : Nat} {sa sv : Nat → Nat} (C : zC p l s m args meth c D cy B kd n sa sv RX11 cX11_grow 4) (ht : ∀ x ∈ c.exceptionTable.toList, False) (hr : meth.sig.returnType = some (FieldType.int)) {b0 : Int32 × Mem} (N : Nat) (v0 : Nat) (v1 : Int32) (k48 : Int32 → Mem → Option (Int32 × Mem)) (v2 : Int32) (M : Mem) (h0 : kd v0 = 11)  (hk48 : ∀ (v2 : Int32) (M : Mem), Z p l e (rmz 6 0) s m args below meth c (vx_MQ below (QcR D cy B kd n (cvI b0)) (XcR D cy B kd n (cvI b0)) args s 0 (6 * 0) (AA B kd n)) D cy B kd n 4 b0 0 48 [(0, .ref (B + v0)), (1, .int v1), (2, .int v2)] [] M (k48 v2 M)) : Z p l e (rmz 6 0) s m args below meth c (vx_MQ below (QcR D cy B kd n (cvI b0)) (XcR D cy B kd n (cvI b0)) args s 0 (6 * 0) (AA B kd n)) D cy B kd n 4 b0 0 48 [(0, .ref (B + v0)), (1, .int v1), (2, .int v2)] [] M (fX11_grow_l48_s N v0 v1 k48 v2 M) := by
  unfold fX11_grow_l48_s
  refine z_iload_n C 2 2 dX11_grow_48 rfl rfl ?_
  refine z_sipush (v := 512) C dX11_grow_49 rfl ?_
  refine z_icmp_ge C 73 dX11_grow_52 rfl (fun _ => ?_) (fun _ => ?_)
  · refine z_bipush (v := 10) C dX11_grow_73 rfl ?_
    refine z_istore_n C 2 (ls1 := [(2, .int (10 : Int32)), (0, .ref (B + v0)), (1, .int v1)]) dX11_grow_75 rfl (by decide) rfl ?_
    exact z_jump (ls1 := [(0, .ref (B + v0)), (1, .int v1), (2, .int (10 : Int32))]) (Nat.le_of_ble_eq_true rfl) [1, 2, 0] rfl (z_fX11_grow_l76 C ht hr N v0 v1 N (10 : Int32) M h0)
  · refine z_aload_n C 0 0 dX11_grow_55 rfl rfl ?_
    refine z_getR (k := 3) C cl11 h0 rfl gw_7_13 rfl dX11_grow_56 ?_
    have j1 : kd (v0 + 4) = 38 := zkd C h0 (k := 3) rfl
    refine z_iload_n C 2 2 dX11_grow_59 rfl rfl ?_
    refine z_aload_n C 0 0 dX11_grow_60 rfl rfl ?_
    refine z_iload_n C 1 1 dX11_grow_61 rfl rfl ?_
    refine z_iload_n C 2 2 dX11_grow_62 rfl rfl ?_
    refine z_callV_pI (As := [.int v1, .int v2]) (rest := [.int v2, .ref (B + (v0 + 4))]) C rfl (ctX11_get (zG_of C) v0 v1 v2 h0 M) cw_RX11_237 rfl (okM_X11_get) rfl cl11 h0 (okR_of rfl) (Nat.le_of_ble_eq_true rfl) dX11_grow_63 (fun qj2 _ => ?_)
    refine z_iast C j1 rfl (by decide) dX11_grow_66 (fun _ => ?_)
    refine z_iinc C 2 2 (v := v2) (v1 := (v2 + (1 : Int32))) (ls1 := [(2, .int (v2 + (1 : Int32))), (0, .ref (B + v0)), (1, .int v1)]) dX11_grow_67 rfl rfl (by decide) rfl ?_
    refine z_goto C 48 dX11_grow_70 rfl ?_
    exact z_jump (ls1 := [(0, .ref (B + v0)), (1, .int v1), (2, .int (v2 + (1 : Int32)))]) (Nat.le_of_ble_eq_true rfl) [1, 2, 0] rfl (hk48 (v2 + (1 : Int32)) (wI M (v0 + 4) v2.toNatClampNeg qj2))
theorem z_fX11_grow_l48_i {p : Program} {l : Launch} {e : Env} {s : State} {m : MethodId} {args : Array Value} {below : List Frame} {meth : Method} {c : Code} {D : va_G} {cy : Nat → ClassId} {B : Nat} {kd : Nat → Nat} {n : Nat} {sa sv : Nat → Nat} (C : zC p l s m args meth c D cy B kd n sa sv RX11 cX11_grow 4) (ht : ∀ x ∈ c.exceptionTable.toList, False) (hr : meth.sig.returnType = some (FieldType.int)) {b0 : Int32 × Mem} (N : Nat) (v0 : Nat) (v1 : Int32) (h0 : kd v0 = 11)  (fu : Nat) : ∀ (v2 : Int32) (M : Mem), Z p l e (rmz 6 0) s m args below meth c (vx_MQ below (QcR D cy B kd n (cvI b0)) (XcR D cy B kd n (cvI b0)) args s 0 (6 * 0) (AA B kd n)) D cy B kd n 4 b0 0 48 [(0, .ref (B + v0)), (1, .int v1), (2, .int v2)] [] M (fX11_grow_l48 N v0 v1 fu v2 M) := by
  induction fu with
  | zero => intro v2 M; exact z_none
  | succ fu ih => intro v2 M; exact z_fX11_grow_l48_s C ht hr N v0 v1 (fX11_grow_l48 N v0 v1 fu) v2 M h0 (fun v2 M => ih v2 M)
theorem z_fX11_grow_l48 {p : Program} {l : Launch} {e : Env} {s : State} {m : MethodId} {args : Array Value} {below : List Frame} {meth : Method} {c : Code} {D : va_G} {cy : Nat → ClassId} {B : Nat} {kd : Nat → Nat} {n : Nat} {sa sv : Nat → Nat} (C : zC p l s m args meth c D cy B kd n sa sv RX11 cX11_grow 4) (ht : ∀ x ∈ c.exceptionTable.toList, False) (hr : meth.sig.returnType = some (FieldType.int)) {b0 : Int32 × Mem} (N : Nat) (v0 : Nat) (v1 : Int32) (fu : Nat) (v2 : Int32) (M : Mem) (h0 : kd v0 = 11)  : Z p l e (rmz 6 0) s m args below meth c (vx_MQ below (QcR D cy B kd n (cvI b0)) (XcR D cy B kd n (cvI b0)) args s 0 (6 * 0) (AA B kd n)) D cy B kd n 4 b0 0 48 [(0, .ref (B + v0)), (1, .int v1), (2, .int v2)] [] M (fX11_grow_l48 N v0 v1 fu v2 M) := z_fX11_grow_l48_i C ht hr N v0 v1 h0 fu v2 M
set_option maxHeartbeats 4000000 in
set_option maxRecDepth 100000 in
theorem z_fX11_grow_b40 {p : Program} {l : Launch} {e : Env} {s : State} {m : MethodId} {args : Array Value} {below : List Frame} {meth : Method} {c : Code} {D : va_G} {cy : Nat → ClassId} {B : Nat} {kd : Nat → Nat} {n : Nat} {sa sv : Nat → Nat} (C : zC p l s m args meth c D cy B kd n sa sv RX11 cX11_grow 4) (ht : ∀ x ∈ c.exceptionTable.toList, False) (hr : meth.sig.returnType = some (FieldType.int)) {b0 : Int32 × Mem}  (N : Nat) (v0 : Nat) (M : Mem) (h0 : kd v0 = 11)  : Z p l e (rmz 6 0) s m args below meth c (vx_MQ below (QcR D cy B kd n (cvI b0)) (XcR D cy B kd n (cvI b0)) args s 0 (6 * 0) (AA B kd n)) D cy B kd n 4 b0 0 40 [(0, .ref (B + v0))] [] M (fX11_grow_b40 N v0 M) := by
  unfold fX11_grow_b40
  refine z_aload_n C 0 0 dX11_grow_40 rfl rfl ?_
  refine z_iconst C dX11_grow_41 rfl ?_
  refine z_callV_I (As := [.int (2 : Int32)]) (rest := []) C rfl (ctX11_fails (zG_of C) v0 (2 : Int32) h0 M) cw_RX11_201 rfl (okM_X11_fails) rfl cl11 h0 (okR_of rfl) (Nat.le_of_ble_eq_true rfl) dX11_grow_42 (fun qj1 _ => ?_)
  exact z_iret C hr (Nat.le_of_ble_eq_true rfl) dX11_grow_45 rfl
set_option maxHeartbeats 4000000 in
set_option maxRecDepth 100000 in
theorem ctX11_grow {l : Launch} {D : va_G} {cy : Nat → ClassId} {B : Nat} {kd : Nat → Nat} {n : Nat} {sa sv : Nat → Nat} (G : zG l kd n) (N : Nat) (v0 : Nat) (v1 : Int32) (h0 : kd v0 = 11) (M : Mem) : CT l D cy B kd n sa sv 6 0 yX11_grow cX11_grow 4 (some (FieldType.int)) cvI [.ref (B + v0), .int v1] M (fX11_grow N v0 v1 M) := by
  refine ct_of (by decide) G.1 G.2 (Nat.le_of_ble_eq_true rfl) (ls := [(0, .ref (B + v0)), (1, .int v1)]) rfl ?_
  intro p e s m args below meth c b0 C ht hr
  unfold fX11_grow
  refine z_aload_n C 0 0 dX11_grow_0 rfl rfl ?_
  refine z_iconst C dX11_grow_1 rfl ?_
  refine z_putI (k := 5) C cl11 h0 rfl gw_7_15 rfl rfl rfl dX11_grow_2 ?_
  refine z_aload_n C 0 0 dX11_grow_5 rfl rfl ?_
  refine z_iload_n C 1 1 dX11_grow_6 rfl rfl ?_
  refine z_callV_pB (As := [.int v1]) (rest := []) C rfl (ctX11_isRow (zG_of C) v0 v1 h0 (wI M v0 5 (0 : Int32))) cw_RX11_256 rfl (okM_X11_isRow) rfl cl11 h0 (okR_of rfl) (Nat.le_of_ble_eq_true rfl) dX11_grow_7 (fun qj1 _ => ?_)
  refine z_if_neB C 19 dX11_grow_10 rfl (fun _ => ?_) (fun _ => ?_)
  · refine z_aload_n C 0 0 dX11_grow_19 rfl rfl ?_
    refine z_iload_n C 1 1 dX11_grow_20 rfl rfl ?_
    refine z_iconst C dX11_grow_21 rfl ?_
    refine z_callV_pI (As := [.int v1, .int (0 : Int32)]) (rest := []) C rfl (ctX11_get (zG_of C) v0 v1 (0 : Int32) h0 (wI M v0 5 (0 : Int32))) cw_RX11_237 rfl (okM_X11_get) rfl cl11 h0 (okR_of rfl) (Nat.le_of_ble_eq_true rfl) dX11_grow_22 (fun qj2 _ => ?_)
    refine z_iconst C dX11_grow_25 rfl ?_
    refine z_icmp_ne C 40 dX11_grow_26 rfl (fun _ => ?_) (fun _ => ?_)
    · refine z_aload_n C 0 0 dX11_grow_29 rfl rfl ?_
      refine z_iload_n C 1 1 dX11_grow_30 rfl rfl ?_
      refine z_iconst C dX11_grow_31 rfl ?_
      refine z_callV_pI (As := [.int v1, .int (1 : Int32)]) (rest := []) C rfl (ctX11_get (zG_of C) v0 v1 (1 : Int32) h0 (wI M v0 5 (0 : Int32))) cw_RX11_237 rfl (okM_X11_get) rfl cl11 h0 (okR_of rfl) (Nat.le_of_ble_eq_true rfl) dX11_grow_32 (fun qj3 _ => ?_)
      refine z_bipush (v := 8) C dX11_grow_35 rfl ?_
      refine z_icmp_le C 46 dX11_grow_37 rfl (fun _ => ?_) (fun _ => ?_)
      · refine z_iconst C dX11_grow_46 rfl ?_
        refine z_istore_n C 2 (ls1 := [(2, .int (0 : Int32)), (0, .ref (B + v0)), (1, .int v1)]) dX11_grow_47 rfl (by decide) rfl ?_
        exact z_jump (ls1 := [(0, .ref (B + v0)), (1, .int v1), (2, .int (0 : Int32))]) (Nat.le_of_ble_eq_true rfl) [1, 2, 0] rfl (z_fX11_grow_l48 C ht hr N v0 v1 N (0 : Int32) (wI M v0 5 (0 : Int32)) h0)
      · exact z_jump (ls1 := [(0, .ref (B + v0))]) (Nat.le_of_ble_eq_true rfl) [0] rfl (z_fX11_grow_b40 C ht hr N v0 (wI M v0 5 (0 : Int32)) h0)
    · exact z_jump (ls1 := [(0, .ref (B + v0))]) (Nat.le_of_ble_eq_true rfl) [0] rfl (z_fX11_grow_b40 C ht hr N v0 (wI M v0 5 (0 : Int32)) h0)
  · refine z_aload_n C 0 0 dX11_grow_13 rfl rfl ?_
    refine z_iconst C dX11_grow_14 rfl ?_
    refine z_callV_I (As := [.int (1 : Int32)]) (rest := []) C rfl (ctX11_fails (zG_of C) v0 (1 : Int32) h0 (wI M v0 5 (0 : Int32))) cw_RX11_201 rfl (okM_X11_fails) rfl cl11 h0 (okR_of rfl) (Nat.le_of_ble_eq_true rfl) dX11_grow_15 (fun qj4 _ => ?_)
    exact z_iret C hr (Nat.le_of_ble_eq_true rfl) dX11_grow_18 rfl
set_option maxHeartbeats 4000000 in
set_option maxRecDepth 100000 in
theorem z_fX11_areNames_b80 {p : Program} {l : Launch} {e : Env} {s : State} {m : MethodId} {args : Array Value} {below : List Frame} {meth : Method} {c : Code} {D : va_G} {cy : Nat → ClassId} {B : Nat} {kd : Nat → Nat} {n : Nat} {sa sv : Nat → Nat} (C : zC p l s m args meth c D cy B kd n sa sv RX11 cX11_areNames 5) (ht : ∀ x ∈ c.exceptionTable.toList, False) (hr : meth.sig.returnType = some (FieldType.boolean)) {b0 : Bool}  (N : Nat) (k2 : Int32 → Option Bool) (v0 : Nat) (v1 : Int32) (v2 : Bool) (v3 : Int32) (Mo : Mem) (h0 : kd v0 = 11) (hk2 : ∀ (v3 : Int32), Z p l e (rmz 2 0) s m args below meth c (vx_MQ below (QcR D cy B kd n ((pB Mo) b0)) (XcR D cy B kd n ((pB Mo) b0)) args s 0 (6 * 0) (AA B kd n)) D cy B kd n 5 b0 0 2 [(0, .ref (B + v0)), (1, .int v1), (2, .int (bI v2)), (3, .int v3)] [] Mo (k2 v3)) : Z p l e (rmz 2 0) s m args below meth c (vx_MQ below (QcR D cy B kd n ((pB Mo) b0)) (XcR D cy B kd n ((pB Mo) b0)) args s 0 (6 * 0) (AA B kd n)) D cy B kd n 5 b0 0 80 [(0, .ref (B + v0)), (1, .int v1), (2, .int (bI v2)), (3, .int v3)] [] Mo (fX11_areNames_b80 N k2 v0 v1 v2 v3 Mo) := by
  unfold fX11_areNames_b80
  refine z_iinc C 3 3 (v := v3) (v1 := (v3 + (1 : Int32))) (ls1 := [(3, .int (v3 + (1 : Int32))), (0, .ref (B + v0)), (1, .int v1), (2, .int (bI v2))]) dX11_areNames_80 rfl rfl (by decide) rfl ?_
  refine z_goto C 2 dX11_areNames_83 rfl ?_
  exact z_jump (ls1 := [(0, .ref (B + v0)), (1, .int v1), (2, .int (bI v2)), (3, .int (v3 + (1 : Int32)))]) (Nat.le_of_ble_eq_true rfl) [1, 2, 3, 0] rfl (hk2 (v3 + (1 : Int32)))
set_option maxHeartbeats 4000000 in
set_option maxRecDepth 100000 in
theorem z_fX11_areNames_l35_s {p : Program} {l : Launch} {e : Env} {s : State} {m : MethodId} {args : Array Value} {below : List Frame} {meth : Method} {c : Code} {D : va_G} {cy : Nat → ClassId} {B : Nat} {kd : Nat → Nat} {n : Nat} {sa sv : Nat → Nat} (C : zC p l s m args meth c D cy B kd n sa sv RX11 cX11_areNames 5) (ht : ∀ x ∈ c.exceptionTable.toList, False) (hr : meth.sig.returnType = some (FieldType.boolean)) {b0 : Bool} {Mo : Mem} (N : Nat) (k2 : Int32 → Option Bool) (v0 : Nat) (v1 : Int32) (v2 : Bool) (v3 : Int32) (k35 : Int32 → Option Bool) (v4 : Int32) (h0 : kd v0 = 11) (hk2 : ∀ (v3 : Int32), Z p l e (rmz 2 0) s m args below meth c (vx_MQ below (QcR D cy B kd n ((pB Mo) b0)) (XcR D cy B kd n ((pB Mo) b0)) args s 0 (6 * 0) (AA B kd n)) D cy B kd n 5 b0 0 2 [(0, .ref (B + v0)), (1, .int v1), (2, .int (bI v2)), (3, .int v3)] [] Mo (k2 v3)) (hk35 : ∀ (v4 : Int32), Z p l e (rmz 2 0) s m args below meth c (vx_MQ below (QcR D cy B kd n ((pB Mo) b0)) (XcR D cy B kd n ((pB Mo) b0)) args s 0 (6 * 0) (AA B kd n)) D cy B kd n 5 b0 0 35 [(0, .ref (B + v0)), (1, .int v1), (2, .int (bI v2)), (3, .int v3), (4, .int v4)] [] Mo (k35 v4)) : Z p l e (rmz 2 0) s m args below meth c (vx_MQ below (QcR D cy B kd n ((pB Mo) b0)) (XcR D cy B kd n ((pB Mo) b0)) args s 0 (6 * 0) (AA B kd n)) D cy B kd n 5 b0 0 35 [(0, .ref (B + v0)), (1, .int v1), (2, .int (bI v2)), (3, .int v3), (4, .int v4)] [] Mo (fX11_areNames_l35_s N k2 v0 v1 v2 v3 Mo k35 v4) := by
  unfold fX11_areNames_l35_s
  refine z_iload C 4 dX11_areNames_35 rfl ?_
  refine z_iload_n C 3 3 dX11_areNames_37 rfl rfl ?_
  refine z_icmp_ge C 80 dX11_areNames_38 rfl (fun _ => ?_) (fun _ => ?_)
  · exact z_jump (ls1 := [(0, .ref (B + v0)), (1, .int v1), (2, .int (bI v2)), (3, .int v3)]) (Nat.le_of_ble_eq_true rfl) [0, 1, 2, 3] rfl (z_fX11_areNames_b80 C ht hr N k2 v0 v1 v2 v3 Mo h0 hk2)
  · refine z_iload_n C 2 2 dX11_areNames_41 rfl rfl ?_
    refine z_if_eqB C 80 dX11_areNames_42 rfl (fun _ => ?_) (fun _ => ?_)
    · refine z_aload_n C 0 0 dX11_areNames_45 rfl rfl ?_
      refine z_getR (k := 37) C cl11 h0 rfl gw_7_47 rfl dX11_areNames_46 ?_
      have j1 : kd (v0 + 24) = 46 := zkd C h0 (k := 37) rfl
      refine z_bipush (v := 40) C dX11_areNames_49 rfl ?_
      refine z_iload_n C 1 1 dX11_areNames_51 rfl rfl ?_
      refine z_imul C dX11_areNames_52 ?_
      refine z_iload C 4 dX11_areNames_53 rfl ?_
      refine z_iadd C dX11_areNames_55 ?_
      refine z_lald C j1 rfl (by decide) dX11_areNames_56 (fun j2 => ?_)
      refine z_aload_n C 0 0 dX11_areNames_57 rfl rfl ?_
      refine z_getR (k := 37) C cl11 h0 rfl gw_7_47 rfl dX11_areNames_58 ?_
      have j3 : kd (v0 + 24) = 46 := zkd C h0 (k := 37) rfl
      refine z_bipush (v := 40) C dX11_areNames_61 rfl ?_
      refine z_iload_n C 1 1 dX11_areNames_63 rfl rfl ?_
      refine z_imul C dX11_areNames_64 ?_
      refine z_iload_n C 3 3 dX11_areNames_65 rfl rfl ?_
      refine z_iadd C dX11_areNames_66 ?_
      refine z_lald C j3 rfl (by decide) dX11_areNames_67 (fun j4 => ?_)
      refine z_lcmp_ne C 74 dX11_areNames_68 dX11_areNames_69 rfl (fun _ => ?_) (fun _ => ?_)
      · refine z_iconst C dX11_areNames_72 rfl ?_
        exact z_zret C (v := false) hr (Nat.le_of_ble_eq_true rfl) dX11_areNames_73 rfl
      · refine z_iinc C 4 4 (v := v4) (v1 := (v4 + (1 : Int32))) (ls1 := [(4, .int (v4 + (1 : Int32))), (0, .ref (B + v0)), (1, .int v1), (2, .int (bI v2)), (3, .int v3)]) dX11_areNames_74 rfl rfl (by decide) rfl ?_
        refine z_goto C 35 dX11_areNames_77 rfl ?_
        exact z_jump (ls1 := [(0, .ref (B + v0)), (1, .int v1), (2, .int (bI v2)), (3, .int v3), (4, .int (v4 + (1 : Int32)))]) (Nat.le_of_ble_eq_true rfl) [1, 2, 3, 4, 0] rfl (hk35 (v4 + (1 : Int32)))
    · exact z_jump (ls1 := [(0, .ref (B + v0)), (1, .int v1), (2, .int (bI v2)), (3, .int v3)]) (Nat.le_of_ble_eq_true rfl) [0, 1, 2, 3] rfl (z_fX11_areNames_b80 C ht hr N k2 v0 v1 v2 v3 Mo h0 hk2)
theorem z_fX11_areNames_l35_i {p : Program} {l : Launch} {e : Env} {s : State} {m : MethodId} {args : Array Value} {below : List Frame} {meth : Method} {c : Code} {D : va_G} {cy : Nat → ClassId} {B : Nat} {kd : Nat → Nat} {n : Nat} {sa sv : Nat → Nat} (C : zC p l s m args meth c D cy B kd n sa sv RX11 cX11_areNames 5) (ht : ∀ x ∈ c.exceptionTable.toList, False) (hr : meth.sig.returnType = some (FieldType.boolean)) {b0 : Bool} {Mo : Mem} (N : Nat) (k2 : Int32 → Option Bool) (v0 : Nat) (v1 : Int32) (v2 : Bool) (v3 : Int32) (h0 : kd v0 = 11) (hk2 : ∀ (v3 : Int32), Z p l e (rmz 2 0) s m args below meth c (vx_MQ below (QcR D cy B kd n ((pB Mo) b0)) (XcR D cy B kd n ((pB Mo) b0)) args s 0 (6 * 0) (AA B kd n)) D cy B kd n 5 b0 0 2 [(0, .ref (B + v0)), (1, .int v1), (2, .int (bI v2)), (3, .int v3)] [] Mo (k2 v3)) (fu : Nat) : ∀ (v4 : Int32), Z p l e (rmz 2 0) s m args below meth c (vx_MQ below (QcR D cy B kd n ((pB Mo) b0)) (XcR D cy B kd n ((pB Mo) b0)) args s 0 (6 * 0) (AA B kd n)) D cy B kd n 5 b0 0 35 [(0, .ref (B + v0)), (1, .int v1), (2, .int (bI v2)), (3, .int v3), (4, .int v4)] [] Mo (fX11_areNames_l35 N k2 v0 v1 v2 v3 Mo fu v4) := by
  induction fu with
  | zero => intro v4; exact z_none
  | succ fu ih => intro v4; exact z_fX11_areNames_l35_s C ht hr N k2 v0 v1 v2 v3 (fX11_areNames_l35 N k2 v0 v1 v2 v3 Mo fu) v4 h0 hk2 (fun v4 => ih v4)
theorem z_fX11_areNames_l35 {p : Program} {l : Launch} {e : Env} {s : State} {m : MethodId} {args : Array Value} {below : List Frame} {meth : Method} {c : Code} {D : va_G} {cy : Nat → ClassId} {B : Nat} {kd : Nat → Nat} {n : Nat} {sa sv : Nat → Nat} (C : zC p l s m args meth c D cy B kd n sa sv RX11 cX11_areNames 5) (ht : ∀ x ∈ c.exceptionTable.toList, False) (hr : meth.sig.returnType = some (FieldType.boolean)) {b0 : Bool} {Mo : Mem} (N : Nat) (k2 : Int32 → Option Bool) (v0 : Nat) (v1 : Int32) (v2 : Bool) (v3 : Int32) (fu : Nat) (v4 : Int32) (h0 : kd v0 = 11) (hk2 : ∀ (v3 : Int32), Z p l e (rmz 2 0) s m args below meth c (vx_MQ below (QcR D cy B kd n ((pB Mo) b0)) (XcR D cy B kd n ((pB Mo) b0)) args s 0 (6 * 0) (AA B kd n)) D cy B kd n 5 b0 0 2 [(0, .ref (B + v0)), (1, .int v1), (2, .int (bI v2)), (3, .int v3)] [] Mo (k2 v3)) : Z p l e (rmz 2 0) s m args below meth c (vx_MQ below (QcR D cy B kd n ((pB Mo) b0)) (XcR D cy B kd n ((pB Mo) b0)) args s 0 (6 * 0) (AA B kd n)) D cy B kd n 5 b0 0 35 [(0, .ref (B + v0)), (1, .int v1), (2, .int (bI v2)), (3, .int v3), (4, .int v4)] [] Mo (fX11_areNames_l35 N k2 v0 v1 v2 v3 Mo fu v4) := z_fX11_areNames_l35_i C ht hr N k2 v0 v1 v2 v3 h0 hk2 fu v4
set_option maxHeartbeats 4000000 in
set_option maxRecDepth 100000 in
theorem z_fX11_areNames_l2_s {p : Program} {l : Launch} {e : Env} {s : State} {m : MethodId} {args : Array Value} {below : List Frame} {meth : Method} {c : Code} {D : va_G} {cy : Nat → ClassId} {B : Nat} {kd : Nat → Nat} {n : Nat} {sa sv : Nat → Nat} (C : zC p l s m args meth c D cy B kd n sa sv RX11 cX11_areNames 5) (ht : ∀ x ∈ c.exceptionTable.toList, False) (hr : meth.sig.returnType = some (FieldType.boolean)) {b0 : Bool} {Mo : Mem} (N : Nat) (v0 : Nat) (v1 : Int32) (v2 : Bool) (k2 : Int32 → Option Bool) (v3 : Int32) (h0 : kd v0 = 11)  (hk2 : ∀ (v3 : Int32), Z p l e (rmz 2 0) s m args below meth c (vx_MQ below (QcR D cy B kd n ((pB Mo) b0)) (XcR D cy B kd n ((pB Mo) b0)) args s 0 (6 * 0) (AA B kd n)) D cy B kd n 5 b0 0 2 [(0, .ref (B + v0)), (1, .int v1), (2, .int (bI v2)), (3, .int v3)] [] Mo (k2 v3)) : Z p l e (rmz 2 0) s m args below meth c (vx_MQ below (QcR D cy B kd n ((pB Mo) b0)) (XcR D cy B kd n ((pB Mo) b0)) args s 0 (6 * 0) (AA B kd n)) D cy B kd n 5 b0 0 2 [(0, .ref (B + v0)), (1, .int v1), (2, .int (bI v2)), (3, .int v3)] [] Mo (fX11_areNames_l2_s N v0 v1 v2 Mo k2 v3) := by
  unfold fX11_areNames_l2_s
  refine z_iload_n C 3 3 dX11_areNames_2 rfl rfl ?_
  refine z_aload_n C 0 0 dX11_areNames_3 rfl rfl ?_
  refine z_getR (k := 36) C cl11 h0 rfl gw_7_46 rfl dX11_areNames_4 ?_
  have j1 : kd (v0 + 23) = 45 := zkd C h0 (k := 36) rfl
  refine z_iload_n C 1 1 dX11_areNames_7 rfl rfl ?_
  refine z_iald C j1 rfl (by decide) dX11_areNames_8 (fun j2 => ?_)
  refine z_icmp_ge C 86 dX11_areNames_9 rfl (fun _ => ?_) (fun _ => ?_)
  · refine z_iconst C dX11_areNames_86 rfl ?_
    exact z_zret C (v := true) hr (Nat.le_of_ble_eq_true rfl) dX11_areNames_87 rfl
  · refine z_aload_n C 0 0 dX11_areNames_12 rfl rfl ?_
    refine z_aload_n C 0 0 dX11_areNames_13 rfl rfl ?_
    refine z_getR (k := 37) C cl11 h0 rfl gw_7_47 rfl dX11_areNames_14 ?_
    have j3 : kd (v0 + 24) = 46 := zkd C h0 (k := 37) rfl
    refine z_bipush (v := 40) C dX11_areNames_17 rfl ?_
    refine z_iload_n C 1 1 dX11_areNames_19 rfl rfl ?_
    refine z_imul C dX11_areNames_20 ?_
    refine z_iload_n C 3 3 dX11_areNames_21 rfl rfl ?_
    refine z_iadd C dX11_areNames_22 ?_
    refine z_lald C j3 rfl (by decide) dX11_areNames_23 (fun j4 => ?_)
    refine z_callV_pB (As := [.long (rJ Mo (v0 + 24) (((40 : Int32) * v1) + v3).toNatClampNeg)]) (rest := []) C rfl (ctX11_isName (zG_of C) v0 (rJ Mo (v0 + 24) (((40 : Int32) * v1) + v3).toNatClampNeg) h0 Mo) cw_RX11_228 rfl (okM_X11_isName) rfl cl11 h0 (okR_of rfl) (Nat.le_of_ble_eq_true rfl) dX11_areNames_24 (fun qj5 _ => ?_)
    refine z_if_neB C 32 dX11_areNames_27 rfl (fun _ => ?_) (fun _ => ?_)
    · refine z_iconst C dX11_areNames_32 rfl ?_
      refine z_istore C 4 (ls1 := [(4, .int (0 : Int32)), (0, .ref (B + v0)), (1, .int v1), (2, .int (bI v2)), (3, .int v3)]) dX11_areNames_33 (by decide) rfl ?_
      exact z_jump (ls1 := [(0, .ref (B + v0)), (1, .int v1), (2, .int (bI v2)), (3, .int v3), (4, .int (0 : Int32))]) (Nat.le_of_ble_eq_true rfl) [1, 2, 3, 4, 0] rfl (z_fX11_areNames_l35 C ht hr N k2 v0 v1 v2 v3 N (0 : Int32) h0 hk2)
    · refine z_iconst C dX11_areNames_30 rfl ?_
      exact z_zret C (v := false) hr (Nat.le_of_ble_eq_true rfl) dX11_areNames_31 rfl
theorem z_fX11_areNames_l2_i {p : Program} {l : Launch} {e : Env} {s : State} {m : MethodId} {args : Array Value} {below : List Frame} {meth : Method} {c : Code} {D : va_G} {cy : Nat → ClassId} {B : Nat} {kd : Nat → Nat} {n : Nat} {sa sv : Nat → Nat} (C : zC p l s m args meth c D cy B kd n sa sv RX11 cX11_areNames 5) (ht : ∀ x ∈ c.exceptionTable.toList, False) (hr : meth.sig.returnType = some (FieldType.boolean)) {b0 : Bool} {Mo : Mem} (N : Nat) (v0 : Nat) (v1 : Int32) (v2 : Bool) (h0 : kd v0 = 11)  (fu : Nat) : ∀ (v3 : Int32), Z p l e (rmz 2 0) s m args below meth c (vx_MQ below (QcR D cy B kd n ((pB Mo) b0)) (XcR D cy B kd n ((pB Mo) b0)) args s 0 (6 * 0) (AA B kd n)) D cy B kd n 5 b0 0 2 [(0, .ref (B + v0)), (1, .int v1), (2, .int (bI v2)), (3, .int v3)] [] Mo (fX11_areNames_l2 N v0 v1 v2 Mo fu v3) := by
  induction fu with
  | zero => intro v3; exact z_none
  | succ fu ih => intro v3; exact z_fX11_areNames_l2_s C ht hr N v0 v1 v2 (fX11_areNames_l2 N v0 v1 v2 Mo fu) v3 h0 (fun v3 => ih v3)
theorem z_fX11_areNames_l2 {p : Program} {l : Launch} {e : Env} {s : State} {m : MethodId} {args : Array Value} {below : List Frame} {meth : Method} {c : Code} {D : va_G} {cy : Nat → ClassId} {B : Nat} {kd : Nat → Nat} {n : Nat} {sa sv : Nat → Nat} (C : zC p l s m args meth c D cy B kd n sa sv RX11 cX11_areNames 5) (ht : ∀ x ∈ c.exceptionTable.toList, False) (hr : meth.sig.returnType = some (FieldType.boolean)) {b0 : Bool} {Mo : Mem} (N : Nat) (v0 : Nat) (v1 : Int32) (v2 : Bool) (fu : Nat) (v3 : Int32) (h0 : kd v0 = 11)  : Z p l e (rmz 2 0) s m args below meth c (vx_MQ below (QcR D cy B kd n ((pB Mo) b0)) (XcR D cy B kd n ((pB Mo) b0)) args s 0 (6 * 0) (AA B kd n)) D cy B kd n 5 b0 0 2 [(0, .ref (B + v0)), (1, .int v1), (2, .int (bI v2)), (3, .int v3)] [] Mo (fX11_areNames_l2 N v0 v1 v2 Mo fu v3) := z_fX11_areNames_l2_i C ht hr N v0 v1 v2 h0 fu v3
set_option maxHeartbeats 4000000 in
set_option maxRecDepth 100000 in
theorem ctX11_areNames {l : Launch} {D : va_G} {cy : Nat → ClassId} {B : Nat} {kd : Nat → Nat} {n : Nat} {sa sv : Nat → Nat} (G : zG l kd n) (N : Nat) (v0 : Nat) (v1 : Int32) (v2 : Bool) (h0 : kd v0 = 11) (Mo : Mem) : CT l D cy B kd n sa sv 2 0 yX11_areNames cX11_areNames 5 (some (FieldType.boolean)) (pB Mo) [.ref (B + v0), .int v1, .int (bI v2)] Mo (fX11_areNames N v0 v1 v2 Mo) := by
  refine ct_of (by decide) G.1 G.2 (Nat.le_of_ble_eq_true rfl) (ls := [(0, .ref (B + v0)), (1, .int v1), (2, .int (bI v2))]) rfl ?_
  intro p e s m args below meth c b0 C ht hr
  unfold fX11_areNames
  refine z_iconst C dX11_areNames_0 rfl ?_
  refine z_istore_n C 3 (ls1 := [(3, .int (0 : Int32)), (0, .ref (B + v0)), (1, .int v1), (2, .int (bI v2))]) dX11_areNames_1 rfl (by decide) rfl ?_
  exact z_jump (ls1 := [(0, .ref (B + v0)), (1, .int v1), (2, .int (bI v2)), (3, .int (0 : Int32))]) (Nat.le_of_ble_eq_true rfl) [1, 2, 3, 0] rfl (z_fX11_areNames_l2 C ht hr N v0 v1 v2 N (0 : Int32) h0)
set_option maxHeartbeats 4000000 in
set_option maxRecDepth 100000 in
theorem ctX11_inTray {l : Launch} {D : va_G} {cy : Nat → ClassId} {B : Nat} {kd : Nat → Nat} {n : Nat} {sa sv : Nat → Nat} (G : zG l kd n) (v0 : Nat) (v1 : Int32) (v2 : Int32) (h0 : kd v0 = 11) (Mo : Mem) : CT l D cy B kd n sa sv 0 0 yX11_inTray cX11_inTray 3 (some (FieldType.int)) (pI Mo) [.ref (B + v0), .int v1, .int v2] Mo (fX11_inTray v0 v1 v2 Mo) := by
  refine ct_of (by decide) G.1 G.2 (Nat.le_of_ble_eq_true rfl) (ls := [(0, .ref (B + v0)), (1, .int v1), (2, .int v2)]) rfl ?_
  intro p e s m args below meth c b0 C ht hr
  unfold fX11_inTray
  refine z_aload_n C 0 0 dX11_inTray_0 rfl rfl ?_
  refine z_getR (k := 37) C cl11 h0 rfl gw_7_47 rfl dX11_inTray_1 ?_
  have j1 : kd (v0 + 24) = 46 := zkd C h0 (k := 37) rfl
  refine z_bipush (v := 40) C dX11_inTray_4 rfl ?_
  refine z_iload_n C 1 1 dX11_inTray_6 rfl rfl ?_
  refine z_imul C dX11_inTray_7 ?_
  refine z_iload_n C 2 2 dX11_inTray_8 rfl rfl ?_
  refine z_iadd C dX11_inTray_9 ?_
  refine z_lald C j1 rfl (by decide) dX11_inTray_10 (fun j2 => ?_)
  refine z_l2i C dX11_inTray_11 ?_
  exact z_iret C hr (Nat.le_of_ble_eq_true rfl) dX11_inTray_12 rfl
set_option maxHeartbeats 4000000 in
set_option maxRecDepth 100000 in
theorem z_fX11_canSolve_b213 {p : Program} {l : Launch} {e : Env} {s : State} {m : MethodId} {args : Array Value} {below : List Frame} {meth : Method} {c : Code} {D : va_G} {cy : Nat → ClassId} {B : Nat} {kd : Nat → Nat} {n : Nat} {sa sv : Nat → Nat} (C : zC p l s m args meth c D cy B kd n sa sv RX11 cX11_canSolve 6) (ht : ∀ x ∈ c.exceptionTable.toList, False) (hr : meth.sig.returnType = some (FieldType.boolean)) {b0 : Bool × Mem}  (N : Nat) (k186 : Int32 → Option (Bool × Mem)) (v0 : Nat) (v2 : Int32) (v3 : Int32) (M : Mem) (h0 : kd v0 = 11) (hk186 : ∀ (v3 : Int32), Z p l e (rmz 1 0) s m args below meth c (vx_MQ below (QcR D cy B kd n (cvB b0)) (XcR D cy B kd n (cvB b0)) args s 0 (6 * 0) (AA B kd n)) D cy B kd n 6 b0 0 186 [(0, .ref (B + v0)), (2, .int v2), (3, .int v3)] [] M (k186 v3)) : Z p l e (rmz 1 0) s m args below meth c (vx_MQ below (QcR D cy B kd n (cvB b0)) (XcR D cy B kd n (cvB b0)) args s 0 (6 * 0) (AA B kd n)) D cy B kd n 6 b0 0 213 [(0, .ref (B + v0)), (2, .int v2), (3, .int v3)] [] M (fX11_canSolve_b213 N k186 v0 v2 v3 M) := by
  unfold fX11_canSolve_b213
  refine z_iinc C 3 2 (v := v3) (v1 := (v3 + (1 : Int32))) (ls1 := [(3, .int (v3 + (1 : Int32))), (0, .ref (B + v0)), (2, .int v2)]) dX11_canSolve_213 rfl rfl (by decide) rfl ?_
  refine z_goto C 186 dX11_canSolve_216 rfl ?_
  exact z_jump (ls1 := [(0, .ref (B + v0)), (2, .int v2), (3, .int (v3 + (1 : Int32)))]) (Nat.le_of_ble_eq_true rfl) [1, 2, 0] rfl (hk186 (v3 + (1 : Int32)))
set_option maxHeartbeats 4000000 in
set_option maxRecDepth 100000 in
theorem z_fX11_canSolve_l186_s {p : Program} {l : Launch} {e : Env} {s : State} {m : MethodId} {args : Array Value} {below : List Frame} {meth : Method} {c : Code} {D : va_G} {cy : Nat → ClassId} {B : Nat} {kd : Nat → Nat} {n : Nat} {sa sv : Nat → Nat} (C : zC p l s m args meth c D cy B kd n sa sv RX11 cX11_canSolve 6) (ht : ∀ x ∈ c.exceptionTable.toList, False) (hr : meth.sig.returnType = some (FieldType.boolean)) {b0 : Bool × Mem} (N : Nat) (v0 : Nat) (v2 : Int32) (M : Mem) (k186 : Int32 → Option (Bool × Mem)) (v3 : Int32) (h0 : kd v0 = 11)  (hk186 : ∀ (v3 : Int32), Z p l e (rmz 1 0) s m args below meth c (vx_MQ below (QcR D cy B kd n (cvB b0)) (XcR D cy B kd n (cvB b0)) args s 0 (6 * 0) (AA B kd n)) D cy B kd n 6 b0 0 186 [(0, .ref (B + v0)), (2, .int v2), (3, .int v3)] [] M (k186 v3)) : Z p l e (rmz 1 0) s m args below meth c (vx_MQ below (QcR D cy B kd n (cvB b0)) (XcR D cy B kd n (cvB b0)) args s 0 (6 * 0) (AA B kd n)) D cy B kd n 6 b0 0 186 [(0, .ref (B + v0)), (2, .int v2), (3, .int v3)] [] M (fX11_canSolve_l186_s N v0 v2 M k186 v3) := by
  unfold fX11_canSolve_l186_s
  refine z_iload_n C 3 2 dX11_canSolve_186 rfl rfl ?_
  refine z_iload_n C 2 1 dX11_canSolve_187 rfl rfl ?_
  refine z_icmp_ge C 219 dX11_canSolve_188 rfl (fun _ => ?_) (fun _ => ?_)
  · refine z_iconst C dX11_canSolve_219 rfl ?_
    exact z_zret C (v := true) hr (Nat.le_of_ble_eq_true rfl) dX11_canSolve_220 rfl
  · refine z_aload_n C 0 0 dX11_canSolve_191 rfl rfl ?_
    refine z_getR (k := 22) C cl11 h0 rfl gw_7_32 rfl dX11_canSolve_192 ?_
    have j1 : kd (v0 + 11) = 30 := zkd C h0 (k := 22) rfl
    refine z_iload_n C 3 2 dX11_canSolve_195 rfl rfl ?_
    refine z_lald C j1 rfl (by decide) dX11_canSolve_196 (fun j2 => ?_)
    refine z_lconst (v := 0) C dX11_canSolve_197 rfl ?_
    refine z_lcmp_ne C 213 dX11_canSolve_198 dX11_canSolve_199 rfl (fun _ => ?_) (fun _ => ?_)
    · refine z_aload_n C 0 0 dX11_canSolve_202 rfl rfl ?_
      refine z_getR (k := 23) C cl11 h0 rfl gw_7_33 rfl dX11_canSolve_203 ?_
      have j3 : kd (v0 + 12) = 34 := zkd C h0 (k := 23) rfl
      refine z_iload_n C 3 2 dX11_canSolve_206 rfl rfl ?_
      refine z_iald C j3 rfl (by decide) dX11_canSolve_207 (fun j4 => ?_)
      refine z_if_eq C 213 dX11_canSolve_208 rfl (fun _ => ?_) (fun _ => ?_)
      · exact z_jump (ls1 := [(0, .ref (B + v0)), (2, .int v2), (3, .int v3)]) (Nat.le_of_ble_eq_true rfl) [0, 1, 2] rfl (z_fX11_canSolve_b213 C ht hr N k186 v0 v2 v3 M h0 hk186)
      · refine z_iconst C dX11_canSolve_211 rfl ?_
        exact z_zret C (v := false) hr (Nat.le_of_ble_eq_true rfl) dX11_canSolve_212 rfl
    · exact z_jump (ls1 := [(0, .ref (B + v0)), (2, .int v2), (3, .int v3)]) (Nat.le_of_ble_eq_true rfl) [0, 1, 2] rfl (z_fX11_canSolve_b213 C ht hr N k186 v0 v2 v3 M h0 hk186)
theorem z_fX11_canSolve_l186_i {p : Program} {l : Launch} {e : Env} {s : State} {m : MethodId} {args : Array Value} {below : List Frame} {meth : Method} {c : Code} {D : va_G} {cy : Nat → ClassId} {B : Nat} {kd : Nat → Nat} {n : Nat} {sa sv : Nat → Nat} (C : zC p l s m args meth c D cy B kd n sa sv RX11 cX11_canSolve 6) (ht : ∀ x ∈ c.exceptionTable.toList, False) (hr : meth.sig.returnType = some (FieldType.boolean)) {b0 : Bool × Mem} (N : Nat) (v0 : Nat) (v2 : Int32) (M : Mem) (h0 : kd v0 = 11)  (fu : Nat) : ∀ (v3 : Int32), Z p l e (rmz 1 0) s m args below meth c (vx_MQ below (QcR D cy B kd n (cvB b0)) (XcR D cy B kd n (cvB b0)) args s 0 (6 * 0) (AA B kd n)) D cy B kd n 6 b0 0 186 [(0, .ref (B + v0)), (2, .int v2), (3, .int v3)] [] M (fX11_canSolve_l186 N v0 v2 M fu v3) := by
  induction fu with
  | zero => intro v3; exact z_none
  | succ fu ih => intro v3; exact z_fX11_canSolve_l186_s C ht hr N v0 v2 M (fX11_canSolve_l186 N v0 v2 M fu) v3 h0 (fun v3 => ih v3)
theorem z_fX11_canSolve_l186 {p : Program} {l : Launch} {e : Env} {s : State} {m : MethodId} {args : Array Value} {below : List Frame} {meth : Method} {c : Code} {D : va_G} {cy : Nat → ClassId} {B : Nat} {kd : Nat → Nat} {n : Nat} {sa sv : Nat → Nat} (C : zC p l s m args meth c D cy B kd n sa sv RX11 cX11_canSolve 6) (ht : ∀ x ∈ c.exceptionTable.toList, False) (hr : meth.sig.returnType = some (FieldType.boolean)) {b0 : Bool × Mem} (N : Nat) (v0 : Nat) (v2 : Int32) (M : Mem) (fu : Nat) (v3 : Int32) (h0 : kd v0 = 11)  : Z p l e (rmz 1 0) s m args below meth c (vx_MQ below (QcR D cy B kd n (cvB b0)) (XcR D cy B kd n (cvB b0)) args s 0 (6 * 0) (AA B kd n)) D cy B kd n 6 b0 0 186 [(0, .ref (B + v0)), (2, .int v2), (3, .int v3)] [] M (fX11_canSolve_l186 N v0 v2 M fu v3) := z_fX11_canSolve_l186_i C ht hr N v0 v2 M h0 fu v3
set_option maxHeartbeats 4000000 in
set_option maxRecDepth 100000 in
theorem z_fX11_canSolve_b178 {p : Program} {l : Launch} {e : Env} {s : State} {m : MethodId} {args : Array Value} {below : List Frame} {meth : Method} {c : Code} {D : va_G} {cy : Nat → ClassId} {B : Nat} {kd : Nat → Nat} {n : Nat} {sa sv : Nat → Nat} (C : zC p l s m args meth c D cy B kd n sa sv RX11 cX11_canSolve 6) (ht : ∀ x ∈ c.exceptionTable.toList, False) (hr : meth.sig.returnType = some (FieldType.boolean)) {b0 : Bool × Mem}  (N : Nat) (k2 : Int32 → Mem → Option (Bool × Mem)) (v0 : Nat) (v1 : Int32) (v2 : Int32) (v3 : Int32) (M : Mem) (h0 : kd v0 = 11) (hk2 : ∀ (v3 : Int32) (M : Mem), Z p l e (rmz 1 0) s m args below meth c (vx_MQ below (QcR D cy B kd n (cvB b0)) (XcR D cy B kd n (cvB b0)) args s 0 (6 * 0) (AA B kd n)) D cy B kd n 6 b0 0 2 [(0, .ref (B + v0)), (1, .int v1), (2, .int v2), (3, .int v3)] [] M (k2 v3 M)) : Z p l e (rmz 1 0) s m args below meth c (vx_MQ below (QcR D cy B kd n (cvB b0)) (XcR D cy B kd n (cvB b0)) args s 0 (6 * 0) (AA B kd n)) D cy B kd n 6 b0 0 178 [(0, .ref (B + v0)), (1, .int v1), (2, .int v2), (3, .int v3)] [] M (fX11_canSolve_b178 N k2 v0 v1 v2 v3 M) := by
  unfold fX11_canSolve_b178
  refine z_iinc C 3 3 (v := v3) (v1 := (v3 + (1 : Int32))) (ls1 := [(3, .int (v3 + (1 : Int32))), (0, .ref (B + v0)), (1, .int v1), (2, .int v2)]) dX11_canSolve_178 rfl rfl (by decide) rfl ?_
  refine z_goto C 2 dX11_canSolve_181 rfl ?_
  exact z_jump (ls1 := [(0, .ref (B + v0)), (1, .int v1), (2, .int v2), (3, .int (v3 + (1 : Int32)))]) (Nat.le_of_ble_eq_true rfl) [1, 2, 3, 0] rfl (hk2 (v3 + (1 : Int32)) M)
set_option maxHeartbeats 4000000 in
set_option maxRecDepth 100000 in
theorem z_fX11_canSolve_b172 {p : Program} {l : Launch} {e : Env} {s : State} {m : MethodId} {args : Array Value} {below : List Frame} {meth : Method} {c : Code} {D : va_G} {cy : Nat → ClassId} {B : Nat} {kd : Nat → Nat} {n : Nat} {sa sv : Nat → Nat} (C : zC p l s m args meth c D cy B kd n sa sv RX11 cX11_canSolve 6) (ht : ∀ x ∈ c.exceptionTable.toList, False) (hr : meth.sig.returnType = some (FieldType.boolean)) {b0 : Bool × Mem}  (N : Nat) (k2 : Int32 → Mem → Option (Bool × Mem)) (k106 : Int32 → Mem → Option (Bool × Mem)) (v0 : Nat) (v1 : Int32) (v2 : Int32) (v3 : Int32) (v4 : Int32) (v5 : Int32) (M : Mem) (h0 : kd v0 = 11) (hk2 : ∀ (v3 : Int32) (M : Mem), Z p l e (rmz 1 0) s m args below meth c (vx_MQ below (QcR D cy B kd n (cvB b0)) (XcR D cy B kd n (cvB b0)) args s 0 (6 * 0) (AA B kd n)) D cy B kd n 6 b0 0 2 [(0, .ref (B + v0)), (1, .int v1), (2, .int v2), (3, .int v3)] [] M (k2 v3 M)) (hk106 : ∀ (v5 : Int32) (M : Mem), Z p l e (rmz 1 0) s m args below meth c (vx_MQ below (QcR D cy B kd n (cvB b0)) (XcR D cy B kd n (cvB b0)) args s 0 (6 * 0) (AA B kd n)) D cy B kd n 6 b0 0 106 [(0, .ref (B + v0)), (1, .int v1), (2, .int v2), (3, .int v3), (4, .int v4), (5, .int v5)] [] M (k106 v5 M)) : Z p l e (rmz 1 0) s m args below meth c (vx_MQ below (QcR D cy B kd n (cvB b0)) (XcR D cy B kd n (cvB b0)) args s 0 (6 * 0) (AA B kd n)) D cy B kd n 6 b0 0 172 [(0, .ref (B + v0)), (1, .int v1), (2, .int v2), (3, .int v3), (4, .int v4), (5, .int v5)] [] M (fX11_canSolve_b172 N k2 k106 v0 v1 v2 v3 v4 v5 M) := by
  unfold fX11_canSolve_b172
  refine z_iinc C 5 5 (v := v5) (v1 := (v5 + (1 : Int32))) (ls1 := [(5, .int (v5 + (1 : Int32))), (0, .ref (B + v0)), (1, .int v1), (2, .int v2), (3, .int v3), (4, .int v4)]) dX11_canSolve_172 rfl rfl (by decide) rfl ?_
  refine z_goto C 106 dX11_canSolve_175 rfl ?_
  exact z_jump (ls1 := [(0, .ref (B + v0)), (1, .int v1), (2, .int v2), (3, .int v3), (4, .int v4), (5, .int (v5 + (1 : Int32)))]) (Nat.le_of_ble_eq_true rfl) [1, 2, 3, 4, 5, 0] rfl (hk106 (v5 + (1 : Int32)) M)
set_option maxHeartbeats 4000000 in
set_option maxRecDepth 100000 in
theorem z_fX11_canSolve_l106_s {p : Program} {l : Launch} {e : Env} {s : State} {m : MethodId} {args : Array Value} {below : List Frame} {meth : Method} {c : Code} {D : va_G} {cy : Nat → ClassId} {B : Nat} {kd : Nat → Nat} {n : Nat} {sa sv : Nat → Nat} (C : zC p l s m args meth c D cy B kd n sa sv RX11 cX11_canSolve 6) (ht : ∀ x ∈ c.exceptionTable.toList, False) (hr : meth.sig.returnType = some (FieldType.boolean)) {b0 : Bool × Mem} (N : Nat) (k2 : Int32 → Mem → Option (Bool × Mem)) (v0 : Nat) (v1 : Int32) (v2 : Int32) (v3 : Int32) (v4 : Int32) (k106 : Int32 → Mem → Option (Bool × Mem)) (v5 : Int32) (M : Mem) (h0 : kd v0 = 11) (hk2 : ∀ (v3 : Int32) (M : Mem), Z p l e (rmz 1 0) s m args below meth c (vx_MQ below (QcR D cy B kd n (cvB b0)) (XcR D cy B kd n (cvB b0)) args s 0 (6 * 0) (AA B kd n)) D cy B kd n 6 b0 0 2 [(0, .ref (B + v0)), (1, .int v1), (2, .int v2), (3, .int v3)] [] M (k2 v3 M)) (hk106 : ∀ (v5 : Int32) (M : Mem), Z p l e (rmz 1 0) s m args below meth c (vx_MQ below (QcR D cy B kd n (cvB b0)) (XcR D cy B kd n (cvB b0)) args s 0 (6 * 0) (AA B kd n)) D cy B kd n 6 b0 0 106 [(0, .ref (B + v0)), (1, .int v1), (2, .int v2), (3, .int v3), (4, .int v4), (5, .int v5)] [] M (k106 v5 M)) : Z p l e (rmz 1 0) s m args below meth c (vx_MQ below (QcR D cy B kd n (cvB b0)) (XcR D cy B kd n (cvB b0)) args s 0 (6 * 0) (AA B kd n)) D cy B kd n 6 b0 0 106 [(0, .ref (B + v0)), (1, .int v1), (2, .int v2), (3, .int v3), (4, .int v4), (5, .int v5)] [] M (fX11_canSolve_l106_s N k2 v0 v1 v2 v3 v4 k106 v5 M) := by
  unfold fX11_canSolve_l106_s
  refine z_iload C 5 dX11_canSolve_106 rfl ?_
  refine z_iload_n C 2 2 dX11_canSolve_108 rfl rfl ?_
  refine z_icmp_ge C 178 dX11_canSolve_109 rfl (fun _ => ?_) (fun _ => ?_)
  · exact z_jump (ls1 := [(0, .ref (B + v0)), (1, .int v1), (2, .int v2), (3, .int v3)]) (Nat.le_of_ble_eq_true rfl) [0, 1, 2, 3] rfl (z_fX11_canSolve_b178 C ht hr N k2 v0 v1 v2 v3 M h0 hk2)
  · refine z_iload C 5 dX11_canSolve_112 rfl ?_
    refine z_iload C 4 dX11_canSolve_114 rfl ?_
    refine z_icmp_eq C 172 dX11_canSolve_116 rfl (fun _ => ?_) (fun _ => ?_)
    · exact z_jump (ls1 := [(0, .ref (B + v0)), (1, .int v1), (2, .int v2), (3, .int v3), (4, .int v4), (5, .int v5)]) (Nat.le_of_ble_eq_true rfl) [0, 1, 2, 3, 4, 5] rfl (z_fX11_canSolve_b172 C ht hr N k2 k106 v0 v1 v2 v3 v4 v5 M h0 hk2 hk106)
    · refine z_aload_n C 0 0 dX11_canSolve_119 rfl rfl ?_
      refine z_getR (k := 22) C cl11 h0 rfl gw_7_32 rfl dX11_canSolve_120 ?_
      have j1 : kd (v0 + 11) = 30 := zkd C h0 (k := 22) rfl
      refine z_iload C 5 dX11_canSolve_123 rfl ?_
      refine z_lald C j1 rfl (by decide) dX11_canSolve_125 (fun j2 => ?_)
      refine z_iload_n C 3 3 dX11_canSolve_126 rfl rfl ?_
      refine z_lshr C dX11_canSolve_127 ?_
      refine z_lconst (v := 1) C dX11_canSolve_128 rfl ?_
      refine z_land C dX11_canSolve_129 ?_
      refine z_lconst (v := 0) C dX11_canSolve_130 rfl ?_
      refine z_lcmp_ne C 138 dX11_canSolve_131 dX11_canSolve_132 rfl (fun _ => ?_) (fun _ => ?_)
      · refine z_goto C 172 dX11_canSolve_135 rfl ?_
        exact z_jump (ls1 := [(0, .ref (B + v0)), (1, .int v1), (2, .int v2), (3, .int v3), (4, .int v4), (5, .int v5)]) (Nat.le_of_ble_eq_true rfl) [0, 1, 2, 3, 4, 5] rfl (z_fX11_canSolve_b172 C ht hr N k2 k106 v0 v1 v2 v3 v4 v5 M h0 hk2 hk106)
      · refine z_aload_n C 0 0 dX11_canSolve_138 rfl rfl ?_
        refine z_getR (k := 22) C cl11 h0 rfl gw_7_32 rfl dX11_canSolve_139 ?_
        have j3 : kd (v0 + 11) = 30 := zkd C h0 (k := 22) rfl
        refine z_iload C 5 dX11_canSolve_142 rfl ?_
        refine z_dup2 C dX11_canSolve_144 rfl rfl ?_
        refine z_lald C j3 rfl (by decide) dX11_canSolve_145 (fun j4 => ?_)
        refine z_aload_n C 0 0 dX11_canSolve_146 rfl rfl ?_
        refine z_getR (k := 22) C cl11 h0 rfl gw_7_32 rfl dX11_canSolve_147 ?_
        have j5 : kd (v0 + 11) = 30 := zkd C h0 (k := 22) rfl
        refine z_iload C 4 dX11_canSolve_150 rfl ?_
        refine z_lald C j5 rfl (by decide) dX11_canSolve_152 (fun j6 => ?_)
        refine z_lxor C dX11_canSolve_153 ?_
        refine z_last C j3 rfl (by decide) dX11_canSolve_154 (fun _ => ?_)
        refine z_aload_n C 0 0 dX11_canSolve_155 rfl rfl ?_
        refine z_getR (k := 23) C cl11 h0 rfl gw_7_33 rfl dX11_canSolve_156 ?_
        have j7 : kd (v0 + 12) = 34 := zkd C h0 (k := 23) rfl
        refine z_iload C 5 dX11_canSolve_159 rfl ?_
        refine z_dup2 C dX11_canSolve_161 rfl rfl ?_
        refine z_iald C j7 rfl (by decide) dX11_canSolve_162 (fun j8 => ?_)
        refine z_aload_n C 0 0 dX11_canSolve_163 rfl rfl ?_
        refine z_getR (k := 23) C cl11 h0 rfl gw_7_33 rfl dX11_canSolve_164 ?_
        have j9 : kd (v0 + 12) = 34 := zkd C h0 (k := 23) rfl
        refine z_iload C 4 dX11_canSolve_167 rfl ?_
        refine z_iald C j9 rfl (by decide) dX11_canSolve_169 (fun j10 => ?_)
        refine z_ixor C dX11_canSolve_170 ?_
        refine z_iast C j7 rfl (by decide) dX11_canSolve_171 (fun _ => ?_)
        exact z_jump (ls1 := [(0, .ref (B + v0)), (1, .int v1), (2, .int v2), (3, .int v3), (4, .int v4), (5, .int v5)]) (Nat.le_of_ble_eq_true rfl) [0, 1, 2, 3, 4, 5] rfl (z_fX11_canSolve_b172 C ht hr N k2 k106 v0 v1 v2 v3 v4 v5 (wI (wJ M (v0 + 11) v5.toNatClampNeg ((rJ M (v0 + 11) v5.toNatClampNeg) ^^^ (rJ M (v0 + 11) v4.toNatClampNeg))) (v0 + 12) v5.toNatClampNeg ((rI (wJ M (v0 + 11) v5.toNatClampNeg ((rJ M (v0 + 11) v5.toNatClampNeg) ^^^ (rJ M (v0 + 11) v4.toNatClampNeg))) (v0 + 12) v5.toNatClampNeg) ^^^ (rI (wJ M (v0 + 11) v5.toNatClampNeg ((rJ M (v0 + 11) v5.toNatClampNeg) ^^^ (rJ M (v0 + 11) v4.toNatClampNeg))) (v0 + 12) v4.toNatClampNeg))) h0 hk2 hk106)
theorem z_fX11_canSolve_l106_i {p : Program} {l : Launch} {e : Env} {s : State} {m : MethodId} {args : Array Value} {below : List Frame} {meth : Method} {c : Code} {D : va_G} {cy : Nat → ClassId} {B : Nat} {kd : Nat → Nat} {n : Nat} {sa sv : Nat → Nat} (C : zC p l s m args meth c D cy B kd n sa sv RX11 cX11_canSolve 6) (ht : ∀ x ∈ c.exceptionTable.toList, False) (hr : meth.sig.returnType = some (FieldType.boolean)) {b0 : Bool × Mem} (N : Nat) (k2 : Int32 → Mem → Option (Bool × Mem)) (v0 : Nat) (v1 : Int32) (v2 : Int32) (v3 : Int32) (v4 : Int32) (h0 : kd v0 = 11) (hk2 : ∀ (v3 : Int32) (M : Mem), Z p l e (rmz 1 0) s m args below meth c (vx_MQ below (QcR D cy B kd n (cvB b0)) (XcR D cy B kd n (cvB b0)) args s 0 (6 * 0) (AA B kd n)) D cy B kd n 6 b0 0 2 [(0, .ref (B + v0)), (1, .int v1), (2, .int v2), (3, .int v3)] [] M (k2 v3 M)) (fu : Nat) : ∀ (v5 : Int32) (M : Mem), Z p l e (rmz 1 0) s m args below meth c (vx_MQ below (QcR D cy B kd n (cvB b0)) (XcR D cy B kd n (cvB b0)) args s 0 (6 * 0) (AA B kd n)) D cy B kd n 6 b0 0 106 [(0, .ref (B + v0)), (1, .int v1), (2, .int v2), (3, .int v3), (4, .int v4), (5, .int v5)] [] M (fX11_canSolve_l106 N k2 v0 v1 v2 v3 v4 fu v5 M) := by
  induction fu with
  | zero => intro v5 M; exact z_none
  | succ fu ih => intro v5 M; exact z_fX11_canSolve_l106_s C ht hr N k2 v0 v1 v2 v3 v4 (fX11_canSolve_l106 N k2 v0 v1 v2 v3 v4 fu) v5 M h0 hk2 (fun v5 M => ih v5 M)
theorem z_fX11_canSolve_l106 {p : Program} {l : Launch} {e : Env} {s : State} {m : MethodId} {args : Array Value} {below : List Frame} {meth : Method} {c : Code} {D : va_G} {cy : Nat → ClassId} {B : Nat} {kd : Nat → Nat} {n : Nat} {sa sv : Nat → Nat} (C : zC p l s m args meth c D cy B kd n sa sv RX11 cX11_canSolve 6) (ht : ∀ x ∈ c.exceptionTable.toList, False) (hr : meth.sig.returnType = some (FieldType.boolean)) {b0 : Bool × Mem} (N : Nat) (k2 : Int32 → Mem → Option (Bool × Mem)) (v0 : Nat) (v1 : Int32) (v2 : Int32) (v3 : Int32) (v4 : Int32) (fu : Nat) (v5 : Int32) (M : Mem) (h0 : kd v0 = 11) (hk2 : ∀ (v3 : Int32) (M : Mem), Z p l e (rmz 1 0) s m args below meth c (vx_MQ below (QcR D cy B kd n (cvB b0)) (XcR D cy B kd n (cvB b0)) args s 0 (6 * 0) (AA B kd n)) D cy B kd n 6 b0 0 2 [(0, .ref (B + v0)), (1, .int v1), (2, .int v2), (3, .int v3)] [] M (k2 v3 M)) : Z p l e (rmz 1 0) s m args below meth c (vx_MQ below (QcR D cy B kd n (cvB b0)) (XcR D cy B kd n (cvB b0)) args s 0 (6 * 0) (AA B kd n)) D cy B kd n 6 b0 0 106 [(0, .ref (B + v0)), (1, .int v1), (2, .int v2), (3, .int v3), (4, .int v4), (5, .int v5)] [] M (fX11_canSolve_l106 N k2 v0 v1 v2 v3 v4 fu v5 M) := z_fX11_canSolve_l106_i C ht hr N k2 v0 v1 v2 v3 v4 h0 hk2 fu v5 M
