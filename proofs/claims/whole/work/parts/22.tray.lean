/-! X9_numberAt -/
def fX9_numberAt_b22  (Mo : Mem) : Option Int64 :=
  some (-1 : Int64)
def fX9_numberAt (v0 : Nat) (v1 : Int32) (Mo : Mem) : Option Int64 :=
  if v1 < 0 then fX9_numberAt_b22 Mo else if (40 : Int32) ≤ v1 then fX9_numberAt_b22 Mo else if inB v1 40 = true then some (rJ Mo (v0 + 1) v1.toNatClampNeg) else none
/-! X9_begin -/
def fX9_begin (N : Nat) (v0 : Nat) (v1 : Int32) (v2 : Int32) (M : Mem) : Option Mem :=
  (some (fillJ (wI (wI (wI M v0 0 (1 : Int32)) v0 2 v1) v0 1 v2) (v0 + 1) 40 (0 : Int64))).bind fun qj2 => some qj2
/-! X9_cut -/
def fX9_cut (v0 : Nat) (v1 : Int64) (Mo : Mem) : Option Int64 :=
  if (rI Mo v0 2) = (0 : Int32) then some v1.toInt32.toInt8.toInt32.toInt64 else if (rI Mo v0 2) = (1 : Int32) then some v1.toInt32.toInt16.toInt32.toInt64 else if (rI Mo v0 2) = (2 : Int32) then some v1.toInt32.toInt64 else some v1
/-! X9_keep -/
def fX9_keep_b24  (v0 : Nat) (v1 : Int32) (M : Mem) : Option (Int64 × Mem) :=
  (fX9_numberAt v0 v1 M).bind fun qj1 => some (qj1, M)
def fX9_keep (v0 : Nat) (v1 : Int32) (v2 : Int64) (M : Mem) : Option (Int64 × Mem) :=
  if v1 < 0 then fX9_keep_b24 v0 v1 M else if (40 : Int32) ≤ v1 then fX9_keep_b24 v0 v1 M else (fX9_cut v0 v2 M).bind fun qj3 => if inB v1 40 = true then fX9_keep_b24 v0 v1 (wJ M (v0 + 1) v1.toNatClampNeg qj3) else none
/-! X9_allWithin -/
def fX9_allWithin_b32 (N : Nat) (Mo : Mem) : Option Bool :=
  some false
def fX9_allWithin_l2_s (N : Nat) (v0 : Nat) (v1 : Int32) (v2 : Int32) (Mo : Mem) (k2 : Int32 → Option Bool) (v3 : Int32) : Option Bool :=
  if (rI Mo v0 1) ≤ v3 then some true else (fX9_numberAt v0 v3 Mo).bind fun qj1 => if qj1 < v1.toInt64 then fX9_allWithin_b32 N Mo else (fX9_numberAt v0 v3 Mo).bind fun qj2 => if qj2 ≤ v2.toInt64 then k2 (v3 + (1 : Int32)) else fX9_allWithin_b32 N Mo
def fX9_allWithin_l2 (N : Nat) (v0 : Nat) (v1 : Int32) (v2 : Int32) (Mo : Mem) : Nat → Int32 → Option Bool
  | 0, _ => none
  | n + 1, v3 => fX9_allWithin_l2_s N v0 v1 v2 Mo (fX9_allWithin_l2 N v0 v1 v2 Mo n) v3
def fX9_allWithin (N : Nat) (v0 : Nat) (v1 : Int32) (v2 : Int32) (Mo : Mem) : Option Bool :=
  fX9_allWithin_l2 N v0 v1 v2 Mo N (0 : Int32)
/-! X9_hasTwoAlike -/
def fX9_hasTwoAlike_l12_s (N : Nat) (k2 : Int32 → Option Bool) (v0 : Nat) (v1 : Int32) (Mo : Mem) (k12 : Int32 → Option Bool) (v2 : Int32) : Option Bool :=
  if v1 ≤ v2 then k2 (v1 + (1 : Int32)) else (fX9_numberAt v0 v1 Mo).bind fun qj1 => (fX9_numberAt v0 v2 Mo).bind fun qj2 => if qj1 = qj2 then some true else k12 (v2 + (1 : Int32))
def fX9_hasTwoAlike_l12 (N : Nat) (k2 : Int32 → Option Bool) (v0 : Nat) (v1 : Int32) (Mo : Mem) : Nat → Int32 → Option Bool
  | 0, _ => none
  | n + 1, v2 => fX9_hasTwoAlike_l12_s N k2 v0 v1 Mo (fX9_hasTwoAlike_l12 N k2 v0 v1 Mo n) v2
def fX9_hasTwoAlike_l2_s (N : Nat) (v0 : Nat) (Mo : Mem) (k2 : Int32 → Option Bool) (v1 : Int32) : Option Bool :=
  if (rI Mo v0 1) ≤ v1 then some false else fX9_hasTwoAlike_l12 N k2 v0 v1 Mo N (0 : Int32)
def fX9_hasTwoAlike_l2 (N : Nat) (v0 : Nat) (Mo : Mem) : Nat → Int32 → Option Bool
  | 0, _ => none
  | n + 1, v1 => fX9_hasTwoAlike_l2_s N v0 Mo (fX9_hasTwoAlike_l2 N v0 Mo n) v1
def fX9_hasTwoAlike (N : Nat) (v0 : Nat) (Mo : Mem) : Option Bool :=
  fX9_hasTwoAlike_l2 N v0 Mo N (0 : Int32)
set_option maxHeartbeats 4000000 in
set_option maxRecDepth 100000 in
theorem z_fX9_numberAt_b22 {p : Program} {l : Launch} {e : Env} {s : State} {m : MethodId} {args : Array Value} {below : List Frame} {meth : Method} {c : Code} {D : va_G} {cy : Nat → ClassId} {B : Nat} {kd : Nat → Nat} {n : Nat} {sa sv : Nat → Nat} (C : zC p l s m args meth c D cy B kd n sa sv RX9 cX9_numberAt 2) (ht : ∀ x ∈ c.exceptionTable.toList, False) (hr : meth.sig.returnType = some (FieldType.long)) {b0 : Int64}   (Mo : Mem)  : Z p l e (rmz 0 0) s m args below meth c (vx_MQ below (QcR D cy B kd n ((pJ Mo) b0)) (XcR D cy B kd n ((pJ Mo) b0)) args s 0 (6 * 0) (AA B kd n)) D cy B kd n 2 b0 0 22 [] [] Mo (fX9_numberAt_b22 Mo) := by
  unfold fX9_numberAt_b22
  refine z_ldc2 C dX9_numberAt_22 gw_5_199 ?_
  exact z_lret C hr (Nat.le_of_ble_eq_true rfl) dX9_numberAt_25 rfl
set_option maxHeartbeats 4000000 in
set_option maxRecDepth 100000 in
theorem ctX9_numberAt {l : Launch} {D : va_G} {cy : Nat → ClassId} {B : Nat} {kd : Nat → Nat} {n : Nat} {sa sv : Nat → Nat} (G : zG l kd n) (v0 : Nat) (v1 : Int32) (h0 : kd v0 = 9) (Mo : Mem) : CT l D cy B kd n sa sv 0 0 yX9_numberAt cX9_numberAt 2 (some (FieldType.long)) (pJ Mo) [.ref (B + v0), .int v1] Mo (fX9_numberAt v0 v1 Mo) := by
  refine ct_of (by decide) G.1 G.2 (Nat.le_of_ble_eq_true rfl) (ls := [(0, .ref (B + v0)), (1, .int v1)]) rfl ?_
  intro p e s m args below meth c b0 C ht hr
  unfold fX9_numberAt
  refine z_iload_n C 1 1 dX9_numberAt_0 rfl rfl ?_
  refine z_if_lt C 22 dX9_numberAt_1 rfl (fun _ => ?_) (fun _ => ?_)
  · exact z_jump (ls1 := []) (Nat.le_of_ble_eq_true rfl) [] rfl (z_fX9_numberAt_b22 C ht hr Mo)
  · refine z_iload_n C 1 1 dX9_numberAt_4 rfl rfl ?_
    refine z_aload_n C 0 0 dX9_numberAt_5 rfl rfl ?_
    refine z_getR (k := 3) C cl9 h0 rfl gw_1_214 rfl dX9_numberAt_6 ?_
    have j1 : kd (v0 + 1) = 30 := zkd C h0 (k := 3) rfl
    refine z_alen (v := 40) C j1 (by decide) rfl dX9_numberAt_9 ?_
    refine z_icmp_ge C 22 dX9_numberAt_10 rfl (fun _ => ?_) (fun _ => ?_)
    · exact z_jump (ls1 := []) (Nat.le_of_ble_eq_true rfl) [] rfl (z_fX9_numberAt_b22 C ht hr Mo)
    · refine z_aload_n C 0 0 dX9_numberAt_13 rfl rfl ?_
      refine z_getR (k := 3) C cl9 h0 rfl gw_1_214 rfl dX9_numberAt_14 ?_
      have j2 : kd (v0 + 1) = 30 := zkd C h0 (k := 3) rfl
      refine z_iload_n C 1 1 dX9_numberAt_17 rfl rfl ?_
      refine z_lald C j2 rfl (by decide) dX9_numberAt_18 (fun j3 => ?_)
      refine z_goto C 25 dX9_numberAt_19 rfl ?_
      exact z_lret C hr (Nat.le_of_ble_eq_true rfl) dX9_numberAt_25 rfl
set_option maxHeartbeats 4000000 in
set_option maxRecDepth 100000 in
theorem ctX9_begin {l : Launch} {D : va_G} {cy : Nat → ClassId} {B : Nat} {kd : Nat → Nat} {n : Nat} {sa sv : Nat → Nat} (G : zG l kd n) (N : Nat) (v0 : Nat) (v1 : Int32) (v2 : Int32) (h0 : kd v0 = 9) (M : Mem) : CT l D cy B kd n sa sv 1 0 yX9_begin cX9_begin 3 (none) cvV [.ref (B + v0), .int v1, .int v2] M (fX9_begin N v0 v1 v2 M) := by
  refine ct_of (by decide) G.1 G.2 (Nat.le_of_ble_eq_true rfl) (ls := [(0, .ref (B + v0)), (1, .int v1), (2, .int v2)]) rfl ?_
  intro p e s m args below meth c b0 C ht hr
  unfold fX9_begin
  refine z_aload_n C 0 0 dX9_begin_0 rfl rfl ?_
  refine z_iconst C dX9_begin_1 rfl ?_
  refine z_putZ (k := 0) C cl9 h0 rfl gw_1_206 rfl rfl rfl (narB true) (fitB true) dX9_begin_2 ?_
  refine z_aload_n C 0 0 dX9_begin_5 rfl rfl ?_
  refine z_iload_n C 1 1 dX9_begin_6 rfl rfl ?_
  refine z_putI (k := 2) C cl9 h0 rfl gw_1_213 rfl rfl rfl dX9_begin_7 ?_
  refine z_aload_n C 0 0 dX9_begin_10 rfl rfl ?_
  refine z_iload_n C 2 2 dX9_begin_11 rfl rfl ?_
  refine z_putI (k := 1) C cl9 h0 rfl gw_1_209 rfl rfl rfl dX9_begin_12 ?_
  refine z_aload_n C 0 0 dX9_begin_15 rfl rfl ?_
  refine z_getR (k := 3) C cl9 h0 rfl gw_1_214 rfl dX9_begin_16 ?_
  have j1 : kd (v0 + 1) = 30 := zkd C h0 (k := 3) rfl
  refine z_lconst (v := 0) C dX9_begin_19 rfl ?_
  refine z_callS_V (As := [.ref (B + (v0 + 1)), .long (0 : Int64)]) (rest := []) C rfl (ctJ7_fill_d0a16 (zG_of C) j1 rfl (by decide) (0 : Int64) (wI (wI (wI M v0 0 (1 : Int32)) v0 2 v1) v0 1 v2)) cw_RX9_26 (okM_J7_fill_d0a16) rfl (okR_of rfl) (Nat.le_of_ble_eq_true rfl) dX9_begin_20 (fun qj2 _ => ?_)
  exact z_vret C hr (Nat.le_of_ble_eq_true rfl) dX9_begin_23 rfl
set_option maxHeartbeats 4000000 in
set_option maxRecDepth 100000 in
theorem ctX9_cut {l : Launch} {D : va_G} {cy : Nat → ClassId} {B : Nat} {kd : Nat → Nat} {n : Nat} {sa sv : Nat → Nat} (G : zG l kd n) (v0 : Nat) (v1 : Int64) (h0 : kd v0 = 9) (Mo : Mem) : CT l D cy B kd n sa sv 0 0 yX9_cut cX9_cut 3 (some (FieldType.long)) (pJ Mo) [.ref (B + v0), .long v1] Mo (fX9_cut v0 v1 Mo) := by
  refine ct_of (by decide) G.1 G.2 (Nat.le_of_ble_eq_true rfl) (ls := [(0, .ref (B + v0)), (1, .long v1)]) rfl ?_
  intro p e s m args below meth c b0 C ht hr
  unfold fX9_cut
  refine z_aload_n C 0 0 dX9_cut_0 rfl rfl ?_
  refine z_getI (k := 2) C cl9 h0 rfl gw_1_213 rfl dX9_cut_1 ?_
  refine z_ite (q := (rI Mo v0 2) = (0 : Int32)) (fun j1 => ?_) (fun j2 => ?_)
  · refine z_tableZ C 32 (0) dX9_cut_4 (by rw [j1]; decide) (by decide) (by decide) rfl rfl ?_
    refine z_lload_n C 1 1 dX9_cut_32 rfl rfl ?_
    refine z_l2i C dX9_cut_33 ?_
    refine z_i2b C dX9_cut_34 ?_
    refine z_i2l C dX9_cut_35 ?_
    exact z_lret C hr (Nat.le_of_ble_eq_true rfl) dX9_cut_36 rfl
  refine z_ite (q := (rI Mo v0 2) = (1 : Int32)) (fun j3 => ?_) (fun j4 => ?_)
  · refine z_tableZ C 37 (1) dX9_cut_4 (by rw [j3]; decide) (by decide) (by decide) rfl rfl ?_
    refine z_lload_n C 1 1 dX9_cut_37 rfl rfl ?_
    refine z_l2i C dX9_cut_38 ?_
    refine z_i2s C dX9_cut_39 ?_
    refine z_i2l C dX9_cut_40 ?_
    exact z_lret C hr (Nat.le_of_ble_eq_true rfl) dX9_cut_41 rfl
  refine z_ite (q := (rI Mo v0 2) = (2 : Int32)) (fun j5 => ?_) (fun j6 => ?_)
  · refine z_tableZ C 42 (2) dX9_cut_4 (by rw [j5]; decide) (by decide) (by decide) rfl rfl ?_
    refine z_lload_n C 1 1 dX9_cut_42 rfl rfl ?_
    refine z_l2i C dX9_cut_43 ?_
    refine z_i2l C dX9_cut_44 ?_
    exact z_lret C hr (Nat.le_of_ble_eq_true rfl) dX9_cut_45 rfl
  have j2t := lv_neT (a := 0) j2 (by decide)
  have j4t := lv_neT (a := 1) j4 (by decide)
  have j6t := lv_neT (a := 2) j6 (by decide)
  refine z_tableOut C 46 dX9_cut_4 (by omega) rfl ?_
  refine z_lload_n C 1 1 dX9_cut_46 rfl rfl ?_
  exact z_lret C hr (Nat.le_of_ble_eq_true rfl) dX9_cut_47 rfl
set_option maxHeartbeats 4000000 in
set_option maxRecDepth 100000 in
theorem z_fX9_keep_b24 {p : Program} {l : Launch} {e : Env} {s : State} {m : MethodId} {args : Array Value} {below : List Frame} {meth : Method} {c : Code} {D : va_G} {cy : Nat → ClassId} {B : Nat} {kd : Nat → Nat} {n : Nat} {sa sv : Nat → Nat} (C : zC p l s m args meth c D cy B kd n sa sv RX9 cX9_keep 4) (ht : ∀ x ∈ c.exceptionTable.toList, False) (hr : meth.sig.returnType = some (FieldType.long)) {b0 : Int64 × Mem}   (v0 : Nat) (v1 : Int32) (M : Mem) (h0 : kd v0 = 9)  : Z p l e (rmz 1 0) s m args below meth c (vx_MQ below (QcR D cy B kd n (cvJ b0)) (XcR D cy B kd n (cvJ b0)) args s 0 (6 * 0) (AA B kd n)) D cy B kd n 4 b0 0 24 [(0, .ref (B + v0)), (1, .int v1)] [] M (fX9_keep_b24 v0 v1 M) := by
  unfold fX9_keep_b24
  refine z_aload_n C 0 0 dX9_keep_24 rfl rfl ?_
  refine z_iload_n C 1 1 dX9_keep_25 rfl rfl ?_
  refine z_callV_pJ (As := [.int v1]) (rest := []) C rfl (ctX9_numberAt (zG_of C) v0 v1 h0 M) cw_RX9_38 rfl (okM_X9_numberAt) rfl cl9 h0 (okR_of rfl) (Nat.le_of_ble_eq_true rfl) dX9_keep_26 (fun qj1 _ => ?_)
  exact z_lret C hr (Nat.le_of_ble_eq_true rfl) dX9_keep_29 rfl
set_option maxHeartbeats 4000000 in
set_option maxRecDepth 100000 in
theorem ctX9_keep {l : Launch} {D : va_G} {cy : Nat → ClassId} {B : Nat} {kd : Nat → Nat} {n : Nat} {sa sv : Nat → Nat} (G : zG l kd n) (v0 : Nat) (v1 : Int32) (v2 : Int64) (h0 : kd v0 = 9) (M : Mem) : CT l D cy B kd n sa sv 1 0 yX9_keep cX9_keep 4 (some (FieldType.long)) cvJ [.ref (B + v0), .int v1, .long v2] M (fX9_keep v0 v1 v2 M) := by
  refine ct_of (by decide) G.1 G.2 (Nat.le_of_ble_eq_true rfl) (ls := [(0, .ref (B + v0)), (1, .int v1), (2, .long v2)]) rfl ?_
  intro p e s m args below meth c b0 C ht hr
  unfold fX9_keep
  refine z_iload_n C 1 1 dX9_keep_0 rfl rfl ?_
  refine z_if_lt C 24 dX9_keep_1 rfl (fun _ => ?_) (fun _ => ?_)
  · exact z_jump (ls1 := [(0, .ref (B + v0)), (1, .int v1)]) (Nat.le_of_ble_eq_true rfl) [0, 1] rfl (z_fX9_keep_b24 C ht hr v0 v1 M h0)
  · refine z_iload_n C 1 1 dX9_keep_4 rfl rfl ?_
    refine z_aload_n C 0 0 dX9_keep_5 rfl rfl ?_
    refine z_getR (k := 3) C cl9 h0 rfl gw_1_214 rfl dX9_keep_6 ?_
    have j1 : kd (v0 + 1) = 30 := zkd C h0 (k := 3) rfl
    refine z_alen (v := 40) C j1 (by decide) rfl dX9_keep_9 ?_
    refine z_icmp_ge C 24 dX9_keep_10 rfl (fun _ => ?_) (fun _ => ?_)
    · exact z_jump (ls1 := [(0, .ref (B + v0)), (1, .int v1)]) (Nat.le_of_ble_eq_true rfl) [0, 1] rfl (z_fX9_keep_b24 C ht hr v0 v1 M h0)
    · refine z_aload_n C 0 0 dX9_keep_13 rfl rfl ?_
      refine z_getR (k := 3) C cl9 h0 rfl gw_1_214 rfl dX9_keep_14 ?_
      have j2 : kd (v0 + 1) = 30 := zkd C h0 (k := 3) rfl
      refine z_iload_n C 1 1 dX9_keep_17 rfl rfl ?_
      refine z_aload_n C 0 0 dX9_keep_18 rfl rfl ?_
      refine z_lload_n C 2 2 dX9_keep_19 rfl rfl ?_
      refine z_callV_pJ (As := [.long v2]) (rest := [.int v1, .ref (B + (v0 + 1))]) C rfl (ctX9_cut (zG_of C) v0 v2 h0 M) cw_RX9_34 rfl (okM_X9_cut) rfl cl9 h0 (okR_of rfl) (Nat.le_of_ble_eq_true rfl) dX9_keep_20 (fun qj3 _ => ?_)
      refine z_last C j2 rfl (by decide) dX9_keep_23 (fun _ => ?_)
      exact z_jump (ls1 := [(0, .ref (B + v0)), (1, .int v1)]) (Nat.le_of_ble_eq_true rfl) [0, 1] rfl (z_fX9_keep_b24 C ht hr v0 v1 (wJ M (v0 + 1) v1.toNatClampNeg qj3) h0)
set_option maxHeartbeats 4000000 in
set_option maxRecDepth 100000 in
theorem z_fX9_allWithin_b32 {p : Program} {l : Launch} {e : Env} {s : State} {m : MethodId} {args : Array Value} {below : List Frame} {meth : Method} {c : Code} {D : va_G} {cy : Nat → ClassId} {B : Nat} {kd : Nat → Nat} {n : Nat} {sa sv : Nat → Nat} (C : zC p l s m args meth c D cy B kd n sa sv RX9 cX9_allWithin 4) (ht : ∀ x ∈ c.exceptionTable.toList, False) (hr : meth.sig.returnType = some (FieldType.boolean)) {b0 : Bool}  (N : Nat) (Mo : Mem)  : Z p l e (rmz 1 0) s m args below meth c (vx_MQ below (QcR D cy B kd n ((pB Mo) b0)) (XcR D cy B kd n ((pB Mo) b0)) args s 0 (6 * 0) (AA B kd n)) D cy B kd n 4 b0 0 32 [] [] Mo (fX9_allWithin_b32 N Mo) := by
  unfold fX9_allWithin_b32
  refine z_iconst C dX9_allWithin_32 rfl ?_
  exact z_zret C (v := false) hr (Nat.le_of_ble_eq_true rfl) dX9_allWithin_33 rfl
set_option maxHeartbeats 4000000 in
set_option maxRecDepth 100000 in
theorem z_fX9_allWithin_l2_s {p : Program} {l : Launch} {e : Env} {s : State} {m : MethodId} {args : Array Value} {below : List Frame} {meth : Method} {c : Code} {D : va_G} {cy : Nat → ClassId} {B : Nat} {kd : Nat → Nat} {n : Nat} {sa sv : Nat → Nat} (C : zC p l s m args meth c D cy B kd n sa sv RX9 cX9_allWithin 4) (ht : ∀ x ∈ c.exceptionTable.toList, False) (hr : meth.sig.returnType = some (FieldType.boolean)) {b0 : Bool} {Mo : Mem} (N : Nat) (v0 : Nat) (v1 : Int32) (v2 : Int32) (k2 : Int32 → Option Bool) (v3 : Int32) (h0 : kd v0 = 9)  (hk2 : ∀ (v3 : Int32), Z p l e (rmz 1 0) s m args below meth c (vx_MQ below (QcR D cy B kd n ((pB Mo) b0)) (XcR D cy B kd n ((pB Mo) b0)) args s 0 (6 * 0) (AA B kd n)) D cy B kd n 4 b0 0 2 [(0, .ref (B + v0)), (1, .int v1), (2, .int v2), (3, .int v3)] [] Mo (k2 v3)) : Z p l e (rmz 1 0) s m args below meth c (vx_MQ below (QcR D cy B kd n ((pB Mo) b0)) (XcR D cy B kd n ((pB Mo) b0)) args s 0 (6 * 0) (AA B kd n)) D cy B kd n 4 b0 0 2 [(0, .ref (B + v0)), (1, .int v1), (2, .int v2), (3, .int v3)] [] Mo (fX9_allWithin_l2_s N v0 v1 v2 Mo k2 v3) := by
  unfold fX9_allWithin_l2_s
  refine z_iload_n C 3 3 dX9_allWithin_2 rfl rfl ?_
  refine z_aload_n C 0 0 dX9_allWithin_3 rfl rfl ?_
  refine z_getI (k := 1) C cl9 h0 rfl gw_1_209 rfl dX9_allWithin_4 ?_
  refine z_icmp_ge C 40 dX9_allWithin_7 rfl (fun _ => ?_) (fun _ => ?_)
  · refine z_iconst C dX9_allWithin_40 rfl ?_
    exact z_zret C (v := true) hr (Nat.le_of_ble_eq_true rfl) dX9_allWithin_41 rfl
  · refine z_aload_n C 0 0 dX9_allWithin_10 rfl rfl ?_
    refine z_iload_n C 3 3 dX9_allWithin_11 rfl rfl ?_
    refine z_callV_pJ (As := [.int v3]) (rest := []) C rfl (ctX9_numberAt (zG_of C) v0 v3 h0 Mo) cw_RX9_38 rfl (okM_X9_numberAt) rfl cl9 h0 (okR_of rfl) (Nat.le_of_ble_eq_true rfl) dX9_allWithin_12 (fun qj1 _ => ?_)
    refine z_iload_n C 1 1 dX9_allWithin_15 rfl rfl ?_
    refine z_i2l C dX9_allWithin_16 ?_
    refine z_lcmp_lt C 32 dX9_allWithin_17 dX9_allWithin_18 rfl (fun _ => ?_) (fun _ => ?_)
    · exact z_jump (ls1 := []) (Nat.le_of_ble_eq_true rfl) [] rfl (z_fX9_allWithin_b32 C ht hr N Mo)
    · refine z_aload_n C 0 0 dX9_allWithin_21 rfl rfl ?_
      refine z_iload_n C 3 3 dX9_allWithin_22 rfl rfl ?_
      refine z_callV_pJ (As := [.int v3]) (rest := []) C rfl (ctX9_numberAt (zG_of C) v0 v3 h0 Mo) cw_RX9_38 rfl (okM_X9_numberAt) rfl cl9 h0 (okR_of rfl) (Nat.le_of_ble_eq_true rfl) dX9_allWithin_23 (fun qj2 _ => ?_)
      refine z_iload_n C 2 2 dX9_allWithin_26 rfl rfl ?_
      refine z_i2l C dX9_allWithin_27 ?_
      refine z_lcmp_le C 34 dX9_allWithin_28 dX9_allWithin_29 rfl (fun _ => ?_) (fun _ => ?_)
      · refine z_iinc C 3 3 (v := v3) (v1 := (v3 + (1 : Int32))) (ls1 := [(3, .int (v3 + (1 : Int32))), (0, .ref (B + v0)), (1, .int v1), (2, .int v2)]) dX9_allWithin_34 rfl rfl (by decide) rfl ?_
        refine z_goto C 2 dX9_allWithin_37 rfl ?_
        exact z_jump (ls1 := [(0, .ref (B + v0)), (1, .int v1), (2, .int v2), (3, .int (v3 + (1 : Int32)))]) (Nat.le_of_ble_eq_true rfl) [1, 2, 3, 0] rfl (hk2 (v3 + (1 : Int32)))
      · exact z_jump (ls1 := []) (Nat.le_of_ble_eq_true rfl) [] rfl (z_fX9_allWithin_b32 C ht hr N Mo)
theorem z_fX9_allWithin_l2_i {p : Program} {l : Launch} {e : Env} {s : State} {m : MethodId} {args : Array Value} {below : List Frame} {meth : Method} {c : Code} {D : va_G} {cy : Nat → ClassId} {B : Nat} {kd : Nat → Nat} {n : Nat} {sa sv : Nat → Nat} (C : zC p l s m args meth c D cy B kd n sa sv RX9 cX9_allWithin 4) (ht : ∀ x ∈ c.exceptionTable.toList, False) (hr : meth.sig.returnType = some (FieldType.boolean)) {b0 : Bool} {Mo : Mem} (N : Nat) (v0 : Nat) (v1 : Int32) (v2 : Int32) (h0 : kd v0 = 9)  (fu : Nat) : ∀ (v3 : Int32), Z p l e (rmz 1 0) s m args below meth c (vx_MQ below (QcR D cy B kd n ((pB Mo) b0)) (XcR D cy B kd n ((pB Mo) b0)) args s 0 (6 * 0) (AA B kd n)) D cy B kd n 4 b0 0 2 [(0, .ref (B + v0)), (1, .int v1), (2, .int v2), (3, .int v3)] [] Mo (fX9_allWithin_l2 N v0 v1 v2 Mo fu v3) := by
  induction fu with
  | zero => intro v3; exact z_none
  | succ fu ih => intro v3; exact z_fX9_allWithin_l2_s C ht hr N v0 v1 v2 (fX9_allWithin_l2 N v0 v1 v2 Mo fu) v3 h0 (fun v3 => ih v3)
theorem z_fX9_allWithin_l2 {p : Program} {l : Launch} {e : Env} {s : State} {m : MethodId} {args : Array Value} {below : List Frame} {meth : Method} {c : Code} {D : va_G} {cy : Nat → ClassId} {B : Nat} {kd : Nat → Nat} {n : Nat} {sa sv : Nat → Nat} (C : zC p l s m args meth c D cy B kd n sa sv RX9 cX9_allWithin 4) (ht : ∀ x ∈ c.exceptionTable.toList, False) (hr : meth.sig.returnType = some (FieldType.boolean)) {b0 : Bool} {Mo : Mem} (N : Nat) (v0 : Nat) (v1 : Int32) (v2 : Int32) (fu : Nat) (v3 : Int32) (h0 : kd v0 = 9)  : Z p l e (rmz 1 0) s m args below meth c (vx_MQ below (QcR D cy B kd n ((pB Mo) b0)) (XcR D cy B kd n ((pB Mo) b0)) args s 0 (6 * 0) (AA B kd n)) D cy B kd n 4 b0 0 2 [(0, .ref (B + v0)), (1, .int v1), (2, .int v2), (3, .int v3)] [] Mo (fX9_allWithin_l2 N v0 v1 v2 Mo fu v3) := z_fX9_allWithin_l2_i C ht hr N v0 v1 v2 h0 fu v3
set_option maxHeartbeats 4000000 in
set_option maxRecDepth 100000 in
theorem ctX9_allWithin {l : Launch} {D : va_G} {cy : Nat → ClassId} {B : Nat} {kd : Nat → Nat} {n : Nat} {sa sv : Nat → Nat} (G : zG l kd n) (N : Nat) (v0 : Nat) (v1 : Int32) (v2 : Int32) (h0 : kd v0 = 9) (Mo : Mem) : CT l D cy B kd n sa sv 1 0 yX9_allWithin cX9_allWithin 4 (some (FieldType.boolean)) (pB Mo) [.ref (B + v0), .int v1, .int v2] Mo (fX9_allWithin N v0 v1 v2 Mo) := by
  refine ct_of (by decide) G.1 G.2 (Nat.le_of_ble_eq_true rfl) (ls := [(0, .ref (B + v0)), (1, .int v1), (2, .int v2)]) rfl ?_
  intro p e s m args below meth c b0 C ht hr
  unfold fX9_allWithin
  refine z_iconst C dX9_allWithin_0 rfl ?_
  refine z_istore_n C 3 (ls1 := [(3, .int (0 : Int32)), (0, .ref (B + v0)), (1, .int v1), (2, .int v2)]) dX9_allWithin_1 rfl (by decide) rfl ?_
  exact z_jump (ls1 := [(0, .ref (B + v0)), (1, .int v1), (2, .int v2), (3, .int (0 : Int32))]) (Nat.le_of_ble_eq_true rfl) [1, 2, 3, 0] rfl (z_fX9_allWithin_l2 C ht hr N v0 v1 v2 N (0 : Int32) h0)
set_option maxHeartbeats 4000000 in
set_option maxRecDepth 100000 in
theorem z_fX9_hasTwoAlike_l12_s {p : Program} {l : Launch} {e : Env} {s : State} {m : MethodId} {args : Array Value} {below : List Frame} {meth : Method} {c : Code} {D : va_G} {cy : Nat → ClassId} {B : Nat} {kd : Nat → Nat} {n : Nat} {sa sv : Nat → Nat} (C : zC p l s m args meth c D cy B kd n sa sv RX9 cX9_hasTwoAlike 3) (ht : ∀ x ∈ c.exceptionTable.toList, False) (hr : meth.sig.returnType = some (FieldType.boolean)) {b0 : Bool} {Mo : Mem} (N : Nat) (k2 : Int32 → Option Bool) (v0 : Nat) (v1 : Int32) (k12 : Int32 → Option Bool) (v2 : Int32) (h0 : kd v0 = 9) (hk2 : ∀ (v1 : Int32), Z p l e (rmz 1 0) s m args below meth c (vx_MQ below (QcR D cy B kd n ((pB Mo) b0)) (XcR D cy B kd n ((pB Mo) b0)) args s 0 (6 * 0) (AA B kd n)) D cy B kd n 3 b0 0 2 [(0, .ref (B + v0)), (1, .int v1)] [] Mo (k2 v1)) (hk12 : ∀ (v2 : Int32), Z p l e (rmz 1 0) s m args below meth c (vx_MQ below (QcR D cy B kd n ((pB Mo) b0)) (XcR D cy B kd n ((pB Mo) b0)) args s 0 (6 * 0) (AA B kd n)) D cy B kd n 3 b0 0 12 [(0, .ref (B + v0)), (1, .int v1), (2, .int v2)] [] Mo (k12 v2)) : Z p l e (rmz 1 0) s m args below meth c (vx_MQ below (QcR D cy B kd n ((pB Mo) b0)) (XcR D cy B kd n ((pB Mo) b0)) args s 0 (6 * 0) (AA B kd n)) D cy B kd n 3 b0 0 12 [(0, .ref (B + v0)), (1, .int v1), (2, .int v2)] [] Mo (fX9_hasTwoAlike_l12_s N k2 v0 v1 Mo k12 v2) := by
  unfold fX9_hasTwoAlike_l12_s
  refine z_iload_n C 2 2 dX9_hasTwoAlike_12 rfl rfl ?_
  refine z_iload_n C 1 1 dX9_hasTwoAlike_13 rfl rfl ?_
  refine z_icmp_ge C 39 dX9_hasTwoAlike_14 rfl (fun _ => ?_) (fun _ => ?_)
  · refine z_iinc C 1 1 (v := v1) (v1 := (v1 + (1 : Int32))) (ls1 := [(1, .int (v1 + (1 : Int32))), (0, .ref (B + v0)), (2, .int v2)]) dX9_hasTwoAlike_39 rfl rfl (by decide) rfl ?_
    refine z_goto C 2 dX9_hasTwoAlike_42 rfl ?_
    exact z_jump (ls1 := [(0, .ref (B + v0)), (1, .int (v1 + (1 : Int32)))]) (Nat.le_of_ble_eq_true rfl) [1, 0] rfl (hk2 (v1 + (1 : Int32)))
  · refine z_aload_n C 0 0 dX9_hasTwoAlike_17 rfl rfl ?_
    refine z_iload_n C 1 1 dX9_hasTwoAlike_18 rfl rfl ?_
    refine z_callV_pJ (As := [.int v1]) (rest := []) C rfl (ctX9_numberAt (zG_of C) v0 v1 h0 Mo) cw_RX9_38 rfl (okM_X9_numberAt) rfl cl9 h0 (okR_of rfl) (Nat.le_of_ble_eq_true rfl) dX9_hasTwoAlike_19 (fun qj1 _ => ?_)
    refine z_aload_n C 0 0 dX9_hasTwoAlike_22 rfl rfl ?_
    refine z_iload_n C 2 2 dX9_hasTwoAlike_23 rfl rfl ?_
    refine z_callV_pJ (As := [.int v2]) (rest := [.long qj1]) C rfl (ctX9_numberAt (zG_of C) v0 v2 h0 Mo) cw_RX9_38 rfl (okM_X9_numberAt) rfl cl9 h0 (okR_of rfl) (Nat.le_of_ble_eq_true rfl) dX9_hasTwoAlike_24 (fun qj2 _ => ?_)
    refine z_lcmp_ne C 33 dX9_hasTwoAlike_27 dX9_hasTwoAlike_28 rfl (fun _ => ?_) (fun _ => ?_)
    · refine z_iconst C dX9_hasTwoAlike_31 rfl ?_
      exact z_zret C (v := true) hr (Nat.le_of_ble_eq_true rfl) dX9_hasTwoAlike_32 rfl
    · refine z_iinc C 2 2 (v := v2) (v1 := (v2 + (1 : Int32))) (ls1 := [(2, .int (v2 + (1 : Int32))), (0, .ref (B + v0)), (1, .int v1)]) dX9_hasTwoAlike_33 rfl rfl (by decide) rfl ?_
      refine z_goto C 12 dX9_hasTwoAlike_36 rfl ?_
      exact z_jump (ls1 := [(0, .ref (B + v0)), (1, .int v1), (2, .int (v2 + (1 : Int32)))]) (Nat.le_of_ble_eq_true rfl) [1, 2, 0] rfl (hk12 (v2 + (1 : Int32)))
theorem z_fX9_hasTwoAlike_l12_i {p : Program} {l : Launch} {e : Env} {s : State} {m : MethodId} {args : Array Value} {below : List Frame} {meth : Method} {c : Code} {D : va_G} {cy : Nat → ClassId} {B : Nat} {kd : Nat → Nat} {n : Nat} {sa sv : Nat → Nat} (C : zC p l s m args meth c D cy B kd n sa sv RX9 cX9_hasTwoAlike 3) (ht : ∀ x ∈ c.exceptionTable.toList, False) (hr : meth.sig.returnType = some (FieldType.boolean)) {b0 : Bool} {Mo : Mem} (N : Nat) (k2 : Int32 → Option Bool) (v0 : Nat) (v1 : Int32) (h0 : kd v0 = 9) (hk2 : ∀ (v1 : Int32), Z p l e (rmz 1 0) s m args below meth c (vx_MQ below (QcR D cy B kd n ((pB Mo) b0)) (XcR D cy B kd n ((pB Mo) b0)) args s 0 (6 * 0) (AA B kd n)) D cy B kd n 3 b0 0 2 [(0, .ref (B + v0)), (1, .int v1)] [] Mo (k2 v1)) (fu : Nat) : ∀ (v2 : Int32), Z p l e (rmz 1 0) s m args below meth c (vx_MQ below (QcR D cy B kd n ((pB Mo) b0)) (XcR D cy B kd n ((pB Mo) b0)) args s 0 (6 * 0) (AA B kd n)) D cy B kd n 3 b0 0 12 [(0, .ref (B + v0)), (1, .int v1), (2, .int v2)] [] Mo (fX9_hasTwoAlike_l12 N k2 v0 v1 Mo fu v2) := by
  induction fu with
  | zero => intro v2; exact z_none
  | succ fu ih => intro v2; exact z_fX9_hasTwoAlike_l12_s C ht hr N k2 v0 v1 (fX9_hasTwoAlike_l12 N k2 v0 v1 Mo fu) v2 h0 hk2 (fun v2 => ih v2)
theorem z_fX9_hasTwoAlike_l12 {p : Program} {l : Launch} {e : Env} {s : State} {m : MethodId} {args : Array Value} {below : List Frame} {meth : Method} {c : Code} {D : va_G} {cy : Nat → ClassId} {B : Nat} {kd : Nat → Nat} {n : Nat} {sa sv : Nat → Nat} (C : zC p l s m args meth c D cy B kd n sa sv RX9 cX9_hasTwoAlike 3) (ht : ∀ x ∈ c.exceptionTable.toList, False) (hr : meth.sig.returnType = some (FieldType.boolean)) {b0 : Bool} {Mo : Mem} (N : Nat) (k2 : Int32 → Option Bool) (v0 : Nat) (v1 : Int32) (fu : Nat) (v2 : Int32) (h0 : kd v0 = 9) (hk2 : ∀ (v1 : Int32), Z p l e (rmz 1 0) s m args below meth c (vx_MQ below (QcR D cy B kd n ((pB Mo) b0)) (XcR D cy B kd n ((pB Mo) b0)) args s 0 (6 * 0) (AA B kd n)) D cy B kd n 3 b0 0 2 [(0, .ref (B + v0)), (1, .int v1)] [] Mo (k2 v1)) : Z p l e (rmz 1 0) s m args below meth c (vx_MQ below (QcR D cy B kd n ((pB Mo) b0)) (XcR D cy B kd n ((pB Mo) b0)) args s 0 (6 * 0) (AA B kd n)) D cy B kd n 3 b0 0 12 [(0, .ref (B + v0)), (1, .int v1), (2, .int v2)] [] Mo (fX9_hasTwoAlike_l12 N k2 v0 v1 Mo fu v2) := z_fX9_hasTwoAlike_l12_i C ht hr N k2 v0 v1 h0 hk2 fu v2
set_option maxHeartbeats 4000000 in
set_option maxRecDepth 100000 in
theorem z_fX9_hasTwoAlike_l2_s {p : Program} {l : Launch} {e : Env} {s : State} {m : MethodId} {args : Array Value} {below : List Frame} {meth : Method} {c : Code} {D : va_G} {cy : Nat → ClassId} {B : Nat} {kd : Nat → Nat} {n : Nat} {sa sv : Nat → Nat} (C : zC p l s m args meth c D cy B kd n sa sv RX9 cX9_hasTwoAlike 3) (ht : ∀ x ∈ c.exceptionTable.toList, False) (hr : meth.sig.returnType = some (FieldType.boolean)) {b0 : Bool} {Mo : Mem} (N : Nat) (v0 : Nat) (k2 : Int32 → Option Bool) (v1 : Int32) (h0 : kd v0 = 9)  (hk2 : ∀ (v1 : Int32), Z p l e (rmz 1 0) s m args below meth c (vx_MQ below (QcR D cy B kd n ((pB Mo) b0)) (XcR D cy B kd n ((pB Mo) b0)) args s 0 (6 * 0) (AA B kd n)) D cy B kd n 3 b0 0 2 [(0, .ref (B + v0)), (1, .int v1)] [] Mo (k2 v1)) : Z p l e (rmz 1 0) s m args below meth c (vx_MQ below (QcR D cy B kd n ((pB Mo) b0)) (XcR D cy B kd n ((pB Mo) b0)) args s 0 (6 * 0) (AA B kd n)) D cy B kd n 3 b0 0 2 [(0, .ref (B + v0)), (1, .int v1)] [] Mo (fX9_hasTwoAlike_l2_s N v0 Mo k2 v1) := by
  unfold fX9_hasTwoAlike_l2_s
  refine z_iload_n C 1 1 dX9_hasTwoAlike_2 rfl rfl ?_
  refine z_aload_n C 0 0 dX9_hasTwoAlike_3 rfl rfl ?_
  refine z_getI (k := 1) C cl9 h0 rfl gw_1_209 rfl dX9_hasTwoAlike_4 ?_
  refine z_icmp_ge C 45 dX9_hasTwoAlike_7 rfl (fun _ => ?_) (fun _ => ?_)
  · refine z_iconst C dX9_hasTwoAlike_45 rfl ?_
    exact z_zret C (v := false) hr (Nat.le_of_ble_eq_true rfl) dX9_hasTwoAlike_46 rfl
  · refine z_iconst C dX9_hasTwoAlike_10 rfl ?_
    refine z_istore_n C 2 (ls1 := [(2, .int (0 : Int32)), (0, .ref (B + v0)), (1, .int v1)]) dX9_hasTwoAlike_11 rfl (by decide) rfl ?_
    exact z_jump (ls1 := [(0, .ref (B + v0)), (1, .int v1), (2, .int (0 : Int32))]) (Nat.le_of_ble_eq_true rfl) [1, 2, 0] rfl (z_fX9_hasTwoAlike_l12 C ht hr N k2 v0 v1 N (0 : Int32) h0 hk2)
theorem z_fX9_hasTwoAlike_l2_i {p : Program} {l : Launch} {e : Env} {s : State} {m : MethodId} {args : Array Value} {below : List Frame} {meth : Method} {c : Code} {D : va_G} {cy : Nat → ClassId} {B : Nat} {kd : Nat → Nat} {n : Nat} {sa sv : Nat → Nat} (C : zC p l s m args meth c D cy B kd n sa sv RX9 cX9_hasTwoAlike 3) (ht : ∀ x ∈ c.exceptionTable.toList, False) (hr : meth.sig.returnType = some (FieldType.boolean)) {b0 : Bool} {Mo : Mem} (N : Nat) (v0 : Nat) (h0 : kd v0 = 9)  (fu : Nat) : ∀ (v1 : Int32), Z p l e (rmz 1 0) s m args below meth c (vx_MQ below (QcR D cy B kd n ((pB Mo) b0)) (XcR D cy B kd n ((pB Mo) b0)) args s 0 (6 * 0) (AA B kd n)) D cy B kd n 3 b0 0 2 [(0, .ref (B + v0)), (1, .int v1)] [] Mo (fX9_hasTwoAlike_l2 N v0 Mo fu v1) := by
  induction fu with
  | zero => intro v1; exact z_none
  | succ fu ih => intro v1; exact z_fX9_hasTwoAlike_l2_s C ht hr N v0 (fX9_hasTwoAlike_l2 N v0 Mo fu) v1 h0 (fun v1 => ih v1)
theorem z_fX9_hasTwoAlike_l2 {p : Program} {l : Launch} {e : Env} {s : State} {m : MethodId} {args : Array Value} {below : List Frame} {meth : Method} {c : Code} {D : va_G} {cy : Nat → ClassId} {B : Nat} {kd : Nat → Nat} {n : Nat} {sa sv : Nat → Nat} (C : zC p l s m args meth c D cy B kd n sa sv RX9 cX9_hasTwoAlike 3) (ht : ∀ x ∈ c.exceptionTable.toList, False) (hr : meth.sig.returnType = some (FieldType.boolean)) {b0 : Bool} {Mo : Mem} (N : Nat) (v0 : Nat) (fu : Nat) (v1 : Int32) (h0 : kd v0 = 9)  : Z p l e (rmz 1 0) s m args below meth c (vx_MQ below (QcR D cy B kd n ((pB Mo) b0)) (XcR D cy B kd n ((pB Mo) b0)) args s 0 (6 * 0) (AA B kd n)) D cy B kd n 3 b0 0 2 [(0, .ref (B + v0)), (1, .int v1)] [] Mo (fX9_hasTwoAlike_l2 N v0 Mo fu v1) := z_fX9_hasTwoAlike_l2_i C ht hr N v0 h0 fu v1
set_option maxHeartbeats 4000000 in
set_option maxRecDepth 100000 in
theorem ctX9_hasTwoAlike {l : Launch} {D : va_G} {cy : Nat → ClassId} {B : Nat} {kd : Nat → Nat} {n : Nat} {sa sv : Nat → Nat} (G : zG l kd n) (N : Nat) (v0 : Nat) (h0 : kd v0 = 9) (Mo : Mem) : CT l D cy B kd n sa sv 1 0 yX9_hasTwoAlike cX9_hasTwoAlike 3 (some (FieldType.boolean)) (pB Mo) [.ref (B + v0)] Mo (fX9_hasTwoAlike N v0 Mo) := by
  refine ct_of (by decide) G.1 G.2 (Nat.le_of_ble_eq_true rfl) (ls := [(0, .ref (B + v0))]) rfl ?_
  intro p e s m args below meth c b0 C ht hr
  unfold fX9_hasTwoAlike
  refine z_iconst C dX9_hasTwoAlike_0 rfl ?_
  refine z_istore_n C 1 (ls1 := [(1, .int (0 : Int32)), (0, .ref (B + v0))]) dX9_hasTwoAlike_1 rfl (by decide) rfl ?_
  exact z_jump (ls1 := [(0, .ref (B + v0)), (1, .int (0 : Int32))]) (Nat.le_of_ble_eq_true rfl) [1, 0] rfl (z_fX9_hasTwoAlike_l2 C ht hr N v0 N (0 : Int32) h0)
