/-! X2_clear -/
def fX2_clear (N : Nat) (v0 : Nat) (M : Mem) : Option Mem :=
  (some (fillJ M (v0 + 1) 4 (0 : Int64))).bind fun qj2 => some qj2
/-! X2_add -/
def fX2_add (v0 : Nat) (v1 : Int32) (M : Mem) : Option Mem :=
  if v1 < 0 then some M else if (256 : Int32) ≤ v1 then some M else if inB (shrI v1 (6 : Int32)) 4 = true then if inB (shrI v1 (6 : Int32)) 4 = true then some (wJ M (v0 + 1) ((shrI v1 (6 : Int32)).toNatClampNeg) ((rJ M (v0 + 1) (shrI v1 (6 : Int32)).toNatClampNeg) ||| (shlJ (1 : Int64) (v1 &&& (63 : Int32))))) else none else none
/-! X2_has -/
def fX2_has_b36  (Mo : Mem) : Option Bool :=
  some false
def fX2_has (v0 : Nat) (v1 : Int32) (Mo : Mem) : Option Bool :=
  if v1 < 0 then fX2_has_b36 Mo else if (256 : Int32) ≤ v1 then fX2_has_b36 Mo else if inB (shrI v1 (6 : Int32)) 4 = true then if ((ushrJ (rJ Mo (v0 + 1) (shrI v1 (6 : Int32)).toNatClampNeg) (v1 &&& (63 : Int32))) &&& (1 : Int64)) = (0 : Int64) then fX2_has_b36 Mo else some true else none
/-! X2_copyFrom -/
def fX2_copyFrom (v0 : Nat) (v1 : Nat) (M : Mem) : Option Mem :=
  some (cpJ M (v1 + 1) (v0 + 1) 4)
/-! X2_many -/
def fX2_many_l4_s (N : Nat) (v0 : Nat) (Mo : Mem) (k4 : Int32 → Int32 → Option Int32) (v1 : Int32) (v2 : Int32) : Option Int32 :=
  if (4 : Int32) ≤ v2 then some v1 else if inB v2 4 = true then (fJ13_bitCount_95d88 (rJ Mo (v0 + 1) v2.toNatClampNeg) Mo).bind fun qj4 => k4 (v1 + qj4) (v2 + (1 : Int32)) else none
def fX2_many_l4 (N : Nat) (v0 : Nat) (Mo : Mem) : Nat → Int32 → Int32 → Option Int32
  | 0, _, _ => none
  | n + 1, v1, v2 => fX2_many_l4_s N v0 Mo (fX2_many_l4 N v0 Mo n) v1 v2
def fX2_many (N : Nat) (v0 : Nat) (Mo : Mem) : Option Int32 :=
  fX2_many_l4 N v0 Mo N (0 : Int32) (0 : Int32)
/-! X2_remove -/
def fX2_remove (v0 : Nat) (v1 : Int32) (M : Mem) : Option Mem :=
  if v1 < 0 then some M else if (256 : Int32) ≤ v1 then some M else if inB (shrI v1 (6 : Int32)) 4 = true then if inB (shrI v1 (6 : Int32)) 4 = true then some (wJ M (v0 + 1) ((shrI v1 (6 : Int32)).toNatClampNeg) ((rJ M (v0 + 1) (shrI v1 (6 : Int32)).toNatClampNeg) &&& ((shlJ (1 : Int64) (v1 &&& (63 : Int32))) ^^^ (-1 : Int64)))) else none else none
/-! X2_addAll -/
def fX2_addAll_l2_s (N : Nat) (v0 : Nat) (v1 : Nat) (k2 : Int32 → Mem → Option Mem) (v2 : Int32) (M : Mem) : Option Mem :=
  if (4 : Int32) ≤ v2 then some M else if inB v2 4 = true then if inB v2 4 = true then if inB v2 4 = true then k2 (v2 + (1 : Int32)) (wJ M (v0 + 1) v2.toNatClampNeg ((rJ M (v0 + 1) v2.toNatClampNeg) ||| (rJ M (v1 + 1) v2.toNatClampNeg))) else none else none else none
def fX2_addAll_l2 (N : Nat) (v0 : Nat) (v1 : Nat) : Nat → Int32 → Mem → Option Mem
  | 0, _, _ => none
  | n + 1, v2, M => fX2_addAll_l2_s N v0 v1 (fX2_addAll_l2 N v0 v1 n) v2 M
def fX2_addAll (N : Nat) (v0 : Nat) (v1 : Nat) (M : Mem) : Option Mem :=
  fX2_addAll_l2 N v0 v1 N (0 : Int32) M
set_option maxHeartbeats 4000000 in
set_option maxRecDepth 100000 in
theorem ctX2_clear {l : Launch} {D : va_G} {cy : Nat → ClassId} {B : Nat} {kd : Nat → Nat} {n : Nat} {sa sv : Nat → Nat} (G : zG l kd n) (N : Nat) (v0 : Nat) (h0 : kd v0 = 2) (M : Mem) : CT l D cy B kd n sa sv 1 0 yX2_clear cX2_clear 1 (none) cvV [.ref (B + v0)] M (fX2_clear N v0 M) := by
  refine ct_of (by decide) G.1 G.2 (Nat.le_of_ble_eq_true rfl) (ls := [(0, .ref (B + v0))]) rfl ?_
  intro p e s m args below meth c b0 C ht hr
  unfold fX2_clear
  refine z_aload_n C 0 0 dX2_clear_0 rfl rfl ?_
  refine z_getR (k := 0) C cl2 h0 rfl gw_1_117 rfl dX2_clear_1 ?_
  have j1 : kd (v0 + 1) = 25 := zkd C h0 (k := 0) rfl
  refine z_lconst (v := 0) C dX2_clear_4 rfl ?_
  refine z_callS_V (As := [.ref (B + (v0 + 1)), .long (0 : Int64)]) (rest := []) C rfl (ctJ7_fill_d0a16 (zG_of C) j1 rfl (by decide) (0 : Int64) M) cw_RX2_17 (okM_J7_fill_d0a16) rfl (okR_of rfl) (Nat.le_of_ble_eq_true rfl) dX2_clear_5 (fun qj2 _ => ?_)
  exact z_vret C hr (Nat.le_of_ble_eq_true rfl) dX2_clear_8 rfl
set_option maxHeartbeats 4000000 in
set_option maxRecDepth 100000 in
theorem ctX2_add {l : Launch} {D : va_G} {cy : Nat → ClassId} {B : Nat} {kd : Nat → Nat} {n : Nat} {sa sv : Nat → Nat} (G : zG l kd n) (v0 : Nat) (v1 : Int32) (h0 : kd v0 = 2) (M : Mem) : CT l D cy B kd n sa sv 0 0 yX2_add cX2_add 2 (none) cvV [.ref (B + v0), .int v1] M (fX2_add v0 v1 M) := by
  refine ct_of (by decide) G.1 G.2 (Nat.le_of_ble_eq_true rfl) (ls := [(0, .ref (B + v0)), (1, .int v1)]) rfl ?_
  intro p e s m args below meth c b0 C ht hr
  unfold fX2_add
  refine z_iload_n C 1 1 dX2_add_0 rfl rfl ?_
  refine z_if_lt C 29 dX2_add_1 rfl (fun _ => ?_) (fun _ => ?_)
  · exact z_vret C hr (Nat.le_of_ble_eq_true rfl) dX2_add_29 rfl
  · refine z_iload_n C 1 1 dX2_add_4 rfl rfl ?_
    refine z_sipush (v := 256) C dX2_add_5 rfl ?_
    refine z_icmp_ge C 29 dX2_add_8 rfl (fun _ => ?_) (fun _ => ?_)
    · exact z_vret C hr (Nat.le_of_ble_eq_true rfl) dX2_add_29 rfl
    · refine z_aload_n C 0 0 dX2_add_11 rfl rfl ?_
      refine z_getR (k := 0) C cl2 h0 rfl gw_1_117 rfl dX2_add_12 ?_
      have j1 : kd (v0 + 1) = 25 := zkd C h0 (k := 0) rfl
      refine z_iload_n C 1 1 dX2_add_15 rfl rfl ?_
      refine z_bipush (v := 6) C dX2_add_16 rfl ?_
      refine z_ishr C dX2_add_18 ?_
      refine z_dup2 C dX2_add_19 rfl rfl ?_
      refine z_lald C j1 rfl (by decide) dX2_add_20 (fun j2 => ?_)
      refine z_lconst (v := 1) C dX2_add_21 rfl ?_
      refine z_iload_n C 1 1 dX2_add_22 rfl rfl ?_
      refine z_bipush (v := 63) C dX2_add_23 rfl ?_
      refine z_iand C dX2_add_25 ?_
      refine z_lshl C dX2_add_26 ?_
      refine z_lor C dX2_add_27 ?_
      refine z_last C j1 rfl (by decide) dX2_add_28 (fun _ => ?_)
      exact z_vret C hr (Nat.le_of_ble_eq_true rfl) dX2_add_29 rfl
set_option maxHeartbeats 4000000 in
set_option maxRecDepth 100000 in
theorem z_fX2_has_b36 {p : Program} {l : Launch} {e : Env} {s : State} {m : MethodId} {args : Array Value} {below : List Frame} {meth : Method} {c : Code} {D : va_G} {cy : Nat → ClassId} {B : Nat} {kd : Nat → Nat} {n : Nat} {sa sv : Nat → Nat} (C : zC p l s m args meth c D cy B kd n sa sv RX2 cX2_has 2) (ht : ∀ x ∈ c.exceptionTable.toList, False) (hr : meth.sig.returnType = some (FieldType.boolean)) {b0 : Bool}   (Mo : Mem)  : Z p l e (rmz 0 0) s m args below meth c (vx_MQ below (QcR D cy B kd n ((pB Mo) b0)) (XcR D cy B kd n ((pB Mo) b0)) args s 0 (6 * 0) (AA B kd n)) D cy B kd n 2 b0 0 36 [] [] Mo (fX2_has_b36 Mo) := by
  unfold fX2_has_b36
  refine z_iconst C dX2_has_36 rfl ?_
  exact z_zret C (v := false) hr (Nat.le_of_ble_eq_true rfl) dX2_has_37 rfl
set_option maxHeartbeats 4000000 in
set_option maxRecDepth 100000 in
theorem ctX2_has {l : Launch} {D : va_G} {cy : Nat → ClassId} {B : Nat} {kd : Nat → Nat} {n : Nat} {sa sv : Nat → Nat} (G : zG l kd n) (v0 : Nat) (v1 : Int32) (h0 : kd v0 = 2) (Mo : Mem) : CT l D cy B kd n sa sv 0 0 yX2_has cX2_has 2 (some (FieldType.boolean)) (pB Mo) [.ref (B + v0), .int v1] Mo (fX2_has v0 v1 Mo) := by
  refine ct_of (by decide) G.1 G.2 (Nat.le_of_ble_eq_true rfl) (ls := [(0, .ref (B + v0)), (1, .int v1)]) rfl ?_
  intro p e s m args below meth c b0 C ht hr
  unfold fX2_has
  refine z_iload_n C 1 1 dX2_has_0 rfl rfl ?_
  refine z_if_lt C 36 dX2_has_1 rfl (fun _ => ?_) (fun _ => ?_)
  · exact z_jump (ls1 := []) (Nat.le_of_ble_eq_true rfl) [] rfl (z_fX2_has_b36 C ht hr Mo)
  · refine z_iload_n C 1 1 dX2_has_4 rfl rfl ?_
    refine z_sipush (v := 256) C dX2_has_5 rfl ?_
    refine z_icmp_ge C 36 dX2_has_8 rfl (fun _ => ?_) (fun _ => ?_)
    · exact z_jump (ls1 := []) (Nat.le_of_ble_eq_true rfl) [] rfl (z_fX2_has_b36 C ht hr Mo)
    · refine z_aload_n C 0 0 dX2_has_11 rfl rfl ?_
      refine z_getR (k := 0) C cl2 h0 rfl gw_1_117 rfl dX2_has_12 ?_
      have j1 : kd (v0 + 1) = 25 := zkd C h0 (k := 0) rfl
      refine z_iload_n C 1 1 dX2_has_15 rfl rfl ?_
      refine z_bipush (v := 6) C dX2_has_16 rfl ?_
      refine z_ishr C dX2_has_18 ?_
      refine z_lald C j1 rfl (by decide) dX2_has_19 (fun j2 => ?_)
      refine z_iload_n C 1 1 dX2_has_20 rfl rfl ?_
      refine z_bipush (v := 63) C dX2_has_21 rfl ?_
      refine z_iand C dX2_has_23 ?_
      refine z_lushr C dX2_has_24 ?_
      refine z_lconst (v := 1) C dX2_has_25 rfl ?_
      refine z_land C dX2_has_26 ?_
      refine z_lconst (v := 0) C dX2_has_27 rfl ?_
      refine z_lcmp_eq C 36 dX2_has_28 dX2_has_29 rfl (fun _ => ?_) (fun _ => ?_)
      · exact z_jump (ls1 := []) (Nat.le_of_ble_eq_true rfl) [] rfl (z_fX2_has_b36 C ht hr Mo)
      · refine z_iconst C dX2_has_32 rfl ?_
        refine z_goto C 37 dX2_has_33 rfl ?_
        exact z_zret C (v := true) hr (Nat.le_of_ble_eq_true rfl) dX2_has_37 rfl
set_option maxHeartbeats 4000000 in
set_option maxRecDepth 100000 in
theorem ctX2_copyFrom {l : Launch} {D : va_G} {cy : Nat → ClassId} {B : Nat} {kd : Nat → Nat} {n : Nat} {sa sv : Nat → Nat} (G : zG l kd n) (v0 : Nat) (v1 : Nat) (h0 : kd v0 = 2) (h1 : kd v1 = 2) (M : Mem) : CT l D cy B kd n sa sv 0 0 yX2_copyFrom cX2_copyFrom 2 (none) cvV [.ref (B + v0), .ref (B + v1)] M (fX2_copyFrom v0 v1 M) := by
  refine ct_of (by decide) G.1 G.2 (Nat.le_of_ble_eq_true rfl) (ls := [(0, .ref (B + v0)), (1, .ref (B + v1))]) rfl ?_
  intro p e s m args below meth c b0 C ht hr
  unfold fX2_copyFrom
  refine z_aload_n C 1 1 dX2_copyFrom_0 rfl rfl ?_
  refine z_getR (k := 0) C cl2 h1 rfl gw_1_117 rfl dX2_copyFrom_1 ?_
  have j1 : kd (v1 + 1) = 25 := zkd C h1 (k := 0) rfl
  refine z_iconst C dX2_copyFrom_4 rfl ?_
  refine z_aload_n C 0 0 dX2_copyFrom_5 rfl rfl ?_
  refine z_getR (k := 0) C cl2 h0 rfl gw_1_117 rfl dX2_copyFrom_6 ?_
  have j2 : kd (v0 + 1) = 25 := zkd C h0 (k := 0) rfl
  refine z_iconst C dX2_copyFrom_9 rfl ?_
  refine z_aload_n C 0 0 dX2_copyFrom_10 rfl rfl ?_
  refine z_getR (k := 0) C cl2 h0 rfl gw_1_117 rfl dX2_copyFrom_11 ?_
  have j3 : kd (v0 + 1) = 25 := zkd C h0 (k := 0) rfl
  refine z_alen (v := 4) C j3 (by decide) rfl dX2_copyFrom_14 ?_
  refine z_copyJ C j1 j2 rfl rfl (by decide) (by decide) cp_RX2_29 copyWords ⟨Nat.le_of_ble_eq_true rfl, Nat.le_of_ble_eq_true rfl⟩ (Nat.le_of_ble_eq_true rfl) dX2_copyFrom_15 ?_
  exact z_vret C hr (Nat.le_of_ble_eq_true rfl) dX2_copyFrom_18 rfl
set_option maxHeartbeats 4000000 in
set_option maxRecDepth 100000 in
theorem z_fX2_many_l4_s {p : Program} {l : Launch} {e : Env} {s : State} {m : MethodId} {args : Array Value} {below : List Frame} {meth : Method} {c : Code} {D : va_G} {cy : Nat → ClassId} {B : Nat} {kd : Nat → Nat} {n : Nat} {sa sv : Nat → Nat} (C : zC p l s m args meth c D cy B kd n sa sv RX2 cX2_many 3) (ht : ∀ x ∈ c.exceptionTable.toList, False) (hr : meth.sig.returnType = some (FieldType.int)) {b0 : Int32} {Mo : Mem} (N : Nat) (v0 : Nat) (k4 : Int32 → Int32 → Option Int32) (v1 : Int32) (v2 : Int32) (h0 : kd v0 = 2)  (hk4 : ∀ (v1 : Int32) (v2 : Int32), Z p l e (rmz 1 0) s m args below meth c (vx_MQ below (QcR D cy B kd n ((pI Mo) b0)) (XcR D cy B kd n ((pI Mo) b0)) args s 0 (6 * 0) (AA B kd n)) D cy B kd n 3 b0 0 4 [(0, .ref (B + v0)), (1, .int v1), (2, .int v2)] [] Mo (k4 v1 v2)) : Z p l e (rmz 1 0) s m args below meth c (vx_MQ below (QcR D cy B kd n ((pI Mo) b0)) (XcR D cy B kd n ((pI Mo) b0)) args s 0 (6 * 0) (AA B kd n)) D cy B kd n 3 b0 0 4 [(0, .ref (B + v0)), (1, .int v1), (2, .int v2)] [] Mo (fX2_many_l4_s N v0 Mo k4 v1 v2) := by
  unfold fX2_many_l4_s
  refine z_iload_n C 2 2 dX2_many_4 rfl rfl ?_
  refine z_aload_n C 0 0 dX2_many_5 rfl rfl ?_
  refine z_getR (k := 0) C cl2 h0 rfl gw_1_117 rfl dX2_many_6 ?_
  have j1 : kd (v0 + 1) = 25 := zkd C h0 (k := 0) rfl
  refine z_alen (v := 4) C j1 (by decide) rfl dX2_many_9 ?_
  refine z_icmp_ge C 31 dX2_many_10 rfl (fun _ => ?_) (fun _ => ?_)
  · refine z_iload_n C 1 1 dX2_many_31 rfl rfl ?_
    exact z_iret C hr (Nat.le_of_ble_eq_true rfl) dX2_many_32 rfl
  · refine z_iload_n C 1 1 dX2_many_13 rfl rfl ?_
    refine z_aload_n C 0 0 dX2_many_14 rfl rfl ?_
    refine z_getR (k := 0) C cl2 h0 rfl gw_1_117 rfl dX2_many_15 ?_
    have j2 : kd (v0 + 1) = 25 := zkd C h0 (k := 0) rfl
    refine z_iload_n C 2 2 dX2_many_18 rfl rfl ?_
    refine z_lald C j2 rfl (by decide) dX2_many_19 (fun j3 => ?_)
    refine z_callS_pI (As := [.long (rJ Mo (v0 + 1) v2.toNatClampNeg)]) (rest := [.int v1]) C rfl (ctJ13_bitCount_95d88 (zG_of C) (rJ Mo (v0 + 1) v2.toNatClampNeg) Mo) cw_RX2_23 (okM_J13_bitCount_95d88) rfl (okR_of rfl) (Nat.le_of_ble_eq_true rfl) dX2_many_20 (fun qj4 _ => ?_)
    refine z_iadd C dX2_many_23 ?_
    refine z_istore_n C 1 (ls1 := [(1, .int (v1 + qj4)), (0, .ref (B + v0)), (2, .int v2)]) dX2_many_24 rfl (by decide) rfl ?_
    refine z_iinc C 2 2 (v := v2) (v1 := (v2 + (1 : Int32))) (ls1 := [(2, .int (v2 + (1 : Int32))), (1, .int (v1 + qj4)), (0, .ref (B + v0))]) dX2_many_25 rfl rfl (by decide) rfl ?_
    refine z_goto C 4 dX2_many_28 rfl ?_
    exact z_jump (ls1 := [(0, .ref (B + v0)), (1, .int (v1 + qj4)), (2, .int (v2 + (1 : Int32)))]) (Nat.le_of_ble_eq_true rfl) [2, 1, 0] rfl (hk4 (v1 + qj4) (v2 + (1 : Int32)))
theorem z_fX2_many_l4_i {p : Program} {l : Launch} {e : Env} {s : State} {m : MethodId} {args : Array Value} {below : List Frame} {meth : Method} {c : Code} {D : va_G} {cy : Nat → ClassId} {B : Nat} {kd : Nat → Nat} {n : Nat} {sa sv : Nat → Nat} (C : zC p l s m args meth c D cy B kd n sa sv RX2 cX2_many 3) (ht : ∀ x ∈ c.exceptionTable.toList, False) (hr : meth.sig.returnType = some (FieldType.int)) {b0 : Int32} {Mo : Mem} (N : Nat) (v0 : Nat) (h0 : kd v0 = 2)  (fu : Nat) : ∀ (v1 : Int32) (v2 : Int32), Z p l e (rmz 1 0) s m args below meth c (vx_MQ below (QcR D cy B kd n ((pI Mo) b0)) (XcR D cy B kd n ((pI Mo) b0)) args s 0 (6 * 0) (AA B kd n)) D cy B kd n 3 b0 0 4 [(0, .ref (B + v0)), (1, .int v1), (2, .int v2)] [] Mo (fX2_many_l4 N v0 Mo fu v1 v2) := by
  induction fu with
  | zero => intro v1 v2; exact z_none
  | succ fu ih => intro v1 v2; exact z_fX2_many_l4_s C ht hr N v0 (fX2_many_l4 N v0 Mo fu) v1 v2 h0 (fun v1 v2 => ih v1 v2)
theorem z_fX2_many_l4 {p : Program} {l : Launch} {e : Env} {s : State} {m : MethodId} {args : Array Value} {below : List Frame} {meth : Method} {c : Code} {D : va_G} {cy : Nat → ClassId} {B : Nat} {kd : Nat → Nat} {n : Nat} {sa sv : Nat → Nat} (C : zC p l s m args meth c D cy B kd n sa sv RX2 cX2_many 3) (ht : ∀ x ∈ c.exceptionTable.toList, False) (hr : meth.sig.returnType = some (FieldType.int)) {b0 : Int32} {Mo : Mem} (N : Nat) (v0 : Nat) (fu : Nat) (v1 : Int32) (v2 : Int32) (h0 : kd v0 = 2)  : Z p l e (rmz 1 0) s m args below meth c (vx_MQ below (QcR D cy B kd n ((pI Mo) b0)) (XcR D cy B kd n ((pI Mo) b0)) args s 0 (6 * 0) (AA B kd n)) D cy B kd n 3 b0 0 4 [(0, .ref (B + v0)), (1, .int v1), (2, .int v2)] [] Mo (fX2_many_l4 N v0 Mo fu v1 v2) := z_fX2_many_l4_i C ht hr N v0 h0 fu v1 v2
set_option maxHeartbeats 4000000 in
set_option maxRecDepth 100000 in
theorem ctX2_many {l : Launch} {D : va_G} {cy : Nat → ClassId} {B : Nat} {kd : Nat → Nat} {n : Nat} {sa sv : Nat → Nat} (G : zG l kd n) (N : Nat) (v0 : Nat) (h0 : kd v0 = 2) (Mo : Mem) : CT l D cy B kd n sa sv 1 0 yX2_many cX2_many 3 (some (FieldType.int)) (pI Mo) [.ref (B + v0)] Mo (fX2_many N v0 Mo) := by
  refine ct_of (by decide) G.1 G.2 (Nat.le_of_ble_eq_true rfl) (ls := [(0, .ref (B + v0))]) rfl ?_
  intro p e s m args below meth c b0 C ht hr
  unfold fX2_many
  refine z_iconst C dX2_many_0 rfl ?_
  refine z_istore_n C 1 (ls1 := [(1, .int (0 : Int32)), (0, .ref (B + v0))]) dX2_many_1 rfl (by decide) rfl ?_
  refine z_iconst C dX2_many_2 rfl ?_
  refine z_istore_n C 2 (ls1 := [(2, .int (0 : Int32)), (1, .int (0 : Int32)), (0, .ref (B + v0))]) dX2_many_3 rfl (by decide) rfl ?_
  exact z_jump (ls1 := [(0, .ref (B + v0)), (1, .int (0 : Int32)), (2, .int (0 : Int32))]) (Nat.le_of_ble_eq_true rfl) [2, 1, 0] rfl (z_fX2_many_l4 C ht hr N v0 N (0 : Int32) (0 : Int32) h0)
set_option maxHeartbeats 4000000 in
set_option maxRecDepth 100000 in
theorem ctX2_remove {l : Launch} {D : va_G} {cy : Nat → ClassId} {B : Nat} {kd : Nat → Nat} {n : Nat} {sa sv : Nat → Nat} (G : zG l kd n) (v0 : Nat) (v1 : Int32) (h0 : kd v0 = 2) (M : Mem) : CT l D cy B kd n sa sv 0 0 yX2_remove cX2_remove 2 (none) cvV [.ref (B + v0), .int v1] M (fX2_remove v0 v1 M) := by
  refine ct_of (by decide) G.1 G.2 (Nat.le_of_ble_eq_true rfl) (ls := [(0, .ref (B + v0)), (1, .int v1)]) rfl ?_
  intro p e s m args below meth c b0 C ht hr
  unfold fX2_remove
  refine z_iload_n C 1 1 dX2_remove_0 rfl rfl ?_
  refine z_if_lt C 33 dX2_remove_1 rfl (fun _ => ?_) (fun _ => ?_)
  · exact z_vret C hr (Nat.le_of_ble_eq_true rfl) dX2_remove_33 rfl
  · refine z_iload_n C 1 1 dX2_remove_4 rfl rfl ?_
    refine z_sipush (v := 256) C dX2_remove_5 rfl ?_
    refine z_icmp_ge C 33 dX2_remove_8 rfl (fun _ => ?_) (fun _ => ?_)
    · exact z_vret C hr (Nat.le_of_ble_eq_true rfl) dX2_remove_33 rfl
    · refine z_aload_n C 0 0 dX2_remove_11 rfl rfl ?_
      refine z_getR (k := 0) C cl2 h0 rfl gw_1_117 rfl dX2_remove_12 ?_
      have j1 : kd (v0 + 1) = 25 := zkd C h0 (k := 0) rfl
      refine z_iload_n C 1 1 dX2_remove_15 rfl rfl ?_
      refine z_bipush (v := 6) C dX2_remove_16 rfl ?_
      refine z_ishr C dX2_remove_18 ?_
      refine z_dup2 C dX2_remove_19 rfl rfl ?_
      refine z_lald C j1 rfl (by decide) dX2_remove_20 (fun j2 => ?_)
      refine z_lconst (v := 1) C dX2_remove_21 rfl ?_
      refine z_iload_n C 1 1 dX2_remove_22 rfl rfl ?_
      refine z_bipush (v := 63) C dX2_remove_23 rfl ?_
      refine z_iand C dX2_remove_25 ?_
      refine z_lshl C dX2_remove_26 ?_
      refine z_ldc2 C dX2_remove_27 gw_5_124 ?_
      refine z_lxor C dX2_remove_30 ?_
      refine z_land C dX2_remove_31 ?_
      refine z_last C j1 rfl (by decide) dX2_remove_32 (fun _ => ?_)
      exact z_vret C hr (Nat.le_of_ble_eq_true rfl) dX2_remove_33 rfl
set_option maxHeartbeats 4000000 in
set_option maxRecDepth 100000 in
theorem z_fX2_addAll_l2_s {p : Program} {l : Launch} {e : Env} {s : State} {m : MethodId} {args : Array Value} {below : List Frame} {meth : Method} {c : Code} {D : va_G} {cy : Nat → ClassId} {B : Nat} {kd : Nat → Nat} {n : Nat} {sa sv : Nat → Nat} (C : zC p l s m args meth c D cy B kd n sa sv RX2 cX2_addAll 3) (ht : ∀ x ∈ c.exceptionTable.toList, False) (hr : meth.sig.returnType = none) {b0 : Mem} (N : Nat) (v0 : Nat) (v1 : Nat) (k2 : Int32 → Mem → Option Mem) (v2 : Int32) (M : Mem) (h0 : kd v0 = 2) (h1 : kd v1 = 2)  (hk2 : ∀ (v2 : Int32) (M : Mem), Z p l e (rmz 0 0) s m args below meth c (vx_MQ below (QcR D cy B kd n (cvV b0)) (XcR D cy B kd n (cvV b0)) args s 0 (6 * 0) (AA B kd n)) D cy B kd n 3 b0 0 2 [(0, .ref (B + v0)), (1, .ref (B + v1)), (2, .int v2)] [] M (k2 v2 M)) : Z p l e (rmz 0 0) s m args below meth c (vx_MQ below (QcR D cy B kd n (cvV b0)) (XcR D cy B kd n (cvV b0)) args s 0 (6 * 0) (AA B kd n)) D cy B kd n 3 b0 0 2 [(0, .ref (B + v0)), (1, .ref (B + v1)), (2, .int v2)] [] M (fX2_addAll_l2_s N v0 v1 k2 v2 M) := by
  unfold fX2_addAll_l2_s
  refine z_iload_n C 2 2 dX2_addAll_2 rfl rfl ?_
  refine z_aload_n C 0 0 dX2_addAll_3 rfl rfl ?_
  refine z_getR (k := 0) C cl2 h0 rfl gw_1_117 rfl dX2_addAll_4 ?_
  have j1 : kd (v0 + 1) = 25 := zkd C h0 (k := 0) rfl
  refine z_alen (v := 4) C j1 (by decide) rfl dX2_addAll_7 ?_
  refine z_icmp_ge C 32 dX2_addAll_8 rfl (fun _ => ?_) (fun _ => ?_)
  · exact z_vret C hr (Nat.le_of_ble_eq_true rfl) dX2_addAll_32 rfl
  · refine z_aload_n C 0 0 dX2_addAll_11 rfl rfl ?_
    refine z_getR (k := 0) C cl2 h0 rfl gw_1_117 rfl dX2_addAll_12 ?_
    have j2 : kd (v0 + 1) = 25 := zkd C h0 (k := 0) rfl
    refine z_iload_n C 2 2 dX2_addAll_15 rfl rfl ?_
    refine z_dup2 C dX2_addAll_16 rfl rfl ?_
    refine z_lald C j2 rfl (by decide) dX2_addAll_17 (fun j3 => ?_)
    refine z_aload_n C 1 1 dX2_addAll_18 rfl rfl ?_
    refine z_getR (k := 0) C cl2 h1 rfl gw_1_117 rfl dX2_addAll_19 ?_
    have j4 : kd (v1 + 1) = 25 := zkd C h1 (k := 0) rfl
    refine z_iload_n C 2 2 dX2_addAll_22 rfl rfl ?_
    refine z_lald C j4 rfl (by decide) dX2_addAll_23 (fun j5 => ?_)
    refine z_lor C dX2_addAll_24 ?_
    refine z_last C j2 rfl (by decide) dX2_addAll_25 (fun _ => ?_)
    refine z_iinc C 2 2 (v := v2) (v1 := (v2 + (1 : Int32))) (ls1 := [(2, .int (v2 + (1 : Int32))), (0, .ref (B + v0)), (1, .ref (B + v1))]) dX2_addAll_26 rfl rfl (by decide) rfl ?_
    refine z_goto C 2 dX2_addAll_29 rfl ?_
    exact z_jump (ls1 := [(0, .ref (B + v0)), (1, .ref (B + v1)), (2, .int (v2 + (1 : Int32)))]) (Nat.le_of_ble_eq_true rfl) [1, 2, 0] rfl (hk2 (v2 + (1 : Int32)) (wJ M (v0 + 1) v2.toNatClampNeg ((rJ M (v0 + 1) v2.toNatClampNeg) ||| (rJ M (v1 + 1) v2.toNatClampNeg))))
theorem z_fX2_addAll_l2_i {p : Program} {l : Launch} {e : Env} {s : State} {m : MethodId} {args : Array Value} {below : List Frame} {meth : Method} {c : Code} {D : va_G} {cy : Nat → ClassId} {B : Nat} {kd : Nat → Nat} {n : Nat} {sa sv : Nat → Nat} (C : zC p l s m args meth c D cy B kd n sa sv RX2 cX2_addAll 3) (ht : ∀ x ∈ c.exceptionTable.toList, False) (hr : meth.sig.returnType = none) {b0 : Mem} (N : Nat) (v0 : Nat) (v1 : Nat) (h0 : kd v0 = 2) (h1 : kd v1 = 2)  (fu : Nat) : ∀ (v2 : Int32) (M : Mem), Z p l e (rmz 0 0) s m args below meth c (vx_MQ below (QcR D cy B kd n (cvV b0)) (XcR D cy B kd n (cvV b0)) args s 0 (6 * 0) (AA B kd n)) D cy B kd n 3 b0 0 2 [(0, .ref (B + v0)), (1, .ref (B + v1)), (2, .int v2)] [] M (fX2_addAll_l2 N v0 v1 fu v2 M) := by
  induction fu with
  | zero => intro v2 M; exact z_none
  | succ fu ih => intro v2 M; exact z_fX2_addAll_l2_s C ht hr N v0 v1 (fX2_addAll_l2 N v0 v1 fu) v2 M h0 h1 (fun v2 M => ih v2 M)
theorem z_fX2_addAll_l2 {p : Program} {l : Launch} {e : Env} {s : State} {m : MethodId} {args : Array Value} {below : List Frame} {meth : Method} {c : Code} {D : va_G} {cy : Nat → ClassId} {B : Nat} {kd : Nat → Nat} {n : Nat} {sa sv : Nat → Nat} (C : zC p l s m args meth c D cy B kd n sa sv RX2 cX2_addAll 3) (ht : ∀ x ∈ c.exceptionTable.toList, False) (hr : meth.sig.returnType = none) {b0 : Mem} (N : Nat) (v0 : Nat) (v1 : Nat) (fu : Nat) (v2 : Int32) (M : Mem) (h0 : kd v0 = 2) (h1 : kd v1 = 2)  : Z p l e (rmz 0 0) s m args below meth c (vx_MQ below (QcR D cy B kd n (cvV b0)) (XcR D cy B kd n (cvV b0)) args s 0 (6 * 0) (AA B kd n)) D cy B kd n 3 b0 0 2 [(0, .ref (B + v0)), (1, .ref (B + v1)), (2, .int v2)] [] M (fX2_addAll_l2 N v0 v1 fu v2 M) := z_fX2_addAll_l2_i C ht hr N v0 v1 h0 h1 fu v2 M
set_option maxHeartbeats 4000000 in
set_option maxRecDepth 100000 in
theorem ctX2_addAll {l : Launch} {D : va_G} {cy : Nat → ClassId} {B : Nat} {kd : Nat → Nat} {n : Nat} {sa sv : Nat → Nat} (G : zG l kd n) (N : Nat) (v0 : Nat) (v1 : Nat) (h0 : kd v0 = 2) (h1 : kd v1 = 2) (M : Mem) : CT l D cy B kd n sa sv 0 0 yX2_addAll cX2_addAll 3 (none) cvV [.ref (B + v0), .ref (B + v1)] M (fX2_addAll N v0 v1 M) := by
  refine ct_of (by decide) G.1 G.2 (Nat.le_of_ble_eq_true rfl) (ls := [(0, .ref (B + v0)), (1, .ref (B + v1))]) rfl ?_
  intro p e s m args below meth c b0 C ht hr
  unfold fX2_addAll
  refine z_iconst C dX2_addAll_0 rfl ?_
  refine z_istore_n C 2 (ls1 := [(2, .int (0 : Int32)), (0, .ref (B + v0)), (1, .ref (B + v1))]) dX2_addAll_1 rfl (by decide) rfl ?_
  exact z_jump (ls1 := [(0, .ref (B + v0)), (1, .ref (B + v1)), (2, .int (0 : Int32))]) (Nat.le_of_ble_eq_true rfl) [1, 2, 0] rfl (z_fX2_addAll_l2 C ht hr N v0 v1 N (0 : Int32) M h0 h1)
