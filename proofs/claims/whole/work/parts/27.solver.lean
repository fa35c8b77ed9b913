/-! X8_state -/
def fX8_state_l10_s (N : Nat) (v0 : Nat) (v1 : Int32) (v2 : Nat) (v3 : Nat) (v4 : Int32) (k10 : Int32 → Mem → Option Mem) (v5 : Int32) (M : Mem) : Option Mem :=
  if (rI M v2 3) ≤ v5 then (fX6_tagOf v3 v4 M).bind fun qj2 => if inB v1 40 = true then some (wI M (v0 + 2) v1.toNatClampNeg qj2) else none else if inB v1 40 = true then (fX6_placeOf N v3 v5 v4 (rI M v2 2) M).bind fun qj5 => if inB v1 40 = true then k10 (v5 + (1 : Int32)) (wJ qj5.2 (v0 + 1) v1.toNatClampNeg ((rJ M (v0 + 1) v1.toNatClampNeg) ^^^ (shlJ (1 : Int64) qj5.1))) else none else none
def fX8_state_l10 (N : Nat) (v0 : Nat) (v1 : Int32) (v2 : Nat) (v3 : Nat) (v4 : Int32) : Nat → Int32 → Mem → Option Mem
  | 0, _, _ => none
  | n + 1, v5, M => fX8_state_l10_s N v0 v1 v2 v3 v4 (fX8_state_l10 N v0 v1 v2 v3 v4 n) v5 M
def fX8_state (N : Nat) (v0 : Nat) (v1 : Int32) (v2 : Nat) (v3 : Nat) (v4 : Int32) (M : Mem) : Option Mem :=
  if inB v1 40 = true then fX8_state_l10 N v0 v1 v2 v3 v4 N (0 : Int32) (wJ M (v0 + 1) v1.toNatClampNeg (0 : Int64)) else none
/-! X8_chooseFor -/
def fX8_chooseFor_b49 (N : Nat) (k2 : Int32 → Option (Int32 × Mem)) (v0 : Nat) (v1 : Int32) (v2 : Int32) (v3 : Int32) (M : Mem) : Option (Int32 × Mem) :=
  k2 (v3 + (1 : Int32))
def fX8_chooseFor_l2_s (N : Nat) (v0 : Nat) (v1 : Int32) (v2 : Int32) (M : Mem) (k2 : Int32 → Option (Int32 × Mem)) (v3 : Int32) : Option (Int32 × Mem) :=
  if v2 ≤ v3 then some ((-1 : Int32), M) else if ((ushrJ (rJ M v0 3) v3) &&& (1 : Int64)) = (0 : Int64) then if inB v3 40 = true then if ((ushrJ (rJ M (v0 + 1) v3.toNatClampNeg) v1) &&& (1 : Int64)) = (0 : Int64) then fX8_chooseFor_b49 N k2 v0 v1 v2 v3 M else some (v3, wJ M v0 3 ((rJ M v0 3) ||| (shlJ (1 : Int64) v3))) else none else fX8_chooseFor_b49 N k2 v0 v1 v2 v3 M
def fX8_chooseFor_l2 (N : Nat) (v0 : Nat) (v1 : Int32) (v2 : Int32) (M : Mem) : Nat → Int32 → Option (Int32 × Mem)
  | 0, _ => none
  | n + 1, v3 => fX8_chooseFor_l2_s N v0 v1 v2 M (fX8_chooseFor_l2 N v0 v1 v2 M n) v3
def fX8_chooseFor (N : Nat) (v0 : Nat) (v1 : Int32) (v2 : Int32) (M : Mem) : Option (Int32 × Mem) :=
  fX8_chooseFor_l2 N v0 v1 v2 M N (0 : Int32)
/-! X8_joinTo -/
def fX8_joinTo_b63 (N : Nat) (k3 : Int32 → Mem → Option Mem) (v0 : Nat) (v1 : Int32) (v2 : Int32) (v3 : Int32) (v4 : Int32) (M : Mem) : Option Mem :=
  k3 (v4 + (1 : Int32)) M
def fX8_joinTo_l3_s (N : Nat) (v0 : Nat) (v1 : Int32) (v2 : Int32) (v3 : Int32) (k3 : Int32 → Mem → Option Mem) (v4 : Int32) (M : Mem) : Option Mem :=
  if v3 ≤ v4 then some M else if v4 = v1 then fX8_joinTo_b63 N k3 v0 v1 v2 v3 v4 M else if inB v4 40 = true then if ((ushrJ (rJ M (v0 + 1) v4.toNatClampNeg) v2) &&& (1 : Int64)) = (0 : Int64) then fX8_joinTo_b63 N k3 v0 v1 v2 v3 v4 M else if inB v4 40 = true then if inB v1 40 = true then if inB v4 40 = true then if inB v4 40 = true then if inB v1 40 = true then if inB v4 40 = true then fX8_joinTo_b63 N k3 v0 v1 v2 v3 v4 (wI (wJ M (v0 + 1) v4.toNatClampNeg ((rJ M (v0 + 1) v4.toNatClampNeg) ^^^ (rJ M (v0 + 1) v1.toNatClampNeg))) (v0 + 2) v4.toNatClampNeg ((rI (wJ M (v0 + 1) v4.toNatClampNeg ((rJ M (v0 + 1) v4.toNatClampNeg) ^^^ (rJ M (v0 + 1) v1.toNatClampNeg))) (v0 + 2) v4.toNatClampNeg) ^^^ (rI (wJ M (v0 + 1) v4.toNatClampNeg ((rJ M (v0 + 1) v4.toNatClampNeg) ^^^ (rJ M (v0 + 1) v1.toNatClampNeg))) (v0 + 2) v1.toNatClampNeg))) else none else none else none else none else none else none else none
def fX8_joinTo_l3 (N : Nat) (v0 : Nat) (v1 : Int32) (v2 : Int32) (v3 : Int32) : Nat → Int32 → Mem → Option Mem
  | 0, _, _ => none
  | n + 1, v4, M => fX8_joinTo_l3_s N v0 v1 v2 v3 (fX8_joinTo_l3 N v0 v1 v2 v3 n) v4 M
def fX8_joinTo (N : Nat) (v0 : Nat) (v1 : Int32) (v2 : Int32) (v3 : Int32) (M : Mem) : Option Mem :=
  fX8_joinTo_l3 N v0 v1 v2 v3 N (0 : Int32) M
/-! X8_settle -/
def fX8_settle_l68_s (N : Nat) (v1 : Nat) (v2 : Nat) (v3 : Int32) (k68 : Int32 → Mem → Option Mem) (v4 : Int32) (M : Mem) : Option Mem :=
  if v3 ≤ v4 then some M else (fX9_numberAt v2 v4 M).bind fun qj2 => (fX2_add (v1 + 1) qj2.toInt32 M).bind fun qj3 => k68 (v4 + (1 : Int32)) qj3
def fX8_settle_l68 (N : Nat) (v1 : Nat) (v2 : Nat) (v3 : Int32) : Nat → Int32 → Mem → Option Mem
  | 0, _, _ => none
  | n + 1, v4, M => fX8_settle_l68_s N v1 v2 v3 (fX8_settle_l68 N v1 v2 v3 n) v4 M
def fX8_settle_b58 (N : Nat) (v1 : Nat) (v2 : Nat) (v3 : Int32) (M : Mem) : Option Mem :=
  (fX2_clear N (v1 + 1) M).bind fun qj2 => fX8_settle_l68 N v1 v2 v3 N (0 : Int32) qj2
def fX8_settle_b49 (N : Nat) (k3 : Int32 → Mem → Option Mem) (v0 : Nat) (v1 : Nat) (v2 : Nat) (v3 : Int32) (v4 : Int32) (s0 : Int32) (s1 : Int32) (s2 : Nat) (M : Mem) : Option Mem :=
  (fX5_setCell s2 s1 s0 M).bind fun qj1 => k3 (v4 + (1 : Int32)) qj1
def fX8_settle_l3_s (N : Nat) (v0 : Nat) (v1 : Nat) (v2 : Nat) (v3 : Int32) (k3 : Int32 → Mem → Option Mem) (v4 : Int32) (M : Mem) : Option Mem :=
  if (rI M v1 2) ≤ v4 then fX8_settle_b58 N v1 v2 v3 M else if (64 : Int32) ≤ v4 then fX8_settle_b58 N v1 v2 v3 M else if inB v4 64 = true then if (rI M (v0 + 3) v4.toNatClampNeg) = (-1 : Int32) then fX8_settle_b49 N k3 v0 v1 v2 v3 v4 (0 : Int32) v4 v1 M else if inB v4 64 = true then if inB (rI M (v0 + 3) v4.toNatClampNeg) 40 = true then fX8_settle_b49 N k3 v0 v1 v2 v3 v4 (rI M (v0 + 2) (rI M (v0 + 3) v4.toNatClampNeg).toNatClampNeg) v4 v1 M else none else none else none
def fX8_settle_l3 (N : Nat) (v0 : Nat) (v1 : Nat) (v2 : Nat) (v3 : Int32) : Nat → Int32 → Mem → Option Mem
  | 0, _, _ => none
  | n + 1, v4, M => fX8_settle_l3_s N v0 v1 v2 v3 (fX8_settle_l3 N v0 v1 v2 v3 n) v4 M
def fX8_settle (N : Nat) (v0 : Nat) (v1 : Nat) (v2 : Nat) (v3 : Int32) (M : Mem) : Option Mem :=
  fX8_settle_l3 N v0 v1 v2 v3 N (0 : Int32) M
/-! X8_solveFor -/
def fX8_solveFor_b141 (N : Nat) (k110 : Int32 → Option (Bool × Mem)) (v0 : Nat) (v1 : Nat) (v3 : Nat) (v4 : Int32) (v5 : Int32) (M : Mem) : Option (Bool × Mem) :=
  k110 (v5 + (1 : Int32))
def fX8_solveFor_l110_s (N : Nat) (v0 : Nat) (v1 : Nat) (v3 : Nat) (v4 : Int32) (M : Mem) (k110 : Int32 → Option (Bool × Mem)) (v5 : Int32) : Option (Bool × Mem) :=
  if v4 ≤ v5 then (fX8_settle N v0 v1 v3 v4 M).bind fun qj1 => some (true, qj1) else if inB v5 40 = true then if (rJ M (v0 + 1) v5.toNatClampNeg) = (0 : Int64) then if inB v5 40 = true then if (rI M (v0 + 2) v5.toNatClampNeg) = 0 then fX8_solveFor_b141 N k110 v0 v1 v3 v4 v5 M else some (false, M) else none else fX8_solveFor_b141 N k110 v0 v1 v3 v4 v5 M else none
def fX8_solveFor_l110 (N : Nat) (v0 : Nat) (v1 : Nat) (v3 : Nat) (v4 : Int32) (M : Mem) : Nat → Int32 → Option (Bool × Mem)
  | 0, _ => none
  | n + 1, v5 => fX8_solveFor_l110_s N v0 v1 v3 v4 M (fX8_solveFor_l110 N v0 v1 v3 v4 M n) v5
def fX8_solveFor_b107 (N : Nat) (v0 : Nat) (v1 : Nat) (v3 : Nat) (v4 : Int32) (M : Mem) : Option (Bool × Mem) :=
  fX8_solveFor_l110 N v0 v1 v3 v4 M N (0 : Int32)
def fX8_solveFor_b101 (N : Nat) (k50 : Int32 → Mem → Option (Bool × Mem)) (v0 : Nat) (v1 : Nat) (v3 : Nat) (v4 : Int32) (v5 : Int32) (M : Mem) : Option (Bool × Mem) :=
  k50 (v5 + (1 : Int32)) M
def fX8_solveFor_l50_s (N : Nat) (v0 : Nat) (v1 : Nat) (v3 : Nat) (v4 : Int32) (k50 : Int32 → Mem → Option (Bool × Mem)) (v5 : Int32) (M : Mem) : Option (Bool × Mem) :=
  if (rI M v1 2) ≤ v5 then fX8_solveFor_b107 N v0 v1 v3 v4 M else if (64 : Int32) ≤ v5 then fX8_solveFor_b107 N v0 v1 v3 v4 M else (fX8_chooseFor N v0 v5 v4 M).bind fun qj1 => if inB v5 64 = true then if qj1.1 = (-1 : Int32) then fX8_solveFor_b101 N k50 v0 v1 v3 v4 v5 (wI qj1.2 (v0 + 3) v5.toNatClampNeg qj1.1) else (fX8_joinTo N v0 qj1.1 v5 v4 (wI qj1.2 (v0 + 3) v5.toNatClampNeg qj1.1)).bind fun qj3 => fX8_solveFor_b101 N k50 v0 v1 v3 v4 v5 qj3 else none
def fX8_solveFor_l50 (N : Nat) (v0 : Nat) (v1 : Nat) (v3 : Nat) (v4 : Int32) : Nat → Int32 → Mem → Option (Bool × Mem)
  | 0, _, _ => none
  | n + 1, v5, M => fX8_solveFor_l50_s N v0 v1 v3 v4 (fX8_solveFor_l50 N v0 v1 v3 v4 n) v5 M
def fX8_solveFor_l19_s (N : Nat) (v0 : Nat) (v1 : Nat) (v2 : Nat) (v3 : Nat) (v4 : Int32) (k19 : Int32 → Mem → Option (Bool × Mem)) (v5 : Int32) (M : Mem) : Option (Bool × Mem) :=
  if v4 ≤ v5 then fX8_solveFor_l50 N v0 v1 v3 v4 N (0 : Int32) M else (fX9_numberAt v3 v5 M).bind fun qj1 => (fX8_state N v0 v5 v1 v2 qj1.toInt32 M).bind fun qj2 => k19 (v5 + (1 : Int32)) qj2
def fX8_solveFor_l19 (N : Nat) (v0 : Nat) (v1 : Nat) (v2 : Nat) (v3 : Nat) (v4 : Int32) : Nat → Int32 → Mem → Option (Bool × Mem)
  | 0, _, _ => none
  | n + 1, v5, M => fX8_solveFor_l19_s N v0 v1 v2 v3 v4 (fX8_solveFor_l19 N v0 v1 v2 v3 v4 n) v5 M
def fX8_solveFor (N : Nat) (v0 : Nat) (v1 : Nat) (v2 : Nat) (v3 : Nat) (M : Mem) : Option (Bool × Mem) :=
  fX8_solveFor_l19 N v0 v1 v2 v3 (minI (rI M v3 1) (40 : Int32)) N (0 : Int32) (wJ M v0 3 (0 : Int64))
set_option maxHeartbeats 4000000 in
set_option maxRecDepth 100000 in
theorem z_fX8_state_l10_s {p : Program} {l : Launch} {e : Env} {s : State} {m : MethodId} {args : Array Value} {below : List Frame} {meth : Method} {c : Code} {D : va_G} {cy : Nat → ClassId} {B : Nat} {kd : Nat → Nat} {n : Nat} {sa sv : Nat → Nat} (C : zC p l s m args meth c D cy B kd n sa sv RX8 cX8_state 6) (ht : ∀ x ∈ c.exceptionTable.toList, False) (hr : meth.sig.returnType = none) {b0 : Mem} (N : Nat) (v0 : Nat) (v1 : Int32) (v2 : Nat) (v3 : Nat) (v4 : Int32) (k10 : Int32 → Mem → Option Mem) (v5 : Int32) (M : Mem) (h0 : kd v0 = 8) (h2 : kd v2 = 5) (h3 : kd v3 = 6)  (hk10 : ∀ (v5 : Int32) (M : Mem), Z p l e (rmz 2 0) s m args below meth c (vx_MQ below (QcR D cy B kd n (cvV b0)) (XcR D cy B kd n (cvV b0)) args s 0 (6 * 0) (AA B kd n)) D cy B kd n 6 b0 0 10 [(0, .ref (B + v0)), (1, .int v1), (2, .ref (B + v2)), (3, .ref (B + v3)), (4, .int v4), (5, .int v5)] [] M (k10 v5 M)) : Z p l e (rmz 2 0) s m args below meth c (vx_MQ below (QcR D cy B kd n (cvV b0)) (XcR D cy B kd n (cvV b0)) args s 0 (6 * 0) (AA B kd n)) D cy B kd n 6 b0 0 10 [(0, .ref (B + v0)), (1, .int v1), (2, .ref (B + v2)), (3, .ref (B + v3)), (4, .int v4), (5, .int v5)] [] M (fX8_state_l10_s N v0 v1 v2 v3 v4 k10 v5 M) := by
  unfold fX8_state_l10_s
  refine z_iload C 5 dX8_state_10 rfl ?_
  refine z_aload_n C 2 2 dX8_state_12 rfl rfl ?_
  refine z_getI (k := 3) C cl5 h2 rfl gw_1_135 rfl dX8_state_13 ?_
  refine z_icmp_ge C 48 dX8_state_16 rfl (fun _ => ?_) (fun _ => ?_)
  · refine z_aload_n C 0 0 dX8_state_48 rfl rfl ?_
    refine z_getR (k := 1) C cl8 h0 rfl gw_2_78 rfl dX8_state_49 ?_
    have j1 : kd (v0 + 2) = 34 := zkd C h0 (k := 1) rfl
    refine z_iload_n C 1 1 dX8_state_52 rfl rfl ?_
    refine z_aload_n C 3 3 dX8_state_53 rfl rfl ?_
    refine z_iload C 4 dX8_state_54 rfl ?_
    refine z_callV_pI (As := [.int v4]) (rest := [.int v1, .ref (B + (v0 + 2))]) C rfl (ctX6_tagOf (zG_of C) v3 v4 h3 M) cw_RX8_71 rfl (okM_X6_tagOf) rfl cl6 h3 (okR_of rfl) (Nat.le_of_ble_eq_true rfl) dX8_state_56 (fun qj2 _ => ?_)
    refine z_iast C j1 rfl (by decide) dX8_state_59 (fun _ => ?_)
    exact z_vret C hr (Nat.le_of_ble_eq_true rfl) dX8_state_60 rfl
  · refine z_aload_n C 0 0 dX8_state_19 rfl rfl ?_
    refine z_getR (k := 0) C cl8 h0 rfl gw_2_77 rfl dX8_state_20 ?_
    have j3 : kd (v0 + 1) = 30 := zkd C h0 (k := 0) rfl
    refine z_iload_n C 1 1 dX8_state_23 rfl rfl ?_
    refine z_dup2 C dX8_state_24 rfl rfl ?_
    refine z_lald C j3 rfl (by decide) dX8_state_25 (fun j4 => ?_)
    refine z_lconst (v := 1) C dX8_state_26 rfl ?_
    refine z_aload_n C 3 3 dX8_state_27 rfl rfl ?_
    refine z_iload C 5 dX8_state_28 rfl ?_
    refine z_iload C 4 dX8_state_30 rfl ?_
    refine z_aload_n C 2 2 dX8_state_32 rfl rfl ?_
    refine z_getI (k := 2) C cl5 h2 rfl gw_1_130 rfl dX8_state_33 ?_
    refine z_callV_I (As := [.int v5, .int v4, .int (rI M v2 2)]) (rest := [.long (1 : Int64), .long (rJ M (v0 + 1) v1.toNatClampNeg), .int v1, .ref (B + (v0 + 1))]) C rfl (ctX6_placeOf (zG_of C) N v3 v5 v4 (rI M v2 2) h3 M) cw_RX8_65 rfl (okM_X6_placeOf) rfl cl6 h3 (okR_of rfl) (Nat.le_of_ble_eq_true rfl) dX8_state_36 (fun qj5 _ => ?_)
    refine z_lshl C dX8_state_39 ?_
    refine z_lxor C dX8_state_40 ?_
    refine z_last C j3 rfl (by decide) dX8_state_41 (fun _ => ?_)
    refine z_iinc C 5 5 (v := v5) (v1 := (v5 + (1 : Int32))) (ls1 := [(5, .int (v5 + (1 : Int32))), (0, .ref (B + v0)), (1, .int v1), (2, .ref (B + v2)), (3, .ref (B + v3)), (4, .int v4)]) dX8_state_42 rfl rfl (by decide) rfl ?_
    refine z_goto C 10 dX8_state_45 rfl ?_
    exact z_jump (ls1 := [(0, .ref (B + v0)), (1, .int v1), (2, .ref (B + v2)), (3, .ref (B + v3)), (4, .int v4), (5, .int (v5 + (1 : Int32)))]) (Nat.le_of_ble_eq_true rfl) [1, 2, 3, 4, 5, 0] rfl (hk10 (v5 + (1 : Int32)) (wJ qj5.2 (v0 + 1) v1.toNatClampNeg ((rJ M (v0 + 1) v1.toNatClampNeg) ^^^ (shlJ (1 : Int64) qj5.1))))
theorem z_fX8_state_l10_i {p : Program} {l : Launch} {e : Env} {s : State} {m : MethodId} {args : Array Value} {below : List Frame} {meth : Method} {c : Code} {D : va_G} {cy : Nat → ClassId} {B : Nat} {kd : Nat → Nat} {n : Nat} {sa sv : Nat → Nat} (C : zC p l s m args meth c D cy B kd n sa sv RX8 cX8_state 6) (ht : ∀ x ∈ c.exceptionTable.toList, False) (hr : meth.sig.returnType = none) {b0 : Mem} (N : Nat) (v0 : Nat) (v1 : Int32) (v2 : Nat) (v3 : Nat) (v4 : Int32) (h0 : kd v0 = 8) (h2 : kd v2 = 5) (h3 : kd v3 = 6)  (fu : Nat) : ∀ (v5 : Int32) (M : Mem), Z p l e (rmz 2 0) s m args below meth c (vx_MQ below (QcR D cy B kd n (cvV b0)) (XcR D cy B kd n (cvV b0)) args s 0 (6 * 0) (AA B kd n)) D cy B kd n 6 b0 0 10 [(0, .ref (B + v0)), (1, .int v1), (2, .ref (B + v2)), (3, .ref (B + v3)), (4, .int v4), (5, .int v5)] [] M (fX8_state_l10 N v0 v1 v2 v3 v4 fu v5 M) := by
  induction fu with
  | zero => intro v5 M; exact z_none
  | succ fu ih => intro v5 M; exact z_fX8_state_l10_s C ht hr N v0 v1 v2 v3 v4 (fX8_state_l10 N v0 v1 v2 v3 v4 fu) v5 M h0 h2 h3 (fun v5 M => ih v5 M)
theorem z_fX8_state_l10 {p : Program} {l : Launch} {e : Env} {s : State} {m : MethodId} {args : Array Value} {below : List Frame} {meth : Method} {c : Code} {D : va_G} {cy : Nat → ClassId} {B : Nat} {kd : Nat → Nat} {n : Nat} {sa sv : Nat → Nat} (C : zC p l s m args meth c D cy B kd n sa sv RX8 cX8_state 6) (ht : ∀ x ∈ c.exceptionTable.toList, False) (hr : meth.sig.returnType = none) {b0 : Mem} (N : Nat) (v0 : Nat) (v1 : Int32) (v2 : Nat) (v3 : Nat) (v4 : Int32) (fu : Nat) (v5 : Int32) (M : Mem) (h0 : kd v0 = 8) (h2 : kd v2 = 5) (h3 : kd v3 = 6)  : Z p l e (rmz 2 0) s m args below meth c (vx_MQ below (QcR D cy B kd n (cvV b0)) (XcR D cy B kd n (cvV b0)) args s 0 (6 * 0) (AA B kd n)) D cy B kd n 6 b0 0 10 [(0, .ref (B + v0)), (1, .int v1), (2, .ref (B + v2)), (3, .ref (B + v3)), (4, .int v4), (5, .int v5)] [] M (fX8_state_l10 N v0 v1 v2 v3 v4 fu v5 M) := z_fX8_state_l10_i C ht hr N v0 v1 v2 v3 v4 h0 h2 h3 fu v5 M
set_option maxHeartbeats 4000000 in
set_option maxRecDepth 100000 in
theorem ctX8_state {l : Launch} {D : va_G} {cy : Nat → ClassId} {B : Nat} {kd : Nat → Nat} {n : Nat} {sa sv : Nat → Nat} (G : zG l kd n) (N : Nat) (v0 : Nat) (v1 : Int32) (v2 : Nat) (v3 : Nat) (v4 : Int32) (h0 : kd v0 = 8) (h2 : kd v2 = 5) (h3 : kd v3 = 6) (M : Mem) : CT l D cy B kd n sa sv 2 0 yX8_state cX8_state 6 (none) cvV [.ref (B + v0), .int v1, .ref (B + v2), .ref (B + v3), .int v4] M (fX8_state N v0 v1 v2 v3 v4 M) := by
  refine ct_of (by decide) G.1 G.2 (Nat.le_of_ble_eq_true rfl) (ls := [(0, .ref (B + v0)), (1, .int v1), (2, .ref (B + v2)), (3, .ref (B + v3)), (4, .int v4)]) rfl ?_
  intro p e s m args below meth c b0 C ht hr
  unfold fX8_state
  refine z_aload_n C 0 0 dX8_state_0 rfl rfl ?_
  refine z_getR (k := 0) C cl8 h0 rfl gw_2_77 rfl dX8_state_1 ?_
  have j1 : kd (v0 + 1) = 30 := zkd C h0 (k := 0) rfl
  refine z_iload_n C 1 1 dX8_state_4 rfl rfl ?_
  refine z_lconst (v := 0) C dX8_state_5 rfl ?_
  refine z_last C j1 rfl (by decide) dX8_state_6 (fun _ => ?_)
  refine z_iconst C dX8_state_7 rfl ?_
  refine z_istore C 5 (ls1 := [(5, .int (0 : Int32)), (0, .ref (B + v0)), (1, .int v1), (2, .ref (B + v2)), (3, .ref (B + v3)), (4, .int v4)]) dX8_state_8 (by decide) rfl ?_
  exact z_jump (ls1 := [(0, .ref (B + v0)), (1, .int v1), (2, .ref (B + v2)), (3, .ref (B + v3)), (4, .int v4), (5, .int (0 : Int32))]) (Nat.le_of_ble_eq_true rfl) [1, 2, 3, 4, 5, 0] rfl (z_fX8_state_l10 C ht hr N v0 v1 v2 v3 v4 N (0 : Int32) (wJ M (v0 + 1) v1.toNatClampNeg (0 : Int64)) h0 h2 h3)
set_option maxHeartbeats 4000000 in
set_option maxRecDepth 100000 in
theorem z_fX8_chooseFor_b49 {p : Program} {l : Launch} {e : Env} {s : State} {m : MethodId} {args : Array Value} {below : List Frame} {meth : Method} {c : Code} {D : va_G} {cy : Nat → ClassId} {B : Nat} {kd : Nat → Nat} {n : Nat} {sa sv : Nat → Nat} (C : zC p l s m args meth c D cy B kd n sa sv RX8 cX8_chooseFor 4) (ht : ∀ x ∈ c.exceptionTable.toList, False) (hr : meth.sig.returnType = some (FieldType.int)) {b0 : Int32 × Mem}  (N : Nat) (k2 : Int32 → Option (Int32 × Mem)) (v0 : Nat) (v1 : Int32) (v2 : Int32) (v3 : Int32) (M : Mem) (h0 : kd v0 = 8) (hk2 : ∀ (v3 : Int32), Z p l e (rmz 0 0) s m args below meth c (vx_MQ below (QcR D cy B kd n (cvI b0)) (XcR D cy B kd n (cvI b0)) args s 0 (6 * 0) (AA B kd n)) D cy B kd n 4 b0 0 2 [(0, .ref (B + v0)), (1, .int v1), (2, .int v2), (3, .int v3)] [] M (k2 v3)) : Z p l e (rmz 0 0) s m args below meth c (vx_MQ below (QcR D cy B kd n (cvI b0)) (XcR D cy B kd n (cvI b0)) args s 0 (6 * 0) (AA B kd n)) D cy B kd n 4 b0 0 49 [(0, .ref (B + v0)), (1, .int v1), (2, .int v2), (3, .int v3)] [] M (fX8_chooseFor_b49 N k2 v0 v1 v2 v3 M) := by
  unfold fX8_chooseFor_b49
  refine z_iinc C 3 3 (v := v3) (v1 := (v3 + (1 : Int32))) (ls1 := [(3, .int (v3 + (1 : Int32))), (0, .ref (B + v0)), (1, .int v1), (2, .int v2)]) dX8_chooseFor_49 rfl rfl (by decide) rfl ?_
  refine z_goto C 2 dX8_chooseFor_52 rfl ?_
  exact z_jump (ls1 := [(0, .ref (B + v0)), (1, .int v1), (2, .int v2), (3, .int (v3 + (1 : Int32)))]) (Nat.le_of_ble_eq_true rfl) [1, 2, 3, 0] rfl (hk2 (v3 + (1 : Int32)))
set_option maxHeartbeats 4000000 in
set_option maxRecDepth 100000 in
theorem z_fX8_chooseFor_l2_s {p : Program} {l : Launch} {e : Env} {s : State} {m : MethodId} {args : Array Value} {below : List Frame} {meth : Method} {c : Code} {D : va_G} {cy : Nat → ClassId} {B : Nat} {kd : Nat → Nat} {n : Nat} {sa sv : Nat → Nat} (C : zC p l s m args meth c D cy B kd n sa sv RX8 cX8_chooseFor 4) (ht : ∀ x ∈ c.exceptionTable.toList, False) (hr : meth.sig.returnType = some (FieldType.int)) {b0 : Int32 × Mem} (N : Nat) (v0 : Nat) (v1 : Int32) (v2 : Int32) (M : Mem) (k2 : Int32 → Option (Int32 × Mem)) (v3 : Int32) (h0 : kd v0 = 8)  (hk2 : ∀ (v3 : Int32), Z p l e (rmz 0 0) s m args below meth c (vx_MQ below (QcR D cy B kd n (cvI b0)) (XcR D cy B kd n (cvI b0)) args s 0 (6 * 0) (AA B kd n)) D cy B kd n 4 b0 0 2 [(0, .ref (B + v0)), (1, .int v1), (2, .int v2), (3, .int v3)] [] M (k2 v3)) : Z p l e (rmz 0 0) s m args below meth c (vx_MQ below (QcR D cy B kd n (cvI b0)) (XcR D cy B kd n (cvI b0)) args s 0 (6 * 0) (AA B kd n)) D cy B kd n 4 b0 0 2 [(0, .ref (B + v0)), (1, .int v1), (2, .int v2), (3, .int v3)] [] M (fX8_chooseFor_l2_s N v0 v1 v2 M k2 v3) := by
  unfold fX8_chooseFor_l2_s
  refine z_iload_n C 3 3 dX8_chooseFor_2 rfl rfl ?_
  refine z_iload_n C 2 2 dX8_chooseFor_3 rfl rfl ?_
  refine z_icmp_ge C 55 dX8_chooseFor_4 rfl (fun _ => ?_) (fun _ => ?_)
  · refine z_iconst C dX8_chooseFor_55 rfl ?_
    exact z_iret C hr (Nat.le_of_ble_eq_true rfl) dX8_chooseFor_56 rfl
  · refine z_aload_n C 0 0 dX8_chooseFor_7 rfl rfl ?_
    refine z_getJ (k := 3) C cl8 h0 rfl gw_2_80 rfl dX8_chooseFor_8 ?_
    refine z_iload_n C 3 3 dX8_chooseFor_11 rfl rfl ?_
    refine z_lushr C dX8_chooseFor_12 ?_
    refine z_lconst (v := 1) C dX8_chooseFor_13 rfl ?_
    refine z_land C dX8_chooseFor_14 ?_
    refine z_lconst (v := 0) C dX8_chooseFor_15 rfl ?_
    refine z_lcmp_ne C 49 dX8_chooseFor_16 dX8_chooseFor_17 rfl (fun _ => ?_) (fun _ => ?_)
    · refine z_aload_n C 0 0 dX8_chooseFor_20 rfl rfl ?_
      refine z_getR (k := 0) C cl8 h0 rfl gw_2_77 rfl dX8_chooseFor_21 ?_
      have j1 : kd (v0 + 1) = 30 := zkd C h0 (k := 0) rfl
      refine z_iload_n C 3 3 dX8_chooseFor_24 rfl rfl ?_
      refine z_lald C j1 rfl (by decide) dX8_chooseFor_25 (fun j2 => ?_)
      refine z_iload_n C 1 1 dX8_chooseFor_26 rfl rfl ?_
      refine z_lushr C dX8_chooseFor_27 ?_
      refine z_lconst (v := 1) C dX8_chooseFor_28 rfl ?_
      refine z_land C dX8_chooseFor_29 ?_
      refine z_lconst (v := 0) C dX8_chooseFor_30 rfl ?_
      refine z_lcmp_eq C 49 dX8_chooseFor_31 dX8_chooseFor_32 rfl (fun _ => ?_) (fun _ => ?_)
      · exact z_jump (ls1 := [(0, .ref (B + v0)), (1, .int v1), (2, .int v2), (3, .int v3)]) (Nat.le_of_ble_eq_true rfl) [0, 1, 2, 3] rfl (z_fX8_chooseFor_b49 C ht hr N k2 v0 v1 v2 v3 M h0 hk2)
      · refine z_aload_n C 0 0 dX8_chooseFor_35 rfl rfl ?_
        refine z_dup C dX8_chooseFor_36 rfl ?_
        refine z_getJ (k := 3) C cl8 h0 rfl gw_2_80 rfl dX8_chooseFor_37 ?_
        refine z_lconst (v := 1) C dX8_chooseFor_40 rfl ?_
        refine z_iload_n C 3 3 dX8_chooseFor_41 rfl rfl ?_
        refine z_lshl C dX8_chooseFor_42 ?_
        refine z_lor C dX8_chooseFor_43 ?_
        refine z_putJ (k := 3) C cl8 h0 rfl gw_2_80 rfl rfl rfl dX8_chooseFor_44 ?_
        refine z_iload_n C 3 3 dX8_chooseFor_47 rfl rfl ?_
        exact z_iret C hr (Nat.le_of_ble_eq_true rfl) dX8_chooseFor_48 rfl
    · exact z_jump (ls1 := [(0, .ref (B + v0)), (1, .int v1), (2, .int v2), (3, .int v3)]) (Nat.le_of_ble_eq_true rfl) [0, 1, 2, 3] rfl (z_fX8_chooseFor_b49 C ht hr N k2 v0 v1 v2 v3 M h0 hk2)
theorem z_fX8_chooseFor_l2_i {p : Program} {l : Launch} {e : Env} {s : State} {m : MethodId} {args : Array Value} {below : List Frame} {meth : Method} {c : Code} {D : va_G} {cy : Nat → ClassId} {B : Nat} {kd : Nat → Nat} {n : Nat} {sa sv : Nat → Nat} (C : zC p l s m args meth c D cy B kd n sa sv RX8 cX8_chooseFor 4) (ht : ∀ x ∈ c.exceptionTable.toList, False) (hr : meth.sig.returnType = some (FieldType.int)) {b0 : Int32 × Mem} (N : Nat) (v0 : Nat) (v1 : Int32) (v2 : Int32) (M : Mem) (h0 : kd v0 = 8)  (fu : Nat) : ∀ (v3 : Int32), Z p l e (rmz 0 0) s m args below meth c (vx_MQ below (QcR D cy B kd n (cvI b0)) (XcR D cy B kd n (cvI b0)) args s 0 (6 * 0) (AA B kd n)) D cy B kd n 4 b0 0 2 [(0, .ref (B + v0)), (1, .int v1), (2, .int v2), (3, .int v3)] [] M (fX8_chooseFor_l2 N v0 v1 v2 M fu v3) := by
  induction fu with
  | zero => intro v3; exact z_none
  | succ fu ih => intro v3; exact z_fX8_chooseFor_l2_s C ht hr N v0 v1 v2 M (fX8_chooseFor_l2 N v0 v1 v2 M fu) v3 h0 (fun v3 => ih v3)
theorem z_fX8_chooseFor_l2 {p : Program} {l : Launch} {e : Env} {s : State} {m : MethodId} {args : Array Value} {below : List Frame} {meth : Method} {c : Code} {D : va_G} {cy : Nat → ClassId} {B : Nat} {kd : Nat → Nat} {n : Nat} {sa sv : Nat → Nat} (C : zC p l s m args meth c D cy B kd n sa sv RX8 cX8_chooseFor 4) (ht : ∀ x ∈ c.exceptionTable.toList, False) (hr : meth.sig.returnType = some (FieldType.int)) {b0 : Int32 × Mem} (N : Nat) (v0 : Nat) (v1 : Int32) (v2 : Int32) (M : Mem) (fu : Nat) (v3 : Int32) (h0 : kd v0 = 8)  : Z p l e (rmz 0 0) s m args below meth c (vx_MQ below (QcR D cy B kd n (cvI b0)) (XcR D cy B kd n (cvI b0)) args s 0 (6 * 0) (AA B kd n)) D cy B kd n 4 b0 0 2 [(0, .ref (B + v0)), (1, .int v1), (2, .int v2), (3, .int v3)] [] M (fX8_chooseFor_l2 N v0 v1 v2 M fu v3) := z_fX8_chooseFor_l2_i C ht hr N v0 v1 v2 M h0 fu v3
set_option maxHeartbeats 4000000 in
set_option maxRecDepth 100000 in
theorem ctX8_chooseFor {l : Launch} {D : va_G} {cy : Nat → ClassId} {B : Nat} {kd : Nat → Nat} {n : Nat} {sa sv : Nat → Nat} (G : zG l kd n) (N : Nat) (v0 : Nat) (v1 : Int32) (v2 : Int32) (h0 : kd v0 = 8) (M : Mem) : CT l D cy B kd n sa sv 0 0 yX8_chooseFor cX8_chooseFor 4 (some (FieldType.int)) cvI [.ref (B + v0), .int v1, .int v2] M (fX8_chooseFor N v0 v1 v2 M) := by
  refine ct_of (by decide) G.1 G.2 (Nat.le_of_ble_eq_true rfl) (ls := [(0, .ref (B + v0)), (1, .int v1), (2, .int v2)]) rfl ?_
  intro p e s m args below meth c b0 C ht hr
  unfold fX8_chooseFor
  refine z_iconst C dX8_chooseFor_0 rfl ?_
  refine z_istore_n C 3 (ls1 := [(3, .int (0 : Int32)), (0, .ref (B + v0)), (1, .int v1), (2, .int v2)]) dX8_chooseFor_1 rfl (by decide) rfl ?_
  exact z_jump (ls1 := [(0, .ref (B + v0)), (1, .int v1), (2, .int v2), (3, .int (0 : Int32))]) (Nat.le_of_ble_eq_true rfl) [1, 2, 3, 0] rfl (z_fX8_chooseFor_l2 C ht hr N v0 v1 v2 M N (0 : Int32) h0)
set_option maxHeartbeats 4000000 in
set_option maxRecDepth 100000 in
theorem z_fX8_joinTo_b63 {p : Program} {l : Launch} {e : Env} {s : State} {m : MethodId} {args : Array Value} {below : List Frame} {meth : Method} {c : Code} {D : va_G} {cy : Nat → ClassId} {B : Nat} {kd : Nat → Nat} {n : Nat} {sa sv : Nat → Nat} (C : zC p l s m args meth c D cy B kd n sa sv RX8 cX8_joinTo 5) (ht : ∀ x ∈ c.exceptionTable.toList, False) (hr : meth.sig.returnType = none) {b0 : Mem}  (N : Nat) (k3 : Int32 → Mem → Option Mem) (v0 : Nat) (v1 : Int32) (v2 : Int32) (v3 : Int32) (v4 : Int32) (M : Mem) (h0 : kd v0 = 8) (hk3 : ∀ (v4 : Int32) (M : Mem), Z p l e (rmz 0 0) s m args below meth c (vx_MQ below (QcR D cy B kd n (cvV b0)) (XcR D cy B kd n (cvV b0)) args s 0 (6 * 0) (AA B kd n)) D cy B kd n 5 b0 0 3 [(0, .ref (B + v0)), (1, .int v1), (2, .int v2), (3, .int v3), (4, .int v4)] [] M (k3 v4 M)) : Z p l e (rmz 0 0) s m args below meth c (vx_MQ below (QcR D cy B kd n (cvV b0)) (XcR D cy B kd n (cvV b0)) args s 0 (6 * 0) (AA B kd n)) D cy B kd n 5 b0 0 63 [(0, .ref (B + v0)), (1, .int v1), (2, .int v2), (3, .int v3), (4, .int v4)] [] M (fX8_joinTo_b63 N k3 v0 v1 v2 v3 v4 M) := by
  unfold fX8_joinTo_b63
  refine z_iinc C 4 4 (v := v4) (v1 := (v4 + (1 : Int32))) (ls1 := [(4, .int (v4 + (1 : Int32))), (0, .ref (B + v0)), (1, .int v1), (2, .int v2), (3, .int v3)]) dX8_joinTo_63 rfl rfl (by decide) rfl ?_
  refine z_goto C 3 dX8_joinTo_66 rfl ?_
  exact z_jump (ls1 := [(0, .ref (B + v0)), (1, .int v1), (2, .int v2), (3, .int v3), (4, .int (v4 + (1 : Int32)))]) (Nat.le_of_ble_eq_true rfl) [1, 2, 3, 4, 0] rfl (hk3 (v4 + (1 : Int32)) M)
set_option maxHeartbeats 4000000 in
set_option maxRecDepth 100000 in
theorem z_fX8_joinTo_l3_s {p : Program} {l : Launch} {e : Env} {s : State} {m : MethodId} {args : Array Value} {below : List Frame} {meth : Method} {c : Code} {D : va_G} {cy : Nat → ClassId} {B : Nat} {kd : Nat → Nat} {n : Nat} {sa sv : Nat → Nat} (C : zC p l s m args meth c D cy B kd n sa sv RX8 cX8_joinTo 5) (ht : ∀ x ∈ c.exceptionTable.toList, False) (hr : meth.sig.returnType = none) {b0 : Mem} (N : Nat) (v0 : Nat) (v1 : Int32) (v2 : Int32) (v3 : Int32) (k3 : Int32 → Mem → Option Mem) (v4 : Int32) (M : Mem) (h0 : kd v0 = 8)  (hk3 : ∀ (v4 : Int32) (M : Mem), Z p l e (rmz 0 0) s m args below meth c (vx_MQ below (QcR D cy B kd n (cvV b0)) (XcR D cy B kd n (cvV b0)) args s 0 (6 * 0) (AA B kd n)) D cy B kd n 5 b0 0 3 [(0, .ref (B + v0)), (1, .int v1), (2, .int v2), (3, .int v3), (4, .int v4)] [] M (k3 v4 M)) : Z p l e (rmz 0 0) s m args below meth c (vx_MQ below (QcR D cy B kd n (cvV b0)) (XcR D cy B kd n (cvV b0)) args s 0 (6 * 0) (AA B kd n)) D cy B kd n 5 b0 0 3 [(0, .ref (B + v0)), (1, .int v1), (2, .int v2), (3, .int v3), (4, .int v4)] [] M (fX8_joinTo_l3_s N v0 v1 v2 v3 k3 v4 M) := by
  unfold fX8_joinTo_l3_s
  refine z_iload C 4 dX8_joinTo_3 rfl ?_
  refine z_iload_n C 3 3 dX8_joinTo_5 rfl rfl ?_
  refine z_icmp_ge C 69 dX8_joinTo_6 rfl (fun _ => ?_) (fun _ => ?_)
  · exact z_vret C hr (Nat.le_of_ble_eq_true rfl) dX8_joinTo_69 rfl
  · refine z_iload C 4 dX8_joinTo_9 rfl ?_
    refine z_iload_n C 1 1 dX8_joinTo_11 rfl rfl ?_
    refine z_icmp_eq C 63 dX8_joinTo_12 rfl (fun _ => ?_) (fun _ => ?_)
    · exact z_jump (ls1 := [(0, .ref (B + v0)), (1, .int v1), (2, .int v2), (3, .int v3), (4, .int v4)]) (Nat.le_of_ble_eq_true rfl) [0, 1, 2, 3, 4] rfl (z_fX8_joinTo_b63 C ht hr N k3 v0 v1 v2 v3 v4 M h0 hk3)
    · refine z_aload_n C 0 0 dX8_joinTo_15 rfl rfl ?_
      refine z_getR (k := 0) C cl8 h0 rfl gw_2_77 rfl dX8_joinTo_16 ?_
      have j1 : kd (v0 + 1) = 30 := zkd C h0 (k := 0) rfl
      refine z_iload C 4 dX8_joinTo_19 rfl ?_
      refine z_lald C j1 rfl (by decide) dX8_joinTo_21 (fun j2 => ?_)
      refine z_iload_n C 2 2 dX8_joinTo_22 rfl rfl ?_
      refine z_lushr C dX8_joinTo_23 ?_
      refine z_lconst (v := 1) C dX8_joinTo_24 rfl ?_
      refine z_land C dX8_joinTo_25 ?_
      refine z_lconst (v := 0) C dX8_joinTo_26 rfl ?_
      refine z_lcmp_eq C 63 dX8_joinTo_27 dX8_joinTo_28 rfl (fun _ => ?_) (fun _ => ?_)
      · exact z_jump (ls1 := [(0, .ref (B + v0)), (1, .int v1), (2, .int v2), (3, .int v3), (4, .int v4)]) (Nat.le_of_ble_eq_true rfl) [0, 1, 2, 3, 4] rfl (z_fX8_joinTo_b63 C ht hr N k3 v0 v1 v2 v3 v4 M h0 hk3)
      · refine z_aload_n C 0 0 dX8_joinTo_31 rfl rfl ?_
        refine z_getR (k := 0) C cl8 h0 rfl gw_2_77 rfl dX8_joinTo_32 ?_
        have j3 : kd (v0 + 1) = 30 := zkd C h0 (k := 0) rfl
        refine z_iload C 4 dX8_joinTo_35 rfl ?_
        refine z_dup2 C dX8_joinTo_37 rfl rfl ?_
        refine z_lald C j3 rfl (by decide) dX8_joinTo_38 (fun j4 => ?_)
        refine z_aload_n C 0 0 dX8_joinTo_39 rfl rfl ?_
        refine z_getR (k := 0) C cl8 h0 rfl gw_2_77 rfl dX8_joinTo_40 ?_
        have j5 : kd (v0 + 1) = 30 := zkd C h0 (k := 0) rfl
        refine z_iload_n C 1 1 dX8_joinTo_43 rfl rfl ?_
        refine z_lald C j5 rfl (by decide) dX8_joinTo_44 (fun j6 => ?_)
        refine z_lxor C dX8_joinTo_45 ?_
        refine z_last C j3 rfl (by decide) dX8_joinTo_46 (fun _ => ?_)
        refine z_aload_n C 0 0 dX8_joinTo_47 rfl rfl ?_
        refine z_getR (k := 1) C cl8 h0 rfl gw_2_78 rfl dX8_joinTo_48 ?_
        have j7 : kd (v0 + 2) = 34 := zkd C h0 (k := 1) rfl
        refine z_iload C 4 dX8_joinTo_51 rfl ?_
        refine z_dup2 C dX8_joinTo_53 rfl rfl ?_
        refine z_iald C j7 rfl (by decide) dX8_joinTo_54 (fun j8 => ?_)
        refine z_aload_n C 0 0 dX8_joinTo_55 rfl rfl ?_
        refine z_getR (k := 1) C cl8 h0 rfl gw_2_78 rfl dX8_joinTo_56 ?_
        have j9 : kd (v0 + 2) = 34 := zkd C h0 (k := 1) rfl
        refine z_iload_n C 1 1 dX8_joinTo_59 rfl rfl ?_
        refine z_iald C j9 rfl (by decide) dX8_joinTo_60 (fun j10 => ?_)
        refine z_ixor C dX8_joinTo_61 ?_
        refine z_iast C j7 rfl (by decide) dX8_joinTo_62 (fun _ => ?_)
        exact z_jump (ls1 := [(0, .ref (B + v0)), (1, .int v1), (2, .int v2), (3, .int v3), (4, .int v4)]) (Nat.le_of_ble_eq_true rfl) [0, 1, 2, 3, 4] rfl (z_fX8_joinTo_b63 C ht hr N k3 v0 v1 v2 v3 v4 (wI (wJ M (v0 + 1) v4.toNatClampNeg ((rJ M (v0 + 1) v4.toNatClampNeg) ^^^ (rJ M (v0 + 1) v1.toNatClampNeg))) (v0 + 2) v4.toNatClampNeg ((rI (wJ M (v0 + 1) v4.toNatClampNeg ((rJ M (v0 + 1) v4.toNatClampNeg) ^^^ (rJ M (v0 + 1) v1.toNatClampNeg))) (v0 + 2) v4.toNatClampNeg) ^^^ (rI (wJ M (v0 + 1) v4.toNatClampNeg ((rJ M (v0 + 1) v4.toNatClampNeg) ^^^ (rJ M (v0 + 1) v1.toNatClampNeg))) (v0 + 2) v1.toNatClampNeg))) h0 hk3)
theorem z_fX8_joinTo_l3_i {p : Program} {l : Launch} {e : Env} {s : State} {m : MethodId} {args : Array Value} {below : List Frame} {meth : Method} {c : Code} {D : va_G} {cy : Nat → ClassId} {B : Nat} {kd : Nat → Nat} {n : Nat} {sa sv : Nat → Nat} (C : zC p l s m args meth c D cy B kd n sa sv RX8 cX8_joinTo 5) (ht : ∀ x ∈ c.exceptionTable.toList, False) (hr : meth.sig.returnType = none) {b0 : Mem} (N : Nat) (v0 : Nat) (v1 : Int32) (v2 : Int32) (v3 : Int32) (h0 : kd v0 = 8)  (fu : Nat) : ∀ (v4 : Int32) (M : Mem), Z p l e (rmz 0 0) s m args below meth c (vx_MQ below (QcR D cy B kd n (cvV b0)) (XcR D cy B kd n (cvV b0)) args s 0 (6 * 0) (AA B kd n)) D cy B kd n 5 b0 0 3 [(0, .ref (B + v0)), (1, .int v1), (2, .int v2), (3, .int v3), (4, .int v4)] [] M (fX8_joinTo_l3 N v0 v1 v2 v3 fu v4 M) := by
  induction fu with
  | zero => intro v4 M; exact z_none
  | succ fu ih => intro v4 M; exact z_fX8_joinTo_l3_s C ht hr N v0 v1 v2 v3 (fX8_joinTo_l3 N v0 v1 v2 v3 fu) v4 M h0 (fun v4 M => ih v4 M)
theorem z_fX8_joinTo_l3 {p : Program} {l : Launch} {e : Env} {s : State} {m : MethodId} {args : Array Value} {below : List Frame} {meth : Method} {c : Code} {D : va_G} {cy : Nat → ClassId} {B : Nat} {kd : Nat → Nat} {n : Nat} {sa sv : Nat → Nat} (C : zC p l s m args meth c D cy B kd n sa sv RX8 cX8_joinTo 5) (ht : ∀ x ∈ c.exceptionTable.toList, False) (hr : meth.sig.returnType = none) {b0 : Mem} (N : Nat) (v0 : Nat) (v1 : Int32) (v2 : Int32) (v3 : Int32) (fu : Nat) (v4 : Int32) (M : Mem) (h0 : kd v0 = 8)  : Z p l e (rmz 0 0) s m args below meth c (vx_MQ below (QcR D cy B kd n (cvV b0)) (XcR D cy B kd n (cvV b0)) args s 0 (6 * 0) (AA B kd n)) D cy B kd n 5 b0 0 3 [(0, .ref (B + v0)), (1, .int v1), (2, .int v2), (3, .int v3), (4, .int v4)] [] M (fX8_joinTo_l3 N v0 v1 v2 v3 fu v4 M) := z_fX8_joinTo_l3_i C ht hr N v0 v1 v2 v3 h0 fu v4 M
set_option maxHeartbeats 4000000 in
set_option maxRecDepth 100000 in
theorem ctX8_joinTo {l : Launch} {D : va_G} {cy : Nat → ClassId} {B : Nat} {kd : Nat → Nat} {n : Nat} {sa sv : Nat → Nat} (G : zG l kd n) (N : Nat) (v0 : Nat) (v1 : Int32) (v2 : Int32) (v3 : Int32) (h0 : kd v0 = 8) (M : Mem) : CT l D cy B kd n sa sv 0 0 yX8_joinTo cX8_joinTo 5 (none) cvV [.ref (B + v0), .int v1, .int v2, .int v3] M (fX8_joinTo N v0 v1 v2 v3 M) := by
  refine ct_of (by decide) G.1 G.2 (Nat.le_of_ble_eq_true rfl) (ls := [(0, .ref (B + v0)), (1, .int v1), (2, .int v2), (3, .int v3)]) rfl ?_
  intro p e s m args below meth c b0 C ht hr
  unfold fX8_joinTo
  refine z_iconst C dX8_joinTo_0 rfl ?_
  refine z_istore C 4 (ls1 := [(4, .int (0 : Int32)), (0, .ref (B + v0)), (1, .int v1), (2, .int v2), (3, .int v3)]) dX8_joinTo_1 (by decide) rfl ?_
  exact z_jump (ls1 := [(0, .ref (B + v0)), (1, .int v1), (2, .int v2), (3, .int v3), (4, .int (0 : Int32))]) (Nat.le_of_ble_eq_true rfl) [1, 2, 3, 4, 0] rfl (z_fX8_joinTo_l3 C ht hr N v0 v1 v2 v3 N (0 : Int32) M h0)
set_option maxHeartbeats 4000000 in
set_option maxRecDepth 100000 in
theorem z_fX8_settle_l68_s {p : Program} {l : Launch} {e : Env} {s : State} {m : MethodId} {args : Array Value} {below : List Frame} {meth : Method} {c : Code} {D : va_G} {cy : Nat → ClassId} {B : Nat} {kd : Nat → Nat} {n : Nat} {sa sv : Nat → Nat} (C : zC p l s m args meth c D cy B kd n sa sv RX8 cX8_settle 5) (ht : ∀ x ∈ c.exceptionTable.toList, False) (hr : meth.sig.returnType = none) {b0 : Mem} (N : Nat) (v1 : Nat) (v2 : Nat) (v3 : Int32) (k68 : Int32 → Mem → Option Mem) (v4 : Int32) (M : Mem) (h1 : kd v1 = 5) (h2 : kd v2 = 9)  (hk68 : ∀ (v4 : Int32) (M : Mem), Z p l e (rmz 2 0) s m args below meth c (vx_MQ below (QcR D cy B kd n (cvV b0)) (XcR D cy B kd n (cvV b0)) args s 0 (6 * 0) (AA B kd n)) D cy B kd n 5 b0 0 68 [(1, .ref (B + v1)), (2, .ref (B + v2)), (3, .int v3), (4, .int v4)] [] M (k68 v4 M)) : Z p l e (rmz 2 0) s m args below meth c (vx_MQ below (QcR D cy B kd n (cvV b0)) (XcR D cy B kd n (cvV b0)) args s 0 (6 * 0) (AA B kd n)) D cy B kd n 5 b0 0 68 [(1, .ref (B + v1)), (2, .ref (B + v2)), (3, .int v3), (4, .int v4)] [] M (fX8_settle_l68_s N v1 v2 v3 k68 v4 M) := by
  unfold fX8_settle_l68_s
  refine z_iload C 3 dX8_settle_68 rfl ?_
  refine z_iload_n C 3 2 dX8_settle_70 rfl rfl ?_
  refine z_icmp_ge C 94 dX8_settle_71 rfl (fun _ => ?_) (fun _ => ?_)
  · exact z_vret C hr (Nat.le_of_ble_eq_true rfl) dX8_settle_94 rfl
  · refine z_aload_n C 1 0 dX8_settle_74 rfl rfl ?_
    refine z_getR (k := 8) C cl5 h1 rfl gw_1_148 rfl dX8_settle_75 ?_
    have j1 : kd (v1 + 1) = 2 := zkd C h1 (k := 8) rfl
    refine z_aload_n C 2 1 dX8_settle_78 rfl rfl ?_
    refine z_iload C 3 dX8_settle_79 rfl ?_
    refine z_callV_pJ (As := [.int v4]) (rest := [.ref (B + (v1 + 1))]) C rfl (ctX9_numberAt (zG_of C) v2 v4 h2 M) cw_RX8_38 rfl (okM_X9_numberAt) rfl cl9 h2 (okR_of rfl) (Nat.le_of_ble_eq_true rfl) dX8_settle_81 (fun qj2 _ => ?_)
    refine z_l2i C dX8_settle_84 ?_
    refine z_callV_V (As := [.int qj2.toInt32]) (rest := []) C rfl (ctX2_add (zG_of C) (v1 + 1) qj2.toInt32 j1 M) cw_RX8_88 rfl (okM_X2_add) rfl cl2 j1 (okR_of rfl) (Nat.le_of_ble_eq_true rfl) dX8_settle_85 (fun qj3 _ => ?_)
    refine z_iinc C 4 3 (v := v4) (v1 := (v4 + (1 : Int32))) (ls1 := [(4, .int (v4 + (1 : Int32))), (1, .ref (B + v1)), (2, .ref (B + v2)), (3, .int v3)]) dX8_settle_88 rfl rfl (by decide) rfl ?_
    refine z_goto C 68 dX8_settle_91 rfl ?_
    exact z_jump (ls1 := [(1, .ref (B + v1)), (2, .ref (B + v2)), (3, .int v3), (4, .int (v4 + (1 : Int32)))]) (Nat.le_of_ble_eq_true rfl) [1, 2, 3, 0] rfl (hk68 (v4 + (1 : Int32)) qj3)
theorem z_fX8_settle_l68_i {p : Program} {l : Launch} {e : Env} {s : State} {m : MethodId} {args : Array Value} {below : List Frame} {meth : Method} {c : Code} {D : va_G} {cy : Nat → ClassId} {B : Nat} {kd : Nat → Nat} {n : Nat} {sa sv : Nat → Nat} (C : zC p l s m args meth c D cy B kd n sa sv RX8 cX8_settle 5) (ht : ∀ x ∈ c.exceptionTable.toList, False) (hr : meth.sig.returnType = none) {b0 : Mem} (N : Nat) (v1 : Nat) (v2 : Nat) (v3 : Int32) (h1 : kd v1 = 5) (h2 : kd v2 = 9)  (fu : Nat) : ∀ (v4 : Int32) (M : Mem), Z p l e (rmz 2 0) s m args below meth c (vx_MQ below (QcR D cy B kd n (cvV b0)) (XcR D cy B kd n (cvV b0)) args s 0 (6 * 0) (AA B kd n)) D cy B kd n 5 b0 0 68 [(1, .ref (B + v1)), (2, .ref (B + v2)), (3, .int v3), (4, .int v4)] [] M (fX8_settle_l68 N v1 v2 v3 fu v4 M) := by
  induction fu with
  | zero => intro v4 M; exact z_none
  | succ fu ih => intro v4 M; exact z_fX8_settle_l68_s C ht hr N v1 v2 v3 (fX8_settle_l68 N v1 v2 v3 fu) v4 M h1 h2 (fun v4 M => ih v4 M)
theorem z_fX8_settle_l68 {p : Program} {l : Launch} {e : Env} {s : State} {m : MethodId} {args : Array Value} {below : List Frame} {meth : Method} {c : Code} {D : va_G} {cy : Nat → ClassId} {B : Nat} {kd : Nat → Nat} {n : Nat} {sa sv : Nat → Nat} (C : zC p l s m args meth c D cy B kd n sa sv RX8 cX8_settle 5) (ht : ∀ x ∈ c.exceptionTable.toList, False) (hr : meth.sig.returnType = none) {b0 : Mem} (N : Nat) (v1 : Nat) (v2 : Nat) (v3 : Int32) (fu : Nat) (v4 : Int32) (M : Mem) (h1 : kd v1 = 5) (h2 : kd v2 = 9)  : Z p l e (rmz 2 0) s m args below meth c (vx_MQ below (QcR D cy B kd n (cvV b0)) (XcR D cy B kd n (cvV b0)) args s 0 (6 * 0) (AA B kd n)) D cy B kd n 5 b0 0 68 [(1, .ref (B + v1)), (2, .ref (B + v2)), (3, .int v3), (4, .int v4)] [] M (fX8_settle_l68 N v1 v2 v3 fu v4 M) := z_fX8_settle_l68_i C ht hr N v1 v2 v3 h1 h2 fu v4 M
set_option maxHeartbeats 4000000 in
set_option maxRecDepth 100000 in
theorem z_fX8_settle_b58 {p : Program} {l : Launch} {e : Env} {s : State} {m : MethodId} {args : Array Value} {below : List Frame} {meth : Method} {c : Code} {D : va_G} {cy : Nat → ClassId} {B : Nat} {kd : Nat → Nat} {n : Nat} {sa sv : Nat → Nat} (C : zC p l s m args meth c D cy B kd n sa sv RX8 cX8_settle 5) (ht : ∀ x ∈ c.exceptionTable.toList, False) (hr : meth.sig.returnType = none) {b0 : Mem}  (N : Nat) (v1 : Nat) (v2 : Nat) (v3 : Int32) (M : Mem) (h1 : kd v1 = 5) (h2 : kd v2 = 9)  : Z p l e (rmz 2 0) s m args below meth c (vx_MQ below (QcR D cy B kd n (cvV b0)) (XcR D cy B kd n (cvV b0)) args s 0 (6 * 0) (AA B kd n)) D cy B kd n 5 b0 0 58 [(1, .ref (B + v1)), (2, .ref (B + v2)), (3, .int v3)] [] M (fX8_settle_b58 N v1 v2 v3 M) := by
  unfold fX8_settle_b58
  refine z_aload_n C 1 0 dX8_settle_58 rfl rfl ?_
  refine z_getR (k := 8) C cl5 h1 rfl gw_1_148 rfl dX8_settle_59 ?_
  have j1 : kd (v1 + 1) = 2 := zkd C h1 (k := 8) rfl
  refine z_callV_V (As := []) (rest := []) C rfl (ctX2_clear (zG_of C) N (v1 + 1) j1 M) cw_RX8_83 rfl (okM_X2_clear) rfl cl2 j1 (okR_of rfl) (Nat.le_of_ble_eq_true rfl) dX8_settle_62 (fun qj2 _ => ?_)
  refine z_iconst C dX8_settle_65 rfl ?_
  refine z_istore C 4 (ls1 := [(4, .int (0 : Int32)), (1, .ref (B + v1)), (2, .ref (B + v2)), (3, .int v3)]) dX8_settle_66 (by decide) rfl ?_
  exact z_jump (ls1 := [(1, .ref (B + v1)), (2, .ref (B + v2)), (3, .int v3), (4, .int (0 : Int32))]) (Nat.le_of_ble_eq_true rfl) [1, 2, 3, 0] rfl (z_fX8_settle_l68 C ht hr N v1 v2 v3 N (0 : Int32) qj2 h1 h2)
set_option maxHeartbeats 4000000 in
set_option maxRecDepth 100000 in
theorem z_fX8_settle_b49 {p : Program} {l : Launch} {e : Env} {s : State} {m : MethodId} {args : Array Value} {below : List Frame} {meth : Method} {c : Code} {D : va_G} {cy : Nat → ClassId} {B : Nat} {kd : Nat → Nat} {n : Nat} {sa sv : Nat → Nat} (C : zC p l s m args meth c D cy B kd n sa sv RX8 cX8_settle 5) (ht : ∀ x ∈ c.exceptionTable.toList, False) (hr : meth.sig.returnType = none) {b0 : Mem}  (N : Nat) (k3 : Int32 → Mem → Option Mem) (v0 : Nat) (v1 : Nat) (v2 : Nat) (v3 : Int32) (v4 : Int32) (s0 : Int32) (s1 : Int32) (s2 : Nat) (M : Mem) (h0 : kd v0 = 8) (h1 : kd v1 = 5) (h2 : kd v2 = 9) (hs2 : kd s2 = 5) (hk3 : ∀ (v4 : Int32) (M : Mem), Z p l e (rmz 2 0) s m args below meth c (vx_MQ below (QcR D cy B kd n (cvV b0)) (XcR D cy B kd n (cvV b0)) args s 0 (6 * 0) (AA B kd n)) D cy B kd n 5 b0 0 3 [(0, .ref (B + v0)), (1, .ref (B + v1)), (2, .ref (B + v2)), (3, .int v3), (4, .int v4)] [] M (k3 v4 M)) : Z p l e (rmz 2 0) s m args below meth c (vx_MQ below (QcR D cy B kd n (cvV b0)) (XcR D cy B kd n (cvV b0)) args s 0 (6 * 0) (AA B kd n)) D cy B kd n 5 b0 0 49 [(0, .ref (B + v0)), (1, .ref (B + v1)), (2, .ref (B + v2)), (3, .int v3), (4, .int v4)] [.int s0, .int s1, .ref (B + s2)] M (fX8_settle_b49 N k3 v0 v1 v2 v3 v4 s0 s1 s2 M) := by
  unfold fX8_settle_b49
  refine z_callV_V (As := [.int s1, .int s0]) (rest := []) C rfl (ctX5_setCell (zG_of C) s2 s1 s0 hs2 M) cw_RX8_75 rfl (okM_X5_setCell) rfl cl5 hs2 (okR_of rfl) (Nat.le_of_ble_eq_true rfl) dX8_settle_49 (fun qj1 _ => ?_)
  refine z_iinc C 4 4 (v := v4) (v1 := (v4 + (1 : Int32))) (ls1 := [(4, .int (v4 + (1 : Int32))), (0, .ref (B + v0)), (1, .ref (B + v1)), (2, .ref (B + v2)), (3, .int v3)]) dX8_settle_52 rfl rfl (by decide) rfl ?_
  refine z_goto C 3 dX8_settle_55 rfl ?_
  exact z_jump (ls1 := [(0, .ref (B + v0)), (1, .ref (B + v1)), (2, .ref (B + v2)), (3, .int v3), (4, .int (v4 + (1 : Int32)))]) (Nat.le_of_ble_eq_true rfl) [1, 2, 3, 4, 0] rfl (hk3 (v4 + (1 : Int32)) qj1)
set_option maxHeartbeats 4000000 in
set_option maxRecDepth 100000 in
theorem z_fX8_settle_l3_s {p : Program} {l : Launch} {e : Env} {s : State} {m : MethodId} {args : Array Value} {below : List Frame} {meth : Method} {c : Code} {D : va_G} {cy : Nat → ClassId} {B : Nat} {kd : Nat → Nat} {n : Nat} {sa sv : Nat → Nat} (C : zC p l s m args meth c D cy B kd n sa sv RX8 cX8_settle 5) (ht : ∀ x ∈ c.exceptionTable.toList, False) (hr : meth.sig.returnType = none) {b0 : Mem} (N : Nat) (v0 : Nat) (v1 : Nat) (v2 : Nat) (v3 : Int32) (k3 : Int32 → Mem → Option Mem) (v4 : Int32) (M : Mem) (h0 : kd v0 = 8) (h1 : kd v1 = 5) (h2 : kd v2 = 9)  (hk3 : ∀ (v4 : Int32) (M : Mem), Z p l e (rmz 2 0) s m args below meth c (vx_MQ below (QcR D cy B kd n (cvV b0)) (XcR D cy B kd n (cvV b0)) args s 0 (6 * 0) (AA B kd n)) D cy B kd n 5 b0 0 3 [(0, .ref (B + v0)), (1, .ref (B + v1)), (2, .ref (B + v2)), (3, .int v3), (4, .int v4)] [] M (k3 v4 M)) : Z p l e (rmz 2 0) s m args below meth c (vx_MQ below (QcR D cy B kd n (cvV b0)) (XcR D cy B kd n (cvV b0)) args s 0 (6 * 0) (AA B kd n)) D cy B kd n 5 b0 0 3 [(0, .ref (B + v0)), (1, .ref (B + v1)), (2, .ref (B + v2)), (3, .int v3), (4, .int v4)] [] M (fX8_settle_l3_s N v0 v1 v2 v3 k3 v4 M) := by
  unfold fX8_settle_l3_s
  refine z_iload C 4 dX8_settle_3 rfl ?_
  refine z_aload_n C 1 1 dX8_settle_5 rfl rfl ?_
  refine z_getI (k := 2) C cl5 h1 rfl gw_1_130 rfl dX8_settle_6 ?_
  refine z_icmp_ge C 58 dX8_settle_9 rfl (fun _ => ?_) (fun _ => ?_)
  · exact z_jump (ls1 := [(1, .ref (B + v1)), (2, .ref (B + v2)), (3, .int v3)]) (Nat.le_of_ble_eq_true rfl) [1, 2, 3] rfl (z_fX8_settle_b58 C ht hr N v1 v2 v3 M h1 h2)
  · refine z_iload C 4 dX8_settle_12 rfl ?_
    refine z_bipush (v := 64) C dX8_settle_14 rfl ?_
    refine z_icmp_ge C 58 dX8_settle_16 rfl (fun _ => ?_) (fun _ => ?_)
    · exact z_jump (ls1 := [(1, .ref (B + v1)), (2, .ref (B + v2)), (3, .int v3)]) (Nat.le_of_ble_eq_true rfl) [1, 2, 3] rfl (z_fX8_settle_b58 C ht hr N v1 v2 v3 M h1 h2)
    · refine z_aload_n C 1 1 dX8_settle_19 rfl rfl ?_
      refine z_iload C 4 dX8_settle_20 rfl ?_
      refine z_aload_n C 0 0 dX8_settle_22 rfl rfl ?_
      refine z_getR (k := 2) C cl8 h0 rfl gw_2_79 rfl dX8_settle_23 ?_
      have j1 : kd (v0 + 3) = 33 := zkd C h0 (k := 2) rfl
      refine z_iload C 4 dX8_settle_26 rfl ?_
      refine z_iald C j1 rfl (by decide) dX8_settle_28 (fun j2 => ?_)
      refine z_iconst C dX8_settle_29 rfl ?_
      refine z_icmp_ne C 37 dX8_settle_30 rfl (fun _ => ?_) (fun _ => ?_)
      · refine z_iconst C dX8_settle_33 rfl ?_
        refine z_goto C 49 dX8_settle_34 rfl ?_
        exact z_jump (ls1 := [(0, .ref (B + v0)), (1, .ref (B + v1)), (2, .ref (B + v2)), (3, .int v3), (4, .int v4)]) (Nat.le_of_ble_eq_true rfl) [0, 1, 2, 3, 4] rfl (z_fX8_settle_b49 C ht hr N k3 v0 v1 v2 v3 v4 (0 : Int32) v4 v1 M h0 h1 h2 h1 hk3)
      · refine z_aload_n C 0 0 dX8_settle_37 rfl rfl ?_
        refine z_getR (k := 1) C cl8 h0 rfl gw_2_78 rfl dX8_settle_38 ?_
        have j3 : kd (v0 + 2) = 34 := zkd C h0 (k := 1) rfl
        refine z_aload_n C 0 0 dX8_settle_41 rfl rfl ?_
        refine z_getR (k := 2) C cl8 h0 rfl gw_2_79 rfl dX8_settle_42 ?_
        have j4 : kd (v0 + 3) = 33 := zkd C h0 (k := 2) rfl
        refine z_iload C 4 dX8_settle_45 rfl ?_
        refine z_iald C j4 rfl (by decide) dX8_settle_47 (fun j5 => ?_)
        refine z_iald C j3 rfl (by decide) dX8_settle_48 (fun j6 => ?_)
        exact z_jump (ls1 := [(0, .ref (B + v0)), (1, .ref (B + v1)), (2, .ref (B + v2)), (3, .int v3), (4, .int v4)]) (Nat.le_of_ble_eq_true rfl) [0, 1, 2, 3, 4] rfl (z_fX8_settle_b49 C ht hr N k3 v0 v1 v2 v3 v4 (rI M (v0 + 2) (rI M (v0 + 3) v4.toNatClampNeg).toNatClampNeg) v4 v1 M h0 h1 h2 h1 hk3)
theorem z_fX8_settle_l3_i {p : Program} {l : Launch} {e : Env} {s : State} {m : MethodId} {args : Array Value} {below : List Frame} {meth : Method} {c : Code} {D : va_G} {cy : Nat → ClassId} {B : Nat} {kd : Nat → Nat} {n : Nat} {sa sv : Nat → Nat} (C : zC p l s m args meth c D cy B kd n sa sv RX8 cX8_settle 5) (ht : ∀ x ∈ c.exceptionTable.toList, False) (hr : meth.sig.returnType = none) {b0 : Mem} (N : Nat) (v0 : Nat) (v1 : Nat) (v2 : Nat) (v3 : Int32) (h0 : kd v0 = 8) (h1 : kd v1 = 5) (h2 : kd v2 = 9)  (fu : Nat) : ∀ (v4 : Int32) (M : Mem), Z p l e (rmz 2 0) s m args below meth c (vx_MQ below (QcR D cy B kd n (cvV b0)) (XcR D cy B kd n (cvV b0)) args s 0 (6 * 0) (AA B kd n)) D cy B kd n 5 b0 0 3 [(0, .ref (B + v0)), (1, .ref (B + v1)), (2, .ref (B + v2)), (3, .int v3), (4, .int v4)] [] M (fX8_settle_l3 N v0 v1 v2 v3 fu v4 M) := by
  induction fu with
  | zero => intro v4 M; exact z_none
  | succ fu ih => intro v4 M; exact z_fX8_settle_l3_s C ht hr N v0 v1 v2 v3 (fX8_settle_l3 N v0 v1 v2 v3 fu) v4 M h0 h1 h2 (fun v4 M => ih v4 M)
theorem z_fX8_settle_l3 {p : Program} {l : Launch} {e : Env} {s : State} {m : MethodId} {args : Array Value} {below : List Frame} {meth : Method} {c : Code} {D : va_G} {cy : Nat → ClassId} {B : Nat} {kd : Nat → Nat} {n : Nat} {sa sv : Nat → Nat} (C : zC p l s m args meth c D cy B kd n sa sv RX8 cX8_settle 5) (ht : ∀ x ∈ c.exceptionTable.toList, False) (hr : meth.sig.returnType = none) {b0 : Mem} (N : Nat) (v0 : Nat) (v1 : Nat) (v2 : Nat) (v3 : Int32) (fu : Nat) (v4 : Int32) (M : Mem) (h0 : kd v0 = 8) (h1 : kd v1 = 5) (h2 : kd v2 = 9)  : Z p l e (rmz 2 0) s m args below meth c (vx_MQ below (QcR D cy B kd n (cvV b0)) (XcR D cy B kd n (cvV b0)) args s 0 (6 * 0) (AA B kd n)) D cy B kd n 5 b0 0 3 [(0, .ref (B + v0)), (1, .ref (B + v1)), (2, .ref (B + v2)), (3, .int v3), (4, .int v4)] [] M (fX8_settle_l3 N v0 v1 v2 v3 fu v4 M) := z_fX8_settle_l3_i C ht hr N v0 v1 v2 v3 h0 h1 h2 fu v4 M
set_option maxHeartbeats 4000000 in
set_option maxRecDepth 100000 in
theorem ctX8_settle {l : Launch} {D : va_G} {cy : Nat → ClassId} {B : Nat} {kd : Nat → Nat} {n : Nat} {sa sv : Nat → Nat} (G : zG l kd n) (N : Nat) (v0 : Nat) (v1 : Nat) (v2 : Nat) (v3 : Int32) (h0 : kd v0 = 8) (h1 : kd v1 = 5) (h2 : kd v2 = 9) (M : Mem) : CT l D cy B kd n sa sv 2 0 yX8_settle cX8_settle 5 (none) cvV [.ref (B + v0), .ref (B + v1), .ref (B + v2), .int v3] M (fX8_settle N v0 v1 v2 v3 M) := by
  refine ct_of (by decide) G.1 G.2 (Nat.le_of_ble_eq_true rfl) (ls := [(0, .ref (B + v0)), (1, .ref (B + v1)), (2, .ref (B + v2)), (3, .int v3)]) rfl ?_
  intro p e s m args below meth c b0 C ht hr
  unfold fX8_settle
  refine z_iconst C dX8_settle_0 rfl ?_
  refine z_istore C 4 (ls1 := [(4, .int (0 : Int32)), (0, .ref (B + v0)), (1, .ref (B + v1)), (2, .ref (B + v2)), (3, .int v3)]) dX8_settle_1 (by decide) rfl ?_
  exact z_jump (ls1 := [(0, .ref (B + v0)), (1, .ref (B + v1)), (2, .ref (B + v2)), (3, .int v3), (4, .int (0 : Int32))]) (Nat.le_of_ble_eq_true rfl) [1, 2, 3, 4, 0] rfl (z_fX8_settle_l3 C ht hr N v0 v1 v2 v3 N (0 : Int32) M h0 h1 h2)
set_option maxHeartbeats 4000000 in
set_option maxRecDepth 100000 in
theorem z_fX8_solveFor_b141 {p : Program} {l : Launch} {e : Env} {s : State} {m : MethodId} {args : Array Value} {below : List Frame} {meth : Method} {c : Code} {D : va_G} {cy : Nat → ClassId} {B : Nat} {kd : Nat → Nat} {n : Nat} {sa sv : Nat → Nat} (C : zC p l s m args meth c D cy B kd n sa sv RX8 cX8_solveFor 7) (ht : ∀ x ∈ c.exceptionTable.toList, False) (hr : meth.sig.returnType = some (FieldType.boolean)) {b0 : Bool × Mem}  (N : Nat) (k110 : Int32 → Option (Bool × Mem)) (v0 : Nat) (v1 : Nat) (v3 : Nat) (v4 : Int32) (v5 : Int32) (M : Mem) (h0 : kd v0 = 8) (h1 : kd v1 = 5) (h3 : kd v3 = 9) (hk110 : ∀ (v5 : Int32), Z p l e (rmz 3 0) s m args below meth c (vx_MQ below (QcR D cy B kd n (cvB b0)) (XcR D cy B kd n (cvB b0)) args s 0 (6 * 0) (AA B kd n)) D cy B kd n 7 b0 0 110 [(0, .ref (B + v0)), (1, .ref (B + v1)), (3, .ref (B + v3)), (4, .int v4), (5, .int v5)] [] M (k110 v5)) : Z p l e (rmz 3 0) s m args below meth c (vx_MQ below (QcR D cy B kd n (cvB b0)) (XcR D cy B kd n (cvB b0)) args s 0 (6 * 0) (AA B kd n)) D cy B kd n 7 b0 0 141 [(0, .ref (B + v0)), (1, .ref (B + v1)), (3, .ref (B + v3)), (4, .int v4), (5, .int v5)] [] M (fX8_solveFor_b141 N k110 v0 v1 v3 v4 v5 M) := by
  unfold fX8_solveFor_b141
  refine z_iinc C 5 4 (v := v5) (v1 := (v5 + (1 : Int32))) (ls1 := [(5, .int (v5 + (1 : Int32))), (0, .ref (B + v0)), (1, .ref (B + v1)), (3, .ref (B + v3)), (4, .int v4)]) dX8_solveFor_141 rfl rfl (by decide) rfl ?_
  refine z_goto C 110 dX8_solveFor_144 rfl ?_
  exact z_jump (ls1 := [(0, .ref (B + v0)), (1, .ref (B + v1)), (3, .ref (B + v3)), (4, .int v4), (5, .int (v5 + (1 : Int32)))]) (Nat.le_of_ble_eq_true rfl) [1, 2, 3, 4, 0] rfl (hk110 (v5 + (1 : Int32)))
set_option maxHeartbeats 4000000 in
set_option maxRecDepth 100000 in
theorem z_fX8_solveFor_l110_s {p : Program} {l : Launch} {e : Env} {s : State} {m : MethodId} {args : Array Value} {below : List Frame} {meth : Method} {c : Code} {D : va_G} {cy : Nat → ClassId} {B : Nat} {kd : Nat → Nat} {n : Nat} {sa sv : Nat → Nat} (C : zC p l s m args meth c D cy B kd n sa sv RX8 cX8_solveFor 7) (ht : ∀ x ∈ c.exceptionTable.toList, False) (hr : meth.sig.returnType = some (FieldType.boolean)) {b0 : Bool × Mem} (N : Nat) (v0 : Nat) (v1 : Nat) (v3 : Nat) (v4 : Int32) (M : Mem) (k110 : Int32 → Option (Bool × Mem)) (v5 : Int32) (h0 : kd v0 = 8) (h1 : kd v1 = 5) (h3 : kd v3 = 9)  (hk110 : ∀ (v5 : Int32), Z p l e (rmz 3 0) s m args below meth c (vx_MQ below (QcR D cy B kd n (cvB b0)) (XcR D cy B kd n (cvB b0)) args s 0 (6 * 0) (AA B kd n)) D cy B kd n 7 b0 0 110 [(0, .ref (B + v0)), (1, .ref (B + v1)), (3, .ref (B + v3)), (4, .int v4), (5, .int v5)] [] M (k110 v5)) : Z p l e (rmz 3 0) s m args below meth c (vx_MQ below (QcR D cy B kd n (cvB b0)) (XcR D cy B kd n (cvB b0)) args s 0 (6 * 0) (AA B kd n)) D cy B kd n 7 b0 0 110 [(0, .ref (B + v0)), (1, .ref (B + v1)), (3, .ref (B + v3)), (4, .int v4), (5, .int v5)] [] M (fX8_solveFor_l110_s N v0 v1 v3 v4 M k110 v5) := by
  unfold fX8_solveFor_l110_s
  refine z_iload C 4 dX8_solveFor_110 rfl ?_
  refine z_iload C 3 dX8_solveFor_112 rfl ?_
  refine z_icmp_ge C 147 dX8_solveFor_114 rfl (fun _ => ?_) (fun _ => ?_)
  · refine z_aload_n C 0 0 dX8_solveFor_147 rfl rfl ?_
    refine z_aload_n C 1 1 dX8_solveFor_148 rfl rfl ?_
    refine z_aload_n C 3 2 dX8_solveFor_149 rfl rfl ?_
    refine z_iload C 3 dX8_solveFor_150 rfl ?_
    refine z_callV_V (As := [.ref (B + v1), .ref (B + v3), .int v4]) (rest := []) C rfl (ctX8_settle (zG_of C) N v0 v1 v3 v4 h0 h1 h3 M) cw_RX8_58 rfl (okM_X8_settle) rfl cl8 h0 (okR_of rfl) (Nat.le_of_ble_eq_true rfl) dX8_solveFor_152 (fun qj1 _ => ?_)
    refine z_iconst C dX8_solveFor_155 rfl ?_
    exact z_zret C (v := true) hr (Nat.le_of_ble_eq_true rfl) dX8_solveFor_156 rfl
  · refine z_aload_n C 0 0 dX8_solveFor_117 rfl rfl ?_
    refine z_getR (k := 0) C cl8 h0 rfl gw_2_77 rfl dX8_solveFor_118 ?_
    have j2 : kd (v0 + 1) = 30 := zkd C h0 (k := 0) rfl
    refine z_iload C 4 dX8_solveFor_121 rfl ?_
    refine z_lald C j2 rfl (by decide) dX8_solveFor_123 (fun j3 => ?_)
    refine z_lconst (v := 0) C dX8_solveFor_124 rfl ?_
    refine z_lcmp_ne C 141 dX8_solveFor_125 dX8_solveFor_126 rfl (fun _ => ?_) (fun _ => ?_)
    · refine z_aload_n C 0 0 dX8_solveFor_129 rfl rfl ?_
      refine z_getR (k := 1) C cl8 h0 rfl gw_2_78 rfl dX8_solveFor_130 ?_
      have j4 : kd (v0 + 2) = 34 := zkd C h0 (k := 1) rfl
      refine z_iload C 4 dX8_solveFor_133 rfl ?_
      refine z_iald C j4 rfl (by decide) dX8_solveFor_135 (fun j5 => ?_)
      refine z_if_eq C 141 dX8_solveFor_136 rfl (fun _ => ?_) (fun _ => ?_)
      · exact z_jump (ls1 := [(0, .ref (B + v0)), (1, .ref (B + v1)), (3, .ref (B + v3)), (4, .int v4), (5, .int v5)]) (Nat.le_of_ble_eq_true rfl) [0, 1, 2, 3, 4] rfl (z_fX8_solveFor_b141 C ht hr N k110 v0 v1 v3 v4 v5 M h0 h1 h3 hk110)
      · refine z_iconst C dX8_solveFor_139 rfl ?_
        exact z_zret C (v := false) hr (Nat.le_of_ble_eq_true rfl) dX8_solveFor_140 rfl
    · exact z_jump (ls1 := [(0, .ref (B + v0)), (1, .ref (B + v1)), (3, .ref (B + v3)), (4, .int v4), (5, .int v5)]) (Nat.le_of_ble_eq_true rfl) [0, 1, 2, 3, 4] rfl (z_fX8_solveFor_b141 C ht hr N k110 v0 v1 v3 v4 v5 M h0 h1 h3 hk110)
theorem z_fX8_solveFor_l110_i {p : Program} {l : Launch} {e : Env} {s : State} {m : MethodId} {args : Array Value} {below : List Frame} {meth : Method} {c : Code} {D : va_G} {cy : Nat → ClassId} {B : Nat} {kd : Nat → Nat} {n : Nat} {sa sv : Nat → Nat} (C : zC p l s m args meth c D cy B kd n sa sv RX8 cX8_solveFor 7) (ht : ∀ x ∈ c.exceptionTable.toList, False) (hr : meth.sig.returnType = some (FieldType.boolean)) {b0 : Bool × Mem} (N : Nat) (v0 : Nat) (v1 : Nat) (v3 : Nat) (v4 : Int32) (M : Mem) (h0 : kd v0 = 8) (h1 : kd v1 = 5) (h3 : kd v3 = 9)  (fu : Nat) : ∀ (v5 : Int32), Z p l e (rmz 3 0) s m args below meth c (vx_MQ below (QcR D cy B kd n (cvB b0)) (XcR D cy B kd n (cvB b0)) args s 0 (6 * 0) (AA B kd n)) D cy B kd n 7 b0 0 110 [(0, .ref (B + v0)), (1, .ref (B + v1)), (3, .ref (B + v3)), (4, .int v4), (5, .int v5)] [] M (fX8_solveFor_l110 N v0 v1 v3 v4 M fu v5) := by
  induction fu with
  | zero => intro v5; exact z_none
  | succ fu ih => intro v5; exact z_fX8_solveFor_l110_s C ht hr N v0 v1 v3 v4 M (fX8_solveFor_l110 N v0 v1 v3 v4 M fu) v5 h0 h1 h3 (fun v5 => ih v5)
theorem z_fX8_solveFor_l110 {p : Program} {l : Launch} {e : Env} {s : State} {m : MethodId} {args : Array Value} {below : List Frame} {meth : Method} {c : Code} {D : va_G} {cy : Nat → ClassId} {B : Nat} {kd : Nat → Nat} {n : Nat} {sa sv : Nat → Nat} (C : zC p l s m args meth c D cy B kd n sa sv RX8 cX8_solveFor 7) (ht : ∀ x ∈ c.exceptionTable.toList, False) (hr : meth.sig.returnType = some (FieldType.boolean)) {b0 : Bool × Mem} (N : Nat) (v0 : Nat) (v1 : Nat) (v3 : Nat) (v4 : Int32) (M : Mem) (fu : Nat) (v5 : Int32) (h0 : kd v0 = 8) (h1 : kd v1 = 5) (h3 : kd v3 = 9)  : Z p l e (rmz 3 0) s m args below meth c (vx_MQ below (QcR D cy B kd n (cvB b0)) (XcR D cy B kd n (cvB b0)) args s 0 (6 * 0) (AA B kd n)) D cy B kd n 7 b0 0 110 [(0, .ref (B + v0)), (1, .ref (B + v1)), (3, .ref (B + v3)), (4, .int v4), (5, .int v5)] [] M (fX8_solveFor_l110 N v0 v1 v3 v4 M fu v5) := z_fX8_solveFor_l110_i C ht hr N v0 v1 v3 v4 M h0 h1 h3 fu v5
set_option maxHeartbeats 4000000 in
set_option maxRecDepth 100000 in
theorem z_fX8_solveFor_b107 {p : Program} {l : Launch} {e : Env} {s : State} {m : MethodId} {args : Array Value} {below : List Frame} {meth : Method} {c : Code} {D : va_G} {cy : Nat → ClassId} {B : Nat} {kd : Nat → Nat} {n : Nat} {sa sv : Nat → Nat} (C : zC p l s m args meth c D cy B kd n sa sv RX8 cX8_solveFor 7) (ht : ∀ x ∈ c.exceptionTable.toList, False) (hr : meth.sig.returnType = some (FieldType.boolean)) {b0 : Bool × Mem}  (N : Nat) (v0 : Nat) (v1 : Nat) (v3 : Nat) (v4 : Int32) (M : Mem) (h0 : kd v0 = 8) (h1 : kd v1 = 5) (h3 : kd v3 = 9)  : Z p l e (rmz 3 0) s m args below meth c (vx_MQ below (QcR D cy B kd n (cvB b0)) (XcR D cy B kd n (cvB b0)) args s 0 (6 * 0) (AA B kd n)) D cy B kd n 7 b0 0 107 [(0, .ref (B + v0)), (1, .ref (B + v1)), (3, .ref (B + v3)), (4, .int v4)] [] M (fX8_solveFor_b107 N v0 v1 v3 v4 M) := by
  unfold fX8_solveFor_b107
  refine z_iconst C dX8_solveFor_107 rfl ?_
  refine z_istore C 5 (ls1 := [(5, .int (0 : Int32)), (0, .ref (B + v0)), (1, .ref (B + v1)), (3, .ref (B + v3)), (4, .int v4)]) dX8_solveFor_108 (by decide) rfl ?_
  exact z_jump (ls1 := [(0, .ref (B + v0)), (1, .ref (B + v1)), (3, .ref (B + v3)), (4, .int v4), (5, .int (0 : Int32))]) (Nat.le_of_ble_eq_true rfl) [1, 2, 3, 4, 0] rfl (z_fX8_solveFor_l110 C ht hr N v0 v1 v3 v4 M N (0 : Int32) h0 h1 h3)
set_option maxHeartbeats 4000000 in
set_option maxRecDepth 100000 in
theorem z_fX8_solveFor_b101 {p : Program} {l : Launch} {e : Env} {s : State} {m : MethodId} {args : Array Value} {below : List Frame} {meth : Method} {c : Code} {D : va_G} {cy : Nat → ClassId} {B : Nat} {kd : Nat → Nat} {n : Nat} {sa sv : Nat → Nat} (C : zC p l s m args meth c D cy B kd n sa sv RX8 cX8_solveFor 7) (ht : ∀ x ∈ c.exceptionTable.toList, False) (hr : meth.sig.returnType = some (FieldType.boolean)) {b0 : Bool × Mem}  (N : Nat) (k50 : Int32 → Mem → Option (Bool × Mem)) (v0 : Nat) (v1 : Nat) (v3 : Nat) (v4 : Int32) (v5 : Int32) (M : Mem) (h0 : kd v0 = 8) (h1 : kd v1 = 5) (h3 : kd v3 = 9) (hk50 : ∀ (v5 : Int32) (M : Mem), Z p l e (rmz 3 0) s m args below meth c (vx_MQ below (QcR D cy B kd n (cvB b0)) (XcR D cy B kd n (cvB b0)) args s 0 (6 * 0) (AA B kd n)) D cy B kd n 7 b0 0 50 [(0, .ref (B + v0)), (1, .ref (B + v1)), (3, .ref (B + v3)), (4, .int v4), (5, .int v5)] [] M (k50 v5 M)) : Z p l e (rmz 3 0) s m args below meth c (vx_MQ below (QcR D cy B kd n (cvB b0)) (XcR D cy B kd n (cvB b0)) args s 0 (6 * 0) (AA B kd n)) D cy B kd n 7 b0 0 101 [(0, .ref (B + v0)), (1, .ref (B + v1)), (3, .ref (B + v3)), (4, .int v4), (5, .int v5)] [] M (fX8_solveFor_b101 N k50 v0 v1 v3 v4 v5 M) := by
  unfold fX8_solveFor_b101
  refine z_iinc C 5 4 (v := v5) (v1 := (v5 + (1 : Int32))) (ls1 := [(5, .int (v5 + (1 : Int32))), (0, .ref (B + v0)), (1, .ref (B + v1)), (3, .ref (B + v3)), (4, .int v4)]) dX8_solveFor_101 rfl rfl (by decide) rfl ?_
  refine z_goto C 50 dX8_solveFor_104 rfl ?_
  exact z_jump (ls1 := [(0, .ref (B + v0)), (1, .ref (B + v1)), (3, .ref (B + v3)), (4, .int v4), (5, .int (v5 + (1 : Int32)))]) (Nat.le_of_ble_eq_true rfl) [1, 2, 3, 4, 0] rfl (hk50 (v5 + (1 : Int32)) M)
set_option maxHeartbeats 4000000 in
set_option maxRecDepth 100000 in
theorem z_fX8_solveFor_l50_s {p : Program} {l : Launch} {e : Env} {s : State} {m : MethodId} {args : Array Value} {below : List Frame} {meth : Method} {c : Code} {D : va_G} {cy : Nat → ClassId} {B : Nat} {kd : Nat → Nat} {n : Nat} {sa sv : Nat → Nat} (C : zC p l s m args meth c D cy B kd n sa sv RX8 cX8_solveFor 7) (ht : ∀ x ∈ c.exceptionTable.toList, False) (hr : meth.sig.returnType = some (FieldType.boolean)) {b0 : Bool × Mem} (N : Nat) (v0 : Nat) (v1 : Nat) (v3 : Nat) (v4 : Int32) (k50 : Int32 → Mem → Option (Bool × Mem)) (v5 : Int32) (M : Mem) (h0 : kd v0 = 8) (h1 : kd v1 = 5) (h3 : kd v3 = 9)  (hk50 : ∀ (v5 : Int32) (M : Mem), Z p l e (rmz 3 0) s m args below meth c (vx_MQ below (QcR D cy B kd n (cvB b0)) (XcR D cy B kd n (cvB b0)) args s 0 (6 * 0) (AA B kd n)) D cy B kd n 7 b0 0 50 [(0, .ref (B + v0)), (1, .ref (B + v1)), (3, .ref (B + v3)), (4, .int v4), (5, .int v5)] [] M (k50 v5 M)) : Z p l e (rmz 3 0) s m args below meth c (vx_MQ below (QcR D cy B kd n (cvB b0)) (XcR D cy B kd n (cvB b0)) args s 0 (6 * 0) (AA B kd n)) D cy B kd n 7 b0 0 50 [(0, .ref (B + v0)), (1, .ref (B + v1)), (3, .ref (B + v3)), (4, .int v4), (5, .int v5)] [] M (fX8_solveFor_l50_s N v0 v1 v3 v4 k50 v5 M) := by
  unfold fX8_solveFor_l50_s
  refine z_iload C 4 dX8_solveFor_50 rfl ?_
  refine z_aload_n C 1 1 dX8_solveFor_52 rfl rfl ?_
  refine z_getI (k := 2) C cl5 h1 rfl gw_1_130 rfl dX8_solveFor_53 ?_
  refine z_icmp_ge C 107 dX8_solveFor_56 rfl (fun _ => ?_) (fun _ => ?_)
  · exact z_jump (ls1 := [(0, .ref (B + v0)), (1, .ref (B + v1)), (3, .ref (B + v3)), (4, .int v4)]) (Nat.le_of_ble_eq_true rfl) [0, 1, 2, 3] rfl (z_fX8_solveFor_b107 C ht hr N v0 v1 v3 v4 M h0 h1 h3)
  · refine z_iload C 4 dX8_solveFor_59 rfl ?_
    refine z_bipush (v := 64) C dX8_solveFor_61 rfl ?_
    refine z_icmp_ge C 107 dX8_solveFor_63 rfl (fun _ => ?_) (fun _ => ?_)
    · exact z_jump (ls1 := [(0, .ref (B + v0)), (1, .ref (B + v1)), (3, .ref (B + v3)), (4, .int v4)]) (Nat.le_of_ble_eq_true rfl) [0, 1, 2, 3] rfl (z_fX8_solveFor_b107 C ht hr N v0 v1 v3 v4 M h0 h1 h3)
    · refine z_aload_n C 0 0 dX8_solveFor_66 rfl rfl ?_
      refine z_iload C 4 dX8_solveFor_67 rfl ?_
      refine z_iload C 3 dX8_solveFor_69 rfl ?_
      refine z_callV_I (As := [.int v5, .int v4]) (rest := []) C rfl (ctX8_chooseFor (zG_of C) N v0 v5 v4 h0 M) cw_RX8_51 rfl (okM_X8_chooseFor) rfl cl8 h0 (okR_of rfl) (Nat.le_of_ble_eq_true rfl) dX8_solveFor_71 (fun qj1 _ => ?_)
      refine z_istore C 6 (ls1 := [(6, .int qj1.1), (0, .ref (B + v0)), (1, .ref (B + v1)), (3, .ref (B + v3)), (4, .int v4), (5, .int v5)]) dX8_solveFor_74 (by decide) rfl ?_
      refine z_aload_n C 0 1 dX8_solveFor_76 rfl rfl ?_
      refine z_getR (k := 2) C cl8 h0 rfl gw_2_79 rfl dX8_solveFor_77 ?_
      have j2 : kd (v0 + 3) = 33 := zkd C h0 (k := 2) rfl
      refine z_iload C 5 dX8_solveFor_80 rfl ?_
      refine z_iload C 0 dX8_solveFor_82 rfl ?_
      refine z_iast C j2 rfl (by decide) dX8_solveFor_84 (fun _ => ?_)
      refine z_iload C 0 dX8_solveFor_85 rfl ?_
      refine z_iconst C dX8_solveFor_87 rfl ?_
      refine z_icmp_eq C 101 dX8_solveFor_88 rfl (fun _ => ?_) (fun _ => ?_)
      · exact z_jump (ls1 := [(0, .ref (B + v0)), (1, .ref (B + v1)), (3, .ref (B + v3)), (4, .int v4), (5, .int v5)]) (Nat.le_of_ble_eq_true rfl) [1, 2, 3, 4, 5] rfl (z_fX8_solveFor_b101 C ht hr N k50 v0 v1 v3 v4 v5 (wI qj1.2 (v0 + 3) v5.toNatClampNeg qj1.1) h0 h1 h3 hk50)
      · refine z_aload_n C 0 1 dX8_solveFor_91 rfl rfl ?_
        refine z_iload C 0 dX8_solveFor_92 rfl ?_
        refine z_iload C 5 dX8_solveFor_94 rfl ?_
        refine z_iload C 4 dX8_solveFor_96 rfl ?_
        refine z_callV_V (As := [.int qj1.1, .int v5, .int v4]) (rest := []) C rfl (ctX8_joinTo (zG_of C) N v0 qj1.1 v5 v4 h0 (wI qj1.2 (v0 + 3) v5.toNatClampNeg qj1.1)) cw_RX8_54 rfl (okM_X8_joinTo) rfl cl8 h0 (okR_of rfl) (Nat.le_of_ble_eq_true rfl) dX8_solveFor_98 (fun qj3 _ => ?_)
        exact z_jump (ls1 := [(0, .ref (B + v0)), (1, .ref (B + v1)), (3, .ref (B + v3)), (4, .int v4), (5, .int v5)]) (Nat.le_of_ble_eq_true rfl) [1, 2, 3, 4, 5] rfl (z_fX8_solveFor_b101 C ht hr N k50 v0 v1 v3 v4 v5 qj3 h0 h1 h3 hk50)
theorem z_fX8_solveFor_l50_i {p : Program} {l : Launch} {e : Env} {s : State} {m : MethodId} {args : Array Value} {below : List Frame} {meth : Method} {c : Code} {D : va_G} {cy : Nat → ClassId} {B : Nat} {kd : Nat → Nat} {n : Nat} {sa sv : Nat → Nat} (C : zC p l s m args meth c D cy B kd n sa sv RX8 cX8_solveFor 7) (ht : ∀ x ∈ c.exceptionTable.toList, False) (hr : meth.sig.returnType = some (FieldType.boolean)) {b0 : Bool × Mem} (N : Nat) (v0 : Nat) (v1 : Nat) (v3 : Nat) (v4 : Int32) (h0 : kd v0 = 8) (h1 : kd v1 = 5) (h3 : kd v3 = 9)  (fu : Nat) : ∀ (v5 : Int32) (M : Mem), Z p l e (rmz 3 0) s m args below meth c (vx_MQ below (QcR D cy B kd n (cvB b0)) (XcR D cy B kd n (cvB b0)) args s 0 (6 * 0) (AA B kd n)) D cy B kd n 7 b0 0 50 [(0, .ref (B + v0)), (1, .ref (B + v1)), (3, .ref (B + v3)), (4, .int v4), (5, .int v5)] [] M (fX8_solveFor_l50 N v0 v1 v3 v4 fu v5 M) := by
  induction fu with
  | zero => intro v5 M; exact z_none
  | succ fu ih => intro v5 M; exact z_fX8_solveFor_l50_s C ht hr N v0 v1 v3 v4 (fX8_solveFor_l50 N v0 v1 v3 v4 fu) v5 M h0 h1 h3 (fun v5 M => ih v5 M)
theorem z_fX8_solveFor_l50 {p : Program} {l : Launch} {e : Env} {s : State} {m : MethodId} {args : Array Value} {below : List Frame} {meth : Method} {c : Code} {D : va_G} {cy : Nat → ClassId} {B : Nat} {kd : Nat → Nat} {n : Nat} {sa sv : Nat → Nat} (C : zC p l s m args meth c D cy B kd n sa sv RX8 cX8_solveFor 7) (ht : ∀ x ∈ c.exceptionTable.toList, False) (hr : meth.sig.returnType = some (FieldType.boolean)) {b0 : Bool × Mem} (N : Nat) (v0 : Nat) (v1 : Nat) (v3 : Nat) (v4 : Int32) (fu : Nat) (v5 : Int32) (M : Mem) (h0 : kd v0 = 8) (h1 : kd v1 = 5) (h3 : kd v3 = 9)  : Z p l e (rmz 3 0) s m args below meth c (vx_MQ below (QcR D cy B kd n (cvB b0)) (XcR D cy B kd n (cvB b0)) args s 0 (6 * 0) (AA B kd n)) D cy B kd n 7 b0 0 50 [(0, .ref (B + v0)), (1, .ref (B + v1)), (3, .ref (B + v3)), (4, .int v4), (5, .int v5)] [] M (fX8_solveFor_l50 N v0 v1 v3 v4 fu v5 M) := z_fX8_solveFor_l50_i C ht hr N v0 v1 v3 v4 h0 h1 h3 fu v5 M
set_option maxHeartbeats 4000000 in
set_option maxRecDepth 100000 in
theorem z_fX8_solveFor_l19_s {p : Program} {l : Launch} {e : Env} {s : State} {m : MethodId} {args : Array Value} {below : List Frame} {meth : Method} {c : Code} {D : va_G} {cy : Nat → ClassId} {B : Nat} {kd : Nat → Nat} {n : Nat} {sa sv : Nat → Nat} (C : zC p l s m args meth c D cy B kd n sa sv RX8 cX8_solveFor 7) (ht : ∀ x ∈ c.exceptionTable.toList, False) (hr : meth.sig.returnType = some (FieldType.boolean)) {b0 : Bool × Mem} (N : Nat) (v0 : Nat) (v1 : Nat) (v2 : Nat) (v3 : Nat) (v4 : Int32) (k19 : Int32 → Mem → Option (Bool × Mem)) (v5 : Int32) (M : Mem) (h0 : kd v0 = 8) (h1 : kd v1 = 5) (h2 : kd v2 = 6) (h3 : kd v3 = 9)  (hk19 : ∀ (v5 : Int32) (M : Mem), Z p l e (rmz 3 0) s m args below meth c (vx_MQ below (QcR D cy B kd n (cvB b0)) (XcR D cy B kd n (cvB b0)) args s 0 (6 * 0) (AA B kd n)) D cy B kd n 7 b0 0 19 [(0, .ref (B + v0)), (1, .ref (B + v1)), (2, .ref (B + v2)), (3, .ref (B + v3)), (4, .int v4), (5, .int v5)] [] M (k19 v5 M)) : Z p l e (rmz 3 0) s m args below meth c (vx_MQ below (QcR D cy B kd n (cvB b0)) (XcR D cy B kd n (cvB b0)) args s 0 (6 * 0) (AA B kd n)) D cy B kd n 7 b0 0 19 [(0, .ref (B + v0)), (1, .ref (B + v1)), (2, .ref (B + v2)), (3, .ref (B + v3)), (4, .int v4), (5, .int v5)] [] M (fX8_solveFor_l19_s N v0 v1 v2 v3 v4 k19 v5 M) := by
  unfold fX8_solveFor_l19_s
  refine z_iload C 5 dX8_solveFor_19 rfl ?_
  refine z_iload C 4 dX8_solveFor_21 rfl ?_
  refine z_icmp_ge C 47 dX8_solveFor_23 rfl (fun _ => ?_) (fun _ => ?_)
  · refine z_iconst C dX8_solveFor_47 rfl ?_
    refine z_istore C 5 (ls1 := [(5, .int (0 : Int32)), (0, .ref (B + v0)), (1, .ref (B + v1)), (2, .ref (B + v2)), (3, .ref (B + v3)), (4, .int v4)]) dX8_solveFor_48 (by decide) rfl ?_
    exact z_jump (ls1 := [(0, .ref (B + v0)), (1, .ref (B + v1)), (3, .ref (B + v3)), (4, .int v4), (5, .int (0 : Int32))]) (Nat.le_of_ble_eq_true rfl) [1, 2, 4, 5, 0] rfl (z_fX8_solveFor_l50 C ht hr N v0 v1 v3 v4 N (0 : Int32) M h0 h1 h3)
  · refine z_aload_n C 0 0 dX8_solveFor_26 rfl rfl ?_
    refine z_iload C 5 dX8_solveFor_27 rfl ?_
    refine z_aload_n C 1 1 dX8_solveFor_29 rfl rfl ?_
    refine z_aload_n C 2 2 dX8_solveFor_30 rfl rfl ?_
    refine z_aload_n C 3 3 dX8_solveFor_31 rfl rfl ?_
    refine z_iload C 5 dX8_solveFor_32 rfl ?_
    refine z_callV_pJ (As := [.int v5]) (rest := [.ref (B + v2), .ref (B + v1), .int v5, .ref (B + v0)]) C rfl (ctX9_numberAt (zG_of C) v3 v5 h3 M) cw_RX8_38 rfl (okM_X9_numberAt) rfl cl9 h3 (okR_of rfl) (Nat.le_of_ble_eq_true rfl) dX8_solveFor_34 (fun qj1 _ => ?_)
    refine z_l2i C dX8_solveFor_37 ?_
    refine z_callV_V (As := [.int v5, .ref (B + v1), .ref (B + v2), .int qj1.toInt32]) (rest := []) C rfl (ctX8_state (zG_of C) N v0 v5 v1 v2 qj1.toInt32 h0 h1 h2 M) cw_RX8_42 rfl (okM_X8_state) rfl cl8 h0 (okR_of rfl) (Nat.le_of_ble_eq_true rfl) dX8_solveFor_38 (fun qj2 _ => ?_)
    refine z_iinc C 5 5 (v := v5) (v1 := (v5 + (1 : Int32))) (ls1 := [(5, .int (v5 + (1 : Int32))), (0, .ref (B + v0)), (1, .ref (B + v1)), (2, .ref (B + v2)), (3, .ref (B + v3)), (4, .int v4)]) dX8_solveFor_41 rfl rfl (by decide) rfl ?_
    refine z_goto C 19 dX8_solveFor_44 rfl ?_
    exact z_jump (ls1 := [(0, .ref (B + v0)), (1, .ref (B + v1)), (2, .ref (B + v2)), (3, .ref (B + v3)), (4, .int v4), (5, .int (v5 + (1 : Int32)))]) (Nat.le_of_ble_eq_true rfl) [1, 2, 3, 4, 5, 0] rfl (hk19 (v5 + (1 : Int32)) qj2)
theorem z_fX8_solveFor_l19_i {p : Program} {l : Launch} {e : Env} {s : State} {m : MethodId} {args : Array Value} {below : List Frame} {meth : Method} {c : Code} {D : va_G} {cy : Nat → ClassId} {B : Nat} {kd : Nat → Nat} {n : Nat} {sa sv : Nat → Nat} (C : zC p l s m args meth c D cy B kd n sa sv RX8 cX8_solveFor 7) (ht : ∀ x ∈ c.exceptionTable.toList, False) (hr : meth.sig.returnType = some (FieldType.boolean)) {b0 : Bool × Mem} (N : Nat) (v0 : Nat) (v1 : Nat) (v2 : Nat) (v3 : Nat) (v4 : Int32) (h0 : kd v0 = 8) (h1 : kd v1 = 5) (h2 : kd v2 = 6) (h3 : kd v3 = 9)  (fu : Nat) : ∀ (v5 : Int32) (M : Mem), Z p l e (rmz 3 0) s m args below meth c (vx_MQ below (QcR D cy B kd n (cvB b0)) (XcR D cy B kd n (cvB b0)) args s 0 (6 * 0) (AA B kd n)) D cy B kd n 7 b0 0 19 [(0, .ref (B + v0)), (1, .ref (B + v1)), (2, .ref (B + v2)), (3, .ref (B + v3)), (4, .int v4), (5, .int v5)] [] M (fX8_solveFor_l19 N v0 v1 v2 v3 v4 fu v5 M) := by
  induction fu with
  | zero => intro v5 M; exact z_none
  | succ fu ih => intro v5 M; exact z_fX8_solveFor_l19_s C ht hr N v0 v1 v2 v3 v4 (fX8_solveFor_l19 N v0 v1 v2 v3 v4 fu) v5 M h0 h1 h2 h3 (fun v5 M => ih v5 M)
theorem z_fX8_solveFor_l19 {p : Program} {l : Launch} {e : Env} {s : State} {m : MethodId} {args : Array Value} {below : List Frame} {meth : Method} {c : Code} {D : va_G} {cy : Nat → ClassId} {B : Nat} {kd : Nat → Nat} {n : Nat} {sa sv : Nat → Nat} (C : zC p l s m args meth c D cy B kd n sa sv RX8 cX8_solveFor 7) (ht : ∀ x ∈ c.exceptionTable.toList, False) (hr : meth.sig.returnType = some (FieldType.boolean)) {b0 : Bool × Mem} (N : Nat) (v0 : Nat) (v1 : Nat) (v2 : Nat) (v3 : Nat) (v4 : Int32) (fu : Nat) (v5 : Int32) (M : Mem) (h0 : kd v0 = 8) (h1 : kd v1 = 5) (h2 : kd v2 = 6) (h3 : kd v3 = 9)  : Z p l e (rmz 3 0) s m args below meth c (vx_MQ below (QcR D cy B kd n (cvB b0)) (XcR D cy B kd n (cvB b0)) args s 0 (6 * 0) (AA B kd n)) D cy B kd n 7 b0 0 19 [(0, .ref (B + v0)), (1, .ref (B + v1)), (2, .ref (B + v2)), (3, .ref (B + v3)), (4, .int v4), (5, .int v5)] [] M (fX8_solveFor_l19 N v0 v1 v2 v3 v4 fu v5 M) := z_fX8_solveFor_l19_i C ht hr N v0 v1 v2 v3 v4 h0 h1 h2 h3 fu v5 M
set_option maxHeartbeats 4000000 in
set_option maxRecDepth 100000 in
theorem ctX8_solveFor {l : Launch} {D : va_G} {cy : Nat → ClassId} {B : Nat} {kd : Nat → Nat} {n : Nat} {sa sv : Nat → Nat} (G : zG l kd n) (N : Nat) (v0 : Nat) (v1 : Nat) (v2 : Nat) (v3 : Nat) (h0 : kd v0 = 8) (h1 : kd v1 = 5) (h2 : kd v2 = 6) (h3 : kd v3 = 9) (M : Mem) : CT l D cy B kd n sa sv 3 0 yX8_solveFor cX8_solveFor 7 (some (FieldType.boolean)) cvB [.ref (B + v0), .ref (B + v1), .ref (B + v2), .ref (B + v3)] M (fX8_solveFor N v0 v1 v2 v3 M) := by
  refine ct_of (by decide) G.1 G.2 (Nat.le_of_ble_eq_true rfl) (ls := [(0, .ref (B + v0)), (1, .ref (B + v1)), (2, .ref (B + v2)), (3, .ref (B + v3))]) rfl ?_
  intro p e s m args below meth c b0 C ht hr
  unfold fX8_solveFor
  refine z_aload_n C 3 3 dX8_solveFor_0 rfl rfl ?_
  refine z_getI (k := 1) C cl9 h3 rfl gw_1_208 rfl dX8_solveFor_1 ?_
  refine z_bipush (v := 40) C dX8_solveFor_4 rfl ?_
  refine z_min C cw_RX8_28 ⟨Nat.le_of_ble_eq_true rfl, Nat.le_of_ble_eq_true rfl, Nat.le_of_ble_eq_true rfl, Nat.le_of_ble_eq_true rfl⟩ (Nat.le_of_ble_eq_true rfl) dX8_solveFor_6 ?_
  refine z_istore C 4 (ls1 := [(4, .int (minI (rI M v3 1) (40 : Int32))), (0, .ref (B + v0)), (1, .ref (B + v1)), (2, .ref (B + v2)), (3, .ref (B + v3))]) dX8_solveFor_9 (by decide) rfl ?_
  refine z_aload_n C 0 1 dX8_solveFor_11 rfl rfl ?_
  refine z_lconst (v := 0) C dX8_solveFor_12 rfl ?_
  refine z_putJ (k := 3) C cl8 h0 rfl gw_2_80 rfl rfl rfl dX8_solveFor_13 ?_
  refine z_iconst C dX8_solveFor_16 rfl ?_
  refine z_istore C 5 (ls1 := [(5, .int (0 : Int32)), (4, .int (minI (rI M v3 1) (40 : Int32))), (0, .ref (B + v0)), (1, .ref (B + v1)), (2, .ref (B + v2)), (3, .ref (B + v3))]) dX8_solveFor_17 (by decide) rfl ?_
  exact z_jump (ls1 := [(0, .ref (B + v0)), (1, .ref (B + v1)), (2, .ref (B + v2)), (3, .ref (B + v3)), (4, .int (minI (rI M v3 1) (40 : Int32))), (5, .int (0 : Int32))]) (Nat.le_of_ble_eq_true rfl) [2, 3, 4, 5, 1, 0] rfl (z_fX8_solveFor_l19 C ht hr N v0 v1 v2 v3 (minI (rI M v3 1) (40 : Int32)) N (0 : Int32) (wJ M v0 3 (0 : Int64)) h0 h1 h2 h3)
