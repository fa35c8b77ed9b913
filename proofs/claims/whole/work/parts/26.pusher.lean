/-! X3_reach -/
def fX3_reach_b30  (M : Mem) : Option (Bool × Mem) :=
  some (false, M)
def fX3_reach (v0 : Nat) (v1 : Int32) (v2 : Int32) (v3 : Int32) (M : Mem) : Option (Bool × Mem) :=
  if v1 < 0 then fX3_reach_b30 M else if (16 : Int32) ≤ v1 then fX3_reach_b30 M else if (16 : Int32) ≤ (rI M v0 4) then fX3_reach_b30 M else if ((shrI (rI M v0 5) v1) &&& (1 : Int32)) = 0 then if inB (rI (wI M v0 5 ((rI M v0 5) ||| (shlI (1 : Int32) v1))) v0 4) 16 = true then if inB v1 16 = true then if inB v1 16 = true then some (true, wI (wI (wI (wI (wI M v0 5 ((rI M v0 5) ||| (shlI (1 : Int32) v1))) (v0 + 1) ((rI (wI M v0 5 ((rI M v0 5) ||| (shlI (1 : Int32) v1))) v0 4).toNatClampNeg) v1) v0 4 ((rI (wI (wI M v0 5 ((rI M v0 5) ||| (shlI (1 : Int32) v1))) (v0 + 1) ((rI (wI M v0 5 ((rI M v0 5) ||| (shlI (1 : Int32) v1))) v0 4).toNatClampNeg) v1) v0 4) + (1 : Int32))) (v0 + 2) v1.toNatClampNeg v2) (v0 + 3) v1.toNatClampNeg v3) else none else none else none else fX3_reach_b30 M
/-! X3_otherNest -/
def fX3_otherNest_b36 (N : Nat) (M : Mem) : Option (Int32 × Mem) :=
  some ((-1 : Int32), M)
def fX3_otherNest (N : Nat) (v0 : Nat) (v1 : Nat) (v2 : Int32) (v3 : Int32) (M : Mem) : Option (Int32 × Mem) :=
  (fX6_placeOf N v1 (0 : Int32) v3 (rI M v0 2) M).bind fun qj1 => (fX6_placeOf N v1 (1 : Int32) v3 (rI qj1.2 v0 2) qj1.2).bind fun qj2 => if v3 = (-1 : Int32) then fX3_otherNest_b36 N qj2.2 else if qj1.1 = qj2.1 then fX3_otherNest_b36 N qj2.2 else if v2 = qj1.1 then some (qj2.1, qj2.2) else some (qj1.1, qj2.2)
/-! X3_search -/
def fX3_search_b131 (N : Nat) (M : Mem) : Option (Int32 × Mem) :=
  some ((-1 : Int32), M)
def fX3_search_b119 (N : Nat) (k30 : Int32 → Mem → Option (Int32 × Mem)) (k52 : Int32 → Mem → Option (Int32 × Mem)) (v0 : Nat) (v1 : Nat) (v2 : Nat) (v5 : Int32) (v6 : Int32) (M : Mem) : Option (Int32 × Mem) :=
  k52 (v6 + (1 : Int32)) M
def fX3_search_l52_s (N : Nat) (k30 : Int32 → Mem → Option (Int32 × Mem)) (v0 : Nat) (v1 : Nat) (v2 : Nat) (v5 : Int32) (k52 : Int32 → Mem → Option (Int32 × Mem)) (v6 : Int32) (M : Mem) : Option (Int32 × Mem) :=
  if (rI M v1 4) ≤ v6 then k30 (v5 + (1 : Int32)) M else if inB v5 16 = true then if inB v5 16 = true then (fX5_guestAt v1 (rI M (v0 + 1) v5.toNatClampNeg) v6 M).bind fun qj5 => (fX3_otherNest N v1 v2 (rI M (v0 + 1) v5.toNatClampNeg) qj5 M).bind fun qj6 => if inB v5 16 = true then (fX3_reach v0 qj6.1 (rI qj6.2 (v0 + 1) v5.toNatClampNeg) v6 qj6.2).bind fun qj9 => if qj9.1 = true then (fX5_freeSlot N v1 qj6.1 qj9.2).bind fun qj10 => if qj10 = (-1 : Int32) then fX3_search_b119 N k30 k52 v0 v1 v2 v5 v6 qj9.2 else some (qj6.1, qj9.2) else fX3_search_b119 N k30 k52 v0 v1 v2 v5 v6 qj9.2 else none else none else none
def fX3_search_l52 (N : Nat) (k30 : Int32 → Mem → Option (Int32 × Mem)) (v0 : Nat) (v1 : Nat) (v2 : Nat) (v5 : Int32) : Nat → Int32 → Mem → Option (Int32 × Mem)
  | 0, _, _ => none
  | n + 1, v6, M => fX3_search_l52_s N k30 v0 v1 v2 v5 (fX3_search_l52 N k30 v0 v1 v2 v5 n) v6 M
def fX3_search_l30_s (N : Nat) (v0 : Nat) (v1 : Nat) (v2 : Nat) (k30 : Int32 → Mem → Option (Int32 × Mem)) (v5 : Int32) (M : Mem) : Option (Int32 × Mem) :=
  if (rI M v0 4) ≤ v5 then fX3_search_b131 N M else if (16 : Int32) ≤ v5 then fX3_search_b131 N M else fX3_search_l52 N k30 v0 v1 v2 v5 N (0 : Int32) M
def fX3_search_l30 (N : Nat) (v0 : Nat) (v1 : Nat) (v2 : Nat) : Nat → Int32 → Mem → Option (Int32 × Mem)
  | 0, _, _ => none
  | n + 1, v5, M => fX3_search_l30_s N v0 v1 v2 (fX3_search_l30 N v0 v1 v2 n) v5 M
def fX3_search (N : Nat) (v0 : Nat) (v1 : Nat) (v2 : Nat) (v3 : Int32) (v4 : Int32) (M : Mem) : Option (Int32 × Mem) :=
  (fX3_reach v0 v3 (-1 : Int32) (-1 : Int32) (wI (wI M v0 4 (0 : Int32)) v0 5 (0 : Int32))).bind fun qj1 => (fX3_reach v0 v4 (-1 : Int32) (-1 : Int32) qj1.2).bind fun qj2 => fX3_search_l30 N v0 v1 v2 N (0 : Int32) qj2.2
/-! X3_pushAlong -/
def fX3_pushAlong_b85 (N : Nat) (v1 : Nat) (v3 : Int32) (v4 : Int32) (v5 : Int32) (v6 : Int32) (M : Mem) : Option (Int32 × Mem) :=
  (fX5_setGuest v1 v4 v5 v3 M).bind fun qj1 => some (v6, qj1)
def fX3_pushAlong_l16_s (N : Nat) (v0 : Nat) (v1 : Nat) (v3 : Int32) (k16 : Int32 → Int32 → Int32 → Int32 → Mem → Option (Int32 × Mem)) (v4 : Int32) (v5 : Int32) (v6 : Int32) (v7 : Int32) (M : Mem) : Option (Int32 × Mem) :=
  if (16 : Int32) ≤ v7 then fX3_pushAlong_b85 N v1 v3 v4 v5 v6 M else if inB v4 16 = true then if (rI M (v0 + 2) v4.toNatClampNeg) = (-1 : Int32) then fX3_pushAlong_b85 N v1 v3 v4 v5 v6 M else if inB v4 16 = true then if inB v4 16 = true then (fX5_guestAt v1 (rI M (v0 + 2) v4.toNatClampNeg) (rI M (v0 + 3) v4.toNatClampNeg) M).bind fun qj7 => (fX5_setGuest v1 v4 v5 qj7 M).bind fun qj8 => k16 (rI M (v0 + 2) v4.toNatClampNeg) (rI M (v0 + 3) v4.toNatClampNeg) (v6 + (1 : Int32)) (v7 + (1 : Int32)) qj8 else none else none else none
def fX3_pushAlong_l16 (N : Nat) (v0 : Nat) (v1 : Nat) (v3 : Int32) : Nat → Int32 → Int32 → Int32 → Int32 → Mem → Option (Int32 × Mem)
  | 0, _, _, _, _, _ => none
  | n + 1, v4, v5, v6, v7, M => fX3_pushAlong_l16_s N v0 v1 v3 (fX3_pushAlong_l16 N v0 v1 v3 n) v4 v5 v6 v7 M
def fX3_pushAlong (N : Nat) (v0 : Nat) (v1 : Nat) (v2 : Int32) (v3 : Int32) (M : Mem) : Option (Int32 × Mem) :=
  (fX5_freeSlot N v1 v2 M).bind fun qj1 => fX3_pushAlong_l16 N v0 v1 v3 N v2 qj1 (0 : Int32) (0 : Int32) M
/-! X3_settle -/
def fX3_settle_b41 (N : Nat) (v0 : Nat) (v1 : Nat) (v2 : Nat) (v3 : Int32) (v4 : Int32) (v5 : Int32) (s0 : Int32) (M : Mem) : Option (Bool × Mem) :=
  (fX5_freeSlot N v1 s0 M).bind fun qj1 => if qj1 = (-1 : Int32) then (fX3_search N v0 v1 v2 v4 v5 M).bind fun qj2 => if qj2.1 = (-1 : Int32) then some (false, qj2.2) else (fX3_pushAlong N v0 v1 qj2.1 v3 qj2.2).bind fun qj3 => some (true, wI qj3.2 v1 6 qj3.1) else (fX5_setGuest v1 s0 qj1 v3 M).bind fun qj4 => some (true, wI qj4 v1 6 (0 : Int32))
def fX3_settle (N : Nat) (v0 : Nat) (v1 : Nat) (v2 : Nat) (v3 : Int32) (M : Mem) : Option (Bool × Mem) :=
  (fX6_placeOf N v2 (0 : Int32) v3 (rI M v1 2) M).bind fun qj1 => (fX6_placeOf N v2 (1 : Int32) v3 (rI qj1.2 v1 2) qj1.2).bind fun qj2 => (fX5_freeSlot N v1 qj1.1 qj2.2).bind fun qj3 => if qj3 = (-1 : Int32) then fX3_settle_b41 N v0 v1 v2 v3 qj1.1 qj2.1 qj2.1 qj2.2 else fX3_settle_b41 N v0 v1 v2 v3 qj1.1 qj2.1 qj1.1 qj2.2
/-! X3_enlarge -/
def fX3_enlarge_b134 (N : Nat) (k54 : Int32 → Mem → Option (Bool × Mem)) (v0 : Nat) (v1 : Nat) (v2 : Nat) (v3 : Int32) (v4 : Int32) (M : Mem) : Option (Bool × Mem) :=
  k54 (v4 + (1 : Int32)) M
def fX3_enlarge_l103_s (N : Nat) (v0 : Nat) (v1 : Nat) (k103 : Int32 → Mem → Option (Bool × Mem)) (v5 : Int32) (M : Mem) : Option (Bool × Mem) :=
  if (64 : Int32) ≤ v5 then some (false, M) else if inB v5 64 = true then (fX5_setCell v1 v5 (rI M (v0 + 4) v5.toNatClampNeg) M).bind fun qj4 => k103 (v5 + (1 : Int32)) qj4 else none
def fX3_enlarge_l103 (N : Nat) (v0 : Nat) (v1 : Nat) : Nat → Int32 → Mem → Option (Bool × Mem)
  | 0, _, _ => none
  | n + 1, v5, M => fX3_enlarge_l103_s N v0 v1 (fX3_enlarge_l103 N v0 v1 n) v5 M
def fX3_enlarge_l54_s (N : Nat) (v0 : Nat) (v1 : Nat) (v2 : Nat) (v3 : Int32) (k54 : Int32 → Mem → Option (Bool × Mem)) (v4 : Int32) (M : Mem) : Option (Bool × Mem) :=
  if (256 : Int32) ≤ v4 then some (true, M) else (fX2_has (v1 + 1) v4 M).bind fun qj2 => if qj2 = true then (fX3_settle N v0 v1 v2 v4 M).bind fun qj3 => if qj3.1 = true then fX3_enlarge_b134 N k54 v0 v1 v2 v3 v4 qj3.2 else fX3_enlarge_l103 N v0 v1 N (0 : Int32) (wI (wI qj3.2 v1 2 ((rI qj3.2 v1 2) / (2 : Int32))) v1 6 v3) else fX3_enlarge_b134 N k54 v0 v1 v2 v3 v4 M
def fX3_enlarge_l54 (N : Nat) (v0 : Nat) (v1 : Nat) (v2 : Nat) (v3 : Int32) : Nat → Int32 → Mem → Option (Bool × Mem)
  | 0, _, _ => none
  | n + 1, v4, M => fX3_enlarge_l54_s N v0 v1 v2 v3 (fX3_enlarge_l54 N v0 v1 v2 v3 n) v4 M
def fX3_enlarge_l8_s (N : Nat) (v0 : Nat) (v1 : Nat) (v2 : Nat) (v3 : Int32) (k8 : Int32 → Mem → Option (Bool × Mem)) (v4 : Int32) (M : Mem) : Option (Bool × Mem) :=
  if (64 : Int32) ≤ v4 then (fX5_clearCells N v1 M).bind fun qj2 => fX3_enlarge_l54 N v0 v1 v2 v3 N (0 : Int32) (wI qj2 v1 2 ((rI qj2 v1 2) * (2 : Int32))) else (fX5_cellAt v1 v4 M).bind fun qj4 => if inB v4 64 = true then k8 (v4 + (1 : Int32)) (wI M (v0 + 4) v4.toNatClampNeg qj4) else none
def fX3_enlarge_l8 (N : Nat) (v0 : Nat) (v1 : Nat) (v2 : Nat) (v3 : Int32) : Nat → Int32 → Mem → Option (Bool × Mem)
  | 0, _, _ => none
  | n + 1, v4, M => fX3_enlarge_l8_s N v0 v1 v2 v3 (fX3_enlarge_l8 N v0 v1 v2 v3 n) v4 M
def fX3_enlarge (N : Nat) (v0 : Nat) (v1 : Nat) (v2 : Nat) (M : Mem) : Option (Bool × Mem) :=
  fX3_enlarge_l8 N v0 v1 v2 (rI M v1 6) N (0 : Int32) M
set_option maxHeartbeats 4000000 in
set_option maxRecDepth 100000 in
theorem z_fX3_reach_b30 {p : Program} {l : Launch} {e : Env} {s : State} {m : MethodId} {args : Array Value} {below : List Frame} {meth : Method} {c : Code} {D : va_G} {cy : Nat → ClassId} {B : Nat} {kd : Nat → Nat} {n : Nat} {sa sv : Nat → Nat} (C : zC p l s m args meth c D cy B kd n sa sv RX3 cX3_reach 4) (ht : ∀ x ∈ c.exceptionTable.toList, False) (hr : meth.sig.returnType = some (FieldType.boolean)) {b0 : Bool × Mem}   (M : Mem)  : Z p l e (rmz 0 0) s m args below meth c (vx_MQ below (QcR D cy B kd n (cvB b0)) (XcR D cy B kd n (cvB b0)) args s 0 (6 * 0) (AA B kd n)) D cy B kd n 4 b0 0 30 [] [] M (fX3_reach_b30 M) := by
  unfold fX3_reach_b30
  refine z_iconst C dX3_reach_30 rfl ?_
  exact z_zret C (v := false) hr (Nat.le_of_ble_eq_true rfl) dX3_reach_31 rfl
set_option maxHeartbeats 4000000 in
set_option maxRecDepth 100000 in
theorem ctX3_reach {l : Launch} {D : va_G} {cy : Nat → ClassId} {B : Nat} {kd : Nat → Nat} {n : Nat} {sa sv : Nat → Nat} (G : zG l kd n) (v0 : Nat) (v1 : Int32) (v2 : Int32) (v3 : Int32) (h0 : kd v0 = 3) (M : Mem) : CT l D cy B kd n sa sv 0 0 yX3_reach cX3_reach 4 (some (FieldType.boolean)) cvB [.ref (B + v0), .int v1, .int v2, .int v3] M (fX3_reach v0 v1 v2 v3 M) := by
  refine ct_of (by decide) G.1 G.2 (Nat.le_of_ble_eq_true rfl) (ls := [(0, .ref (B + v0)), (1, .int v1), (2, .int v2), (3, .int v3)]) rfl ?_
  intro p e s m args below meth c b0 C ht hr
  unfold fX3_reach
  refine z_iload_n C 1 1 dX3_reach_0 rfl rfl ?_
  refine z_if_lt C 30 dX3_reach_1 rfl (fun _ => ?_) (fun _ => ?_)
  · exact z_jump (ls1 := []) (Nat.le_of_ble_eq_true rfl) [] rfl (z_fX3_reach_b30 C ht hr M)
  · refine z_iload_n C 1 1 dX3_reach_4 rfl rfl ?_
    refine z_bipush (v := 16) C dX3_reach_5 rfl ?_
    refine z_icmp_ge C 30 dX3_reach_7 rfl (fun _ => ?_) (fun _ => ?_)
    · exact z_jump (ls1 := []) (Nat.le_of_ble_eq_true rfl) [] rfl (z_fX3_reach_b30 C ht hr M)
    · refine z_aload_n C 0 0 dX3_reach_10 rfl rfl ?_
      refine z_getI (k := 4) C cl3 h0 rfl gw_2_56 rfl dX3_reach_11 ?_
      refine z_bipush (v := 16) C dX3_reach_14 rfl ?_
      refine z_icmp_ge C 30 dX3_reach_16 rfl (fun _ => ?_) (fun _ => ?_)
      · exact z_jump (ls1 := []) (Nat.le_of_ble_eq_true rfl) [] rfl (z_fX3_reach_b30 C ht hr M)
      · refine z_aload_n C 0 0 dX3_reach_19 rfl rfl ?_
        refine z_getI (k := 5) C cl3 h0 rfl gw_2_57 rfl dX3_reach_20 ?_
        refine z_iload_n C 1 1 dX3_reach_23 rfl rfl ?_
        refine z_ishr C dX3_reach_24 ?_
        refine z_iconst C dX3_reach_25 rfl ?_
        refine z_iand C dX3_reach_26 ?_
        refine z_if_eq C 32 dX3_reach_27 rfl (fun _ => ?_) (fun _ => ?_)
        · refine z_aload_n C 0 0 dX3_reach_32 rfl rfl ?_
          refine z_dup C dX3_reach_33 rfl ?_
          refine z_getI (k := 5) C cl3 h0 rfl gw_2_57 rfl dX3_reach_34 ?_
          refine z_iconst C dX3_reach_37 rfl ?_
          refine z_iload_n C 1 1 dX3_reach_38 rfl rfl ?_
          refine z_ishl C dX3_reach_39 ?_
          refine z_ior C dX3_reach_40 ?_
          refine z_putI (k := 5) C cl3 h0 rfl gw_2_57 rfl rfl rfl dX3_reach_41 ?_
          refine z_aload_n C 0 0 dX3_reach_44 rfl rfl ?_
          refine z_getR (k := 0) C cl3 h0 rfl gw_2_52 rfl dX3_reach_45 ?_
          have j1 : kd (v0 + 1) = 24 := zkd C h0 (k := 0) rfl
          refine z_aload_n C 0 0 dX3_reach_48 rfl rfl ?_
          refine z_getI (k := 4) C cl3 h0 rfl gw_2_56 rfl dX3_reach_49 ?_
          refine z_iload_n C 1 1 dX3_reach_52 rfl rfl ?_
          refine z_iast C j1 rfl (by decide) dX3_reach_53 (fun _ => ?_)
          refine z_aload_n C 0 0 dX3_reach_54 rfl rfl ?_
          refine z_dup C dX3_reach_55 rfl ?_
          refine z_getI (k := 4) C cl3 h0 rfl gw_2_56 rfl dX3_reach_56 ?_
          refine z_iconst C dX3_reach_59 rfl ?_
          refine z_iadd C dX3_reach_60 ?_
          refine z_putI (k := 4) C cl3 h0 rfl gw_2_56 rfl rfl rfl dX3_reach_61 ?_
          refine z_aload_n C 0 0 dX3_reach_64 rfl rfl ?_
          refine z_getR (k := 1) C cl3 h0 rfl gw_2_53 rfl dX3_reach_65 ?_
          have j2 : kd (v0 + 2) = 24 := zkd C h0 (k := 1) rfl
          refine z_iload_n C 1 1 dX3_reach_68 rfl rfl ?_
          refine z_iload_n C 2 2 dX3_reach_69 rfl rfl ?_
          refine z_iast C j2 rfl (by decide) dX3_reach_70 (fun _ => ?_)
          refine z_aload_n C 0 0 dX3_reach_71 rfl rfl ?_
          refine z_getR (k := 2) C cl3 h0 rfl gw_2_54 rfl dX3_reach_72 ?_
          have j3 : kd (v0 + 3) = 24 := zkd C h0 (k := 2) rfl
          refine z_iload_n C 1 1 dX3_reach_75 rfl rfl ?_
          refine z_iload_n C 3 3 dX3_reach_76 rfl rfl ?_
          refine z_iast C j3 rfl (by decide) dX3_reach_77 (fun _ => ?_)
          refine z_iconst C dX3_reach_78 rfl ?_
          exact z_zret C (v := true) hr (Nat.le_of_ble_eq_true rfl) dX3_reach_79 rfl
        · exact z_jump (ls1 := []) (Nat.le_of_ble_eq_true rfl) [] rfl (z_fX3_reach_b30 C ht hr M)
set_option maxHeartbeats 4000000 in
set_option maxRecDepth 100000 in
theorem z_fX3_otherNest_b36 {p : Program} {l : Launch} {e : Env} {s : State} {m : MethodId} {args : Array Value} {below : List Frame} {meth : Method} {c : Code} {D : va_G} {cy : Nat → ClassId} {B : Nat} {kd : Nat → Nat} {n : Nat} {sa sv : Nat → Nat} (C : zC p l s m args meth c D cy B kd n sa sv RX3 cX3_otherNest 6) (ht : ∀ x ∈ c.exceptionTable.toList, False) (hr : meth.sig.returnType = some (FieldType.int)) {b0 : Int32 × Mem}  (N : Nat) (M : Mem)  : Z p l e (rmz 2 0) s m args below meth c (vx_MQ below (QcR D cy B kd n (cvI b0)) (XcR D cy B kd n (cvI b0)) args s 0 (6 * 0) (AA B kd n)) D cy B kd n 6 b0 0 36 [] [] M (fX3_otherNest_b36 N M) := by
  unfold fX3_otherNest_b36
  refine z_iconst C dX3_otherNest_36 rfl ?_
  exact z_iret C hr (Nat.le_of_ble_eq_true rfl) dX3_otherNest_37 rfl
set_option maxHeartbeats 4000000 in
set_option maxRecDepth 100000 in
theorem ctX3_otherNest {l : Launch} {D : va_G} {cy : Nat → ClassId} {B : Nat} {kd : Nat → Nat} {n : Nat} {sa sv : Nat → Nat} (G : zG l kd n) (N : Nat) (v0 : Nat) (v1 : Nat) (v2 : Int32) (v3 : Int32) (h0 : kd v0 = 5) (h1 : kd v1 = 6) (M : Mem) : CT l D cy B kd n sa sv 2 0 yX3_otherNest cX3_otherNest 6 (some (FieldType.int)) cvI [.ref (B + v0), .ref (B + v1), .int v2, .int v3] M (fX3_otherNest N v0 v1 v2 v3 M) := by
  refine ct_of (by decide) G.1 G.2 (Nat.le_of_ble_eq_true rfl) (ls := [(0, .ref (B + v0)), (1, .ref (B + v1)), (2, .int v2), (3, .int v3)]) rfl ?_
  intro p e s m args below meth c b0 C ht hr
  unfold fX3_otherNest
  refine z_aload_n C 1 1 dX3_otherNest_0 rfl rfl ?_
  refine z_iconst C dX3_otherNest_1 rfl ?_
  refine z_iload_n C 3 3 dX3_otherNest_2 rfl rfl ?_
  refine z_aload_n C 0 0 dX3_otherNest_3 rfl rfl ?_
  refine z_getI (k := 2) C cl5 h0 rfl gw_1_127 rfl dX3_otherNest_4 ?_
  refine z_callV_I (As := [.int (0 : Int32), .int v3, .int (rI M v0 2)]) (rest := []) C rfl (ctX6_placeOf (zG_of C) N v1 (0 : Int32) v3 (rI M v0 2) h1 M) cw_RX3_30 rfl (okM_X6_placeOf) rfl cl6 h1 (okR_of rfl) (Nat.le_of_ble_eq_true rfl) dX3_otherNest_7 (fun qj1 _ => ?_)
  refine z_istore C 4 (ls1 := [(4, .int qj1.1), (0, .ref (B + v0)), (1, .ref (B + v1)), (2, .int v2), (3, .int v3)]) dX3_otherNest_10 (by decide) rfl ?_
  refine z_aload_n C 1 2 dX3_otherNest_12 rfl rfl ?_
  refine z_iconst C dX3_otherNest_13 rfl ?_
  refine z_iload_n C 3 4 dX3_otherNest_14 rfl rfl ?_
  refine z_aload_n C 0 1 dX3_otherNest_15 rfl rfl ?_
  refine z_getI (k := 2) C cl5 h0 rfl gw_1_127 rfl dX3_otherNest_16 ?_
  refine z_callV_I (As := [.int (1 : Int32), .int v3, .int (rI qj1.2 v0 2)]) (rest := []) C rfl (ctX6_placeOf (zG_of C) N v1 (1 : Int32) v3 (rI qj1.2 v0 2) h1 qj1.2) cw_RX3_30 rfl (okM_X6_placeOf) rfl cl6 h1 (okR_of rfl) (Nat.le_of_ble_eq_true rfl) dX3_otherNest_19 (fun qj2 _ => ?_)
  refine z_istore C 5 (ls1 := [(5, .int qj2.1), (4, .int qj1.1), (0, .ref (B + v0)), (1, .ref (B + v1)), (2, .int v2), (3, .int v3)]) dX3_otherNest_22 (by decide) rfl ?_
  refine z_iload_n C 3 5 dX3_otherNest_24 rfl rfl ?_
  refine z_iconst C dX3_otherNest_25 rfl ?_
  refine z_icmp_eq C 36 dX3_otherNest_26 rfl (fun _ => ?_) (fun _ => ?_)
  · exact z_jump (ls1 := []) (Nat.le_of_ble_eq_true rfl) [] rfl (z_fX3_otherNest_b36 C ht hr N qj2.2)
  · refine z_iload C 1 dX3_otherNest_29 rfl ?_
    refine z_iload C 0 dX3_otherNest_31 rfl ?_
    refine z_icmp_ne C 38 dX3_otherNest_33 rfl (fun _ => ?_) (fun _ => ?_)
    · exact z_jump (ls1 := []) (Nat.le_of_ble_eq_true rfl) [] rfl (z_fX3_otherNest_b36 C ht hr N qj2.2)
    · refine z_iload_n C 2 4 dX3_otherNest_38 rfl rfl ?_
      refine z_iload C 1 dX3_otherNest_39 rfl ?_
      refine z_icmp_ne C 49 dX3_otherNest_41 rfl (fun _ => ?_) (fun _ => ?_)
      · refine z_iload C 0 dX3_otherNest_44 rfl ?_
        refine z_goto C 51 dX3_otherNest_46 rfl ?_
        exact z_iret C hr (Nat.le_of_ble_eq_true rfl) dX3_otherNest_51 rfl
      · refine z_iload C 1 dX3_otherNest_49 rfl ?_
        exact z_iret C hr (Nat.le_of_ble_eq_true rfl) dX3_otherNest_51 rfl
set_option maxHeartbeats 4000000 in
set_option maxRecDepth 100000 in
theorem z_fX3_search_b131 {p : Program} {l : Launch} {e : Env} {s : State} {m : MethodId} {args : Array Value} {below : List Frame} {meth : Method} {c : Code} {D : va_G} {cy : Nat → ClassId} {B : Nat} {kd : Nat → Nat} {n : Nat} {sa sv : Nat → Nat} (C : zC p l s m args meth c D cy B kd n sa sv RX3 cX3_search 8) (ht : ∀ x ∈ c.exceptionTable.toList, False) (hr : meth.sig.returnType = some (FieldType.int)) {b0 : Int32 × Mem}  (N : Nat) (M : Mem)  : Z p l e (rmz 3 0) s m args below meth c (vx_MQ below (QcR D cy B kd n (cvI b0)) (XcR D cy B kd n (cvI b0)) args s 0 (6 * 0) (AA B kd n)) D cy B kd n 8 b0 0 131 [] [] M (fX3_search_b131 N M) := by
  unfold fX3_search_b131
  refine z_iconst C dX3_search_131 rfl ?_
  exact z_iret C hr (Nat.le_of_ble_eq_true rfl) dX3_search_132 rfl
set_option maxHeartbeats 4000000 in
set_option maxRecDepth 100000 in
theorem z_fX3_search_b119 {p : Program} {l : Launch} {e : Env} {s : State} {m : MethodId} {args : Array Value} {below : List Frame} {meth : Method} {c : Code} {D : va_G} {cy : Nat → ClassId} {B : Nat} {kd : Nat → Nat} {n : Nat} {sa sv : Nat → Nat} (C : zC p l s m args meth c D cy B kd n sa sv RX3 cX3_search 8) (ht : ∀ x ∈ c.exceptionTable.toList, False) (hr : meth.sig.returnType = some (FieldType.int)) {b0 : Int32 × Mem}  (N : Nat) (k30 : Int32 → Mem → Option (Int32 × Mem)) (k52 : Int32 → Mem → Option (Int32 × Mem)) (v0 : Nat) (v1 : Nat) (v2 : Nat) (v5 : Int32) (v6 : Int32) (M : Mem) (h0 : kd v0 = 3) (h1 : kd v1 = 5) (h2 : kd v2 = 6) (hk30 : ∀ (v5 : Int32) (M : Mem), Z p l e (rmz 3 0) s m args below meth c (vx_MQ below (QcR D cy B kd n (cvI b0)) (XcR D cy B kd n (cvI b0)) args s 0 (6 * 0) (AA B kd n)) D cy B kd n 8 b0 0 30 [(0, .ref (B + v0)), (1, .ref (B + v1)), (2, .ref (B + v2)), (5, .int v5)] [] M (k30 v5 M)) (hk52 : ∀ (v6 : Int32) (M : Mem), Z p l e (rmz 3 0) s m args below meth c (vx_MQ below (QcR D cy B kd n (cvI b0)) (XcR D cy B kd n (cvI b0)) args s 0 (6 * 0) (AA B kd n)) D cy B kd n 8 b0 0 52 [(0, .ref (B + v0)), (1, .ref (B + v1)), (2, .ref (B + v2)), (5, .int v5), (6, .int v6)] [] M (k52 v6 M)) : Z p l e (rmz 3 0) s m args below meth c (vx_MQ below (QcR D cy B kd n (cvI b0)) (XcR D cy B kd n (cvI b0)) args s 0 (6 * 0) (AA B kd n)) D cy B kd n 8 b0 0 119 [(0, .ref (B + v0)), (1, .ref (B + v1)), (2, .ref (B + v2)), (5, .int v5), (6, .int v6)] [] M (fX3_search_b119 N k30 k52 v0 v1 v2 v5 v6 M) := by
  unfold fX3_search_b119
  refine z_iinc C 6 4 (v := v6) (v1 := (v6 + (1 : Int32))) (ls1 := [(6, .int (v6 + (1 : Int32))), (0, .ref (B + v0)), (1, .ref (B + v1)), (2, .ref (B + v2)), (5, .int v5)]) dX3_search_119 rfl rfl (by decide) rfl ?_
  refine z_goto C 52 dX3_search_122 rfl ?_
  exact z_jump (ls1 := [(0, .ref (B + v0)), (1, .ref (B + v1)), (2, .ref (B + v2)), (5, .int v5), (6, .int (v6 + (1 : Int32)))]) (Nat.le_of_ble_eq_true rfl) [1, 2, 3, 4, 0] rfl (hk52 (v6 + (1 : Int32)) M)
set_option maxHeartbeats 4000000 in
set_option maxRecDepth 100000 in
theorem z_fX3_search_l52_s {p : Program} {l : Launch} {e : Env} {s : State} {m : MethodId} {args : Array Value} {below : List Frame} {meth : Method} {c : Code} {D : va_G} {cy : Nat → ClassId} {B : Nat} {kd : Nat → Nat} {n : Nat} {sa sv : Nat → Nat} (C : zC p l s m args meth c D cy B kd n sa sv RX3 cX3_search 8) (ht : ∀ x ∈ c.exceptionTable.toList, False) (hr : meth.sig.returnType = some (FieldType.int)) {b0 : Int32 × Mem} (N : Nat) (k30 : Int32 → Mem → Option (Int32 × Mem)) (v0 : Nat) (v1 : Nat) (v2 : Nat) (v5 : Int32) (k52 : Int32 → Mem → Option (Int32 × Mem)) (v6 : Int32) (M : Mem) (h0 : kd v0 = 3) (h1 : kd v1 = 5) (h2 : kd v2 = 6) (hk30 : ∀ (v5 : Int32) (M : Mem), Z p l e (rmz 3 0) s m args below meth c (vx_MQ below (QcR D cy B kd n (cvI b0)) (XcR D cy B kd n (cvI b0)) args s 0 (6 * 0) (AA B kd n)) D cy B kd n 8 b0 0 30 [(0, .ref (B + v0)), (1, .ref (B + v1)), (2, .ref (B + v2)), (5, .int v5)] [] M (k30 v5 M)) (hk52 : ∀ (v6 : Int32) (M : Mem), Z p l e (rmz 3 0) s m args below meth c (vx_MQ below (QcR D cy B kd n (cvI b0)) (XcR D cy B kd n (cvI b0)) args s 0 (6 * 0) (AA B kd n)) D cy B kd n 8 b0 0 52 [(0, .ref (B + v0)), (1, .ref (B + v1)), (2, .ref (B + v2)), (5, .int v5), (6, .int v6)] [] M (k52 v6 M)) : Z p l e (rmz 3 0) s m args below meth c (vx_MQ below (QcR D cy B kd n (cvI b0)) (XcR D cy B kd n (cvI b0)) args s 0 (6 * 0) (AA B kd n)) D cy B kd n 8 b0 0 52 [(0, .ref (B + v0)), (1, .ref (B + v1)), (2, .ref (B + v2)), (5, .int v5), (6, .int v6)] [] M (fX3_search_l52_s N k30 v0 v1 v2 v5 k52 v6 M) := by
  unfold fX3_search_l52_s
  refine z_iload C 4 dX3_search_52 rfl ?_
  refine z_aload_n C 1 1 dX3_search_54 rfl rfl ?_
  refine z_getI (k := 4) C cl5 h1 rfl gw_1_138 rfl dX3_search_55 ?_
  refine z_icmp_ge C 125 dX3_search_58 rfl (fun _ => ?_) (fun _ => ?_)
  · refine z_iinc C 5 3 (v := v5) (v1 := (v5 + (1 : Int32))) (ls1 := [(5, .int (v5 + (1 : Int32))), (0, .ref (B + v0)), (1, .ref (B + v1)), (2, .ref (B + v2)), (6, .int v6)]) dX3_search_125 rfl rfl (by decide) rfl ?_
    refine z_goto C 30 dX3_search_128 rfl ?_
    exact z_jump (ls1 := [(0, .ref (B + v0)), (1, .ref (B + v1)), (2, .ref (B + v2)), (5, .int (v5 + (1 : Int32)))]) (Nat.le_of_ble_eq_true rfl) [1, 2, 3, 0] rfl (hk30 (v5 + (1 : Int32)) M)
  · refine z_aload_n C 1 1 dX3_search_61 rfl rfl ?_
    refine z_aload_n C 2 2 dX3_search_62 rfl rfl ?_
    refine z_aload_n C 0 0 dX3_search_63 rfl rfl ?_
    refine z_getR (k := 0) C cl3 h0 rfl gw_2_52 rfl dX3_search_64 ?_
    have j1 : kd (v0 + 1) = 24 := zkd C h0 (k := 0) rfl
    refine z_iload C 3 dX3_search_67 rfl ?_
    refine z_iald C j1 rfl (by decide) dX3_search_69 (fun j2 => ?_)
    refine z_aload_n C 1 1 dX3_search_70 rfl rfl ?_
    refine z_aload_n C 0 0 dX3_search_71 rfl rfl ?_
    refine z_getR (k := 0) C cl3 h0 rfl gw_2_52 rfl dX3_search_72 ?_
    have j3 : kd (v0 + 1) = 24 := zkd C h0 (k := 0) rfl
    refine z_iload C 3 dX3_search_75 rfl ?_
    refine z_iald C j3 rfl (by decide) dX3_search_77 (fun j4 => ?_)
    refine z_iload C 4 dX3_search_78 rfl ?_
    refine z_callV_pI (As := [.int (rI M (v0 + 1) v5.toNatClampNeg), .int v6]) (rest := [.int (rI M (v0 + 1) v5.toNatClampNeg), .ref (B + v2), .ref (B + v1)]) C rfl (ctX5_guestAt (zG_of C) v1 (rI M (v0 + 1) v5.toNatClampNeg) v6 h1 M) cw_RX3_68 rfl (okM_X5_guestAt) rfl cl5 h1 (okR_of rfl) (Nat.le_of_ble_eq_true rfl) dX3_search_80 (fun qj5 _ => ?_)
    refine z_callS_I (As := [.ref (B + v1), .ref (B + v2), .int (rI M (v0 + 1) v5.toNatClampNeg), .int qj5]) (rest := []) C rfl (ctX3_otherNest (zG_of C) N v1 v2 (rI M (v0 + 1) v5.toNatClampNeg) qj5 h1 h2 M) cw_RX3_72 (okM_X3_otherNest) rfl (okR_of rfl) (Nat.le_of_ble_eq_true rfl) dX3_search_83 (fun qj6 _ => ?_)
    refine z_istore C 7 (ls1 := [(7, .int qj6.1), (0, .ref (B + v0)), (1, .ref (B + v1)), (2, .ref (B + v2)), (5, .int v5), (6, .int v6)]) dX3_search_86 (by decide) rfl ?_
    refine z_aload_n C 0 1 dX3_search_88 rfl rfl ?_
    refine z_iload C 0 dX3_search_89 rfl ?_
    refine z_aload_n C 0 1 dX3_search_91 rfl rfl ?_
    refine z_getR (k := 0) C cl3 h0 rfl gw_2_52 rfl dX3_search_92 ?_
    have j7 : kd (v0 + 1) = 24 := zkd C h0 (k := 0) rfl
    refine z_iload C 4 dX3_search_95 rfl ?_
    refine z_iald C j7 rfl (by decide) dX3_search_97 (fun j8 => ?_)
    refine z_iload C 5 dX3_search_98 rfl ?_
    refine z_callV_B (As := [.int qj6.1, .int (rI qj6.2 (v0 + 1) v5.toNatClampNeg), .int v6]) (rest := []) C rfl (ctX3_reach (zG_of C) v0 qj6.1 (rI qj6.2 (v0 + 1) v5.toNatClampNeg) v6 h0 qj6.2) cw_RX3_61 rfl (okM_X3_reach) rfl cl3 h0 (okR_of rfl) (Nat.le_of_ble_eq_true rfl) dX3_search_100 (fun qj9 _ => ?_)
    refine z_if_eqB C 119 dX3_search_103 rfl (fun _ => ?_) (fun _ => ?_)
    · refine z_aload_n C 1 2 dX3_search_106 rfl rfl ?_
      refine z_iload C 0 dX3_search_107 rfl ?_
      refine z_callV_pI (As := [.int qj6.1]) (rest := []) C rfl (ctX5_freeSlot (zG_of C) N v1 qj6.1 h1 qj9.2) cw_RX3_36 rfl (okM_X5_freeSlot) rfl cl5 h1 (okR_of rfl) (Nat.le_of_ble_eq_true rfl) dX3_search_109 (fun qj10 _ => ?_)
      refine z_iconst C dX3_search_112 rfl ?_
      refine z_icmp_eq C 119 dX3_search_113 rfl (fun _ => ?_) (fun _ => ?_)
      · exact z_jump (ls1 := [(0, .ref (B + v0)), (1, .ref (B + v1)), (2, .ref (B + v2)), (5, .int v5), (6, .int v6)]) (Nat.le_of_ble_eq_true rfl) [1, 2, 3, 4, 5] rfl (z_fX3_search_b119 C ht hr N k30 k52 v0 v1 v2 v5 v6 qj9.2 h0 h1 h2 hk30 hk52)
      · refine z_iload C 0 dX3_search_116 rfl ?_
        exact z_iret C hr (Nat.le_of_ble_eq_true rfl) dX3_search_118 rfl
    · exact z_jump (ls1 := [(0, .ref (B + v0)), (1, .ref (B + v1)), (2, .ref (B + v2)), (5, .int v5), (6, .int v6)]) (Nat.le_of_ble_eq_true rfl) [1, 2, 3, 4, 5] rfl (z_fX3_search_b119 C ht hr N k30 k52 v0 v1 v2 v5 v6 qj9.2 h0 h1 h2 hk30 hk52)
theorem z_fX3_search_l52_i {p : Program} {l : Launch} {e : Env} {s : State} {m : MethodId} {args : Array Value} {below : List Frame} {meth : Method} {c : Code} {D : va_G} {cy : Nat → ClassId} {B : Nat} {kd : Nat → Nat} {n : Nat} {sa sv : Nat → Nat} (C : zC p l s m args meth c D cy B kd n sa sv RX3 cX3_search 8) (ht : ∀ x ∈ c.exceptionTable.toList, False) (hr : meth.sig.returnType = some (FieldType.int)) {b0 : Int32 × Mem} (N : Nat) (k30 : Int32 → Mem → Option (Int32 × Mem)) (v0 : Nat) (v1 : Nat) (v2 : Nat) (v5 : Int32) (h0 : kd v0 = 3) (h1 : kd v1 = 5) (h2 : kd v2 = 6) (hk30 : ∀ (v5 : Int32) (M : Mem), Z p l e (rmz 3 0) s m args below meth c (vx_MQ below (QcR D cy B kd n (cvI b0)) (XcR D cy B kd n (cvI b0)) args s 0 (6 * 0) (AA B kd n)) D cy B kd n 8 b0 0 30 [(0, .ref (B + v0)), (1, .ref (B + v1)), (2, .ref (B + v2)), (5, .int v5)] [] M (k30 v5 M)) (fu : Nat) : ∀ (v6 : Int32) (M : Mem), Z p l e (rmz 3 0) s m args below meth c (vx_MQ below (QcR D cy B kd n (cvI b0)) (XcR D cy B kd n (cvI b0)) args s 0 (6 * 0) (AA B kd n)) D cy B kd n 8 b0 0 52 [(0, .ref (B + v0)), (1, .ref (B + v1)), (2, .ref (B + v2)), (5, .int v5), (6, .int v6)] [] M (fX3_search_l52 N k30 v0 v1 v2 v5 fu v6 M) := by
  induction fu with
  | zero => intro v6 M; exact z_none
  | succ fu ih => intro v6 M; exact z_fX3_search_l52_s C ht hr N k30 v0 v1 v2 v5 (fX3_search_l52 N k30 v0 v1 v2 v5 fu) v6 M h0 h1 h2 hk30 (fun v6 M => ih v6 M)
theorem z_fX3_search_l52 {p : Program} {l : Launch} {e : Env} {s : State} {m : MethodId} {args : Array Value} {below : List Frame} {meth : Method} {c : Code} {D : va_G} {cy : Nat → ClassId} {B : Nat} {kd : Nat → Nat} {n : Nat} {sa sv : Nat → Nat} (C : zC p l s m args meth c D cy B kd n sa sv RX3 cX3_search 8) (ht : ∀ x ∈ c.exceptionTable.toList, False) (hr : meth.sig.returnType = some (FieldType.int)) {b0 : Int32 × Mem} (N : Nat) (k30 : Int32 → Mem → Option (Int32 × Mem)) (v0 : Nat) (v1 : Nat) (v2 : Nat) (v5 : Int32) (fu : Nat) (v6 : Int32) (M : Mem) (h0 : kd v0 = 3) (h1 : kd v1 = 5) (h2 : kd v2 = 6) (hk30 : ∀ (v5 : Int32) (M : Mem), Z p l e (rmz 3 0) s m args below meth c (vx_MQ below (QcR D cy B kd n (cvI b0)) (XcR D cy B kd n (cvI b0)) args s 0 (6 * 0) (AA B kd n)) D cy B kd n 8 b0 0 30 [(0, .ref (B + v0)), (1, .ref (B + v1)), (2, .ref (B + v2)), (5, .int v5)] [] M (k30 v5 M)) : Z p l e (rmz 3 0) s m args below meth c (vx_MQ below (QcR D cy B kd n (cvI b0)) (XcR D cy B kd n (cvI b0)) args s 0 (6 * 0) (AA B kd n)) D cy B kd n 8 b0 0 52 [(0, .ref (B + v0)), (1, .ref (B + v1)), (2, .ref (B + v2)), (5, .int v5), (6, .int v6)] [] M (fX3_search_l52 N k30 v0 v1 v2 v5 fu v6 M) := z_fX3_search_l52_i C ht hr N k30 v0 v1 v2 v5 h0 h1 h2 hk30 fu v6 M
set_option maxHeartbeats 4000000 in
set_option maxRecDepth 100000 in
theorem z_fX3_search_l30_s {p : Program} {l : Launch} {e : Env} {s : State} {m : MethodId} {args : Array Value} {below : List Frame} {meth : Method} {c : Code} {D : va_G} {cy : Nat → ClassId} {B : Nat} {kd : Nat → Nat} {n : Nat} {sa sv : Nat → Nat} (C : zC p l s m args meth c D cy B kd n sa sv RX3 cX3_search 8) (ht : ∀ x ∈ c.exceptionTable.toList, False) (hr : meth.sig.returnType = some (FieldType.int)) {b0 : Int32 × Mem} (N : Nat) (v0 : Nat) (v1 : Nat) (v2 : Nat) (k30 : Int32 → Mem → Option (Int32 × Mem)) (v5 : Int32) (M : Mem) (h0 : kd v0 = 3) (h1 : kd v1 = 5) (h2 : kd v2 = 6)  (hk30 : ∀ (v5 : Int32) (M : Mem), Z p l e (rmz 3 0) s m args below meth c (vx_MQ below (QcR D cy B kd n (cvI b0)) (XcR D cy B kd n (cvI b0)) args s 0 (6 * 0) (AA B kd n)) D cy B kd n 8 b0 0 30 [(0, .ref (B + v0)), (1, .ref (B + v1)), (2, .ref (B + v2)), (5, .int v5)] [] M (k30 v5 M)) : Z p l e (rmz 3 0) s m args below meth c (vx_MQ below (QcR D cy B kd n (cvI b0)) (XcR D cy B kd n (cvI b0)) args s 0 (6 * 0) (AA B kd n)) D cy B kd n 8 b0 0 30 [(0, .ref (B + v0)), (1, .ref (B + v1)), (2, .ref (B + v2)), (5, .int v5)] [] M (fX3_search_l30_s N v0 v1 v2 k30 v5 M) := by
  unfold fX3_search_l30_s
  refine z_iload C 3 dX3_search_30 rfl ?_
  refine z_aload_n C 0 0 dX3_search_32 rfl rfl ?_
  refine z_getI (k := 4) C cl3 h0 rfl gw_2_56 rfl dX3_search_33 ?_
  refine z_icmp_ge C 131 dX3_search_36 rfl (fun _ => ?_) (fun _ => ?_)
  · exact z_jump (ls1 := []) (Nat.le_of_ble_eq_true rfl) [] rfl (z_fX3_search_b131 C ht hr N M)
  · refine z_iload C 3 dX3_search_39 rfl ?_
    refine z_aload_n C 0 0 dX3_search_41 rfl rfl ?_
    refine z_getR (k := 0) C cl3 h0 rfl gw_2_52 rfl dX3_search_42 ?_
    have j1 : kd (v0 + 1) = 24 := zkd C h0 (k := 0) rfl
    refine z_alen (v := 16) C j1 (by decide) rfl dX3_search_45 ?_
    refine z_icmp_ge C 131 dX3_search_46 rfl (fun _ => ?_) (fun _ => ?_)
    · exact z_jump (ls1 := []) (Nat.le_of_ble_eq_true rfl) [] rfl (z_fX3_search_b131 C ht hr N M)
    · refine z_iconst C dX3_search_49 rfl ?_
      refine z_istore C 6 (ls1 := [(6, .int (0 : Int32)), (0, .ref (B + v0)), (1, .ref (B + v1)), (2, .ref (B + v2)), (5, .int v5)]) dX3_search_50 (by decide) rfl ?_
      exact z_jump (ls1 := [(0, .ref (B + v0)), (1, .ref (B + v1)), (2, .ref (B + v2)), (5, .int v5), (6, .int (0 : Int32))]) (Nat.le_of_ble_eq_true rfl) [1, 2, 3, 4, 0] rfl (z_fX3_search_l52 C ht hr N k30 v0 v1 v2 v5 N (0 : Int32) M h0 h1 h2 hk30)
theorem z_fX3_search_l30_i {p : Program} {l : Launch} {e : Env} {s : State} {m : MethodId} {args : Array Value} {below : List Frame} {meth : Method} {c : Code} {D : va_G} {cy : Nat → ClassId} {B : Nat} {kd : Nat → Nat} {n : Nat} {sa sv : Nat → Nat} (C : zC p l s m args meth c D cy B kd n sa sv RX3 cX3_search 8) (ht : ∀ x ∈ c.exceptionTable.toList, False) (hr : meth.sig.returnType = some (FieldType.int)) {b0 : Int32 × Mem} (N : Nat) (v0 : Nat) (v1 : Nat) (v2 : Nat) (h0 : kd v0 = 3) (h1 : kd v1 = 5) (h2 : kd v2 = 6)  (fu : Nat) : ∀ (v5 : Int32) (M : Mem), Z p l e (rmz 3 0) s m args below meth c (vx_MQ below (QcR D cy B kd n (cvI b0)) (XcR D cy B kd n (cvI b0)) args s 0 (6 * 0) (AA B kd n)) D cy B kd n 8 b0 0 30 [(0, .ref (B + v0)), (1, .ref (B + v1)), (2, .ref (B + v2)), (5, .int v5)] [] M (fX3_search_l30 N v0 v1 v2 fu v5 M) := by
  induction fu with
  | zero => intro v5 M; exact z_none
  | succ fu ih => intro v5 M; exact z_fX3_search_l30_s C ht hr N v0 v1 v2 (fX3_search_l30 N v0 v1 v2 fu) v5 M h0 h1 h2 (fun v5 M => ih v5 M)
theorem z_fX3_search_l30 {p : Program} {l : Launch} {e : Env} {s : State} {m : MethodId} {args : Array Value} {below : List Frame} {meth : Method} {c : Code} {D : va_G} {cy : Nat → ClassId} {B : Nat} {kd : Nat → Nat} {n : Nat} {sa sv : Nat → Nat} (C : zC p l s m args meth c D cy B kd n sa sv RX3 cX3_search 8) (ht : ∀ x ∈ c.exceptionTable.toList, False) (hr : meth.sig.returnType = some (FieldType.int)) {b0 : Int32 × Mem} (N : Nat) (v0 : Nat) (v1 : Nat) (v2 : Nat) (fu : Nat) (v5 : Int32) (M : Mem) (h0 : kd v0 = 3) (h1 : kd v1 = 5) (h2 : kd v2 = 6)  : Z p l e (rmz 3 0) s m args below meth c (vx_MQ below (QcR D cy B kd n (cvI b0)) (XcR D cy B kd n (cvI b0)) args s 0 (6 * 0) (AA B kd n)) D cy B kd n 8 b0 0 30 [(0, .ref (B + v0)), (1, .ref (B + v1)), (2, .ref (B + v2)), (5, .int v5)] [] M (fX3_search_l30 N v0 v1 v2 fu v5 M) := z_fX3_search_l30_i C ht hr N v0 v1 v2 h0 h1 h2 fu v5 M
set_option maxHeartbeats 4000000 in
set_option maxRecDepth 100000 in
theorem ctX3_search {l : Launch} {D : va_G} {cy : Nat → ClassId} {B : Nat} {kd : Nat → Nat} {n : Nat} {sa sv : Nat → Nat} (G : zG l kd n) (N : Nat) (v0 : Nat) (v1 : Nat) (v2 : Nat) (v3 : Int32) (v4 : Int32) (h0 : kd v0 = 3) (h1 : kd v1 = 5) (h2 : kd v2 = 6) (M : Mem) : CT l D cy B kd n sa sv 3 0 yX3_search cX3_search 8 (some (FieldType.int)) cvI [.ref (B + v0), .ref (B + v1), .ref (B + v2), .int v3, .int v4] M (fX3_search N v0 v1 v2 v3 v4 M) := by
  refine ct_of (by decide) G.1 G.2 (Nat.le_of_ble_eq_true rfl) (ls := [(0, .ref (B + v0)), (1, .ref (B + v1)), (2, .ref (B + v2)), (3, .int v3), (4, .int v4)]) rfl ?_
  intro p e s m args below meth c b0 C ht hr
  unfold fX3_search
  refine z_aload_n C 0 0 dX3_search_0 rfl rfl ?_
  refine z_iconst C dX3_search_1 rfl ?_
  refine z_putI (k := 4) C cl3 h0 rfl gw_2_56 rfl rfl rfl dX3_search_2 ?_
  refine z_aload_n C 0 0 dX3_search_5 rfl rfl ?_
  refine z_iconst C dX3_search_6 rfl ?_
  refine z_putI (k := 5) C cl3 h0 rfl gw_2_57 rfl rfl rfl dX3_search_7 ?_
  refine z_aload_n C 0 0 dX3_search_10 rfl rfl ?_
  refine z_iload_n C 3 3 dX3_search_11 rfl rfl ?_
  refine z_iconst C dX3_search_12 rfl ?_
  refine z_iconst C dX3_search_13 rfl ?_
  refine z_callV_B (As := [.int v3, .int (-1 : Int32), .int (-1 : Int32)]) (rest := []) C rfl (ctX3_reach (zG_of C) v0 v3 (-1 : Int32) (-1 : Int32) h0 (wI (wI M v0 4 (0 : Int32)) v0 5 (0 : Int32))) cw_RX3_61 rfl (okM_X3_reach) rfl cl3 h0 (okR_of rfl) (Nat.le_of_ble_eq_true rfl) dX3_search_14 (fun qj1 _ => ?_)
  refine z_pop C dX3_search_17 rfl ?_
  refine z_aload_n C 0 0 dX3_search_18 rfl rfl ?_
  refine z_iload C 4 dX3_search_19 rfl ?_
  refine z_iconst C dX3_search_21 rfl ?_
  refine z_iconst C dX3_search_22 rfl ?_
  refine z_callV_B (As := [.int v4, .int (-1 : Int32), .int (-1 : Int32)]) (rest := []) C rfl (ctX3_reach (zG_of C) v0 v4 (-1 : Int32) (-1 : Int32) h0 qj1.2) cw_RX3_61 rfl (okM_X3_reach) rfl cl3 h0 (okR_of rfl) (Nat.le_of_ble_eq_true rfl) dX3_search_23 (fun qj2 _ => ?_)
  refine z_pop C dX3_search_26 rfl ?_
  refine z_iconst C dX3_search_27 rfl ?_
  refine z_istore C 5 (ls1 := [(5, .int (0 : Int32)), (0, .ref (B + v0)), (1, .ref (B + v1)), (2, .ref (B + v2)), (3, .int v3), (4, .int v4)]) dX3_search_28 (by decide) rfl ?_
  exact z_jump (ls1 := [(0, .ref (B + v0)), (1, .ref (B + v1)), (2, .ref (B + v2)), (5, .int (0 : Int32))]) (Nat.le_of_ble_eq_true rfl) [1, 2, 3, 0] rfl (z_fX3_search_l30 C ht hr N v0 v1 v2 N (0 : Int32) qj2.2 h0 h1 h2)
set_option maxHeartbeats 4000000 in
set_option maxRecDepth 100000 in
theorem z_fX3_pushAlong_b85 {p : Program} {l : Launch} {e : Env} {s : State} {m : MethodId} {args : Array Value} {below : List Frame} {meth : Method} {c : Code} {D : va_G} {cy : Nat → ClassId} {B : Nat} {kd : Nat → Nat} {n : Nat} {sa sv : Nat → Nat} (C : zC p l s m args meth c D cy B kd n sa sv RX3 cX3_pushAlong 10) (ht : ∀ x ∈ c.exceptionTable.toList, False) (hr : meth.sig.returnType = some (FieldType.int)) {b0 : Int32 × Mem}  (N : Nat) (v1 : Nat) (v3 : Int32) (v4 : Int32) (v5 : Int32) (v6 : Int32) (M : Mem) (h1 : kd v1 = 5)  : Z p l e (rmz 3 0) s m args below meth c (vx_MQ below (QcR D cy B kd n (cvI b0)) (XcR D cy B kd n (cvI b0)) args s 0 (6 * 0) (AA B kd n)) D cy B kd n 10 b0 0 85 [(1, .ref (B + v1)), (3, .int v3), (4, .int v4), (5, .int v5), (6, .int v6)] [] M (fX3_pushAlong_b85 N v1 v3 v4 v5 v6 M) := by
  unfold fX3_pushAlong_b85
  refine z_aload_n C 1 0 dX3_pushAlong_85 rfl rfl ?_
  refine z_iload C 2 dX3_pushAlong_86 rfl ?_
  refine z_iload C 3 dX3_pushAlong_88 rfl ?_
  refine z_iload_n C 3 1 dX3_pushAlong_90 rfl rfl ?_
  refine z_callV_V (As := [.int v4, .int v5, .int v3]) (rest := []) C rfl (ctX5_setGuest (zG_of C) v1 v4 v5 v3 h1 M) cw_RX3_40 rfl (okM_X5_setGuest) rfl cl5 h1 (okR_of rfl) (Nat.le_of_ble_eq_true rfl) dX3_pushAlong_91 (fun qj1 _ => ?_)
  refine z_iload C 4 dX3_pushAlong_94 rfl ?_
  exact z_iret C hr (Nat.le_of_ble_eq_true rfl) dX3_pushAlong_96 rfl
set_option maxHeartbeats 4000000 in
set_option maxRecDepth 100000 in
theorem z_fX3_pushAlong_l16_s {p : Program} {l : Launch} {e : Env} {s : State} {m : MethodId} {args : Array Value} {below : List Frame} {meth : Method} {c : Code} {D : va_G} {cy : Nat → ClassId} {B : Nat} {kd : Nat → Nat} {n : Nat} {sa sv : Nat → Nat} (C : zC p l s m args meth c D cy B kd n sa sv RX3 cX3_pushAlong 10) (ht : ∀ x ∈ c.exceptionTable.toList, False) (hr : meth.sig.returnType = some (FieldType.int)) {b0 : Int32 × Mem} (N : Nat) (v0 : Nat) (v1 : Nat) (v3 : Int32) (k16 : Int32 → Int32 → Int32 → Int32 → Mem → Option (Int32 × Mem)) (v4 : Int32) (v5 : Int32) (v6 : Int32) (v7 : Int32) (M : Mem) (h0 : kd v0 = 3) (h1 : kd v1 = 5)  (hk16 : ∀ (v4 : Int32) (v5 : Int32) (v6 : Int32) (v7 : Int32) (M : Mem), Z p l e (rmz 3 0) s m args below meth c (vx_MQ below (QcR D cy B kd n (cvI b0)) (XcR D cy B kd n (cvI b0)) args s 0 (6 * 0) (AA B kd n)) D cy B kd n 10 b0 0 16 [(0, .ref (B + v0)), (1, .ref (B + v1)), (3, .int v3), (4, .int v4), (5, .int v5), (6, .int v6), (7, .int v7)] [] M (k16 v4 v5 v6 v7 M)) : Z p l e (rmz 3 0) s m args below meth c (vx_MQ below (QcR D cy B kd n (cvI b0)) (XcR D cy B kd n (cvI b0)) args s 0 (6 * 0) (AA B kd n)) D cy B kd n 10 b0 0 16 [(0, .ref (B + v0)), (1, .ref (B + v1)), (3, .int v3), (4, .int v4), (5, .int v5), (6, .int v6), (7, .int v7)] [] M (fX3_pushAlong_l16_s N v0 v1 v3 k16 v4 v5 v6 v7 M) := by
  unfold fX3_pushAlong_l16_s
  refine z_iload C 6 dX3_pushAlong_16 rfl ?_
  refine z_bipush (v := 16) C dX3_pushAlong_18 rfl ?_
  refine z_icmp_ge C 85 dX3_pushAlong_20 rfl (fun _ => ?_) (fun _ => ?_)
  · exact z_jump (ls1 := [(1, .ref (B + v1)), (3, .int v3), (4, .int v4), (5, .int v5), (6, .int v6)]) (Nat.le_of_ble_eq_true rfl) [1, 2, 3, 4, 5] rfl (z_fX3_pushAlong_b85 C ht hr N v1 v3 v4 v5 v6 M h1)
  · refine z_aload_n C 0 0 dX3_pushAlong_23 rfl rfl ?_
    refine z_getR (k := 1) C cl3 h0 rfl gw_2_53 rfl dX3_pushAlong_24 ?_
    have j1 : kd (v0 + 2) = 24 := zkd C h0 (k := 1) rfl
    refine z_iload C 3 dX3_pushAlong_27 rfl ?_
    refine z_iald C j1 rfl (by decide) dX3_pushAlong_29 (fun j2 => ?_)
    refine z_iconst C dX3_pushAlong_30 rfl ?_
    refine z_icmp_eq C 85 dX3_pushAlong_31 rfl (fun _ => ?_) (fun _ => ?_)
    · exact z_jump (ls1 := [(1, .ref (B + v1)), (3, .int v3), (4, .int v4), (5, .int v5), (6, .int v6)]) (Nat.le_of_ble_eq_true rfl) [1, 2, 3, 4, 5] rfl (z_fX3_pushAlong_b85 C ht hr N v1 v3 v4 v5 v6 M h1)
    · refine z_aload_n C 0 0 dX3_pushAlong_34 rfl rfl ?_
      refine z_getR (k := 2) C cl3 h0 rfl gw_2_54 rfl dX3_pushAlong_35 ?_
      have j3 : kd (v0 + 3) = 24 := zkd C h0 (k := 2) rfl
      refine z_iload C 3 dX3_pushAlong_38 rfl ?_
      refine z_iald C j3 rfl (by decide) dX3_pushAlong_40 (fun j4 => ?_)
      refine z_istore C 8 (ls1 := [(8, .int (rI M (v0 + 3) v4.toNatClampNeg)), (0, .ref (B + v0)), (1, .ref (B + v1)), (3, .int v3), (4, .int v4), (5, .int v5), (6, .int v6), (7, .int v7)]) dX3_pushAlong_41 (by decide) rfl ?_
      refine z_aload_n C 0 1 dX3_pushAlong_43 rfl rfl ?_
      refine z_getR (k := 1) C cl3 h0 rfl gw_2_53 rfl dX3_pushAlong_44 ?_
      have j5 : kd (v0 + 2) = 24 := zkd C h0 (k := 1) rfl
      refine z_iload C 4 dX3_pushAlong_47 rfl ?_
      refine z_iald C j5 rfl (by decide) dX3_pushAlong_49 (fun j6 => ?_)
      refine z_istore C 9 (ls1 := [(9, .int (rI M (v0 + 2) v4.toNatClampNeg)), (8, .int (rI M (v0 + 3) v4.toNatClampNeg)), (0, .ref (B + v0)), (1, .ref (B + v1)), (3, .int v3), (4, .int v4), (5, .int v5), (6, .int v6), (7, .int v7)]) dX3_pushAlong_50 (by decide) rfl ?_
      refine z_aload_n C 1 3 dX3_pushAlong_52 rfl rfl ?_
      refine z_iload C 5 dX3_pushAlong_53 rfl ?_
      refine z_iload C 6 dX3_pushAlong_55 rfl ?_
      refine z_aload_n C 1 3 dX3_pushAlong_57 rfl rfl ?_
      refine z_iload C 0 dX3_pushAlong_58 rfl ?_
      refine z_iload C 1 dX3_pushAlong_60 rfl ?_
      refine z_callV_pI (As := [.int (rI M (v0 + 2) v4.toNatClampNeg), .int (rI M (v0 + 3) v4.toNatClampNeg)]) (rest := [.int v5, .int v4, .ref (B + v1)]) C rfl (ctX5_guestAt (zG_of C) v1 (rI M (v0 + 2) v4.toNatClampNeg) (rI M (v0 + 3) v4.toNatClampNeg) h1 M) cw_RX3_68 rfl (okM_X5_guestAt) rfl cl5 h1 (okR_of rfl) (Nat.le_of_ble_eq_true rfl) dX3_pushAlong_62 (fun qj7 _ => ?_)
      refine z_callV_V (As := [.int v4, .int v5, .int qj7]) (rest := []) C rfl (ctX5_setGuest (zG_of C) v1 v4 v5 qj7 h1 M) cw_RX3_40 rfl (okM_X5_setGuest) rfl cl5 h1 (okR_of rfl) (Nat.le_of_ble_eq_true rfl) dX3_pushAlong_65 (fun qj8 _ => ?_)
      refine z_iload C 0 dX3_pushAlong_68 rfl ?_
      refine z_istore C 4 (ls1 := [(4, .int (rI M (v0 + 2) v4.toNatClampNeg)), (9, .int (rI M (v0 + 2) v4.toNatClampNeg)), (8, .int (rI M (v0 + 3) v4.toNatClampNeg)), (0, .ref (B + v0)), (1, .ref (B + v1)), (3, .int v3), (5, .int v5), (6, .int v6), (7, .int v7)]) dX3_pushAlong_70 (by decide) rfl ?_
      refine z_iload C 2 dX3_pushAlong_72 rfl ?_
      refine z_istore C 5 (ls1 := [(5, .int (rI M (v0 + 3) v4.toNatClampNeg)), (4, .int (rI M (v0 + 2) v4.toNatClampNeg)), (9, .int (rI M (v0 + 2) v4.toNatClampNeg)), (8, .int (rI M (v0 + 3) v4.toNatClampNeg)), (0, .ref (B + v0)), (1, .ref (B + v1)), (3, .int v3), (6, .int v6), (7, .int v7)]) dX3_pushAlong_74 (by decide) rfl ?_
      refine z_iinc C 6 7 (v := v6) (v1 := (v6 + (1 : Int32))) (ls1 := [(6, .int (v6 + (1 : Int32))), (5, .int (rI M (v0 + 3) v4.toNatClampNeg)), (4, .int (rI M (v0 + 2) v4.toNatClampNeg)), (9, .int (rI M (v0 + 2) v4.toNatClampNeg)), (8, .int (rI M (v0 + 3) v4.toNatClampNeg)), (0, .ref (B + v0)), (1, .ref (B + v1)), (3, .int v3), (7, .int v7)]) dX3_pushAlong_76 rfl rfl (by decide) rfl ?_
      refine z_iinc C 7 8 (v := v7) (v1 := (v7 + (1 : Int32))) (ls1 := [(7, .int (v7 + (1 : Int32))), (6, .int (v6 + (1 : Int32))), (5, .int (rI M (v0 + 3) v4.toNatClampNeg)), (4, .int (rI M (v0 + 2) v4.toNatClampNeg)), (9, .int (rI M (v0 + 2) v4.toNatClampNeg)), (8, .int (rI M (v0 + 3) v4.toNatClampNeg)), (0, .ref (B + v0)), (1, .ref (B + v1)), (3, .int v3)]) dX3_pushAlong_79 rfl rfl (by decide) rfl ?_
      refine z_goto C 16 dX3_pushAlong_82 rfl ?_
      exact z_jump (ls1 := [(0, .ref (B + v0)), (1, .ref (B + v1)), (3, .int v3), (4, .int (rI M (v0 + 2) v4.toNatClampNeg)), (5, .int (rI M (v0 + 3) v4.toNatClampNeg)), (6, .int (v6 + (1 : Int32))), (7, .int (v7 + (1 : Int32)))]) (Nat.le_of_ble_eq_true rfl) [6, 7, 8, 3, 2, 1, 0] rfl (hk16 (rI M (v0 + 2) v4.toNatClampNeg) (rI M (v0 + 3) v4.toNatClampNeg) (v6 + (1 : Int32)) (v7 + (1 : Int32)) qj8)
theorem z_fX3_pushAlong_l16_i {p : Program} {l : Launch} {e : Env} {s : State} {m : MethodId} {args : Array Value} {below : List Frame} {meth : Method} {c : Code} {D : va_G} {cy : Nat → ClassId} {B : Nat} {kd : Nat → Nat} {n : Nat} {sa sv : Nat → Nat} (C : zC p l s m args meth c D cy B kd n sa sv RX3 cX3_pushAlong 10) (ht : ∀ x ∈ c.exceptionTable.toList, False) (hr : meth.sig.returnType = some (FieldType.int)) {b0 : Int32 × Mem} (N : Nat) (v0 : Nat) (v1 : Nat) (v3 : Int32) (h0 : kd v0 = 3) (h1 : kd v1 = 5)  (fu : Nat) : ∀ (v4 : Int32) (v5 : Int32) (v6 : Int32) (v7 : Int32) (M : Mem), Z p l e (rmz 3 0) s m args below meth c (vx_MQ below (QcR D cy B kd n (cvI b0)) (XcR D cy B kd n (cvI b0)) args s 0 (6 * 0) (AA B kd n)) D cy B kd n 10 b0 0 16 [(0, .ref (B + v0)), (1, .ref (B + v1)), (3, .int v3), (4, .int v4), (5, .int v5), (6, .int v6), (7, .int v7)] [] M (fX3_pushAlong_l16 N v0 v1 v3 fu v4 v5 v6 v7 M) := by
  induction fu with
  | zero => intro v4 v5 v6 v7 M; exact z_none
  | succ fu ih => intro v4 v5 v6 v7 M; exact z_fX3_pushAlong_l16_s C ht hr N v0 v1 v3 (fX3_pushAlong_l16 N v0 v1 v3 fu) v4 v5 v6 v7 M h0 h1 (fun v4 v5 v6 v7 M => ih v4 v5 v6 v7 M)
theorem z_fX3_pushAlong_l16 {p : Program} {l : Launch} {e : Env} {s : State} {m : MethodId} {args : Array Value} {below : List Frame} {meth : Method} {c : Code} {D : va_G} {cy : Nat → ClassId} {B : Nat} {kd : Nat → Nat} {n : Nat} {sa sv : Nat → Nat} (C : zC p l s m args meth c D cy B kd n sa sv RX3 cX3_pushAlong 10) (ht : ∀ x ∈ c.exceptionTable.toList, False) (hr : meth.sig.returnType = some (FieldType.int)) {b0 : Int32 × Mem} (N : Nat) (v0 : Nat) (v1 : Nat) (v3 : Int32) (fu : Nat) (v4 : Int32) (v5 : Int32) (v6 : Int32) (v7 : Int32) (M : Mem) (h0 : kd v0 = 3) (h1 : kd v1 = 5)  : Z p l e (rmz 3 0) s m args below meth c (vx_MQ below (QcR D cy B kd n (cvI b0)) (XcR D cy B kd n (cvI b0)) args s 0 (6 * 0) (AA B kd n)) D cy B kd n 10 b0 0 16 [(0, .ref (B + v0)), (1, .ref (B + v1)), (3, .int v3), (4, .int v4), (5, .int v5), (6, .int v6), (7, .int v7)] [] M (fX3_pushAlong_l16 N v0 v1 v3 fu v4 v5 v6 v7 M) := z_fX3_pushAlong_l16_i C ht hr N v0 v1 v3 h0 h1 fu v4 v5 v6 v7 M
set_option maxHeartbeats 4000000 in
set_option maxRecDepth 100000 in
theorem ctX3_pushAlong {l : Launch} {D : va_G} {cy : Nat → ClassId} {B : Nat} {kd : Nat → Nat} {n : Nat} {sa sv : Nat → Nat} (G : zG l kd n) (N : Nat) (v0 : Nat) (v1 : Nat) (v2 : Int32) (v3 : Int32) (h0 : kd v0 = 3) (h1 : kd v1 = 5) (M : Mem) : CT l D cy B kd n sa sv 3 0 yX3_pushAlong cX3_pushAlong 10 (some (FieldType.int)) cvI [.ref (B + v0), .ref (B + v1), .int v2, .int v3] M (fX3_pushAlong N v0 v1 v2 v3 M) := by
  refine ct_of (by decide) G.1 G.2 (Nat.le_of_ble_eq_true rfl) (ls := [(0, .ref (B + v0)), (1, .ref (B + v1)), (2, .int v2), (3, .int v3)]) rfl ?_
  intro p e s m args below meth c b0 C ht hr
  unfold fX3_pushAlong
  refine z_iload_n C 2 2 dX3_pushAlong_0 rfl rfl ?_
  refine z_istore C 4 (ls1 := [(4, .int v2), (0, .ref (B + v0)), (1, .ref (B + v1)), (2, .int v2), (3, .int v3)]) dX3_pushAlong_1 (by decide) rfl ?_
  refine z_aload_n C 1 2 dX3_pushAlong_3 rfl rfl ?_
  refine z_iload_n C 2 3 dX3_pushAlong_4 rfl rfl ?_
  refine z_callV_pI (As := [.int v2]) (rest := []) C rfl (ctX5_freeSlot (zG_of C) N v1 v2 h1 M) cw_RX3_36 rfl (okM_X5_freeSlot) rfl cl5 h1 (okR_of rfl) (Nat.le_of_ble_eq_true rfl) dX3_pushAlong_5 (fun qj1 _ => ?_)
  refine z_istore C 5 (ls1 := [(5, .int qj1), (4, .int v2), (0, .ref (B + v0)), (1, .ref (B + v1)), (2, .int v2), (3, .int v3)]) dX3_pushAlong_8 (by decide) rfl ?_
  refine z_iconst C dX3_pushAlong_10 rfl ?_
  refine z_istore C 6 (ls1 := [(6, .int (0 : Int32)), (5, .int qj1), (4, .int v2), (0, .ref (B + v0)), (1, .ref (B + v1)), (2, .int v2), (3, .int v3)]) dX3_pushAlong_11 (by decide) rfl ?_
  refine z_iconst C dX3_pushAlong_13 rfl ?_
  refine z_istore C 7 (ls1 := [(7, .int (0 : Int32)), (6, .int (0 : Int32)), (5, .int qj1), (4, .int v2), (0, .ref (B + v0)), (1, .ref (B + v1)), (2, .int v2), (3, .int v3)]) dX3_pushAlong_14 (by decide) rfl ?_
  exact z_jump (ls1 := [(0, .ref (B + v0)), (1, .ref (B + v1)), (3, .int v3), (4, .int v2), (5, .int qj1), (6, .int (0 : Int32)), (7, .int (0 : Int32))]) (Nat.le_of_ble_eq_true rfl) [4, 5, 7, 3, 2, 1, 0] rfl (z_fX3_pushAlong_l16 C ht hr N v0 v1 v3 N v2 qj1 (0 : Int32) (0 : Int32) M h0 h1)
set_option maxHeartbeats 4000000 in
set_option maxRecDepth 100000 in
theorem z_fX3_settle_b41 {p : Program} {l : Launch} {e : Env} {s : State} {m : MethodId} {args : Array Value} {below : List Frame} {meth : Method} {c : Code} {D : va_G} {cy : Nat → ClassId} {B : Nat} {kd : Nat → Nat} {n : Nat} {sa sv : Nat → Nat} (C : zC p l s m args meth c D cy B kd n sa sv RX3 cX3_settle 9) (ht : ∀ x ∈ c.exceptionTable.toList, False) (hr : meth.sig.returnType = some (FieldType.boolean)) {b0 : Bool × Mem}  (N : Nat) (v0 : Nat) (v1 : Nat) (v2 : Nat) (v3 : Int32) (v4 : Int32) (v5 : Int32) (s0 : Int32) (M : Mem) (h0 : kd v0 = 3) (h1 : kd v1 = 5) (h2 : kd v2 = 6)  : Z p l e (rmz 4 0) s m args below meth c (vx_MQ below (QcR D cy B kd n (cvB b0)) (XcR D cy B kd n (cvB b0)) args s 0 (6 * 0) (AA B kd n)) D cy B kd n 9 b0 0 41 [(0, .ref (B + v0)), (1, .ref (B + v1)), (2, .ref (B + v2)), (3, .int v3), (4, .int v4), (5, .int v5)] [.int s0] M (fX3_settle_b41 N v0 v1 v2 v3 v4 v5 s0 M) := by
  unfold fX3_settle_b41
  refine z_istore C 6 (ls1 := [(6, .int s0), (0, .ref (B + v0)), (1, .ref (B + v1)), (2, .ref (B + v2)), (3, .int v3), (4, .int v4), (5, .int v5)]) dX3_settle_41 (by decide) rfl ?_
  refine z_aload_n C 1 2 dX3_settle_43 rfl rfl ?_
  refine z_iload C 0 dX3_settle_44 rfl ?_
  refine z_callV_pI (As := [.int s0]) (rest := []) C rfl (ctX5_freeSlot (zG_of C) N v1 s0 h1 M) cw_RX3_36 rfl (okM_X5_freeSlot) rfl cl5 h1 (okR_of rfl) (Nat.le_of_ble_eq_true rfl) dX3_settle_46 (fun qj1 _ => ?_)
  refine z_istore C 7 (ls1 := [(7, .int qj1), (6, .int s0), (0, .ref (B + v0)), (1, .ref (B + v1)), (2, .ref (B + v2)), (3, .int v3), (4, .int v4), (5, .int v5)]) dX3_settle_49 (by decide) rfl ?_
  refine z_iload C 0 dX3_settle_51 rfl ?_
  refine z_iconst C dX3_settle_53 rfl ?_
  refine z_icmp_eq C 73 dX3_settle_54 rfl (fun _ => ?_) (fun _ => ?_)
  · refine z_aload_n C 0 2 dX3_settle_73 rfl rfl ?_
    refine z_aload_n C 1 3 dX3_settle_74 rfl rfl ?_
    refine z_aload_n C 2 4 dX3_settle_75 rfl rfl ?_
    refine z_iload C 6 dX3_settle_76 rfl ?_
    refine z_iload C 7 dX3_settle_78 rfl ?_
    refine z_callV_I (As := [.ref (B + v1), .ref (B + v2), .int v4, .int v5]) (rest := []) C rfl (ctX3_search (zG_of C) N v0 v1 v2 v4 v5 h0 h1 h2 M) cw_RX3_47 rfl (okM_X3_search) rfl cl3 h0 (okR_of rfl) (Nat.le_of_ble_eq_true rfl) dX3_settle_80 (fun qj2 _ => ?_)
    refine z_istore C 8 (ls1 := [(8, .int qj2.1), (7, .int qj1), (6, .int s0), (0, .ref (B + v0)), (1, .ref (B + v1)), (2, .ref (B + v2)), (3, .int v3), (4, .int v4), (5, .int v5)]) dX3_settle_83 (by decide) rfl ?_
    refine z_iload C 0 dX3_settle_85 rfl ?_
    refine z_iconst C dX3_settle_87 rfl ?_
    refine z_icmp_ne C 93 dX3_settle_88 rfl (fun _ => ?_) (fun _ => ?_)
    · refine z_iconst C dX3_settle_91 rfl ?_
      exact z_zret C (v := false) hr (Nat.le_of_ble_eq_true rfl) dX3_settle_92 rfl
    · refine z_aload_n C 1 4 dX3_settle_93 rfl rfl ?_
      refine z_aload_n C 0 3 dX3_settle_94 rfl rfl ?_
      refine z_aload_n C 1 4 dX3_settle_95 rfl rfl ?_
      refine z_iload C 0 dX3_settle_96 rfl ?_
      refine z_iload_n C 3 6 dX3_settle_98 rfl rfl ?_
      refine z_callV_I (As := [.ref (B + v1), .int qj2.1, .int v3]) (rest := [.ref (B + v1)]) C rfl (ctX3_pushAlong (zG_of C) N v0 v1 qj2.1 v3 h0 h1 qj2.2) cw_RX3_51 rfl (okM_X3_pushAlong) rfl cl3 h0 (okR_of rfl) (Nat.le_of_ble_eq_true rfl) dX3_settle_99 (fun qj3 _ => ?_)
      refine z_putI (k := 6) C cl5 h1 rfl gw_1_143 rfl rfl rfl dX3_settle_102 ?_
      refine z_iconst C dX3_settle_105 rfl ?_
      exact z_zret C (v := true) hr (Nat.le_of_ble_eq_true rfl) dX3_settle_106 rfl
  · refine z_aload_n C 1 3 dX3_settle_57 rfl rfl ?_
    refine z_iload C 1 dX3_settle_58 rfl ?_
    refine z_iload C 0 dX3_settle_60 rfl ?_
    refine z_iload_n C 3 5 dX3_settle_62 rfl rfl ?_
    refine z_callV_V (As := [.int s0, .int qj1, .int v3]) (rest := []) C rfl (ctX5_setGuest (zG_of C) v1 s0 qj1 v3 h1 M) cw_RX3_40 rfl (okM_X5_setGuest) rfl cl5 h1 (okR_of rfl) (Nat.le_of_ble_eq_true rfl) dX3_settle_63 (fun qj4 _ => ?_)
    refine z_aload_n C 1 3 dX3_settle_66 rfl rfl ?_
    refine z_iconst C dX3_settle_67 rfl ?_
    refine z_putI (k := 6) C cl5 h1 rfl gw_1_143 rfl rfl rfl dX3_settle_68 ?_
    refine z_iconst C dX3_settle_71 rfl ?_
    exact z_zret C (v := true) hr (Nat.le_of_ble_eq_true rfl) dX3_settle_72 rfl
set_option maxHeartbeats 4000000 in
set_option maxRecDepth 100000 in
theorem ctX3_settle {l : Launch} {D : va_G} {cy : Nat → ClassId} {B : Nat} {kd : Nat → Nat} {n : Nat} {sa sv : Nat → Nat} (G : zG l kd n) (N : Nat) (v0 : Nat) (v1 : Nat) (v2 : Nat) (v3 : Int32) (h0 : kd v0 = 3) (h1 : kd v1 = 5) (h2 : kd v2 = 6) (M : Mem) : CT l D cy B kd n sa sv 4 0 yX3_settle cX3_settle 9 (some (FieldType.boolean)) cvB [.ref (B + v0), .ref (B + v1), .ref (B + v2), .int v3] M (fX3_settle N v0 v1 v2 v3 M) := by
  refine ct_of (by decide) G.1 G.2 (Nat.le_of_ble_eq_true rfl) (ls := [(0, .ref (B + v0)), (1, .ref (B + v1)), (2, .ref (B + v2)), (3, .int v3)]) rfl ?_
  intro p e s m args below meth c b0 C ht hr
  unfold fX3_settle
  refine z_aload_n C 2 2 dX3_settle_0 rfl rfl ?_
  refine z_iconst C dX3_settle_1 rfl ?_
  refine z_iload_n C 3 3 dX3_settle_2 rfl rfl ?_
  refine z_aload_n C 1 1 dX3_settle_3 rfl rfl ?_
  refine z_getI (k := 2) C cl5 h1 rfl gw_1_127 rfl dX3_settle_4 ?_
  refine z_callV_I (As := [.int (0 : Int32), .int v3, .int (rI M v1 2)]) (rest := []) C rfl (ctX6_placeOf (zG_of C) N v2 (0 : Int32) v3 (rI M v1 2) h2 M) cw_RX3_30 rfl (okM_X6_placeOf) rfl cl6 h2 (okR_of rfl) (Nat.le_of_ble_eq_true rfl) dX3_settle_7 (fun qj1 _ => ?_)
  refine z_istore C 4 (ls1 := [(4, .int qj1.1), (0, .ref (B + v0)), (1, .ref (B + v1)), (2, .ref (B + v2)), (3, .int v3)]) dX3_settle_10 (by decide) rfl ?_
  refine z_aload_n C 2 3 dX3_settle_12 rfl rfl ?_
  refine z_iconst C dX3_settle_13 rfl ?_
  refine z_iload_n C 3 4 dX3_settle_14 rfl rfl ?_
  refine z_aload_n C 1 2 dX3_settle_15 rfl rfl ?_
  refine z_getI (k := 2) C cl5 h1 rfl gw_1_127 rfl dX3_settle_16 ?_
  refine z_callV_I (As := [.int (1 : Int32), .int v3, .int (rI qj1.2 v1 2)]) (rest := []) C rfl (ctX6_placeOf (zG_of C) N v2 (1 : Int32) v3 (rI qj1.2 v1 2) h2 qj1.2) cw_RX3_30 rfl (okM_X6_placeOf) rfl cl6 h2 (okR_of rfl) (Nat.le_of_ble_eq_true rfl) dX3_settle_19 (fun qj2 _ => ?_)
  refine z_istore C 5 (ls1 := [(5, .int qj2.1), (4, .int qj1.1), (0, .ref (B + v0)), (1, .ref (B + v1)), (2, .ref (B + v2)), (3, .int v3)]) dX3_settle_22 (by decide) rfl ?_
  refine z_aload_n C 1 3 dX3_settle_24 rfl rfl ?_
  refine z_iload C 1 dX3_settle_25 rfl ?_
  refine z_callV_pI (As := [.int qj1.1]) (rest := []) C rfl (ctX5_freeSlot (zG_of C) N v1 qj1.1 h1 qj2.2) cw_RX3_36 rfl (okM_X5_freeSlot) rfl cl5 h1 (okR_of rfl) (Nat.le_of_ble_eq_true rfl) dX3_settle_27 (fun qj3 _ => ?_)
  refine z_iconst C dX3_settle_30 rfl ?_
  refine z_icmp_eq C 39 dX3_settle_31 rfl (fun _ => ?_) (fun _ => ?_)
  · refine z_iload C 0 dX3_settle_39 rfl ?_
    exact z_jump (ls1 := [(0, .ref (B + v0)), (1, .ref (B + v1)), (2, .ref (B + v2)), (3, .int v3), (4, .int qj1.1), (5, .int qj2.1)]) (Nat.le_of_ble_eq_true rfl) [2, 3, 4, 5, 1, 0] rfl (z_fX3_settle_b41 C ht hr N v0 v1 v2 v3 qj1.1 qj2.1 qj2.1 qj2.2 h0 h1 h2)
  · refine z_iload C 1 dX3_settle_34 rfl ?_
    refine z_goto C 41 dX3_settle_36 rfl ?_
    exact z_jump (ls1 := [(0, .ref (B + v0)), (1, .ref (B + v1)), (2, .ref (B + v2)), (3, .int v3), (4, .int qj1.1), (5, .int qj2.1)]) (Nat.le_of_ble_eq_true rfl) [2, 3, 4, 5, 1, 0] rfl (z_fX3_settle_b41 C ht hr N v0 v1 v2 v3 qj1.1 qj2.1 qj1.1 qj2.2 h0 h1 h2)
set_option maxHeartbeats 4000000 in
set_option maxRecDepth 100000 in
theorem z_fX3_enlarge_b134 {p : Program} {l : Launch} {e : Env} {s : State} {m : MethodId} {args : Array Value} {below : List Frame} {meth : Method} {c : Code} {D : va_G} {cy : Nat → ClassId} {B : Nat} {kd : Nat → Nat} {n : Nat} {sa sv : Nat → Nat} (C : zC p l s m args meth c D cy B kd n sa sv RX3 cX3_enlarge 6) (ht : ∀ x ∈ c.exceptionTable.toList, False) (hr : meth.sig.returnType = some (FieldType.boolean)) {b0 : Bool × Mem}  (N : Nat) (k54 : Int32 → Mem → Option (Bool × Mem)) (v0 : Nat) (v1 : Nat) (v2 : Nat) (v3 : Int32) (v4 : Int32) (M : Mem) (h0 : kd v0 = 3) (h1 : kd v1 = 5) (h2 : kd v2 = 6) (hk54 : ∀ (v4 : Int32) (M : Mem), Z p l e (rmz 5 0) s m args below meth c (vx_MQ below (QcR D cy B kd n (cvB b0)) (XcR D cy B kd n (cvB b0)) args s 0 (6 * 0) (AA B kd n)) D cy B kd n 6 b0 0 54 [(0, .ref (B + v0)), (1, .ref (B + v1)), (2, .ref (B + v2)), (3, .int v3), (4, .int v4)] [] M (k54 v4 M)) : Z p l e (rmz 5 0) s m args below meth c (vx_MQ below (QcR D cy B kd n (cvB b0)) (XcR D cy B kd n (cvB b0)) args s 0 (6 * 0) (AA B kd n)) D cy B kd n 6 b0 0 134 [(0, .ref (B + v0)), (1, .ref (B + v1)), (2, .ref (B + v2)), (3, .int v3), (4, .int v4)] [] M (fX3_enlarge_b134 N k54 v0 v1 v2 v3 v4 M) := by
  unfold fX3_enlarge_b134
  refine z_iinc C 4 4 (v := v4) (v1 := (v4 + (1 : Int32))) (ls1 := [(4, .int (v4 + (1 : Int32))), (0, .ref (B + v0)), (1, .ref (B + v1)), (2, .ref (B + v2)), (3, .int v3)]) dX3_enlarge_134 rfl rfl (by decide) rfl ?_
  refine z_goto C 54 dX3_enlarge_137 rfl ?_
  exact z_jump (ls1 := [(0, .ref (B + v0)), (1, .ref (B + v1)), (2, .ref (B + v2)), (3, .int v3), (4, .int (v4 + (1 : Int32)))]) (Nat.le_of_ble_eq_true rfl) [1, 2, 3, 4, 0] rfl (hk54 (v4 + (1 : Int32)) M)
set_option maxHeartbeats 4000000 in
set_option maxRecDepth 100000 in
theorem z_fX3_enlarge_l103_s {p : Program} {l : Launch} {e : Env} {s : State} {m : MethodId} {args : Array Value} {below : List Frame} {meth : Method} {c : Code} {D : va_G} {cy : Nat → ClassId} {B : Nat} {kd : Nat → Nat} {n : Nat} {sa sv : Nat → Nat} (C : zC p l s m args meth c D cy B kd n sa sv RX3 cX3_enlarge 6) (ht : ∀ x ∈ c.exceptionTable.toList, False) (hr : meth.sig.returnType = some (FieldType.boolean)) {b0 : Bool × Mem} (N : Nat) (v0 : Nat) (v1 : Nat) (k103 : Int32 → Mem → Option (Bool × Mem)) (v5 : Int32) (M : Mem) (h0 : kd v0 = 3) (h1 : kd v1 = 5)  (hk103 : ∀ (v5 : Int32) (M : Mem), Z p l e (rmz 5 0) s m args below meth c (vx_MQ below (QcR D cy B kd n (cvB b0)) (XcR D cy B kd n (cvB b0)) args s 0 (6 * 0) (AA B kd n)) D cy B kd n 6 b0 0 103 [(0, .ref (B + v0)), (1, .ref (B + v1)), (5, .int v5)] [] M (k103 v5 M)) : Z p l e (rmz 5 0) s m args below meth c (vx_MQ below (QcR D cy B kd n (cvB b0)) (XcR D cy B kd n (cvB b0)) args s 0 (6 * 0) (AA B kd n)) D cy B kd n 6 b0 0 103 [(0, .ref (B + v0)), (1, .ref (B + v1)), (5, .int v5)] [] M (fX3_enlarge_l103_s N v0 v1 k103 v5 M) := by
  unfold fX3_enlarge_l103_s
  refine z_iload C 2 dX3_enlarge_103 rfl ?_
  refine z_aload_n C 0 0 dX3_enlarge_105 rfl rfl ?_
  refine z_getR (k := 3) C cl3 h0 rfl gw_2_55 rfl dX3_enlarge_106 ?_
  have j1 : kd (v0 + 4) = 33 := zkd C h0 (k := 3) rfl
  refine z_alen (v := 64) C j1 (by decide) rfl dX3_enlarge_109 ?_
  refine z_icmp_ge C 132 dX3_enlarge_110 rfl (fun _ => ?_) (fun _ => ?_)
  · refine z_iconst C dX3_enlarge_132 rfl ?_
    exact z_zret C (v := false) hr (Nat.le_of_ble_eq_true rfl) dX3_enlarge_133 rfl
  · refine z_aload_n C 1 1 dX3_enlarge_113 rfl rfl ?_
    refine z_iload C 2 dX3_enlarge_114 rfl ?_
    refine z_aload_n C 0 0 dX3_enlarge_116 rfl rfl ?_
    refine z_getR (k := 3) C cl3 h0 rfl gw_2_55 rfl dX3_enlarge_117 ?_
    have j2 : kd (v0 + 4) = 33 := zkd C h0 (k := 3) rfl
    refine z_iload C 2 dX3_enlarge_120 rfl ?_
    refine z_iald C j2 rfl (by decide) dX3_enlarge_122 (fun j3 => ?_)
    refine z_callV_V (As := [.int v5, .int (rI M (v0 + 4) v5.toNatClampNeg)]) (rest := []) C rfl (ctX5_setCell (zG_of C) v1 v5 (rI M (v0 + 4) v5.toNatClampNeg) h1 M) cw_RX3_95 rfl (okM_X5_setCell) rfl cl5 h1 (okR_of rfl) (Nat.le_of_ble_eq_true rfl) dX3_enlarge_123 (fun qj4 _ => ?_)
    refine z_iinc C 5 2 (v := v5) (v1 := (v5 + (1 : Int32))) (ls1 := [(5, .int (v5 + (1 : Int32))), (0, .ref (B + v0)), (1, .ref (B + v1))]) dX3_enlarge_126 rfl rfl (by decide) rfl ?_
    refine z_goto C 103 dX3_enlarge_129 rfl ?_
    exact z_jump (ls1 := [(0, .ref (B + v0)), (1, .ref (B + v1)), (5, .int (v5 + (1 : Int32)))]) (Nat.le_of_ble_eq_true rfl) [1, 2, 0] rfl (hk103 (v5 + (1 : Int32)) qj4)
theorem z_fX3_enlarge_l103_i {p : Program} {l : Launch} {e : Env} {s : State} {m : MethodId} {args : Array Value} {below : List Frame} {meth : Method} {c : Code} {D : va_G} {cy : Nat → ClassId} {B : Nat} {kd : Nat → Nat} {n : Nat} {sa sv : Nat → Nat} (C : zC p l s m args meth c D cy B kd n sa sv RX3 cX3_enlarge 6) (ht : ∀ x ∈ c.exceptionTable.toList, False) (hr : meth.sig.returnType = some (FieldType.boolean)) {b0 : Bool × Mem} (N : Nat) (v0 : Nat) (v1 : Nat) (h0 : kd v0 = 3) (h1 : kd v1 = 5)  (fu : Nat) : ∀ (v5 : Int32) (M : Mem), Z p l e (rmz 5 0) s m args below meth c (vx_MQ below (QcR D cy B kd n (cvB b0)) (XcR D cy B kd n (cvB b0)) args s 0 (6 * 0) (AA B kd n)) D cy B kd n 6 b0 0 103 [(0, .ref (B + v0)), (1, .ref (B + v1)), (5, .int v5)] [] M (fX3_enlarge_l103 N v0 v1 fu v5 M) := by
  induction fu with
  | zero => intro v5 M; exact z_none
  | succ fu ih => intro v5 M; exact z_fX3_enlarge_l103_s C ht hr N v0 v1 (fX3_enlarge_l103 N v0 v1 fu) v5 M h0 h1 (fun v5 M => ih v5 M)
theorem z_fX3_enlarge_l103 {p : Program} {l : Launch} {e : Env} {s : State} {m : MethodId} {args : Array Value} {below : List Frame} {meth : Method} {c : Code} {D : va_G} {cy : Nat → ClassId} {B : Nat} {kd : Nat → Nat} {n : Nat} {sa sv : Nat → Nat} (C : zC p l s m args meth c D cy B kd n sa sv RX3 cX3_enlarge 6) (ht : ∀ x ∈ c.exceptionTable.toList, False) (hr : meth.sig.returnType = some (FieldType.boolean)) {b0 : Bool × Mem} (N : Nat) (v0 : Nat) (v1 : Nat) (fu : Nat) (v5 : Int32) (M : Mem) (h0 : kd v0 = 3) (h1 : kd v1 = 5)  : Z p l e (rmz 5 0) s m args below meth c (vx_MQ below (QcR D cy B kd n (cvB b0)) (XcR D cy B kd n (cvB b0)) args s 0 (6 * 0) (AA B kd n)) D cy B kd n 6 b0 0 103 [(0, .ref (B + v0)), (1, .ref (B + v1)), (5, .int v5)] [] M (fX3_enlarge_l103 N v0 v1 fu v5 M) := z_fX3_enlarge_l103_i C ht hr N v0 v1 h0 h1 fu v5 M
set_option maxHeartbeats 4000000 in
set_option maxRecDepth 100000 in
theorem z_fX3_enlarge_l54_s {p : Program} {l : Launch} {e : Env} {s : State} {m : MethodId} {args : Array Value} {below : List Frame} {meth : Method} {c : Code} {D : va_G} {cy : Nat → ClassId} {B : Nat} {kd : Nat → Nat} {n : Nat} {sa sv : Nat → Nat} (C : zC p l s m args meth c D cy B kd n sa sv RX3 cX3_enlarge 6) (ht : ∀ x ∈ c.exceptionTable.toList, False) (hr : meth.sig.returnType = some (FieldType.boolean)) {b0 : Bool × Mem} (N : Nat) (v0 : Nat) (v1 : Nat) (v2 : Nat) (v3 : Int32) (k54 : Int32 → Mem → Option (Bool × Mem)) (v4 : Int32) (M : Mem) (h0 : kd v0 = 3) (h1 : kd v1 = 5) (h2 : kd v2 = 6)  (hk54 : ∀ (v4 : Int32) (M : Mem), Z p l e (rmz 5 0) s m args below meth c (vx_MQ below (QcR D cy B kd n (cvB b0)) (XcR D cy B kd n (cvB b0)) args s 0 (6 * 0) (AA B kd n)) D cy B kd n 6 b0 0 54 [(0, .ref (B + v0)), (1, .ref (B + v1)), (2, .ref (B + v2)), (3, .int v3), (4, .int v4)] [] M (k54 v4 M)) : Z p l e (rmz 5 0) s m args below meth c (vx_MQ below (QcR D cy B kd n (cvB b0)) (XcR D cy B kd n (cvB b0)) args s 0 (6 * 0) (AA B kd n)) D cy B kd n 6 b0 0 54 [(0, .ref (B + v0)), (1, .ref (B + v1)), (2, .ref (B + v2)), (3, .int v3), (4, .int v4)] [] M (fX3_enlarge_l54_s N v0 v1 v2 v3 k54 v4 M) := by
  unfold fX3_enlarge_l54_s
  refine z_iload C 4 dX3_enlarge_54 rfl ?_
  refine z_sipush (v := 256) C dX3_enlarge_56 rfl ?_
  refine z_icmp_ge C 140 dX3_enlarge_59 rfl (fun _ => ?_) (fun _ => ?_)
  · refine z_iconst C dX3_enlarge_140 rfl ?_
    exact z_zret C (v := true) hr (Nat.le_of_ble_eq_true rfl) dX3_enlarge_141 rfl
  · refine z_aload_n C 1 1 dX3_enlarge_62 rfl rfl ?_
    refine z_getR (k := 8) C cl5 h1 rfl gw_1_149 rfl dX3_enlarge_63 ?_
    have j1 : kd (v1 + 1) = 2 := zkd C h1 (k := 8) rfl
    refine z_iload C 4 dX3_enlarge_66 rfl ?_
    refine z_callV_pB (As := [.int v4]) (rest := []) C rfl (ctX2_has (zG_of C) (v1 + 1) v4 j1 M) cw_RX3_85 rfl (okM_X2_has) rfl cl2 j1 (okR_of rfl) (Nat.le_of_ble_eq_true rfl) dX3_enlarge_68 (fun qj2 _ => ?_)
    refine z_if_eqB C 134 dX3_enlarge_71 rfl (fun _ => ?_) (fun _ => ?_)
    · refine z_aload_n C 0 0 dX3_enlarge_74 rfl rfl ?_
      refine z_aload_n C 1 1 dX3_enlarge_75 rfl rfl ?_
      refine z_aload_n C 2 2 dX3_enlarge_76 rfl rfl ?_
      refine z_iload C 4 dX3_enlarge_77 rfl ?_
      refine z_callV_B (As := [.ref (B + v1), .ref (B + v2), .int v4]) (rest := []) C rfl (ctX3_settle (zG_of C) N v0 v1 v2 v4 h0 h1 h2 M) cw_RX3_91 rfl (okM_X3_settle) rfl cl3 h0 (okR_of rfl) (Nat.le_of_ble_eq_true rfl) dX3_enlarge_79 (fun qj3 _ => ?_)
      refine z_if_neB C 134 dX3_enlarge_82 rfl (fun _ => ?_) (fun _ => ?_)
      · exact z_jump (ls1 := [(0, .ref (B + v0)), (1, .ref (B + v1)), (2, .ref (B + v2)), (3, .int v3), (4, .int v4)]) (Nat.le_of_ble_eq_true rfl) [0, 1, 2, 3, 4] rfl (z_fX3_enlarge_b134 C ht hr N k54 v0 v1 v2 v3 v4 qj3.2 h0 h1 h2 hk54)
      · refine z_aload_n C 1 1 dX3_enlarge_85 rfl rfl ?_
        refine z_dup C dX3_enlarge_86 rfl ?_
        refine z_getI (k := 2) C cl5 h1 rfl gw_1_127 rfl dX3_enlarge_87 ?_
        refine z_iconst C dX3_enlarge_90 rfl ?_
        refine z_idivK C dX3_enlarge_91 (by decide) ?_
        refine z_putI (k := 2) C cl5 h1 rfl gw_1_127 rfl rfl rfl dX3_enlarge_92 ?_
        refine z_aload_n C 1 1 dX3_enlarge_95 rfl rfl ?_
        refine z_iload_n C 3 3 dX3_enlarge_96 rfl rfl ?_
        refine z_putI (k := 6) C cl5 h1 rfl gw_1_143 rfl rfl rfl dX3_enlarge_97 ?_
        refine z_iconst C dX3_enlarge_100 rfl ?_
        refine z_istore C 5 (ls1 := [(5, .int (0 : Int32)), (0, .ref (B + v0)), (1, .ref (B + v1)), (2, .ref (B + v2)), (3, .int v3), (4, .int v4)]) dX3_enlarge_101 (by decide) rfl ?_
        exact z_jump (ls1 := [(0, .ref (B + v0)), (1, .ref (B + v1)), (5, .int (0 : Int32))]) (Nat.le_of_ble_eq_true rfl) [1, 2, 0] rfl (z_fX3_enlarge_l103 C ht hr N v0 v1 N (0 : Int32) (wI (wI qj3.2 v1 2 ((rI qj3.2 v1 2) / (2 : Int32))) v1 6 v3) h0 h1)
    · exact z_jump (ls1 := [(0, .ref (B + v0)), (1, .ref (B + v1)), (2, .ref (B + v2)), (3, .int v3), (4, .int v4)]) (Nat.le_of_ble_eq_true rfl) [0, 1, 2, 3, 4] rfl (z_fX3_enlarge_b134 C ht hr N k54 v0 v1 v2 v3 v4 M h0 h1 h2 hk54)
theorem z_fX3_enlarge_l54_i {p : Program} {l : Launch} {e : Env} {s : State} {m : MethodId} {args : Array Value} {below : List Frame} {meth : Method} {c : Code} {D : va_G} {cy : Nat → ClassId} {B : Nat} {kd : Nat → Nat} {n : Nat} {sa sv : Nat → Nat} (C : zC p l s m args meth c D cy B kd n sa sv RX3 cX3_enlarge 6) (ht : ∀ x ∈ c.exceptionTable.toList, False) (hr : meth.sig.returnType = some (FieldType.boolean)) {b0 : Bool × Mem} (N : Nat) (v0 : Nat) (v1 : Nat) (v2 : Nat) (v3 : Int32) (h0 : kd v0 = 3) (h1 : kd v1 = 5) (h2 : kd v2 = 6)  (fu : Nat) : ∀ (v4 : Int32) (M : Mem), Z p l e (rmz 5 0) s m args below meth c (vx_MQ below (QcR D cy B kd n (cvB b0)) (XcR D cy B kd n (cvB b0)) args s 0 (6 * 0) (AA B kd n)) D cy B kd n 6 b0 0 54 [(0, .ref (B + v0)), (1, .ref (B + v1)), (2, .ref (B + v2)), (3, .int v3), (4, .int v4)] [] M (fX3_enlarge_l54 N v0 v1 v2 v3 fu v4 M) := by
  induction fu with
  | zero => intro v4 M; exact z_none
  | succ fu ih => intro v4 M; exact z_fX3_enlarge_l54_s C ht hr N v0 v1 v2 v3 (fX3_enlarge_l54 N v0 v1 v2 v3 fu) v4 M h0 h1 h2 (fun v4 M => ih v4 M)
theorem z_fX3_enlarge_l54 {p : Program} {l : Launch} {e : Env} {s : State} {m : MethodId} {args : Array Value} {below : List Frame} {meth : Method} {c : Code} {D : va_G} {cy : Nat → ClassId} {B : Nat} {kd : Nat → Nat} {n : Nat} {sa sv : Nat → Nat} (C : zC p l s m args meth c D cy B kd n sa sv RX3 cX3_enlarge 6) (ht : ∀ x ∈ c.exceptionTable.toList, False) (hr : meth.sig.returnType = some (FieldType.boolean)) {b0 : Bool × Mem} (N : Nat) (v0 : Nat) (v1 : Nat) (v2 : Nat) (v3 : Int32) (fu : Nat) (v4 : Int32) (M : Mem) (h0 : kd v0 = 3) (h1 : kd v1 = 5) (h2 : kd v2 = 6)  : Z p l e (rmz 5 0) s m args below meth c (vx_MQ below (QcR D cy B kd n (cvB b0)) (XcR D cy B kd n (cvB b0)) args s 0 (6 * 0) (AA B kd n)) D cy B kd n 6 b0 0 54 [(0, .ref (B + v0)), (1, .ref (B + v1)), (2, .ref (B + v2)), (3, .int v3), (4, .int v4)] [] M (fX3_enlarge_l54 N v0 v1 v2 v3 fu v4 M) := z_fX3_enlarge_l54_i C ht hr N v0 v1 v2 v3 h0 h1 h2 fu v4 M
set_option maxHeartbeats 4000000 in
set_option maxRecDepth 100000 in
theorem z_fX3_enlarge_l8_s {p : Program} {l : Launch} {e : Env} {s : State} {m : MethodId} {args : Array Value} {below : List Frame} {meth : Method} {c : Code} {D : va_G} {cy : Nat → ClassId} {B : Nat} {kd : Nat → Nat} {n : Nat} {sa sv : Nat → Nat} (C : zC p l s m args meth c D cy B kd n sa sv RX3 cX3_enlarge 6) (ht : ∀ x ∈ c.exceptionTable.toList, False) (hr : meth.sig.returnType = some (FieldType.boolean)) {b0 : Bool × Mem} (N : Nat) (v0 : Nat) (v1 : Nat) (v2 : Nat) (v3 : Int32) (k8 : Int32 → Mem → Option (Bool × Mem)) (v4 : Int32) (M : Mem) (h0 : kd v0 = 3) (h1 : kd v1 = 5) (h2 : kd v2 = 6)  (hk8 : ∀ (v4 : Int32) (M : Mem), Z p l e (rmz 5 0) s m args below meth c (vx_MQ below (QcR D cy B kd n (cvB b0)) (XcR D cy B kd n (cvB b0)) args s 0 (6 * 0) (AA B kd n)) D cy B kd n 6 b0 0 8 [(0, .ref (B + v0)), (1, .ref (B + v1)), (2, .ref (B + v2)), (3, .int v3), (4, .int v4)] [] M (k8 v4 M)) : Z p l e (rmz 5 0) s m args below meth c (vx_MQ below (QcR D cy B kd n (cvB b0)) (XcR D cy B kd n (cvB b0)) args s 0 (6 * 0) (AA B kd n)) D cy B kd n 6 b0 0 8 [(0, .ref (B + v0)), (1, .ref (B + v1)), (2, .ref (B + v2)), (3, .int v3), (4, .int v4)] [] M (fX3_enlarge_l8_s N v0 v1 v2 v3 k8 v4 M) := by
  unfold fX3_enlarge_l8_s
  refine z_iload C 4 dX3_enlarge_8 rfl ?_
  refine z_aload_n C 0 0 dX3_enlarge_10 rfl rfl ?_
  refine z_getR (k := 3) C cl3 h0 rfl gw_2_55 rfl dX3_enlarge_11 ?_
  have j1 : kd (v0 + 4) = 33 := zkd C h0 (k := 3) rfl
  refine z_alen (v := 64) C j1 (by decide) rfl dX3_enlarge_14 ?_
  refine z_icmp_ge C 37 dX3_enlarge_15 rfl (fun _ => ?_) (fun _ => ?_)
  · refine z_aload_n C 1 1 dX3_enlarge_37 rfl rfl ?_
    refine z_callV_V (As := []) (rest := []) C rfl (ctX5_clearCells (zG_of C) N v1 h1 M) cw_RX3_78 rfl (okM_X5_clearCells) rfl cl5 h1 (okR_of rfl) (Nat.le_of_ble_eq_true rfl) dX3_enlarge_38 (fun qj2 _ => ?_)
    refine z_aload_n C 1 1 dX3_enlarge_41 rfl rfl ?_
    refine z_dup C dX3_enlarge_42 rfl ?_
    refine z_getI (k := 2) C cl5 h1 rfl gw_1_127 rfl dX3_enlarge_43 ?_
    refine z_iconst C dX3_enlarge_46 rfl ?_
    refine z_imul C dX3_enlarge_47 ?_
    refine z_putI (k := 2) C cl5 h1 rfl gw_1_127 rfl rfl rfl dX3_enlarge_48 ?_
    refine z_iconst C dX3_enlarge_51 rfl ?_
    refine z_istore C 4 (ls1 := [(4, .int (0 : Int32)), (0, .ref (B + v0)), (1, .ref (B + v1)), (2, .ref (B + v2)), (3, .int v3)]) dX3_enlarge_52 (by decide) rfl ?_
    exact z_jump (ls1 := [(0, .ref (B + v0)), (1, .ref (B + v1)), (2, .ref (B + v2)), (3, .int v3), (4, .int (0 : Int32))]) (Nat.le_of_ble_eq_true rfl) [1, 2, 3, 4, 0] rfl (z_fX3_enlarge_l54 C ht hr N v0 v1 v2 v3 N (0 : Int32) (wI qj2 v1 2 ((rI qj2 v1 2) * (2 : Int32))) h0 h1 h2)
  · refine z_aload_n C 0 0 dX3_enlarge_18 rfl rfl ?_
    refine z_getR (k := 3) C cl3 h0 rfl gw_2_55 rfl dX3_enlarge_19 ?_
    have j3 : kd (v0 + 4) = 33 := zkd C h0 (k := 3) rfl
    refine z_iload C 4 dX3_enlarge_22 rfl ?_
    refine z_aload_n C 1 1 dX3_enlarge_24 rfl rfl ?_
    refine z_iload C 4 dX3_enlarge_25 rfl ?_
    refine z_callV_pI (As := [.int v4]) (rest := [.int v4, .ref (B + (v0 + 4))]) C rfl (ctX5_cellAt (zG_of C) v1 v4 h1 M) cw_RX3_75 rfl (okM_X5_cellAt) rfl cl5 h1 (okR_of rfl) (Nat.le_of_ble_eq_true rfl) dX3_enlarge_27 (fun qj4 _ => ?_)
    refine z_iast C j3 rfl (by decide) dX3_enlarge_30 (fun _ => ?_)
    refine z_iinc C 4 4 (v := v4) (v1 := (v4 + (1 : Int32))) (ls1 := [(4, .int (v4 + (1 : Int32))), (0, .ref (B + v0)), (1, .ref (B + v1)), (2, .ref (B + v2)), (3, .int v3)]) dX3_enlarge_31 rfl rfl (by decide) rfl ?_
    refine z_goto C 8 dX3_enlarge_34 rfl ?_
    exact z_jump (ls1 := [(0, .ref (B + v0)), (1, .ref (B + v1)), (2, .ref (B + v2)), (3, .int v3), (4, .int (v4 + (1 : Int32)))]) (Nat.le_of_ble_eq_true rfl) [1, 2, 3, 4, 0] rfl (hk8 (v4 + (1 : Int32)) (wI M (v0 + 4) v4.toNatClampNeg qj4))
theorem z_fX3_enlarge_l8_i {p : Program} {l : Launch} {e : Env} {s : State} {m : MethodId} {args : Array Value} {below : List Frame} {meth : Method} {c : Code} {D : va_G} {cy : Nat → ClassId} {B : Nat} {kd : Nat → Nat} {n : Nat} {sa sv : Nat → Nat} (C : zC p l s m args meth c D cy B kd n sa sv RX3 cX3_enlarge 6) (ht : ∀ x ∈ c.exceptionTable.toList, False) (hr : meth.sig.returnType = some (FieldType.boolean)) {b0 : Bool × Mem} (N : Nat) (v0 : Nat) (v1 : Nat) (v2 : Nat) (v3 : Int32) (h0 : kd v0 = 3) (h1 : kd v1 = 5) (h2 : kd v2 = 6)  (fu : Nat) : ∀ (v4 : Int32) (M : Mem), Z p l e (rmz 5 0) s m args below meth c (vx_MQ below (QcR D cy B kd n (cvB b0)) (XcR D cy B kd n (cvB b0)) args s 0 (6 * 0) (AA B kd n)) D cy B kd n 6 b0 0 8 [(0, .ref (B + v0)), (1, .ref (B + v1)), (2, .ref (B + v2)), (3, .int v3), (4, .int v4)] [] M (fX3_enlarge_l8 N v0 v1 v2 v3 fu v4 M) := by
  induction fu with
  | zero => intro v4 M; exact z_none
  | succ fu ih => intro v4 M; exact z_fX3_enlarge_l8_s C ht hr N v0 v1 v2 v3 (fX3_enlarge_l8 N v0 v1 v2 v3 fu) v4 M h0 h1 h2 (fun v4 M => ih v4 M)
theorem z_fX3_enlarge_l8 {p : Program} {l : Launch} {e : Env} {s : State} {m : MethodId} {args : Array Value} {below : List Frame} {meth : Method} {c : Code} {D : va_G} {cy : Nat → ClassId} {B : Nat} {kd : Nat → Nat} {n : Nat} {sa sv : Nat → Nat} (C : zC p l s m args meth c D cy B kd n sa sv RX3 cX3_enlarge 6) (ht : ∀ x ∈ c.exceptionTable.toList, False) (hr : meth.sig.returnType = some (FieldType.boolean)) {b0 : Bool × Mem} (N : Nat) (v0 : Nat) (v1 : Nat) (v2 : Nat) (v3 : Int32) (fu : Nat) (v4 : Int32) (M : Mem) (h0 : kd v0 = 3) (h1 : kd v1 = 5) (h2 : kd v2 = 6)  : Z p l e (rmz 5 0) s m args below meth c (vx_MQ below (QcR D cy B kd n (cvB b0)) (XcR D cy B kd n (cvB b0)) args s 0 (6 * 0) (AA B kd n)) D cy B kd n 6 b0 0 8 [(0, .ref (B + v0)), (1, .ref (B + v1)), (2, .ref (B + v2)), (3, .int v3), (4, .int v4)] [] M (fX3_enlarge_l8 N v0 v1 v2 v3 fu v4 M) := z_fX3_enlarge_l8_i C ht hr N v0 v1 v2 v3 h0 h1 h2 fu v4 M
set_option maxHeartbeats 4000000 in
set_option maxRecDepth 100000 in
theorem ctX3_enlarge {l : Launch} {D : va_G} {cy : Nat → ClassId} {B : Nat} {kd : Nat → Nat} {n : Nat} {sa sv : Nat → Nat} (G : zG l kd n) (N : Nat) (v0 : Nat) (v1 : Nat) (v2 : Nat) (h0 : kd v0 = 3) (h1 : kd v1 = 5) (h2 : kd v2 = 6) (M : Mem) : CT l D cy B kd n sa sv 5 0 yX3_enlarge cX3_enlarge 6 (some (FieldType.boolean)) cvB [.ref (B + v0), .ref (B + v1), .ref (B + v2)] M (fX3_enlarge N v0 v1 v2 M) := by
  refine ct_of (by decide) G.1 G.2 (Nat.le_of_ble_eq_true rfl) (ls := [(0, .ref (B + v0)), (1, .ref (B + v1)), (2, .ref (B + v2))]) rfl ?_
  intro p e s m args below meth c b0 C ht hr
  unfold fX3_enlarge
  refine z_aload_n C 1 1 dX3_enlarge_0 rfl rfl ?_
  refine z_getI (k := 6) C cl5 h1 rfl gw_1_143 rfl dX3_enlarge_1 ?_
  refine z_istore_n C 3 (ls1 := [(3, .int (rI M v1 6)), (0, .ref (B + v0)), (1, .ref (B + v1)), (2, .ref (B + v2))]) dX3_enlarge_4 rfl (by decide) rfl ?_
  refine z_iconst C dX3_enlarge_5 rfl ?_
  refine z_istore C 4 (ls1 := [(4, .int (0 : Int32)), (3, .int (rI M v1 6)), (0, .ref (B + v0)), (1, .ref (B + v1)), (2, .ref (B + v2))]) dX3_enlarge_6 (by decide) rfl ?_
  exact z_jump (ls1 := [(0, .ref (B + v0)), (1, .ref (B + v1)), (2, .ref (B + v2)), (3, .int (rI M v1 6)), (4, .int (0 : Int32))]) (Nat.le_of_ble_eq_true rfl) [2, 3, 4, 1, 0] rfl (z_fX3_enlarge_l8 C ht hr N v0 v1 v2 (rI M v1 6) N (0 : Int32) M h0 h1 h2)
