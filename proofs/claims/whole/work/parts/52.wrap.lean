/-! L_rules -/
def fL_rules (N : Nat) (v0 : Nat) (v1 : Int32) (v2 : Nat) (M : Mem) : Option (Int32 × Mem) :=
  hb (fX10_rules N v0 v1 M) (fun qj1 Mj1 => if inB (0 : Int32) 1 = true then some ((0 : Int32), wJ Mj1 v2 ((0 : Int32).toNatClampNeg) qj1.toInt64) else none) (fun k Mj1 => if k = 3 then some ((1 : Int32), Mj1) else none)
/-! L_value -/
def fL_value (N : Nat) (v0 : Nat) (v1 : Int32) (v2 : Int32) (v3 : Int32) (v4 : Nat) (M : Mem) : Option (Int32 × Mem) :=
  hb (fX10_value N v0 v1 v2 v3 M) (fun qj1 Mj1 => if inB (0 : Int32) 1 = true then some ((0 : Int32), wJ Mj1 v4 ((0 : Int32).toNatClampNeg) qj1.toInt64) else none) (fun k Mj1 => if k = 1 then some ((1 : Int32), Mj1) else if k = 3 then some ((2 : Int32), Mj1) else none)
/-! L_place -/
def fL_place (N : Nat) (v0 : Nat) (v1 : Int32) (v2 : Int32) (v3 : Int32) (v4 : Nat) (M : Mem) : Option (Int32 × Mem) :=
  hb (fX10_place N v0 v1 v2 v3 M) (fun qj1 Mj1 => if inB (0 : Int32) 1 = true then some ((0 : Int32), wJ Mj1 v4 ((0 : Int32).toNatClampNeg) qj1.toInt64) else none) (fun k Mj1 => if k = 1 then some ((1 : Int32), Mj1) else if k = 3 then some ((2 : Int32), Mj1) else none)
/-! L_tag -/
def fL_tag (v0 : Nat) (v1 : Int32) (v2 : Nat) (M : Mem) : Option (Int32 × Mem) :=
  hb (fX10_tag v0 v1 M) (fun qj1 Mj1 => if inB (0 : Int32) 1 = true then some ((0 : Int32), wJ Mj1 v2 ((0 : Int32).toNatClampNeg) qj1.toInt64) else none) (fun k Mj1 => if k = 3 then some ((1 : Int32), Mj1) else none)
/-! L_make -/
def fL_make (N : Nat) (v0 : Nat) (v1 : Int32) (v2 : Int32) (v3 : Int32) (v4 : Int32) (v5 : Int32) (M : Mem) : Option (Int32 × Mem) :=
  hb (fX10_make N v0 v1 v2 v3 v4 v5 M) (fun qj1 Mj1 => some ((0 : Int32), Mj1)) (fun k Mj1 => if k = 1 then some ((1 : Int32), Mj1) else if k = 3 then some ((2 : Int32), Mj1) else none)
/-! L_of -/
def fL_of (N : Nat) (v0 : Nat) (v1 : Int32) (v2 : Int32) (v3 : Nat) (M : Mem) : Option (Int32 × Mem) :=
  hb (fX10_of N v0 v1 v2 M) (fun qj1 Mj1 => if inB (0 : Int32) 1 = true then some ((0 : Int32), wJ Mj1 v3 ((0 : Int32).toNatClampNeg) qj1.toInt64) else none) (fun k Mj1 => if k = 1 then some ((1 : Int32), Mj1) else if k = 3 then some ((2 : Int32), Mj1) else none)
/-! L_cell -/
def fL_cell (N : Nat) (v0 : Nat) (v1 : Int32) (v2 : Int32) (v3 : Nat) (M : Mem) : Option (Int32 × Mem) :=
  hb (fX10_cell N v0 v1 v2 M) (fun qj1 Mj1 => if inB (0 : Int32) 1 = true then some ((0 : Int32), wJ Mj1 v3 ((0 : Int32).toNatClampNeg) qj1.toInt64) else none) (fun k Mj1 => if k = 1 then some ((1 : Int32), Mj1) else if k = 4 then some ((2 : Int32), Mj1) else none)
/-! L_guest -/
def fL_guest (v0 : Nat) (v1 : Int32) (v2 : Int32) (v3 : Int32) (v4 : Nat) (M : Mem) : Option (Int32 × Mem) :=
  hb (fX10_guest v0 v1 v2 v3 M) (fun qj1 Mj1 => if inB (0 : Int32) 1 = true then some ((0 : Int32), wJ Mj1 v4 ((0 : Int32).toNatClampNeg) qj1.toInt64) else none) (fun k Mj1 => if k = 1 then some ((1 : Int32), Mj1) else if k = 2 then some ((2 : Int32), Mj1) else if k = 4 then some ((3 : Int32), Mj1) else none)
/-! L_yes -/
def fL_yes_b16 (N : Nat) (s0 : Int64) (s1 : Bool) (s2 : Nat) (M : Mem) : Option (Int32 × Mem) :=
  if inB (bI s1) 1 = true then some ((0 : Int32), wJ M s2 ((bI s1).toNatClampNeg) s0) else none
def fL_yes (N : Nat) (v0 : Nat) (v1 : Int32) (v2 : Int32) (v3 : Nat) (M : Mem) : Option (Int32 × Mem) :=
  hb (fX10_yes N v0 v1 v2 M) (fun qj1 Mj1 => if qj1 = true then fL_yes_b16 N (1 : Int64) false v3 Mj1 else fL_yes_b16 N (0 : Int64) false v3 Mj1) (fun k Mj1 => if k = 1 then some ((1 : Int32), Mj1) else if k = 3 then some ((2 : Int32), Mj1) else none)
/-! L_isPut -/
def fL_isPut_b16  (s0 : Int64) (s1 : Bool) (s2 : Nat) (M : Mem) : Option (Int32 × Mem) :=
  if inB (bI s1) 1 = true then some ((0 : Int32), wJ M s2 ((bI s1).toNatClampNeg) s0) else none
def fL_isPut (v0 : Nat) (v1 : Int32) (v2 : Int32) (v3 : Nat) (M : Mem) : Option (Int32 × Mem) :=
  hb (fX10_isPut v0 v1 v2 M) (fun qj1 Mj1 => if qj1 = true then fL_isPut_b16 (1 : Int64) false v3 Mj1 else fL_isPut_b16 (0 : Int64) false v3 Mj1) (fun k Mj1 => if k = 1 then some ((1 : Int32), Mj1) else if k = 3 then some ((2 : Int32), Mj1) else none)
/-! L_put -/
def fL_put (N : Nat) (v0 : Nat) (v1 : Int32) (v2 : Int32) (v3 : Nat) (M : Mem) : Option (Int32 × Mem) :=
  hb (fX10_put N v0 v1 v2 M) (fun qj1 Mj1 => if inB (0 : Int32) 1 = true then some ((0 : Int32), wJ Mj1 v3 ((0 : Int32).toNatClampNeg) qj1.toInt64) else none) (fun k Mj1 => if k = 1 then some ((1 : Int32), Mj1) else if k = 2 then some ((2 : Int32), Mj1) else if k = 3 then some ((3 : Int32), Mj1) else none)
/-! L_take -/
def fL_take_b16 (N : Nat) (s0 : Int64) (s1 : Bool) (s2 : Nat) (M : Mem) : Option (Int32 × Mem) :=
  if inB (bI s1) 1 = true then some ((0 : Int32), wJ M s2 ((bI s1).toNatClampNeg) s0) else none
def fL_take (N : Nat) (v0 : Nat) (v1 : Int32) (v2 : Int32) (v3 : Nat) (M : Mem) : Option (Int32 × Mem) :=
  hb (fX10_take N v0 v1 v2 M) (fun qj1 Mj1 => if qj1 = true then fL_take_b16 N (1 : Int64) false v3 Mj1 else fL_take_b16 N (0 : Int64) false v3 Mj1) (fun k Mj1 => if k = 1 then some ((1 : Int32), Mj1) else if k = 2 then some ((2 : Int32), Mj1) else if k = 3 then some ((3 : Int32), Mj1) else none)
/-! L_join -/
def fL_join (N : Nat) (v0 : Nat) (v1 : Int32) (v2 : Int32) (v3 : Nat) (M : Mem) : Option (Int32 × Mem) :=
  hb (fX10_join N v0 v1 v2 M) (fun qj1 Mj1 => if inB (0 : Int32) 1 = true then some ((0 : Int32), wJ Mj1 v3 ((0 : Int32).toNatClampNeg) qj1.toInt64) else none) (fun k Mj1 => if k = 1 then some ((1 : Int32), Mj1) else if k = 2 then some ((2 : Int32), Mj1) else if k = 3 then some ((3 : Int32), Mj1) else none)
/-! L_halve -/
def fL_halve (N : Nat) (v0 : Nat) (v1 : Int32) (v2 : Nat) (M : Mem) : Option (Int32 × Mem) :=
  hb (fX10_halve N v0 v1 M) (fun qj1 Mj1 => if inB (0 : Int32) 1 = true then some ((0 : Int32), wJ Mj1 v2 ((0 : Int32).toNatClampNeg) qj1.toInt64) else none) (fun k Mj1 => if k = 1 then some ((1 : Int32), Mj1) else if k = 2 then some ((2 : Int32), Mj1) else none)
/-! L_grow -/
def fL_grow (N : Nat) (v0 : Nat) (v1 : Int32) (v2 : Nat) (M : Mem) : Option (Int32 × Mem) :=
  hb (fX10_grow N v0 v1 M) (fun qj1 Mj1 => if inB (0 : Int32) 1 = true then some ((0 : Int32), wJ Mj1 v2 ((0 : Int32).toNatClampNeg) qj1.toInt64) else none) (fun k Mj1 => if k = 1 then some ((1 : Int32), Mj1) else if k = 2 then some ((2 : Int32), Mj1) else none)
/-! L_solve -/
def fL_solve (N : Nat) (v0 : Nat) (v1 : Int32) (v2 : Int32) (v3 : Nat) (M : Mem) : Option (Int32 × Mem) :=
  hb (fX10_solve N v0 v1 v2 M) (fun qj1 Mj1 => if inB (0 : Int32) 1 = true then some ((0 : Int32), wJ Mj1 v3 ((0 : Int32).toNatClampNeg) qj1.toInt64) else none) (fun k Mj1 => if k = 1 then some ((1 : Int32), Mj1) else if k = 2 then some ((2 : Int32), Mj1) else if k = 3 then some ((3 : Int32), Mj1) else none)
/-! L_lying -/
def fL_lying_b15 (N : Nat) (s0 : Int64) (s1 : Bool) (s2 : Nat) (M : Mem) : Option (Int32 × Mem) :=
  if inB (bI s1) 1 = true then some ((0 : Int32), wJ M s2 ((bI s1).toNatClampNeg) s0) else none
def fL_lying (N : Nat) (v0 : Nat) (v1 : Int32) (v2 : Nat) (M : Mem) : Option (Int32 × Mem) :=
  hb (fX10_lying N v0 v1 M) (fun qj1 Mj1 => if qj1 = true then fL_lying_b15 N (1 : Int64) false v2 Mj1 else fL_lying_b15 N (0 : Int64) false v2 Mj1) (fun k Mj1 => if k = 1 then some ((1 : Int32), Mj1) else none)
/-! L_lie -/
def fL_lie (N : Nat) (v0 : Nat) (v1 : Int32) (v2 : Int32) (v3 : Nat) (M : Mem) : Option (Int32 × Mem) :=
  hb (fX10_lie N v0 v1 v2 M) (fun qj1 Mj1 => if inB (0 : Int32) 1 = true then some ((0 : Int32), wJ Mj1 v3 ((0 : Int32).toNatClampNeg) qj1.toInt64) else none) (fun k Mj1 => if k = 1 then some ((1 : Int32), Mj1) else none)
/-! L_wronged -/
def fL_wronged (N : Nat) (v0 : Nat) (v1 : Int32) (v2 : Int32) (v3 : Int32) (v4 : Nat) (M : Mem) : Option (Int32 × Mem) :=
  hb (fX10_wronged N v0 v1 v2 v3 M) (fun qj1 Mj1 => if inB (0 : Int32) 1 = true then some ((0 : Int32), wJ Mj1 v4 ((0 : Int32).toNatClampNeg) qj1.toInt64) else none) (fun k Mj1 => if k = 1 then some ((1 : Int32), Mj1) else if k = 2 then some ((2 : Int32), Mj1) else none)
/-! L_worse -/
def fL_worse (N : Nat) (v0 : Nat) (v1 : Int32) (v2 : Int32) (v3 : Nat) (M : Mem) : Option (Int32 × Mem) :=
  hb (fX10_worse N v0 v1 v2 M) (fun qj1 Mj1 => if inB (0 : Int32) 1 = true then some ((0 : Int32), wJ Mj1 v3 ((0 : Int32).toNatClampNeg) qj1.toInt64) else none) (fun k Mj1 => if k = 1 then some ((1 : Int32), Mj1) else none)
/-! L_cascade -/
def fL_cascade (N : Nat) (v0 : Nat) (v1 : Int32) (v2 : Int32) (v3 : Int32) (v4 : Int32) (v5 : Nat) (M : Mem) : Option (Int32 × Mem) :=
  hb (fX10_cascade N v0 v1 v2 v3 v4 M) (fun qj1 Mj1 => if inB (0 : Int32) 1 = true then some ((0 : Int32), wJ Mj1 v5 ((0 : Int32).toNatClampNeg) qj1.toInt64) else none) (fun k Mj1 => if k = 1 then some ((1 : Int32), Mj1) else if k = 2 then some ((2 : Int32), Mj1) else if k = 3 then some ((3 : Int32), Mj1) else none)
/-! L_learn -/
def fL_learn (N : Nat) (v0 : Nat) (v1 : Int32) (v2 : Int32) (v3 : Int32) (v4 : Nat) (M : Mem) : Option (Int32 × Mem) :=
  hb (fX10_learn N v0 v1 v2 v3 M) (fun qj1 Mj1 => if inB (0 : Int32) 1 = true then some ((0 : Int32), wJ Mj1 v4 ((0 : Int32).toNatClampNeg) qj1.toInt64) else none) (fun k Mj1 => if k = 1 then some ((1 : Int32), Mj1) else if k = 2 then some ((2 : Int32), Mj1) else if k = 3 then some ((3 : Int32), Mj1) else none)
/-! L_ask -/
def fL_ask (N : Nat) (v0 : Nat) (v1 : Int32) (v2 : Int32) (v3 : Nat) (M : Mem) : Option (Int32 × Mem) :=
  hb (fX10_ask N v0 v1 v2 M) (fun qj1 Mj1 => if inB (0 : Int32) 1 = true then some ((0 : Int32), wJ Mj1 v3 ((0 : Int32).toNatClampNeg) qj1.toInt64) else none) (fun k Mj1 => if k = 1 then some ((1 : Int32), Mj1) else if k = 2 then some ((2 : Int32), Mj1) else if k = 3 then some ((3 : Int32), Mj1) else none)
/-! L_worst -/
def fL_worst (N : Nat) (v0 : Nat) (v1 : Int32) (v2 : Int32) (v3 : Nat) (M : Mem) : Option (Int32 × Mem) :=
  hb (fX10_worst N v0 v1 v2 M) (fun qj1 Mj1 => if inB (0 : Int32) 1 = true then some ((0 : Int32), wJ Mj1 v3 ((0 : Int32).toNatClampNeg) qj1.toInt64) else none) (fun k Mj1 => if k = 1 then some ((1 : Int32), Mj1) else if k = 2 then some ((2 : Int32), Mj1) else if k = 3 then some ((3 : Int32), Mj1) else none)
/-! L_blame -/
def fL_blame (N : Nat) (v0 : Nat) (v1 : Int32) (v2 : Int32) (v3 : Nat) (M : Mem) : Option (Int32 × Mem) :=
  hb (fX10_blame N v0 v1 v2 M) (fun qj1 Mj1 => if inB (0 : Int32) 1 = true then some ((0 : Int32), wJ Mj1 v3 ((0 : Int32).toNatClampNeg) qj1.toInt64) else none) (fun k Mj1 => if k = 1 then some ((1 : Int32), Mj1) else if k = 2 then some ((2 : Int32), Mj1) else if k = 3 then some ((3 : Int32), Mj1) else none)
/-! L_choose -/
def fL_choose (N : Nat) (v0 : Nat) (v1 : Int32) (v2 : Int32) (v3 : Int32) (v4 : Nat) (M : Mem) : Option (Int32 × Mem) :=
  hb (fX10_choose N v0 v1 v2 v3 M) (fun qj1 Mj1 => if inB (0 : Int32) 1 = true then some ((0 : Int32), wJ Mj1 v4 ((0 : Int32).toNatClampNeg) qj1.toInt64) else none) (fun k Mj1 => if k = 1 then some ((1 : Int32), Mj1) else if k = 3 then some ((2 : Int32), Mj1) else none)
/-! L_tray -/
def fL_tray (N : Nat) (v0 : Nat) (v1 : Int32) (v2 : Int32) (v3 : Int32) (M : Mem) : Option (Int32 × Mem) :=
  hb (fX10_tray N v0 v1 v2 v3 M) (fun qj1 Mj1 => some ((0 : Int32), Mj1)) (fun k Mj1 => if k = 1 then some ((1 : Int32), Mj1) else if k = 3 then some ((2 : Int32), Mj1) else none)
/-! L_write -/
def fL_write (v0 : Nat) (v1 : Int32) (v2 : Int32) (v3 : Int64) (v5 : Nat) (M : Mem) : Option (Int32 × Mem) :=
  hb (fX10_write v0 v1 v2 v3 M) (fun qj1 Mj1 => if inB (0 : Int32) 1 = true then some ((0 : Int32), wJ Mj1 v5 ((0 : Int32).toNatClampNeg) qj1) else none) (fun k Mj1 => if k = 1 then some ((1 : Int32), Mj1) else if k = 2 then some ((2 : Int32), Mj1) else if k = 4 then some ((3 : Int32), Mj1) else none)
/-! L_pour -/
def fL_pour (N : Nat) (v0 : Nat) (v1 : Int32) (v2 : Int32) (v3 : Nat) (M : Mem) : Option (Int32 × Mem) :=
  hb (fX10_pour N v0 v1 v2 M) (fun qj1 Mj1 => if inB (0 : Int32) 1 = true then some ((0 : Int32), wJ Mj1 v3 ((0 : Int32).toNatClampNeg) qj1.toInt64) else none) (fun k Mj1 => if k = 1 then some ((1 : Int32), Mj1) else if k = 2 then some ((2 : Int32), Mj1) else none)
/-! L_image -/
def fL_image (N : Nat) (v0 : Nat) (v1 : Int32) (M : Mem) : Option (Int32 × Mem) :=
  hb (fX10_image N v0 v1 M) (fun qj1 Mj1 => some ((0 : Int32), Mj1)) (fun k Mj1 => if k = 1 then some ((1 : Int32), Mj1) else none)
/-! L_restore -/
def fL_restore (N : Nat) (v0 : Nat) (v1 : Int32) (M : Mem) : Option (Int32 × Mem) :=
  hb (fX10_restore N v0 v1 M) (fun qj1 Mj1 => some ((0 : Int32), Mj1)) (fun k Mj1 => if k = 1 then some ((1 : Int32), Mj1) else if k = 2 then some ((2 : Int32), Mj1) else none)
set_option maxHeartbeats 4000000 in
set_option maxRecDepth 100000 in
theorem ctL_rules {l : Launch} {D : va_G} {cy : Nat → ClassId} {B : Nat} {kd : Nat → Nat} {n : Nat} {sa sv : Nat → Nat} (G : zG l kd n) (N : Nat) (v0 : Nat) (v1 : Int32) (v2 : Nat) (h0 : kd v0 = 10) (h2 : kd v2 = 47) (M : Mem) : CTH l D cy B kd n sa sv 9 1 yL_rules cL_rules 4 (some (FieldType.int)) [(0, 9, 12, 13)] cvI [.ref (B + v0), .int v1, .ref (B + v2)] M (fL_rules N v0 v1 v2 M) := by
  refine ct_ofH (by decide) G.1 G.2 (Nat.le_of_ble_eq_true rfl) (ls := [(0, .ref (B + v0)), (1, .int v1), (2, .ref (B + v2))]) rfl ?_
  intro p e s m args below meth c b0 C ht hr
  unfold fL_rules
  refine z_aload_n C 2 2 dL_rules_0 rfl rfl ?_
  refine z_iconst C dL_rules_1 rfl ?_
  refine z_aload_n C 0 0 dL_rules_2 rfl rfl ?_
  refine z_iload_n C 1 1 dL_rules_3 rfl rfl ?_
  refine z_callC_I (As := [.int v1]) (rest := [.int (0 : Int32), .ref (B + v2)]) C rfl (ctX10_rules (zG_of C) N v0 v1 h0 M) cw_RL_7 rfl (okM_X10_rules) rfl cl10 h0 (okR_of rfl) (Nat.le_of_ble_eq_true rfl) dL_rules_4 (fun qj1 Mj1 _ => ?_) (fun kc Mj1 _ => ?_)
  · refine z_i2l C dL_rules_7 ?_
    refine z_last C h2 rfl (by decide) dL_rules_8 (fun _ => ?_)
    refine z_goto C 15 dL_rules_9 rfl ?_
    refine z_iconst C dL_rules_15 rfl ?_
    exact z_iret C hr (Nat.le_of_ble_eq_true rfl) dL_rules_16 rfl
  · refine zx_ite (fun hk9 => ?_) (fun _ => ?_)
    · subst hk9
      refine zx_catch C ht [] [] (0, 9, 12, 13) rfl (fun z h => nomatch h) (by decide) (by decide) gw_2_231 castEx3 (fun q9j10 => ?_)
      refine z_astore_n C 3 (ls1 := [(3, .ref q9j10), (0, .ref (B + v0)), (1, .int v1), (2, .ref (B + v2))]) dL_rules_12 rfl (by decide) rfl ?_
      refine z_iconst C dL_rules_13 rfl ?_
      exact z_iret C hr (Nat.le_of_ble_eq_true rfl) dL_rules_14 rfl
    exact zx_none
set_option maxHeartbeats 4000000 in
set_option maxRecDepth 100000 in
theorem ctL_value {l : Launch} {D : va_G} {cy : Nat → ClassId} {B : Nat} {kd : Nat → Nat} {n : Nat} {sa sv : Nat → Nat} (G : zG l kd n) (N : Nat) (v0 : Nat) (v1 : Int32) (v2 : Int32) (v3 : Int32) (v4 : Nat) (h0 : kd v0 = 10) (h4 : kd v4 = 47) (M : Mem) : CTH l D cy B kd n sa sv 3 1 yL_value cL_value 6 (some (FieldType.int)) [(0, 12, 15, 19), (0, 12, 19, 13)] cvI [.ref (B + v0), .int v1, .int v2, .int v3, .ref (B + v4)] M (fL_value N v0 v1 v2 v3 v4 M) := by
  refine ct_ofH (by decide) G.1 G.2 (Nat.le_of_ble_eq_true rfl) (ls := [(0, .ref (B + v0)), (1, .int v1), (2, .int v2), (3, .int v3), (4, .ref (B + v4))]) rfl ?_
  intro p e s m args below meth c b0 C ht hr
  unfold fL_value
  refine z_aload C 4 dL_value_0 rfl ?_
  refine z_iconst C dL_value_2 rfl ?_
  refine z_aload_n C 0 0 dL_value_3 rfl rfl ?_
  refine z_iload_n C 1 1 dL_value_4 rfl rfl ?_
  refine z_iload_n C 2 2 dL_value_5 rfl rfl ?_
  refine z_iload_n C 3 3 dL_value_6 rfl rfl ?_
  refine z_callC_I (As := [.int v1, .int v2, .int v3]) (rest := [.int (0 : Int32), .ref (B + v4)]) C rfl (ctX10_value (zG_of C) N v0 v1 v2 v3 h0 M) cw_RL_15 rfl (okM_X10_value) rfl cl10 h0 (okR_of rfl) (Nat.le_of_ble_eq_true rfl) dL_value_7 (fun qj1 Mj1 _ => ?_) (fun kc Mj1 _ => ?_)
  · refine z_i2l C dL_value_10 ?_
    refine z_last C h4 rfl (by decide) dL_value_11 (fun _ => ?_)
    refine z_goto C 23 dL_value_12 rfl ?_
    refine z_iconst C dL_value_23 rfl ?_
    exact z_iret C hr (Nat.le_of_ble_eq_true rfl) dL_value_24 rfl
  · refine zx_ite (fun hk9 => ?_) (fun _ => ?_)
    · subst hk9
      refine zx_catch C ht [] [(0, 12, 19, 13)] (0, 12, 15, 19) rfl (fun z h => nomatch h) (by decide) (by decide) gw_4_47 castEx1 (fun q9j10 => ?_)
      refine z_astore C 5 (ls1 := [(5, .ref q9j10), (0, .ref (B + v0)), (1, .int v1), (2, .int v2), (3, .int v3), (4, .ref (B + v4))]) dL_value_15 (by decide) rfl ?_
      refine z_iconst C dL_value_17 rfl ?_
      exact z_iret C hr (Nat.le_of_ble_eq_true rfl) dL_value_18 rfl
    refine zx_ite (fun hk9 => ?_) (fun _ => ?_)
    · subst hk9
      refine zx_catch C ht [(0, 12, 15, 19)] [] (0, 12, 19, 13) rfl (List.forall_mem_cons.mpr ⟨⟨by decide, 1, gw_4_47, by decide⟩, fun z h => nomatch h⟩) (by decide) (by decide) gw_2_231 castEx3 (fun q9j11 => ?_)
      refine z_astore C 5 (ls1 := [(5, .ref q9j11), (0, .ref (B + v0)), (1, .int v1), (2, .int v2), (3, .int v3), (4, .ref (B + v4))]) dL_value_19 (by decide) rfl ?_
      refine z_iconst C dL_value_21 rfl ?_
      exact z_iret C hr (Nat.le_of_ble_eq_true rfl) dL_value_22 rfl
    exact zx_none
set_option maxHeartbeats 4000000 in
set_option maxRecDepth 100000 in
theorem ctL_place {l : Launch} {D : va_G} {cy : Nat → ClassId} {B : Nat} {kd : Nat → Nat} {n : Nat} {sa sv : Nat → Nat} (G : zG l kd n) (N : Nat) (v0 : Nat) (v1 : Int32) (v2 : Int32) (v3 : Int32) (v4 : Nat) (h0 : kd v0 = 10) (h4 : kd v4 = 47) (M : Mem) : CTH l D cy B kd n sa sv 3 1 yL_place cL_place 6 (some (FieldType.int)) [(0, 12, 15, 19), (0, 12, 19, 13)] cvI [.ref (B + v0), .int v1, .int v2, .int v3, .ref (B + v4)] M (fL_place N v0 v1 v2 v3 v4 M) := by
  refine ct_ofH (by decide) G.1 G.2 (Nat.le_of_ble_eq_true rfl) (ls := [(0, .ref (B + v0)), (1, .int v1), (2, .int v2), (3, .int v3), (4, .ref (B + v4))]) rfl ?_
  intro p e s m args below meth c b0 C ht hr
  unfold fL_place
  refine z_aload C 4 dL_place_0 rfl ?_
  refine z_iconst C dL_place_2 rfl ?_
  refine z_aload_n C 0 0 dL_place_3 rfl rfl ?_
  refine z_iload_n C 1 1 dL_place_4 rfl rfl ?_
  refine z_iload_n C 2 2 dL_place_5 rfl rfl ?_
  refine z_iload_n C 3 3 dL_place_6 rfl rfl ?_
  refine z_callC_I (As := [.int v1, .int v2, .int v3]) (rest := [.int (0 : Int32), .ref (B + v4)]) C rfl (ctX10_place (zG_of C) N v0 v1 v2 v3 h0 M) cw_RL_21 rfl (okM_X10_place) rfl cl10 h0 (okR_of rfl) (Nat.le_of_ble_eq_true rfl) dL_place_7 (fun qj1 Mj1 _ => ?_) (fun kc Mj1 _ => ?_)
  · refine z_i2l C dL_place_10 ?_
    refine z_last C h4 rfl (by decide) dL_place_11 (fun _ => ?_)
    refine z_goto C 23 dL_place_12 rfl ?_
    refine z_iconst C dL_place_23 rfl ?_
    exact z_iret C hr (Nat.le_of_ble_eq_true rfl) dL_place_24 rfl
  · refine zx_ite (fun hk9 => ?_) (fun _ => ?_)
    · subst hk9
      refine zx_catch C ht [] [(0, 12, 19, 13)] (0, 12, 15, 19) rfl (fun z h => nomatch h) (by decide) (by decide) gw_4_47 castEx1 (fun q9j10 => ?_)
      refine z_astore C 5 (ls1 := [(5, .ref q9j10), (0, .ref (B + v0)), (1, .int v1), (2, .int v2), (3, .int v3), (4, .ref (B + v4))]) dL_place_15 (by decide) rfl ?_
      refine z_iconst C dL_place_17 rfl ?_
      exact z_iret C hr (Nat.le_of_ble_eq_true rfl) dL_place_18 rfl
    refine zx_ite (fun hk9 => ?_) (fun _ => ?_)
    · subst hk9
      refine zx_catch C ht [(0, 12, 15, 19)] [] (0, 12, 19, 13) rfl (List.forall_mem_cons.mpr ⟨⟨by decide, 1, gw_4_47, by decide⟩, fun z h => nomatch h⟩) (by decide) (by decide) gw_2_231 castEx3 (fun q9j11 => ?_)
      refine z_astore C 5 (ls1 := [(5, .ref q9j11), (0, .ref (B + v0)), (1, .int v1), (2, .int v2), (3, .int v3), (4, .ref (B + v4))]) dL_place_19 (by decide) rfl ?_
      refine z_iconst C dL_place_21 rfl ?_
      exact z_iret C hr (Nat.le_of_ble_eq_true rfl) dL_place_22 rfl
    exact zx_none
set_option maxHeartbeats 4000000 in
set_option maxRecDepth 100000 in
theorem ctL_tag {l : Launch} {D : va_G} {cy : Nat → ClassId} {B : Nat} {kd : Nat → Nat} {n : Nat} {sa sv : Nat → Nat} (G : zG l kd n) (v0 : Nat) (v1 : Int32) (v2 : Nat) (h0 : kd v0 = 10) (h2 : kd v2 = 47) (M : Mem) : CTH l D cy B kd n sa sv 3 1 yL_tag cL_tag 4 (some (FieldType.int)) [(0, 9, 12, 13)] cvI [.ref (B + v0), .int v1, .ref (B + v2)] M (fL_tag v0 v1 v2 M) := by
  refine ct_ofH (by decide) G.1 G.2 (Nat.le_of_ble_eq_true rfl) (ls := [(0, .ref (B + v0)), (1, .int v1), (2, .ref (B + v2))]) rfl ?_
  intro p e s m args below meth c b0 C ht hr
  unfold fL_tag
  refine z_aload_n C 2 2 dL_tag_0 rfl rfl ?_
  refine z_iconst C dL_tag_1 rfl ?_
  refine z_aload_n C 0 0 dL_tag_2 rfl rfl ?_
  refine z_iload_n C 1 1 dL_tag_3 rfl rfl ?_
  refine z_callC_I (As := [.int v1]) (rest := [.int (0 : Int32), .ref (B + v2)]) C rfl (ctX10_tag (zG_of C) v0 v1 h0 M) cw_RL_24 rfl (okM_X10_tag) rfl cl10 h0 (okR_of rfl) (Nat.le_of_ble_eq_true rfl) dL_tag_4 (fun qj1 Mj1 _ => ?_) (fun kc Mj1 _ => ?_)
  · refine z_i2l C dL_tag_7 ?_
    refine z_last C h2 rfl (by decide) dL_tag_8 (fun _ => ?_)
    refine z_goto C 15 dL_tag_9 rfl ?_
    refine z_iconst C dL_tag_15 rfl ?_
    exact z_iret C hr (Nat.le_of_ble_eq_true rfl) dL_tag_16 rfl
  · refine zx_ite (fun hk9 => ?_) (fun _ => ?_)
    · subst hk9
      refine zx_catch C ht [] [] (0, 9, 12, 13) rfl (fun z h => nomatch h) (by decide) (by decide) gw_2_231 castEx3 (fun q9j10 => ?_)
      refine z_astore_n C 3 (ls1 := [(3, .ref q9j10), (0, .ref (B + v0)), (1, .int v1), (2, .ref (B + v2))]) dL_tag_12 rfl (by decide) rfl ?_
      refine z_iconst C dL_tag_13 rfl ?_
      exact z_iret C hr (Nat.le_of_ble_eq_true rfl) dL_tag_14 rfl
    exact zx_none
set_option maxHeartbeats 4000000 in
set_option maxRecDepth 100000 in
theorem ctL_make {l : Launch} {D : va_G} {cy : Nat → ClassId} {B : Nat} {kd : Nat → Nat} {n : Nat} {sa sv : Nat → Nat} (G : zG l kd n) (N : Nat) (v0 : Nat) (v1 : Int32) (v2 : Int32) (v3 : Int32) (v4 : Int32) (v5 : Int32) (h0 : kd v0 = 10) (M : Mem) : CTH l D cy B kd n sa sv 4 1 yL_make cL_make 7 (some (FieldType.int)) [(0, 11, 14, 19), (0, 11, 18, 13)] cvI [.ref (B + v0), .int v1, .int v2, .int v3, .int v4, .int v5] M (fL_make N v0 v1 v2 v3 v4 v5 M) := by
  refine ct_ofH (by decide) G.1 G.2 (Nat.le_of_ble_eq_true rfl) (ls := [(0, .ref (B + v0)), (1, .int v1), (2, .int v2), (3, .int v3), (4, .int v4), (5, .int v5)]) rfl ?_
  intro p e s m args below meth c b0 C ht hr
  unfold fL_make
  refine z_aload_n C 0 0 dL_make_0 rfl rfl ?_
  refine z_iload_n C 1 1 dL_make_1 rfl rfl ?_
  refine z_iload_n C 2 2 dL_make_2 rfl rfl ?_
  refine z_iload_n C 3 3 dL_make_3 rfl rfl ?_
  refine z_iload C 4 dL_make_4 rfl ?_
  refine z_iload C 5 dL_make_6 rfl ?_
  refine z_callC_V (As := [.int v1, .int v2, .int v3, .int v4, .int v5]) (rest := []) C rfl (ctX10_make (zG_of C) N v0 v1 v2 v3 v4 v5 h0 M) cw_RL_27 rfl (okM_X10_make) rfl cl10 h0 (okR_of rfl) (Nat.le_of_ble_eq_true rfl) dL_make_8 (fun qj1 Mj1 _ => ?_) (fun kc Mj1 _ => ?_)
  · refine z_goto C 22 dL_make_11 rfl ?_
    refine z_iconst C dL_make_22 rfl ?_
    exact z_iret C hr (Nat.le_of_ble_eq_true rfl) dL_make_23 rfl
  · refine zx_ite (fun hk9 => ?_) (fun _ => ?_)
    · subst hk9
      refine zx_catch C ht [] [(0, 11, 18, 13)] (0, 11, 14, 19) rfl (fun z h => nomatch h) (by decide) (by decide) gw_4_47 castEx1 (fun q9j10 => ?_)
      refine z_astore C 6 (ls1 := [(6, .ref q9j10), (0, .ref (B + v0)), (1, .int v1), (2, .int v2), (3, .int v3), (4, .int v4), (5, .int v5)]) dL_make_14 (by decide) rfl ?_
      refine z_iconst C dL_make_16 rfl ?_
      exact z_iret C hr (Nat.le_of_ble_eq_true rfl) dL_make_17 rfl
    refine zx_ite (fun hk9 => ?_) (fun _ => ?_)
    · subst hk9
      refine zx_catch C ht [(0, 11, 14, 19)] [] (0, 11, 18, 13) rfl (List.forall_mem_cons.mpr ⟨⟨by decide, 1, gw_4_47, by decide⟩, fun z h => nomatch h⟩) (by decide) (by decide) gw_2_231 castEx3 (fun q9j11 => ?_)
      refine z_astore C 6 (ls1 := [(6, .ref q9j11), (0, .ref (B + v0)), (1, .int v1), (2, .int v2), (3, .int v3), (4, .int v4), (5, .int v5)]) dL_make_18 (by decide) rfl ?_
      refine z_iconst C dL_make_20 rfl ?_
      exact z_iret C hr (Nat.le_of_ble_eq_true rfl) dL_make_21 rfl
    exact zx_none
set_option maxHeartbeats 4000000 in
set_option maxRecDepth 100000 in
theorem ctL_of {l : Launch} {D : va_G} {cy : Nat → ClassId} {B : Nat} {kd : Nat → Nat} {n : Nat} {sa sv : Nat → Nat} (G : zG l kd n) (N : Nat) (v0 : Nat) (v1 : Int32) (v2 : Int32) (v3 : Nat) (h0 : kd v0 = 10) (h3 : kd v3 = 47) (M : Mem) : CTH l D cy B kd n sa sv 3 2 yL_of cL_of 5 (some (FieldType.int)) [(0, 10, 13, 19), (0, 10, 17, 13)] cvI [.ref (B + v0), .int v1, .int v2, .ref (B + v3)] M (fL_of N v0 v1 v2 v3 M) := by
  refine ct_ofH (by decide) G.1 G.2 (Nat.le_of_ble_eq_true rfl) (ls := [(0, .ref (B + v0)), (1, .int v1), (2, .int v2), (3, .ref (B + v3))]) rfl ?_
  intro p e s m args below meth c b0 C ht hr
  unfold fL_of
  refine z_aload_n C 3 3 dL_of_0 rfl rfl ?_
  refine z_iconst C dL_of_1 rfl ?_
  refine z_aload_n C 0 0 dL_of_2 rfl rfl ?_
  refine z_iload_n C 1 1 dL_of_3 rfl rfl ?_
  refine z_iload_n C 2 2 dL_of_4 rfl rfl ?_
  refine z_callC_I (As := [.int v1, .int v2]) (rest := [.int (0 : Int32), .ref (B + v3)]) C rfl (ctX10_of (zG_of C) N v0 v1 v2 h0 M) cw_RL_31 rfl (okM_X10_of) rfl cl10 h0 (okR_of rfl) (Nat.le_of_ble_eq_true rfl) dL_of_5 (fun qj1 Mj1 _ => ?_) (fun kc Mj1 _ => ?_)
  · refine z_i2l C dL_of_8 ?_
    refine z_last C h3 rfl (by decide) dL_of_9 (fun _ => ?_)
    refine z_goto C 21 dL_of_10 rfl ?_
    refine z_iconst C dL_of_21 rfl ?_
    exact z_iret C hr (Nat.le_of_ble_eq_true rfl) dL_of_22 rfl
  · refine zx_ite (fun hk9 => ?_) (fun _ => ?_)
    · subst hk9
      refine zx_catch C ht [] [(0, 10, 17, 13)] (0, 10, 13, 19) rfl (fun z h => nomatch h) (by decide) (by decide) gw_4_47 castEx1 (fun q9j10 => ?_)
      refine z_astore C 4 (ls1 := [(4, .ref q9j10), (0, .ref (B + v0)), (1, .int v1), (2, .int v2), (3, .ref (B + v3))]) dL_of_13 (by decide) rfl ?_
      refine z_iconst C dL_of_15 rfl ?_
      exact z_iret C hr (Nat.le_of_ble_eq_true rfl) dL_of_16 rfl
    refine zx_ite (fun hk9 => ?_) (fun _ => ?_)
    · subst hk9
      refine zx_catch C ht [(0, 10, 13, 19)] [] (0, 10, 17, 13) rfl (List.forall_mem_cons.mpr ⟨⟨by decide, 1, gw_4_47, by decide⟩, fun z h => nomatch h⟩) (by decide) (by decide) gw_2_231 castEx3 (fun q9j11 => ?_)
      refine z_astore C 4 (ls1 := [(4, .ref q9j11), (0, .ref (B + v0)), (1, .int v1), (2, .int v2), (3, .ref (B + v3))]) dL_of_17 (by decide) rfl ?_
      refine z_iconst C dL_of_19 rfl ?_
      exact z_iret C hr (Nat.le_of_ble_eq_true rfl) dL_of_20 rfl
    exact zx_none
set_option maxHeartbeats 4000000 in
set_option maxRecDepth 100000 in
theorem ctL_cell {l : Launch} {D : va_G} {cy : Nat → ClassId} {B : Nat} {kd : Nat → Nat} {n : Nat} {sa sv : Nat → Nat} (G : zG l kd n) (N : Nat) (v0 : Nat) (v1 : Int32) (v2 : Int32) (v3 : Nat) (h0 : kd v0 = 10) (h3 : kd v3 = 47) (M : Mem) : CTH l D cy B kd n sa sv 4 2 yL_cell cL_cell 5 (some (FieldType.int)) [(0, 10, 13, 19), (0, 10, 17, 38)] cvI [.ref (B + v0), .int v1, .int v2, .ref (B + v3)] M (fL_cell N v0 v1 v2 v3 M) := by
  refine ct_ofH (by decide) G.1 G.2 (Nat.le_of_ble_eq_true rfl) (ls := [(0, .ref (B + v0)), (1, .int v1), (2, .int v2), (3, .ref (B + v3))]) rfl ?_
  intro p e s m args below meth c b0 C ht hr
  unfold fL_cell
  refine z_aload_n C 3 3 dL_cell_0 rfl rfl ?_
  refine z_iconst C dL_cell_1 rfl ?_
  refine z_aload_n C 0 0 dL_cell_2 rfl rfl ?_
  refine z_iload_n C 1 1 dL_cell_3 rfl rfl ?_
  refine z_iload_n C 2 2 dL_cell_4 rfl rfl ?_
  refine z_callC_I (As := [.int v1, .int v2]) (rest := [.int (0 : Int32), .ref (B + v3)]) C rfl (ctX10_cell (zG_of C) N v0 v1 v2 h0 M) cw_RL_35 rfl (okM_X10_cell) rfl cl10 h0 (okR_of rfl) (Nat.le_of_ble_eq_true rfl) dL_cell_5 (fun qj1 Mj1 _ => ?_) (fun kc Mj1 _ => ?_)
  · refine z_i2l C dL_cell_8 ?_
    refine z_last C h3 rfl (by decide) dL_cell_9 (fun _ => ?_)
    refine z_goto C 21 dL_cell_10 rfl ?_
    refine z_iconst C dL_cell_21 rfl ?_
    exact z_iret C hr (Nat.le_of_ble_eq_true rfl) dL_cell_22 rfl
  · refine zx_ite (fun hk9 => ?_) (fun _ => ?_)
    · subst hk9
      refine zx_catch C ht [] [(0, 10, 17, 38)] (0, 10, 13, 19) rfl (fun z h => nomatch h) (by decide) (by decide) gw_4_47 castEx1 (fun q9j10 => ?_)
      refine z_astore C 4 (ls1 := [(4, .ref q9j10), (0, .ref (B + v0)), (1, .int v1), (2, .int v2), (3, .ref (B + v3))]) dL_cell_13 (by decide) rfl ?_
      refine z_iconst C dL_cell_15 rfl ?_
      exact z_iret C hr (Nat.le_of_ble_eq_true rfl) dL_cell_16 rfl
    refine zx_ite (fun hk9 => ?_) (fun _ => ?_)
    · subst hk9
      refine zx_catch C ht [(0, 10, 13, 19)] [] (0, 10, 17, 38) rfl (List.forall_mem_cons.mpr ⟨⟨by decide, 1, gw_4_47, by decide⟩, fun z h => nomatch h⟩) (by decide) (by decide) gw_4_168 castEx4 (fun q9j11 => ?_)
      refine z_astore C 4 (ls1 := [(4, .ref q9j11), (0, .ref (B + v0)), (1, .int v1), (2, .int v2), (3, .ref (B + v3))]) dL_cell_17 (by decide) rfl ?_
      refine z_iconst C dL_cell_19 rfl ?_
      exact z_iret C hr (Nat.le_of_ble_eq_true rfl) dL_cell_20 rfl
    exact zx_none
set_option maxHeartbeats 4000000 in
set_option maxRecDepth 100000 in
theorem ctL_guest {l : Launch} {D : va_G} {cy : Nat → ClassId} {B : Nat} {kd : Nat → Nat} {n : Nat} {sa sv : Nat → Nat} (G : zG l kd n) (v0 : Nat) (v1 : Int32) (v2 : Int32) (v3 : Int32) (v4 : Nat) (h0 : kd v0 = 10) (h4 : kd v4 = 47) (M : Mem) : CTH l D cy B kd n sa sv 3 3 yL_guest cL_guest 6 (some (FieldType.int)) [(0, 12, 15, 19), (0, 12, 19, 43), (0, 12, 23, 38)] cvI [.ref (B + v0), .int v1, .int v2, .int v3, .ref (B + v4)] M (fL_guest v0 v1 v2 v3 v4 M) := by
  refine ct_ofH (by decide) G.1 G.2 (Nat.le_of_ble_eq_true rfl) (ls := [(0, .ref (B + v0)), (1, .int v1), (2, .int v2), (3, .int v3), (4, .ref (B + v4))]) rfl ?_
  intro p e s m args below meth c b0 C ht hr
  unfold fL_guest
  refine z_aload C 4 dL_guest_0 rfl ?_
  refine z_iconst C dL_guest_2 rfl ?_
  refine z_aload_n C 0 0 dL_guest_3 rfl rfl ?_
  refine z_iload_n C 1 1 dL_guest_4 rfl rfl ?_
  refine z_iload_n C 2 2 dL_guest_5 rfl rfl ?_
  refine z_iload_n C 3 3 dL_guest_6 rfl rfl ?_
  refine z_callC_I (As := [.int v1, .int v2, .int v3]) (rest := [.int (0 : Int32), .ref (B + v4)]) C rfl (ctX10_guest (zG_of C) v0 v1 v2 v3 h0 M) cw_RL_40 rfl (okM_X10_guest) rfl cl10 h0 (okR_of rfl) (Nat.le_of_ble_eq_true rfl) dL_guest_7 (fun qj1 Mj1 _ => ?_) (fun kc Mj1 _ => ?_)
  · refine z_i2l C dL_guest_10 ?_
    refine z_last C h4 rfl (by decide) dL_guest_11 (fun _ => ?_)
    refine z_goto C 27 dL_guest_12 rfl ?_
    refine z_iconst C dL_guest_27 rfl ?_
    exact z_iret C hr (Nat.le_of_ble_eq_true rfl) dL_guest_28 rfl
  · refine zx_ite (fun hk9 => ?_) (fun _ => ?_)
    · subst hk9
      refine zx_catch C ht [] [(0, 12, 19, 43), (0, 12, 23, 38)] (0, 12, 15, 19) rfl (fun z h => nomatch h) (by decide) (by decide) gw_4_47 castEx1 (fun q9j10 => ?_)
      refine z_astore C 5 (ls1 := [(5, .ref q9j10), (0, .ref (B + v0)), (1, .int v1), (2, .int v2), (3, .int v3), (4, .ref (B + v4))]) dL_guest_15 (by decide) rfl ?_
      refine z_iconst C dL_guest_17 rfl ?_
      exact z_iret C hr (Nat.le_of_ble_eq_true rfl) dL_guest_18 rfl
    refine zx_ite (fun hk9 => ?_) (fun _ => ?_)
    · subst hk9
      refine zx_catch C ht [(0, 12, 15, 19)] [(0, 12, 23, 38)] (0, 12, 19, 43) rfl (List.forall_mem_cons.mpr ⟨⟨by decide, 1, gw_4_47, by decide⟩, fun z h => nomatch h⟩) (by decide) (by decide) gw_4_213 castEx2 (fun q9j11 => ?_)
      refine z_astore C 5 (ls1 := [(5, .ref q9j11), (0, .ref (B + v0)), (1, .int v1), (2, .int v2), (3, .int v3), (4, .ref (B + v4))]) dL_guest_19 (by decide) rfl ?_
      refine z_iconst C dL_guest_21 rfl ?_
      exact z_iret C hr (Nat.le_of_ble_eq_true rfl) dL_guest_22 rfl
    refine zx_ite (fun hk9 => ?_) (fun _ => ?_)
    · subst hk9
      refine zx_catch C ht [(0, 12, 15, 19), (0, 12, 19, 43)] [] (0, 12, 23, 38) rfl (List.forall_mem_cons.mpr ⟨⟨by decide, 1, gw_4_47, by decide⟩, List.forall_mem_cons.mpr ⟨⟨by decide, 2, gw_4_213, by decide⟩, fun z h => nomatch h⟩⟩) (by decide) (by decide) gw_4_168 castEx4 (fun q9j12 => ?_)
      refine z_astore C 5 (ls1 := [(5, .ref q9j12), (0, .ref (B + v0)), (1, .int v1), (2, .int v2), (3, .int v3), (4, .ref (B + v4))]) dL_guest_23 (by decide) rfl ?_
      refine z_iconst C dL_guest_25 rfl ?_
      exact z_iret C hr (Nat.le_of_ble_eq_true rfl) dL_guest_26 rfl
    exact zx_none
set_option maxHeartbeats 4000000 in
set_option maxRecDepth 100000 in
theorem z_fL_yes_b16 {p : Program} {l : Launch} {e : Env} {s : State} {m : MethodId} {args : Array Value} {below : List Frame} {meth : Method} {c : Code} {D : va_G} {cy : Nat → ClassId} {B : Nat} {kd : Nat → Nat} {n : Nat} {sa sv : Nat → Nat} (C : zC p l s m args meth c D cy B kd n sa sv RL cL_yes 5) (ht : c.exceptionTable.toList = tableOf [(0, 17, 20, 19), (0, 17, 24, 13)]) (hr : meth.sig.returnType = some (FieldType.int)) {b0 : Int32 × Mem}  (N : Nat) (s0 : Int64) (s1 : Bool) (s2 : Nat) (M : Mem) (hs2 : kd s2 = 47)  : Z p l e (rmz 5 2) s m args below meth c (vx_MQ below (QcR D cy B kd n (cvI b0)) (XcR D cy B kd n (cvI b0)) args s 2 (6 * 2) (AA B kd n)) D cy B kd n 5 b0 2 16 [] [.long s0, .int (bI s1), .ref (B + s2)] M (fL_yes_b16 N s0 s1 s2 M) := by
  unfold fL_yes_b16
  refine z_last C hs2 rfl (by decide) dL_yes_16 (fun _ => ?_)
  refine z_goto C 28 dL_yes_17 rfl ?_
  refine z_iconst C dL_yes_28 rfl ?_
  exact z_iret C hr (Nat.le_of_ble_eq_true rfl) dL_yes_29 rfl
set_option maxHeartbeats 4000000 in
set_option maxRecDepth 100000 in
theorem ctL_yes {l : Launch} {D : va_G} {cy : Nat → ClassId} {B : Nat} {kd : Nat → Nat} {n : Nat} {sa sv : Nat → Nat} (G : zG l kd n) (N : Nat) (v0 : Nat) (v1 : Int32) (v2 : Int32) (v3 : Nat) (h0 : kd v0 = 10) (h3 : kd v3 = 47) (M : Mem) : CTH l D cy B kd n sa sv 5 2 yL_yes cL_yes 5 (some (FieldType.int)) [(0, 17, 20, 19), (0, 17, 24, 13)] cvI [.ref (B + v0), .int v1, .int v2, .ref (B + v3)] M (fL_yes N v0 v1 v2 v3 M) := by
  refine ct_ofH (by decide) G.1 G.2 (Nat.le_of_ble_eq_true rfl) (ls := [(0, .ref (B + v0)), (1, .int v1), (2, .int v2), (3, .ref (B + v3))]) rfl ?_
  intro p e s m args below meth c b0 C ht hr
  unfold fL_yes
  refine z_aload_n C 3 3 dL_yes_0 rfl rfl ?_
  refine z_iconst C dL_yes_1 rfl ?_
  refine z_aload_n C 0 0 dL_yes_2 rfl rfl ?_
  refine z_iload_n C 1 1 dL_yes_3 rfl rfl ?_
  refine z_iload_n C 2 2 dL_yes_4 rfl rfl ?_
  refine z_callC_B (As := [.int v1, .int v2]) (rest := [.int (0 : Int32), .ref (B + v3)]) C rfl (ctX10_yes (zG_of C) N v0 v1 v2 h0 M) cw_RL_45 rfl (okM_X10_yes) rfl cl10 h0 (okR_of rfl) (Nat.le_of_ble_eq_true rfl) dL_yes_5 (fun qj1 Mj1 _ => ?_) (fun kc Mj1 _ => ?_)
  · refine z_if_eqB C 15 dL_yes_8 rfl (fun _ => ?_) (fun _ => ?_)
    · refine z_lconst (v := 1) C dL_yes_11 rfl ?_
      refine z_goto C 16 dL_yes_12 rfl ?_
      exact z_jump (ls1 := []) (Nat.le_of_ble_eq_true rfl) [] rfl (z_fL_yes_b16 C ht hr N (1 : Int64) false v3 Mj1 h3)
    · refine z_lconst (v := 0) C dL_yes_15 rfl ?_
      exact z_jump (ls1 := []) (Nat.le_of_ble_eq_true rfl) [] rfl (z_fL_yes_b16 C ht hr N (0 : Int64) false v3 Mj1 h3)
  · refine zx_ite (fun hk9 => ?_) (fun _ => ?_)
    · subst hk9
      refine zx_catch C ht [] [(0, 17, 24, 13)] (0, 17, 20, 19) rfl (fun z h => nomatch h) (by decide) (by decide) gw_4_47 castEx1 (fun q9j10 => ?_)
      refine z_astore C 4 (ls1 := [(4, .ref q9j10), (0, .ref (B + v0)), (1, .int v1), (2, .int v2), (3, .ref (B + v3))]) dL_yes_20 (by decide) rfl ?_
      refine z_iconst C dL_yes_22 rfl ?_
      exact z_iret C hr (Nat.le_of_ble_eq_true rfl) dL_yes_23 rfl
    refine zx_ite (fun hk9 => ?_) (fun _ => ?_)
    · subst hk9
      refine zx_catch C ht [(0, 17, 20, 19)] [] (0, 17, 24, 13) rfl (List.forall_mem_cons.mpr ⟨⟨by decide, 1, gw_4_47, by decide⟩, fun z h => nomatch h⟩) (by decide) (by decide) gw_2_231 castEx3 (fun q9j11 => ?_)
      refine z_astore C 4 (ls1 := [(4, .ref q9j11), (0, .ref (B + v0)), (1, .int v1), (2, .int v2), (3, .ref (B + v3))]) dL_yes_24 (by decide) rfl ?_
      refine z_iconst C dL_yes_26 rfl ?_
      exact z_iret C hr (Nat.le_of_ble_eq_true rfl) dL_yes_27 rfl
    exact zx_none
set_option maxHeartbeats 4000000 in
set_option maxRecDepth 100000 in
theorem z_fL_isPut_b16 {p : Program} {l : Launch} {e : Env} {s : State} {m : MethodId} {args : Array Value} {below : List Frame} {meth : Method} {c : Code} {D : va_G} {cy : Nat → ClassId} {B : Nat} {kd : Nat → Nat} {n : Nat} {sa sv : Nat → Nat} (C : zC p l s m args meth c D cy B kd n sa sv RL cL_isPut 5) (ht : c.exceptionTable.toList = tableOf [(0, 17, 20, 19), (0, 17, 24, 13)]) (hr : meth.sig.returnType = some (FieldType.int)) {b0 : Int32 × Mem}   (s0 : Int64) (s1 : Bool) (s2 : Nat) (M : Mem) (hs2 : kd s2 = 47)  : Z p l e (rmz 3 2) s m args below meth c (vx_MQ below (QcR D cy B kd n (cvI b0)) (XcR D cy B kd n (cvI b0)) args s 2 (6 * 2) (AA B kd n)) D cy B kd n 5 b0 2 16 [] [.long s0, .int (bI s1), .ref (B + s2)] M (fL_isPut_b16 s0 s1 s2 M) := by
  unfold fL_isPut_b16
  refine z_last C hs2 rfl (by decide) dL_isPut_16 (fun _ => ?_)
  refine z_goto C 28 dL_isPut_17 rfl ?_
  refine z_iconst C dL_isPut_28 rfl ?_
  exact z_iret C hr (Nat.le_of_ble_eq_true rfl) dL_isPut_29 rfl
set_option maxHeartbeats 4000000 in
set_option maxRecDepth 100000 in
theorem ctL_isPut {l : Launch} {D : va_G} {cy : Nat → ClassId} {B : Nat} {kd : Nat → Nat} {n : Nat} {sa sv : Nat → Nat} (G : zG l kd n) (v0 : Nat) (v1 : Int32) (v2 : Int32) (v3 : Nat) (h0 : kd v0 = 10) (h3 : kd v3 = 47) (M : Mem) : CTH l D cy B kd n sa sv 3 2 yL_isPut cL_isPut 5 (some (FieldType.int)) [(0, 17, 20, 19), (0, 17, 24, 13)] cvI [.ref (B + v0), .int v1, .int v2, .ref (B + v3)] M (fL_isPut v0 v1 v2 v3 M) := by
  refine ct_ofH (by decide) G.1 G.2 (Nat.le_of_ble_eq_true rfl) (ls := [(0, .ref (B + v0)), (1, .int v1), (2, .int v2), (3, .ref (B + v3))]) rfl ?_
  intro p e s m args below meth c b0 C ht hr
  unfold fL_isPut
  refine z_aload_n C 3 3 dL_isPut_0 rfl rfl ?_
  refine z_iconst C dL_isPut_1 rfl ?_
  refine z_aload_n C 0 0 dL_isPut_2 rfl rfl ?_
  refine z_iload_n C 1 1 dL_isPut_3 rfl rfl ?_
  refine z_iload_n C 2 2 dL_isPut_4 rfl rfl ?_
  refine z_callC_B (As := [.int v1, .int v2]) (rest := [.int (0 : Int32), .ref (B + v3)]) C rfl (ctX10_isPut (zG_of C) v0 v1 v2 h0 M) cw_RL_49 rfl (okM_X10_isPut) rfl cl10 h0 (okR_of rfl) (Nat.le_of_ble_eq_true rfl) dL_isPut_5 (fun qj1 Mj1 _ => ?_) (fun kc Mj1 _ => ?_)
  · refine z_if_eqB C 15 dL_isPut_8 rfl (fun _ => ?_) (fun _ => ?_)
    · refine z_lconst (v := 1) C dL_isPut_11 rfl ?_
      refine z_goto C 16 dL_isPut_12 rfl ?_
      exact z_jump (ls1 := []) (Nat.le_of_ble_eq_true rfl) [] rfl (z_fL_isPut_b16 C ht hr (1 : Int64) false v3 Mj1 h3)
    · refine z_lconst (v := 0) C dL_isPut_15 rfl ?_
      exact z_jump (ls1 := []) (Nat.le_of_ble_eq_true rfl) [] rfl (z_fL_isPut_b16 C ht hr (0 : Int64) false v3 Mj1 h3)
  · refine zx_ite (fun hk9 => ?_) (fun _ => ?_)
    · subst hk9
      refine zx_catch C ht [] [(0, 17, 24, 13)] (0, 17, 20, 19) rfl (fun z h => nomatch h) (by decide) (by decide) gw_4_47 castEx1 (fun q9j10 => ?_)
      refine z_astore C 4 (ls1 := [(4, .ref q9j10), (0, .ref (B + v0)), (1, .int v1), (2, .int v2), (3, .ref (B + v3))]) dL_isPut_20 (by decide) rfl ?_
      refine z_iconst C dL_isPut_22 rfl ?_
      exact z_iret C hr (Nat.le_of_ble_eq_true rfl) dL_isPut_23 rfl
    refine zx_ite (fun hk9 => ?_) (fun _ => ?_)
    · subst hk9
      refine zx_catch C ht [(0, 17, 20, 19)] [] (0, 17, 24, 13) rfl (List.forall_mem_cons.mpr ⟨⟨by decide, 1, gw_4_47, by decide⟩, fun z h => nomatch h⟩) (by decide) (by decide) gw_2_231 castEx3 (fun q9j11 => ?_)
      refine z_astore C 4 (ls1 := [(4, .ref q9j11), (0, .ref (B + v0)), (1, .int v1), (2, .int v2), (3, .ref (B + v3))]) dL_isPut_24 (by decide) rfl ?_
      refine z_iconst C dL_isPut_26 rfl ?_
      exact z_iret C hr (Nat.le_of_ble_eq_true rfl) dL_isPut_27 rfl
    exact zx_none
set_option maxHeartbeats 4000000 in
set_option maxRecDepth 100000 in
theorem ctL_put {l : Launch} {D : va_G} {cy : Nat → ClassId} {B : Nat} {kd : Nat → Nat} {n : Nat} {sa sv : Nat → Nat} (G : zG l kd n) (N : Nat) (v0 : Nat) (v1 : Int32) (v2 : Int32) (v3 : Nat) (h0 : kd v0 = 10) (h3 : kd v3 = 47) (M : Mem) : CTH l D cy B kd n sa sv 7 3 yL_put cL_put 5 (some (FieldType.int)) [(0, 10, 13, 19), (0, 10, 17, 43), (0, 10, 21, 13)] cvI [.ref (B + v0), .int v1, .int v2, .ref (B + v3)] M (fL_put N v0 v1 v2 v3 M) := by
  refine ct_ofH (by decide) G.1 G.2 (Nat.le_of_ble_eq_true rfl) (ls := [(0, .ref (B + v0)), (1, .int v1), (2, .int v2), (3, .ref (B + v3))]) rfl ?_
  intro p e s m args below meth c b0 C ht hr
  unfold fL_put
  refine z_aload_n C 3 3 dL_put_0 rfl rfl ?_
  refine z_iconst C dL_put_1 rfl ?_
  refine z_aload_n C 0 0 dL_put_2 rfl rfl ?_
  refine z_iload_n C 1 1 dL_put_3 rfl rfl ?_
  refine z_iload_n C 2 2 dL_put_4 rfl rfl ?_
  refine z_callC_I (As := [.int v1, .int v2]) (rest := [.int (0 : Int32), .ref (B + v3)]) C rfl (ctX10_put (zG_of C) N v0 v1 v2 h0 M) cw_RL_52 rfl (okM_X10_put) rfl cl10 h0 (okR_of rfl) (Nat.le_of_ble_eq_true rfl) dL_put_5 (fun qj1 Mj1 _ => ?_) (fun kc Mj1 _ => ?_)
  · refine z_i2l C dL_put_8 ?_
    refine z_last C h3 rfl (by decide) dL_put_9 (fun _ => ?_)
    refine z_goto C 25 dL_put_10 rfl ?_
    refine z_iconst C dL_put_25 rfl ?_
    exact z_iret C hr (Nat.le_of_ble_eq_true rfl) dL_put_26 rfl
  · refine zx_ite (fun hk9 => ?_) (fun _ => ?_)
    · subst hk9
      refine zx_catch C ht [] [(0, 10, 17, 43), (0, 10, 21, 13)] (0, 10, 13, 19) rfl (fun z h => nomatch h) (by decide) (by decide) gw_4_47 castEx1 (fun q9j10 => ?_)
      refine z_astore C 4 (ls1 := [(4, .ref q9j10), (0, .ref (B + v0)), (1, .int v1), (2, .int v2), (3, .ref (B + v3))]) dL_put_13 (by decide) rfl ?_
      refine z_iconst C dL_put_15 rfl ?_
      exact z_iret C hr (Nat.le_of_ble_eq_true rfl) dL_put_16 rfl
    refine zx_ite (fun hk9 => ?_) (fun _ => ?_)
    · subst hk9
      refine zx_catch C ht [(0, 10, 13, 19)] [(0, 10, 21, 13)] (0, 10, 17, 43) rfl (List.forall_mem_cons.mpr ⟨⟨by decide, 1, gw_4_47, by decide⟩, fun z h => nomatch h⟩) (by decide) (by decide) gw_4_213 castEx2 (fun q9j11 => ?_)
      refine z_astore C 4 (ls1 := [(4, .ref q9j11), (0, .ref (B + v0)), (1, .int v1), (2, .int v2), (3, .ref (B + v3))]) dL_put_17 (by decide) rfl ?_
      refine z_iconst C dL_put_19 rfl ?_
      exact z_iret C hr (Nat.le_of_ble_eq_true rfl) dL_put_20 rfl
    refine zx_ite (fun hk9 => ?_) (fun _ => ?_)
    · subst hk9
      refine zx_catch C ht [(0, 10, 13, 19), (0, 10, 17, 43)] [] (0, 10, 21, 13) rfl (List.forall_mem_cons.mpr ⟨⟨by decide, 1, gw_4_47, by decide⟩, List.forall_mem_cons.mpr ⟨⟨by decide, 2, gw_4_213, by decide⟩, fun z h => nomatch h⟩⟩) (by decide) (by decide) gw_2_231 castEx3 (fun q9j12 => ?_)
      refine z_astore C 4 (ls1 := [(4, .ref q9j12), (0, .ref (B + v0)), (1, .int v1), (2, .int v2), (3, .ref (B + v3))]) dL_put_21 (by decide) rfl ?_
      refine z_iconst C dL_put_23 rfl ?_
      exact z_iret C hr (Nat.le_of_ble_eq_true rfl) dL_put_24 rfl
    exact zx_none
set_option maxHeartbeats 4000000 in
set_option maxRecDepth 100000 in
theorem z_fL_take_b16 {p : Program} {l : Launch} {e : Env} {s : State} {m : MethodId} {args : Array Value} {below : List Frame} {meth : Method} {c : Code} {D : va_G} {cy : Nat → ClassId} {B : Nat} {kd : Nat → Nat} {n : Nat} {sa sv : Nat → Nat} (C : zC p l s m args meth c D cy B kd n sa sv RL cL_take 5) (ht : c.exceptionTable.toList = tableOf [(0, 17, 20, 19), (0, 17, 24, 43), (0, 17, 28, 13)]) (hr : meth.sig.returnType = some (FieldType.int)) {b0 : Int32 × Mem}  (N : Nat) (s0 : Int64) (s1 : Bool) (s2 : Nat) (M : Mem) (hs2 : kd s2 = 47)  : Z p l e (rmz 4 3) s m args below meth c (vx_MQ below (QcR D cy B kd n (cvI b0)) (XcR D cy B kd n (cvI b0)) args s 3 (6 * 3) (AA B kd n)) D cy B kd n 5 b0 3 16 [] [.long s0, .int (bI s1), .ref (B + s2)] M (fL_take_b16 N s0 s1 s2 M) := by
  unfold fL_take_b16
  refine z_last C hs2 rfl (by decide) dL_take_16 (fun _ => ?_)
  refine z_goto C 32 dL_take_17 rfl ?_
  refine z_iconst C dL_take_32 rfl ?_
  exact z_iret C hr (Nat.le_of_ble_eq_true rfl) dL_take_33 rfl
set_option maxHeartbeats 4000000 in
set_option maxRecDepth 100000 in
theorem ctL_take {l : Launch} {D : va_G} {cy : Nat → ClassId} {B : Nat} {kd : Nat → Nat} {n : Nat} {sa sv : Nat → Nat} (G : zG l kd n) (N : Nat) (v0 : Nat) (v1 : Int32) (v2 : Int32) (v3 : Nat) (h0 : kd v0 = 10) (h3 : kd v3 = 47) (M : Mem) : CTH l D cy B kd n sa sv 4 3 yL_take cL_take 5 (some (FieldType.int)) [(0, 17, 20, 19), (0, 17, 24, 43), (0, 17, 28, 13)] cvI [.ref (B + v0), .int v1, .int v2, .ref (B + v3)] M (fL_take N v0 v1 v2 v3 M) := by
  refine ct_ofH (by decide) G.1 G.2 (Nat.le_of_ble_eq_true rfl) (ls := [(0, .ref (B + v0)), (1, .int v1), (2, .int v2), (3, .ref (B + v3))]) rfl ?_
  intro p e s m args below meth c b0 C ht hr
  unfold fL_take
  refine z_aload_n C 3 3 dL_take_0 rfl rfl ?_
  refine z_iconst C dL_take_1 rfl ?_
  refine z_aload_n C 0 0 dL_take_2 rfl rfl ?_
  refine z_iload_n C 1 1 dL_take_3 rfl rfl ?_
  refine z_iload_n C 2 2 dL_take_4 rfl rfl ?_
  refine z_callC_B (As := [.int v1, .int v2]) (rest := [.int (0 : Int32), .ref (B + v3)]) C rfl (ctX10_take (zG_of C) N v0 v1 v2 h0 M) cw_RL_55 rfl (okM_X10_take) rfl cl10 h0 (okR_of rfl) (Nat.le_of_ble_eq_true rfl) dL_take_5 (fun qj1 Mj1 _ => ?_) (fun kc Mj1 _ => ?_)
  · refine z_if_eqB C 15 dL_take_8 rfl (fun _ => ?_) (fun _ => ?_)
    · refine z_lconst (v := 1) C dL_take_11 rfl ?_
      refine z_goto C 16 dL_take_12 rfl ?_
      exact z_jump (ls1 := []) (Nat.le_of_ble_eq_true rfl) [] rfl (z_fL_take_b16 C ht hr N (1 : Int64) false v3 Mj1 h3)
    · refine z_lconst (v := 0) C dL_take_15 rfl ?_
      exact z_jump (ls1 := []) (Nat.le_of_ble_eq_true rfl) [] rfl (z_fL_take_b16 C ht hr N (0 : Int64) false v3 Mj1 h3)
  · refine zx_ite (fun hk9 => ?_) (fun _ => ?_)
    · subst hk9
      refine zx_catch C ht [] [(0, 17, 24, 43), (0, 17, 28, 13)] (0, 17, 20, 19) rfl (fun z h => nomatch h) (by decide) (by decide) gw_4_47 castEx1 (fun q9j10 => ?_)
      refine z_astore C 4 (ls1 := [(4, .ref q9j10), (0, .ref (B + v0)), (1, .int v1), (2, .int v2), (3, .ref (B + v3))]) dL_take_20 (by decide) rfl ?_
      refine z_iconst C dL_take_22 rfl ?_
      exact z_iret C hr (Nat.le_of_ble_eq_true rfl) dL_take_23 rfl
    refine zx_ite (fun hk9 => ?_) (fun _ => ?_)
    · subst hk9
      refine zx_catch C ht [(0, 17, 20, 19)] [(0, 17, 28, 13)] (0, 17, 24, 43) rfl (List.forall_mem_cons.mpr ⟨⟨by decide, 1, gw_4_47, by decide⟩, fun z h => nomatch h⟩) (by decide) (by decide) gw_4_213 castEx2 (fun q9j11 => ?_)
      refine z_astore C 4 (ls1 := [(4, .ref q9j11), (0, .ref (B + v0)), (1, .int v1), (2, .int v2), (3, .ref (B + v3))]) dL_take_24 (by decide) rfl ?_
      refine z_iconst C dL_take_26 rfl ?_
      exact z_iret C hr (Nat.le_of_ble_eq_true rfl) dL_take_27 rfl
    refine zx_ite (fun hk9 => ?_) (fun _ => ?_)
    · subst hk9
      refine zx_catch C ht [(0, 17, 20, 19), (0, 17, 24, 43)] [] (0, 17, 28, 13) rfl (List.forall_mem_cons.mpr ⟨⟨by decide, 1, gw_4_47, by decide⟩, List.forall_mem_cons.mpr ⟨⟨by decide, 2, gw_4_213, by decide⟩, fun z h => nomatch h⟩⟩) (by decide) (by decide) gw_2_231 castEx3 (fun q9j12 => ?_)
      refine z_astore C 4 (ls1 := [(4, .ref q9j12), (0, .ref (B + v0)), (1, .int v1), (2, .int v2), (3, .ref (B + v3))]) dL_take_28 (by decide) rfl ?_
      refine z_iconst C dL_take_30 rfl ?_
      exact z_iret C hr (Nat.le_of_ble_eq_true rfl) dL_take_31 rfl
    exact zx_none
set_option maxHeartbeats 4000000 in
set_option maxRecDepth 100000 in
theorem ctL_join {l : Launch} {D : va_G} {cy : Nat → ClassId} {B : Nat} {kd : Nat → Nat} {n : Nat} {sa sv : Nat → Nat} (G : zG l kd n) (N : Nat) (v0 : Nat) (v1 : Int32) (v2 : Int32) (v3 : Nat) (h0 : kd v0 = 10) (h3 : kd v3 = 47) (M : Mem) : CTH l D cy B kd n sa sv 3 3 yL_join cL_join 5 (some (FieldType.int)) [(0, 10, 13, 19), (0, 10, 17, 43), (0, 10, 21, 13)] cvI [.ref (B + v0), .int v1, .int v2, .ref (B + v3)] M (fL_join N v0 v1 v2 v3 M) := by
  refine ct_ofH (by decide) G.1 G.2 (Nat.le_of_ble_eq_true rfl) (ls := [(0, .ref (B + v0)), (1, .int v1), (2, .int v2), (3, .ref (B + v3))]) rfl ?_
  intro p e s m args below meth c b0 C ht hr
  unfold fL_join
  refine z_aload_n C 3 3 dL_join_0 rfl rfl ?_
  refine z_iconst C dL_join_1 rfl ?_
  refine z_aload_n C 0 0 dL_join_2 rfl rfl ?_
  refine z_iload_n C 1 1 dL_join_3 rfl rfl ?_
  refine z_iload_n C 2 2 dL_join_4 rfl rfl ?_
  refine z_callC_I (As := [.int v1, .int v2]) (rest := [.int (0 : Int32), .ref (B + v3)]) C rfl (ctX10_join (zG_of C) N v0 v1 v2 h0 M) cw_RL_58 rfl (okM_X10_join) rfl cl10 h0 (okR_of rfl) (Nat.le_of_ble_eq_true rfl) dL_join_5 (fun qj1 Mj1 _ => ?_) (fun kc Mj1 _ => ?_)
  · refine z_i2l C dL_join_8 ?_
    refine z_last C h3 rfl (by decide) dL_join_9 (fun _ => ?_)
    refine z_goto C 25 dL_join_10 rfl ?_
    refine z_iconst C dL_join_25 rfl ?_
    exact z_iret C hr (Nat.le_of_ble_eq_true rfl) dL_join_26 rfl
  · refine zx_ite (fun hk9 => ?_) (fun _ => ?_)
    · subst hk9
      refine zx_catch C ht [] [(0, 10, 17, 43), (0, 10, 21, 13)] (0, 10, 13, 19) rfl (fun z h => nomatch h) (by decide) (by decide) gw_4_47 castEx1 (fun q9j10 => ?_)
      refine z_astore C 4 (ls1 := [(4, .ref q9j10), (0, .ref (B + v0)), (1, .int v1), (2, .int v2), (3, .ref (B + v3))]) dL_join_13 (by decide) rfl ?_
      refine z_iconst C dL_join_15 rfl ?_
      exact z_iret C hr (Nat.le_of_ble_eq_true rfl) dL_join_16 rfl
    refine zx_ite (fun hk9 => ?_) (fun _ => ?_)
    · subst hk9
      refine zx_catch C ht [(0, 10, 13, 19)] [(0, 10, 21, 13)] (0, 10, 17, 43) rfl (List.forall_mem_cons.mpr ⟨⟨by decide, 1, gw_4_47, by decide⟩, fun z h => nomatch h⟩) (by decide) (by decide) gw_4_213 castEx2 (fun q9j11 => ?_)
      refine z_astore C 4 (ls1 := [(4, .ref q9j11), (0, .ref (B + v0)), (1, .int v1), (2, .int v2), (3, .ref (B + v3))]) dL_join_17 (by decide) rfl ?_
      refine z_iconst C dL_join_19 rfl ?_
      exact z_iret C hr (Nat.le_of_ble_eq_true rfl) dL_join_20 rfl
    refine zx_ite (fun hk9 => ?_) (fun _ => ?_)
    · subst hk9
      refine zx_catch C ht [(0, 10, 13, 19), (0, 10, 17, 43)] [] (0, 10, 21, 13) rfl (List.forall_mem_cons.mpr ⟨⟨by decide, 1, gw_4_47, by decide⟩, List.forall_mem_cons.mpr ⟨⟨by decide, 2, gw_4_213, by decide⟩, fun z h => nomatch h⟩⟩) (by decide) (by decide) gw_2_231 castEx3 (fun q9j12 => ?_)
      refine z_astore C 4 (ls1 := [(4, .ref q9j12), (0, .ref (B + v0)), (1, .int v1), (2, .int v2), (3, .ref (B + v3))]) dL_join_21 (by decide) rfl ?_
      refine z_iconst C dL_join_23 rfl ?_
      exact z_iret C hr (Nat.le_of_ble_eq_true rfl) dL_join_24 rfl
    exact zx_none
set_option maxHeartbeats 4000000 in
set_option maxRecDepth 100000 in
theorem ctL_halve {l : Launch} {D : va_G} {cy : Nat → ClassId} {B : Nat} {kd : Nat → Nat} {n : Nat} {sa sv : Nat → Nat} (G : zG l kd n) (N : Nat) (v0 : Nat) (v1 : Int32) (v2 : Nat) (h0 : kd v0 = 10) (h2 : kd v2 = 47) (M : Mem) : CTH l D cy B kd n sa sv 3 2 yL_halve cL_halve 4 (some (FieldType.int)) [(0, 9, 12, 19), (0, 9, 15, 43)] cvI [.ref (B + v0), .int v1, .ref (B + v2)] M (fL_halve N v0 v1 v2 M) := by
  refine ct_ofH (by decide) G.1 G.2 (Nat.le_of_ble_eq_true rfl) (ls := [(0, .ref (B + v0)), (1, .int v1), (2, .ref (B + v2))]) rfl ?_
  intro p e s m args below meth c b0 C ht hr
  unfold fL_halve
  refine z_aload_n C 2 2 dL_halve_0 rfl rfl ?_
  refine z_iconst C dL_halve_1 rfl ?_
  refine z_aload_n C 0 0 dL_halve_2 rfl rfl ?_
  refine z_iload_n C 1 1 dL_halve_3 rfl rfl ?_
  refine z_callC_I (As := [.int v1]) (rest := [.int (0 : Int32), .ref (B + v2)]) C rfl (ctX10_halve (zG_of C) N v0 v1 h0 M) cw_RL_61 rfl (okM_X10_halve) rfl cl10 h0 (okR_of rfl) (Nat.le_of_ble_eq_true rfl) dL_halve_4 (fun qj1 Mj1 _ => ?_) (fun kc Mj1 _ => ?_)
  · refine z_i2l C dL_halve_7 ?_
    refine z_last C h2 rfl (by decide) dL_halve_8 (fun _ => ?_)
    refine z_goto C 18 dL_halve_9 rfl ?_
    refine z_iconst C dL_halve_18 rfl ?_
    exact z_iret C hr (Nat.le_of_ble_eq_true rfl) dL_halve_19 rfl
  · refine zx_ite (fun hk9 => ?_) (fun _ => ?_)
    · subst hk9
      refine zx_catch C ht [] [(0, 9, 15, 43)] (0, 9, 12, 19) rfl (fun z h => nomatch h) (by decide) (by decide) gw_4_47 castEx1 (fun q9j10 => ?_)
      refine z_astore_n C 3 (ls1 := [(3, .ref q9j10), (0, .ref (B + v0)), (1, .int v1), (2, .ref (B + v2))]) dL_halve_12 rfl (by decide) rfl ?_
      refine z_iconst C dL_halve_13 rfl ?_
      exact z_iret C hr (Nat.le_of_ble_eq_true rfl) dL_halve_14 rfl
    refine zx_ite (fun hk9 => ?_) (fun _ => ?_)
    · subst hk9
      refine zx_catch C ht [(0, 9, 12, 19)] [] (0, 9, 15, 43) rfl (List.forall_mem_cons.mpr ⟨⟨by decide, 1, gw_4_47, by decide⟩, fun z h => nomatch h⟩) (by decide) (by decide) gw_4_213 castEx2 (fun q9j11 => ?_)
      refine z_astore_n C 3 (ls1 := [(3, .ref q9j11), (0, .ref (B + v0)), (1, .int v1), (2, .ref (B + v2))]) dL_halve_15 rfl (by decide) rfl ?_
      refine z_iconst C dL_halve_16 rfl ?_
      exact z_iret C hr (Nat.le_of_ble_eq_true rfl) dL_halve_17 rfl
    exact zx_none
set_option maxHeartbeats 4000000 in
set_option maxRecDepth 100000 in
theorem ctL_grow {l : Launch} {D : va_G} {cy : Nat → ClassId} {B : Nat} {kd : Nat → Nat} {n : Nat} {sa sv : Nat → Nat} (G : zG l kd n) (N : Nat) (v0 : Nat) (v1 : Int32) (v2 : Nat) (h0 : kd v0 = 10) (h2 : kd v2 = 47) (M : Mem) : CTH l D cy B kd n sa sv 7 3 yL_grow cL_grow 4 (some (FieldType.int)) [(0, 9, 12, 19), (0, 9, 15, 43)] cvI [.ref (B + v0), .int v1, .ref (B + v2)] M (fL_grow N v0 v1 v2 M) := by
  refine ct_ofH (by decide) G.1 G.2 (Nat.le_of_ble_eq_true rfl) (ls := [(0, .ref (B + v0)), (1, .int v1), (2, .ref (B + v2))]) rfl ?_
  intro p e s m args below meth c b0 C ht hr
  unfold fL_grow
  refine z_aload_n C 2 2 dL_grow_0 rfl rfl ?_
  refine z_iconst C dL_grow_1 rfl ?_
  refine z_aload_n C 0 0 dL_grow_2 rfl rfl ?_
  refine z_iload_n C 1 1 dL_grow_3 rfl rfl ?_
  refine z_callC_I (As := [.int v1]) (rest := [.int (0 : Int32), .ref (B + v2)]) C rfl (ctX10_grow (zG_of C) N v0 v1 h0 M) cw_RL_64 rfl (okM_X10_grow) rfl cl10 h0 (okR_of rfl) (Nat.le_of_ble_eq_true rfl) dL_grow_4 (fun qj1 Mj1 _ => ?_) (fun kc Mj1 _ => ?_)
  · refine z_i2l C dL_grow_7 ?_
    refine z_last C h2 rfl (by decide) dL_grow_8 (fun _ => ?_)
    refine z_goto C 18 dL_grow_9 rfl ?_
    refine z_iconst C dL_grow_18 rfl ?_
    exact z_iret C hr (Nat.le_of_ble_eq_true rfl) dL_grow_19 rfl
  · refine zx_ite (fun hk9 => ?_) (fun _ => ?_)
    · subst hk9
      refine zx_catch C ht [] [(0, 9, 15, 43)] (0, 9, 12, 19) rfl (fun z h => nomatch h) (by decide) (by decide) gw_4_47 castEx1 (fun q9j10 => ?_)
      refine z_astore_n C 3 (ls1 := [(3, .ref q9j10), (0, .ref (B + v0)), (1, .int v1), (2, .ref (B + v2))]) dL_grow_12 rfl (by decide) rfl ?_
      refine z_iconst C dL_grow_13 rfl ?_
      exact z_iret C hr (Nat.le_of_ble_eq_true rfl) dL_grow_14 rfl
    refine zx_ite (fun hk9 => ?_) (fun _ => ?_)
    · subst hk9
      refine zx_catch C ht [(0, 9, 12, 19)] [] (0, 9, 15, 43) rfl (List.forall_mem_cons.mpr ⟨⟨by decide, 1, gw_4_47, by decide⟩, fun z h => nomatch h⟩) (by decide) (by decide) gw_4_213 castEx2 (fun q9j11 => ?_)
      refine z_astore_n C 3 (ls1 := [(3, .ref q9j11), (0, .ref (B + v0)), (1, .int v1), (2, .ref (B + v2))]) dL_grow_15 rfl (by decide) rfl ?_
      refine z_iconst C dL_grow_16 rfl ?_
      exact z_iret C hr (Nat.le_of_ble_eq_true rfl) dL_grow_17 rfl
    exact zx_none
set_option maxHeartbeats 4000000 in
set_option maxRecDepth 100000 in
theorem ctL_solve {l : Launch} {D : va_G} {cy : Nat → ClassId} {B : Nat} {kd : Nat → Nat} {n : Nat} {sa sv : Nat → Nat} (G : zG l kd n) (N : Nat) (v0 : Nat) (v1 : Int32) (v2 : Int32) (v3 : Nat) (h0 : kd v0 = 10) (h3 : kd v3 = 47) (M : Mem) : CTH l D cy B kd n sa sv 5 69 yL_solve cL_solve 5 (some (FieldType.int)) [(0, 10, 13, 19), (0, 10, 17, 43), (0, 10, 21, 13)] cvI [.ref (B + v0), .int v1, .int v2, .ref (B + v3)] M (fL_solve N v0 v1 v2 v3 M) := by
  refine ct_ofH (by decide) G.1 G.2 (Nat.le_of_ble_eq_true rfl) (ls := [(0, .ref (B + v0)), (1, .int v1), (2, .int v2), (3, .ref (B + v3))]) rfl ?_
  intro p e s m args below meth c b0 C ht hr
  unfold fL_solve
  refine z_aload_n C 3 3 dL_solve_0 rfl rfl ?_
  refine z_iconst C dL_solve_1 rfl ?_
  refine z_aload_n C 0 0 dL_solve_2 rfl rfl ?_
  refine z_iload_n C 1 1 dL_solve_3 rfl rfl ?_
  refine z_iload_n C 2 2 dL_solve_4 rfl rfl ?_
  refine z_callC_I (As := [.int v1, .int v2]) (rest := [.int (0 : Int32), .ref (B + v3)]) C rfl (ctX10_solve (zG_of C) N v0 v1 v2 h0 M) cw_RL_67 rfl (okM_X10_solve) rfl cl10 h0 (okR_of rfl) (Nat.le_of_ble_eq_true rfl) dL_solve_5 (fun qj1 Mj1 _ => ?_) (fun kc Mj1 _ => ?_)
  · refine z_i2l C dL_solve_8 ?_
    refine z_last C h3 rfl (by decide) dL_solve_9 (fun _ => ?_)
    refine z_goto C 25 dL_solve_10 rfl ?_
    refine z_iconst C dL_solve_25 rfl ?_
    exact z_iret C hr (Nat.le_of_ble_eq_true rfl) dL_solve_26 rfl
  · refine zx_ite (fun hk9 => ?_) (fun _ => ?_)
    · subst hk9
      refine zx_catch C ht [] [(0, 10, 17, 43), (0, 10, 21, 13)] (0, 10, 13, 19) rfl (fun z h => nomatch h) (by decide) (by decide) gw_4_47 castEx1 (fun q9j10 => ?_)
      refine z_astore C 4 (ls1 := [(4, .ref q9j10), (0, .ref (B + v0)), (1, .int v1), (2, .int v2), (3, .ref (B + v3))]) dL_solve_13 (by decide) rfl ?_
      refine z_iconst C dL_solve_15 rfl ?_
      exact z_iret C hr (Nat.le_of_ble_eq_true rfl) dL_solve_16 rfl
    refine zx_ite (fun hk9 => ?_) (fun _ => ?_)
    · subst hk9
      refine zx_catch C ht [(0, 10, 13, 19)] [(0, 10, 21, 13)] (0, 10, 17, 43) rfl (List.forall_mem_cons.mpr ⟨⟨by decide, 1, gw_4_47, by decide⟩, fun z h => nomatch h⟩) (by decide) (by decide) gw_4_213 castEx2 (fun q9j11 => ?_)
      refine z_astore C 4 (ls1 := [(4, .ref q9j11), (0, .ref (B + v0)), (1, .int v1), (2, .int v2), (3, .ref (B + v3))]) dL_solve_17 (by decide) rfl ?_
      refine z_iconst C dL_solve_19 rfl ?_
      exact z_iret C hr (Nat.le_of_ble_eq_true rfl) dL_solve_20 rfl
    refine zx_ite (fun hk9 => ?_) (fun _ => ?_)
    · subst hk9
      refine zx_catch C ht [(0, 10, 13, 19), (0, 10, 17, 43)] [] (0, 10, 21, 13) rfl (List.forall_mem_cons.mpr ⟨⟨by decide, 1, gw_4_47, by decide⟩, List.forall_mem_cons.mpr ⟨⟨by decide, 2, gw_4_213, by decide⟩, fun z h => nomatch h⟩⟩) (by decide) (by decide) gw_2_231 castEx3 (fun q9j12 => ?_)
      refine z_astore C 4 (ls1 := [(4, .ref q9j12), (0, .ref (B + v0)), (1, .int v1), (2, .int v2), (3, .ref (B + v3))]) dL_solve_21 (by decide) rfl ?_
      refine z_iconst C dL_solve_23 rfl ?_
      exact z_iret C hr (Nat.le_of_ble_eq_true rfl) dL_solve_24 rfl
    exact zx_none
set_option maxHeartbeats 4000000 in
set_option maxRecDepth 100000 in
theorem z_fL_lying_b15 {p : Program} {l : Launch} {e : Env} {s : State} {m : MethodId} {args : Array Value} {below : List Frame} {meth : Method} {c : Code} {D : va_G} {cy : Nat → ClassId} {B : Nat} {kd : Nat → Nat} {n : Nat} {sa sv : Nat → Nat} (C : zC p l s m args meth c D cy B kd n sa sv RL cL_lying 4) (ht : c.exceptionTable.toList = tableOf [(0, 16, 19, 19)]) (hr : meth.sig.returnType = some (FieldType.int)) {b0 : Int32 × Mem}  (N : Nat) (s0 : Int64) (s1 : Bool) (s2 : Nat) (M : Mem) (hs2 : kd s2 = 47)  : Z p l e (rmz 6 1) s m args below meth c (vx_MQ below (QcR D cy B kd n (cvI b0)) (XcR D cy B kd n (cvI b0)) args s 1 (6 * 1) (AA B kd n)) D cy B kd n 4 b0 1 15 [] [.long s0, .int (bI s1), .ref (B + s2)] M (fL_lying_b15 N s0 s1 s2 M) := by
  unfold fL_lying_b15
  refine z_last C hs2 rfl (by decide) dL_lying_15 (fun _ => ?_)
  refine z_goto C 22 dL_lying_16 rfl ?_
  refine z_iconst C dL_lying_22 rfl ?_
  exact z_iret C hr (Nat.le_of_ble_eq_true rfl) dL_lying_23 rfl
set_option maxHeartbeats 4000000 in
set_option maxRecDepth 100000 in
theorem ctL_lying {l : Launch} {D : va_G} {cy : Nat → ClassId} {B : Nat} {kd : Nat → Nat} {n : Nat} {sa sv : Nat → Nat} (G : zG l kd n) (N : Nat) (v0 : Nat) (v1 : Int32) (v2 : Nat) (h0 : kd v0 = 10) (h2 : kd v2 = 47) (M : Mem) : CTH l D cy B kd n sa sv 6 1 yL_lying cL_lying 4 (some (FieldType.int)) [(0, 16, 19, 19)] cvI [.ref (B + v0), .int v1, .ref (B + v2)] M (fL_lying N v0 v1 v2 M) := by
  refine ct_ofH (by decide) G.1 G.2 (Nat.le_of_ble_eq_true rfl) (ls := [(0, .ref (B + v0)), (1, .int v1), (2, .ref (B + v2))]) rfl ?_
  intro p e s m args below meth c b0 C ht hr
  unfold fL_lying
  refine z_aload_n C 2 2 dL_lying_0 rfl rfl ?_
  refine z_iconst C dL_lying_1 rfl ?_
  refine z_aload_n C 0 0 dL_lying_2 rfl rfl ?_
  refine z_iload_n C 1 1 dL_lying_3 rfl rfl ?_
  refine z_callC_B (As := [.int v1]) (rest := [.int (0 : Int32), .ref (B + v2)]) C rfl (ctX10_lying (zG_of C) N v0 v1 h0 M) cw_RL_70 rfl (okM_X10_lying) rfl cl10 h0 (okR_of rfl) (Nat.le_of_ble_eq_true rfl) dL_lying_4 (fun qj1 Mj1 _ => ?_) (fun kc Mj1 _ => ?_)
  · refine z_if_eqB C 14 dL_lying_7 rfl (fun _ => ?_) (fun _ => ?_)
    · refine z_lconst (v := 1) C dL_lying_10 rfl ?_
      refine z_goto C 15 dL_lying_11 rfl ?_
      exact z_jump (ls1 := []) (Nat.le_of_ble_eq_true rfl) [] rfl (z_fL_lying_b15 C ht hr N (1 : Int64) false v2 Mj1 h2)
    · refine z_lconst (v := 0) C dL_lying_14 rfl ?_
      exact z_jump (ls1 := []) (Nat.le_of_ble_eq_true rfl) [] rfl (z_fL_lying_b15 C ht hr N (0 : Int64) false v2 Mj1 h2)
  · refine zx_ite (fun hk9 => ?_) (fun _ => ?_)
    · subst hk9
      refine zx_catch C ht [] [] (0, 16, 19, 19) rfl (fun z h => nomatch h) (by decide) (by decide) gw_4_47 castEx1 (fun q9j10 => ?_)
      refine z_astore_n C 3 (ls1 := [(3, .ref q9j10), (0, .ref (B + v0)), (1, .int v1), (2, .ref (B + v2))]) dL_lying_19 rfl (by decide) rfl ?_
      refine z_iconst C dL_lying_20 rfl ?_
      exact z_iret C hr (Nat.le_of_ble_eq_true rfl) dL_lying_21 rfl
    exact zx_none
set_option maxHeartbeats 4000000 in
set_option maxRecDepth 100000 in
theorem ctL_lie {l : Launch} {D : va_G} {cy : Nat → ClassId} {B : Nat} {kd : Nat → Nat} {n : Nat} {sa sv : Nat → Nat} (G : zG l kd n) (N : Nat) (v0 : Nat) (v1 : Int32) (v2 : Int32) (v3 : Nat) (h0 : kd v0 = 10) (h3 : kd v3 = 47) (M : Mem) : CTH l D cy B kd n sa sv 6 1 yL_lie cL_lie 5 (some (FieldType.int)) [(0, 10, 13, 19)] cvI [.ref (B + v0), .int v1, .int v2, .ref (B + v3)] M (fL_lie N v0 v1 v2 v3 M) := by
  refine ct_ofH (by decide) G.1 G.2 (Nat.le_of_ble_eq_true rfl) (ls := [(0, .ref (B + v0)), (1, .int v1), (2, .int v2), (3, .ref (B + v3))]) rfl ?_
  intro p e s m args below meth c b0 C ht hr
  unfold fL_lie
  refine z_aload_n C 3 3 dL_lie_0 rfl rfl ?_
  refine z_iconst C dL_lie_1 rfl ?_
  refine z_aload_n C 0 0 dL_lie_2 rfl rfl ?_
  refine z_iload_n C 1 1 dL_lie_3 rfl rfl ?_
  refine z_iload_n C 2 2 dL_lie_4 rfl rfl ?_
  refine z_callC_I (As := [.int v1, .int v2]) (rest := [.int (0 : Int32), .ref (B + v3)]) C rfl (ctX10_lie (zG_of C) N v0 v1 v2 h0 M) cw_RL_74 rfl (okM_X10_lie) rfl cl10 h0 (okR_of rfl) (Nat.le_of_ble_eq_true rfl) dL_lie_5 (fun qj1 Mj1 _ => ?_) (fun kc Mj1 _ => ?_)
  · refine z_i2l C dL_lie_8 ?_
    refine z_last C h3 rfl (by decide) dL_lie_9 (fun _ => ?_)
    refine z_goto C 17 dL_lie_10 rfl ?_
    refine z_iconst C dL_lie_17 rfl ?_
    exact z_iret C hr (Nat.le_of_ble_eq_true rfl) dL_lie_18 rfl
  · refine zx_ite (fun hk9 => ?_) (fun _ => ?_)
    · subst hk9
      refine zx_catch C ht [] [] (0, 10, 13, 19) rfl (fun z h => nomatch h) (by decide) (by decide) gw_4_47 castEx1 (fun q9j10 => ?_)
      refine z_astore C 4 (ls1 := [(4, .ref q9j10), (0, .ref (B + v0)), (1, .int v1), (2, .int v2), (3, .ref (B + v3))]) dL_lie_13 (by decide) rfl ?_
      refine z_iconst C dL_lie_15 rfl ?_
      exact z_iret C hr (Nat.le_of_ble_eq_true rfl) dL_lie_16 rfl
    exact zx_none
set_option maxHeartbeats 4000000 in
set_option maxRecDepth 100000 in
theorem ctL_wronged {l : Launch} {D : va_G} {cy : Nat → ClassId} {B : Nat} {kd : Nat → Nat} {n : Nat} {sa sv : Nat → Nat} (G : zG l kd n) (N : Nat) (v0 : Nat) (v1 : Int32) (v2 : Int32) (v3 : Int32) (v4 : Nat) (h0 : kd v0 = 10) (h4 : kd v4 = 47) (M : Mem) : CTH l D cy B kd n sa sv 6 3 yL_wronged cL_wronged 6 (some (FieldType.int)) [(0, 12, 15, 19), (0, 12, 19, 43)] cvI [.ref (B + v0), .int v1, .int v2, .int v3, .ref (B + v4)] M (fL_wronged N v0 v1 v2 v3 v4 M) := by
  refine ct_ofH (by decide) G.1 G.2 (Nat.le_of_ble_eq_true rfl) (ls := [(0, .ref (B + v0)), (1, .int v1), (2, .int v2), (3, .int v3), (4, .ref (B + v4))]) rfl ?_
  intro p e s m args below meth c b0 C ht hr
  unfold fL_wronged
  refine z_aload C 4 dL_wronged_0 rfl ?_
  refine z_iconst C dL_wronged_2 rfl ?_
  refine z_aload_n C 0 0 dL_wronged_3 rfl rfl ?_
  refine z_iload_n C 1 1 dL_wronged_4 rfl rfl ?_
  refine z_iload_n C 2 2 dL_wronged_5 rfl rfl ?_
  refine z_iload_n C 3 3 dL_wronged_6 rfl rfl ?_
  refine z_callC_I (As := [.int v1, .int v2, .int v3]) (rest := [.int (0 : Int32), .ref (B + v4)]) C rfl (ctX10_wronged (zG_of C) N v0 v1 v2 v3 h0 M) cw_RL_77 rfl (okM_X10_wronged) rfl cl10 h0 (okR_of rfl) (Nat.le_of_ble_eq_true rfl) dL_wronged_7 (fun qj1 Mj1 _ => ?_) (fun kc Mj1 _ => ?_)
  · refine z_i2l C dL_wronged_10 ?_
    refine z_last C h4 rfl (by decide) dL_wronged_11 (fun _ => ?_)
    refine z_goto C 23 dL_wronged_12 rfl ?_
    refine z_iconst C dL_wronged_23 rfl ?_
    exact z_iret C hr (Nat.le_of_ble_eq_true rfl) dL_wronged_24 rfl
  · refine zx_ite (fun hk9 => ?_) (fun _ => ?_)
    · subst hk9
      refine zx_catch C ht [] [(0, 12, 19, 43)] (0, 12, 15, 19) rfl (fun z h => nomatch h) (by decide) (by decide) gw_4_47 castEx1 (fun q9j10 => ?_)
      refine z_astore C 5 (ls1 := [(5, .ref q9j10), (0, .ref (B + v0)), (1, .int v1), (2, .int v2), (3, .int v3), (4, .ref (B + v4))]) dL_wronged_15 (by decide) rfl ?_
      refine z_iconst C dL_wronged_17 rfl ?_
      exact z_iret C hr (Nat.le_of_ble_eq_true rfl) dL_wronged_18 rfl
    refine zx_ite (fun hk9 => ?_) (fun _ => ?_)
    · subst hk9
      refine zx_catch C ht [(0, 12, 15, 19)] [] (0, 12, 19, 43) rfl (List.forall_mem_cons.mpr ⟨⟨by decide, 1, gw_4_47, by decide⟩, fun z h => nomatch h⟩) (by decide) (by decide) gw_4_213 castEx2 (fun q9j11 => ?_)
      refine z_astore C 5 (ls1 := [(5, .ref q9j11), (0, .ref (B + v0)), (1, .int v1), (2, .int v2), (3, .int v3), (4, .ref (B + v4))]) dL_wronged_19 (by decide) rfl ?_
      refine z_iconst C dL_wronged_21 rfl ?_
      exact z_iret C hr (Nat.le_of_ble_eq_true rfl) dL_wronged_22 rfl
    exact zx_none
set_option maxHeartbeats 4000000 in
set_option maxRecDepth 100000 in
theorem ctL_worse {l : Launch} {D : va_G} {cy : Nat → ClassId} {B : Nat} {kd : Nat → Nat} {n : Nat} {sa sv : Nat → Nat} (G : zG l kd n) (N : Nat) (v0 : Nat) (v1 : Int32) (v2 : Int32) (v3 : Nat) (h0 : kd v0 = 10) (h3 : kd v3 = 47) (M : Mem) : CTH l D cy B kd n sa sv 6 2 yL_worse cL_worse 5 (some (FieldType.int)) [(0, 10, 13, 19)] cvI [.ref (B + v0), .int v1, .int v2, .ref (B + v3)] M (fL_worse N v0 v1 v2 v3 M) := by
  refine ct_ofH (by decide) G.1 G.2 (Nat.le_of_ble_eq_true rfl) (ls := [(0, .ref (B + v0)), (1, .int v1), (2, .int v2), (3, .ref (B + v3))]) rfl ?_
  intro p e s m args below meth c b0 C ht hr
  unfold fL_worse
  refine z_aload_n C 3 3 dL_worse_0 rfl rfl ?_
  refine z_iconst C dL_worse_1 rfl ?_
  refine z_aload_n C 0 0 dL_worse_2 rfl rfl ?_
  refine z_iload_n C 1 1 dL_worse_3 rfl rfl ?_
  refine z_iload_n C 2 2 dL_worse_4 rfl rfl ?_
  refine z_callC_I (As := [.int v1, .int v2]) (rest := [.int (0 : Int32), .ref (B + v3)]) C rfl (ctX10_worse (zG_of C) N v0 v1 v2 h0 M) cw_RL_80 rfl (okM_X10_worse) rfl cl10 h0 (okR_of rfl) (Nat.le_of_ble_eq_true rfl) dL_worse_5 (fun qj1 Mj1 _ => ?_) (fun kc Mj1 _ => ?_)
  · refine z_i2l C dL_worse_8 ?_
    refine z_last C h3 rfl (by decide) dL_worse_9 (fun _ => ?_)
    refine z_goto C 17 dL_worse_10 rfl ?_
    refine z_iconst C dL_worse_17 rfl ?_
    exact z_iret C hr (Nat.le_of_ble_eq_true rfl) dL_worse_18 rfl
  · refine zx_ite (fun hk9 => ?_) (fun _ => ?_)
    · subst hk9
      refine zx_catch C ht [] [] (0, 10, 13, 19) rfl (fun z h => nomatch h) (by decide) (by decide) gw_4_47 castEx1 (fun q9j10 => ?_)
      refine z_astore C 4 (ls1 := [(4, .ref q9j10), (0, .ref (B + v0)), (1, .int v1), (2, .int v2), (3, .ref (B + v3))]) dL_worse_13 (by decide) rfl ?_
      refine z_iconst C dL_worse_15 rfl ?_
      exact z_iret C hr (Nat.le_of_ble_eq_true rfl) dL_worse_16 rfl
    exact zx_none
set_option maxHeartbeats 4000000 in
set_option maxRecDepth 100000 in
theorem ctL_cascade {l : Launch} {D : va_G} {cy : Nat → ClassId} {B : Nat} {kd : Nat → Nat} {n : Nat} {sa sv : Nat → Nat} (G : zG l kd n) (N : Nat) (v0 : Nat) (v1 : Int32) (v2 : Int32) (v3 : Int32) (v4 : Int32) (v5 : Nat) (h0 : kd v0 = 10) (h5 : kd v5 = 47) (M : Mem) : CTH l D cy B kd n sa sv 6 72 yL_cascade cL_cascade 7 (some (FieldType.int)) [(0, 14, 17, 19), (0, 14, 21, 43), (0, 14, 25, 13)] cvI [.ref (B + v0), .int v1, .int v2, .int v3, .int v4, .ref (B + v5)] M (fL_cascade N v0 v1 v2 v3 v4 v5 M) := by
  refine ct_ofH (by decide) G.1 G.2 (Nat.le_of_ble_eq_true rfl) (ls := [(0, .ref (B + v0)), (1, .int v1), (2, .int v2), (3, .int v3), (4, .int v4), (5, .ref (B + v5))]) rfl ?_
  intro p e s m args below meth c b0 C ht hr
  unfold fL_cascade
  refine z_aload C 5 dL_cascade_0 rfl ?_
  refine z_iconst C dL_cascade_2 rfl ?_
  refine z_aload_n C 0 0 dL_cascade_3 rfl rfl ?_
  refine z_iload_n C 1 1 dL_cascade_4 rfl rfl ?_
  refine z_iload_n C 2 2 dL_cascade_5 rfl rfl ?_
  refine z_iload_n C 3 3 dL_cascade_6 rfl rfl ?_
  refine z_iload C 4 dL_cascade_7 rfl ?_
  refine z_callC_I (As := [.int v1, .int v2, .int v3, .int v4]) (rest := [.int (0 : Int32), .ref (B + v5)]) C rfl (ctX10_cascade (zG_of C) N v0 v1 v2 v3 v4 h0 M) cw_RL_83 rfl (okM_X10_cascade) rfl cl10 h0 (okR_of rfl) (Nat.le_of_ble_eq_true rfl) dL_cascade_9 (fun qj1 Mj1 _ => ?_) (fun kc Mj1 _ => ?_)
  · refine z_i2l C dL_cascade_12 ?_
    refine z_last C h5 rfl (by decide) dL_cascade_13 (fun _ => ?_)
    refine z_goto C 29 dL_cascade_14 rfl ?_
    refine z_iconst C dL_cascade_29 rfl ?_
    exact z_iret C hr (Nat.le_of_ble_eq_true rfl) dL_cascade_30 rfl
  · refine zx_ite (fun hk9 => ?_) (fun _ => ?_)
    · subst hk9
      refine zx_catch C ht [] [(0, 14, 21, 43), (0, 14, 25, 13)] (0, 14, 17, 19) rfl (fun z h => nomatch h) (by decide) (by decide) gw_4_47 castEx1 (fun q9j10 => ?_)
      refine z_astore C 6 (ls1 := [(6, .ref q9j10), (0, .ref (B + v0)), (1, .int v1), (2, .int v2), (3, .int v3), (4, .int v4), (5, .ref (B + v5))]) dL_cascade_17 (by decide) rfl ?_
      refine z_iconst C dL_cascade_19 rfl ?_
      exact z_iret C hr (Nat.le_of_ble_eq_true rfl) dL_cascade_20 rfl
    refine zx_ite (fun hk9 => ?_) (fun _ => ?_)
    · subst hk9
      refine zx_catch C ht [(0, 14, 17, 19)] [(0, 14, 25, 13)] (0, 14, 21, 43) rfl (List.forall_mem_cons.mpr ⟨⟨by decide, 1, gw_4_47, by decide⟩, fun z h => nomatch h⟩) (by decide) (by decide) gw_4_213 castEx2 (fun q9j11 => ?_)
      refine z_astore C 6 (ls1 := [(6, .ref q9j11), (0, .ref (B + v0)), (1, .int v1), (2, .int v2), (3, .int v3), (4, .int v4), (5, .ref (B + v5))]) dL_cascade_21 (by decide) rfl ?_
      refine z_iconst C dL_cascade_23 rfl ?_
      exact z_iret C hr (Nat.le_of_ble_eq_true rfl) dL_cascade_24 rfl
    refine zx_ite (fun hk9 => ?_) (fun _ => ?_)
    · subst hk9
      refine zx_catch C ht [(0, 14, 17, 19), (0, 14, 21, 43)] [] (0, 14, 25, 13) rfl (List.forall_mem_cons.mpr ⟨⟨by decide, 1, gw_4_47, by decide⟩, List.forall_mem_cons.mpr ⟨⟨by decide, 2, gw_4_213, by decide⟩, fun z h => nomatch h⟩⟩) (by decide) (by decide) gw_2_231 castEx3 (fun q9j12 => ?_)
      refine z_astore C 6 (ls1 := [(6, .ref q9j12), (0, .ref (B + v0)), (1, .int v1), (2, .int v2), (3, .int v3), (4, .int v4), (5, .ref (B + v5))]) dL_cascade_25 (by decide) rfl ?_
      refine z_iconst C dL_cascade_27 rfl ?_
      exact z_iret C hr (Nat.le_of_ble_eq_true rfl) dL_cascade_28 rfl
    exact zx_none
set_option maxHeartbeats 4000000 in
set_option maxRecDepth 100000 in
theorem ctL_learn {l : Launch} {D : va_G} {cy : Nat → ClassId} {B : Nat} {kd : Nat → Nat} {n : Nat} {sa sv : Nat → Nat} (G : zG l kd n) (N : Nat) (v0 : Nat) (v1 : Int32) (v2 : Int32) (v3 : Int32) (v4 : Nat) (h0 : kd v0 = 10) (h4 : kd v4 = 47) (M : Mem) : CTH l D cy B kd n sa sv 6 69 yL_learn cL_learn 6 (some (FieldType.int)) [(0, 12, 15, 19), (0, 12, 19, 43), (0, 12, 23, 13)] cvI [.ref (B + v0), .int v1, .int v2, .int v3, .ref (B + v4)] M (fL_learn N v0 v1 v2 v3 v4 M) := by
  refine ct_ofH (by decide) G.1 G.2 (Nat.le_of_ble_eq_true rfl) (ls := [(0, .ref (B + v0)), (1, .int v1), (2, .int v2), (3, .int v3), (4, .ref (B + v4))]) rfl ?_
  intro p e s m args below meth c b0 C ht hr
  unfold fL_learn
  refine z_aload C 4 dL_learn_0 rfl ?_
  refine z_iconst C dL_learn_2 rfl ?_
  refine z_aload_n C 0 0 dL_learn_3 rfl rfl ?_
  refine z_iload_n C 1 1 dL_learn_4 rfl rfl ?_
  refine z_iload_n C 2 2 dL_learn_5 rfl rfl ?_
  refine z_iload_n C 3 3 dL_learn_6 rfl rfl ?_
  refine z_callC_I (As := [.int v1, .int v2, .int v3]) (rest := [.int (0 : Int32), .ref (B + v4)]) C rfl (ctX10_learn (zG_of C) N v0 v1 v2 v3 h0 M) cw_RL_87 rfl (okM_X10_learn) rfl cl10 h0 (okR_of rfl) (Nat.le_of_ble_eq_true rfl) dL_learn_7 (fun qj1 Mj1 _ => ?_) (fun kc Mj1 _ => ?_)
  · refine z_i2l C dL_learn_10 ?_
    refine z_last C h4 rfl (by decide) dL_learn_11 (fun _ => ?_)
    refine z_goto C 27 dL_learn_12 rfl ?_
    refine z_iconst C dL_learn_27 rfl ?_
    exact z_iret C hr (Nat.le_of_ble_eq_true rfl) dL_learn_28 rfl
  · refine zx_ite (fun hk9 => ?_) (fun _ => ?_)
    · subst hk9
      refine zx_catch C ht [] [(0, 12, 19, 43), (0, 12, 23, 13)] (0, 12, 15, 19) rfl (fun z h => nomatch h) (by decide) (by decide) gw_4_47 castEx1 (fun q9j10 => ?_)
      refine z_astore C 5 (ls1 := [(5, .ref q9j10), (0, .ref (B + v0)), (1, .int v1), (2, .int v2), (3, .int v3), (4, .ref (B + v4))]) dL_learn_15 (by decide) rfl ?_
      refine z_iconst C dL_learn_17 rfl ?_
      exact z_iret C hr (Nat.le_of_ble_eq_true rfl) dL_learn_18 rfl
    refine zx_ite (fun hk9 => ?_) (fun _ => ?_)
    · subst hk9
      refine zx_catch C ht [(0, 12, 15, 19)] [(0, 12, 23, 13)] (0, 12, 19, 43) rfl (List.forall_mem_cons.mpr ⟨⟨by decide, 1, gw_4_47, by decide⟩, fun z h => nomatch h⟩) (by decide) (by decide) gw_4_213 castEx2 (fun q9j11 => ?_)
      refine z_astore C 5 (ls1 := [(5, .ref q9j11), (0, .ref (B + v0)), (1, .int v1), (2, .int v2), (3, .int v3), (4, .ref (B + v4))]) dL_learn_19 (by decide) rfl ?_
      refine z_iconst C dL_learn_21 rfl ?_
      exact z_iret C hr (Nat.le_of_ble_eq_true rfl) dL_learn_22 rfl
    refine zx_ite (fun hk9 => ?_) (fun _ => ?_)
    · subst hk9
      refine zx_catch C ht [(0, 12, 15, 19), (0, 12, 19, 43)] [] (0, 12, 23, 13) rfl (List.forall_mem_cons.mpr ⟨⟨by decide, 1, gw_4_47, by decide⟩, List.forall_mem_cons.mpr ⟨⟨by decide, 2, gw_4_213, by decide⟩, fun z h => nomatch h⟩⟩) (by decide) (by decide) gw_2_231 castEx3 (fun q9j12 => ?_)
      refine z_astore C 5 (ls1 := [(5, .ref q9j12), (0, .ref (B + v0)), (1, .int v1), (2, .int v2), (3, .int v3), (4, .ref (B + v4))]) dL_learn_23 (by decide) rfl ?_
      refine z_iconst C dL_learn_25 rfl ?_
      exact z_iret C hr (Nat.le_of_ble_eq_true rfl) dL_learn_26 rfl
    exact zx_none
set_option maxHeartbeats 4000000 in
set_option maxRecDepth 100000 in
theorem ctL_ask {l : Launch} {D : va_G} {cy : Nat → ClassId} {B : Nat} {kd : Nat → Nat} {n : Nat} {sa sv : Nat → Nat} (G : zG l kd n) (N : Nat) (v0 : Nat) (v1 : Int32) (v2 : Int32) (v3 : Nat) (h0 : kd v0 = 10) (h3 : kd v3 = 47) (M : Mem) : CTH l D cy B kd n sa sv 6 68 yL_ask cL_ask 5 (some (FieldType.int)) [(0, 10, 13, 19), (0, 10, 17, 43), (0, 10, 21, 13)] cvI [.ref (B + v0), .int v1, .int v2, .ref (B + v3)] M (fL_ask N v0 v1 v2 v3 M) := by
  refine ct_ofH (by decide) G.1 G.2 (Nat.le_of_ble_eq_true rfl) (ls := [(0, .ref (B + v0)), (1, .int v1), (2, .int v2), (3, .ref (B + v3))]) rfl ?_
  intro p e s m args below meth c b0 C ht hr
  unfold fL_ask
  refine z_aload_n C 3 3 dL_ask_0 rfl rfl ?_
  refine z_iconst C dL_ask_1 rfl ?_
  refine z_aload_n C 0 0 dL_ask_2 rfl rfl ?_
  refine z_iload_n C 1 1 dL_ask_3 rfl rfl ?_
  refine z_iload_n C 2 2 dL_ask_4 rfl rfl ?_
  refine z_callC_I (As := [.int v1, .int v2]) (rest := [.int (0 : Int32), .ref (B + v3)]) C rfl (ctX10_ask (zG_of C) N v0 v1 v2 h0 M) cw_RL_90 rfl (okM_X10_ask) rfl cl10 h0 (okR_of rfl) (Nat.le_of_ble_eq_true rfl) dL_ask_5 (fun qj1 Mj1 _ => ?_) (fun kc Mj1 _ => ?_)
  · refine z_i2l C dL_ask_8 ?_
    refine z_last C h3 rfl (by decide) dL_ask_9 (fun _ => ?_)
    refine z_goto C 25 dL_ask_10 rfl ?_
    refine z_iconst C dL_ask_25 rfl ?_
    exact z_iret C hr (Nat.le_of_ble_eq_true rfl) dL_ask_26 rfl
  · refine zx_ite (fun hk9 => ?_) (fun _ => ?_)
    · subst hk9
      refine zx_catch C ht [] [(0, 10, 17, 43), (0, 10, 21, 13)] (0, 10, 13, 19) rfl (fun z h => nomatch h) (by decide) (by decide) gw_4_47 castEx1 (fun q9j10 => ?_)
      refine z_astore C 4 (ls1 := [(4, .ref q9j10), (0, .ref (B + v0)), (1, .int v1), (2, .int v2), (3, .ref (B + v3))]) dL_ask_13 (by decide) rfl ?_
      refine z_iconst C dL_ask_15 rfl ?_
      exact z_iret C hr (Nat.le_of_ble_eq_true rfl) dL_ask_16 rfl
    refine zx_ite (fun hk9 => ?_) (fun _ => ?_)
    · subst hk9
      refine zx_catch C ht [(0, 10, 13, 19)] [(0, 10, 21, 13)] (0, 10, 17, 43) rfl (List.forall_mem_cons.mpr ⟨⟨by decide, 1, gw_4_47, by decide⟩, fun z h => nomatch h⟩) (by decide) (by decide) gw_4_213 castEx2 (fun q9j11 => ?_)
      refine z_astore C 4 (ls1 := [(4, .ref q9j11), (0, .ref (B + v0)), (1, .int v1), (2, .int v2), (3, .ref (B + v3))]) dL_ask_17 (by decide) rfl ?_
      refine z_iconst C dL_ask_19 rfl ?_
      exact z_iret C hr (Nat.le_of_ble_eq_true rfl) dL_ask_20 rfl
    refine zx_ite (fun hk9 => ?_) (fun _ => ?_)
    · subst hk9
      refine zx_catch C ht [(0, 10, 13, 19), (0, 10, 17, 43)] [] (0, 10, 21, 13) rfl (List.forall_mem_cons.mpr ⟨⟨by decide, 1, gw_4_47, by decide⟩, List.forall_mem_cons.mpr ⟨⟨by decide, 2, gw_4_213, by decide⟩, fun z h => nomatch h⟩⟩) (by decide) (by decide) gw_2_231 castEx3 (fun q9j12 => ?_)
      refine z_astore C 4 (ls1 := [(4, .ref q9j12), (0, .ref (B + v0)), (1, .int v1), (2, .int v2), (3, .ref (B + v3))]) dL_ask_21 (by decide) rfl ?_
      refine z_iconst C dL_ask_23 rfl ?_
      exact z_iret C hr (Nat.le_of_ble_eq_true rfl) dL_ask_24 rfl
    exact zx_none
set_option maxHeartbeats 4000000 in
set_option maxRecDepth 100000 in
theorem ctL_worst {l : Launch} {D : va_G} {cy : Nat → ClassId} {B : Nat} {kd : Nat → Nat} {n : Nat} {sa sv : Nat → Nat} (G : zG l kd n) (N : Nat) (v0 : Nat) (v1 : Int32) (v2 : Int32) (v3 : Nat) (h0 : kd v0 = 10) (h3 : kd v3 = 47) (M : Mem) : CTH l D cy B kd n sa sv 6 3 yL_worst cL_worst 5 (some (FieldType.int)) [(0, 10, 13, 19), (0, 10, 17, 43), (0, 10, 21, 13)] cvI [.ref (B + v0), .int v1, .int v2, .ref (B + v3)] M (fL_worst N v0 v1 v2 v3 M) := by
  refine ct_ofH (by decide) G.1 G.2 (Nat.le_of_ble_eq_true rfl) (ls := [(0, .ref (B + v0)), (1, .int v1), (2, .int v2), (3, .ref (B + v3))]) rfl ?_
  intro p e s m args below meth c b0 C ht hr
  unfold fL_worst
  refine z_aload_n C 3 3 dL_worst_0 rfl rfl ?_
  refine z_iconst C dL_worst_1 rfl ?_
  refine z_aload_n C 0 0 dL_worst_2 rfl rfl ?_
  refine z_iload_n C 1 1 dL_worst_3 rfl rfl ?_
  refine z_iload_n C 2 2 dL_worst_4 rfl rfl ?_
  refine z_callC_I (As := [.int v1, .int v2]) (rest := [.int (0 : Int32), .ref (B + v3)]) C rfl (ctX10_worst (zG_of C) N v0 v1 v2 h0 M) cw_RL_93 rfl (okM_X10_worst) rfl cl10 h0 (okR_of rfl) (Nat.le_of_ble_eq_true rfl) dL_worst_5 (fun qj1 Mj1 _ => ?_) (fun kc Mj1 _ => ?_)
  · refine z_i2l C dL_worst_8 ?_
    refine z_last C h3 rfl (by decide) dL_worst_9 (fun _ => ?_)
    refine z_goto C 25 dL_worst_10 rfl ?_
    refine z_iconst C dL_worst_25 rfl ?_
    exact z_iret C hr (Nat.le_of_ble_eq_true rfl) dL_worst_26 rfl
  · refine zx_ite (fun hk9 => ?_) (fun _ => ?_)
    · subst hk9
      refine zx_catch C ht [] [(0, 10, 17, 43), (0, 10, 21, 13)] (0, 10, 13, 19) rfl (fun z h => nomatch h) (by decide) (by decide) gw_4_47 castEx1 (fun q9j10 => ?_)
      refine z_astore C 4 (ls1 := [(4, .ref q9j10), (0, .ref (B + v0)), (1, .int v1), (2, .int v2), (3, .ref (B + v3))]) dL_worst_13 (by decide) rfl ?_
      refine z_iconst C dL_worst_15 rfl ?_
      exact z_iret C hr (Nat.le_of_ble_eq_true rfl) dL_worst_16 rfl
    refine zx_ite (fun hk9 => ?_) (fun _ => ?_)
    · subst hk9
      refine zx_catch C ht [(0, 10, 13, 19)] [(0, 10, 21, 13)] (0, 10, 17, 43) rfl (List.forall_mem_cons.mpr ⟨⟨by decide, 1, gw_4_47, by decide⟩, fun z h => nomatch h⟩) (by decide) (by decide) gw_4_213 castEx2 (fun q9j11 => ?_)
      refine z_astore C 4 (ls1 := [(4, .ref q9j11), (0, .ref (B + v0)), (1, .int v1), (2, .int v2), (3, .ref (B + v3))]) dL_worst_17 (by decide) rfl ?_
      refine z_iconst C dL_worst_19 rfl ?_
      exact z_iret C hr (Nat.le_of_ble_eq_true rfl) dL_worst_20 rfl
    refine zx_ite (fun hk9 => ?_) (fun _ => ?_)
    · subst hk9
      refine zx_catch C ht [(0, 10, 13, 19), (0, 10, 17, 43)] [] (0, 10, 21, 13) rfl (List.forall_mem_cons.mpr ⟨⟨by decide, 1, gw_4_47, by decide⟩, List.forall_mem_cons.mpr ⟨⟨by decide, 2, gw_4_213, by decide⟩, fun z h => nomatch h⟩⟩) (by decide) (by decide) gw_2_231 castEx3 (fun q9j12 => ?_)
      refine z_astore C 4 (ls1 := [(4, .ref q9j12), (0, .ref (B + v0)), (1, .int v1), (2, .int v2), (3, .ref (B + v3))]) dL_worst_21 (by decide) rfl ?_
      refine z_iconst C dL_worst_23 rfl ?_
      exact z_iret C hr (Nat.le_of_ble_eq_true rfl) dL_worst_24 rfl
    exact zx_none
set_option maxHeartbeats 4000000 in
set_option maxRecDepth 100000 in
theorem ctL_blame {l : Launch} {D : va_G} {cy : Nat → ClassId} {B : Nat} {kd : Nat → Nat} {n : Nat} {sa sv : Nat → Nat} (G : zG l kd n) (N : Nat) (v0 : Nat) (v1 : Int32) (v2 : Int32) (v3 : Nat) (h0 : kd v0 = 10) (h3 : kd v3 = 47) (M : Mem) : CTH l D cy B kd n sa sv 5 3 yL_blame cL_blame 5 (some (FieldType.int)) [(0, 10, 13, 19), (0, 10, 17, 43), (0, 10, 21, 13)] cvI [.ref (B + v0), .int v1, .int v2, .ref (B + v3)] M (fL_blame N v0 v1 v2 v3 M) := by
  refine ct_ofH (by decide) G.1 G.2 (Nat.le_of_ble_eq_true rfl) (ls := [(0, .ref (B + v0)), (1, .int v1), (2, .int v2), (3, .ref (B + v3))]) rfl ?_
  intro p e s m args below meth c b0 C ht hr
  unfold fL_blame
  refine z_aload_n C 3 3 dL_blame_0 rfl rfl ?_
  refine z_iconst C dL_blame_1 rfl ?_
  refine z_aload_n C 0 0 dL_blame_2 rfl rfl ?_
  refine z_iload_n C 1 1 dL_blame_3 rfl rfl ?_
  refine z_iload_n C 2 2 dL_blame_4 rfl rfl ?_
  refine z_callC_I (As := [.int v1, .int v2]) (rest := [.int (0 : Int32), .ref (B + v3)]) C rfl (ctX10_blame (zG_of C) N v0 v1 v2 h0 M) cw_RL_96 rfl (okM_X10_blame) rfl cl10 h0 (okR_of rfl) (Nat.le_of_ble_eq_true rfl) dL_blame_5 (fun qj1 Mj1 _ => ?_) (fun kc Mj1 _ => ?_)
  · refine z_i2l C dL_blame_8 ?_
    refine z_last C h3 rfl (by decide) dL_blame_9 (fun _ => ?_)
    refine z_goto C 25 dL_blame_10 rfl ?_
    refine z_iconst C dL_blame_25 rfl ?_
    exact z_iret C hr (Nat.le_of_ble_eq_true rfl) dL_blame_26 rfl
  · refine zx_ite (fun hk9 => ?_) (fun _ => ?_)
    · subst hk9
      refine zx_catch C ht [] [(0, 10, 17, 43), (0, 10, 21, 13)] (0, 10, 13, 19) rfl (fun z h => nomatch h) (by decide) (by decide) gw_4_47 castEx1 (fun q9j10 => ?_)
      refine z_astore C 4 (ls1 := [(4, .ref q9j10), (0, .ref (B + v0)), (1, .int v1), (2, .int v2), (3, .ref (B + v3))]) dL_blame_13 (by decide) rfl ?_
      refine z_iconst C dL_blame_15 rfl ?_
      exact z_iret C hr (Nat.le_of_ble_eq_true rfl) dL_blame_16 rfl
    refine zx_ite (fun hk9 => ?_) (fun _ => ?_)
    · subst hk9
      refine zx_catch C ht [(0, 10, 13, 19)] [(0, 10, 21, 13)] (0, 10, 17, 43) rfl (List.forall_mem_cons.mpr ⟨⟨by decide, 1, gw_4_47, by decide⟩, fun z h => nomatch h⟩) (by decide) (by decide) gw_4_213 castEx2 (fun q9j11 => ?_)
      refine z_astore C 4 (ls1 := [(4, .ref q9j11), (0, .ref (B + v0)), (1, .int v1), (2, .int v2), (3, .ref (B + v3))]) dL_blame_17 (by decide) rfl ?_
      refine z_iconst C dL_blame_19 rfl ?_
      exact z_iret C hr (Nat.le_of_ble_eq_true rfl) dL_blame_20 rfl
    refine zx_ite (fun hk9 => ?_) (fun _ => ?_)
    · subst hk9
      refine zx_catch C ht [(0, 10, 13, 19), (0, 10, 17, 43)] [] (0, 10, 21, 13) rfl (List.forall_mem_cons.mpr ⟨⟨by decide, 1, gw_4_47, by decide⟩, List.forall_mem_cons.mpr ⟨⟨by decide, 2, gw_4_213, by decide⟩, fun z h => nomatch h⟩⟩) (by decide) (by decide) gw_2_231 castEx3 (fun q9j12 => ?_)
      refine z_astore C 4 (ls1 := [(4, .ref q9j12), (0, .ref (B + v0)), (1, .int v1), (2, .int v2), (3, .ref (B + v3))]) dL_blame_21 (by decide) rfl ?_
      refine z_iconst C dL_blame_23 rfl ?_
      exact z_iret C hr (Nat.le_of_ble_eq_true rfl) dL_blame_24 rfl
    exact zx_none
set_option maxHeartbeats 4000000 in
set_option maxRecDepth 100000 in
theorem ctL_choose {l : Launch} {D : va_G} {cy : Nat → ClassId} {B : Nat} {kd : Nat → Nat} {n : Nat} {sa sv : Nat → Nat} (G : zG l kd n) (N : Nat) (v0 : Nat) (v1 : Int32) (v2 : Int32) (v3 : Int32) (v4 : Nat) (h0 : kd v0 = 10) (h4 : kd v4 = 47) (M : Mem) : CTH l D cy B kd n sa sv 5 3 yL_choose cL_choose 6 (some (FieldType.int)) [(0, 12, 15, 19), (0, 12, 19, 13)] cvI [.ref (B + v0), .int v1, .int v2, .int v3, .ref (B + v4)] M (fL_choose N v0 v1 v2 v3 v4 M) := by
  refine ct_ofH (by decide) G.1 G.2 (Nat.le_of_ble_eq_true rfl) (ls := [(0, .ref (B + v0)), (1, .int v1), (2, .int v2), (3, .int v3), (4, .ref (B + v4))]) rfl ?_
  intro p e s m args below meth c b0 C ht hr
  unfold fL_choose
  refine z_aload C 4 dL_choose_0 rfl ?_
  refine z_iconst C dL_choose_2 rfl ?_
  refine z_aload_n C 0 0 dL_choose_3 rfl rfl ?_
  refine z_iload_n C 1 1 dL_choose_4 rfl rfl ?_
  refine z_iload_n C 2 2 dL_choose_5 rfl rfl ?_
  refine z_iload_n C 3 3 dL_choose_6 rfl rfl ?_
  refine z_callC_I (As := [.int v1, .int v2, .int v3]) (rest := [.int (0 : Int32), .ref (B + v4)]) C rfl (ctX10_choose (zG_of C) N v0 v1 v2 v3 h0 M) cw_RL_99 rfl (okM_X10_choose) rfl cl10 h0 (okR_of rfl) (Nat.le_of_ble_eq_true rfl) dL_choose_7 (fun qj1 Mj1 _ => ?_) (fun kc Mj1 _ => ?_)
  · refine z_i2l C dL_choose_10 ?_
    refine z_last C h4 rfl (by decide) dL_choose_11 (fun _ => ?_)
    refine z_goto C 23 dL_choose_12 rfl ?_
    refine z_iconst C dL_choose_23 rfl ?_
    exact z_iret C hr (Nat.le_of_ble_eq_true rfl) dL_choose_24 rfl
  · refine zx_ite (fun hk9 => ?_) (fun _ => ?_)
    · subst hk9
      refine zx_catch C ht [] [(0, 12, 19, 13)] (0, 12, 15, 19) rfl (fun z h => nomatch h) (by decide) (by decide) gw_4_47 castEx1 (fun q9j10 => ?_)
      refine z_astore C 5 (ls1 := [(5, .ref q9j10), (0, .ref (B + v0)), (1, .int v1), (2, .int v2), (3, .int v3), (4, .ref (B + v4))]) dL_choose_15 (by decide) rfl ?_
      refine z_iconst C dL_choose_17 rfl ?_
      exact z_iret C hr (Nat.le_of_ble_eq_true rfl) dL_choose_18 rfl
    refine zx_ite (fun hk9 => ?_) (fun _ => ?_)
    · subst hk9
      refine zx_catch C ht [(0, 12, 15, 19)] [] (0, 12, 19, 13) rfl (List.forall_mem_cons.mpr ⟨⟨by decide, 1, gw_4_47, by decide⟩, fun z h => nomatch h⟩) (by decide) (by decide) gw_2_231 castEx3 (fun q9j11 => ?_)
      refine z_astore C 5 (ls1 := [(5, .ref q9j11), (0, .ref (B + v0)), (1, .int v1), (2, .int v2), (3, .int v3), (4, .ref (B + v4))]) dL_choose_19 (by decide) rfl ?_
      refine z_iconst C dL_choose_21 rfl ?_
      exact z_iret C hr (Nat.le_of_ble_eq_true rfl) dL_choose_22 rfl
    exact zx_none
set_option maxHeartbeats 4000000 in
set_option maxRecDepth 100000 in
theorem ctL_tray {l : Launch} {D : va_G} {cy : Nat → ClassId} {B : Nat} {kd : Nat → Nat} {n : Nat} {sa sv : Nat → Nat} (G : zG l kd n) (N : Nat) (v0 : Nat) (v1 : Int32) (v2 : Int32) (v3 : Int32) (h0 : kd v0 = 10) (M : Mem) : CTH l D cy B kd n sa sv 3 2 yL_tray cL_tray 5 (some (FieldType.int)) [(0, 7, 10, 19), (0, 7, 14, 13)] cvI [.ref (B + v0), .int v1, .int v2, .int v3] M (fL_tray N v0 v1 v2 v3 M) := by
  refine ct_ofH (by decide) G.1 G.2 (Nat.le_of_ble_eq_true rfl) (ls := [(0, .ref (B + v0)), (1, .int v1), (2, .int v2), (3, .int v3)]) rfl ?_
  intro p e s m args below meth c b0 C ht hr
  unfold fL_tray
  refine z_aload_n C 0 0 dL_tray_0 rfl rfl ?_
  refine z_iload_n C 1 1 dL_tray_1 rfl rfl ?_
  refine z_iload_n C 2 2 dL_tray_2 rfl rfl ?_
  refine z_iload_n C 3 3 dL_tray_3 rfl rfl ?_
  refine z_callC_V (As := [.int v1, .int v2, .int v3]) (rest := []) C rfl (ctX10_tray (zG_of C) N v0 v1 v2 v3 h0 M) cw_RL_102 rfl (okM_X10_tray) rfl cl10 h0 (okR_of rfl) (Nat.le_of_ble_eq_true rfl) dL_tray_4 (fun qj1 Mj1 _ => ?_) (fun kc Mj1 _ => ?_)
  · refine z_goto C 18 dL_tray_7 rfl ?_
    refine z_iconst C dL_tray_18 rfl ?_
    exact z_iret C hr (Nat.le_of_ble_eq_true rfl) dL_tray_19 rfl
  · refine zx_ite (fun hk9 => ?_) (fun _ => ?_)
    · subst hk9
      refine zx_catch C ht [] [(0, 7, 14, 13)] (0, 7, 10, 19) rfl (fun z h => nomatch h) (by decide) (by decide) gw_4_47 castEx1 (fun q9j10 => ?_)
      refine z_astore C 4 (ls1 := [(4, .ref q9j10), (0, .ref (B + v0)), (1, .int v1), (2, .int v2), (3, .int v3)]) dL_tray_10 (by decide) rfl ?_
      refine z_iconst C dL_tray_12 rfl ?_
      exact z_iret C hr (Nat.le_of_ble_eq_true rfl) dL_tray_13 rfl
    refine zx_ite (fun hk9 => ?_) (fun _ => ?_)
    · subst hk9
      refine zx_catch C ht [(0, 7, 10, 19)] [] (0, 7, 14, 13) rfl (List.forall_mem_cons.mpr ⟨⟨by decide, 1, gw_4_47, by decide⟩, fun z h => nomatch h⟩) (by decide) (by decide) gw_2_231 castEx3 (fun q9j11 => ?_)
      refine z_astore C 4 (ls1 := [(4, .ref q9j11), (0, .ref (B + v0)), (1, .int v1), (2, .int v2), (3, .int v3)]) dL_tray_14 (by decide) rfl ?_
      refine z_iconst C dL_tray_16 rfl ?_
      exact z_iret C hr (Nat.le_of_ble_eq_true rfl) dL_tray_17 rfl
    exact zx_none
set_option maxHeartbeats 4000000 in
set_option maxRecDepth 100000 in
theorem ctL_write {l : Launch} {D : va_G} {cy : Nat → ClassId} {B : Nat} {kd : Nat → Nat} {n : Nat} {sa sv : Nat → Nat} (G : zG l kd n) (v0 : Nat) (v1 : Int32) (v2 : Int32) (v3 : Int64) (v5 : Nat) (h0 : kd v0 = 10) (h5 : kd v5 = 47) (M : Mem) : CTH l D cy B kd n sa sv 3 3 yL_write cL_write 7 (some (FieldType.int)) [(0, 11, 14, 19), (0, 11, 18, 43), (0, 11, 22, 38)] cvI [.ref (B + v0), .int v1, .int v2, .long v3, .ref (B + v5)] M (fL_write v0 v1 v2 v3 v5 M) := by
  refine ct_ofH (by decide) G.1 G.2 (Nat.le_of_ble_eq_true rfl) (ls := [(0, .ref (B + v0)), (1, .int v1), (2, .int v2), (3, .long v3), (5, .ref (B + v5))]) rfl ?_
  intro p e s m args below meth c b0 C ht hr
  unfold fL_write
  refine z_aload C 4 dL_write_0 rfl ?_
  refine z_iconst C dL_write_2 rfl ?_
  refine z_aload_n C 0 0 dL_write_3 rfl rfl ?_
  refine z_iload_n C 1 1 dL_write_4 rfl rfl ?_
  refine z_iload_n C 2 2 dL_write_5 rfl rfl ?_
  refine z_lload_n C 3 3 dL_write_6 rfl rfl ?_
  refine z_callC_J (As := [.int v1, .int v2, .long v3]) (rest := [.int (0 : Int32), .ref (B + v5)]) C rfl (ctX10_write (zG_of C) v0 v1 v2 v3 h0 M) cw_RL_106 rfl (okM_X10_write) rfl cl10 h0 (okR_of rfl) (Nat.le_of_ble_eq_true rfl) dL_write_7 (fun qj1 Mj1 _ => ?_) (fun kc Mj1 _ => ?_)
  · refine z_last C h5 rfl (by decide) dL_write_10 (fun _ => ?_)
    refine z_goto C 26 dL_write_11 rfl ?_
    refine z_iconst C dL_write_26 rfl ?_
    exact z_iret C hr (Nat.le_of_ble_eq_true rfl) dL_write_27 rfl
  · refine zx_ite (fun hk9 => ?_) (fun _ => ?_)
    · subst hk9
      refine zx_catch C ht [] [(0, 11, 18, 43), (0, 11, 22, 38)] (0, 11, 14, 19) rfl (fun z h => nomatch h) (by decide) (by decide) gw_4_47 castEx1 (fun q9j10 => ?_)
      refine z_astore C 6 (ls1 := [(6, .ref q9j10), (0, .ref (B + v0)), (1, .int v1), (2, .int v2), (3, .long v3), (5, .ref (B + v5))]) dL_write_14 (by decide) rfl ?_
      refine z_iconst C dL_write_16 rfl ?_
      exact z_iret C hr (Nat.le_of_ble_eq_true rfl) dL_write_17 rfl
    refine zx_ite (fun hk9 => ?_) (fun _ => ?_)
    · subst hk9
      refine zx_catch C ht [(0, 11, 14, 19)] [(0, 11, 22, 38)] (0, 11, 18, 43) rfl (List.forall_mem_cons.mpr ⟨⟨by decide, 1, gw_4_47, by decide⟩, fun z h => nomatch h⟩) (by decide) (by decide) gw_4_213 castEx2 (fun q9j11 => ?_)
      refine z_astore C 6 (ls1 := [(6, .ref q9j11), (0, .ref (B + v0)), (1, .int v1), (2, .int v2), (3, .long v3), (5, .ref (B + v5))]) dL_write_18 (by decide) rfl ?_
      refine z_iconst C dL_write_20 rfl ?_
      exact z_iret C hr (Nat.le_of_ble_eq_true rfl) dL_write_21 rfl
    refine zx_ite (fun hk9 => ?_) (fun _ => ?_)
    · subst hk9
      refine zx_catch C ht [(0, 11, 14, 19), (0, 11, 18, 43)] [] (0, 11, 22, 38) rfl (List.forall_mem_cons.mpr ⟨⟨by decide, 1, gw_4_47, by decide⟩, List.forall_mem_cons.mpr ⟨⟨by decide, 2, gw_4_213, by decide⟩, fun z h => nomatch h⟩⟩) (by decide) (by decide) gw_4_168 castEx4 (fun q9j12 => ?_)
      refine z_astore C 6 (ls1 := [(6, .ref q9j12), (0, .ref (B + v0)), (1, .int v1), (2, .int v2), (3, .long v3), (5, .ref (B + v5))]) dL_write_22 (by decide) rfl ?_
      refine z_iconst C dL_write_24 rfl ?_
      exact z_iret C hr (Nat.le_of_ble_eq_true rfl) dL_write_25 rfl
    exact zx_none
set_option maxHeartbeats 4000000 in
set_option maxRecDepth 100000 in
theorem ctL_pour {l : Launch} {D : va_G} {cy : Nat → ClassId} {B : Nat} {kd : Nat → Nat} {n : Nat} {sa sv : Nat → Nat} (G : zG l kd n) (N : Nat) (v0 : Nat) (v1 : Int32) (v2 : Int32) (v3 : Nat) (h0 : kd v0 = 10) (h3 : kd v3 = 47) (M : Mem) : CTH l D cy B kd n sa sv 7 4 yL_pour cL_pour 5 (some (FieldType.int)) [(0, 10, 13, 19), (0, 10, 17, 43)] cvI [.ref (B + v0), .int v1, .int v2, .ref (B + v3)] M (fL_pour N v0 v1 v2 v3 M) := by
  refine ct_ofH (by decide) G.1 G.2 (Nat.le_of_ble_eq_true rfl) (ls := [(0, .ref (B + v0)), (1, .int v1), (2, .int v2), (3, .ref (B + v3))]) rfl ?_
  intro p e s m args below meth c b0 C ht hr
  unfold fL_pour
  refine z_aload_n C 3 3 dL_pour_0 rfl rfl ?_
  refine z_iconst C dL_pour_1 rfl ?_
  refine z_aload_n C 0 0 dL_pour_2 rfl rfl ?_
  refine z_iload_n C 1 1 dL_pour_3 rfl rfl ?_
  refine z_iload_n C 2 2 dL_pour_4 rfl rfl ?_
  refine z_callC_I (As := [.int v1, .int v2]) (rest := [.int (0 : Int32), .ref (B + v3)]) C rfl (ctX10_pour (zG_of C) N v0 v1 v2 h0 M) cw_RL_110 rfl (okM_X10_pour) rfl cl10 h0 (okR_of rfl) (Nat.le_of_ble_eq_true rfl) dL_pour_5 (fun qj1 Mj1 _ => ?_) (fun kc Mj1 _ => ?_)
  · refine z_i2l C dL_pour_8 ?_
    refine z_last C h3 rfl (by decide) dL_pour_9 (fun _ => ?_)
    refine z_goto C 21 dL_pour_10 rfl ?_
    refine z_iconst C dL_pour_21 rfl ?_
    exact z_iret C hr (Nat.le_of_ble_eq_true rfl) dL_pour_22 rfl
  · refine zx_ite (fun hk9 => ?_) (fun _ => ?_)
    · subst hk9
      refine zx_catch C ht [] [(0, 10, 17, 43)] (0, 10, 13, 19) rfl (fun z h => nomatch h) (by decide) (by decide) gw_4_47 castEx1 (fun q9j10 => ?_)
      refine z_astore C 4 (ls1 := [(4, .ref q9j10), (0, .ref (B + v0)), (1, .int v1), (2, .int v2), (3, .ref (B + v3))]) dL_pour_13 (by decide) rfl ?_
      refine z_iconst C dL_pour_15 rfl ?_
      exact z_iret C hr (Nat.le_of_ble_eq_true rfl) dL_pour_16 rfl
    refine zx_ite (fun hk9 => ?_) (fun _ => ?_)
    · subst hk9
      refine zx_catch C ht [(0, 10, 13, 19)] [] (0, 10, 17, 43) rfl (List.forall_mem_cons.mpr ⟨⟨by decide, 1, gw_4_47, by decide⟩, fun z h => nomatch h⟩) (by decide) (by decide) gw_4_213 castEx2 (fun q9j11 => ?_)
      refine z_astore C 4 (ls1 := [(4, .ref q9j11), (0, .ref (B + v0)), (1, .int v1), (2, .int v2), (3, .ref (B + v3))]) dL_pour_17 (by decide) rfl ?_
      refine z_iconst C dL_pour_19 rfl ?_
      exact z_iret C hr (Nat.le_of_ble_eq_true rfl) dL_pour_20 rfl
    exact zx_none
set_option maxHeartbeats 4000000 in
set_option maxRecDepth 100000 in
theorem ctL_image {l : Launch} {D : va_G} {cy : Nat → ClassId} {B : Nat} {kd : Nat → Nat} {n : Nat} {sa sv : Nat → Nat} (G : zG l kd n) (N : Nat) (v0 : Nat) (v1 : Int32) (h0 : kd v0 = 10) (M : Mem) : CTH l D cy B kd n sa sv 4 1 yL_image cL_image 3 (some (FieldType.int)) [(0, 5, 8, 19)] cvI [.ref (B + v0), .int v1] M (fL_image N v0 v1 M) := by
  refine ct_ofH (by decide) G.1 G.2 (Nat.le_of_ble_eq_true rfl) (ls := [(0, .ref (B + v0)), (1, .int v1)]) rfl ?_
  intro p e s m args below meth c b0 C ht hr
  unfold fL_image
  refine z_aload_n C 0 0 dL_image_0 rfl rfl ?_
  refine z_iload_n C 1 1 dL_image_1 rfl rfl ?_
  refine z_callC_V (As := [.int v1]) (rest := []) C rfl (ctX10_image (zG_of C) N v0 v1 h0 M) cw_RL_113 rfl (okM_X10_image) rfl cl10 h0 (okR_of rfl) (Nat.le_of_ble_eq_true rfl) dL_image_2 (fun qj1 Mj1 _ => ?_) (fun kc Mj1 _ => ?_)
  · refine z_goto C 11 dL_image_5 rfl ?_
    refine z_iconst C dL_image_11 rfl ?_
    exact z_iret C hr (Nat.le_of_ble_eq_true rfl) dL_image_12 rfl
  · refine zx_ite (fun hk9 => ?_) (fun _ => ?_)
    · subst hk9
      refine zx_catch C ht [] [] (0, 5, 8, 19) rfl (fun z h => nomatch h) (by decide) (by decide) gw_4_47 castEx1 (fun q9j10 => ?_)
      refine z_astore_n C 2 (ls1 := [(2, .ref q9j10), (0, .ref (B + v0)), (1, .int v1)]) dL_image_8 rfl (by decide) rfl ?_
      refine z_iconst C dL_image_9 rfl ?_
      exact z_iret C hr (Nat.le_of_ble_eq_true rfl) dL_image_10 rfl
    exact zx_none
set_option maxHeartbeats 4000000 in
set_option maxRecDepth 100000 in
theorem ctL_restore {l : Launch} {D : va_G} {cy : Nat → ClassId} {B : Nat} {kd : Nat → Nat} {n : Nat} {sa sv : Nat → Nat} (G : zG l kd n) (N : Nat) (v0 : Nat) (v1 : Int32) (h0 : kd v0 = 10) (M : Mem) : CTH l D cy B kd n sa sv 4 2 yL_restore cL_restore 3 (some (FieldType.int)) [(0, 5, 8, 19), (0, 5, 11, 43)] cvI [.ref (B + v0), .int v1] M (fL_restore N v0 v1 M) := by
  refine ct_ofH (by decide) G.1 G.2 (Nat.le_of_ble_eq_true rfl) (ls := [(0, .ref (B + v0)), (1, .int v1)]) rfl ?_
  intro p e s m args below meth c b0 C ht hr
  unfold fL_restore
  refine z_aload_n C 0 0 dL_restore_0 rfl rfl ?_
  refine z_iload_n C 1 1 dL_restore_1 rfl rfl ?_
  refine z_callC_V (As := [.int v1]) (rest := []) C rfl (ctX10_restore (zG_of C) N v0 v1 h0 M) cw_RL_117 rfl (okM_X10_restore) rfl cl10 h0 (okR_of rfl) (Nat.le_of_ble_eq_true rfl) dL_restore_2 (fun qj1 Mj1 _ => ?_) (fun kc Mj1 _ => ?_)
  · refine z_goto C 14 dL_restore_5 rfl ?_
    refine z_iconst C dL_restore_14 rfl ?_
    exact z_iret C hr (Nat.le_of_ble_eq_true rfl) dL_restore_15 rfl
  · refine zx_ite (fun hk9 => ?_) (fun _ => ?_)
    · subst hk9
      refine zx_catch C ht [] [(0, 5, 11, 43)] (0, 5, 8, 19) rfl (fun z h => nomatch h) (by decide) (by decide) gw_4_47 castEx1 (fun q9j10 => ?_)
      refine z_astore_n C 2 (ls1 := [(2, .ref q9j10), (0, .ref (B + v0)), (1, .int v1)]) dL_restore_8 rfl (by decide) rfl ?_
      refine z_iconst C dL_restore_9 rfl ?_
      exact z_iret C hr (Nat.le_of_ble_eq_true rfl) dL_restore_10 rfl
    refine zx_ite (fun hk9 => ?_) (fun _ => ?_)
    · subst hk9
      refine zx_catch C ht [(0, 5, 8, 19)] [] (0, 5, 11, 43) rfl (List.forall_mem_cons.mpr ⟨⟨by decide, 1, gw_4_47, by decide⟩, fun z h => nomatch h⟩) (by decide) (by decide) gw_4_213 castEx2 (fun q9j11 => ?_)
      refine z_astore_n C 2 (ls1 := [(2, .ref q9j11), (0, .ref (B + v0)), (1, .int v1)]) dL_restore_11 rfl (by decide) rfl ?_
      refine z_iconst C dL_restore_12 rfl ?_
      exact z_iret C hr (Nat.le_of_ble_eq_true rfl) dL_restore_13 rfl
    exact zx_none
