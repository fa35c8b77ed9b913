/-! X10_modulo -/
def fX10_modulo (v0 : Int32) (v1 : Int32) (Mo : Mem) : Option Int32 :=
  if (1 : Int32) ≤ v1 then if v1 = 0 then none else if 0 ≤ (remI v0 v1) then some (remI v0 v1) else some ((remI v0 v1) + v1) else some (0 : Int32)
/-! J13_bitCount_95d88 -/
def fJ13_bitCount_95d88 (v0 : Int64) (Mo : Mem) : Option Int32 :=
  some (((((((((v0 - ((ushrJ v0 (1 : Int32)) &&& (6148914691236517205 : Int64))) &&& (3689348814741910323 : Int64)) + ((ushrJ (v0 - ((ushrJ v0 (1 : Int32)) &&& (6148914691236517205 : Int64))) (2 : Int32)) &&& (3689348814741910323 : Int64))) + (ushrJ (((v0 - ((ushrJ v0 (1 : Int32)) &&& (6148914691236517205 : Int64))) &&& (3689348814741910323 : Int64)) + ((ushrJ (v0 - ((ushrJ v0 (1 : Int32)) &&& (6148914691236517205 : Int64))) (2 : Int32)) &&& (3689348814741910323 : Int64))) (4 : Int32))) &&& (1085102592571150095 : Int64)) + (ushrJ (((((v0 - ((ushrJ v0 (1 : Int32)) &&& (6148914691236517205 : Int64))) &&& (3689348814741910323 : Int64)) + ((ushrJ (v0 - ((ushrJ v0 (1 : Int32)) &&& (6148914691236517205 : Int64))) (2 : Int32)) &&& (3689348814741910323 : Int64))) + (ushrJ (((v0 - ((ushrJ v0 (1 : Int32)) &&& (6148914691236517205 : Int64))) &&& (3689348814741910323 : Int64)) + ((ushrJ (v0 - ((ushrJ v0 (1 : Int32)) &&& (6148914691236517205 : Int64))) (2 : Int32)) &&& (3689348814741910323 : Int64))) (4 : Int32))) &&& (1085102592571150095 : Int64)) (8 : Int32))) + (ushrJ ((((((v0 - ((ushrJ v0 (1 : Int32)) &&& (6148914691236517205 : Int64))) &&& (3689348814741910323 : Int64)) + ((ushrJ (v0 - ((ushrJ v0 (1 : Int32)) &&& (6148914691236517205 : Int64))) (2 : Int32)) &&& (3689348814741910323 : Int64))) + (ushrJ (((v0 - ((ushrJ v0 (1 : Int32)) &&& (6148914691236517205 : Int64))) &&& (3689348814741910323 : Int64)) + ((ushrJ (v0 - ((ushrJ v0 (1 : Int32)) &&& (6148914691236517205 : Int64))) (2 : Int32)) &&& (3689348814741910323 : Int64))) (4 : Int32))) &&& (1085102592571150095 : Int64)) + (ushrJ (((((v0 - ((ushrJ v0 (1 : Int32)) &&& (6148914691236517205 : Int64))) &&& (3689348814741910323 : Int64)) + ((ushrJ (v0 - ((ushrJ v0 (1 : Int32)) &&& (6148914691236517205 : Int64))) (2 : Int32)) &&& (3689348814741910323 : Int64))) + (ushrJ (((v0 - ((ushrJ v0 (1 : Int32)) &&& (6148914691236517205 : Int64))) &&& (3689348814741910323 : Int64)) + ((ushrJ (v0 - ((ushrJ v0 (1 : Int32)) &&& (6148914691236517205 : Int64))) (2 : Int32)) &&& (3689348814741910323 : Int64))) (4 : Int32))) &&& (1085102592571150095 : Int64)) (8 : Int32))) (16 : Int32))) + (ushrJ (((((((v0 - ((ushrJ v0 (1 : Int32)) &&& (6148914691236517205 : Int64))) &&& (3689348814741910323 : Int64)) + ((ushrJ (v0 - ((ushrJ v0 (1 : Int32)) &&& (6148914691236517205 : Int64))) (2 : Int32)) &&& (3689348814741910323 : Int64))) + (ushrJ (((v0 - ((ushrJ v0 (1 : Int32)) &&& (6148914691236517205 : Int64))) &&& (3689348814741910323 : Int64)) + ((ushrJ (v0 - ((ushrJ v0 (1 : Int32)) &&& (6148914691236517205 : Int64))) (2 : Int32)) &&& (3689348814741910323 : Int64))) (4 : Int32))) &&& (1085102592571150095 : Int64)) + (ushrJ (((((v0 - ((ushrJ v0 (1 : Int32)) &&& (6148914691236517205 : Int64))) &&& (3689348814741910323 : Int64)) + ((ushrJ (v0 - ((ushrJ v0 (1 : Int32)) &&& (6148914691236517205 : Int64))) (2 : Int32)) &&& (3689348814741910323 : Int64))) + (ushrJ (((v0 - ((ushrJ v0 (1 : Int32)) &&& (6148914691236517205 : Int64))) &&& (3689348814741910323 : Int64)) + ((ushrJ (v0 - ((ushrJ v0 (1 : Int32)) &&& (6148914691236517205 : Int64))) (2 : Int32)) &&& (3689348814741910323 : Int64))) (4 : Int32))) &&& (1085102592571150095 : Int64)) (8 : Int32))) + (ushrJ ((((((v0 - ((ushrJ v0 (1 : Int32)) &&& (6148914691236517205 : Int64))) &&& (3689348814741910323 : Int64)) + ((ushrJ (v0 - ((ushrJ v0 (1 : Int32)) &&& (6148914691236517205 : Int64))) (2 : Int32)) &&& (3689348814741910323 : Int64))) + (ushrJ (((v0 - ((ushrJ v0 (1 : Int32)) &&& (6148914691236517205 : Int64))) &&& (3689348814741910323 : Int64)) + ((ushrJ (v0 - ((ushrJ v0 (1 : Int32)) &&& (6148914691236517205 : Int64))) (2 : Int32)) &&& (3689348814741910323 : Int64))) (4 : Int32))) &&& (1085102592571150095 : Int64)) + (ushrJ (((((v0 - ((ushrJ v0 (1 : Int32)) &&& (6148914691236517205 : Int64))) &&& (3689348814741910323 : Int64)) + ((ushrJ (v0 - ((ushrJ v0 (1 : Int32)) &&& (6148914691236517205 : Int64))) (2 : Int32)) &&& (3689348814741910323 : Int64))) + (ushrJ (((v0 - ((ushrJ v0 (1 : Int32)) &&& (6148914691236517205 : Int64))) &&& (3689348814741910323 : Int64)) + ((ushrJ (v0 - ((ushrJ v0 (1 : Int32)) &&& (6148914691236517205 : Int64))) (2 : Int32)) &&& (3689348814741910323 : Int64))) (4 : Int32))) &&& (1085102592571150095 : Int64)) (8 : Int32))) (16 : Int32))) (32 : Int32))).toInt32 &&& (127 : Int32))
/-! J0_coder_7d493 -/
def fJ0_coder_7d493 (v0 : Nat) (Mo : Mem) : Option Int32 :=
  if (1 : Int32) = 0 then some (1 : Int32) else some (0 : Int32)
/-! J0_length_8abf5 -/
def fJ0_length_8abf5 (v0 : Nat) (Mo : Mem) : Option Int32 :=
  (fJ0_coder_7d493 v0 Mo).bind fun qj1 => some (shrI (nI (lenS v0)) qj1)
/-! J0_isLatin1_aae02 -/
def fJ0_isLatin1_aae02_b17  (Mo : Mem) : Option Bool :=
  some false
def fJ0_isLatin1_aae02 (v0 : Nat) (Mo : Mem) : Option Bool :=
  if (1 : Int32) = 0 then fJ0_isLatin1_aae02_b17 Mo else if (0 : Int32) = 0 then some true else fJ0_isLatin1_aae02_b17 Mo
/-! J0_checkIndex_df160 -/
def fJ0_checkIndex_df160 (v0 : Int32) (v1 : Int32) (Mo : Mem) : Option Unit :=
  (fJ3_checkIndex_8e157 v0 v1 Mo).bind fun qj2 => some ()
/-! J1_charAt_3b067 -/
def fJ1_charAt_3b067 (v0 : Nat) (v1 : Int32) (Mo : Mem) : Option Int32 :=
  (fJ0_checkIndex_df160 v1 (nI (lenS v0)) Mo).bind fun qj1 => if inB v1 (lenS v0) = true then if isC (i2c (((bytS v0).getD v1.toNatClampNeg 0) &&& (255 : Int32))) = true then some (i2c (((bytS v0).getD v1.toNatClampNeg 0) &&& (255 : Int32))) else none else none
/-! J0_charAt_5068e -/
def fJ0_charAt_5068e (v0 : Nat) (v1 : Int32) (Mo : Mem) : Option Int32 :=
  (fJ0_isLatin1_aae02 v0 Mo).bind fun qj1 => if qj1 = true then (fJ1_charAt_3b067 v0 v1 Mo).bind fun qj2 => if isC qj2 = true then some qj2 else none else none
/-! J1_canEncode_9a6ad -/
def fJ1_canEncode_9a6ad_b15  (Mo : Mem) : Option Bool :=
  some false
def fJ1_canEncode_9a6ad (v0 : Int32) (Mo : Mem) : Option Bool :=
  if v0 < 0 then fJ1_canEncode_9a6ad_b15 Mo else if (255 : Int32) < v0 then fJ1_canEncode_9a6ad_b15 Mo else some true
/-! J1_indexOfChar_4cfef -/
def fJ1_indexOfChar_4cfef_l7_s (N : Nat) (v0 : Nat) (v3 : Int32) (v4 : Int32) (Mo : Mem) (k7 : Int32 → Option Int32) (v5 : Int32) : Option Int32 :=
  if v3 ≤ v5 then some (-1 : Int32) else if inB v5 (lenS v0) = true then if ((bytS v0).getD v5.toNatClampNeg 0) = v4 then some v5 else k7 (v5 + (1 : Int32)) else none
def fJ1_indexOfChar_4cfef_l7 (N : Nat) (v0 : Nat) (v3 : Int32) (v4 : Int32) (Mo : Mem) : Nat → Int32 → Option Int32
  | 0, _ => none
  | n + 1, v5 => fJ1_indexOfChar_4cfef_l7_s N v0 v3 v4 Mo (fJ1_indexOfChar_4cfef_l7 N v0 v3 v4 Mo n) v5
def fJ1_indexOfChar_4cfef (N : Nat) (v0 : Nat) (v1 : Int32) (v2 : Int32) (v3 : Int32) (Mo : Mem) : Option Int32 :=
  fJ1_indexOfChar_4cfef_l7 N v0 v3 v1.toInt8.toInt32 Mo N v2
/-! J1_indexOf_4cfef -/
def fJ1_indexOf_4cfef (N : Nat) (v0 : Nat) (v1 : Int32) (v2 : Int32) (v3 : Int32) (Mo : Mem) : Option Int32 :=
  (fJ1_canEncode_9a6ad v1 Mo).bind fun qj1 => if qj1 = true then if (maxI v2 (0 : Int32)) < (minI v3 (nI (lenS v0))) then (fJ1_indexOfChar_4cfef N v0 v1 (maxI v2 (0 : Int32)) (minI v3 (nI (lenS v0))) Mo).bind fun qj2 => some qj2 else some (-1 : Int32) else some (-1 : Int32)
/-! J0_indexOf_7cf53 -/
def fJ0_indexOf_7cf53 (N : Nat) (v0 : Nat) (v1 : Int32) (v2 : Int32) (Mo : Mem) : Option Int32 :=
  (fJ0_isLatin1_aae02 v0 Mo).bind fun qj1 => if qj1 = true then (fJ0_length_8abf5 v0 Mo).bind fun qj2 => (fJ1_indexOf_4cfef N v0 v1 v2 qj2 Mo).bind fun qj3 => some qj3 else none
/-! J0_indexOf_0f7a4 -/
def fJ0_indexOf_0f7a4 (N : Nat) (v0 : Nat) (v1 : Int32) (Mo : Mem) : Option Int32 :=
  (fJ0_indexOf_7cf53 N v0 v1 (0 : Int32) Mo).bind fun qj1 => some qj1
set_option maxHeartbeats 4000000 in
set_option maxRecDepth 100000 in
theorem ctX10_modulo {l : Launch} {D : va_G} {cy : Nat → ClassId} {B : Nat} {kd : Nat → Nat} {n : Nat} {sa sv : Nat → Nat} (G : zG l kd n) (v0 : Int32) (v1 : Int32)  (Mo : Mem) : CT l D cy B kd n sa sv 0 0 yX10_modulo cX10_modulo 3 (some (FieldType.int)) (pI Mo) [.int v0, .int v1] Mo (fX10_modulo v0 v1 Mo) := by
  refine ct_of (by decide) G.1 G.2 (Nat.le_of_ble_eq_true rfl) (ls := [(0, .int v0), (1, .int v1)]) rfl ?_
  intro p e s m args below meth c b0 C ht hr
  unfold fX10_modulo
  refine z_iload_n C 1 1 dX10_modulo_0 rfl rfl ?_
  refine z_iconst C dX10_modulo_1 rfl ?_
  refine z_icmp_ge C 7 dX10_modulo_2 rfl (fun _ => ?_) (fun _ => ?_)
  · refine z_iload_n C 0 0 dX10_modulo_7 rfl rfl ?_
    refine z_iload_n C 1 1 dX10_modulo_8 rfl rfl ?_
    refine z_irem C dX10_modulo_9 (fun _ => ?_)
    refine z_istore_n C 2 (ls1 := [(2, .int (remI v0 v1)), (0, .int v0), (1, .int v1)]) dX10_modulo_10 rfl (by decide) rfl ?_
    refine z_iload_n C 2 0 dX10_modulo_11 rfl rfl ?_
    refine z_if_ge C 21 dX10_modulo_12 rfl (fun _ => ?_) (fun _ => ?_)
    · refine z_iload_n C 2 0 dX10_modulo_21 rfl rfl ?_
      exact z_iret C hr (Nat.le_of_ble_eq_true rfl) dX10_modulo_22 rfl
    · refine z_iload_n C 2 0 dX10_modulo_15 rfl rfl ?_
      refine z_iload_n C 1 2 dX10_modulo_16 rfl rfl ?_
      refine z_iadd C dX10_modulo_17 ?_
      refine z_goto C 22 dX10_modulo_18 rfl ?_
      exact z_iret C hr (Nat.le_of_ble_eq_true rfl) dX10_modulo_22 rfl
  · refine z_iconst C dX10_modulo_5 rfl ?_
    exact z_iret C hr (Nat.le_of_ble_eq_true rfl) dX10_modulo_6 rfl
set_option maxHeartbeats 4000000 in
set_option maxRecDepth 100000 in
theorem ctJ13_bitCount_95d88 {l : Launch} {D : va_G} {cy : Nat → ClassId} {B : Nat} {kd : Nat → Nat} {n : Nat} {sa sv : Nat → Nat} (G : zG l kd n) (v0 : Int64)  (Mo : Mem) : CT l D cy B kd n sa sv 0 0 yJ13_bitCount_95d88 cJ13_bitCount_95d88 2 (some (FieldType.int)) (pI Mo) [.long v0] Mo (fJ13_bitCount_95d88 v0 Mo) := by
  refine ct_of (by decide) G.1 G.2 (Nat.le_of_ble_eq_true rfl) (ls := [(0, .long v0)]) rfl ?_
  intro p e s m args below meth c b0 C ht hr
  unfold fJ13_bitCount_95d88
  refine z_lload_n C 0 0 dJ13_bitCount_95d88_0 rfl rfl ?_
  refine z_lload_n C 0 0 dJ13_bitCount_95d88_1 rfl rfl ?_
  refine z_iconst C dJ13_bitCount_95d88_2 rfl ?_
  refine z_lushr C dJ13_bitCount_95d88_3 ?_
  refine z_ldc2 C dJ13_bitCount_95d88_4 gw_4_161 ?_
  refine z_land C dJ13_bitCount_95d88_7 ?_
  refine z_lsub C dJ13_bitCount_95d88_8 ?_
  refine z_lstore_n C 0 (ls1 := [(0, .long (v0 - ((ushrJ v0 (1 : Int32)) &&& (6148914691236517205 : Int64))))]) dJ13_bitCount_95d88_9 rfl (by decide) rfl ?_
  refine z_lload_n C 0 0 dJ13_bitCount_95d88_10 rfl rfl ?_
  refine z_ldc2 C dJ13_bitCount_95d88_11 gw_4_162 ?_
  refine z_land C dJ13_bitCount_95d88_14 ?_
  refine z_lload_n C 0 0 dJ13_bitCount_95d88_15 rfl rfl ?_
  refine z_iconst C dJ13_bitCount_95d88_16 rfl ?_
  refine z_lushr C dJ13_bitCount_95d88_17 ?_
  refine z_ldc2 C dJ13_bitCount_95d88_18 gw_4_162 ?_
  refine z_land C dJ13_bitCount_95d88_21 ?_
  refine z_ladd C dJ13_bitCount_95d88_22 ?_
  refine z_lstore_n C 0 (ls1 := [(0, .long (((v0 - ((ushrJ v0 (1 : Int32)) &&& (6148914691236517205 : Int64))) &&& (3689348814741910323 : Int64)) + ((ushrJ (v0 - ((ushrJ v0 (1 : Int32)) &&& (6148914691236517205 : Int64))) (2 : Int32)) &&& (3689348814741910323 : Int64))))]) dJ13_bitCount_95d88_23 rfl (by decide) rfl ?_
  refine z_lload_n C 0 0 dJ13_bitCount_95d88_24 rfl rfl ?_
  refine z_lload_n C 0 0 dJ13_bitCount_95d88_25 rfl rfl ?_
  refine z_iconst C dJ13_bitCount_95d88_26 rfl ?_
  refine z_lushr C dJ13_bitCount_95d88_27 ?_
  refine z_ladd C dJ13_bitCount_95d88_28 ?_
  refine z_ldc2 C dJ13_bitCount_95d88_29 gw_4_163 ?_
  refine z_land C dJ13_bitCount_95d88_32 ?_
  refine z_lstore_n C 0 (ls1 := [(0, .long (((((v0 - ((ushrJ v0 (1 : Int32)) &&& (6148914691236517205 : Int64))) &&& (3689348814741910323 : Int64)) + ((ushrJ (v0 - ((ushrJ v0 (1 : Int32)) &&& (6148914691236517205 : Int64))) (2 : Int32)) &&& (3689348814741910323 : Int64))) + (ushrJ (((v0 - ((ushrJ v0 (1 : Int32)) &&& (6148914691236517205 : Int64))) &&& (3689348814741910323 : Int64)) + ((ushrJ (v0 - ((ushrJ v0 (1 : Int32)) &&& (6148914691236517205 : Int64))) (2 : Int32)) &&& (3689348814741910323 : Int64))) (4 : Int32))) &&& (1085102592571150095 : Int64)))]) dJ13_bitCount_95d88_33 rfl (by decide) rfl ?_
  refine z_lload_n C 0 0 dJ13_bitCount_95d88_34 rfl rfl ?_
  refine z_lload_n C 0 0 dJ13_bitCount_95d88_35 rfl rfl ?_
  refine z_bipush (v := 8) C dJ13_bitCount_95d88_36 rfl ?_
  refine z_lushr C dJ13_bitCount_95d88_38 ?_
  refine z_ladd C dJ13_bitCount_95d88_39 ?_
  refine z_lstore_n C 0 (ls1 := [(0, .long ((((((v0 - ((ushrJ v0 (1 : Int32)) &&& (6148914691236517205 : Int64))) &&& (3689348814741910323 : Int64)) + ((ushrJ (v0 - ((ushrJ v0 (1 : Int32)) &&& (6148914691236517205 : Int64))) (2 : Int32)) &&& (3689348814741910323 : Int64))) + (ushrJ (((v0 - ((ushrJ v0 (1 : Int32)) &&& (6148914691236517205 : Int64))) &&& (3689348814741910323 : Int64)) + ((ushrJ (v0 - ((ushrJ v0 (1 : Int32)) &&& (6148914691236517205 : Int64))) (2 : Int32)) &&& (3689348814741910323 : Int64))) (4 : Int32))) &&& (1085102592571150095 : Int64)) + (ushrJ (((((v0 - ((ushrJ v0 (1 : Int32)) &&& (6148914691236517205 : Int64))) &&& (3689348814741910323 : Int64)) + ((ushrJ (v0 - ((ushrJ v0 (1 : Int32)) &&& (6148914691236517205 : Int64))) (2 : Int32)) &&& (3689348814741910323 : Int64))) + (ushrJ (((v0 - ((ushrJ v0 (1 : Int32)) &&& (6148914691236517205 : Int64))) &&& (3689348814741910323 : Int64)) + ((ushrJ (v0 - ((ushrJ v0 (1 : Int32)) &&& (6148914691236517205 : Int64))) (2 : Int32)) &&& (3689348814741910323 : Int64))) (4 : Int32))) &&& (1085102592571150095 : Int64)) (8 : Int32))))]) dJ13_bitCount_95d88_40 rfl (by decide) rfl ?_
  refine z_lload_n C 0 0 dJ13_bitCount_95d88_41 rfl rfl ?_
  refine z_lload_n C 0 0 dJ13_bitCount_95d88_42 rfl rfl ?_
  refine z_bipush (v := 16) C dJ13_bitCount_95d88_43 rfl ?_
  refine z_lushr C dJ13_bitCount_95d88_45 ?_
  refine z_ladd C dJ13_bitCount_95d88_46 ?_
  refine z_lstore_n C 0 (ls1 := [(0, .long (((((((v0 - ((ushrJ v0 (1 : Int32)) &&& (6148914691236517205 : Int64))) &&& (3689348814741910323 : Int64)) + ((ushrJ (v0 - ((ushrJ v0 (1 : Int32)) &&& (6148914691236517205 : Int64))) (2 : Int32)) &&& (3689348814741910323 : Int64))) + (ushrJ (((v0 - ((ushrJ v0 (1 : Int32)) &&& (6148914691236517205 : Int64))) &&& (3689348814741910323 : Int64)) + ((ushrJ (v0 - ((ushrJ v0 (1 : Int32)) &&& (6148914691236517205 : Int64))) (2 : Int32)) &&& (3689348814741910323 : Int64))) (4 : Int32))) &&& (1085102592571150095 : Int64)) + (ushrJ (((((v0 - ((ushrJ v0 (1 : Int32)) &&& (6148914691236517205 : Int64))) &&& (3689348814741910323 : Int64)) + ((ushrJ (v0 - ((ushrJ v0 (1 : Int32)) &&& (6148914691236517205 : Int64))) (2 : Int32)) &&& (3689348814741910323 : Int64))) + (ushrJ (((v0 - ((ushrJ v0 (1 : Int32)) &&& (6148914691236517205 : Int64))) &&& (3689348814741910323 : Int64)) + ((ushrJ (v0 - ((ushrJ v0 (1 : Int32)) &&& (6148914691236517205 : Int64))) (2 : Int32)) &&& (3689348814741910323 : Int64))) (4 : Int32))) &&& (1085102592571150095 : Int64)) (8 : Int32))) + (ushrJ ((((((v0 - ((ushrJ v0 (1 : Int32)) &&& (6148914691236517205 : Int64))) &&& (3689348814741910323 : Int64)) + ((ushrJ (v0 - ((ushrJ v0 (1 : Int32)) &&& (6148914691236517205 : Int64))) (2 : Int32)) &&& (3689348814741910323 : Int64))) + (ushrJ (((v0 - ((ushrJ v0 (1 : Int32)) &&& (6148914691236517205 : Int64))) &&& (3689348814741910323 : Int64)) + ((ushrJ (v0 - ((ushrJ v0 (1 : Int32)) &&& (6148914691236517205 : Int64))) (2 : Int32)) &&& (3689348814741910323 : Int64))) (4 : Int32))) &&& (1085102592571150095 : Int64)) + (ushrJ (((((v0 - ((ushrJ v0 (1 : Int32)) &&& (6148914691236517205 : Int64))) &&& (3689348814741910323 : Int64)) + ((ushrJ (v0 - ((ushrJ v0 (1 : Int32)) &&& (6148914691236517205 : Int64))) (2 : Int32)) &&& (3689348814741910323 : Int64))) + (ushrJ (((v0 - ((ushrJ v0 (1 : Int32)) &&& (6148914691236517205 : Int64))) &&& (3689348814741910323 : Int64)) + ((ushrJ (v0 - ((ushrJ v0 (1 : Int32)) &&& (6148914691236517205 : Int64))) (2 : Int32)) &&& (3689348814741910323 : Int64))) (4 : Int32))) &&& (1085102592571150095 : Int64)) (8 : Int32))) (16 : Int32))))]) dJ13_bitCount_95d88_47 rfl (by decide) rfl ?_
  refine z_lload_n C 0 0 dJ13_bitCount_95d88_48 rfl rfl ?_
  refine z_lload_n C 0 0 dJ13_bitCount_95d88_49 rfl rfl ?_
  refine z_bipush (v := 32) C dJ13_bitCount_95d88_50 rfl ?_
  refine z_lushr C dJ13_bitCount_95d88_52 ?_
  refine z_ladd C dJ13_bitCount_95d88_53 ?_
  refine z_lstore_n C 0 (ls1 := [(0, .long ((((((((v0 - ((ushrJ v0 (1 : Int32)) &&& (6148914691236517205 : Int64))) &&& (3689348814741910323 : Int64)) + ((ushrJ (v0 - ((ushrJ v0 (1 : Int32)) &&& (6148914691236517205 : Int64))) (2 : Int32)) &&& (3689348814741910323 : Int64))) + (ushrJ (((v0 - ((ushrJ v0 (1 : Int32)) &&& (6148914691236517205 : Int64))) &&& (3689348814741910323 : Int64)) + ((ushrJ (v0 - ((ushrJ v0 (1 : Int32)) &&& (6148914691236517205 : Int64))) (2 : Int32)) &&& (3689348814741910323 : Int64))) (4 : Int32))) &&& (1085102592571150095 : Int64)) + (ushrJ (((((v0 - ((ushrJ v0 (1 : Int32)) &&& (6148914691236517205 : Int64))) &&& (3689348814741910323 : Int64)) + ((ushrJ (v0 - ((ushrJ v0 (1 : Int32)) &&& (6148914691236517205 : Int64))) (2 : Int32)) &&& (3689348814741910323 : Int64))) + (ushrJ (((v0 - ((ushrJ v0 (1 : Int32)) &&& (6148914691236517205 : Int64))) &&& (3689348814741910323 : Int64)) + ((ushrJ (v0 - ((ushrJ v0 (1 : Int32)) &&& (6148914691236517205 : Int64))) (2 : Int32)) &&& (3689348814741910323 : Int64))) (4 : Int32))) &&& (1085102592571150095 : Int64)) (8 : Int32))) + (ushrJ ((((((v0 - ((ushrJ v0 (1 : Int32)) &&& (6148914691236517205 : Int64))) &&& (3689348814741910323 : Int64)) + ((ushrJ (v0 - ((ushrJ v0 (1 : Int32)) &&& (6148914691236517205 : Int64))) (2 : Int32)) &&& (3689348814741910323 : Int64))) + (ushrJ (((v0 - ((ushrJ v0 (1 : Int32)) &&& (6148914691236517205 : Int64))) &&& (3689348814741910323 : Int64)) + ((ushrJ (v0 - ((ushrJ v0 (1 : Int32)) &&& (6148914691236517205 : Int64))) (2 : Int32)) &&& (3689348814741910323 : Int64))) (4 : Int32))) &&& (1085102592571150095 : Int64)) + (ushrJ (((((v0 - ((ushrJ v0 (1 : Int32)) &&& (6148914691236517205 : Int64))) &&& (3689348814741910323 : Int64)) + ((ushrJ (v0 - ((ushrJ v0 (1 : Int32)) &&& (6148914691236517205 : Int64))) (2 : Int32)) &&& (3689348814741910323 : Int64))) + (ushrJ (((v0 - ((ushrJ v0 (1 : Int32)) &&& (6148914691236517205 : Int64))) &&& (3689348814741910323 : Int64)) + ((ushrJ (v0 - ((ushrJ v0 (1 : Int32)) &&& (6148914691236517205 : Int64))) (2 : Int32)) &&& (3689348814741910323 : Int64))) (4 : Int32))) &&& (1085102592571150095 : Int64)) (8 : Int32))) (16 : Int32))) + (ushrJ (((((((v0 - ((ushrJ v0 (1 : Int32)) &&& (6148914691236517205 : Int64))) &&& (3689348814741910323 : Int64)) + ((ushrJ (v0 - ((ushrJ v0 (1 : Int32)) &&& (6148914691236517205 : Int64))) (2 : Int32)) &&& (3689348814741910323 : Int64))) + (ushrJ (((v0 - ((ushrJ v0 (1 : Int32)) &&& (6148914691236517205 : Int64))) &&& (3689348814741910323 : Int64)) + ((ushrJ (v0 - ((ushrJ v0 (1 : Int32)) &&& (6148914691236517205 : Int64))) (2 : Int32)) &&& (3689348814741910323 : Int64))) (4 : Int32))) &&& (1085102592571150095 : Int64)) + (ushrJ (((((v0 - ((ushrJ v0 (1 : Int32)) &&& (6148914691236517205 : Int64))) &&& (3689348814741910323 : Int64)) + ((ushrJ (v0 - ((ushrJ v0 (1 : Int32)) &&& (6148914691236517205 : Int64))) (2 : Int32)) &&& (3689348814741910323 : Int64))) + (ushrJ (((v0 - ((ushrJ v0 (1 : Int32)) &&& (6148914691236517205 : Int64))) &&& (3689348814741910323 : Int64)) + ((ushrJ (v0 - ((ushrJ v0 (1 : Int32)) &&& (6148914691236517205 : Int64))) (2 : Int32)) &&& (3689348814741910323 : Int64))) (4 : Int32))) &&& (1085102592571150095 : Int64)) (8 : Int32))) + (ushrJ ((((((v0 - ((ushrJ v0 (1 : Int32)) &&& (6148914691236517205 : Int64))) &&& (3689348814741910323 : Int64)) + ((ushrJ (v0 - ((ushrJ v0 (1 : Int32)) &&& (6148914691236517205 : Int64))) (2 : Int32)) &&& (3689348814741910323 : Int64))) + (ushrJ (((v0 - ((ushrJ v0 (1 : Int32)) &&& (6148914691236517205 : Int64))) &&& (3689348814741910323 : Int64)) + ((ushrJ (v0 - ((ushrJ v0 (1 : Int32)) &&& (6148914691236517205 : Int64))) (2 : Int32)) &&& (3689348814741910323 : Int64))) (4 : Int32))) &&& (1085102592571150095 : Int64)) + (ushrJ (((((v0 - ((ushrJ v0 (1 : Int32)) &&& (6148914691236517205 : Int64))) &&& (3689348814741910323 : Int64)) + ((ushrJ (v0 - ((ushrJ v0 (1 : Int32)) &&& (6148914691236517205 : Int64))) (2 : Int32)) &&& (3689348814741910323 : Int64))) + (ushrJ (((v0 - ((ushrJ v0 (1 : Int32)) &&& (6148914691236517205 : Int64))) &&& (3689348814741910323 : Int64)) + ((ushrJ (v0 - ((ushrJ v0 (1 : Int32)) &&& (6148914691236517205 : Int64))) (2 : Int32)) &&& (3689348814741910323 : Int64))) (4 : Int32))) &&& (1085102592571150095 : Int64)) (8 : Int32))) (16 : Int32))) (32 : Int32))))]) dJ13_bitCount_95d88_54 rfl (by decide) rfl ?_
  refine z_lload_n C 0 0 dJ13_bitCount_95d88_55 rfl rfl ?_
  refine z_l2i C dJ13_bitCount_95d88_56 ?_
  refine z_bipush (v := 127) C dJ13_bitCount_95d88_57 rfl ?_
  refine z_iand C dJ13_bitCount_95d88_59 ?_
  exact z_iret C hr (Nat.le_of_ble_eq_true rfl) dJ13_bitCount_95d88_60 rfl
set_option maxHeartbeats 4000000 in
set_option maxRecDepth 100000 in
theorem ctJ0_coder_7d493 {l : Launch} {D : va_G} {cy : Nat → ClassId} {B : Nat} {kd : Nat → Nat} {n : Nat} {sa sv : Nat → Nat} (G : zG l kd n) (v0 : Nat) (h0 : v0 < 40) (Mo : Mem) : CT l D cy B kd n sa sv 0 0 yJ0_coder_7d493 cJ0_coder_7d493 1 (some (FieldType.byte)) (pI Mo) [.ref (sa v0)] Mo (fJ0_coder_7d493 v0 Mo) := by
  refine ct_of (by decide) G.1 G.2 (Nat.le_of_ble_eq_true rfl) (ls := [(0, .ref (sa v0))]) rfl ?_
  intro p e s m args below meth c b0 C ht hr
  unfold fJ0_coder_7d493
  refine z_gets1 C gw_3_100 dJ0_coder_7d493_0 ?_
  refine z_if_eq C 13 dJ0_coder_7d493_3 rfl (fun _ => ?_) (fun _ => ?_)
  · refine z_iconst C dJ0_coder_7d493_13 rfl ?_
    exact z_bret C hr rfl (Nat.le_of_ble_eq_true rfl) dJ0_coder_7d493_14 rfl
  · refine z_aload_n C 0 0 dJ0_coder_7d493_6 rfl rfl ?_
    refine z_getTc C h0 gw_9_78 dJ0_coder_7d493_7 ?_
    refine z_goto C 14 dJ0_coder_7d493_10 rfl ?_
    exact z_bret C hr rfl (Nat.le_of_ble_eq_true rfl) dJ0_coder_7d493_14 rfl
set_option maxHeartbeats 4000000 in
set_option maxRecDepth 100000 in
theorem ctJ0_length_8abf5 {l : Launch} {D : va_G} {cy : Nat → ClassId} {B : Nat} {kd : Nat → Nat} {n : Nat} {sa sv : Nat → Nat} (G : zG l kd n) (v0 : Nat) (h0 : v0 < 40) (Mo : Mem) : CT l D cy B kd n sa sv 1 0 yJ0_length_8abf5 cJ0_length_8abf5 1 (some (FieldType.int)) (pI Mo) [.ref (sa v0)] Mo (fJ0_length_8abf5 v0 Mo) := by
  refine ct_of (by decide) G.1 G.2 (Nat.le_of_ble_eq_true rfl) (ls := [(0, .ref (sa v0))]) rfl ?_
  intro p e s m args below meth c b0 C ht hr
  unfold fJ0_length_8abf5
  refine z_aload_n C 0 0 dJ0_length_8abf5_0 rfl rfl ?_
  refine z_getTv C h0 gw_9_77 dJ0_length_8abf5_1 ?_
  refine z_lenU C h0 dJ0_length_8abf5_4 ?_
  refine z_aload_n C 0 0 dJ0_length_8abf5_5 rfl rfl ?_
  refine z_callVT_pI (As := []) (rest := [.int (nI (lenS v0))]) C rfl (ctJ0_coder_7d493 (zG_of C) v0 h0 Mo) cw_RJ0_335 rfl (okM_J0_coder_7d493) rfl h0 (okR_of rfl) (Nat.le_of_ble_eq_true rfl) dJ0_length_8abf5_6 (fun qj1 _ => ?_)
  refine z_ishr C dJ0_length_8abf5_9 ?_
  exact z_iret C hr (Nat.le_of_ble_eq_true rfl) dJ0_length_8abf5_10 rfl
set_option maxHeartbeats 4000000 in
set_option maxRecDepth 100000 in
theorem z_fJ0_isLatin1_aae02_b17 {p : Program} {l : Launch} {e : Env} {s : State} {m : MethodId} {args : Array Value} {below : List Frame} {meth : Method} {c : Code} {D : va_G} {cy : Nat → ClassId} {B : Nat} {kd : Nat → Nat} {n : Nat} {sa sv : Nat → Nat} (C : zC p l s m args meth c D cy B kd n sa sv RJ0 cJ0_isLatin1_aae02 1) (ht : ∀ x ∈ c.exceptionTable.toList, False) (hr : meth.sig.returnType = some (FieldType.boolean)) {b0 : Bool}   (Mo : Mem)  : Z p l e (rmz 0 0) s m args below meth c (vx_MQ below (QcR D cy B kd n ((pB Mo) b0)) (XcR D cy B kd n ((pB Mo) b0)) args s 0 (6 * 0) (AA B kd n)) D cy B kd n 1 b0 0 17 [] [] Mo (fJ0_isLatin1_aae02_b17 Mo) := by
  unfold fJ0_isLatin1_aae02_b17
  refine z_iconst C dJ0_isLatin1_aae02_17 rfl ?_
  exact z_zret C (v := false) hr (Nat.le_of_ble_eq_true rfl) dJ0_isLatin1_aae02_18 rfl
set_option maxHeartbeats 4000000 in
set_option maxRecDepth 100000 in
theorem ctJ0_isLatin1_aae02 {l : Launch} {D : va_G} {cy : Nat → ClassId} {B : Nat} {kd : Nat → Nat} {n : Nat} {sa sv : Nat → Nat} (G : zG l kd n) (v0 : Nat) (h0 : v0 < 40) (Mo : Mem) : CT l D cy B kd n sa sv 0 0 yJ0_isLatin1_aae02 cJ0_isLatin1_aae02 1 (some (FieldType.boolean)) (pB Mo) [.ref (sa v0)] Mo (fJ0_isLatin1_aae02 v0 Mo) := by
  refine ct_of (by decide) G.1 G.2 (Nat.le_of_ble_eq_true rfl) (ls := [(0, .ref (sa v0))]) rfl ?_
  intro p e s m args below meth c b0 C ht hr
  unfold fJ0_isLatin1_aae02
  refine z_gets1 C gw_3_100 dJ0_isLatin1_aae02_0 ?_
  refine z_if_eq C 17 dJ0_isLatin1_aae02_3 rfl (fun _ => ?_) (fun _ => ?_)
  · exact z_jump (ls1 := []) (Nat.le_of_ble_eq_true rfl) [] rfl (z_fJ0_isLatin1_aae02_b17 C ht hr Mo)
  · refine z_aload_n C 0 0 dJ0_isLatin1_aae02_6 rfl rfl ?_
    refine z_getTc C h0 gw_9_78 dJ0_isLatin1_aae02_7 ?_
    refine z_if_ne C 17 dJ0_isLatin1_aae02_10 rfl (fun _ => ?_) (fun _ => ?_)
    · refine z_iconst C dJ0_isLatin1_aae02_13 rfl ?_
      refine z_goto C 18 dJ0_isLatin1_aae02_14 rfl ?_
      exact z_zret C (v := true) hr (Nat.le_of_ble_eq_true rfl) dJ0_isLatin1_aae02_18 rfl
    · exact z_jump (ls1 := []) (Nat.le_of_ble_eq_true rfl) [] rfl (z_fJ0_isLatin1_aae02_b17 C ht hr Mo)
set_option maxHeartbeats 4000000 in
set_option maxRecDepth 100000 in
theorem ctJ0_checkIndex_df160 {l : Launch} {D : va_G} {cy : Nat → ClassId} {B : Nat} {kd : Nat → Nat} {n : Nat} {sa sv : Nat → Nat} (G : zG l kd n) (v0 : Int32) (v1 : Int32)  (Mo : Mem) : CT l D cy B kd n sa sv 1 0 yJ0_checkIndex_df160 cJ0_checkIndex_df160 2 (none) (pV Mo) [.int v0, .int v1] Mo (fJ0_checkIndex_df160 v0 v1 Mo) := by
  refine ct_of (by decide) G.1 G.2 (Nat.le_of_ble_eq_true rfl) (ls := [(0, .int v0), (1, .int v1)]) rfl ?_
  intro p e s m args below meth c b0 C ht hr
  unfold fJ0_checkIndex_df160
  refine z_iload_n C 0 0 dJ0_checkIndex_df160_0 rfl rfl ?_
  refine z_iload_n C 1 1 dJ0_checkIndex_df160_1 rfl rfl ?_
  refine z_getsW C gw_3_116 dJ0_checkIndex_df160_2 (fun wj1 hwj1 => ?_)
  refine z_callS_pI (As := [.int v0, .int v1, wj1]) (rest := []) C rfl (ctJ3_checkIndex_8e157 (zG_of C) v0 v1 wj1 hwj1 Mo) cw_RJ0_1059 (okM_J3_checkIndex_8e157) rfl (okR_of rfl) (Nat.le_of_ble_eq_true rfl) dJ0_checkIndex_df160_5 (fun qj2 _ => ?_)
  refine z_pop C dJ0_checkIndex_df160_8 rfl ?_
  exact z_vret C hr (Nat.le_of_ble_eq_true rfl) dJ0_checkIndex_df160_9 rfl
set_option maxHeartbeats 4000000 in
set_option maxRecDepth 100000 in
theorem ctJ1_charAt_3b067 {l : Launch} {D : va_G} {cy : Nat → ClassId} {B : Nat} {kd : Nat → Nat} {n : Nat} {sa sv : Nat → Nat} (G : zG l kd n) (v0 : Nat) (v1 : Int32) (h0 : v0 < 40) (Mo : Mem) : CT l D cy B kd n sa sv 2 0 yJ1_charAt_3b067 cJ1_charAt_3b067 2 (some (FieldType.char)) (pI Mo) [.ref (sv v0), .int v1] Mo (fJ1_charAt_3b067 v0 v1 Mo) := by
  refine ct_of (by decide) G.1 G.2 (Nat.le_of_ble_eq_true rfl) (ls := [(0, .ref (sv v0)), (1, .int v1)]) rfl ?_
  intro p e s m args below meth c b0 C ht hr
  unfold fJ1_charAt_3b067
  refine z_iload_n C 1 1 dJ1_charAt_3b067_0 rfl rfl ?_
  refine z_aload_n C 0 0 dJ1_charAt_3b067_1 rfl rfl ?_
  refine z_lenU C h0 dJ1_charAt_3b067_2 ?_
  refine z_callS_pV (As := [.int v1, .int (nI (lenS v0))]) (rest := []) C rfl (ctJ0_checkIndex_df160 (zG_of C) v1 (nI (lenS v0)) Mo) cw_RJ1_9 (okM_J0_checkIndex_df160) rfl (okR_of rfl) (Nat.le_of_ble_eq_true rfl) dJ1_charAt_3b067_3 (fun qj1 _ => ?_)
  refine z_aload_n C 0 0 dJ1_charAt_3b067_6 rfl rfl ?_
  refine z_iload_n C 1 1 dJ1_charAt_3b067_7 rfl rfl ?_
  refine z_baldU C h0 dJ1_charAt_3b067_8 (fun _ => ?_)
  refine z_sipush (v := 255) C dJ1_charAt_3b067_9 rfl ?_
  refine z_iand C dJ1_charAt_3b067_12 ?_
  refine z_i2c C dJ1_charAt_3b067_13 ?_
  exact z_cretg C hr (Nat.le_of_ble_eq_true rfl) dJ1_charAt_3b067_14 rfl
set_option maxHeartbeats 4000000 in
set_option maxRecDepth 100000 in
theorem ctJ0_charAt_5068e {l : Launch} {D : va_G} {cy : Nat → ClassId} {B : Nat} {kd : Nat → Nat} {n : Nat} {sa sv : Nat → Nat} (G : zG l kd n) (v0 : Nat) (v1 : Int32) (h0 : v0 < 40) (Mo : Mem) : CT l D cy B kd n sa sv 3 0 yJ0_charAt_5068e cJ0_charAt_5068e 2 (some (FieldType.char)) (pI Mo) [.ref (sa v0), .int v1] Mo (fJ0_charAt_5068e v0 v1 Mo) := by
  refine ct_of (by decide) G.1 G.2 (Nat.le_of_ble_eq_true rfl) (ls := [(0, .ref (sa v0)), (1, .int v1)]) rfl ?_
  intro p e s m args below meth c b0 C ht hr
  unfold fJ0_charAt_5068e
  refine z_aload_n C 0 0 dJ0_charAt_5068e_0 rfl rfl ?_
  refine z_callVT_pB (As := []) (rest := []) C rfl (ctJ0_isLatin1_aae02 (zG_of C) v0 h0 Mo) cw_RJ0_492 rfl (okM_J0_isLatin1_aae02) rfl h0 (okR_of rfl) (Nat.le_of_ble_eq_true rfl) dJ0_charAt_5068e_1 (fun qj1 _ => ?_)
  refine z_if_eqB C 16 dJ0_charAt_5068e_4 rfl (fun _ => ?_) (fun _ => ?_)
  · refine z_aload_n C 0 0 dJ0_charAt_5068e_7 rfl rfl ?_
    refine z_getTv C h0 gw_9_77 dJ0_charAt_5068e_8 ?_
    refine z_iload_n C 1 1 dJ0_charAt_5068e_11 rfl rfl ?_
    refine z_callS_pI (As := [.ref (sv v0), .int v1]) (rest := []) C rfl (ctJ1_charAt_3b067 (zG_of C) v0 v1 h0 Mo) cw_RJ0_495 (okM_J1_charAt_3b067) rfl (okR_of rfl) (Nat.le_of_ble_eq_true rfl) dJ0_charAt_5068e_12 (fun qj2 _ => ?_)
    exact z_cretg C hr (Nat.le_of_ble_eq_true rfl) dJ0_charAt_5068e_15 rfl
  · exact z_none
set_option maxHeartbeats 4000000 in
set_option maxRecDepth 100000 in
theorem z_fJ1_canEncode_9a6ad_b15 {p : Program} {l : Launch} {e : Env} {s : State} {m : MethodId} {args : Array Value} {below : List Frame} {meth : Method} {c : Code} {D : va_G} {cy : Nat → ClassId} {B : Nat} {kd : Nat → Nat} {n : Nat} {sa sv : Nat → Nat} (C : zC p l s m args meth c D cy B kd n sa sv RJ1 cJ1_canEncode_9a6ad 1) (ht : ∀ x ∈ c.exceptionTable.toList, False) (hr : meth.sig.returnType = some (FieldType.boolean)) {b0 : Bool}   (Mo : Mem)  : Z p l e (rmz 0 0) s m args below meth c (vx_MQ below (QcR D cy B kd n ((pB Mo) b0)) (XcR D cy B kd n ((pB Mo) b0)) args s 0 (6 * 0) (AA B kd n)) D cy B kd n 1 b0 0 15 [] [] Mo (fJ1_canEncode_9a6ad_b15 Mo) := by
  unfold fJ1_canEncode_9a6ad_b15
  refine z_iconst C dJ1_canEncode_9a6ad_15 rfl ?_
  exact z_zret C (v := false) hr (Nat.le_of_ble_eq_true rfl) dJ1_canEncode_9a6ad_16 rfl
set_option maxHeartbeats 4000000 in
set_option maxRecDepth 100000 in
theorem ctJ1_canEncode_9a6ad {l : Launch} {D : va_G} {cy : Nat → ClassId} {B : Nat} {kd : Nat → Nat} {n : Nat} {sa sv : Nat → Nat} (G : zG l kd n) (v0 : Int32)  (Mo : Mem) : CT l D cy B kd n sa sv 0 0 yJ1_canEncode_9a6ad cJ1_canEncode_9a6ad 1 (some (FieldType.boolean)) (pB Mo) [.int v0] Mo (fJ1_canEncode_9a6ad v0 Mo) := by
  refine ct_of (by decide) G.1 G.2 (Nat.le_of_ble_eq_true rfl) (ls := [(0, .int v0)]) rfl ?_
  intro p e s m args below meth c b0 C ht hr
  unfold fJ1_canEncode_9a6ad
  refine z_iload_n C 0 0 dJ1_canEncode_9a6ad_0 rfl rfl ?_
  refine z_if_lt C 15 dJ1_canEncode_9a6ad_1 rfl (fun _ => ?_) (fun _ => ?_)
  · exact z_jump (ls1 := []) (Nat.le_of_ble_eq_true rfl) [] rfl (z_fJ1_canEncode_9a6ad_b15 C ht hr Mo)
  · refine z_iload_n C 0 0 dJ1_canEncode_9a6ad_4 rfl rfl ?_
    refine z_sipush (v := 255) C dJ1_canEncode_9a6ad_5 rfl ?_
    refine z_icmp_gt C 15 dJ1_canEncode_9a6ad_8 rfl (fun _ => ?_) (fun _ => ?_)
    · exact z_jump (ls1 := []) (Nat.le_of_ble_eq_true rfl) [] rfl (z_fJ1_canEncode_9a6ad_b15 C ht hr Mo)
    · refine z_iconst C dJ1_canEncode_9a6ad_11 rfl ?_
      refine z_goto C 16 dJ1_canEncode_9a6ad_12 rfl ?_
      exact z_zret C (v := true) hr (Nat.le_of_ble_eq_true rfl) dJ1_canEncode_9a6ad_16 rfl
set_option maxHeartbeats 4000000 in
set_option maxRecDepth 100000 in
theorem z_fJ1_indexOfChar_4cfef_l7_s {p : Program} {l : Launch} {e : Env} {s : State} {m : MethodId} {args : Array Value} {below : List Frame} {meth : Method} {c : Code} {D : va_G} {cy : Nat → ClassId} {B : Nat} {kd : Nat → Nat} {n : Nat} {sa sv : Nat → Nat} (C : zC p l s m args meth c D cy B kd n sa sv RJ1 cJ1_indexOfChar_4cfef 6) (ht : ∀ x ∈ c.exceptionTable.toList, False) (hr : meth.sig.returnType = some (FieldType.int)) {b0 : Int32} {Mo : Mem} (N : Nat) (v0 : Nat) (v3 : Int32) (v4 : Int32) (k7 : Int32 → Option Int32) (v5 : Int32) (h0 : v0 < 40)  (hk7 : ∀ (v5 : Int32), Z p l e (rmz 0 0) s m args below meth c (vx_MQ below (QcR D cy B kd n ((pI Mo) b0)) (XcR D cy B kd n ((pI Mo) b0)) args s 0 (6 * 0) (AA B kd n)) D cy B kd n 6 b0 0 7 [(0, .ref (sv v0)), (3, .int v3), (4, .int v4), (5, .int v5)] [] Mo (k7 v5)) : Z p l e (rmz 0 0) s m args below meth c (vx_MQ below (QcR D cy B kd n ((pI Mo) b0)) (XcR D cy B kd n ((pI Mo) b0)) args s 0 (6 * 0) (AA B kd n)) D cy B kd n 6 b0 0 7 [(0, .ref (sv v0)), (3, .int v3), (4, .int v4), (5, .int v5)] [] Mo (fJ1_indexOfChar_4cfef_l7_s N v0 v3 v4 Mo k7 v5) := by
  unfold fJ1_indexOfChar_4cfef_l7_s
  refine z_iload C 3 dJ1_indexOfChar_4cfef_7 rfl ?_
  refine z_iload_n C 3 1 dJ1_indexOfChar_4cfef_9 rfl rfl ?_
  refine z_icmp_ge C 31 dJ1_indexOfChar_4cfef_10 rfl (fun _ => ?_) (fun _ => ?_)
  · refine z_iconst C dJ1_indexOfChar_4cfef_31 rfl ?_
    exact z_iret C hr (Nat.le_of_ble_eq_true rfl) dJ1_indexOfChar_4cfef_32 rfl
  · refine z_aload_n C 0 0 dJ1_indexOfChar_4cfef_13 rfl rfl ?_
    refine z_iload C 3 dJ1_indexOfChar_4cfef_14 rfl ?_
    refine z_baldU C h0 dJ1_indexOfChar_4cfef_16 (fun _ => ?_)
    refine z_iload C 2 dJ1_indexOfChar_4cfef_17 rfl ?_
    refine z_icmp_ne C 25 dJ1_indexOfChar_4cfef_19 rfl (fun _ => ?_) (fun _ => ?_)
    · refine z_iload C 3 dJ1_indexOfChar_4cfef_22 rfl ?_
      exact z_iret C hr (Nat.le_of_ble_eq_true rfl) dJ1_indexOfChar_4cfef_24 rfl
    · refine z_iinc C 5 3 (v := v5) (v1 := (v5 + (1 : Int32))) (ls1 := [(5, .int (v5 + (1 : Int32))), (0, .ref (sv v0)), (3, .int v3), (4, .int v4)]) dJ1_indexOfChar_4cfef_25 rfl rfl (by decide) rfl ?_
      refine z_goto C 7 dJ1_indexOfChar_4cfef_28 rfl ?_
      exact z_jump (ls1 := [(0, .ref (sv v0)), (3, .int v3), (4, .int v4), (5, .int (v5 + (1 : Int32)))]) (Nat.le_of_ble_eq_true rfl) [1, 2, 3, 0] rfl (hk7 (v5 + (1 : Int32)))
theorem z_fJ1_indexOfChar_4cfef_l7_i {p : Program} {l : Launch} {e : Env} {s : State} {m : MethodId} {args : Array Value} {below : List Frame} {meth : Method} {c : Code} {D : va_G} {cy : Nat → ClassId} {B : Nat} {kd : Nat → Nat} {n : Nat} {sa sv : Nat → Nat} (C : zC p l s m args meth c D cy B kd n sa sv RJ1 cJ1_indexOfChar_4cfef 6) (ht : ∀ x ∈ c.exceptionTable.toList, False) (hr : meth.sig.returnType = some (FieldType.int)) {b0 : Int32} {Mo : Mem} (N : Nat) (v0 : Nat) (v3 : Int32) (v4 : Int32) (h0 : v0 < 40)  (fu : Nat) : ∀ (v5 : Int32), Z p l e (rmz 0 0) s m args below meth c (vx_MQ below (QcR D cy B kd n ((pI Mo) b0)) (XcR D cy B kd n ((pI Mo) b0)) args s 0 (6 * 0) (AA B kd n)) D cy B kd n 6 b0 0 7 [(0, .ref (sv v0)), (3, .int v3), (4, .int v4), (5, .int v5)] [] Mo (fJ1_indexOfChar_4cfef_l7 N v0 v3 v4 Mo fu v5) := by
  induction fu with
  | zero => intro v5; exact z_none
  | succ fu ih => intro v5; exact z_fJ1_indexOfChar_4cfef_l7_s C ht hr N v0 v3 v4 (fJ1_indexOfChar_4cfef_l7 N v0 v3 v4 Mo fu) v5 h0 (fun v5 => ih v5)
theorem z_fJ1_indexOfChar_4cfef_l7 {p : Program} {l : Launch} {e : Env} {s : State} {m : MethodId} {args : Array Value} {below : List Frame} {meth : Method} {c : Code} {D : va_G} {cy : Nat → ClassId} {B : Nat} {kd : Nat → Nat} {n : Nat} {sa sv : Nat → Nat} (C : zC p l s m args meth c D cy B kd n sa sv RJ1 cJ1_indexOfChar_4cfef 6) (ht : ∀ x ∈ c.exceptionTable.toList, False) (hr : meth.sig.returnType = some (FieldType.int)) {b0 : Int32} {Mo : Mem} (N : Nat) (v0 : Nat) (v3 : Int32) (v4 : Int32) (fu : Nat) (v5 : Int32) (h0 : v0 < 40)  : Z p l e (rmz 0 0) s m args below meth c (vx_MQ below (QcR D cy B kd n ((pI Mo) b0)) (XcR D cy B kd n ((pI Mo) b0)) args s 0 (6 * 0) (AA B kd n)) D cy B kd n 6 b0 0 7 [(0, .ref (sv v0)), (3, .int v3), (4, .int v4), (5, .int v5)] [] Mo (fJ1_indexOfChar_4cfef_l7 N v0 v3 v4 Mo fu v5) := z_fJ1_indexOfChar_4cfef_l7_i C ht hr N v0 v3 v4 h0 fu v5
set_option maxHeartbeats 4000000 in
set_option maxRecDepth 100000 in
theorem ctJ1_indexOfChar_4cfef {l : Launch} {D : va_G} {cy : Nat → ClassId} {B : Nat} {kd : Nat → Nat} {n : Nat} {sa sv : Nat → Nat} (G : zG l kd n) (N : Nat) (v0 : Nat) (v1 : Int32) (v2 : Int32) (v3 : Int32) (h0 : v0 < 40) (Mo : Mem) : CT l D cy B kd n sa sv 0 0 yJ1_indexOfChar_4cfef cJ1_indexOfChar_4cfef 6 (some (FieldType.int)) (pI Mo) [.ref (sv v0), .int v1, .int v2, .int v3] Mo (fJ1_indexOfChar_4cfef N v0 v1 v2 v3 Mo) := by
  refine ct_of (by decide) G.1 G.2 (Nat.le_of_ble_eq_true rfl) (ls := [(0, .ref (sv v0)), (1, .int v1), (2, .int v2), (3, .int v3)]) rfl ?_
  intro p e s m args below meth c b0 C ht hr
  unfold fJ1_indexOfChar_4cfef
  refine z_iload_n C 1 1 dJ1_indexOfChar_4cfef_0 rfl rfl ?_
  refine z_i2b C dJ1_indexOfChar_4cfef_1 ?_
  refine z_istore C 4 (ls1 := [(4, .int v1.toInt8.toInt32), (0, .ref (sv v0)), (1, .int v1), (2, .int v2), (3, .int v3)]) dJ1_indexOfChar_4cfef_2 (by decide) rfl ?_
  refine z_iload_n C 2 3 dJ1_indexOfChar_4cfef_4 rfl rfl ?_
  refine z_istore C 5 (ls1 := [(5, .int v2), (4, .int v1.toInt8.toInt32), (0, .ref (sv v0)), (1, .int v1), (2, .int v2), (3, .int v3)]) dJ1_indexOfChar_4cfef_5 (by decide) rfl ?_
  exact z_jump (ls1 := [(0, .ref (sv v0)), (3, .int v3), (4, .int v1.toInt8.toInt32), (5, .int v2)]) (Nat.le_of_ble_eq_true rfl) [2, 5, 1, 0] rfl (z_fJ1_indexOfChar_4cfef_l7 C ht hr N v0 v3 v1.toInt8.toInt32 N v2 h0)
set_option maxHeartbeats 4000000 in
set_option maxRecDepth 100000 in
theorem ctJ1_indexOf_4cfef {l : Launch} {D : va_G} {cy : Nat → ClassId} {B : Nat} {kd : Nat → Nat} {n : Nat} {sa sv : Nat → Nat} (G : zG l kd n) (N : Nat) (v0 : Nat) (v1 : Int32) (v2 : Int32) (v3 : Int32) (h0 : v0 < 40) (Mo : Mem) : CT l D cy B kd n sa sv 1 0 yJ1_indexOf_4cfef cJ1_indexOf_4cfef 4 (some (FieldType.int)) (pI Mo) [.ref (sv v0), .int v1, .int v2, .int v3] Mo (fJ1_indexOf_4cfef N v0 v1 v2 v3 Mo) := by
  refine ct_of (by decide) G.1 G.2 (Nat.le_of_ble_eq_true rfl) (ls := [(0, .ref (sv v0)), (1, .int v1), (2, .int v2), (3, .int v3)]) rfl ?_
  intro p e s m args below meth c b0 C ht hr
  unfold fJ1_indexOf_4cfef
  refine z_iload_n C 1 1 dJ1_indexOf_4cfef_0 rfl rfl ?_
  refine z_callS_pB (As := [.int v1]) (rest := []) C rfl (ctJ1_canEncode_9a6ad (zG_of C) v1 Mo) cw_RJ1_88 (okM_J1_canEncode_9a6ad) rfl (okR_of rfl) (Nat.le_of_ble_eq_true rfl) dJ1_indexOf_4cfef_1 (fun qj1 _ => ?_)
  refine z_if_neB C 9 dJ1_indexOf_4cfef_4 rfl (fun _ => ?_) (fun _ => ?_)
  · refine z_iload_n C 2 2 dJ1_indexOf_4cfef_9 rfl rfl ?_
    refine z_iconst C dJ1_indexOf_4cfef_10 rfl ?_
    refine z_max C cw_RJ1_92 ⟨Nat.le_of_ble_eq_true rfl, Nat.le_of_ble_eq_true rfl, Nat.le_of_ble_eq_true rfl, Nat.le_of_ble_eq_true rfl⟩ (Nat.le_of_ble_eq_true rfl) dJ1_indexOf_4cfef_11 ?_
    refine z_istore_n C 2 (ls1 := [(2, .int (maxI v2 (0 : Int32))), (0, .ref (sv v0)), (1, .int v1), (3, .int v3)]) dJ1_indexOf_4cfef_14 rfl (by decide) rfl ?_
    refine z_iload_n C 3 3 dJ1_indexOf_4cfef_15 rfl rfl ?_
    refine z_aload_n C 0 1 dJ1_indexOf_4cfef_16 rfl rfl ?_
    refine z_lenU C h0 dJ1_indexOf_4cfef_17 ?_
    refine z_min C cw_RJ1_38 ⟨Nat.le_of_ble_eq_true rfl, Nat.le_of_ble_eq_true rfl, Nat.le_of_ble_eq_true rfl, Nat.le_of_ble_eq_true rfl⟩ (Nat.le_of_ble_eq_true rfl) dJ1_indexOf_4cfef_18 ?_
    refine z_istore_n C 3 (ls1 := [(3, .int (minI v3 (nI (lenS v0)))), (2, .int (maxI v2 (0 : Int32))), (0, .ref (sv v0)), (1, .int v1)]) dJ1_indexOf_4cfef_21 rfl (by decide) rfl ?_
    refine z_iload_n C 2 1 dJ1_indexOf_4cfef_22 rfl rfl ?_
    refine z_iload_n C 3 0 dJ1_indexOf_4cfef_23 rfl rfl ?_
    refine z_icmp_lt C 29 dJ1_indexOf_4cfef_24 rfl (fun _ => ?_) (fun _ => ?_)
    · refine z_aload_n C 0 2 dJ1_indexOf_4cfef_29 rfl rfl ?_
      refine z_iload_n C 1 3 dJ1_indexOf_4cfef_30 rfl rfl ?_
      refine z_iload_n C 2 1 dJ1_indexOf_4cfef_31 rfl rfl ?_
      refine z_iload_n C 3 0 dJ1_indexOf_4cfef_32 rfl rfl ?_
      refine z_callS_pI (As := [.ref (sv v0), .int v1, .int (maxI v2 (0 : Int32)), .int (minI v3 (nI (lenS v0)))]) (rest := []) C rfl (ctJ1_indexOfChar_4cfef (zG_of C) N v0 v1 (maxI v2 (0 : Int32)) (minI v3 (nI (lenS v0))) h0 Mo) cw_RJ1_95 (okM_J1_indexOfChar_4cfef) rfl (okR_of rfl) (Nat.le_of_ble_eq_true rfl) dJ1_indexOf_4cfef_33 (fun qj2 _ => ?_)
      exact z_iret C hr (Nat.le_of_ble_eq_true rfl) dJ1_indexOf_4cfef_36 rfl
    · refine z_iconst C dJ1_indexOf_4cfef_27 rfl ?_
      exact z_iret C hr (Nat.le_of_ble_eq_true rfl) dJ1_indexOf_4cfef_28 rfl
  · refine z_iconst C dJ1_indexOf_4cfef_7 rfl ?_
    exact z_iret C hr (Nat.le_of_ble_eq_true rfl) dJ1_indexOf_4cfef_8 rfl
set_option maxHeartbeats 4000000 in
set_option maxRecDepth 100000 in
theorem ctJ0_indexOf_7cf53 {l : Launch} {D : va_G} {cy : Nat → ClassId} {B : Nat} {kd : Nat → Nat} {n : Nat} {sa sv : Nat → Nat} (G : zG l kd n) (N : Nat) (v0 : Nat) (v1 : Int32) (v2 : Int32) (h0 : v0 < 40) (Mo : Mem) : CT l D cy B kd n sa sv 2 0 yJ0_indexOf_7cf53 cJ0_indexOf_7cf53 3 (some (FieldType.int)) (pI Mo) [.ref (sa v0), .int v1, .int v2] Mo (fJ0_indexOf_7cf53 N v0 v1 v2 Mo) := by
  refine ct_of (by decide) G.1 G.2 (Nat.le_of_ble_eq_true rfl) (ls := [(0, .ref (sa v0)), (1, .int v1), (2, .int v2)]) rfl ?_
  intro p e s m args below meth c b0 C ht hr
  unfold fJ0_indexOf_7cf53
  refine z_aload_n C 0 0 dJ0_indexOf_7cf53_0 rfl rfl ?_
  refine z_callVT_pB (As := []) (rest := []) C rfl (ctJ0_isLatin1_aae02 (zG_of C) v0 h0 Mo) cw_RJ0_492 rfl (okM_J0_isLatin1_aae02) rfl h0 (okR_of rfl) (Nat.le_of_ble_eq_true rfl) dJ0_indexOf_7cf53_1 (fun qj1 _ => ?_)
  refine z_if_eqB C 23 dJ0_indexOf_7cf53_4 rfl (fun _ => ?_) (fun _ => ?_)
  · refine z_aload_n C 0 0 dJ0_indexOf_7cf53_7 rfl rfl ?_
    refine z_getTv C h0 gw_9_77 dJ0_indexOf_7cf53_8 ?_
    refine z_iload_n C 1 1 dJ0_indexOf_7cf53_11 rfl rfl ?_
    refine z_iload_n C 2 2 dJ0_indexOf_7cf53_12 rfl rfl ?_
    refine z_aload_n C 0 0 dJ0_indexOf_7cf53_13 rfl rfl ?_
    refine z_callVT_pI (As := []) (rest := [.int v2, .int v1, .ref (sv v0)]) C rfl (ctJ0_length_8abf5 (zG_of C) v0 h0 Mo) cw_RJ0_505 rfl (okM_J0_length_8abf5) rfl h0 (okR_of rfl) (Nat.le_of_ble_eq_true rfl) dJ0_indexOf_7cf53_14 (fun qj2 _ => ?_)
    refine z_callS_pI (As := [.ref (sv v0), .int v1, .int v2, .int qj2]) (rest := []) C rfl (ctJ1_indexOf_4cfef (zG_of C) N v0 v1 v2 qj2 h0 Mo) cw_RJ0_637 (okM_J1_indexOf_4cfef) rfl (okR_of rfl) (Nat.le_of_ble_eq_true rfl) dJ0_indexOf_7cf53_17 (fun qj3 _ => ?_)
    refine z_goto C 36 dJ0_indexOf_7cf53_20 rfl ?_
    exact z_iret C hr (Nat.le_of_ble_eq_true rfl) dJ0_indexOf_7cf53_36 rfl
  · exact z_none
set_option maxHeartbeats 4000000 in
set_option maxRecDepth 100000 in
theorem ctJ0_indexOf_0f7a4 {l : Launch} {D : va_G} {cy : Nat → ClassId} {B : Nat} {kd : Nat → Nat} {n : Nat} {sa sv : Nat → Nat} (G : zG l kd n) (N : Nat) (v0 : Nat) (v1 : Int32) (h0 : v0 < 40) (Mo : Mem) : CT l D cy B kd n sa sv 3 0 yJ0_indexOf_0f7a4 cJ0_indexOf_0f7a4 2 (some (FieldType.int)) (pI Mo) [.ref (sa v0), .int v1] Mo (fJ0_indexOf_0f7a4 N v0 v1 Mo) := by
  refine ct_of (by decide) G.1 G.2 (Nat.le_of_ble_eq_true rfl) (ls := [(0, .ref (sa v0)), (1, .int v1)]) rfl ?_
  intro p e s m args below meth c b0 C ht hr
  unfold fJ0_indexOf_0f7a4
  refine z_aload_n C 0 0 dJ0_indexOf_0f7a4_0 rfl rfl ?_
  refine z_iload_n C 1 1 dJ0_indexOf_0f7a4_1 rfl rfl ?_
  refine z_iconst C dJ0_indexOf_0f7a4_2 rfl ?_
  refine z_callVT_pI (As := [.int v1, .int (0 : Int32)]) (rest := []) C rfl (ctJ0_indexOf_7cf53 (zG_of C) N v0 v1 (0 : Int32) h0 Mo) cw_RJ0_633 rfl (okM_J0_indexOf_7cf53) rfl h0 (okR_of rfl) (Nat.le_of_ble_eq_true rfl) dJ0_indexOf_0f7a4_3 (fun qj1 _ => ?_)
  exact z_iret C hr (Nat.le_of_ble_eq_true rfl) dJ0_indexOf_0f7a4_6 rfl
