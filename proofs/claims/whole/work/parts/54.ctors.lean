theorem gk_1_35 : Cond.instanceMethod Lib.objectInit ∈ GW := GW_in (tin_1 (k := 35) (by decide +kernel)) rfl
theorem gk_1_36 : Cond.code Lib.objectInit ⟨#[0xb1]⟩ 1 none ∈ GW := GW_in (tin_1 (k := 36) (by decide +kernel)) rfl
theorem gk_1_116 : Cond.methodLink RX2 3 Lib.objectInit ∈ GW := GW_in (tin_1 (k := 116) (by decide +kernel)) rfl
theorem gk_1_121 : Cond.arrayClass .long ∈ GW := GW_in (tin_1 (k := 121) (by decide +kernel)) rfl
theorem gk_1_48 : Cond.methodLink RX6 3 Lib.objectInit ∈ GW := GW_in (tin_1 (k := 48) (by decide +kernel)) rfl
theorem gk_1_103 : Cond.arrayClass .int ∈ GW := GW_in (tin_1 (k := 103) (by decide +kernel)) rfl
theorem gk_2_51 : Cond.methodLink RX3 3 Lib.objectInit ∈ GW := GW_in (tin_2 (k := 51) (by decide +kernel)) rfl
theorem gk_2_76 : Cond.methodLink RX8 3 Lib.objectInit ∈ GW := GW_in (tin_2 (k := 76) (by decide +kernel)) rfl
theorem gk_1_205 : Cond.methodLink RX9 3 Lib.objectInit ∈ GW := GW_in (tin_1 (k := 205) (by decide +kernel)) rfl
theorem gk_2_95 : Cond.methodLink RX0 3 Lib.objectInit ∈ GW := GW_in (tin_2 (k := 95) (by decide +kernel)) rfl
theorem gk_2_96 : Cond.classLink RX0 9 RX2 ∈ GW := GW_in (tin_2 (k := 96) (by decide +kernel)) rfl
theorem gk_1_112 : Cond.instantiable RX2 1 ∈ GW := GW_in (tin_1 (k := 112) (by decide +kernel)) rfl
theorem gk_1_115 : Cond.code yX2_init cX2_init 1 (none) ∈ GW := GW_in (tin_1 (k := 115) (by decide +kernel)) rfl
theorem gk_1_114 : Cond.instanceMethod yX2_init ∈ GW := GW_in (tin_1 (k := 114) (by decide +kernel)) rfl
theorem nk_2_97 : Cond.methodLinkNest RX0 11 yX2_init RX10 ∈ NW := NW_in (tin_2 (k := 97) (by decide +kernel)) rfl
theorem gk_2_138 : Cond.methodLink RX1 1 Lib.objectInit ∈ GW := GW_in (tin_2 (k := 138) (by decide +kernel)) rfl
theorem gk_2_139 : Cond.classLink RX1 7 RX2 ∈ GW := GW_in (tin_2 (k := 139) (by decide +kernel)) rfl
theorem nk_2_140 : Cond.methodLinkNest RX1 9 yX2_init RX10 ∈ NW := NW_in (tin_2 (k := 140) (by decide +kernel)) rfl
theorem gk_1_229 : Cond.methodLink RX4 5 Lib.objectInit ∈ GW := GW_in (tin_1 (k := 229) (by decide +kernel)) rfl
theorem gk_1_230 : Cond.classLink RX4 11 RX6 ∈ GW := GW_in (tin_1 (k := 230) (by decide +kernel)) rfl
theorem gk_1_44 : Cond.instantiable RX6 14 ∈ GW := GW_in (tin_1 (k := 44) (by decide +kernel)) rfl
theorem gk_1_47 : Cond.code yX6_init cX6_init 1 (none) ∈ GW := GW_in (tin_1 (k := 47) (by decide +kernel)) rfl
theorem gk_1_46 : Cond.instanceMethod yX6_init ∈ GW := GW_in (tin_1 (k := 46) (by decide +kernel)) rfl
theorem nk_1_231 : Cond.methodLinkNest RX4 13 yX6_init RX10 ∈ NW := NW_in (tin_1 (k := 231) (by decide +kernel)) rfl
theorem gk_2_45 : Cond.arrayClass .byte ∈ GW := GW_in (tin_2 (k := 45) (by decide +kernel)) rfl
theorem gk_1_110 : Cond.methodLink RX5 3 Lib.objectInit ∈ GW := GW_in (tin_1 (k := 110) (by decide +kernel)) rfl
theorem gk_1_111 : Cond.classLink RX5 9 RX2 ∈ GW := GW_in (tin_1 (k := 111) (by decide +kernel)) rfl
theorem nk_1_113 : Cond.methodLinkNest RX5 11 yX2_init RX10 ∈ NW := NW_in (tin_1 (k := 113) (by decide +kernel)) rfl
theorem gk_1_42 : Cond.methodLink RX7 3 Lib.objectInit ∈ GW := GW_in (tin_1 (k := 42) (by decide +kernel)) rfl
theorem gk_1_43 : Cond.classLink RX7 9 RX6 ∈ GW := GW_in (tin_1 (k := 43) (by decide +kernel)) rfl
theorem nk_1_45 : Cond.methodLinkNest RX7 11 yX6_init RX10 ∈ NW := NW_in (tin_1 (k := 45) (by decide +kernel)) rfl
theorem gk_1_104 : Cond.classLink RX7 18 RX5 ∈ GW := GW_in (tin_1 (k := 104) (by decide +kernel)) rfl
theorem gk_1_106 : Cond.instantiable RX5 10 ∈ GW := GW_in (tin_1 (k := 106) (by decide +kernel)) rfl
theorem gk_1_109 : Cond.code yX5_init cX5_init 1 (none) ∈ GW := GW_in (tin_1 (k := 109) (by decide +kernel)) rfl
theorem gk_1_108 : Cond.instanceMethod yX5_init ∈ GW := GW_in (tin_1 (k := 108) (by decide +kernel)) rfl
theorem nk_1_107 : Cond.methodLinkNest RX7 24 yX5_init RX10 ∈ NW := NW_in (tin_1 (k := 107) (by decide +kernel)) rfl
set_option maxRecDepth 100000 in
set_option maxHeartbeats 4000000 in
theorem ktX2_init (l : Launch) (D : va_G) (cy : Nat → ClassId) (sa sv : Nat → Nat) (hst : l.stackTraces = false) : KM l D cy sa sv 0 1 4 yX2_init cX2_init 1 2 [.null] [2, 25] := by
  refine km_of (by decide) hst (by decide) rfl ?_
  intro b p e s m args below meth c C hr hnm hsz
  refine k_aload_n C 0 0 dX2_init_0 rfl rfl ?_
  refine k_objInit C gk_1_116 gk_1_35 gk_1_36 (Nat.le_of_ble_eq_true rfl) (Nat.le_of_ble_eq_true rfl) (Nat.le_of_ble_eq_true rfl) dX2_init_1 ?_
  refine k_aload_n C 0 0 dX2_init_4 rfl rfl ?_
  refine k_iconst (v := 4) C dX2_init_5 rfl ?_
  refine k_newa (N' := 4) (o := 1) (el := 3) (a0 := (4, .inr (.inl (fun _ => 0)))) (atype := .long) C gk_1_121 rfl (fun _ => rfl) (by decide) (by decide) (Nat.le_of_ble_eq_true rfl) (ce_of hsz (n9 := 1) rfl rfl) (Or.inl (by simp)) rfl (Nat.le_of_ble_eq_true rfl) (Nat.le_of_ble_eq_true rfl) dX2_init_6 ?_
  refine k_es (es1 := (([.inr (2, [.null])] : List va_E) ++ (blk cy b 1 [25]))) rfl ?_
  refine k_putF (i := 0) (k := 0) (v := .ref (b + 1)) (es1 := (([.inr (2, [.ref (b + 1)])] : List va_E) ++ (blk cy b 1 [25]))) C cl2 rfl (by decide) gw_1_117 rfl rfl hnm rfl rfl rfl (Nat.le_of_ble_eq_true rfl) rfl dX2_init_8 ?_
  exact k_ret (mc := 1) (ms := 4) C hr rfl dX2_init_11

set_option maxRecDepth 100000 in
set_option maxHeartbeats 4000000 in
theorem ktX6_init (l : Launch) (D : va_G) (cy : Nat → ClassId) (sa sv : Nat → Nat) (hst : l.stackTraces = false) : KM l D cy sa sv 0 6 2420 yX6_init cX6_init 1 6 [.int 0, .int 0, .int 0, .int 0, .int 0, .int 0, .int 0, .int 0, .null, .null, .null, .null, .null, .null] [6, 20, 21, 21, 22, 23, 24] := by
  refine km_of (by decide) hst (by decide) rfl ?_
  intro b p e s m args below meth c C hr hnm hsz
  refine k_aload_n C 0 0 dX6_init_0 rfl rfl ?_
  refine k_objInit C gk_1_48 gk_1_35 gk_1_36 (Nat.le_of_ble_eq_true rfl) (Nat.le_of_ble_eq_true rfl) (Nat.le_of_ble_eq_true rfl) dX6_init_1 ?_
  refine k_aload_n C 0 0 dX6_init_4 rfl rfl ?_
  refine k_sipush (v := 600) C dX6_init_5 rfl ?_
  refine k_newa (N' := 600) (o := 1) (el := 0) (a0 := (600, .inl (fun _ => 0))) (atype := .int) C gk_1_103 rfl (fun _ => rfl) (by decide) (by decide) (Nat.le_of_ble_eq_true rfl) (ce_of hsz (n9 := 1) rfl rfl) (Or.inl (by simp)) rfl (Nat.le_of_ble_eq_true rfl) (Nat.le_of_ble_eq_true rfl) dX6_init_8 ?_
  refine k_es (es1 := (([.inr (6, [.int 0, .int 0, .int 0, .int 0, .int 0, .int 0, .int 0, .int 0, .null, .null, .null, .null, .null, .null])] : List va_E) ++ (blk cy b 1 [20]))) rfl ?_
  refine k_putF (i := 0) (k := 8) (v := .ref (b + 1)) (es1 := (([.inr (6, [.int 0, .int 0, .int 0, .int 0, .int 0, .int 0, .int 0, .int 0, .ref (b + 1), .null, .null, .null, .null, .null])] : List va_E) ++ (blk cy b 1 [20]))) C cl6 rfl (by decide) gw_1_68 rfl rfl hnm rfl rfl rfl (Nat.le_of_ble_eq_true rfl) rfl dX6_init_10 ?_
  refine k_aload_n C 0 0 dX6_init_13 rfl rfl ?_
  refine k_bipush (v := 6) C dX6_init_14 rfl ?_
  refine k_newa (N' := 6) (o := 2) (el := 0) (a0 := (6, .inl (fun _ => 0))) (atype := .int) C gk_1_103 rfl (fun _ => rfl) (by decide) (by decide) (Nat.le_of_ble_eq_true rfl) (ce_of hsz (n9 := 2) rfl rfl) (Or.inl (by simp)) rfl (Nat.le_of_ble_eq_true rfl) (Nat.le_of_ble_eq_true rfl) dX6_init_16 ?_
  refine k_es (es1 := (([.inr (6, [.int 0, .int 0, .int 0, .int 0, .int 0, .int 0, .int 0, .int 0, .ref (b + 1), .null, .null, .null, .null, .null])] : List va_E) ++ (blk cy b 1 [20, 21]))) rfl ?_
  refine k_putF (i := 0) (k := 9) (v := .ref (b + 2)) (es1 := (([.inr (6, [.int 0, .int 0, .int 0, .int 0, .int 0, .int 0, .int 0, .int 0, .ref (b + 1), .ref (b + 2), .null, .null, .null, .null])] : List va_E) ++ (blk cy b 1 [20, 21]))) C cl6 rfl (by decide) gw_1_69 rfl rfl hnm rfl rfl rfl (Nat.le_of_ble_eq_true rfl) rfl dX6_init_18 ?_
  refine k_aload_n C 0 0 dX6_init_21 rfl rfl ?_
  refine k_bipush (v := 6) C dX6_init_22 rfl ?_
  refine k_newa (N' := 6) (o := 3) (el := 0) (a0 := (6, .inl (fun _ => 0))) (atype := .int) C gk_1_103 rfl (fun _ => rfl) (by decide) (by decide) (Nat.le_of_ble_eq_true rfl) (ce_of hsz (n9 := 3) rfl rfl) (Or.inl (by simp)) rfl (Nat.le_of_ble_eq_true rfl) (Nat.le_of_ble_eq_true rfl) dX6_init_24 ?_
  refine k_es (es1 := (([.inr (6, [.int 0, .int 0, .int 0, .int 0, .int 0, .int 0, .int 0, .int 0, .ref (b + 1), .ref (b + 2), .null, .null, .null, .null])] : List va_E) ++ (blk cy b 1 [20, 21, 21]))) rfl ?_
  refine k_putF (i := 0) (k := 10) (v := .ref (b + 3)) (es1 := (([.inr (6, [.int 0, .int 0, .int 0, .int 0, .int 0, .int 0, .int 0, .int 0, .ref (b + 1), .ref (b + 2), .ref (b + 3), .null, .null, .null])] : List va_E) ++ (blk cy b 1 [20, 21, 21]))) C cl6 rfl (by decide) gw_1_70 rfl rfl hnm rfl rfl rfl (Nat.le_of_ble_eq_true rfl) rfl dX6_init_26 ?_
  refine k_aload_n C 0 0 dX6_init_29 rfl rfl ?_
  refine k_sipush (v := 256) C dX6_init_30 rfl ?_
  refine k_newa (N' := 256) (o := 4) (el := 0) (a0 := (256, .inl (fun _ => 0))) (atype := .int) C gk_1_103 rfl (fun _ => rfl) (by decide) (by decide) (Nat.le_of_ble_eq_true rfl) (ce_of hsz (n9 := 4) rfl rfl) (Or.inl (by simp)) rfl (Nat.le_of_ble_eq_true rfl) (Nat.le_of_ble_eq_true rfl) dX6_init_33 ?_
  refine k_es (es1 := (([.inr (6, [.int 0, .int 0, .int 0, .int 0, .int 0, .int 0, .int 0, .int 0, .ref (b + 1), .ref (b + 2), .ref (b + 3), .null, .null, .null])] : List va_E) ++ (blk cy b 1 [20, 21, 21, 22]))) rfl ?_
  refine k_putF (i := 0) (k := 11) (v := .ref (b + 4)) (es1 := (([.inr (6, [.int 0, .int 0, .int 0, .int 0, .int 0, .int 0, .int 0, .int 0, .ref (b + 1), .ref (b + 2), .ref (b + 3), .ref (b + 4), .null, .null])] : List va_E) ++ (blk cy b 1 [20, 21, 21, 22]))) C cl6 rfl (by decide) gw_1_71 rfl rfl hnm rfl rfl rfl (Nat.le_of_ble_eq_true rfl) rfl dX6_init_35 ?_
  refine k_aload_n C 0 0 dX6_init_38 rfl rfl ?_
  refine k_sipush (v := 1536) C dX6_init_39 rfl ?_
  refine k_newa (N' := 1536) (o := 5) (el := 0) (a0 := (1536, .inl (fun _ => 0))) (atype := .int) C gk_1_103 rfl (fun _ => rfl) (by decide) (by decide) (Nat.le_of_ble_eq_true rfl) (ce_of hsz (n9 := 5) rfl rfl) (Or.inl (by simp)) rfl (Nat.le_of_ble_eq_true rfl) (Nat.le_of_ble_eq_true rfl) dX6_init_42 ?_
  refine k_es (es1 := (([.inr (6, [.int 0, .int 0, .int 0, .int 0, .int 0, .int 0, .int 0, .int 0, .ref (b + 1), .ref (b + 2), .ref (b + 3), .ref (b + 4), .null, .null])] : List va_E) ++ (blk cy b 1 [20, 21, 21, 22, 23]))) rfl ?_
  refine k_putF (i := 0) (k := 12) (v := .ref (b + 5)) (es1 := (([.inr (6, [.int 0, .int 0, .int 0, .int 0, .int 0, .int 0, .int 0, .int 0, .ref (b + 1), .ref (b + 2), .ref (b + 3), .ref (b + 4), .ref (b + 5), .null])] : List va_E) ++ (blk cy b 1 [20, 21, 21, 22, 23]))) C cl6 rfl (by decide) gw_1_72 rfl rfl hnm rfl rfl rfl (Nat.le_of_ble_eq_true rfl) rfl dX6_init_44 ?_
  refine k_aload_n C 0 0 dX6_init_47 rfl rfl ?_
  refine k_bipush (v := 16) C dX6_init_48 rfl ?_
  refine k_newa (N' := 16) (o := 6) (el := 0) (a0 := (16, .inl (fun _ => 0))) (atype := .int) C gk_1_103 rfl (fun _ => rfl) (by decide) (by decide) (Nat.le_of_ble_eq_true rfl) (ce_of hsz (n9 := 6) rfl rfl) (Or.inl (by simp)) rfl (Nat.le_of_ble_eq_true rfl) (Nat.le_of_ble_eq_true rfl) dX6_init_50 ?_
  refine k_es (es1 := (([.inr (6, [.int 0, .int 0, .int 0, .int 0, .int 0, .int 0, .int 0, .int 0, .ref (b + 1), .ref (b + 2), .ref (b + 3), .ref (b + 4), .ref (b + 5), .null])] : List va_E) ++ (blk cy b 1 [20, 21, 21, 22, 23, 24]))) rfl ?_
  refine k_putF (i := 0) (k := 13) (v := .ref (b + 6)) (es1 := (([.inr (6, [.int 0, .int 0, .int 0, .int 0, .int 0, .int 0, .int 0, .int 0, .ref (b + 1), .ref (b + 2), .ref (b + 3), .ref (b + 4), .ref (b + 5), .ref (b + 6)])] : List va_E) ++ (blk cy b 1 [20, 21, 21, 22, 23, 24]))) C cl6 rfl (by decide) gw_1_73 rfl rfl hnm rfl rfl rfl (Nat.le_of_ble_eq_true rfl) rfl dX6_init_52 ?_
  exact k_ret (mc := 6) (ms := 2420) C hr rfl dX6_init_55

set_option maxRecDepth 100000 in
set_option maxHeartbeats 4000000 in
theorem ktX3_init (l : Launch) (D : va_G) (cy : Nat → ClassId) (sa sv : Nat → Nat) (hst : l.stackTraces = false) : KM l D cy sa sv 0 4 112 yX3_init cX3_init 1 3 [.null, .null, .null, .null, .int 0, .int 0] [3, 24, 24, 24, 33] := by
  refine km_of (by decide) hst (by decide) rfl ?_
  intro b p e s m args below meth c C hr hnm hsz
  refine k_aload_n C 0 0 dX3_init_0 rfl rfl ?_
  refine k_objInit C gk_2_51 gk_1_35 gk_1_36 (Nat.le_of_ble_eq_true rfl) (Nat.le_of_ble_eq_true rfl) (Nat.le_of_ble_eq_true rfl) dX3_init_1 ?_
  refine k_aload_n C 0 0 dX3_init_4 rfl rfl ?_
  refine k_bipush (v := 16) C dX3_init_5 rfl ?_
  refine k_newa (N' := 16) (o := 1) (el := 0) (a0 := (16, .inl (fun _ => 0))) (atype := .int) C gk_1_103 rfl (fun _ => rfl) (by decide) (by decide) (Nat.le_of_ble_eq_true rfl) (ce_of hsz (n9 := 1) rfl rfl) (Or.inl (by simp)) rfl (Nat.le_of_ble_eq_true rfl) (Nat.le_of_ble_eq_true rfl) dX3_init_7 ?_
  refine k_es (es1 := (([.inr (3, [.null, .null, .null, .null, .int 0, .int 0])] : List va_E) ++ (blk cy b 1 [24]))) rfl ?_
  refine k_putF (i := 0) (k := 0) (v := .ref (b + 1)) (es1 := (([.inr (3, [.ref (b + 1), .null, .null, .null, .int 0, .int 0])] : List va_E) ++ (blk cy b 1 [24]))) C cl3 rfl (by decide) gw_2_52 rfl rfl hnm rfl rfl rfl (Nat.le_of_ble_eq_true rfl) rfl dX3_init_9 ?_
  refine k_aload_n C 0 0 dX3_init_12 rfl rfl ?_
  refine k_bipush (v := 16) C dX3_init_13 rfl ?_
  refine k_newa (N' := 16) (o := 2) (el := 0) (a0 := (16, .inl (fun _ => 0))) (atype := .int) C gk_1_103 rfl (fun _ => rfl) (by decide) (by decide) (Nat.le_of_ble_eq_true rfl) (ce_of hsz (n9 := 2) rfl rfl) (Or.inl (by simp)) rfl (Nat.le_of_ble_eq_true rfl) (Nat.le_of_ble_eq_true rfl) dX3_init_15 ?_
  refine k_es (es1 := (([.inr (3, [.ref (b + 1), .null, .null, .null, .int 0, .int 0])] : List va_E) ++ (blk cy b 1 [24, 24]))) rfl ?_
  refine k_putF (i := 0) (k := 1) (v := .ref (b + 2)) (es1 := (([.inr (3, [.ref (b + 1), .ref (b + 2), .null, .null, .int 0, .int 0])] : List va_E) ++ (blk cy b 1 [24, 24]))) C cl3 rfl (by decide) gw_2_53 rfl rfl hnm rfl rfl rfl (Nat.le_of_ble_eq_true rfl) rfl dX3_init_17 ?_
  refine k_aload_n C 0 0 dX3_init_20 rfl rfl ?_
  refine k_bipush (v := 16) C dX3_init_21 rfl ?_
  refine k_newa (N' := 16) (o := 3) (el := 0) (a0 := (16, .inl (fun _ => 0))) (atype := .int) C gk_1_103 rfl (fun _ => rfl) (by decide) (by decide) (Nat.le_of_ble_eq_true rfl) (ce_of hsz (n9 := 3) rfl rfl) (Or.inl (by simp)) rfl (Nat.le_of_ble_eq_true rfl) (Nat.le_of_ble_eq_true rfl) dX3_init_23 ?_
  refine k_es (es1 := (([.inr (3, [.ref (b + 1), .ref (b + 2), .null, .null, .int 0, .int 0])] : List va_E) ++ (blk cy b 1 [24, 24, 24]))) rfl ?_
  refine k_putF (i := 0) (k := 2) (v := .ref (b + 3)) (es1 := (([.inr (3, [.ref (b + 1), .ref (b + 2), .ref (b + 3), .null, .int 0, .int 0])] : List va_E) ++ (blk cy b 1 [24, 24, 24]))) C cl3 rfl (by decide) gw_2_54 rfl rfl hnm rfl rfl rfl (Nat.le_of_ble_eq_true rfl) rfl dX3_init_25 ?_
  refine k_aload_n C 0 0 dX3_init_28 rfl rfl ?_
  refine k_bipush (v := 64) C dX3_init_29 rfl ?_
  refine k_newa (N' := 64) (o := 4) (el := 0) (a0 := (64, .inl (fun _ => 0))) (atype := .int) C gk_1_103 rfl (fun _ => rfl) (by decide) (by decide) (Nat.le_of_ble_eq_true rfl) (ce_of hsz (n9 := 4) rfl rfl) (Or.inl (by simp)) rfl (Nat.le_of_ble_eq_true rfl) (Nat.le_of_ble_eq_true rfl) dX3_init_31 ?_
  refine k_es (es1 := (([.inr (3, [.ref (b + 1), .ref (b + 2), .ref (b + 3), .null, .int 0, .int 0])] : List va_E) ++ (blk cy b 1 [24, 24, 24, 33]))) rfl ?_
  refine k_putF (i := 0) (k := 3) (v := .ref (b + 4)) (es1 := (([.inr (3, [.ref (b + 1), .ref (b + 2), .ref (b + 3), .ref (b + 4), .int 0, .int 0])] : List va_E) ++ (blk cy b 1 [24, 24, 24, 33]))) C cl3 rfl (by decide) gw_2_55 rfl rfl hnm rfl rfl rfl (Nat.le_of_ble_eq_true rfl) rfl dX3_init_33 ?_
  exact k_ret (mc := 4) (ms := 112) C hr rfl dX3_init_36

set_option maxRecDepth 100000 in
set_option maxHeartbeats 4000000 in
theorem ktX8_init (l : Launch) (D : va_G) (cy : Nat → ClassId) (sa sv : Nat → Nat) (hst : l.stackTraces = false) : KM l D cy sa sv 0 3 144 yX8_init cX8_init 1 8 [.null, .null, .null, .long 0] [8, 30, 34, 33] := by
  refine km_of (by decide) hst (by decide) rfl ?_
  intro b p e s m args below meth c C hr hnm hsz
  refine k_aload_n C 0 0 dX8_init_0 rfl rfl ?_
  refine k_objInit C gk_2_76 gk_1_35 gk_1_36 (Nat.le_of_ble_eq_true rfl) (Nat.le_of_ble_eq_true rfl) (Nat.le_of_ble_eq_true rfl) dX8_init_1 ?_
  refine k_aload_n C 0 0 dX8_init_4 rfl rfl ?_
  refine k_bipush (v := 40) C dX8_init_5 rfl ?_
  refine k_newa (N' := 40) (o := 1) (el := 3) (a0 := (40, .inr (.inl (fun _ => 0)))) (atype := .long) C gk_1_121 rfl (fun _ => rfl) (by decide) (by decide) (Nat.le_of_ble_eq_true rfl) (ce_of hsz (n9 := 1) rfl rfl) (Or.inl (by simp)) rfl (Nat.le_of_ble_eq_true rfl) (Nat.le_of_ble_eq_true rfl) dX8_init_7 ?_
  refine k_es (es1 := (([.inr (8, [.null, .null, .null, .long 0])] : List va_E) ++ (blk cy b 1 [30]))) rfl ?_
  refine k_putF (i := 0) (k := 0) (v := .ref (b + 1)) (es1 := (([.inr (8, [.ref (b + 1), .null, .null, .long 0])] : List va_E) ++ (blk cy b 1 [30]))) C cl8 rfl (by decide) gw_2_77 rfl rfl hnm rfl rfl rfl (Nat.le_of_ble_eq_true rfl) rfl dX8_init_9 ?_
  refine k_aload_n C 0 0 dX8_init_12 rfl rfl ?_
  refine k_bipush (v := 40) C dX8_init_13 rfl ?_
  refine k_newa (N' := 40) (o := 2) (el := 0) (a0 := (40, .inl (fun _ => 0))) (atype := .int) C gk_1_103 rfl (fun _ => rfl) (by decide) (by decide) (Nat.le_of_ble_eq_true rfl) (ce_of hsz (n9 := 2) rfl rfl) (Or.inl (by simp)) rfl (Nat.le_of_ble_eq_true rfl) (Nat.le_of_ble_eq_true rfl) dX8_init_15 ?_
  refine k_es (es1 := (([.inr (8, [.ref (b + 1), .null, .null, .long 0])] : List va_E) ++ (blk cy b 1 [30, 34]))) rfl ?_
  refine k_putF (i := 0) (k := 1) (v := .ref (b + 2)) (es1 := (([.inr (8, [.ref (b + 1), .ref (b + 2), .null, .long 0])] : List va_E) ++ (blk cy b 1 [30, 34]))) C cl8 rfl (by decide) gw_2_78 rfl rfl hnm rfl rfl rfl (Nat.le_of_ble_eq_true rfl) rfl dX8_init_17 ?_
  refine k_aload_n C 0 0 dX8_init_20 rfl rfl ?_
  refine k_bipush (v := 64) C dX8_init_21 rfl ?_
  refine k_newa (N' := 64) (o := 3) (el := 0) (a0 := (64, .inl (fun _ => 0))) (atype := .int) C gk_1_103 rfl (fun _ => rfl) (by decide) (by decide) (Nat.le_of_ble_eq_true rfl) (ce_of hsz (n9 := 3) rfl rfl) (Or.inl (by simp)) rfl (Nat.le_of_ble_eq_true rfl) (Nat.le_of_ble_eq_true rfl) dX8_init_23 ?_
  refine k_es (es1 := (([.inr (8, [.ref (b + 1), .ref (b + 2), .null, .long 0])] : List va_E) ++ (blk cy b 1 [30, 34, 33]))) rfl ?_
  refine k_putF (i := 0) (k := 2) (v := .ref (b + 3)) (es1 := (([.inr (8, [.ref (b + 1), .ref (b + 2), .ref (b + 3), .long 0])] : List va_E) ++ (blk cy b 1 [30, 34, 33]))) C cl8 rfl (by decide) gw_2_79 rfl rfl hnm rfl rfl rfl (Nat.le_of_ble_eq_true rfl) rfl dX8_init_25 ?_
  exact k_ret (mc := 3) (ms := 144) C hr rfl dX8_init_28

set_option maxRecDepth 100000 in
set_option maxHeartbeats 4000000 in
theorem ktX9_init (l : Launch) (D : va_G) (cy : Nat → ClassId) (sa sv : Nat → Nat) (hst : l.stackTraces = false) : KM l D cy sa sv 0 1 40 yX9_init cX9_init 1 9 [.int 0, .int 0, .int 0, .null] [9, 30] := by
  refine km_of (by decide) hst (by decide) rfl ?_
  intro b p e s m args below meth c C hr hnm hsz
  refine k_aload_n C 0 0 dX9_init_0 rfl rfl ?_
  refine k_objInit C gk_1_205 gk_1_35 gk_1_36 (Nat.le_of_ble_eq_true rfl) (Nat.le_of_ble_eq_true rfl) (Nat.le_of_ble_eq_true rfl) dX9_init_1 ?_
  refine k_aload_n C 0 0 dX9_init_4 rfl rfl ?_
  refine k_bipush (v := 40) C dX9_init_5 rfl ?_
  refine k_newa (N' := 40) (o := 1) (el := 3) (a0 := (40, .inr (.inl (fun _ => 0)))) (atype := .long) C gk_1_121 rfl (fun _ => rfl) (by decide) (by decide) (Nat.le_of_ble_eq_true rfl) (ce_of hsz (n9 := 1) rfl rfl) (Or.inl (by simp)) rfl (Nat.le_of_ble_eq_true rfl) (Nat.le_of_ble_eq_true rfl) dX9_init_7 ?_
  refine k_es (es1 := (([.inr (9, [.int 0, .int 0, .int 0, .null])] : List va_E) ++ (blk cy b 1 [30]))) rfl ?_
  refine k_putF (i := 0) (k := 3) (v := .ref (b + 1)) (es1 := (([.inr (9, [.int 0, .int 0, .int 0, .ref (b + 1)])] : List va_E) ++ (blk cy b 1 [30]))) C cl9 rfl (by decide) gw_1_214 rfl rfl hnm rfl rfl rfl (Nat.le_of_ble_eq_true rfl) rfl dX9_init_9 ?_
  exact k_ret (mc := 1) (ms := 40) C hr rfl dX9_init_12

set_option maxRecDepth 100000 in
set_option maxHeartbeats 4000000 in
theorem ktX0_init (l : Launch) (D : va_G) (cy : Nat → ClassId) (sa sv : Nat → Nat) (hst : l.stackTraces = false) : KM l D cy sa sv 1 4 325 yX0_init cX0_init 1 0 [.int 0, .int 0, .int 0, .int 0, .int 0, .int 0, .long 0, .null, .null, .null] [0, 2, 25, 35, 33] := by
  refine km_of (by decide) hst (by decide) rfl ?_
  intro b p e s m args below meth c C hr hnm hsz
  refine k_aload_n C 0 0 dX0_init_0 rfl rfl ?_
  refine k_objInit C gk_2_95 gk_1_35 gk_1_36 (Nat.le_of_ble_eq_true rfl) (Nat.le_of_ble_eq_true rfl) (Nat.le_of_ble_eq_true rfl) dX0_init_1 ?_
  refine k_aload_n C 0 0 dX0_init_4 rfl rfl ?_
  refine k_new (fs := [.null]) (o := 1) C cl2 gk_2_96 gk_1_112 gw_1_5 (by decide) (ce_of hsz (n9 := 1) rfl rfl) (Or.inl (by simp)) rfl (Nat.le_of_ble_eq_true rfl) (Nat.le_of_ble_eq_true rfl) dX0_init_5 ?_
  refine k_dup C dX0_init_8 rfl ?_
  refine k_initN C (K9 := 2) (dfl := [.null]) (ce := 1) (sl := 1) (st := [.ref (b + 1), .ref b]) (es := (([.inr (0, [.int 0, .int 0, .int 0, .int 0, .int 0, .int 0, .long 0, .null, .null, .null])] : List va_E))) (o := 1) (ktX2_init l D cy sa sv C.2.2.2.2.2.2.1) nk_2_97 gk_1_115 gw_1_5 gk_1_114 ⟨⟨by decide, by decide, by decide +kernel⟩, rfl⟩ ⟨Nat.le_of_ble_eq_true rfl, Nat.le_of_ble_eq_true rfl⟩ ⟨Nat.le_of_ble_eq_true rfl, Nat.le_of_ble_eq_true rfl⟩ (ce_of hsz (n9 := 2) rfl rfl) rfl (Nat.le_of_ble_eq_true rfl) (Nat.le_of_ble_eq_true rfl) dX0_init_9 ?_
  refine k_es (es1 := (([.inr (0, [.int 0, .int 0, .int 0, .int 0, .int 0, .int 0, .long 0, .null, .null, .null])] : List va_E) ++ (blk cy b 1 [2, 25]))) rfl ?_
  refine k_putF (i := 0) (k := 7) (v := .ref (b + 1)) (es1 := (([.inr (0, [.int 0, .int 0, .int 0, .int 0, .int 0, .int 0, .long 0, .ref (b + 1), .null, .null])] : List va_E) ++ (blk cy b 1 [2, 25]))) C cl0 rfl (by decide) gw_2_109 rfl rfl hnm rfl rfl rfl (Nat.le_of_ble_eq_true rfl) rfl dX0_init_12 ?_
  refine k_aload_n C 0 0 dX0_init_15 rfl rfl ?_
  refine k_sipush (v := 256) C dX0_init_16 rfl ?_
  refine k_newa (N' := 256) (o := 3) (el := 3) (a0 := (256, .inr (.inl (fun _ => 0)))) (atype := .long) C gk_1_121 rfl (fun _ => rfl) (by decide) (by decide) (Nat.le_of_ble_eq_true rfl) (ce_of hsz (n9 := 3) rfl rfl) (Or.inl (by simp)) rfl (Nat.le_of_ble_eq_true rfl) (Nat.le_of_ble_eq_true rfl) dX0_init_19 ?_
  refine k_es (es1 := (([.inr (0, [.int 0, .int 0, .int 0, .int 0, .int 0, .int 0, .long 0, .ref (b + 1), .null, .null])] : List va_E) ++ (blk cy b 1 [2, 25, 35]))) rfl ?_
  refine k_putF (i := 0) (k := 8) (v := .ref (b + 3)) (es1 := (([.inr (0, [.int 0, .int 0, .int 0, .int 0, .int 0, .int 0, .long 0, .ref (b + 1), .ref (b + 3), .null])] : List va_E) ++ (blk cy b 1 [2, 25, 35]))) C cl0 rfl (by decide) gw_2_110 rfl rfl hnm rfl rfl rfl (Nat.le_of_ble_eq_true rfl) rfl dX0_init_21 ?_
  refine k_aload_n C 0 0 dX0_init_24 rfl rfl ?_
  refine k_bipush (v := 64) C dX0_init_25 rfl ?_
  refine k_newa (N' := 64) (o := 4) (el := 0) (a0 := (64, .inl (fun _ => 0))) (atype := .int) C gk_1_103 rfl (fun _ => rfl) (by decide) (by decide) (Nat.le_of_ble_eq_true rfl) (ce_of hsz (n9 := 4) rfl rfl) (Or.inl (by simp)) rfl (Nat.le_of_ble_eq_true rfl) (Nat.le_of_ble_eq_true rfl) dX0_init_27 ?_
  refine k_es (es1 := (([.inr (0, [.int 0, .int 0, .int 0, .int 0, .int 0, .int 0, .long 0, .ref (b + 1), .ref (b + 3), .null])] : List va_E) ++ (blk cy b 1 [2, 25, 35, 33]))) rfl ?_
  refine k_putF (i := 0) (k := 9) (v := .ref (b + 4)) (es1 := (([.inr (0, [.int 0, .int 0, .int 0, .int 0, .int 0, .int 0, .long 0, .ref (b + 1), .ref (b + 3), .ref (b + 4)])] : List va_E) ++ (blk cy b 1 [2, 25, 35, 33]))) C cl0 rfl (by decide) gw_2_111 rfl rfl hnm rfl rfl rfl (Nat.le_of_ble_eq_true rfl) rfl dX0_init_29 ?_
  exact k_ret (mc := 4) (ms := 325) C hr rfl dX0_init_32

set_option maxRecDepth 100000 in
set_option maxHeartbeats 4000000 in
theorem ktX1_init (l : Launch) (D : va_G) (cy : Nat → ClassId) (sa sv : Nat → Nat) (hst : l.stackTraces = false) : KM l D cy sa sv 1 4 10 yX1_init cX1_init 1 1 [.int 0, .int 0, .int 0, .null, .null] [1, 2, 25, 2, 25] := by
  refine km_of (by decide) hst (by decide) rfl ?_
  intro b p e s m args below meth c C hr hnm hsz
  refine k_aload_n C 0 0 dX1_init_0 rfl rfl ?_
  refine k_objInit C gk_2_138 gk_1_35 gk_1_36 (Nat.le_of_ble_eq_true rfl) (Nat.le_of_ble_eq_true rfl) (Nat.le_of_ble_eq_true rfl) dX1_init_1 ?_
  refine k_aload_n C 0 0 dX1_init_4 rfl rfl ?_
  refine k_new (fs := [.null]) (o := 1) C cl2 gk_2_139 gk_1_112 gw_1_5 (by decide) (ce_of hsz (n9 := 1) rfl rfl) (Or.inl (by simp)) rfl (Nat.le_of_ble_eq_true rfl) (Nat.le_of_ble_eq_true rfl) dX1_init_5 ?_
  refine k_dup C dX1_init_8 rfl ?_
  refine k_initN C (K9 := 2) (dfl := [.null]) (ce := 1) (sl := 1) (st := [.ref (b + 1), .ref b]) (es := (([.inr (1, [.int 0, .int 0, .int 0, .null, .null])] : List va_E))) (o := 1) (ktX2_init l D cy sa sv C.2.2.2.2.2.2.1) nk_2_140 gk_1_115 gw_1_5 gk_1_114 ⟨⟨by decide, by decide, by decide +kernel⟩, rfl⟩ ⟨Nat.le_of_ble_eq_true rfl, Nat.le_of_ble_eq_true rfl⟩ ⟨Nat.le_of_ble_eq_true rfl, Nat.le_of_ble_eq_true rfl⟩ (ce_of hsz (n9 := 2) rfl rfl) rfl (Nat.le_of_ble_eq_true rfl) (Nat.le_of_ble_eq_true rfl) dX1_init_9 ?_
  refine k_es (es1 := (([.inr (1, [.int 0, .int 0, .int 0, .null, .null])] : List va_E) ++ (blk cy b 1 [2, 25]))) rfl ?_
  refine k_putF (i := 0) (k := 3) (v := .ref (b + 1)) (es1 := (([.inr (1, [.int 0, .int 0, .int 0, .ref (b + 1), .null])] : List va_E) ++ (blk cy b 1 [2, 25]))) C cl1 rfl (by decide) gw_2_147 rfl rfl hnm rfl rfl rfl (Nat.le_of_ble_eq_true rfl) rfl dX1_init_12 ?_
  refine k_aload_n C 0 0 dX1_init_15 rfl rfl ?_
  refine k_new (fs := [.null]) (o := 3) C cl2 gk_2_139 gk_1_112 gw_1_5 (by decide) (ce_of hsz (n9 := 3) rfl rfl) (Or.inl (by simp)) rfl (Nat.le_of_ble_eq_true rfl) (Nat.le_of_ble_eq_true rfl) dX1_init_16 ?_
  refine k_dup C dX1_init_19 rfl ?_
  refine k_initN C (K9 := 2) (dfl := [.null]) (ce := 3) (sl := 6) (st := [.ref (b + 3), .ref b]) (es := (([.inr (1, [.int 0, .int 0, .int 0, .ref (b + 1), .null])] : List va_E) ++ (blk cy b 1 [2, 25]))) (o := 3) (ktX2_init l D cy sa sv C.2.2.2.2.2.2.1) nk_2_140 gk_1_115 gw_1_5 gk_1_114 ⟨⟨by decide, by decide, by decide +kernel⟩, rfl⟩ ⟨Nat.le_of_ble_eq_true rfl, Nat.le_of_ble_eq_true rfl⟩ ⟨Nat.le_of_ble_eq_true rfl, Nat.le_of_ble_eq_true rfl⟩ (ce_of hsz (n9 := 4) rfl rfl) rfl (Nat.le_of_ble_eq_true rfl) (Nat.le_of_ble_eq_true rfl) dX1_init_20 ?_
  refine k_es (es1 := (([.inr (1, [.int 0, .int 0, .int 0, .ref (b + 1), .null])] : List va_E) ++ (blk cy b 1 [2, 25, 2, 25]))) rfl ?_
  refine k_putF (i := 0) (k := 4) (v := .ref (b + 3)) (es1 := (([.inr (1, [.int 0, .int 0, .int 0, .ref (b + 1), .ref (b + 3)])] : List va_E) ++ (blk cy b 1 [2, 25, 2, 25]))) C cl1 rfl (by decide) gw_2_148 rfl rfl hnm rfl rfl rfl (Nat.le_of_ble_eq_true rfl) rfl dX1_init_23 ?_
  exact k_ret (mc := 4) (ms := 10) C hr rfl dX1_init_26

set_option maxRecDepth 100000 in
set_option maxHeartbeats 4000000 in
theorem ktX4_init (l : Launch) (D : va_G) (cy : Nat → ClassId) (sa sv : Nat → Nat) (hst : l.stackTraces = false) : KM l D cy sa sv 1 9 3054 yX4_init cX4_init 1 4 [.null, .int 0, .int 0, .int 0, .null, .null, .int 0, .int 0, .int 0, .int 0, .int 0, .int 0, .int 0, .int 0, .int 0, .int 0] [4, 6, 20, 21, 21, 22, 23, 24, 31, 32] := by
  refine km_of (by decide) hst (by decide) rfl ?_
  intro b p e s m args below meth c C hr hnm hsz
  refine k_aload_n C 0 0 dX4_init_0 rfl rfl ?_
  refine k_objInit C gk_1_229 gk_1_35 gk_1_36 (Nat.le_of_ble_eq_true rfl) (Nat.le_of_ble_eq_true rfl) (Nat.le_of_ble_eq_true rfl) dX4_init_1 ?_
  refine k_aload_n C 0 0 dX4_init_4 rfl rfl ?_
  refine k_new (fs := [.int 0, .int 0, .int 0, .int 0, .int 0, .int 0, .int 0, .int 0, .null, .null, .null, .null, .null, .null]) (o := 1) C cl6 gk_1_230 gk_1_44 gw_1_3 (by decide) (ce_of hsz (n9 := 1) rfl rfl) (Or.inl (by simp)) rfl (Nat.le_of_ble_eq_true rfl) (Nat.le_of_ble_eq_true rfl) dX4_init_5 ?_
  refine k_dup C dX4_init_8 rfl ?_
  refine k_initN C (K9 := 6) (dfl := [.int 0, .int 0, .int 0, .int 0, .int 0, .int 0, .int 0, .int 0, .null, .null, .null, .null, .null, .null]) (ce := 1) (sl := 14) (st := [.ref (b + 1), .ref b]) (es := (([.inr (4, [.null, .int 0, .int 0, .int 0, .null, .null, .int 0, .int 0, .int 0, .int 0, .int 0, .int 0, .int 0, .int 0, .int 0, .int 0])] : List va_E))) (o := 1) (ktX6_init l D cy sa sv C.2.2.2.2.2.2.1) nk_1_231 gk_1_47 gw_1_3 gk_1_46 ⟨⟨by decide, by decide, by decide +kernel⟩, rfl⟩ ⟨Nat.le_of_ble_eq_true rfl, Nat.le_of_ble_eq_true rfl⟩ ⟨Nat.le_of_ble_eq_true rfl, Nat.le_of_ble_eq_true rfl⟩ (ce_of hsz (n9 := 2) rfl rfl) rfl (Nat.le_of_ble_eq_true rfl) (Nat.le_of_ble_eq_true rfl) dX4_init_9 ?_
  refine k_es (es1 := (([.inr (4, [.null, .int 0, .int 0, .int 0, .null, .null, .int 0, .int 0, .int 0, .int 0, .int 0, .int 0, .int 0, .int 0, .int 0, .int 0])] : List va_E) ++ (blk cy b 1 [6, 20, 21, 21, 22, 23, 24]))) rfl ?_
  refine k_putF (i := 0) (k := 0) (v := .ref (b + 1)) (es1 := (([.inr (4, [.ref (b + 1), .int 0, .int 0, .int 0, .null, .null, .int 0, .int 0, .int 0, .int 0, .int 0, .int 0, .int 0, .int 0, .int 0, .int 0])] : List va_E) ++ (blk cy b 1 [6, 20, 21, 21, 22, 23, 24]))) C cl4 rfl (by decide) gw_1_232 rfl rfl hnm rfl rfl rfl (Nat.le_of_ble_eq_true rfl) rfl dX4_init_12 ?_
  refine k_aload_n C 0 0 dX4_init_15 rfl rfl ?_
  refine k_sipush (v := 600) C dX4_init_16 rfl ?_
  refine k_newa (N' := 600) (o := 8) (el := 1) (a0 := (600, .inl (fun _ => 0))) (atype := .byte) C gk_2_45 rfl (fun _ => rfl) (by decide) (by decide) (Nat.le_of_ble_eq_true rfl) (ce_of hsz (n9 := 8) rfl rfl) (Or.inl (by simp)) rfl (Nat.le_of_ble_eq_true rfl) (Nat.le_of_ble_eq_true rfl) dX4_init_19 ?_
  refine k_es (es1 := (([.inr (4, [.ref (b + 1), .int 0, .int 0, .int 0, .null, .null, .int 0, .int 0, .int 0, .int 0, .int 0, .int 0, .int 0, .int 0, .int 0, .int 0])] : List va_E) ++ (blk cy b 1 [6, 20, 21, 21, 22, 23, 24, 31]))) rfl ?_
  refine k_putF (i := 0) (k := 4) (v := .ref (b + 8)) (es1 := (([.inr (4, [.ref (b + 1), .int 0, .int 0, .int 0, .ref (b + 8), .null, .int 0, .int 0, .int 0, .int 0, .int 0, .int 0, .int 0, .int 0, .int 0, .int 0])] : List va_E) ++ (blk cy b 1 [6, 20, 21, 21, 22, 23, 24, 31]))) C cl4 rfl (by decide) gw_2_0 rfl rfl hnm rfl rfl rfl (Nat.le_of_ble_eq_true rfl) rfl dX4_init_21 ?_
  refine k_aload_n C 0 0 dX4_init_24 rfl rfl ?_
  refine k_bipush (v := 20) C dX4_init_25 rfl ?_
  refine k_newa (N' := 20) (o := 9) (el := 0) (a0 := (20, .inl (fun _ => 0))) (atype := .int) C gk_1_103 rfl (fun _ => rfl) (by decide) (by decide) (Nat.le_of_ble_eq_true rfl) (ce_of hsz (n9 := 9) rfl rfl) (Or.inl (by simp)) rfl (Nat.le_of_ble_eq_true rfl) (Nat.le_of_ble_eq_true rfl) dX4_init_27 ?_
  refine k_es (es1 := (([.inr (4, [.ref (b + 1), .int 0, .int 0, .int 0, .ref (b + 8), .null, .int 0, .int 0, .int 0, .int 0, .int 0, .int 0, .int 0, .int 0, .int 0, .int 0])] : List va_E) ++ (blk cy b 1 [6, 20, 21, 21, 22, 23, 24, 31, 32]))) rfl ?_
  refine k_putF (i := 0) (k := 5) (v := .ref (b + 9)) (es1 := (([.inr (4, [.ref (b + 1), .int 0, .int 0, .int 0, .ref (b + 8), .ref (b + 9), .int 0, .int 0, .int 0, .int 0, .int 0, .int 0, .int 0, .int 0, .int 0, .int 0])] : List va_E) ++ (blk cy b 1 [6, 20, 21, 21, 22, 23, 24, 31, 32]))) C cl4 rfl (by decide) gw_2_1 rfl rfl hnm rfl rfl rfl (Nat.le_of_ble_eq_true rfl) rfl dX4_init_29 ?_
  exact k_ret (mc := 9) (ms := 3054) C hr rfl dX4_init_32

set_option maxRecDepth 100000 in
set_option maxHeartbeats 4000000 in
theorem ktX5_init (l : Launch) (D : va_G) (cy : Nat → ClassId) (sa sv : Nat → Nat) (hst : l.stackTraces = false) : KM l D cy sa sv 1 3 245 yX5_init cX5_init 1 5 [.int 0, .int 0, .int 0, .int 0, .int 0, .int 0, .int 0, .int 0, .null, .null] [5, 2, 25, 26] := by
  refine km_of (by decide) hst (by decide) rfl ?_
  intro b p e s m args below meth c C hr hnm hsz
  refine k_aload_n C 0 0 dX5_init_0 rfl rfl ?_
  refine k_objInit C gk_1_110 gk_1_35 gk_1_36 (Nat.le_of_ble_eq_true rfl) (Nat.le_of_ble_eq_true rfl) (Nat.le_of_ble_eq_true rfl) dX5_init_1 ?_
  refine k_aload_n C 0 0 dX5_init_4 rfl rfl ?_
  refine k_new (fs := [.null]) (o := 1) C cl2 gk_1_111 gk_1_112 gw_1_5 (by decide) (ce_of hsz (n9 := 1) rfl rfl) (Or.inl (by simp)) rfl (Nat.le_of_ble_eq_true rfl) (Nat.le_of_ble_eq_true rfl) dX5_init_5 ?_
  refine k_dup C dX5_init_8 rfl ?_
  refine k_initN C (K9 := 2) (dfl := [.null]) (ce := 1) (sl := 1) (st := [.ref (b + 1), .ref b]) (es := (([.inr (5, [.int 0, .int 0, .int 0, .int 0, .int 0, .int 0, .int 0, .int 0, .null, .null])] : List va_E))) (o := 1) (ktX2_init l D cy sa sv C.2.2.2.2.2.2.1) nk_1_113 gk_1_115 gw_1_5 gk_1_114 ⟨⟨by decide, by decide, by decide +kernel⟩, rfl⟩ ⟨Nat.le_of_ble_eq_true rfl, Nat.le_of_ble_eq_true rfl⟩ ⟨Nat.le_of_ble_eq_true rfl, Nat.le_of_ble_eq_true rfl⟩ (ce_of hsz (n9 := 2) rfl rfl) rfl (Nat.le_of_ble_eq_true rfl) (Nat.le_of_ble_eq_true rfl) dX5_init_9 ?_
  refine k_es (es1 := (([.inr (5, [.int 0, .int 0, .int 0, .int 0, .int 0, .int 0, .int 0, .int 0, .null, .null])] : List va_E) ++ (blk cy b 1 [2, 25]))) rfl ?_
  refine k_putF (i := 0) (k := 8) (v := .ref (b + 1)) (es1 := (([.inr (5, [.int 0, .int 0, .int 0, .int 0, .int 0, .int 0, .int 0, .int 0, .ref (b + 1), .null])] : List va_E) ++ (blk cy b 1 [2, 25]))) C cl5 rfl (by decide) gw_1_146 rfl rfl hnm rfl rfl rfl (Nat.le_of_ble_eq_true rfl) rfl dX5_init_12 ?_
  refine k_aload_n C 0 0 dX5_init_15 rfl rfl ?_
  refine k_sipush (v := 240) C dX5_init_16 rfl ?_
  refine k_newa (N' := 240) (o := 3) (el := 0) (a0 := (240, .inl (fun _ => 0))) (atype := .int) C gk_1_103 rfl (fun _ => rfl) (by decide) (by decide) (Nat.le_of_ble_eq_true rfl) (ce_of hsz (n9 := 3) rfl rfl) (Or.inl (by simp)) rfl (Nat.le_of_ble_eq_true rfl) (Nat.le_of_ble_eq_true rfl) dX5_init_19 ?_
  refine k_es (es1 := (([.inr (5, [.int 0, .int 0, .int 0, .int 0, .int 0, .int 0, .int 0, .int 0, .ref (b + 1), .null])] : List va_E) ++ (blk cy b 1 [2, 25, 26]))) rfl ?_
  refine k_putF (i := 0) (k := 9) (v := .ref (b + 3)) (es1 := (([.inr (5, [.int 0, .int 0, .int 0, .int 0, .int 0, .int 0, .int 0, .int 0, .ref (b + 1), .ref (b + 3)])] : List va_E) ++ (blk cy b 1 [2, 25, 26]))) C cl5 rfl (by decide) gw_1_152 rfl rfl hnm rfl rfl rfl (Nat.le_of_ble_eq_true rfl) rfl dX5_init_21 ?_
  exact k_ret (mc := 3) (ms := 245) C hr rfl dX5_init_24

set_option maxRecDepth 100000 in
set_option maxHeartbeats 4000000 in
theorem ktX7_init (l : Launch) (D : va_G) (cy : Nat → ClassId) (sa sv : Nat → Nat) (hst : l.stackTraces = false) : KM l D cy sa sv 2 24 3458 yX7_init cX7_init 2 7 [.null, .null] [7, 6, 20, 21, 21, 22, 23, 24, 27, 5, 2, 25, 26, 5, 2, 25, 26, 5, 2, 25, 26, 5, 2, 25, 26] := by
  refine km_of (by decide) hst (by decide) rfl ?_
  intro b p e s m args below meth c C hr hnm hsz
  refine k_aload_n C 0 0 dX7_init_0 rfl rfl ?_
  refine k_objInit C gk_1_42 gk_1_35 gk_1_36 (Nat.le_of_ble_eq_true rfl) (Nat.le_of_ble_eq_true rfl) (Nat.le_of_ble_eq_true rfl) dX7_init_1 ?_
  refine k_aload_n C 0 0 dX7_init_4 rfl rfl ?_
  refine k_new (fs := [.int 0, .int 0, .int 0, .int 0, .int 0, .int 0, .int 0, .int 0, .null, .null, .null, .null, .null, .null]) (o := 1) C cl6 gk_1_43 gk_1_44 gw_1_3 (by decide) (ce_of hsz (n9 := 1) rfl rfl) (Or.inl (by simp)) rfl (Nat.le_of_ble_eq_true rfl) (Nat.le_of_ble_eq_true rfl) dX7_init_5 ?_
  refine k_dup C dX7_init_8 rfl ?_
  refine k_initN C (K9 := 6) (dfl := [.int 0, .int 0, .int 0, .int 0, .int 0, .int 0, .int 0, .int 0, .null, .null, .null, .null, .null, .null]) (ce := 1) (sl := 14) (st := [.ref (b + 1), .ref b]) (es := (([.inr (7, [.null, .null])] : List va_E))) (o := 1) (ktX6_init l D cy sa sv C.2.2.2.2.2.2.1) nk_1_45 gk_1_47 gw_1_3 gk_1_46 ⟨⟨by decide, by decide, by decide +kernel⟩, rfl⟩ ⟨Nat.le_of_ble_eq_true rfl, Nat.le_of_ble_eq_true rfl⟩ ⟨Nat.le_of_ble_eq_true rfl, Nat.le_of_ble_eq_true rfl⟩ (ce_of hsz (n9 := 2) rfl rfl) rfl (Nat.le_of_ble_eq_true rfl) (Nat.le_of_ble_eq_true rfl) dX7_init_9 ?_
  refine k_es (es1 := (([.inr (7, [.null, .null])] : List va_E) ++ (blk cy b 1 [6, 20, 21, 21, 22, 23, 24]))) rfl ?_
  refine k_putF (i := 0) (k := 0) (v := .ref (b + 1)) (es1 := (([.inr (7, [.ref (b + 1), .null])] : List va_E) ++ (blk cy b 1 [6, 20, 21, 21, 22, 23, 24]))) C cl7 rfl (by decide) gw_1_174 rfl rfl hnm rfl rfl rfl (Nat.le_of_ble_eq_true rfl) rfl dX7_init_12 ?_
  refine k_aload_n C 0 0 dX7_init_15 rfl rfl ?_
  refine k_iconst (v := 4) C dX7_init_16 rfl ?_
  refine k_newq (N' := 4) (o := 8) (el := 4) C gk_1_104 C.2.2.2.2.2.1.2.1 rfl (by decide) (by decide) (Nat.le_of_ble_eq_true rfl) (ce_of hsz (n9 := 8) rfl rfl) (Or.inl (by simp)) rfl (Nat.le_of_ble_eq_true rfl) (Nat.le_of_ble_eq_true rfl) dX7_init_17 ?_
  refine k_putF (i := 0) (k := 1) (v := .ref (b + 8)) (es1 := (([.inr (7, [.ref (b + 1), .ref (b + 8)])] : List va_E) ++ (blk cy b 1 [6, 20, 21, 21, 22, 23, 24] ++ (([.inl (cy 4, 4, .inr (.inr (.inr (.inr (fun _ => none)))))] : List va_E))))) C cl7 rfl (by decide) gw_1_176 rfl rfl hnm rfl rfl rfl (Nat.le_of_ble_eq_true rfl) rfl dX7_init_20 ?_
  refine k_iconst (v := 0) C dX7_init_23 rfl ?_
  refine k_istore_n (ls1 := [(1, .int 0), (0, .ref b)]) C 1 dX7_init_24 rfl (by decide) rfl ?_
  refine k_iload_n C 1 0 dX7_init_25 rfl rfl ?_
  refine k_iconst (v := 4) C dX7_init_26 rfl ?_
  refine k_lt C 49 dX7_init_27 rfl (by decide) ?_
  refine k_aload_n C 0 1 dX7_init_30 rfl rfl ?_
  refine k_get (i := 0) (k := 1) (v := .ref (b + 8)) C cl7 rfl (by decide) gw_1_176 rfl rfl dX7_init_31 ?_
  refine k_iload_n C 1 0 dX7_init_34 rfl rfl ?_
  refine k_new (fs := [.int 0, .int 0, .int 0, .int 0, .int 0, .int 0, .int 0, .int 0, .null, .null]) (o := 9) C cl5 gk_1_104 gk_1_106 gw_1_4 (by decide) (ce_of hsz (n9 := 9) rfl rfl) (Or.inl (by simp)) rfl (Nat.le_of_ble_eq_true rfl) (Nat.le_of_ble_eq_true rfl) dX7_init_35 ?_
  refine k_dup C dX7_init_38 rfl ?_
  refine k_initN C (K9 := 5) (dfl := [.int 0, .int 0, .int 0, .int 0, .int 0, .int 0, .int 0, .int 0, .null, .null]) (ce := 9) (sl := 2448) (st := [.ref (b + 9), .int 0, .ref (b + 8)]) (es := (([.inr (7, [.ref (b + 1), .ref (b + 8)])] : List va_E) ++ (blk cy b 1 [6, 20, 21, 21, 22, 23, 24] ++ (([.inl (cy 4, 4, .inr (.inr (.inr (.inr (fun _ => none)))))] : List va_E))))) (o := 9) (ktX5_init l D cy sa sv C.2.2.2.2.2.2.1) nk_1_107 gk_1_109 gw_1_4 gk_1_108 ⟨⟨by decide, by decide, by decide +kernel⟩, rfl⟩ ⟨Nat.le_of_ble_eq_true rfl, Nat.le_of_ble_eq_true rfl⟩ ⟨Nat.le_of_ble_eq_true rfl, Nat.le_of_ble_eq_true rfl⟩ (ce_of hsz (n9 := 10) rfl rfl) rfl (Nat.le_of_ble_eq_true rfl) (Nat.le_of_ble_eq_true rfl) dX7_init_39 ?_
  refine k_es (es1 := (([.inr (7, [.ref (b + 1), .ref (b + 8)])] : List va_E) ++ (blk cy b 1 [6, 20, 21, 21, 22, 23, 24] ++ (([.inl (cy 4, 4, .inr (.inr (.inr (.inr (fun _ => none)))))] : List va_E) ++ (blk cy b 9 [5, 2, 25, 26]))))) rfl ?_
  refine k_astq (i := 8) (i2 := 9) (j := 0) (es1 := (([.inr (7, [.ref (b + 1), .ref (b + 8)])] : List va_E) ++ (blk cy b 1 [6, 20, 21, 21, 22, 23, 24] ++ (([.inl (cy 4, 4, .inr (.inr (.inr (.inr (va_up (fun _ => none) 0 (some (b + 9)))))))] : List va_E) ++ (blk cy b 9 [5, 2, 25, 26]))))) C cl5 rfl rfl rfl (by unfold vp_in; decide) rfl dX7_init_42 ?_
  refine k_iinc (v1 := 1) (ls1 := [(1, .int 1), (0, .ref b)]) C 1 0 dX7_init_43 rfl (by decide) (by decide) rfl ?_
  refine k_goto C 25 dX7_init_46 rfl ?_
  refine k_iload_n C 1 0 dX7_init_25 rfl rfl ?_
  refine k_iconst (v := 4) C dX7_init_26 rfl ?_
  refine k_lt C 49 dX7_init_27 rfl (by decide) ?_
  refine k_aload_n C 0 1 dX7_init_30 rfl rfl ?_
  refine k_get (i := 0) (k := 1) (v := .ref (b + 8)) C cl7 rfl (by decide) gw_1_176 rfl rfl dX7_init_31 ?_
  refine k_iload_n C 1 0 dX7_init_34 rfl rfl ?_
  refine k_new (fs := [.int 0, .int 0, .int 0, .int 0, .int 0, .int 0, .int 0, .int 0, .null, .null]) (o := 13) C cl5 gk_1_104 gk_1_106 gw_1_4 (by decide) (ce_of hsz (n9 := 13) rfl rfl) (Or.inl (by simp)) rfl (Nat.le_of_ble_eq_true rfl) (Nat.le_of_ble_eq_true rfl) dX7_init_35 ?_
  refine k_dup C dX7_init_38 rfl ?_
  refine k_initN C (K9 := 5) (dfl := [.int 0, .int 0, .int 0, .int 0, .int 0, .int 0, .int 0, .int 0, .null, .null]) (ce := 13) (sl := 2703) (st := [.ref (b + 13), .int 1, .ref (b + 8)]) (es := (([.inr (7, [.ref (b + 1), .ref (b + 8)])] : List va_E) ++ (blk cy b 1 [6, 20, 21, 21, 22, 23, 24] ++ (([.inl (cy 4, 4, .inr (.inr (.inr (.inr (va_up (fun _ => none) 0 (some (b + 9)))))))] : List va_E) ++ (blk cy b 9 [5, 2, 25, 26]))))) (o := 13) (ktX5_init l D cy sa sv C.2.2.2.2.2.2.1) nk_1_107 gk_1_109 gw_1_4 gk_1_108 ⟨⟨by decide, by decide, by decide +kernel⟩, rfl⟩ ⟨Nat.le_of_ble_eq_true rfl, Nat.le_of_ble_eq_true rfl⟩ ⟨Nat.le_of_ble_eq_true rfl, Nat.le_of_ble_eq_true rfl⟩ (ce_of hsz (n9 := 14) rfl rfl) rfl (Nat.le_of_ble_eq_true rfl) (Nat.le_of_ble_eq_true rfl) dX7_init_39 ?_
  refine k_es (es1 := (([.inr (7, [.ref (b + 1), .ref (b + 8)])] : List va_E) ++ (blk cy b 1 [6, 20, 21, 21, 22, 23, 24] ++ (([.inl (cy 4, 4, .inr (.inr (.inr (.inr (va_up (fun _ => none) 0 (some (b + 9)))))))] : List va_E) ++ (blk cy b 9 [5, 2, 25, 26, 5, 2, 25, 26]))))) rfl ?_
  refine k_astq (i := 8) (i2 := 13) (j := 1) (es1 := (([.inr (7, [.ref (b + 1), .ref (b + 8)])] : List va_E) ++ (blk cy b 1 [6, 20, 21, 21, 22, 23, 24] ++ (([.inl (cy 4, 4, .inr (.inr (.inr (.inr (va_up (va_up (fun _ => none) 0 (some (b + 9))) 1 (some (b + 13)))))))] : List va_E) ++ (blk cy b 9 [5, 2, 25, 26, 5, 2, 25, 26]))))) C cl5 rfl rfl rfl (by unfold vp_in; decide) rfl dX7_init_42 ?_
  refine k_iinc (v1 := 2) (ls1 := [(1, .int 2), (0, .ref b)]) C 1 0 dX7_init_43 rfl (by decide) (by decide) rfl ?_
  refine k_goto C 25 dX7_init_46 rfl ?_
  refine k_iload_n C 1 0 dX7_init_25 rfl rfl ?_
  refine k_iconst (v := 4) C dX7_init_26 rfl ?_
  refine k_lt C 49 dX7_init_27 rfl (by decide) ?_
  refine k_aload_n C 0 1 dX7_init_30 rfl rfl ?_
  refine k_get (i := 0) (k := 1) (v := .ref (b + 8)) C cl7 rfl (by decide) gw_1_176 rfl rfl dX7_init_31 ?_
  refine k_iload_n C 1 0 dX7_init_34 rfl rfl ?_
  refine k_new (fs := [.int 0, .int 0, .int 0, .int 0, .int 0, .int 0, .int 0, .int 0, .null, .null]) (o := 17) C cl5 gk_1_104 gk_1_106 gw_1_4 (by decide) (ce_of hsz (n9 := 17) rfl rfl) (Or.inl (by simp)) rfl (Nat.le_of_ble_eq_true rfl) (Nat.le_of_ble_eq_true rfl) dX7_init_35 ?_
  refine k_dup C dX7_init_38 rfl ?_
  refine k_initN C (K9 := 5) (dfl := [.int 0, .int 0, .int 0, .int 0, .int 0, .int 0, .int 0, .int 0, .null, .null]) (ce := 17) (sl := 2958) (st := [.ref (b + 17), .int 2, .ref (b + 8)]) (es := (([.inr (7, [.ref (b + 1), .ref (b + 8)])] : List va_E) ++ (blk cy b 1 [6, 20, 21, 21, 22, 23, 24] ++ (([.inl (cy 4, 4, .inr (.inr (.inr (.inr (va_up (va_up (fun _ => none) 0 (some (b + 9))) 1 (some (b + 13)))))))] : List va_E) ++ (blk cy b 9 [5, 2, 25, 26, 5, 2, 25, 26]))))) (o := 17) (ktX5_init l D cy sa sv C.2.2.2.2.2.2.1) nk_1_107 gk_1_109 gw_1_4 gk_1_108 ⟨⟨by decide, by decide, by decide +kernel⟩, rfl⟩ ⟨Nat.le_of_ble_eq_true rfl, Nat.le_of_ble_eq_true rfl⟩ ⟨Nat.le_of_ble_eq_true rfl, Nat.le_of_ble_eq_true rfl⟩ (ce_of hsz (n9 := 18) rfl rfl) rfl (Nat.le_of_ble_eq_true rfl) (Nat.le_of_ble_eq_true rfl) dX7_init_39 ?_
  refine k_es (es1 := (([.inr (7, [.ref (b + 1), .ref (b + 8)])] : List va_E) ++ (blk cy b 1 [6, 20, 21, 21, 22, 23, 24] ++ (([.inl (cy 4, 4, .inr (.inr (.inr (.inr (va_up (va_up (fun _ => none) 0 (some (b + 9))) 1 (some (b + 13)))))))] : List va_E) ++ (blk cy b 9 [5, 2, 25, 26, 5, 2, 25, 26, 5, 2, 25, 26]))))) rfl ?_
  refine k_astq (i := 8) (i2 := 17) (j := 2) (es1 := (([.inr (7, [.ref (b + 1), .ref (b + 8)])] : List va_E) ++ (blk cy b 1 [6, 20, 21, 21, 22, 23, 24] ++ (([.inl (cy 4, 4, .inr (.inr (.inr (.inr (va_up (va_up (va_up (fun _ => none) 0 (some (b + 9))) 1 (some (b + 13))) 2 (some (b + 17)))))))] : List va_E) ++ (blk cy b 9 [5, 2, 25, 26, 5, 2, 25, 26, 5, 2, 25, 26]))))) C cl5 rfl rfl rfl (by unfold vp_in; decide) rfl dX7_init_42 ?_
  refine k_iinc (v1 := 3) (ls1 := [(1, .int 3), (0, .ref b)]) C 1 0 dX7_init_43 rfl (by decide) (by decide) rfl ?_
  refine k_goto C 25 dX7_init_46 rfl ?_
  refine k_iload_n C 1 0 dX7_init_25 rfl rfl ?_
  refine k_iconst (v := 4) C dX7_init_26 rfl ?_
  refine k_lt C 49 dX7_init_27 rfl (by decide) ?_
  refine k_aload_n C 0 1 dX7_init_30 rfl rfl ?_
  refine k_get (i := 0) (k := 1) (v := .ref (b + 8)) C cl7 rfl (by decide) gw_1_176 rfl rfl dX7_init_31 ?_
  refine k_iload_n C 1 0 dX7_init_34 rfl rfl ?_
  refine k_new (fs := [.int 0, .int 0, .int 0, .int 0, .int 0, .int 0, .int 0, .int 0, .null, .null]) (o := 21) C cl5 gk_1_104 gk_1_106 gw_1_4 (by decide) (ce_of hsz (n9 := 21) rfl rfl) (Or.inl (by simp)) rfl (Nat.le_of_ble_eq_true rfl) (Nat.le_of_ble_eq_true rfl) dX7_init_35 ?_
  refine k_dup C dX7_init_38 rfl ?_
  refine k_initN C (K9 := 5) (dfl := [.int 0, .int 0, .int 0, .int 0, .int 0, .int 0, .int 0, .int 0, .null, .null]) (ce := 21) (sl := 3213) (st := [.ref (b + 21), .int 3, .ref (b + 8)]) (es := (([.inr (7, [.ref (b + 1), .ref (b + 8)])] : List va_E) ++ (blk cy b 1 [6, 20, 21, 21, 22, 23, 24] ++ (([.inl (cy 4, 4, .inr (.inr (.inr (.inr (va_up (va_up (va_up (fun _ => none) 0 (some (b + 9))) 1 (some (b + 13))) 2 (some (b + 17)))))))] : List va_E) ++ (blk cy b 9 [5, 2, 25, 26, 5, 2, 25, 26, 5, 2, 25, 26]))))) (o := 21) (ktX5_init l D cy sa sv C.2.2.2.2.2.2.1) nk_1_107 gk_1_109 gw_1_4 gk_1_108 ⟨⟨by decide, by decide, by decide +kernel⟩, rfl⟩ ⟨Nat.le_of_ble_eq_true rfl, Nat.le_of_ble_eq_true rfl⟩ ⟨Nat.le_of_ble_eq_true rfl, Nat.le_of_ble_eq_true rfl⟩ (ce_of hsz (n9 := 22) rfl rfl) rfl (Nat.le_of_ble_eq_true rfl) (Nat.le_of_ble_eq_true rfl) dX7_init_39 ?_
  refine k_es (es1 := (([.inr (7, [.ref (b + 1), .ref (b + 8)])] : List va_E) ++ (blk cy b 1 [6, 20, 21, 21, 22, 23, 24] ++ (([.inl (cy 4, 4, .inr (.inr (.inr (.inr (va_up (va_up (va_up (fun _ => none) 0 (some (b + 9))) 1 (some (b + 13))) 2 (some (b + 17)))))))] : List va_E) ++ (blk cy b 9 [5, 2, 25, 26, 5, 2, 25, 26, 5, 2, 25, 26, 5, 2, 25, 26]))))) rfl ?_
  refine k_astq (i := 8) (i2 := 21) (j := 3) (es1 := (([.inr (7, [.ref (b + 1), .ref (b + 8)])] : List va_E) ++ (blk cy b 1 [6, 20, 21, 21, 22, 23, 24] ++ (([.inl (cy 4, 4, .inr (.inr (.inr (.inr (va_up (va_up (va_up (va_up (fun _ => none) 0 (some (b + 9))) 1 (some (b + 13))) 2 (some (b + 17))) 3 (some (b + 21)))))))] : List va_E) ++ (blk cy b 9 [5, 2, 25, 26, 5, 2, 25, 26, 5, 2, 25, 26, 5, 2, 25, 26]))))) C cl5 rfl rfl rfl (by unfold vp_in; decide) rfl dX7_init_42 ?_
  refine k_fin (i := 8) (e1 := celE cy b 8 27 zq) (es1 := (([.inr (7, [.ref (b + 1), .ref (b + 8)])] : List va_E) ++ (blk cy b 1 [6, 20, 21, 21, 22, 23, 24, 27, 5, 2, 25, 26, 5, 2, 25, 26, 5, 2, 25, 26, 5, 2, 25, 26]))) rfl (q_fin (g := fun j => some (b + (8 + 1 + 4 * j))) (fun j hj => ?_)) rfl ?_
  · match j, hj with
      | 0, _ => rfl
      | 1, _ => rfl
      | 2, _ => rfl
      | 3, _ => rfl
      | z + 4, h => omega
  refine k_iinc (v1 := 4) (ls1 := [(1, .int 4), (0, .ref b)]) C 1 0 dX7_init_43 rfl (by decide) (by decide) rfl ?_
  refine k_goto C 25 dX7_init_46 rfl ?_
  refine k_iload_n C 1 0 dX7_init_25 rfl rfl ?_
  refine k_iconst (v := 4) C dX7_init_26 rfl ?_
  refine k_ge C 49 dX7_init_27 rfl (by decide) ?_
  exact k_ret (mc := 24) (ms := 3458) C hr rfl dX7_init_49
