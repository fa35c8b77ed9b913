section LW2
variable {p : Program} {l : Launch} {e : Env} {s : State} {m : MethodId} {args : Array Value} {below : List Frame} {meth : Method} {c : Code} {Q : State → Prop}
variable {D : va_G} {cy : Nat → ClassId} {B : Nat} {sa sv : Nat → Nat} {bs L : Nat} {xs : Nat → Int32} {β : Type} {b0 : β}
def fLstep {β : Type} (N : Nat) (a0 a1 a2 a3 a4 a5 : Int32) (M : Mem) (k : Mem → Option β) : Option β :=
  if a0 &&& (63 : Int32) = (0 : Int32) then fLc0 N a1 a2 a3 a4 a5 M k else if a0 &&& (63 : Int32) = (1 : Int32) then fLc1 N a1 M k else if a0 &&& (63 : Int32) = (2 : Int32) then fLc2 N a1 M k else if a0 &&& (63 : Int32) = (3 : Int32) then fLc3 N a1 a2 a3 M k else if a0 &&& (63 : Int32) = (4 : Int32) then fLc4 N a1 a2 a3 M k else if a0 &&& (63 : Int32) = (5 : Int32) then fLc5 N a1 M k else if a0 &&& (63 : Int32) = (6 : Int32) then fLc6 N a1 a2 a3 a4 a5 M k else if a0 &&& (63 : Int32) = (7 : Int32) then fLc7 N a1 a2 M k else if a0 &&& (63 : Int32) = (8 : Int32) then fLc8 N a1 a2 M k else if a0 &&& (63 : Int32) = (9 : Int32) then fLc9 N a1 a2 a3 M k else if a0 &&& (63 : Int32) = (10 : Int32) then fLc10 N a1 a2 M k else if a0 &&& (63 : Int32) = (11 : Int32) then fLc11 N a1 a2 M k else if a0 &&& (63 : Int32) = (12 : Int32) then fLc12 N a1 a2 M k else if a0 &&& (63 : Int32) = (13 : Int32) then fLc13 N a1 a2 M k else if a0 &&& (63 : Int32) = (14 : Int32) then fLc14 N a1 a2 M k else if a0 &&& (63 : Int32) = (15 : Int32) then fLc15 N a1 M k else if a0 &&& (63 : Int32) = (16 : Int32) then fLc16 N a1 M k else if a0 &&& (63 : Int32) = (17 : Int32) then fLc17 N a1 a2 M k else if a0 &&& (63 : Int32) = (18 : Int32) then fLc18 N a1 M k else if a0 &&& (63 : Int32) = (19 : Int32) then fLc19 N M k else if a0 &&& (63 : Int32) = (20 : Int32) then fLc20 N M k else if a0 &&& (63 : Int32) = (21 : Int32) then fLc21 N a1 a2 M k else if a0 &&& (63 : Int32) = (22 : Int32) then fLc22 N a1 a2 a3 M k else if a0 &&& (63 : Int32) = (23 : Int32) then fLc23 N a1 a2 M k else if a0 &&& (63 : Int32) = (24 : Int32) then fLc24 N a1 a2 a3 a4 M k else if a0 &&& (63 : Int32) = (25 : Int32) then fLc25 N a1 a2 a3 M k else if a0 &&& (63 : Int32) = (26 : Int32) then fLc26 N a1 a2 M k else if a0 &&& (63 : Int32) = (27 : Int32) then fLc27 N a1 a2 M k else if a0 &&& (63 : Int32) = (28 : Int32) then fLc28 N a1 a2 M k else if a0 &&& (63 : Int32) = (29 : Int32) then fLc29 N a1 a2 a3 M k else if a0 &&& (63 : Int32) = (30 : Int32) then fLc30 N a1 a2 a3 M k else if a0 &&& (63 : Int32) = (31 : Int32) then fLc31 N a1 a2 a3 a4 M k else if a0 &&& (63 : Int32) = (32 : Int32) then fLc32 N a1 a2 M k else if a0 &&& (63 : Int32) = (33 : Int32) then fLc33 N a1 M k else if a0 &&& (63 : Int32) = (34 : Int32) then fLc34 N a1 M k else if a0 &&& (63 : Int32) = (35 : Int32) then fLc35 N a1 M k else k M
set_option maxHeartbeats 8000000 in
set_option maxRecDepth 100000 in
theorem z_lstep (C : zC p l s m args meth c D cy B kd0 166 sa sv RL cL_law 8) (X : va_X bs L xs s s.heap ∧ bs < s.heap.size ∧ s.heap.size = B ∧ L ≤ 3072) (N i cu : Nat) (hi : i + 6 ≤ L) (hcu : cu + 80 ≤ 599000) (M : Mem) (k : Mem → Option β) (hk : ∀ M : Mem, Z p l e room_1 s m args below meth c Q D cy B kd0 166 8 b0 (cu + 80) (2508) (lwl B bs i) [] M (k M)) : Z p l e room_1 s m args below meth c Q D cy B kd0 166 8 b0 (cu) (33) (lwl B bs i) [] M (fLstep N (xs i) (xs (i + 1)) (xs (i + 2)) (xs (i + 3)) (xs (i + 4)) (xs (i + 5)) M k) := by
  unfold fLstep
  refine z_scr0 C X 4 0 (by omega) rfl rfl dL_law_33 dL_law_34 dL_law_36 ?_
  refine z_bipush (v := 63) C dL_law_37 rfl ?_
  refine z_iand C dL_law_39 ?_
  refine z_ite (q := xs i &&& (63 : Int32) = (0 : Int32)) (fun g0 => ?_) (fun n0 => ?_)
  · refine z_tableZ C 200 (0) dL_law_40 (by rw [g0]; decide) (by decide) (by decide) rfl rfl ?_
    exact z_lc0 C X N i cu hi hcu M k hk
  refine z_ite (q := xs i &&& (63 : Int32) = (1 : Int32)) (fun g1 => ?_) (fun n1 => ?_)
  · refine z_tableZ C 273 (1) dL_law_40 (by rw [g1]; decide) (by decide) (by decide) rfl rfl ?_
    exact z_lc1 C X N i cu hi hcu M k hk
  refine z_ite (q := xs i &&& (63 : Int32) = (2 : Int32)) (fun g2 => ?_) (fun n2 => ?_)
  · refine z_tableZ C 329 (2) dL_law_40 (by rw [g2]; decide) (by decide) (by decide) rfl rfl ?_
    exact z_lc2 C X N i cu hi hcu M k hk
  refine z_ite (q := xs i &&& (63 : Int32) = (3 : Int32)) (fun g3 => ?_) (fun n3 => ?_)
  · refine z_tableZ C 354 (3) dL_law_40 (by rw [g3]; decide) (by decide) (by decide) rfl rfl ?_
    exact z_lc3 C X N i cu hi hcu M k hk
  refine z_ite (q := xs i &&& (63 : Int32) = (4 : Int32)) (fun g4 => ?_) (fun n4 => ?_)
  · refine z_tableZ C 434 (4) dL_law_40 (by rw [g4]; decide) (by decide) (by decide) rfl rfl ?_
    exact z_lc4 C X N i cu hi hcu M k hk
  refine z_ite (q := xs i &&& (63 : Int32) = (5 : Int32)) (fun g5 => ?_) (fun n5 => ?_)
  · refine z_tableZ C 514 (5) dL_law_40 (by rw [g5]; decide) (by decide) (by decide) rfl rfl ?_
    exact z_lc5 C X N i cu hi hcu M k hk
  refine z_ite (q := xs i &&& (63 : Int32) = (6 : Int32)) (fun g6 => ?_) (fun n6 => ?_)
  · refine z_tableZ C 570 (6) dL_law_40 (by rw [g6]; decide) (by decide) (by decide) rfl rfl ?_
    exact z_lc6 C X N i cu hi hcu M k hk
  refine z_ite (q := xs i &&& (63 : Int32) = (7 : Int32)) (fun g7 => ?_) (fun n7 => ?_)
  · refine z_tableZ C 654 (7) dL_law_40 (by rw [g7]; decide) (by decide) (by decide) rfl rfl ?_
    exact z_lc7 C X N i cu hi hcu M k hk
  refine z_ite (q := xs i &&& (63 : Int32) = (8 : Int32)) (fun g8 => ?_) (fun n8 => ?_)
  · refine z_tableZ C 722 (8) dL_law_40 (by rw [g8]; decide) (by decide) (by decide) rfl rfl ?_
    exact z_lc8 C X N i cu hi hcu M k hk
  refine z_ite (q := xs i &&& (63 : Int32) = (9 : Int32)) (fun g9 => ?_) (fun n9 => ?_)
  · refine z_tableZ C 790 (9) dL_law_40 (by rw [g9]; decide) (by decide) (by decide) rfl rfl ?_
    exact z_lc9 C X N i cu hi hcu M k hk
  refine z_ite (q := xs i &&& (63 : Int32) = (10 : Int32)) (fun g10 => ?_) (fun n10 => ?_)
  · refine z_tableZ C 870 (10) dL_law_40 (by rw [g10]; decide) (by decide) (by decide) rfl rfl ?_
    exact z_lc10 C X N i cu hi hcu M k hk
  refine z_ite (q := xs i &&& (63 : Int32) = (11 : Int32)) (fun g11 => ?_) (fun n11 => ?_)
  · refine z_tableZ C 945 (11) dL_law_40 (by rw [g11]; decide) (by decide) (by decide) rfl rfl ?_
    exact z_lc11 C X N i cu hi hcu M k hk
  refine z_ite (q := xs i &&& (63 : Int32) = (12 : Int32)) (fun g12 => ?_) (fun n12 => ?_)
  · refine z_tableZ C 1020 (12) dL_law_40 (by rw [g12]; decide) (by decide) (by decide) rfl rfl ?_
    exact z_lc12 C X N i cu hi hcu M k hk
  refine z_ite (q := xs i &&& (63 : Int32) = (13 : Int32)) (fun g13 => ?_) (fun n13 => ?_)
  · refine z_tableZ C 1088 (13) dL_law_40 (by rw [g13]; decide) (by decide) (by decide) rfl rfl ?_
    exact z_lc13 C X N i cu hi hcu M k hk
  refine z_ite (q := xs i &&& (63 : Int32) = (14 : Int32)) (fun g14 => ?_) (fun n14 => ?_)
  · refine z_tableZ C 1163 (14) dL_law_40 (by rw [g14]; decide) (by decide) (by decide) rfl rfl ?_
    exact z_lc14 C X N i cu hi hcu M k hk
  refine z_ite (q := xs i &&& (63 : Int32) = (15 : Int32)) (fun g15 => ?_) (fun n15 => ?_)
  · refine z_tableZ C 1231 (15) dL_law_40 (by rw [g15]; decide) (by decide) (by decide) rfl rfl ?_
    exact z_lc15 C X N i cu hi hcu M k hk
  refine z_ite (q := xs i &&& (63 : Int32) = (16 : Int32)) (fun g16 => ?_) (fun n16 => ?_)
  · refine z_tableZ C 1287 (16) dL_law_40 (by rw [g16]; decide) (by decide) (by decide) rfl rfl ?_
    exact z_lc16 C X N i cu hi hcu M k hk
  refine z_ite (q := xs i &&& (63 : Int32) = (17 : Int32)) (fun g17 => ?_) (fun n17 => ?_)
  · refine z_tableZ C 1343 (17) dL_law_40 (by rw [g17]; decide) (by decide) (by decide) rfl rfl ?_
    exact z_lc17 C X N i cu hi hcu M k hk
  refine z_ite (q := xs i &&& (63 : Int32) = (18 : Int32)) (fun g18 => ?_) (fun n18 => ?_)
  · refine z_tableZ C 1411 (18) dL_law_40 (by rw [g18]; decide) (by decide) (by decide) rfl rfl ?_
    exact z_lc18 C X N i cu hi hcu M k hk
  refine z_ite (q := xs i &&& (63 : Int32) = (19 : Int32)) (fun g19 => ?_) (fun n19 => ?_)
  · refine z_tableZ C 1474 (19) dL_law_40 (by rw [g19]; decide) (by decide) (by decide) rfl rfl ?_
    exact z_lc19 C X N i cu hi hcu M k hk
  refine z_ite (q := xs i &&& (63 : Int32) = (20 : Int32)) (fun g20 => ?_) (fun n20 => ?_)
  · refine z_tableZ C 1487 (20) dL_law_40 (by rw [g20]; decide) (by decide) (by decide) rfl rfl ?_
    exact z_lc20 C X N i cu hi hcu M k hk
  refine z_ite (q := xs i &&& (63 : Int32) = (21 : Int32)) (fun g21 => ?_) (fun n21 => ?_)
  · refine z_tableZ C 1500 (21) dL_law_40 (by rw [g21]; decide) (by decide) (by decide) rfl rfl ?_
    exact z_lc21 C X N i cu hi hcu M k hk
  refine z_ite (q := xs i &&& (63 : Int32) = (22 : Int32)) (fun g22 => ?_) (fun n22 => ?_)
  · refine z_tableZ C 1568 (22) dL_law_40 (by rw [g22]; decide) (by decide) (by decide) rfl rfl ?_
    exact z_lc22 C X N i cu hi hcu M k hk
  refine z_ite (q := xs i &&& (63 : Int32) = (23 : Int32)) (fun g23 => ?_) (fun n23 => ?_)
  · refine z_tableZ C 1648 (23) dL_law_40 (by rw [g23]; decide) (by decide) (by decide) rfl rfl ?_
    exact z_lc23 C X N i cu hi hcu M k hk
  refine z_ite (q := xs i &&& (63 : Int32) = (24 : Int32)) (fun g24 => ?_) (fun n24 => ?_)
  · refine z_tableZ C 1716 (24) dL_law_40 (by rw [g24]; decide) (by decide) (by decide) rfl rfl ?_
    exact z_lc24 C X N i cu hi hcu M k hk
  refine z_ite (q := xs i &&& (63 : Int32) = (25 : Int32)) (fun g25 => ?_) (fun n25 => ?_)
  · refine z_tableZ C 1808 (25) dL_law_40 (by rw [g25]; decide) (by decide) (by decide) rfl rfl ?_
    exact z_lc25 C X N i cu hi hcu M k hk
  refine z_ite (q := xs i &&& (63 : Int32) = (26 : Int32)) (fun g26 => ?_) (fun n26 => ?_)
  · refine z_tableZ C 1888 (26) dL_law_40 (by rw [g26]; decide) (by decide) (by decide) rfl rfl ?_
    exact z_lc26 C X N i cu hi hcu M k hk
  refine z_ite (q := xs i &&& (63 : Int32) = (27 : Int32)) (fun g27 => ?_) (fun n27 => ?_)
  · refine z_tableZ C 1956 (27) dL_law_40 (by rw [g27]; decide) (by decide) (by decide) rfl rfl ?_
    exact z_lc27 C X N i cu hi hcu M k hk
  refine z_ite (q := xs i &&& (63 : Int32) = (28 : Int32)) (fun g28 => ?_) (fun n28 => ?_)
  · refine z_tableZ C 2024 (28) dL_law_40 (by rw [g28]; decide) (by decide) (by decide) rfl rfl ?_
    exact z_lc28 C X N i cu hi hcu M k hk
  refine z_ite (q := xs i &&& (63 : Int32) = (29 : Int32)) (fun g29 => ?_) (fun n29 => ?_)
  · refine z_tableZ C 2092 (29) dL_law_40 (by rw [g29]; decide) (by decide) (by decide) rfl rfl ?_
    exact z_lc29 C X N i cu hi hcu M k hk
  refine z_ite (q := xs i &&& (63 : Int32) = (30 : Int32)) (fun g30 => ?_) (fun n30 => ?_)
  · refine z_tableZ C 2172 (30) dL_law_40 (by rw [g30]; decide) (by decide) (by decide) rfl rfl ?_
    exact z_lc30 C X N i cu hi hcu M k hk
  refine z_ite (q := xs i &&& (63 : Int32) = (31 : Int32)) (fun g31 => ?_) (fun n31 => ?_)
  · refine z_tableZ C 2232 (31) dL_law_40 (by rw [g31]; decide) (by decide) (by decide) rfl rfl ?_
    exact z_lc31 C X N i cu hi hcu M k hk
  refine z_ite (q := xs i &&& (63 : Int32) = (32 : Int32)) (fun g32 => ?_) (fun n32 => ?_)
  · refine z_tableZ C 2343 (32) dL_law_40 (by rw [g32]; decide) (by decide) (by decide) rfl rfl ?_
    exact z_lc32 C X N i cu hi hcu M k hk
  refine z_ite (q := xs i &&& (63 : Int32) = (33 : Int32)) (fun g33 => ?_) (fun n33 => ?_)
  · refine z_tableZ C 2411 (33) dL_law_40 (by rw [g33]; decide) (by decide) (by decide) rfl rfl ?_
    exact z_lc33 C X N i cu hi hcu M k hk
  refine z_ite (q := xs i &&& (63 : Int32) = (34 : Int32)) (fun g34 => ?_) (fun n34 => ?_)
  · refine z_tableZ C 2447 (34) dL_law_40 (by rw [g34]; decide) (by decide) (by decide) rfl rfl ?_
    exact z_lc34 C X N i cu hi hcu M k hk
  refine z_ite (q := xs i &&& (63 : Int32) = (35 : Int32)) (fun g35 => ?_) (fun n35 => ?_)
  · refine z_tableZ C 2483 (35) dL_law_40 (by rw [g35]; decide) (by decide) (by decide) rfl rfl ?_
    exact z_lc35 C X N i cu hi hcu M k hk
  have n0t := lv_neT (a := 0) n0 (by decide)
  have n1t := lv_neT (a := 1) n1 (by decide)
  have n2t := lv_neT (a := 2) n2 (by decide)
  have n3t := lv_neT (a := 3) n3 (by decide)
  have n4t := lv_neT (a := 4) n4 (by decide)
  have n5t := lv_neT (a := 5) n5 (by decide)
  have n6t := lv_neT (a := 6) n6 (by decide)
  have n7t := lv_neT (a := 7) n7 (by decide)
  have n8t := lv_neT (a := 8) n8 (by decide)
  have n9t := lv_neT (a := 9) n9 (by decide)
  have n10t := lv_neT (a := 10) n10 (by decide)
  have n11t := lv_neT (a := 11) n11 (by decide)
  have n12t := lv_neT (a := 12) n12 (by decide)
  have n13t := lv_neT (a := 13) n13 (by decide)
  have n14t := lv_neT (a := 14) n14 (by decide)
  have n15t := lv_neT (a := 15) n15 (by decide)
  have n16t := lv_neT (a := 16) n16 (by decide)
  have n17t := lv_neT (a := 17) n17 (by decide)
  have n18t := lv_neT (a := 18) n18 (by decide)
  have n19t := lv_neT (a := 19) n19 (by decide)
  have n20t := lv_neT (a := 20) n20 (by decide)
  have n21t := lv_neT (a := 21) n21 (by decide)
  have n22t := lv_neT (a := 22) n22 (by decide)
  have n23t := lv_neT (a := 23) n23 (by decide)
  have n24t := lv_neT (a := 24) n24 (by decide)
  have n25t := lv_neT (a := 25) n25 (by decide)
  have n26t := lv_neT (a := 26) n26 (by decide)
  have n27t := lv_neT (a := 27) n27 (by decide)
  have n28t := lv_neT (a := 28) n28 (by decide)
  have n29t := lv_neT (a := 29) n29 (by decide)
  have n30t := lv_neT (a := 30) n30 (by decide)
  have n31t := lv_neT (a := 31) n31 (by decide)
  have n32t := lv_neT (a := 32) n32 (by decide)
  have n33t := lv_neT (a := 33) n33 (by decide)
  have n34t := lv_neT (a := 34) n34 (by decide)
  have n35t := lv_neT (a := 35) n35 (by decide)
  refine z_tableOut C 2508 dL_law_40 (by omega) rfl ?_
  exact z_jump (ls1 := lwl B bs i) (by omega) [0, 1, 2, 3, 4] rfl (hk M)
/-- the law's calls, r of them from the place i on -/
def fLaw (N : Nat) (xs : Nat → Int32) : Nat → Nat → Mem → Option Mem
  | 0, _, M => some M
  | r + 1, i, M => fLstep N (xs i) (xs (i + 1)) (xs (i + 2)) (xs (i + 3)) (xs (i + 4)) (xs (i + 5)) M (fun M => fLaw N xs r (i + 6) M)
end LW2
