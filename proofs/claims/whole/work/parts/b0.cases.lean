/-! SEMANTICS: the cases, as a step wants them -/
theorem cs3 {N : Nat} (hN : 700 ≤ N) (a1 a2 a3 : Int32) (M : Mem) (hR : Rel M) : ∃ M1, Rel M1 ∧ ∀ (k : Mem → Option Mem), fLc3 N a1 a2 a3 M k = k M1 := ca_I (ag_value hN a1 a2 a3 M hR)
theorem cs4 {N : Nat} (hN : 700 ≤ N) (a1 a2 a3 : Int32) (M : Mem) (hR : Rel M) : ∃ M1, Rel M1 ∧ ∀ (k : Mem → Option Mem), fLc4 N a1 a2 a3 M k = k M1 := ca_I (ag_place hN a1 a2 a3 M hR)
theorem cs5 {N : Nat} (hN : 700 ≤ N) (a1 : Int32) (M : Mem) (hR : Rel M) : ∃ M1, Rel M1 ∧ ∀ (k : Mem → Option Mem), fLc5 N a1 M k = k M1 := ca_I (ag_tag hN a1 M hR)
theorem cs6 {N : Nat} (hN : 700 ≤ N) (a1 a2 a3 a4 a5 : Int32) (M : Mem) (hR : Rel M) : ∃ M1, Rel M1 ∧ ∀ (k : Mem → Option Mem), fLc6 N a1 a2 a3 a4 a5 M k = k M1 := ca_V (ag_make hN a1 a2 a3 a4 a5 M hR)
theorem cs7 {N : Nat} (hN : 700 ≤ N) (a1 a2 : Int32) (M : Mem) (hR : Rel M) : ∃ M1, Rel M1 ∧ ∀ (k : Mem → Option Mem), fLc7 N a1 a2 M k = k M1 := ca_I (ag_of hN a1 a2 M hR)
theorem cs8 {N : Nat} (hN : 700 ≤ N) (a1 a2 : Int32) (M : Mem) (hR : Rel M) : ∃ M1, Rel M1 ∧ ∀ (k : Mem → Option Mem), fLc8 N a1 a2 M k = k M1 := ca_I (ag_cell hN a1 a2 M hR)
theorem cs9 {N : Nat} (hN : 700 ≤ N) (a1 a2 a3 : Int32) (M : Mem) (hR : Rel M) : ∃ M1, Rel M1 ∧ ∀ (k : Mem → Option Mem), fLc9 N a1 a2 a3 M k = k M1 := ca_I (ag_guest a1 a2 a3 M hR)
theorem cs10 {N : Nat} (hN : 700 ≤ N) (a1 a2 : Int32) (M : Mem) (hR : Rel M) : ∃ M1, Rel M1 ∧ ∀ (k : Mem → Option Mem), fLc10 N a1 a2 M k = k M1 := ca_B (ag_yes hN a1 a2 M hR)
theorem cs11 {N : Nat} (hN : 700 ≤ N) (a1 a2 : Int32) (M : Mem) (hR : Rel M) : ∃ M1, Rel M1 ∧ ∀ (k : Mem → Option Mem), fLc11 N a1 a2 M k = k M1 := ca_B (ag_isPut a1 a2 M hR)
theorem cs12 {N : Nat} (hN : 700 ≤ N) (a1 a2 : Int32) (M : Mem) (hR : Rel M) : ∃ M1, Rel M1 ∧ ∀ (k : Mem → Option Mem), fLc12 N a1 a2 M k = k M1 := ca_I (ag_put hN a1 a2 M hR)
theorem cs13 {N : Nat} (hN : 700 ≤ N) (a1 a2 : Int32) (M : Mem) (hR : Rel M) : ∃ M1, Rel M1 ∧ ∀ (k : Mem → Option Mem), fLc13 N a1 a2 M k = k M1 := ca_B (ag_take hN a1 a2 M hR)
theorem cs14 {N : Nat} (hN : 700 ≤ N) (a1 a2 : Int32) (M : Mem) (hR : Rel M) : ∃ M1, Rel M1 ∧ ∀ (k : Mem → Option Mem), fLc14 N a1 a2 M k = k M1 := ca_I (ag_join hN a1 a2 M hR)
theorem cs15 {N : Nat} (hN : 700 ≤ N) (a1 : Int32) (M : Mem) (hR : Rel M) : ∃ M1, Rel M1 ∧ ∀ (k : Mem → Option Mem), fLc15 N a1 M k = k M1 := ca_I (ag_halve hN a1 M hR)
theorem cs16 {N : Nat} (hN : 700 ≤ N) (a1 : Int32) (M : Mem) (hR : Rel M) : ∃ M1, Rel M1 ∧ ∀ (k : Mem → Option Mem), fLc16 N a1 M k = k M1 := ca_I (ag_grow hN a1 M hR)
theorem cs17 {N : Nat} (hN : 700 ≤ N) (a1 a2 : Int32) (M : Mem) (hR : Rel M) : ∃ M1, Rel M1 ∧ ∀ (k : Mem → Option Mem), fLc17 N a1 a2 M k = k M1 := ca_I (ag_solve hN a1 a2 M hR)
theorem cs18 {N : Nat} (hN : 700 ≤ N) (a1 : Int32) (M : Mem) (hR : Rel M) : ∃ M1, Rel M1 ∧ ∀ (k : Mem → Option Mem), fLc18 N a1 M k = k M1 := ca_B (ag_lying hN a1 M hR)
theorem cs21 {N : Nat} (hN : 700 ≤ N) (a1 a2 : Int32) (M : Mem) (hR : Rel M) : ∃ M1, Rel M1 ∧ ∀ (k : Mem → Option Mem), fLc21 N a1 a2 M k = k M1 := ca_I (ag_lie hN a1 a2 M hR)
theorem cs22 {N : Nat} (hN : 700 ≤ N) (a1 a2 a3 : Int32) (M : Mem) (hR : Rel M) : ∃ M1, Rel M1 ∧ ∀ (k : Mem → Option Mem), fLc22 N a1 a2 a3 M k = k M1 := ca_I (ag_wronged hN a1 a2 a3 M hR)
theorem cs23 {N : Nat} (hN : 700 ≤ N) (a1 a2 : Int32) (M : Mem) (hR : Rel M) : ∃ M1, Rel M1 ∧ ∀ (k : Mem → Option Mem), fLc23 N a1 a2 M k = k M1 := ca_I (ag_worse hN a1 a2 M hR)
theorem cs24 {N : Nat} (hN : 700 ≤ N) (a1 a2 a3 a4 : Int32) (M : Mem) (hR : Rel M) : ∃ M1, Rel M1 ∧ ∀ (k : Mem → Option Mem), fLc24 N a1 a2 a3 a4 M k = k M1 := ca_I (ag_cascade hN a1 a2 a3 a4 M hR)
theorem cs25 {N : Nat} (hN : 700 ≤ N) (a1 a2 a3 : Int32) (M : Mem) (hR : Rel M) : ∃ M1, Rel M1 ∧ ∀ (k : Mem → Option Mem), fLc25 N a1 a2 a3 M k = k M1 := ca_I (ag_learn hN a1 a2 a3 M hR)
theorem cs26 {N : Nat} (hN : 700 ≤ N) (a1 a2 : Int32) (M : Mem) (hR : Rel M) : ∃ M1, Rel M1 ∧ ∀ (k : Mem → Option Mem), fLc26 N a1 a2 M k = k M1 := ca_I (ag_ask hN a1 a2 M hR)
theorem cs27 {N : Nat} (hN : 700 ≤ N) (a1 a2 : Int32) (M : Mem) (hR : Rel M) : ∃ M1, Rel M1 ∧ ∀ (k : Mem → Option Mem), fLc27 N a1 a2 M k = k M1 := ca_I (ag_worst hN a1 a2 M hR)
theorem cs29 {N : Nat} (hN : 4000 ≤ N) (a1 a2 a3 : Int32) (M : Mem) (hR : Rel M) : ∃ M1, Rel M1 ∧ ∀ (k : Mem → Option Mem), fLc29 N a1 a2 a3 M k = k M1 := ca_I (ag_choose hN a1 a2 a3 M hR)
theorem cs30 {N : Nat} (hN : 700 ≤ N) (a1 a2 a3 : Int32) (M : Mem) (hR : Rel M) : ∃ M1, Rel M1 ∧ ∀ (k : Mem → Option Mem), fLc30 N a1 a2 a3 M k = k M1 := ca_V (ag_tray hN a1 a2 a3 M hR)
theorem cs32 {N : Nat} (hN : 700 ≤ N) (a1 a2 : Int32) (M : Mem) (hR : Rel M) : ∃ M1, Rel M1 ∧ ∀ (k : Mem → Option Mem), fLc32 N a1 a2 M k = k M1 := ca_I (ag_pour hN a1 a2 M hR)
theorem cs33 {N : Nat} (hN : 4000 ≤ N) (a1 : Int32) (M : Mem) (hR : Rel M) : ∃ M1, Rel M1 ∧ ∀ (k : Mem → Option Mem), fLc33 N a1 M k = k M1 := ca_V (ag_image hN a1 M hR)
theorem cs34 {N : Nat} (hN : 4000 ≤ N) (a1 : Int32) (M : Mem) (hR : Rel M) : ∃ M1, Rel M1 ∧ ∀ (k : Mem → Option Mem), fLc34 N a1 M k = k M1 := ca_V (ag_restore hN a1 M hR)
theorem cs2 (N : Nat) (a1 : Int32) (M : Mem) (hR : Rel M) : ∃ M1, Rel M1 ∧ ∀ (k : Mem → Option Mem), fLc2 N a1 M k = k M1 := ⟨_, hR.calm 0, fun k => lc2_ok N a1 M hR.2.2.2.2 k⟩
theorem cs19 (N : Nat) (M : Mem) (hR : Rel M) : ∃ M1, Rel M1 ∧ ∀ (k : Mem → Option Mem), fLc19 N M k = k M1 := ⟨_, hR.calm 0, fun k => lc19_ok N M hR.2.2.2.2 k⟩
theorem cs20 (N : Nat) (M : Mem) (hR : Rel M) : ∃ M1, Rel M1 ∧ ∀ (k : Mem → Option Mem), fLc20 N M k = k M1 := ⟨_, hR.calm 0, fun k => lc20_ok N M hR.2.2.2.2 k⟩
theorem cs31 (N : Nat) (a1 a2 a3 a4 : Int32) (M : Mem) (hR : Rel M) : ∃ M1, Rel M1 ∧ ∀ (k : Mem → Option Mem), fLc31 N a1 a2 a3 a4 M k = k M1 := ca_J (ag_write a1 a2 ((shlJ (a3.toInt64) (32 : Int32)) ||| (a4.toInt64 &&& (4294967295 : Int64))) M hR)
/-- every case but rules and blame is done -/
theorem step_rest {N : Nat} (hN : 4000 ≤ N) (h1 : ∀ (a1 : Int32) (M : Mem), Rel M → ∃ M1, Rel M1 ∧ ∀ (k : Mem → Option Mem), fLc1 N a1 M k = k M1) (h28 : ∀ (a1 a2 : Int32) (M : Mem), Rel M → ∃ M1, Rel M1 ∧ ∀ (k : Mem → Option Mem), fLc28 N a1 a2 M k = k M1) : stepOk N Rel := by
  have hN7 : 700 ≤ N := by omega
  exact step_of (lc0_ok hN7) h1 (cs2 N) (cs3 hN7) (cs4 hN7) (cs5 hN7) (cs6 hN7) (cs7 hN7) (cs8 hN7) (cs9 hN7) (cs10 hN7) (cs11 hN7) (cs12 hN7) (cs13 hN7) (cs14 hN7) (cs15 hN7) (cs16 hN7) (cs17 hN7) (cs18 hN7) (cs19 N) (cs20 N) (cs21 hN7) (cs22 hN7) (cs23 hN7) (cs24 hN7) (cs25 hN7) (cs26 hN7) (cs27 hN7) h28 (cs29 hN) (cs30 hN7) (cs31 N) (cs32 hN7) (cs33 hN) (cs34 hN) (lc35_ok hN7)
