/-! SEMANTICS, BITS (begun from the kit's laws on bits) -/
def bt (x : Int32) (i : Nat) : Bool := x.toBitVec.getLsbD i
def bl (x : Int64) (i : Nat) : Bool := x.toBitVec.getLsbD i
theorem bt_ext {x y : Int32} (h : ∀ i, i < 32 → bt x i = bt y i) : x = y := Int32.toBitVec_inj.mp (BitVec.eq_of_getLsbD_eq (fun i hi => h i hi))
theorem bt_or (x y : Int32) (i : Nat) : bt (x ||| y) i = (bt x i || bt y i) := by unfold bt; rw [Int32.toBitVec_or, BitVec.getLsbD_or]
theorem bt_and (x y : Int32) (i : Nat) : bt (x &&& y) i = (bt x i && bt y i) := by unfold bt; rw [Int32.toBitVec_and, BitVec.getLsbD_and]
theorem bt_0 (i : Nat) : bt 0 i = false := BitVec.getLsbD_zero
theorem bt_1 (i : Nat) : bt 1 i = decide (i = 0) := by
  show (1#32).getLsbD i = _
  cases i <;> simp
theorem sh_l : ∀ n, n < 32 → ((nI n &&& 31).toBitVec.smod 32).toNat = n := by decide +kernel
theorem bt_shl (n : Nat) (hn : n < 32) (x : Int32) {i : Nat} (hi : i < 32) : bt (shlI x (nI n)) i = (decide (n ≤ i) && bt x (i - n)) := by
  unfold bt shlI
  rw [Int32.toBitVec_shiftLeft]
  show (x.toBitVec <<< ((nI n &&& 31).toBitVec.smod 32).toNat).getLsbD i = _
  rw [sh_l n hn, BitVec.getLsbD_shiftLeft]
  rcases Nat.lt_or_ge i n with h | h
  · simp [h, Nat.not_le.mpr h]
  · simp [hi, h, Nat.not_lt.mpr h]
theorem bt_one {n i : Nat} (hn : n < 32) (hi : i < 32) : bt (shlI 1 (nI n)) i = decide (i = n) := by
  rw [bt_shl n hn 1 hi, bt_1]
  by_cases h : i = n
  · subst h; simp
  · by_cases h2 : n ≤ i
    · simp [h, h2]; omega
    · simp [h, h2]
theorem bt_sshr (n : Nat) (hn : n < 32) (x : Int32) {i : Nat} (hi : i < 32) : bt (shrI x (nI n)) i = if n + i < 32 then bt x (n + i) else bt x 31 := by
  unfold bt shrI
  rw [Int32.toBitVec_shiftRight]
  show (x.toBitVec.sshiftRight ((nI n &&& 31).toBitVec.smod 32).toNat).getLsbD i = _
  rw [sh_l n hn, BitVec.getLsbD_sshiftRight, BitVec.msb_eq_getLsbD_last]
  simp [hi]
theorem bt_test (x : Int32) {k : Nat} (hk : k < 32) : ((shrI x (nI k)) &&& (1 : Int32) = 0) ↔ bt x k = false := by
  constructor
  · intro h
    have t := congrArg (fun z => bt z 0) h
    simp only [bt_and, bt_1, bt_0, bt_sshr k hk x (show 0 < 32 by omega)] at t
    rw [if_pos (by omega)] at t
    simpa using t
  · intro h
    apply bt_ext
    intro i hi
    rw [bt_and, bt_1, bt_0, bt_sshr k hk x hi]
    by_cases h0 : i = 0
    · subst h0
      rw [if_pos (by omega)]
      simp [h]
    · simp [h0]
theorem bl_ext {x y : Int64} (h : ∀ i, i < 64 → bl x i = bl y i) : x = y := Int64.toBitVec_inj.mp (BitVec.eq_of_getLsbD_eq (fun i hi => h i hi))
theorem bl_or (x y : Int64) (i : Nat) : bl (x ||| y) i = (bl x i || bl y i) := by unfold bl; rw [Int64.toBitVec_or, BitVec.getLsbD_or]
theorem bl_and (x y : Int64) (i : Nat) : bl (x &&& y) i = (bl x i && bl y i) := by unfold bl; rw [Int64.toBitVec_and, BitVec.getLsbD_and]
theorem bl_xor (x y : Int64) (i : Nat) : bl (x ^^^ y) i = (bl x i ^^ bl y i) := by unfold bl; rw [Int64.toBitVec_xor, BitVec.getLsbD_xor]
theorem bl_0 (i : Nat) : bl 0 i = false := BitVec.getLsbD_zero
theorem bl_big {x : Int64} {i : Nat} (h : 64 ≤ i) : bl x i = false := BitVec.getLsbD_of_ge _ _ h
theorem bl_1 (i : Nat) : bl 1 i = decide (i = 0) := by
  show (1#64).getLsbD i = _
  cases i <;> simp
theorem bl_m1 : ∀ i, i < 64 → bl (-1) i = true := by decide +kernel
theorem bl_not {x : Int64} {i : Nat} (hi : i < 64) : bl (x ^^^ (-1)) i = !bl x i := by
  rw [bl_xor, bl_m1 i hi]
  cases bl x i <;> rfl
theorem sj_l : ∀ n, n < 64 → (((nI n).toInt64 &&& 63).toBitVec.smod 64).toNat = n := by decide +kernel
theorem bl_shl (n : Nat) (hn : n < 64) (x : Int64) {i : Nat} (hi : i < 64) : bl (shlJ x (nI n)) i = (decide (n ≤ i) && bl x (i - n)) := by
  unfold bl shlJ
  rw [Int64.toBitVec_shiftLeft]
  show (x.toBitVec <<< (((nI n).toInt64 &&& 63).toBitVec.smod 64).toNat).getLsbD i = _
  rw [sj_l n hn, BitVec.getLsbD_shiftLeft]
  rcases Nat.lt_or_ge i n with h | h
  · simp [h, Nat.not_le.mpr h]
  · simp [hi, h, Nat.not_lt.mpr h]
theorem bl_one {n i : Nat} (hn : n < 64) : bl (shlJ 1 (nI n)) i = decide (i = n) := by
  rcases Nat.lt_or_ge i 64 with hi | hi
  · rw [bl_shl n hn 1 hi, bl_1]
    by_cases h : i = n
    · subst h; simp
    · by_cases h2 : n ≤ i
      · simp [h, h2]; omega
      · simp [h, h2]
  · rw [bl_big hi]
    simp; omega
theorem bl_sshr (n : Nat) (hn : n < 64) (x : Int64) {i : Nat} (hi : i < 64) : bl (shrJ x (nI n)) i = if n + i < 64 then bl x (n + i) else bl x 63 := by
  unfold bl shrJ
  rw [Int64.toBitVec_shiftRight]
  show (x.toBitVec.sshiftRight (((nI n).toInt64 &&& 63).toBitVec.smod 64).toNat).getLsbD i = _
  rw [sj_l n hn, BitVec.getLsbD_sshiftRight, BitVec.msb_eq_getLsbD_last]
  simp [hi]
theorem sj_u : ∀ n, n < 64 → ((nI n).toInt64.toUInt64 &&& Int64.toUInt64 63).toNat = n := by decide +kernel
theorem bl_ushr (n : Nat) (hn : n < 64) (x : Int64) (i : Nat) : bl (ushrJ x (nI n)) i = bl x (n + i) := by
  unfold bl ushrJ
  have e : ∀ s : UInt64, s.toNat = n → (x.toUInt64 >>> s).toInt64.toBitVec = x.toBitVec >>> n := by
    intro s hs
    apply BitVec.eq_of_toNat_eq
    show (x.toUInt64 >>> s).toNat = _
    rw [UInt64.toNat_shiftRight, hs, Nat.mod_eq_of_lt hn, BitVec.toNat_ushiftRight]
    rfl
  rw [e _ (sj_u n hn), BitVec.getLsbD_ushiftRight]
theorem bl_and1 (x : Int64) : (x &&& (1 : Int64) = 0) ↔ bl x 0 = false := by
  constructor
  · intro h
    have t := congrArg (fun z => bl z 0) h
    simp only [bl_and, bl_1, bl_0] at t
    simpa using t
  · intro h
    apply bl_ext
    intro i hi
    rw [bl_and, bl_1, bl_0]
    by_cases h0 : i = 0
    · subst h0
      simp [h]
    · simp [h0]
theorem bl_is1 (x : Int64) : (x &&& (1 : Int64) = 1) ↔ bl x 0 = true := by
  constructor
  · intro h
    have t := congrArg (fun z => bl z 0) h
    simp only [bl_and, bl_1] at t
    simpa using t
  · intro h
    apply bl_ext
    intro i hi
    rw [bl_and, bl_1]
    by_cases h0 : i = 0
    · subst h0
      simp [h]
    · simp [h0]
theorem bl_test (x : Int64) {k : Nat} (hk : k < 64) : ((ushrJ x (nI k)) &&& (1 : Int64) = 0) ↔ bl x k = false := by
  rw [bl_and1, bl_ushr k hk, Nat.add_zero]
theorem bl_testS (x : Int64) {k : Nat} (hk : k < 64) : ((shrJ x (nI k)) &&& (1 : Int64) = 0) ↔ bl x k = false := by
  rw [bl_and1, bl_sshr k hk x (by omega), Nat.add_zero, if_pos hk]
theorem bl_testS1 (x : Int64) {k : Nat} (hk : k < 64) : ((shrJ x (nI k)) &&& (1 : Int64) = 1) ↔ bl x k = true := by
  rw [bl_is1, bl_sshr k hk x (by omega), Nat.add_zero, if_pos hk]
theorem bl_eq0 (x : Int64) : x = 0 ↔ ∀ i, i < 64 → bl x i = false := ⟨fun h i _ => by rw [h, bl_0], fun h => bl_ext (fun i hi => by rw [h i hi, bl_0])⟩
theorem bl_in (x y : Int64) : (x &&& (y ^^^ (-1 : Int64)) = 0) ↔ ∀ i, i < 64 → bl x i = true → bl y i = true := by
  rw [bl_eq0]
  refine ⟨fun h i hi hx => ?_, fun h i hi => ?_⟩
  · have t := h i hi
    rw [bl_and, bl_not hi, hx] at t
    simpa using t
  · rw [bl_and, bl_not hi]
    cases hx : bl x i
    · rfl
    · rw [h i hi hx]; rfl
