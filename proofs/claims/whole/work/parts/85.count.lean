/-! SEMANTICS, COUNTING BITS: the library's bitCount is the number of bits -/
theorem cnt_split (p : Nat → Bool) (m : Nat) : ∀ n, cnt p (m + n) = cnt p m + cnt (fun k => p (m + k)) n
  | 0 => rfl
  | n + 1 => by
    show cnt p (m + n) + (if p (m + n) = true then 1 else 0) = cnt p m + (cnt (fun k => p (m + k)) n + (if p (m + n) = true then 1 else 0))
    rw [cnt_split p m n]
    omega
theorem jN_bv (n : Nat) : (lN n).toBitVec = BitVec.ofNat 64 n := rfl
theorem jN_inj {a b : Int64} (h : a.toBitVec = b.toBitVec) : a = b := Int64.toBitVec_inj.mp h
theorem jN_of (x : Int64) : ∃ n, n < 2 ^ 64 ∧ x = lN n := ⟨x.toBitVec.toNat, x.toBitVec.isLt, jN_inj (by rw [jN_bv]; simp)⟩
theorem jN_and (a b : Nat) : lN a &&& lN b = lN (a &&& b) := by
  apply jN_inj
  rw [Int64.toBitVec_and, jN_bv, jN_bv, jN_bv]
  apply BitVec.eq_of_getLsbD_eq
  intro i hi
  simp [hi]
theorem jN_ushr {n k : Nat} (hn : n < 2 ^ 64) (hk : k < 64) : ushrJ (lN n) (nI k) = lN (n / 2 ^ k) := by
  apply bl_ext
  intro i hi
  rw [bl_ushr k hk]
  unfold bl
  rw [jN_bv, jN_bv, BitVec.getLsbD_ofNat, BitVec.getLsbD_ofNat, Nat.testBit_div_two_pow]
  by_cases h : k + i < 64
  · simp [h, hi, Nat.add_comm]
  · simp only [h, hi, decide_false, decide_true, Bool.false_and, Bool.true_and]
    symm
    apply Nat.testBit_lt_two_pow
    exact Nat.lt_of_lt_of_le hn (Nat.pow_le_pow_right (by decide) (by omega))
theorem bl_lN {x i : Nat} (hi : i < 64) : bl (lN x) i = x.testBit i := by
  unfold bl
  rw [jN_bv, BitVec.getLsbD_ofNat]
  simp [hi]
def val8 : List Nat → Nat
  | [] => 0
  | a :: L => a + 256 * val8 L
def rep8 (c : Nat) : Nat → Nat
  | 0 => 0
  | n + 1 => c + 256 * rep8 c n
theorem and8 {a c : Nat} (b d : Nat) (ha : a < 256) (hc : c < 256) : (a + 256 * b) &&& (c + 256 * d) = (a &&& c) + 256 * (b &&& d) := by
  apply Nat.eq_of_testBit_eq
  intro i
  have hac : a &&& c < 2 ^ 8 := Nat.and_lt_two_pow _ hc
  rw [Nat.testBit_and, Nat.add_comm a, Nat.add_comm c, Nat.add_comm (a &&& c)]
  rw [show 256 = 2 ^ 8 from rfl, Nat.testBit_two_pow_mul_add _ ha, Nat.testBit_two_pow_mul_add _ hc, Nat.testBit_two_pow_mul_add _ hac]
  by_cases h : i < 8
  · simp [h]
  · simp [h]
def p1_8 (b : Nat) : Nat := b - ((b / 2) &&& 85)
def p2_8 (b : Nat) : Nat := (b &&& 51) + ((b / 4) &&& 51)
def p3_8 (b : Nat) : Nat := (b + b / 16) &&& 15
theorem f1_8 : ∀ a, a < 256 → ∀ e, e < 2 → (a / 2 + 128 * e) &&& 85 = (a / 2) &&& 85 := by decide +kernel
theorem f2_8 : ∀ a, a < 256 → ∀ e, e < 4 → (a / 4 + 64 * e) &&& 51 = (a / 4) &&& 51 := by decide +kernel
theorem f3_8 : ∀ a, a < 69 → ∀ e, e < 5 → (a + a / 16 + 16 * e) &&& 15 = (a + a / 16) &&& 15 := by decide +kernel
theorem g1_8 : ∀ a, a < 256 → p1_8 a < 256 ∧ p2_8 (p1_8 a) < 69 ∧ p2_8 (p1_8 a) % 16 < 5 ∧ p3_8 (p2_8 (p1_8 a)) = cnt (fun i => a.testBit i) 8 := by decide +kernel
theorem s1_8 : ∀ L : List Nat, (∀ a ∈ L, a < 256) → val8 L - ((val8 L / 2) &&& rep8 85 L.length) = val8 (L.map p1_8)
  | [], _ => rfl
  | a :: L, h => by
    have ih := s1_8 L (fun b hb => h b (List.mem_cons_of_mem _ hb))
    have ha := h a List.mem_cons_self
    show (a + 256 * val8 L) - (((a + 256 * val8 L) / 2) &&& (85 + 256 * rep8 85 L.length)) = p1_8 a + 256 * val8 (L.map p1_8)
    have e1 : (a + 256 * val8 L) / 2 = (a / 2 + 128 * (val8 L % 2)) + 256 * (val8 L / 2) := by omega
    rw [e1, and8 _ _ (by omega) (by omega), f1_8 a ha _ (Nat.mod_lt _ (by omega)), ← ih]
    have h1 : (a / 2) &&& 85 ≤ a / 2 := Nat.and_le_left
    have h2 : (val8 L / 2) &&& rep8 85 L.length ≤ val8 L / 2 := Nat.and_le_left
    unfold p1_8
    omega
theorem s2_8 : ∀ L : List Nat, (∀ a ∈ L, a < 256) → (val8 L &&& rep8 51 L.length) + ((val8 L / 4) &&& rep8 51 L.length) = val8 (L.map p2_8)
  | [], _ => rfl
  | a :: L, h => by
    have ih := s2_8 L (fun b hb => h b (List.mem_cons_of_mem _ hb))
    have ha := h a List.mem_cons_self
    show ((a + 256 * val8 L) &&& (51 + 256 * rep8 51 L.length)) + (((a + 256 * val8 L) / 4) &&& (51 + 256 * rep8 51 L.length)) = p2_8 a + 256 * val8 (L.map p2_8)
    have e1 : (a + 256 * val8 L) / 4 = (a / 4 + 64 * (val8 L % 4)) + 256 * (val8 L / 4) := by omega
    rw [e1, and8 _ _ (by omega) (by omega), and8 _ _ (by omega) (by omega), f2_8 a ha _ (Nat.mod_lt _ (by omega)), ← ih]
    unfold p2_8
    omega
theorem s3_8 : ∀ L : List Nat, (∀ a ∈ L, a < 69 ∧ a % 16 < 5) → ((val8 L + val8 L / 16) &&& rep8 15 L.length) = val8 (L.map p3_8)
  | [], _ => rfl
  | a :: L, h => by
    have ih := s3_8 L (fun b hb => h b (List.mem_cons_of_mem _ hb))
    have ha := h a List.mem_cons_self
    have hv : val8 L % 16 < 5 := by
      cases L with
      | nil => show 0 % 16 < 5; omega
      | cons b L =>
        have hb := h b (List.mem_cons_of_mem _ List.mem_cons_self)
        show (b + 256 * val8 L) % 16 < 5
        omega
    show ((a + 256 * val8 L + (a + 256 * val8 L) / 16) &&& (15 + 256 * rep8 15 L.length)) = p3_8 a + 256 * val8 (L.map p3_8)
    have e1 : a + 256 * val8 L + (a + 256 * val8 L) / 16 = (a + a / 16 + 16 * (val8 L % 16)) + 256 * (val8 L + val8 L / 16) := by omega
    rw [e1, and8 _ _ (by omega) (by omega), f3_8 a ha.1 _ hv, ← ih]
    rfl
theorem cnt8 : ∀ L : List Nat, (∀ a ∈ L, a < 256) → cnt (fun i => (val8 L).testBit i) (8 * L.length) = (L.map (fun a => cnt (fun i => a.testBit i) 8)).sum
  | [], _ => rfl
  | a :: L, h => by
    have ih := cnt8 L (fun b hb => h b (List.mem_cons_of_mem _ hb))
    have ha := h a List.mem_cons_self
    rw [List.length_cons, show 8 * (L.length + 1) = 8 + 8 * L.length by omega, cnt_split, List.map_cons, List.sum_cons, ← ih]
    have e : ∀ i, (val8 (a :: L)).testBit i = if i < 8 then a.testBit i else (val8 L).testBit (i - 8) := fun i => by
      show (a + 256 * val8 L).testBit i = _
      rw [Nat.add_comm, show 256 = 2 ^ 8 from rfl, Nat.testBit_two_pow_mul_add _ ha]
    congr 1
    · exact cnt_cong (fun k hk => by rw [e, if_pos hk])
    · exact cnt_cong (fun k hk => by rw [e, if_neg (by omega), show 8 + k - 8 = k by omega])
theorem bytes8 (x : Nat) (h : x < 2 ^ 64) : ∃ a b c d e f g i : Nat, a < 256 ∧ b < 256 ∧ c < 256 ∧ d < 256 ∧ e < 256 ∧ f < 256 ∧ g < 256 ∧ i < 256 ∧ x = val8 [a, b, c, d, e, f, g, i] := by
  refine ⟨x % 256, x / 256 % 256, x / 65536 % 256, x / 16777216 % 256, x / 4294967296 % 256, x / 1099511627776 % 256, x / 281474976710656 % 256, x / 72057594037927936, by omega, by omega, by omega, by omega, by omega, by omega, by omega, by omega, ?_⟩
  simp only [val8]
  omega
theorem last8 {a b c d e f g i : Nat} (ha : a ≤ 8) (hb : b ≤ 8) (hc : c ≤ 8) (hd : d ≤ 8) (he : e ≤ 8) (hf : f ≤ 8) (hg : g ≤ 8) (hi : i ≤ 8) :
    ∀ x y z w : Nat, x = val8 [a, b, c, d, e, f, g, i] → y = x + x / 256 → z = y + y / 65536 → w = z + z / 4294967296 → y < 2 ^ 64 ∧ z < 2 ^ 64 ∧ w % 128 = a + (b + (c + (d + (e + (f + (g + i)))))) := by
  intro x y z w hx hy hz hw
  simp only [val8] at hx
  have h1 : x / 256 = b + 256 * (c + 256 * (d + 256 * (e + 256 * (f + 256 * (g + 256 * i))))) := by omega
  have h2 : y = (a + b) + 256 * ((b + c) + 256 * ((c + d) + 256 * ((d + e) + 256 * ((e + f) + 256 * ((f + g) + 256 * ((g + i) + 256 * i)))))) := by omega
  have h3 : y / 65536 = (c + d) + 256 * ((d + e) + 256 * ((e + f) + 256 * ((f + g) + 256 * ((g + i) + 256 * i)))) := by clear hy h1 hx hz hw; omega
  have h4 : z = (a + b + c + d) + 256 * ((b + c + d + e) + 256 * ((c + d + e + f) + 256 * ((d + e + f + g) + 256 * ((e + f + g + i) + 256 * ((f + g + i) + 256 * ((g + i) + 256 * i)))))) := by omega
  have h5 : z / 4294967296 = (e + f + g + i) + 256 * ((f + g + i) + 256 * ((g + i) + 256 * i)) := by clear hy h1 hx hz hw h2 h3; omega
  refine ⟨by clear hy h1 hx hz hw h3 h4 h5; omega, by clear hy h1 hx hz hw h2 h3 h5; omega, ?_⟩
  rw [hw, h5, h4]
  clear hy h1 hx hz hw h2 h3 h4 h5
  omega
theorem and127 (n : Nat) : nI n &&& nI 127 = nI (n % 128) := by
  apply bt_ext
  intro i hi
  rw [bt_and]
  show ((BitVec.ofNat 32 n).getLsbD i && (BitVec.ofNat 32 127).getLsbD i) = (BitVec.ofNat 32 (n % 128)).getLsbD i
  rw [BitVec.getLsbD_ofNat, BitVec.getLsbD_ofNat, BitVec.getLsbD_ofNat, show 127 = 2 ^ 7 - 1 from rfl, Nat.testBit_two_pow_sub_one, show 128 = 2 ^ 7 from rfl, Nat.testBit_mod_two_pow]
  simp [hi, Bool.and_comm]
theorem bitCount_ok (w : Int64) (M : Mem) : fJ13_bitCount_95d88 w M = some (nI (cnt (fun i => bl w i) 64)) := by
  obtain ⟨x, hx, rfl⟩ := jN_of w
  have ec : cnt (fun i => bl (lN x) i) 64 = cnt (fun i => x.testBit i) 64 := cnt_cong (fun k hk => bl_lN hk)
  rw [ec]
  obtain ⟨a, b, c, d, e, f, g, i, ha, hb, hc, hd, he, hf, hg, hi, rfl⟩ := bytes8 x hx
  have c5 : (6148914691236517205 : Int64) = lN (rep8 85 8) := rfl
  have c3 : (3689348814741910323 : Int64) = lN (rep8 51 8) := rfl
  have cf : (1085102592571150095 : Int64) = lN (rep8 15 8) := rfl
  have hall : ∀ z ∈ [a, b, c, d, e, f, g, i], z < 256 := by
    intro z hz
    simp only [List.mem_cons, List.not_mem_nil, or_false] at hz
    omega
  have k1 := s1_8 [a, b, c, d, e, f, g, i] hall
  have k2 := s2_8 ([a, b, c, d, e, f, g, i].map p1_8) (by
    intro z hz
    obtain ⟨q, hq, rfl⟩ := List.mem_map.mp hz
    exact (g1_8 q (hall q hq)).1)
  have k3 := s3_8 (([a, b, c, d, e, f, g, i].map p1_8).map p2_8) (by
    intro z hz
    obtain ⟨q, hq, rfl⟩ := List.mem_map.mp hz
    obtain ⟨q', hq', rfl⟩ := List.mem_map.mp hq
    have := g1_8 q' (hall q' hq')
    exact ⟨this.2.1, this.2.2.1⟩)
  have kc := cnt8 [a, b, c, d, e, f, g, i] hall
  simp only [List.map_map, List.map_cons, List.map_nil, List.length_cons, List.length_nil, Function.comp, List.sum_cons, List.sum_nil] at k1 k2 k3 kc
  rw [show 8 * (0 + 1 + 1 + 1 + 1 + 1 + 1 + 1 + 1) = 64 from rfl] at kc
  rw [kc]
  have lt3 : ∀ q, q < 256 → p3_8 (p2_8 (p1_8 q)) ≤ 8 := fun q hq => by
    rw [(g1_8 q hq).2.2.2]
    exact cnt_le _ 8
  rw [← (g1_8 a ha).2.2.2, ← (g1_8 b hb).2.2.2, ← (g1_8 c hc).2.2.2, ← (g1_8 d hd).2.2.2, ← (g1_8 e he).2.2.2, ← (g1_8 f hf).2.2.2, ← (g1_8 g hg).2.2.2, ← (g1_8 i hi).2.2.2]
  generalize hX0 : val8 [a, b, c, d, e, f, g, i] = X0 at *
  generalize hX1 : val8 [p1_8 a, p1_8 b, p1_8 c, p1_8 d, p1_8 e, p1_8 f, p1_8 g, p1_8 i] = X1 at *
  generalize hX2 : val8 [p2_8 (p1_8 a), p2_8 (p1_8 b), p2_8 (p1_8 c), p2_8 (p1_8 d), p2_8 (p1_8 e), p2_8 (p1_8 f), p2_8 (p1_8 g), p2_8 (p1_8 i)] = X2 at *
  have hl := last8 (lt3 a ha) (lt3 b hb) (lt3 c hc) (lt3 d hd) (lt3 e he) (lt3 f hf) (lt3 g hg) (lt3 i hi) _ _ _ _ rfl rfl rfl rfl
  generalize hX3 : val8 [p3_8 (p2_8 (p1_8 a)), p3_8 (p2_8 (p1_8 b)), p3_8 (p2_8 (p1_8 c)), p3_8 (p2_8 (p1_8 d)), p3_8 (p2_8 (p1_8 e)), p3_8 (p2_8 (p1_8 f)), p3_8 (p2_8 (p1_8 g)), p3_8 (p2_8 (p1_8 i))] = X3 at *
  have h1 : X1 < 2 ^ 64 := by omega
  have h2 : X2 < 2 ^ 64 := by
    simp only [val8] at hX2
    have := (g1_8 a ha).2.1; have := (g1_8 b hb).2.1; have := (g1_8 c hc).2.1; have := (g1_8 d hd).2.1
    have := (g1_8 e he).2.1; have := (g1_8 f hf).2.1; have := (g1_8 g hg).2.1; have := (g1_8 i hi).2.1
    omega
  have h3 : X3 < 2 ^ 64 := by omega
  have u1 := jN_ushr hx (show 1 < 64 by omega)
  have u2 := jN_ushr h1 (show 2 < 64 by omega)
  have u4 := jN_ushr h2 (show 4 < 64 by omega)
  have u8 := jN_ushr h3 (show 8 < 64 by omega)
  have u16 := jN_ushr hl.1 (show 16 < 64 by omega)
  have u32 := jN_ushr hl.2.1 (show 32 < 64 by omega)
  have t1 : lN X0 - (ushrJ (lN X0) (1 : Int32) &&& (6148914691236517205 : Int64)) = lN X1 := by
    rw [c5, li_1, u1, jN_and, lN_sub (Nat.le_trans Nat.and_le_left (Nat.div_le_self _ _)), ← k1]
  have t2 : (lN X1 &&& (3689348814741910323 : Int64)) + (ushrJ (lN X1) (2 : Int32) &&& (3689348814741910323 : Int64)) = lN X2 := by
    rw [c3, li_2, u2, jN_and, jN_and, lN_add, ← k2]
  have t3 : (lN X2 + ushrJ (lN X2) (4 : Int32)) &&& (1085102592571150095 : Int64) = lN X3 := by
    rw [cf, li_4, u4, lN_add, jN_and, ← k3]
  unfold fJ13_bitCount_95d88
  rw [t1, t2, t3, li_8, u8, lN_add, li_16, u16, lN_add, li_32, u32, lN_add, lN_i]
  congr 1
  rw [show (127 : Int32) = nI 127 from rfl]
  rw [and127, hl.2.2, Nat.add_zero]
