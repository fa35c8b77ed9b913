/-! SEMANTICS, SMALL METHODS OF BOTH -/
theorem within_ok (a lo hi : Int64) (M : Mem) : fX11_within a lo hi M = some (decide (lo.toInt ≤ a.toInt ∧ a.toInt ≤ hi.toInt)) := by
  unfold fX11_within fX11_within_b17
  by_cases h1 : a < lo
  · rw [if_pos h1, decide_eq_false]
    rw [Int64.lt_iff_toInt_lt] at h1
    omega
  · rw [if_neg h1]
    rw [Int64.lt_iff_toInt_lt] at h1
    by_cases h2 : hi < a
    · rw [if_pos h2, decide_eq_false]
      rw [Int64.lt_iff_toInt_lt] at h2
      omega
    · rw [if_neg h2, decide_eq_true]
      rw [Int64.lt_iff_toInt_lt] at h2
      omega
theorem w_int (v : Int32) : v.toInt64.toInt = v.toInt := Int32.toInt_toInt64 v
theorem w_nI {n : Nat} (h : n < 2 ^ 31) : (nI n).toInt64.toInt = (n : Int) := by rw [w_int, nI_toInt h]
theorem lj_toInt : (0 : Int64).toInt = 0 ∧ (1 : Int64).toInt = 1 ∧ (2 : Int64).toInt = 2 ∧ (3 : Int64).toInt = 3 ∧ (4 : Int64).toInt = 4 ∧ (6 : Int64).toInt = 6 ∧ (14 : Int64).toInt = 14 ∧ (20 : Int64).toInt = 20 ∧ (40 : Int64).toInt = 40 ∧ (64 : Int64).toInt = 64 ∧ (128 : Int64).toInt = 128 ∧ (999 : Int64).toInt = 999 := by decide
/-- between small numbers -/
theorem within_v (v : Int32) (lo hi : Int64) (a b : Int) (ha : lo.toInt = a) (hb : hi.toInt = b) (M : Mem) : fX11_within v.toInt64 lo hi M = some (decide (a ≤ v.toInt ∧ v.toInt ≤ b)) := by
  rw [within_ok, w_int, ha, hb]
theorem get_ok {r k : Nat} (M : Mem) (h : 1220 + 512 * r + k < 3268) : fX11_get 140 (nI r) (nI k) M = some (rq (M 141).1 r k) := by
  unfold fX11_get
  have e : (1220 : Int32) + ((512 : Int32) * nI r) + nI k = nI (1220 + 512 * r + k) := by rw [li_1220, li_512, pk_mul, nI_add, nI_add]
  rw [e, if_pos (inB_nI h (by decide)), nI_clamp (by omega)]
  rfl
theorem g0 {r : Nat} (h : r < 4) (M : Mem) : fX11_get 140 (nI r) (0 : Int32) M = some (rq (M 141).1 r 0) := get_ok M (k := 0) (by omega)
theorem g1 {r : Nat} (h : r < 4) (M : Mem) : fX11_get 140 (nI r) (1 : Int32) M = some (rq (M 141).1 r 1) := get_ok M (k := 1) (by omega)
theorem g2 {r : Nat} (h : r < 4) (M : Mem) : fX11_get 140 (nI r) (2 : Int32) M = some (rq (M 141).1 r 2) := get_ok M (k := 2) (by omega)
theorem g3 {r : Nat} (h : r < 4) (M : Mem) : fX11_get 140 (nI r) (3 : Int32) M = some (rq (M 141).1 r 3) := get_ok M (k := 3) (by omega)
theorem g4 {r : Nat} (h : r < 4) (M : Mem) : fX11_get 140 (nI r) (4 : Int32) M = some (rq (M 141).1 r 4) := get_ok M (k := 4) (by omega)
theorem g5 {r : Nat} (h : r < 4) (M : Mem) : fX11_get 140 (nI r) (5 : Int32) M = some (rq (M 141).1 r 5) := get_ok M (k := 5) (by omega)
theorem gcell {r j : Nat} (h : r < 4) (hj : j < 240) (M : Mem) : fX11_get 140 (nI r) ((10 : Int32) + nI j) M = some (rq (M 141).1 r (10 + j)) := by
  rw [li_10, nI_add]
  exact get_ok M (by omega)
theorem gput {r n : Nat} (h : r < 4) (hn : n < 256) (M : Mem) : fX11_get 140 (nI r) ((250 : Int32) + nI n) M = some (rq (M 141).1 r (250 + n)) := by
  rw [li_250, nI_add]
  exact get_ok M (by omega)
theorem set_ok {r k : Nat} (v : Int32) (M : Mem) (h : 1220 + 512 * r + k < 3268) : fX11_set 140 (nI r) (nI k) v M = some (wI M 141 (1220 + 512 * r + k) v) := by
  unfold fX11_set
  have e : (1220 : Int32) + ((512 : Int32) * nI r) + nI k = nI (1220 + 512 * r + k) := by rw [li_1220, li_512, pk_mul, nI_add, nI_add]
  rw [e, if_pos (inB_nI h (by decide)), nI_clamp (by omega)]
theorem isIn_ok {r n : Nat} (h : r < 4) (hn : n < 256) (M : Mem) : fX11_isIn 140 (nI r) (nI n) M = some (decide (rq (M 141).1 r (250 + n) = 1)) := by
  unfold fX11_isIn
  rw [gput h hn, Option.bind_some]
  by_cases q : rq (M 141).1 r (250 + n) = 1
  · rw [if_pos q, decide_eq_true q]
  · rw [if_neg q, decide_eq_false q]
theorem shr6 : ∀ n, n < 256 → shrI (nI n) (6 : Int32) = nI (n / 64) := by decide +kernel
theorem and63 : ∀ n, n < 256 → (nI n) &&& (63 : Int32) = nI (n % 64) := by decide +kernel
theorem has_ok {b n : Nat} (hn : n < 256) (M : Mem) : fX2_has b (nI n) M = some (bl (rJ M (b + 1) (n / 64)) (n % 64)) := by
  unfold fX2_has fX2_has_b36
  rw [if_neg (nI_pos (by omega)), if_neg (show ¬ (256 : Int32) ≤ nI n from nI_ge (b := 256) hn (by decide)), shr6 n hn, and63 n hn, if_pos (inB_nI (by omega) (by decide)), nI_clamp (by omega)]
  cases hb : bl (rJ M (b + 1) (n / 64)) (n % 64)
  · rw [if_pos ((bl_test _ (by omega)).mpr hb)]
  · rw [if_neg (fun q => by rw [bl_test _ (by omega)] at q; rw [q] at hb; cases hb)]
theorem rowAt_ok {M : Mem} {T : Nat → Int32} {W g m : Nat} (h : cSh M 1 T W g m) (v : Int32) :
    (fX10_rowAt 0 v M = some (.inl 1, M) ∧ ∀ M' : Mem, (M' 141).1 = T → fX11_isRow 140 v M' = some false) ∨
    (∃ r, r < 4 ∧ v = nI r ∧ here M (10 + 4 * r) T r W m ∧ fX10_rowAt 0 v M = some (.inr (10 + 4 * r), M) ∧ ∀ M' : Mem, (M' 141).1 = T → fX11_isRow 140 v M' = some true) := by
  unfold fX10_rowAt fX10_rowAt_b24 fX11_isRow fX11_isRow_b26
  obtain ⟨l0, _, _, l3, _⟩ := lj_toInt
  rcases int_cases v with ⟨h0, h1⟩ | ⟨r, hr, rfl⟩
  · refine Or.inl ⟨by rw [if_pos h1], fun M' _ => ?_⟩
    rw [within_v v 0 3 0 3 l0 l3, Option.bind_some, if_neg (by simp; omega)]
  · rw [if_neg (nI_pos hr)]
    rcases Nat.lt_or_ge r 4 with h4 | h4
    · rw [if_neg (show ¬ (4 : Int32) ≤ nI r from nI_ge (b := 4) h4 (by decide)), if_pos (inB_nI h4 (by decide)), nI_clamp hr]
      have ea : (0 + 1) + 8 + 1 + 4 * r = 10 + 4 * r := by omega
      rw [ea, if_pos (inB_nI h4 (by decide))]
      have hin : ∀ M' : Mem, fX11_within (nI r).toInt64 0 3 M' = some true := fun M' => by
        rw [within_v (nI r) 0 3 0 3 l0 l3, decide_eq_true (by rw [nI_toInt hr]; omega)]
      rcases h.2 r h4 with ⟨q1, q2⟩ | q
      · refine Or.inl ⟨by rw [show 1 + 9 + 4 * r = 10 + 4 * r by omega] at q1; rw [if_pos q1], fun M' e => ?_⟩
        rw [hin, Option.bind_some, if_pos rfl, g0 h4, e, q2, Option.bind_some, if_pos rfl]
      · rw [show 1 + 9 + 4 * r = 10 + 4 * r by omega] at q
        refine Or.inr ⟨r, h4, rfl, q, ?_, fun M' e => ?_⟩
        · rw [q.1, if_neg (by decide)]
        · obtain ⟨_, ⟨kd, _, _, _, _, ⟨hk, _⟩, ⟨hk4, _⟩, _⟩, _⟩ := q
          rw [hin, Option.bind_some, if_pos rfl, g0 h4, e, hk, Option.bind_some, if_neg]
          intro q
          have t := nI_toInt (n := kd) (by omega)
          rw [q] at t
          have : (-1 : Int32).toInt = -1 := by decide
          omega
    · refine Or.inl ⟨by rw [if_pos (show (4 : Int32) ≤ nI r from nI_le (a := 4) h4 hr)], fun M' _ => ?_⟩
      rw [within_v (nI r) 0 3 0 3 l0 l3, Option.bind_some, if_neg]
      simp only [decide_eq_true_eq]
      rw [nI_toInt hr]
      omega
theorem cSh.W {M : Mem} {T : Nat → Int32} {s W g m : Nat} (h : cSh M s T W g m) : 2 ≤ W ∧ W ≤ 256 ∧ T 1 = nI W ∧ rI M (s + 1) 1 = nI W := ⟨h.1.1.1, h.1.1.2.1, h.1.1.2.2.1, h.1.2.2.1⟩
theorem isName_ok {M : Mem} {T : Nat → Int32} {W g m : Nat} (h : cSh M 1 T W g m) (x : Int64) :
    fX10_isName 0 x M = some (decide (0 ≤ x.toInt ∧ x.toInt < W)) ∧ ∀ M' : Mem, (M' 141).1 = T → fX11_isName 140 x M' = some (decide (0 ≤ x.toInt ∧ x.toInt < W)) := by
  obtain ⟨hW2, hW, hT, hM⟩ := h.W
  obtain ⟨l0, _⟩ := lj_toInt
  constructor
  · unfold fX10_isName fX10_isName_b26
    have e : rI M (0 + 1 + 1) 1 = nI W := hM
    rw [e]
    by_cases h0 : x < (0 : Int64)
    · rw [if_pos h0, decide_eq_false]
      rw [Int64.lt_iff_toInt_lt] at h0
      omega
    · rw [if_neg h0]
      rw [Int64.lt_iff_toInt_lt] at h0
      by_cases h1 : (nI W).toInt64 ≤ x
      · rw [if_pos h1, decide_eq_false]
        rw [Int64.le_iff_toInt_le, w_nI (by omega)] at h1
        omega
      · rw [if_neg h1, decide_eq_true]
        rw [Int64.le_iff_toInt_le, w_nI (by omega)] at h1
        omega
  · intro M' e
    unfold fX11_isName
    have e1 : rI M' (140 + 1) (1 : Int32).toNatClampNeg = nI W := by rw [← hT, ← e]; rfl
    rw [if_pos (by decide), e1, within_ok, w_int, li_1, pk_sub (by omega), nI_toInt (by omega), l0, Option.bind_some]
    congr 2
    apply propext
    omega
theorem name_of {x : Int64} {W : Nat} (hW : W ≤ 256) (h : 0 ≤ x.toInt ∧ x.toInt < W) : ∃ n, n < W ∧ x = lN n ∧ x.toInt32 = nI n := by
  obtain ⟨n, hn⟩ : ∃ n : Nat, x.toInt = n := ⟨x.toInt.toNat, by omega⟩
  refine ⟨n, by omega, ?_, ?_⟩
  · apply Int64.toInt_inj.mp
    rw [lN_toInt (by omega), hn]
  · rw [show x = lN n from Int64.toInt_inj.mp (by rw [lN_toInt (by omega), hn]), lN_i]
theorem needName_ok {M : Mem} {T : Nat → Int32} {W g m : Nat} (h : cSh M 1 T W g m) (v : Int32) :
    (fX10_needName 0 v.toInt64 M = some (.inl 3, M) ∧ ∀ M' : Mem, (M' 141).1 = T → fX11_isName 140 v.toInt64 M' = some false) ∨
    (∃ n, n < W ∧ v = nI n ∧ fX10_needName 0 v.toInt64 M = some (.inr (), M) ∧ ∀ M' : Mem, (M' 141).1 = T → fX11_isName 140 v.toInt64 M' = some true) := by
  obtain ⟨h1, h2⟩ := isName_ok h v.toInt64
  unfold fX10_needName
  by_cases q : 0 ≤ v.toInt64.toInt ∧ v.toInt64.toInt < W
  · rw [decide_eq_true q] at h1 h2
    obtain ⟨n, hn, hx, _⟩ := name_of h.W.2.1 q
    refine Or.inr ⟨n, hn, ?_, by rw [h1]; rfl, h2⟩
    rw [w_int] at q
    obtain ⟨k, hk, rfl⟩ : ∃ k : Nat, k < 2 ^ 31 ∧ v = nI k := by
      rcases int_cases v with ⟨t, _⟩ | t
      · omega
      · exact t
    rw [nI_l hk, lN_eq hk (by have := h.W.2.1; omega)] at hx
    rw [hx]
  · rw [decide_eq_false q] at h1 h2
    exact Or.inl ⟨by rw [h1]; rfl, h2⟩
theorem need_of {M : Mem} {T : Nat → Int32} {W g m : Nat} (h : cSh M 1 T W g m) (x : Int64) : (fX10_needName 0 x M = if 0 ≤ x.toInt ∧ x.toInt < W then some (.inr (), M) else some (.inl 3, M)) := by
  unfold fX10_needName
  rw [(isName_ok h x).1]
  by_cases q : 0 ≤ x.toInt ∧ x.toInt < W
  · rw [decide_eq_true q, if_pos q]; rfl
  · rw [decide_eq_false q, if_neg q]; rfl
