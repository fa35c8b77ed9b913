/-! SEMANTICS: one row changes; make -/
theorem rel_row {M M2 : Mem} {W g m r : Nat} (hR : Rel M) (hS : cSh M 1 (M 141).1 W g m) (hr : r < 4)
    (hq : ∀ a, a ∉ scr → a ≠ 140 → a ≠ 141 → (a < 10 + 4 * r ∨ 14 + 4 * r ≤ a) → M2 a = M a) (hk : ∀ k, k ≠ 5 → rI M2 140 k = rI M 140 k)
    (hT : ∀ k, (k < 1220 + 512 * r ∨ 1220 + 512 * r + 512 ≤ k) → rI M2 141 k = rI M 141 k)
    (hn : gone M2 (10 + 4 * r) (M2 141).1 r ∨ here M2 (10 + 4 * r) (M2 141).1 r W m) : Rel M2 := by
  obtain ⟨_, hI, hTr, hP, hA⟩ := hR
  have e : ∀ a, a ≤ 111 ∨ a = 119 ∨ a = 143 ∨ a = 145 ∨ a = 146 ∨ 162 ≤ a ∧ a ≤ 164 → a ≠ 8 → (a < 10 + 4 * r ∨ 14 + 4 * r ≤ a) → M2 a = M a := fun a h8 h9 h10 => hq a (scr_no (by omega) h9) (by omega) (by omega) h10
  have eT : ∀ k, k < 1220 → (M2 141).1 k = (M 141).1 k := fun k hk => hT k (by omega)
  refine ⟨⟨W, g, m, cRu_cong eT (hS.1.moved (fun a h1 h2 => e a (by omega) (by omega) (by omega))), fun r' hr' => ?_⟩, relI_mv hI (fun a h1 h2 => e a (by omega) (by omega) (by omega)) (eqs_rI (e 0 (by omega) (by omega) (by omega)) _) (e 143 (by omega) (by omega) (by omega)) (e 145 (by omega) (by omega) (by omega)), relT_iff.mpr (fun t ht => trS_mv (relT_iff.mp hTr t ht) (e _ (by omega) (by omega) (by omega)) (e _ (by omega) (by omega) (by omega)) (eqs_rI (e 162 (by omega) (by omega) (by omega)) _) (eqs_rI (e 163 (by omega) (by omega) (by omega)) _) (fun j _ => eqs_rJ (e 164 (by omega) (by omega) (by omega)) _)), relP_mv hP (eqs_rI (e 111 (by omega) (by omega) (by omega)) _) (hk 7 (by omega)) (e 146 (by omega) (by omega) (by omega)) (e 119 (by omega) (by omega) (by omega)), relA_mv hA (e 0 (by omega) (by omega) (by omega)) (fun k h _ => hk k h)⟩
  rw [show 1 + 9 + 4 * r' = 10 + 4 * r' by omega]
  by_cases q : r' = r
  · rw [q]; exact hn
  · have er : ∀ k, k < 512 → rq (M2 141).1 r' k = rq (M 141).1 r' k := fun k hk => hT _ (by omega)
    have hold := hS.2 r' hr'
    rw [show 1 + 9 + 4 * r' = 10 + 4 * r' by omega] at hold
    have hmv := row.moved (M' := M2) hold (fun a h1 h2 => e a (by omega) (by omega) (by omega))
    rcases hmv with ⟨z1, z2⟩ | ⟨z1, ⟨kd, sz, mk, ex, ly, z2⟩, z3⟩
    · exact Or.inl ⟨z1, by rw [er 0 (by omega)]; exact z2⟩
    · exact Or.inr ⟨z1, ⟨kd, sz, mk, ex, ly, roT_congR er z2⟩, cRo_congR er z3⟩
theorem ti_0 : (0 : Int32).toInt = 0 := rfl
theorem ti_1 : (1 : Int32).toInt = 1 := rfl
theorem ti_2 : (2 : Int32).toInt = 2 := rfl
theorem ti_3 : (3 : Int32).toInt = 3 := rfl
theorem ti_4 : (4 : Int32).toInt = 4 := rfl
theorem ti_16 : (16 : Int32).toInt = 16 := rfl
theorem ti_20 : (20 : Int32).toInt = 20 := rfl
theorem ti_64 : (64 : Int32).toInt = 64 := rfl
def mkP1 (m : Nat) (kd sz mk : Int32) : Prop := 0 ≤ kd.toInt ∧ kd.toInt ≤ 4 ∧ 1 ≤ sz.toInt ∧ sz.toInt ≤ 64 ∧ (kd.toInt = 2 ∨ kd.toInt = 3 → sz.toInt ≤ 16) ∧ 1 ≤ mk.toInt ∧ mk.toInt ≤ m ∧ (kd.toInt = 2 → mk.toInt = 2) ∧ (kd.toInt = 4 → mk.toInt ≤ 3)
def mkP2 (kd ex : Int32) : Prop := (kd.toInt = 2 → 1 ≤ ex.toInt ∧ ex.toInt ≤ 4) ∧ (kd.toInt = 3 → 1 ≤ ex.toInt ∧ ex.toInt ≤ 20) ∧ (kd.toInt ≠ 2 → kd.toInt ≠ 3 → ex.toInt = 0)
theorem lt0 (v : Int32) : v < 0 ↔ v.toInt < 0 := by rw [Int32.lt_iff_toInt_lt, ti_0]
theorem lt1 (v : Int32) : v < 1 ↔ v.toInt < 1 := by rw [Int32.lt_iff_toInt_lt, ti_1]
theorem eqc (v c : Int32) (k : Int) (h : c.toInt = k) : v = c ↔ v.toInt = k := by rw [← h, Int32.toInt_inj]
theorem gtc (v c : Int32) (k : Int) (h : c.toInt = k) : c < v ↔ k < v.toInt := by rw [← h, Int32.lt_iff_toInt_lt]
theorem b33_ok {M : Mem} {m : Nat} (hm : m ≤ 6) (h3 : rI M 2 3 = nI m) (kd sz mk s0 : Int32) : fX10_canBe_b33 0 kd sz mk s0 M = some (bo (1 ≤ sz.toInt ∧ sz.toInt ≤ s0.toInt ∧ 1 ≤ mk.toInt ∧ mk.toInt ≤ m ∧ (kd.toInt = 2 → mk.toInt = 2) ∧ (kd.toInt = 4 → mk.toInt ≤ 3))) := by
  have e3 : rI M (0 + 1 + 1) 3 = nI m := h3
  unfold fX10_canBe_b33 fX10_canBe_b65 fX10_canBe_b95
  rw [e3]
  by_cases c1 : sz.toInt < 1
  · rw [if_pos ((lt1 sz).mpr c1), bo_f (by omega)]
  · rw [if_neg (fun z => c1 ((lt1 sz).mp z))]
    by_cases c2 : s0.toInt < sz.toInt
    · rw [if_pos (Int32.lt_iff_toInt_lt.mpr c2), bo_f (by omega)]
    · rw [if_neg (fun z => c2 (Int32.lt_iff_toInt_lt.mp z))]
      by_cases c3 : mk.toInt < 1
      · rw [if_pos ((lt1 mk).mpr c3), bo_f (by omega)]
      · rw [if_neg (fun z => c3 ((lt1 mk).mp z))]
        have hle : mk ≤ nI m ↔ mk.toInt ≤ m := by rw [Int32.le_iff_toInt_le, nI_toInt (by omega)]
        by_cases c4 : mk.toInt ≤ m
        · rw [if_pos (hle.mpr c4)]
          by_cases c5 : kd.toInt = 2
          · rw [if_pos ((eqc kd 2 2 ti_2).mpr c5)]
            by_cases c6 : mk.toInt = 2
            · rw [if_pos ((eqc mk 2 2 ti_2).mpr c6), bo_t (by omega)]
            · rw [if_neg (fun z => c6 ((eqc mk 2 2 ti_2).mp z)), bo_f (by omega)]
          · rw [if_neg (fun z => c5 ((eqc kd 2 2 ti_2).mp z))]
            by_cases c6 : kd.toInt = 4
            · rw [if_pos ((eqc kd 4 4 ti_4).mpr c6)]
              by_cases c7 : 3 < mk.toInt
              · rw [if_pos ((gtc mk 3 3 ti_3).mpr c7), bo_f (by omega)]
              · rw [if_neg (fun z => c7 ((gtc mk 3 3 ti_3).mp z)), bo_t (by omega)]
            · rw [if_neg (fun z => c6 ((eqc kd 4 4 ti_4).mp z)), bo_t (by omega)]
        · rw [if_neg (fun z => c4 (hle.mp z)), bo_f (by omega)]
theorem bo_cong {P Q : Prop} (h : P ↔ Q) : bo P = bo Q := by rw [propext h]
theorem canBe_ok {M : Mem} {m : Nat} (hm : m ≤ 6) (h3 : rI M 2 3 = nI m) (kd sz mk : Int32) : fX10_canBe 0 kd sz mk M = some (bo (mkP1 m kd sz mk)) := by
  unfold fX10_canBe fX10_canBe_b9
  rw [b33_ok hm h3, b33_ok hm h3, ti_16, ti_64]
  unfold mkP1
  by_cases c1 : kd.toInt < 0
  · rw [if_pos ((lt0 kd).mpr c1), bo_f (by omega)]
  · rw [if_neg (fun z => c1 ((lt0 kd).mp z))]
    by_cases c2 : kd.toInt ≤ 4
    · rw [if_pos (Int32.le_iff_toInt_le.mpr c2)]
      by_cases c5 : kd.toInt = 2
      · rw [if_pos ((eqc kd 2 2 ti_2).mpr c5)]
        exact congrArg some (bo_cong (by omega))
      · rw [if_neg (fun z => c5 ((eqc kd 2 2 ti_2).mp z))]
        by_cases c6 : kd.toInt = 3
        · rw [if_pos ((eqc kd 3 3 ti_3).mpr c6)]
          exact congrArg some (bo_cong (by omega))
        · rw [if_neg (fun z => c6 ((eqc kd 3 3 ti_3).mp z))]
          exact congrArg some (bo_cong (by omega))
    · rw [if_neg (fun z => c2 (Int32.le_iff_toInt_le.mp z)), bo_f (by omega)]
theorem fits_ok {M : Mem} (kd ex : Int32) : fX10_extraFits kd ex M = some (bo (mkP2 kd ex)) := by
  unfold fX10_extraFits fX10_extraFits_b42 fX10_extraFits_b59 mkP2
  by_cases c2 : kd.toInt = 2
  · rw [if_pos ((eqc kd 2 2 ti_2).mpr c2)]
    by_cases q : ex.toInt < 1
    · rw [if_pos ((lt1 ex).mpr q), bo_f (by omega)]
    · rw [if_neg (fun z => q ((lt1 ex).mp z))]
      by_cases q2 : 4 < ex.toInt
      · rw [if_pos ((gtc ex 4 4 ti_4).mpr q2), bo_f (by omega)]
      · rw [if_neg (fun z => q2 ((gtc ex 4 4 ti_4).mp z)), bo_t (by omega)]
  · rw [if_neg (fun z => c2 ((eqc kd 2 2 ti_2).mp z))]
    by_cases c3 : kd.toInt = 3
    · rw [if_pos ((eqc kd 3 3 ti_3).mpr c3)]
      by_cases q : ex.toInt < 1
      · rw [if_pos ((lt1 ex).mpr q), bo_f (by omega)]
      · rw [if_neg (fun z => q ((lt1 ex).mp z))]
        by_cases q2 : 20 < ex.toInt
        · rw [if_pos ((gtc ex 20 20 ti_20).mpr q2), bo_f (by omega)]
        · rw [if_neg (fun z => q2 ((gtc ex 20 20 ti_20).mp z)), bo_t (by omega)]
    · rw [if_neg (fun z => c3 ((eqc kd 3 3 ti_3).mp z))]
      by_cases q : ex.toInt = 0
      · rw [if_pos ((eqc ex 0 0 ti_0).mpr q), bo_t (by omega)]
      · rw [if_neg (fun z => q ((eqc ex 0 0 ti_0).mp z)), bo_f (by omega)]
theorem all_ok (kd : Int32) (M : Mem) : fX11_all 140 kd M = some (if kd.toInt = 2 ∨ kd.toInt = 3 then 16 else 64) := by
  unfold fX11_all fX11_all_b10
  simp only [← Int32.toInt_inj, ti_2, ti_3]
  by_cases h2 : kd.toInt = 2
  · rw [if_pos h2, if_pos (Or.inl h2)]
  · by_cases h3 : kd.toInt = 3
    · rw [if_neg h2, if_pos h3, if_pos (Or.inr h3)]
    · rw [if_neg h2, if_neg h3, if_neg (by omega)]
theorem b103_ok {N : Nat} {M : Mem} (a1 kd sz mk ex : Int32) (b : Bool) : fX11_make_b103 N 140 a1 kd sz mk ex b M = fX11_make_b162 N 140 a1 kd sz mk ex (bo (b = true ∧ mkP2 kd ex)) M := by
  obtain ⟨l0, l1, _, _, l4, _, _, l20, _⟩ := lj_toInt
  unfold fX11_make_b103 fX11_make_b157 fX11_make_b161
  cases b with
  | false => rw [if_neg (by decide), bo_f (fun z => by cases z.1)]
  | true =>
    rw [if_pos rfl, within_v ex 1 4 1 4 l1 l4, within_v ex 1 20 1 20 l1 l20, Option.bind_some, Option.bind_some]
    unfold mkP2
    by_cases c2 : kd.toInt = 2
    · rw [if_pos ((eqc kd 2 2 ti_2).mpr c2)]
      by_cases q : 1 ≤ ex.toInt ∧ ex.toInt ≤ 4
      · rw [decide_eq_true q, if_pos rfl, bo_t ⟨rfl, by omega⟩]
      · rw [decide_eq_false q, if_neg (by decide), bo_f (by omega)]
    · rw [if_neg (fun z => c2 ((eqc kd 2 2 ti_2).mp z))]
      by_cases c3 : kd.toInt = 3
      · rw [if_pos ((eqc kd 3 3 ti_3).mpr c3)]
        by_cases q : 1 ≤ ex.toInt ∧ ex.toInt ≤ 20
        · rw [decide_eq_true q, if_pos rfl, bo_t ⟨rfl, by omega⟩]
        · rw [decide_eq_false q, if_neg (by decide), bo_f (by omega)]
      · rw [if_neg (fun z => c3 ((eqc kd 3 3 ti_3).mp z))]
        by_cases q : ex.toInt = 0
        · rw [if_pos ((eqc ex 0 0 ti_0).mpr q), bo_t ⟨rfl, by omega⟩]
        · rw [if_neg (fun z => q ((eqc ex 0 0 ti_0).mp z)), bo_f (by omega)]
theorem mkB_ok {N : Nat} {M : Mem} {m : Nat} (a1 kd sz mk ex s0 : Int32) (hs : s0.toInt = if kd.toInt = 4 then min 3 (m : Int) else m) :
    fX11_make_b45 N 140 a1 kd sz mk ex s0 M = fX11_make_b162 N 140 a1 kd sz mk ex (bo (mkP1 m kd sz mk ∧ mkP2 kd ex)) M := by
  obtain ⟨l0, l1, _, _, l4, _, _, l20, _⟩ := lj_toInt
  have h16 : (if kd.toInt = 2 ∨ kd.toInt = 3 then (16 : Int32) else 64).toInt = if kd.toInt = 2 ∨ kd.toInt = 3 then 16 else 64 := by split <;> rfl
  unfold fX11_make_b45 fX11_make_b98 fX11_make_b102
  rw [within_v kd 0 4 0 4 l0 l4, all_ok, Option.bind_some, b103_ok, b103_ok]
  have hbad : ¬ mkP1 m kd sz mk → bo (false = true ∧ mkP2 kd ex) = bo (mkP1 m kd sz mk ∧ mkP2 kd ex) := fun h => bo_cong (by simp [h])
  have hgood : mkP1 m kd sz mk → bo (true = true ∧ mkP2 kd ex) = bo (mkP1 m kd sz mk ∧ mkP2 kd ex) := fun h => bo_cong (by simp [h])
  unfold mkP1 at hbad hgood ⊢
  by_cases c0 : 0 ≤ kd.toInt ∧ kd.toInt ≤ 4
  · rw [decide_eq_true c0, if_pos rfl, Option.bind_some, within_ok, w_int, w_int, l1, Option.bind_some, h16]
    by_cases c1 : 1 ≤ sz.toInt ∧ sz.toInt ≤ if kd.toInt = 2 ∨ kd.toInt = 3 then 16 else 64
    · rw [decide_eq_true c1, if_pos rfl, within_ok, w_int, w_int, l1, Option.bind_some, hs]
      by_cases c2 : 1 ≤ mk.toInt ∧ mk.toInt ≤ if kd.toInt = 4 then min 3 (m : Int) else m
      · rw [decide_eq_true c2, if_pos rfl]
        by_cases c3 : kd.toInt = 2
        · rw [if_pos ((eqc kd 2 2 ti_2).mpr c3)]
          by_cases c4 : mk.toInt = 2
          · rw [if_pos ((eqc mk 2 2 ti_2).mpr c4), hgood]
            split at c1 <;> split at c2 <;> omega
          · rw [if_neg (fun z => c4 ((eqc mk 2 2 ti_2).mp z)), hbad (by omega)]
        · rw [if_neg (fun z => c3 ((eqc kd 2 2 ti_2).mp z)), hgood]
          split at c1 <;> split at c2 <;> omega
      · rw [decide_eq_false c2, if_neg (by decide), hbad]
        split at c1 <;> split at c2 <;> omega
    · rw [decide_eq_false c1, if_neg (by decide), hbad]
      split at c1 <;> omega
  · rw [decide_eq_false c0, if_neg (by decide), hbad (by omega)]
theorem mk162 {N : Nat} {M : Mem} {m : Nat} (hm : m ≤ 6) (hT : rI M 141 3 = nI m) (a1 kd sz mk ex : Int32) (b : Bool) : fX11_make_b18 N 140 a1 kd sz mk ex b 140 M = fX11_make_b162 N 140 a1 kd sz mk ex (bo (mkP1 m kd sz mk ∧ mkP2 kd ex)) (wI M 140 5 (bI b)) := by
  have e : rI (wI M 140 5 (bI b)) (140 + 1) (3 : Int32).toNatClampNeg = nI m := by
    rw [← hT, rI_wI, if_neg (by omega)]
    rfl
  unfold fX11_make_b18
  rw [e, if_pos (show inB (3 : Int32) 3268 = true by decide), if_pos (show inB (3 : Int32) 3268 = true by decide)]
  by_cases c : kd.toInt = 4
  · rw [if_pos ((eqc kd 4 4 ti_4).mpr c)]
    refine mkB_ok (m := m) a1 kd sz mk ex _ ?_
    rw [if_pos c]
    unfold minI
    by_cases q : nI m < 3
    · rw [if_pos q, nI_toInt (by omega)]
      rw [Int32.lt_iff_toInt_lt, nI_toInt (by omega), ti_3] at q
      omega
    · rw [if_neg q, ti_3]
      rw [Int32.lt_iff_toInt_lt, nI_toInt (by omega), ti_3] at q
      omega
  · rw [if_neg (fun z => c ((eqc kd 4 4 ti_4).mp z))]
    refine mkB_ok (m := m) a1 kd sz mk ex _ ?_
    rw [if_neg c, nI_toInt (by omega)]
theorem ag_make {N : Nat} (hN : 700 ≤ N) (a1 a2 a3 a4 a5 : Int32) (M : Mem) (hR : Rel M) : agV (fX10_make N 0 a1 a2 a3 a4 a5 M) (fX11_make N 140 a1 a2 a3 a4 a5) (fun k Mj1 => if k = 1 then some ((1 : Int32), Mj1) else if k = 3 then some ((2 : Int32), Mj1) else none) M := by
  obtain ⟨W, g, m, hS⟩ := hR.1
  obtain ⟨l0, _, _, l3, _⟩ := lj_toInt
  have hm : m ≤ 6 := hS.1.1.2.2.2.2.2.2.1
  have hT3 : rI M 141 3 = nI m := hS.1.1.2.2.2.2.2.2.2.1
  have h3 : rI M 2 3 = nI m := hS.1.2.2.2.2.1
  by_cases hr : 0 ≤ a1.toInt ∧ a1.toInt ≤ 3
  · obtain ⟨r, hr2, rfl⟩ : ∃ j : Nat, j < 2 ^ 31 ∧ a1 = nI j := by
      rcases int_cases a1 with ⟨z, _⟩ | z
      · omega
      · exact z
    rw [nI_toInt hr2] at hr
    have hr4 : r < 4 := by omega
    have hcl : fX10_make N 0 (nI r) a2 a3 a4 a5 M = if bo (mkP1 m a2 a3 a4) = true then if bo (mkP2 a2 a5) = true then (fX5_begin N (10 + 4 * r) a2 a3 a4 a5 M).bind fun qj7 => some (.inr (), qj7) else some (.inl 3, M) else some (.inl 3, M) := by
      unfold fX10_make fX10_make_b39
      rw [if_neg (nI_pos hr2), if_pos (show nI r < (4 : Int32) from nI_lt (b := 4) hr4 (by decide)), canBe_ok hm h3, Option.bind_some, fits_ok, Option.bind_some, if_pos (inB_nI hr4 (by decide)), nI_clamp hr2, show 0 + 1 + 8 + 1 + 4 * r = 10 + 4 * r by omega]
    by_cases hP : mkP1 m a2 a3 a4 ∧ mkP2 a2 a5
    · obtain ⟨hP1, hP2⟩ := hP
      have nn : ∀ v : Int32, 0 ≤ v.toInt → ∃ j : Nat, j < 2 ^ 31 ∧ v = nI j := fun v hv => by
        rcases int_cases v with ⟨z, _⟩ | z
        · omega
        · exact z
      obtain ⟨kd, hkd, rfl⟩ := nn a2 hP1.1
      obtain ⟨sz, hsz, rfl⟩ := nn a3 (by unfold mkP1 at hP1; omega)
      obtain ⟨mk, hmk, rfl⟩ := nn a4 (by unfold mkP1 at hP1; omega)
      obtain ⟨ex, hex, rfl⟩ := nn a5 (by unfold mkP2 at hP2; omega)
      have hPP1 := hP1
      have hPP2 := hP2
      unfold mkP1 at hPP1
      unfold mkP2 at hPP2
      simp only [nI_toInt hkd, nI_toInt hsz, nI_toInt hmk] at hPP1
      simp only [nI_toInt hkd, nI_toInt hex] at hPP2
      generalize hM1 : fillI (fillJ (wI (wI (wI (wI (wI (wI (wI (wI M (10 + 4 * r) 0 (1 : Int32)) (10 + 4 * r) 1 (nI kd)) (10 + 4 * r) 2 (nI sz)) (10 + 4 * r) 3 (nI mk)) (10 + 4 * r) 4 (nI ex)) (10 + 4 * r) 5 (1 : Int32)) (10 + 4 * r) 6 (0 : Int32)) (10 + 4 * r) 7 (0 : Int32)) (12 + 4 * r) 4 (0 : Int64)) (13 + 4 * r) 240 (0 : Int32) = M1
      have F1 : smF [10 + 4 * r, 12 + 4 * r, 13 + 4 * r] M M1 := by
        rw [← hM1]
        exact (((((((((smF.refl.pI_ (by simp) _ _).pI_ (by simp) _ _).pI_ (by simp) _ _).pI_ (by simp) _ _).pI_ (by simp) _ _).pI_ (by simp) _ _).pI_ (by simp) _ _).pI_ (by simp) _ _).pJs_ (by simp) _).pIs_ (by simp) _
      refine Or.inr ⟨M1, ?_, ?_⟩
      · rw [hcl, bo_t hP1, if_pos rfl, bo_t hP2, if_pos rfl]
        unfold fX5_begin fX2_clear fX5_clearCells
        rw [Option.bind_some, Option.bind_some, Option.bind_some, Option.bind_some, Option.bind_some, ← hM1, show 10 + 4 * r + 1 + 1 = 12 + 4 * r by omega, show 10 + 4 * r + 3 = 13 + 4 * r by omega]
      · unfold fX11_make
        have hT3' : rI M1 141 3 = nI m := by rw [F1.I_ (by simp; omega), hT3]
        rw [within_v (nI r) 0 3 0 3 l0 l3, nI_toInt hr2, decide_eq_true hr, Option.bind_some, if_pos rfl, mk162 hm hT3', bo_t ⟨hP1, hP2⟩]
        unfold fX11_make_b162 fX11_make_b181
        rw [w5_5, if_pos (by decide), if_pos rfl, if_pos (by decide)]
        generalize hM2 : wI M1 140 5 (bI false) = M2
        have F2 : smF [140] M1 M2 := by rw [← hM2]; exact smF.refl.pI_ (by simp) _ _
        refine yo_f2 (F := fX11_make_l192 N 140 (nI r) (nI kd) (nI sz) (nI mk) (nI ex)) 512 (fun k v M' => v = nI k ∧ smF [141] M2 M' ∧ ∀ z, rI M' 141 z = if 1220 + 512 * r ≤ z ∧ z < 1220 + 512 * r + k then 0 else rI M2 141 z) ?_ N 0 _ _ (by omega) (by omega) ⟨rfl, smF.refl, fun z => by rw [if_neg (by omega)]⟩
        intro f k v M' hk ⟨hv, g1, g2⟩ ih
        subst hv
        show Yo (fX11_make_l192_s N 140 (nI r) (nI kd) (nI sz) (nI mk) (nI ex) (fX11_make_l192 N 140 (nI r) (nI kd) (nI sz) (nI mk) (nI ex) f) (nI k) M') _
        unfold fX11_make_l192_s
        rcases Nat.lt_or_ge k 512 with hlt | hge
        · rw [if_neg (show ¬ (512 : Int32) ≤ nI k from nI_ge (b := 512) hlt (by decide)), set_ok _ _ (by omega), Option.bind_some, nI_1]
          refine ih _ _ hlt ⟨rfl, g1.pI_ (by simp) _ _, fun z => ?_⟩
          rw [rI_wI, g2 z]
          by_cases q : z = 1220 + 512 * r + k
          · rw [if_pos ⟨rfl, q⟩, if_pos (by omega)]
          · rw [if_neg (fun y => q y.2)]
            by_cases q2 : 1220 + 512 * r ≤ z ∧ z < 1220 + 512 * r + k
            · rw [if_pos q2, if_pos (by omega)]
            · rw [if_neg q2, if_neg (by omega)]
        · have hk5 : k = 512 := by omega
          subst hk5
          rw [if_pos (show (512 : Int32) ≤ nI 512 by decide), show (0 : Int32) = nI 0 from rfl, set_ok _ _ (by omega), Option.bind_some, show (1 : Int32) = nI 1 from rfl, set_ok _ _ (by omega), Option.bind_some, show (2 : Int32) = nI 2 from rfl, set_ok _ _ (by omega), Option.bind_some, show (3 : Int32) = nI 3 from rfl, set_ok _ _ (by omega), Option.bind_some, show (4 : Int32) = nI 4 from rfl, set_ok _ _ (by omega), Option.bind_some, yo_s]
          generalize hM3 : wI (wI (wI (wI (wI M' 141 (1220 + 512 * r + 0) (nI kd)) 141 (1220 + 512 * r + 1) (nI sz)) 141 (1220 + 512 * r + 2) (nI mk)) 141 (1220 + 512 * r + 3) (nI ex)) 141 (1220 + 512 * r + 4) (nI 1) = M3
          have F3 : smF [141] M2 M3 := by
            rw [← hM3]
            exact ((((g1.pI_ (by simp) _ _).pI_ (by simp) _ _).pI_ (by simp) _ _).pI_ (by simp) _ _).pI_ (by simp) _ _
          have v5 : ∀ k, 5 ≤ k → k < 512 → rq (M3 141).1 r k = 0 := fun k h1 h2 => by
            show rI M3 141 (1220 + 512 * r + k) = 0
            rw [← hM3, rI_wI, if_neg (by omega), rI_wI, if_neg (by omega), rI_wI, if_neg (by omega), rI_wI, if_neg (by omega), rI_wI, if_neg (by omega), g2, if_pos (by omega)]
          have v0 : rq (M3 141).1 r 0 = nI kd := by
            show rI M3 141 (1220 + 512 * r + 0) = _
            rw [← hM3, rI_wI, if_neg (by omega), rI_wI, if_neg (by omega), rI_wI, if_neg (by omega), rI_wI, if_neg (by omega), rI_wI, if_pos ⟨rfl, rfl⟩]
          have v1 : rq (M3 141).1 r 1 = nI sz := by
            show rI M3 141 (1220 + 512 * r + 1) = _
            rw [← hM3, rI_wI, if_neg (by omega), rI_wI, if_neg (by omega), rI_wI, if_neg (by omega), rI_wI, if_pos ⟨rfl, rfl⟩]
          have v2 : rq (M3 141).1 r 2 = nI mk := by
            show rI M3 141 (1220 + 512 * r + 2) = _
            rw [← hM3, rI_wI, if_neg (by omega), rI_wI, if_neg (by omega), rI_wI, if_pos ⟨rfl, rfl⟩]
          have v3 : rq (M3 141).1 r 3 = nI ex := by
            show rI M3 141 (1220 + 512 * r + 3) = _
            rw [← hM3, rI_wI, if_neg (by omega), rI_wI, if_pos ⟨rfl, rfl⟩]
          have v4 : rq (M3 141).1 r 4 = nI 1 := by
            show rI M3 141 (1220 + 512 * r + 4) = _
            rw [← hM3, rI_wI, if_pos ⟨rfl, rfl⟩]
          have E : ∀ a, a ≠ 140 → a ≠ 141 → M3 a = M1 a := fun a h1 h2 => by rw [F3 a (by simpa using h2), F2 a (by simpa using h1)]
          have c8 : ∀ k, k < 8 → rI M3 (10 + 4 * r) k = rI (wI (wI (wI (wI (wI (wI (wI (wI M (10 + 4 * r) 0 (1 : Int32)) (10 + 4 * r) 1 (nI kd)) (10 + 4 * r) 2 (nI sz)) (10 + 4 * r) 3 (nI mk)) (10 + 4 * r) 4 (nI ex)) (10 + 4 * r) 5 (1 : Int32)) (10 + 4 * r) 6 (0 : Int32)) (10 + 4 * r) 7 (0 : Int32)) (10 + 4 * r) k := fun k hk => by
            rw [eqs_rI (E _ (by omega) (by omega)), ← hM1, rI_fillI, if_neg (by omega), rI_fillJ]
          refine ⟨?_, rel_row hR hS hr4 (fun a h1 h2 h3 h4 => ?_) (fun k hk => ?_) (fun k hk => ?_) (Or.inr ⟨?_, ⟨kd, sz, mk, ex, 1, ⟨v0, v1, v2, v3, v4⟩, by omega, ⟨fun n hn => Or.inl (v5 _ (by omega) (by omega)), fun n h1 h2 => v5 _ (by omega) (by omega)⟩, ⟨fun _ j hj => Or.inl (v5 _ (by omega) (by omega)), fun _ j hj => ⟨0, by omega, v5 _ (by omega) (by omega)⟩, fun _ j hj => Or.inl (v5 _ (by omega) (by omega)), fun _ j h1 h2 => v5 _ (by omega) (by omega), fun _ => ⟨⟨0, by omega, v5 _ (by omega) (by omega)⟩, fun l h1 h2 => v5 _ (by omega) (by omega)⟩⟩, 0, by omega, v5 _ (by omega) (by omega)⟩, ⟨?_, ?_, ?_, ?_, ?_, ?_⟩, fun _ ly h4 hly => ?_, fun j hj => ?_, fun n hn => ?_⟩)⟩
          · rw [F3.I_ (by simp), ← hM2, w5_5]
            rfl
          · rw [E a h2 h3, F1 a (by simp; omega)]
          · rw [F3.I_ (by simp), ← hM2, rI_wI, if_neg (by omega), F1.I_ (by simp; omega)]
          · rw [← hM3, rI_wI, if_neg (by omega), rI_wI, if_neg (by omega), rI_wI, if_neg (by omega), rI_wI, if_neg (by omega), rI_wI, if_neg (by omega), g2, if_neg (by omega), F2.I_ (by simp), F1.I_ (by simp; omega)]
          · rw [c8 0 (by omega)]; simp [rI_wI]
          · rw [c8 1 (by omega), v0]; simp [rI_wI]
          · rw [c8 2 (by omega), v1]; simp [rI_wI]
          · rw [c8 3 (by omega), v2]; simp [rI_wI]
          · rw [c8 4 (by omega), v3]; simp [rI_wI]
          · rw [c8 5 (by omega), v4]; simp [rI_wI]; rfl
          · rw [c8 6 (by omega), v5 5 (by omega) (by omega)]; simp [rI_wI]
          · rw [c8 7 (by omega), v5 _ (by omega) (by omega)]; simp [rI_wI]
          · rw [show 10 + 4 * r + 3 = 13 + 4 * r by omega, eqs_rI (E _ (by omega) (by omega)), ← hM1, rI_fillI, if_pos ⟨rfl, hj⟩, v5 _ (by omega) (by omega)]
          · rw [show 10 + 4 * r + 2 = 12 + 4 * r by omega, eqs_rJ (E _ (by omega) (by omega)), ← hM1, rJ_fillI, rJ_fillJ, if_pos ⟨rfl, by omega⟩, bl_0, v5 _ (by omega) (by omega)]
            rfl
    · refine refV hR (e := 3) 2 ?_ rfl ?_
      · rw [hcl]
        by_cases q : mkP1 m a2 a3 a4
        · rw [bo_t q, if_pos rfl, bo_f (fun z => hP ⟨q, z⟩), if_neg (by decide)]
        · rw [bo_f q, if_neg (by decide)]
      · unfold fX11_make
        rw [within_v (nI r) 0 3 0 3 l0 l3, nI_toInt hr2, decide_eq_true hr, Option.bind_some, if_pos rfl, mk162 hm hT3, bo_f hP]
        unfold fX11_make_b162 fX11_make_b181
        rw [w5_5, if_pos (by decide), if_neg (by decide), w5_5, if_neg (by decide), yo_s, wI_wI]
        exact smF.refl
  · refine refV hR (e := 1) 1 ?_ rfl ?_
    · unfold fX10_make fX10_make_b9
      by_cases q : a1 < 0
      · rw [if_pos q]
      · rw [if_neg q, if_neg]
        rw [lt0] at q
        rw [Int32.lt_iff_toInt_lt, ti_4]
        omega
    · unfold fX11_make
      rw [within_v a1 0 3 0 3 l0 l3, decide_eq_false hr, Option.bind_some, if_neg (by decide), mk162 hm hT3]
      unfold fX11_make_b162 fX11_make_b181
      rw [w5_5, if_neg (by decide), if_neg (by decide), yo_s]
      exact smF.refl
