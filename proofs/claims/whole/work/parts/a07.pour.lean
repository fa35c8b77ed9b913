/-! SEMANTICS: pour -/
theorem inS {r a : Nat} (h1 : a < 10 + 4 * r ∨ 14 + 4 * r ≤ a) (h2 : a ∉ scrC) : a ∉ scrC ++ [10 + 4 * r, 12 + 4 * r, 13 + 4 * r] := fun z => by
  rw [List.mem_append] at z
  rcases z with z | z
  · exact h2 z
  · simp only [List.mem_cons, List.not_mem_nil, or_false] at z; omega
theorem isNameX_ok {M : Mem} {T : Nat → Int32} {W g m : Nat} (h : cRu M 2 T W g m) (x : Int64) :
    fX10_isName 0 x M = some (decide (0 ≤ x.toInt ∧ x.toInt < W)) ∧ ∀ M' : Mem, (M' 141).1 = T → fX11_isName 140 x M' = some (decide (0 ≤ x.toInt ∧ x.toInt < W)) := by
  obtain ⟨hW2, hW, hT, hM⟩ : 2 ≤ W ∧ W ≤ 256 ∧ T 1 = nI W ∧ rI M (1 + 1) 1 = nI W := ⟨h.1.1, h.1.2.1, h.1.2.2.1, h.2.2.1⟩
  obtain ⟨l0, _⟩ := lj_toInt
  constructor
  · unfold fX10_isName fX10_isName_b26
    have e : rI M (0 + 1 + 1) 1 = nI W := hM
    rw [e]
    by_cases h0 : x < (0 : Int64)
    · rw [if_pos h0, decide_eq_false]
      rw [Int64.lt_iff_toInt_lt] at h0
      omega
    · rw [if_neg h0]
      rw [Int64.lt_iff_toInt_lt] at h0
      by_cases h1 : (nI W).toInt64 ≤ x
      · rw [if_pos h1, decide_eq_false]
        rw [Int64.le_iff_toInt_le, w_nI (by omega)] at h1
        omega
      · rw [if_neg h1, decide_eq_true]
        rw [Int64.le_iff_toInt_le, w_nI (by omega)] at h1
        omega
  · intro M' e
    unfold fX11_isName
    have e1 : rI M' (140 + 1) (1 : Int32).toNatClampNeg = nI W := by rw [← hT, ← e]; rfl
    rw [if_pos (by decide), e1, within_ok, w_int, li_1, pk_sub (by omega), nI_toInt (by omega), l0, Option.bind_some]
    congr 2
    apply propext
    omega
theorem pour_two {N : Nat} (hN : 700 ≤ N) {r W g m kd sz mk ex t ma : Nat} (h4 : kd ≠ 4) (ht : t < 4) (hma : ma ≤ 40) (nu : Nat → Int64) : ∀ (c n : Nat) (M M' : Mem) (T : Nat → Int32) (ly k : Nat), c < n → k + c = ma → cX M T r W g m kd sz mk ex ly → rX M' T r W g m kd sz mk ex ly →
    rI M (103 + 2 * t) 1 = nI ma → (∀ j, j < 40 → rJ M (104 + 2 * t) j = nu j) → rI M' 163 t = nI ma → (∀ j, j < 40 → rJ M' 164 (40 * t + j) = nu j) →
    ∃ (v : Int32) (T2 : Nat → Int32) (ly2 : Nat), (∀ z, (z < 1220 + 512 * r ∨ 1220 + 512 * r + 512 ≤ z) → T2 z = T z) ∧
      Yo (fX10_pour_l28 N 0 (10 + 4 * r) (103 + 2 * t) n (nI k) (nI k) M) (fun x => x.1 = .inr v ∧ cX x.2 T2 r W g m kd sz mk ex ly2 ∧ smF (scrC ++ [10 + 4 * r, 12 + 4 * r, 13 + 4 * r]) M x.2 ∧ rI x.2 (10 + 4 * r) 0 = rI M (10 + 4 * r) 0) ∧
      Yo (fX11_pour_l53 N 140 (nI r) (nI t) n (nI k) M') (fun x => x.1 = v ∧ rX x.2 T2 r W g m kd sz mk ex ly2 ∧ smF (141 :: scrR) M' x.2) := by
  intro c
  induction c with
  | zero =>
    intro n M M' T ly k hn hk hc hx e1 e2 e3 e4
    obtain ⟨f, rfl⟩ : ∃ f, n = f + 1 := ⟨n - 1, by omega⟩
    refine ⟨nI k, T, ly, fun _ _ => rfl, ?_, ?_⟩
    · show Yo (fX10_pour_l28_s N 0 (10 + 4 * r) (103 + 2 * t) (fX10_pour_l28 N 0 (10 + 4 * r) (103 + 2 * t) f) (nI k) (nI k) M) _
      unfold fX10_pour_l28_s
      rw [e1, if_pos (nI_le (by omega) (by omega)), yo_s]
      exact ⟨rfl, hc, smF.refl, rfl⟩
    · show Yo (fX11_pour_l53_s N 140 (nI r) (nI t) (fX11_pour_l53 N 140 (nI r) (nI t) f) (nI k) M') _
      unfold fX11_pour_l53_s fX11_pour_b102
      rw [if_pos (inB_nI ht (by decide)), nI_clamp (by omega), show (140 + 23 : Nat) = 163 from rfl, e3, if_pos (nI_le (by omega) (by omega)), yo_s]
      exact ⟨rfl, hx, smF.refl⟩
  | succ c ih =>
    intro n M M' T ly k hn hk hc hx e1 e2 e3 e4
    obtain ⟨f, rfl⟩ : ∃ f, n = f + 1 := ⟨n - 1, by omega⟩
    have hr := hc.1
    have hW := hc.W1.2.2
    have hkm : k < ma := by omega
    have n1 : rJ M (103 + 2 * t + 1) k = nu k := by rw [show 103 + 2 * t + 1 = 104 + 2 * t by omega]; exact e2 k (by omega)
    have hcl : fX10_pour_l28 N 0 (10 + 4 * r) (103 + 2 * t) (f + 1) (nI k) (nI k) M = if 0 ≤ (nu k).toInt ∧ (nu k).toInt < W then (fX10_admit N 0 (10 + 4 * r) (nu k).toInt32 M).bind fun qj3 => if qj3.1 = (-1 : Int32) then fX10_pour_b68 N (nI k) qj3.2 else fX10_pour_l28 N 0 (10 + 4 * r) (103 + 2 * t) f (nI k + 1) (nI k + 1) qj3.2 else some (.inr (nI k), M) := by
      show fX10_pour_l28_s N 0 (10 + 4 * r) (103 + 2 * t) (fX10_pour_l28 N 0 (10 + 4 * r) (103 + 2 * t) f) (nI k) (nI k) M = _
      unfold fX10_pour_l28_s
      rw [e1, if_neg (nI_ge hkm (by omega)), num_ok (by omega), Option.bind_some, n1, (isNameX_ok hc.2.1 _).1, Option.bind_some]
      by_cases q : 0 ≤ (nu k).toInt ∧ (nu k).toInt < W
      · rw [decide_eq_true (show 0 ≤ (nu k).toInt ∧ (nu k).toInt < W from q), if_pos rfl, if_pos q]
      · rw [decide_eq_false (show ¬ (0 ≤ (nu k).toInt ∧ (nu k).toInt < W) from q), if_neg (by decide), if_neg q]
        rfl
    have hrf : fX11_pour_l53 N 140 (nI r) (nI t) (f + 1) (nI k) M' = if 0 ≤ (nu k).toInt ∧ (nu k).toInt < W then (fX11_putsOr N 140 (nI r) (nu k).toInt32 M').bind fun qj7 => if qj7.1 = (-1 : Int32) then fX11_pour_b102 N (nI k) qj7.2 else fX11_pour_l53 N 140 (nI r) (nI t) f (nI k + 1) qj7.2 else some (nI k, M') := by
      show fX11_pour_l53_s N 140 (nI r) (nI t) (fX11_pour_l53 N 140 (nI r) (nI t) f) (nI k) M' = _
      unfold fX11_pour_l53_s
      obtain ⟨m1, m2⟩ := rnum_ok ht (show k < 40 by omega) M'
      rw [if_pos (inB_nI ht (by decide)), nI_clamp (by omega), show (140 + 23 : Nat) = 163 from rfl, e3, if_neg (nI_ge hkm (by omega)), if_pos m1, m2, e4 k (by omega), (isNameX_ok hc.2.1 _).2 M' hx.2.1, Option.bind_some]
      by_cases q : 0 ≤ (nu k).toInt ∧ (nu k).toInt < W
      · rw [decide_eq_true (show 0 ≤ (nu k).toInt ∧ (nu k).toInt < W from q), if_pos rfl, if_pos q, inTray_ok ht (by omega), e4 k (by omega), Option.bind_some]
      · rw [decide_eq_false (show ¬ (0 ≤ (nu k).toInt ∧ (nu k).toInt < W) from q), if_neg (by decide), if_neg q]
        rfl
    by_cases q : 0 ≤ (nu k).toInt ∧ (nu k).toInt < W
    · rw [if_pos q] at hcl hrf
      obtain ⟨p, hp, hp1, hp2⟩ := name_of hW q
      rw [hp2] at hcl hrf
      obtain ⟨v, T1, ly1, hT1, ⟨x, x1, x2, x3, x4, x5⟩, ⟨y, y1, y2, y3, y4⟩⟩ := admit_two hN hc hx h4 hp
      rw [x1, Option.bind_some, x2] at hcl
      rw [y1, Option.bind_some, y2] at hrf
      by_cases qv : v = -1
      · rw [if_pos qv] at hcl hrf
        refine ⟨nI k, T1, ly1, hT1, ?_, ?_⟩
        · rw [hcl]; unfold fX10_pour_b68; rw [yo_s]; exact ⟨rfl, x3, x4, x5⟩
        · rw [hrf]; unfold fX11_pour_b102; rw [yo_s]; exact ⟨rfl, y3, y4⟩
      · rw [if_neg qv, nI_1] at hcl hrf
        have g1 : x.2 (103 + 2 * t) = M (103 + 2 * t) := x4 _ (inS (by omega) (by simp [scrC]; omega))
        have g2 : x.2 (104 + 2 * t) = M (104 + 2 * t) := x4 _ (inS (by omega) (by simp [scrC]; omega))
        obtain ⟨v2, T2, ly2, hT2, ⟨x', z1, z2, z3, z4, z5⟩, ⟨y', w1, w2, w3, w4⟩⟩ := ih f x.2 y.2 T1 ly1 (k + 1) (by omega) (by omega) x3 y3 (by rw [eqs_rI g1]; exact e1) (fun j hj => by rw [eqs_rJ g2]; exact e2 j hj)
          (by rw [y4.I_ (by decide)]; exact e3) (fun j hj => by rw [y4.J_ (by decide)]; exact e4 j hj)
        refine ⟨v2, T2, ly2, fun z hz => by rw [hT2 z hz, hT1 z hz], ?_, ?_⟩
        · rw [hcl, z1]; exact ⟨x', rfl, z2, z3, x4.trans z4, by rw [z5, x5]⟩
        · rw [hrf, w1]; exact ⟨y', rfl, w2, w3, y4.trans w4⟩
    · rw [if_neg q] at hcl hrf
      refine ⟨nI k, T, ly, fun _ _ => rfl, ?_, ?_⟩
      · rw [hcl, yo_s]; exact ⟨rfl, hc, smF.refl, rfl⟩
      · rw [hrf, yo_s]; exact ⟨rfl, hx, smF.refl⟩
theorem ag_pour {N : Nat} (hN : 700 ≤ N) (a1 a2 : Int32) (M : Mem) (hR : Rel M) : agI (fX10_pour N 0 a1 a2 M) (fX11_pour N 140 a1 a2) (fun k Mj1 => if k = 1 then some ((1 : Int32), Mj1) else if k = 2 then some ((2 : Int32), Mj1) else none) M := by
  obtain ⟨W, g, m, hS⟩ := hR.1
  rcases rowTray_ok hS a1 a2 with ⟨c1, c2⟩ | ⟨r, t, hr, ht, rfl, rfl, hh, c1, d1, c2⟩
  · refine refI hR (e := 1) 1 ?_ rfl (by decide) ?_
    · unfold fX10_pour
      rcases c1 with q | ⟨r, q1, q2⟩
      · rw [q, xb_l]
      · rw [q1, xb_r, q2, xb_l]
    · unfold fX11_pour fX11_pour_b42
      rw [c2 M rfl, Option.bind_some, w5_5, if_neg (by decide), if_neg (by decide), yo_s]
      exact smF.refl
  · obtain ⟨kd, sz, mk, ex, ly, hc, hr'⟩ := sX hS hr hh
    have hk4 := hc.2.2.2.2.1.1
    have hcl : fX10_pour N 0 (nI r) (nI t) M = xb (if kd = 4 then some (.inl 2, M) else some (.inr (), M)) fun qj3 Mj3 => xb (fX10_needFilled (103 + 2 * t) Mj3) fun qj4 Mj4 => fX10_pour_l28 N 0 (10 + 4 * r) (103 + 2 * t) N (0 : Int32) (0 : Int32) Mj4 := by
      unfold fX10_pour
      rw [c1, xb_r, d1, xb_r, unsolved_ok hc]
    have hx0 : ∀ M' : Mem, M' 141 = M 141 → rX (wI M' 140 5 0) (M 141).1 r W g m kd sz mk ex ly := fun M' e => hr' _ (by rw [w5_141, e])
    have hrf : ∀ M' : Mem, M' 141 = M 141 → fX11_pour N 140 (nI r) (nI t) M' = if kd = 4 then some (0, wI M' 140 5 2) else if rI M' 162 t = -1 then some (0, wI M' 140 5 2) else fX11_pour_l53 N 140 (nI r) (nI t) N (0 : Int32) (wI M' 140 5 0) := fun M' e => by
      unfold fX11_pour fX11_pour_b37 fX11_pour_b42
      rw [c2 M' e, Option.bind_some, w5_5, if_pos rfl, (hx0 M' e).flds.1, Option.bind_some, wI_wI, w5_5]
      by_cases k4 : kd = 4
      · rw [if_pos (show nI kd = (4 : Int32) from by rw [k4]; rfl), if_pos k4, if_neg (by decide)]
      · rw [if_neg (show ¬ nI kd = (4 : Int32) from ne_l (b := 4) k4 (by omega) (by omega)), if_neg k4, if_pos (inB_nI ht (by decide)), nI_clamp (by omega), w5_162]
        by_cases q : rI M' 162 t = -1
        · rw [if_pos q, if_pos q, if_neg (by decide)]
        · rw [if_neg q, if_neg q, if_pos (by decide)]
    by_cases k4 : kd = 4
    · refine refI hR (e := 2) 2 ?_ rfl (by decide) ?_
      · rw [hcl, if_pos k4, xb_l]
      · rw [hrf M rfl, if_pos k4, yo_s]
        exact smF.refl
    · rw [if_neg k4, xb_r] at hcl
      rcases filled_ok (relT_iff.mp hR.2.2.1 t ht) with ⟨f1, f2⟩ | ⟨so, ma, tr, f1, f2⟩
      · refine refI hR (e := 2) 2 ?_ rfl (by decide) ?_
        · rw [hcl, f1, xb_l]
        · rw [hrf M rfl, if_neg k4, if_pos f2, yo_s]
          exact smF.refl
      · rw [hcl, f1, xb_r]
        obtain ⟨t1, t2, t3, t4, t5, t6, t7, t8⟩ := tr
        have hx1 : ∀ (v : Int64) (M1 : Mem), M1 141 = M 141 → (wJ M1 165 0 v) 141 = M 141 := fun v M1 e => by rw [wJ_165 141 (by omega), e]
        have two := fun (M' : Mem) (e : M' 141 = M 141) (u3 : rI (wI M' 140 5 0) 163 t = nI ma) (u4 : ∀ j, j < 40 → rJ (wI M' 140 5 0) 164 (40 * t + j) = rJ M 164 (40 * t + j)) => pour_two hN k4 ht t3 (fun j => rJ M 164 (40 * t + j)) ma N M (wI M' 140 5 0) (M 141).1 ly 0 (by omega) (by omega) hc (hx0 M' e) t7 t8 u3 u4
        obtain ⟨v, T2, ly2, hT, ⟨x, x1, x2, x3, x4, x5⟩, _⟩ := two M rfl (by rw [w5_163]; exact t6) (fun j hj => by rw [w5_164])
        have e141 := eq141 hr x4
        refine Or.inr ⟨v, x.2, by rw [← x2]; exact x1, ?_⟩
        have g3 : (wJ x.2 165 0 v.toInt64) 162 = M 162 := by rw [wJ_165 162 (by omega)]; exact x4 _ (inS (by omega) (by decide))
        have g4 : (wJ x.2 165 0 v.toInt64) 163 = M 163 := by rw [wJ_165 163 (by omega)]; exact x4 _ (inS (by omega) (by decide))
        have g5 : (wJ x.2 165 0 v.toInt64) 164 = M 164 := by rw [wJ_165 164 (by omega)]; exact x4 _ (inS (by omega) (by decide))
        obtain ⟨v', T2', ly2', hT', ⟨y, y1, y2, y3, y4, y5⟩, hy⟩ := two (wJ x.2 165 0 v.toInt64) (hx1 _ _ e141) (by rw [w5_163, eqs_rI g4]; exact t6) (fun j hj => by rw [w5_164, eqs_rJ g5])
        have exy : x = y := Option.some.inj (x1.symm.trans y1)
        subst exy
        have ev : v = v' := Sum.inr.inj (x2.symm.trans y2)
        subst ev
        rw [hrf _ (hx1 v.toInt64 x.2 e141), if_neg k4, if_neg (by rw [eqs_rI g3]; exact f2)]
        refine hy.to (fun w hw => ?_)
        obtain ⟨z1, z2, z3⟩ := row_endT hR hS hr hh.1 y3 y4 y5 hw.2.1 hw.2.2 hT'
        exact ⟨hw.1, z1, z2, z3⟩
