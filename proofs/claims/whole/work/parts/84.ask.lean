/-! SEMANTICS, CALLS THAT ASK: value, place, tag, yes, isPut, of, cell, guest -/
theorem mark_cases {M : Mem} {T : Nat → Int32} {W g m : Nat} (h : cSh M 1 T W g m) (v s : Int32) :
    (fX10_needMarkAndSize 0 v s M = some (.inl 1, M) ∧ ∀ M' : Mem, (M' 141).1 = T → fX11_markFault 140 v s M' = some 1) ∨
    (fX10_needMarkAndSize 0 v s M = some (.inl 3, M) ∧ ∀ M' : Mem, (M' 141).1 = T → fX11_markFault 140 v s M' = some 2) ∨
    (∃ w z : Nat, w < m ∧ v = nI w ∧ 1 ≤ z ∧ z ≤ 128 ∧ s = nI z ∧ fX10_needMarkAndSize 0 v s M = some (.inr (), M) ∧ ∀ M' : Mem, (M' 141).1 = T → fX11_markFault 140 v s M' = some 0) := by
  obtain ⟨l0, l1, _, _, _, _, _, _, _, _, l128, _⟩ := lj_toInt
  have hm : m ≤ 6 := h.1.1.2.2.2.2.2.2.1
  have e3 : rI M (0 + 1 + 1) 3 = nI m := h.1.2.2.2.2.1
  have hr : ∀ M' : Mem, (M' 141).1 = T → rI M' (140 + 1) (3 : Int32).toNatClampNeg = nI m := fun M' e => by
    have := h.1.1.2.2.2.2.2.2.2.1
    rw [← e] at this
    exact this
  have hm1 : (nI m - (1 : Int32)).toInt = (m : Int) - 1 := by
    rw [Int32.toInt_sub, nI_toInt (by omega), show (1 : Int32).toInt = 1 from rfl, Int.bmod_eq_of_le (by omega) (by omega)]
  unfold fX10_needMarkAndSize fX10_needMarkAndSize_b18 fX10_needMarkAndSize_b40 fX11_markFault
  rw [e3]
  by_cases c0 : v.toInt < 0 ∨ (m : Int) ≤ v.toInt
  · refine Or.inl ⟨?_, fun M' e => ?_⟩
    · by_cases c1 : v < 0
      · rw [if_pos c1]
      · rw [if_neg c1, if_neg]
        rw [Int32.lt_iff_toInt_lt, Int32.toInt_zero] at c1
        rw [Int32.lt_iff_toInt_lt, nI_toInt (by omega)]
        omega
    · rw [if_pos (by decide), hr M' e, within_ok, w_int, w_int, l0, hm1, decide_eq_false (by omega), Option.bind_some, if_neg (by decide)]
  · have hv : ¬ v < 0 := by rw [Int32.lt_iff_toInt_lt, Int32.toInt_zero]; omega
    obtain ⟨w, hw, rfl⟩ := nI_of hv
    rw [nI_toInt hw] at c0
    have hin : ∀ M' : Mem, fX11_within (nI w).toInt64 0 (nI m - (1 : Int32)).toInt64 M' = some true := fun M' => by
      rw [within_ok, w_int, w_int, l0, hm1, nI_toInt hw, decide_eq_true (by omega)]
    rw [if_neg hv, if_pos (show nI w < nI m from nI_lt (by omega) (by omega))]
    by_cases c1 : s.toInt < 1 ∨ 128 < s.toInt
    · refine Or.inr (Or.inl ⟨?_, fun M' e => ?_⟩)
      · by_cases c2 : s < (1 : Int32)
        · rw [if_pos c2]
        · rw [if_neg c2, if_neg]
          rw [Int32.lt_iff_toInt_lt, show (1 : Int32).toInt = 1 from rfl] at c2
          rw [Int32.le_iff_toInt_le, show (128 : Int32).toInt = 128 from rfl]
          omega
      · rw [if_pos (by decide), hr M' e, hin, Option.bind_some, if_pos rfl, within_v s 1 128 1 128 l1 l128, decide_eq_false (by omega), Option.bind_some, if_neg (by decide)]
    · have hs : ¬ s < 0 := by rw [Int32.lt_iff_toInt_lt, Int32.toInt_zero]; omega
      obtain ⟨z, hz, rfl⟩ := nI_of hs
      rw [nI_toInt hz] at c1
      refine Or.inr (Or.inr ⟨w, z, by omega, rfl, by omega, by omega, rfl, ?_, fun M' e => ?_⟩)
      · rw [if_neg (show ¬ nI z < (1 : Int32) from nI_nlt (b := 1) (by omega) hz), if_pos (show nI z ≤ (128 : Int32) from nI_le (b := 128) (by omega) (by decide))]
      · rw [if_pos (by decide), hr M' e, hin, Option.bind_some, if_pos rfl, within_v (nI z) 1 128 1 128 l1 l128, nI_toInt hz, decide_eq_true (by omega), Option.bind_some, if_pos rfl]
theorem ag_value {N : Nat} (hN : 700 ≤ N) (a1 a2 a3 : Int32) (M : Mem) (hR : Rel M) : agI (fX10_value N 0 a1 a2 a3 M) (fX11_value N 140 a1 a2 a3) (fun k Mj1 => if k = 1 then some ((1 : Int32), Mj1) else if k = 3 then some ((2 : Int32), Mj1) else none) M := by
  obtain ⟨W, g, m, hS⟩ := hR.1
  rcases mark_cases hS a1 a3 with ⟨c1, c2⟩ | ⟨c1, c2⟩ | ⟨w, z, hw, rfl, hz1, hz2, rfl, c1, c2⟩
  · refine refI hR (e := 1) 1 ?_ rfl (by decide) ?_
    · unfold fX10_value; rw [c1, xb_l]
    · unfold fX11_value
      rw [c2 M rfl, Option.bind_some, w5_5, if_neg (by decide), yo_s]
      exact smF.refl
  · refine refI hR (e := 3) 2 ?_ rfl (by decide) ?_
    · unfold fX10_value; rw [c1, xb_l]
    · unfold fX11_value
      rw [c2 M rfl, Option.bind_some, w5_5, if_neg (by decide), yo_s]
      exact smF.refl
  · refine askI hR (valT (M 141).1 w a2 (nI z)) ?_ (fun M' hM' => ?_)
    · unfold fX10_value
      rw [c1, xb_r]
      refine (cv_val (b := 2) hN hS.1 hw).bi (fun x hx => ?_)
      rw [yo_s, hx.1]
      exact ⟨rfl, hx.2.mono (by decide)⟩
    · have e : M' 141 = M 141 := hM' 141 (by decide)
      unfold fX11_value
      rw [c2 M' (by rw [e]), Option.bind_some, w5_5, if_pos (by decide)]
      refine (rv_val hN (show w ≤ 6 by have := hS.1.1.2.2.2.2.2.2.1; omega) ?_).bi (fun x hx => ?_)
      · rw [w5_141, e]; exact hS.1.1.2.2.2.2.2.2.2.2.1 w hw
      · rw [w5_141, e] at hx
        rw [yo_s]
        exact ⟨hx.1, hx.2.mono (by decide)⟩
theorem ag_place {N : Nat} (hN : 700 ≤ N) (a1 a2 a3 : Int32) (M : Mem) (hR : Rel M) : agI (fX10_place N 0 a1 a2 a3 M) (fX11_place N 140 a1 a2 a3) (fun k Mj1 => if k = 1 then some ((1 : Int32), Mj1) else if k = 3 then some ((2 : Int32), Mj1) else none) M := by
  obtain ⟨W, g, m, hS⟩ := hR.1
  rcases mark_cases hS a1 a3 with ⟨c1, c2⟩ | ⟨c1, c2⟩ | ⟨w, z, hw, rfl, hz1, hz2, rfl, c1, c2⟩
  · refine refI hR (e := 1) 1 ?_ rfl (by decide) ?_
    · unfold fX10_place; rw [c1, xb_l]
    · unfold fX11_place
      rw [c2 M rfl, Option.bind_some, w5_5, if_neg (by decide), yo_s]
      exact smF.refl
  · refine refI hR (e := 3) 2 ?_ rfl (by decide) ?_
    · unfold fX10_place; rw [c1, xb_l]
    · unfold fX11_place
      rw [c2 M rfl, Option.bind_some, w5_5, if_neg (by decide), yo_s]
      exact smF.refl
  · refine askI hR (nI (plT (M 141).1 w a2 z)) ?_ (fun M' hM' => ?_)
    · unfold fX10_place
      rw [c1, xb_r]
      refine (cv_place (b := 2) hN hS.1 hw hz1 (by omega)).bi (fun x hx => ?_)
      rw [yo_s, hx.1]
      exact ⟨rfl, hx.2.mono (by decide)⟩
    · have e : M' 141 = M 141 := hM' 141 (by decide)
      unfold fX11_place
      rw [c2 M' (by rw [e]), Option.bind_some, w5_5, if_pos (by decide)]
      refine (rv_place hN (show w ≤ 6 by have := hS.1.1.2.2.2.2.2.2.1; omega) ?_ hz1 (by omega)).bi (fun x hx => ?_)
      · rw [w5_141, e]; exact hS.1.1.2.2.2.2.2.2.2.2.1 w hw
      · rw [w5_141, e] at hx
        rw [yo_s]
        exact ⟨hx.1, hx.2.mono (by decide)⟩
theorem ag_tag {N : Nat} (hN : 700 ≤ N) (a1 : Int32) (M : Mem) (hR : Rel M) : agI (fX10_tag 0 a1 M) (fX11_tag N 140 a1) (fun k Mj1 => if k = 3 then some ((1 : Int32), Mj1) else none) M := by
  obtain ⟨W, g, m, hS⟩ := hR.1
  rcases needName_ok hS a1 with ⟨c1, c2⟩ | ⟨n, hn, rfl, c1, c2⟩
  · refine refI hR (e := 3) 1 ?_ rfl (by decide) ?_
    · unfold fX10_tag; rw [c1, xb_l]
    · unfold fX11_tag
      rw [c2 _ (by rw [w5_141]), Option.bind_some, if_neg (by decide), fails_ok, Option.bind_some, yo_s, wI_wI]
      exact smF.refl
  · refine askI hR (nI (tagT (M 141).1 g n)) ?_ (fun M' hM' => ?_)
    · unfold fX10_tag
      rw [c1, xb_r]
      have := cv_tag (b := 2) hS.1 hn
      rw [show (0 + 1) + 1 = 2 from rfl, this, Option.bind_some, yo_s]
      exact ⟨rfl, smF.refl⟩
    · have e : M' 141 = M 141 := hM' 141 (by decide)
      unfold fX11_tag
      rw [c2 _ (by rw [w5_141, e]), Option.bind_some, if_pos rfl]
      refine (rv_tag (W := W) (m := m) (g := g) hN ?_ hn).bi (fun x hx => ?_)
      · rw [w5_141, e]; exact hS.1.1
      · rw [w5_141, e] at hx
        rw [yo_s]
        exact ⟨hx.1, hx.2.mono (by decide)⟩
theorem nameF_ok {M : Mem} {W g m : Nat} (h : cSh M 1 (M 141).1 W g m) (a1 a2 : Int32) :
    (fX10_rowAt 0 a1 M = some (.inl 1, M) ∧ ∀ M' : Mem, M' 141 = M 141 → fX11_nameFault 140 a1 a2 M' = some 1) ∨
    (∃ r, r < 4 ∧ a1 = nI r ∧ fX10_rowAt 0 a1 M = some (.inr (10 + 4 * r), M) ∧ fX10_needName 0 a2.toInt64 M = some (.inl 3, M) ∧ ∀ M' : Mem, M' 141 = M 141 → fX11_nameFault 140 a1 a2 M' = some 2) ∨
    (∃ r n, r < 4 ∧ a1 = nI r ∧ here M (10 + 4 * r) (M 141).1 r W m ∧ n < W ∧ a2 = nI n ∧ fX10_rowAt 0 a1 M = some (.inr (10 + 4 * r), M) ∧ fX10_needName 0 a2.toInt64 M = some (.inr (), M) ∧ ∀ M' : Mem, M' 141 = M 141 → fX11_nameFault 140 a1 a2 M' = some 0) := by
  unfold fX11_nameFault
  rcases rowAt_ok h a1 with ⟨c1, c2⟩ | ⟨r, hr, rfl, hh, c1, c2⟩
  · exact Or.inl ⟨c1, fun M' e => by rw [c2 M' (by rw [e]), Option.bind_some, if_neg (by decide)]⟩
  · rcases needName_ok h a2 with ⟨d1, d2⟩ | ⟨n, hn, rfl, d1, d2⟩
    · exact Or.inr (Or.inl ⟨r, hr, rfl, c1, d1, fun M' e => by rw [c2 M' (by rw [e]), Option.bind_some, if_pos rfl, d2 M' (by rw [e]), Option.bind_some, if_neg (by decide)]⟩)
    · exact Or.inr (Or.inr ⟨r, n, hr, rfl, hh, hn, rfl, c1, d1, fun M' e => by rw [c2 M' (by rw [e]), Option.bind_some, if_pos rfl, d2 M' (by rw [e]), Option.bind_some, if_pos rfl]⟩)
theorem ag_yes {N : Nat} (hN : 700 ≤ N) (a1 a2 : Int32) (M : Mem) (hR : Rel M) : agB (fX10_yes N 0 a1 a2 M) (fX11_yes N 140 a1 a2) (fun k Mj1 => if k = 1 then some ((1 : Int32), Mj1) else if k = 3 then some ((2 : Int32), Mj1) else none) M := by
  obtain ⟨W, g, m, hS⟩ := hR.1
  rcases nameF_ok hS a1 a2 with ⟨c1, c2⟩ | ⟨r, hr, rfl, c1, d1, c2⟩ | ⟨r, n, hr, rfl, hh, hn, rfl, c1, d1, c2⟩
  · refine refB hR (e := 1) 1 ?_ rfl (by decide) ?_
    · unfold fX10_yes; rw [c1, xb_l]
    · unfold fX11_yes fX11_yes_b30
      rw [c2 M rfl, Option.bind_some, w5_5, if_neg (by decide), yo_s]
      exact smF.refl
  · refine refB hR (e := 3) 2 ?_ rfl (by decide) ?_
    · unfold fX10_yes; rw [c1, xb_r, d1, xb_l]
    · unfold fX11_yes fX11_yes_b30
      rw [c2 M rfl, Option.bind_some, w5_5, if_neg (by decide), yo_s]
      exact smF.refl
  · obtain ⟨kd, sz, mk, ex, ly, hc, hr'⟩ := sX hS hr hh
    refine askB hR (bo (saysP (M 141).1 r W g kd sz mk ex ly n)) ?_ (fun M' hM' => ?_)
    · unfold fX10_yes
      rw [c1, xb_r, d1, xb_r]
      refine (c_says hN hc hn).bi (fun x hx => ?_)
      rw [yo_s, hx.1]
      exact ⟨rfl, hx.2.mono (by decide)⟩
    · have e : M' 141 = M 141 := hM' 141 (by decide)
      unfold fX11_yes fX11_yes_b30
      rw [c2 M' e, Option.bind_some, w5_5, if_pos rfl]
      refine (r_says hN (hr' _ (by rw [w5_141, e])) hn).bi (fun x hx => ?_)
      rw [← hx.1]
      refine yo_i (fun q => ?_) (fun q => ?_)
      · rw [yo_s]
        exact ⟨q.symm, hx.2.mono (by decide)⟩
      · rw [yo_s]
        refine ⟨?_, hx.2.mono (by decide)⟩
        cases hb : x.1
        · rfl
        · exact absurd hb q
theorem ag_isPut (a1 a2 : Int32) (M : Mem) (hR : Rel M) : agB (fX10_isPut 0 a1 a2 M) (fX11_isPut 140 a1 a2) (fun k Mj1 => if k = 1 then some ((1 : Int32), Mj1) else if k = 3 then some ((2 : Int32), Mj1) else none) M := by
  obtain ⟨W, g, m, hS⟩ := hR.1
  rcases nameF_ok hS a1 a2 with ⟨c1, c2⟩ | ⟨r, hr, rfl, c1, d1, c2⟩ | ⟨r, n, hr, rfl, hh, hn, rfl, c1, d1, c2⟩
  · refine refB hR (e := 1) 1 ?_ rfl (by decide) ?_
    · unfold fX10_isPut; rw [c1, xb_l]
    · unfold fX11_isPut fX11_isPut_b30
      rw [c2 M rfl, Option.bind_some, w5_5, if_neg (by decide), yo_s]
      exact smF.refl
  · refine refB hR (e := 3) 2 ?_ rfl (by decide) ?_
    · unfold fX10_isPut; rw [c1, xb_r, d1, xb_l]
    · unfold fX11_isPut fX11_isPut_b30
      rw [c2 M rfl, Option.bind_some, w5_5, if_neg (by decide), yo_s]
      exact smF.refl
  · have hn' : n < 256 := by have := hS.W.2.1; omega
    refine askB hR (decide (rq (M 141).1 r (250 + n) = 1)) ?_ (fun M' hM' => ?_)
    · unfold fX10_isPut
      rw [c1, xb_r, d1, xb_r, has_ok hn', Option.bind_some, yo_s]
      exact ⟨congrArg Sum.inr (hh.2.2.2.2.2 n hn'), smF.refl⟩
    · have e : M' 141 = M 141 := hM' 141 (by decide)
      unfold fX11_isPut fX11_isPut_b30
      rw [c2 M' e, Option.bind_some, w5_5, if_pos rfl, isIn_ok hr hn', Option.bind_some, w5_141, e]
      cases hb : decide (rq (M 141).1 r (250 + n) = 1)
      · rw [if_neg (by decide), yo_s]; exact ⟨rfl, smF.refl⟩
      · rw [if_pos rfl, yo_s]; exact ⟨rfl, smF.refl⟩
