/-! SEMANTICS, TRAYS: tray, write, wronged; and what calls over trays look at first -/
theorem relS_mv {M M' : Mem} (h : relS M) (hq : ∀ a, a < 26 → a ≠ 8 → a ≠ 0 → M' a = M a) (h1 : M' 141 = M 141) : relS M' := by
  obtain ⟨W, g, m, hS⟩ := h
  refine ⟨W, g, m, ?_⟩
  rw [h1]
  exact hS.moved (fun a h1 h2 h3 => hq a (by omega) (by omega) (by omega))
theorem relI_mv {M M' : Mem} (h : relI M) (hq : ∀ a, 27 ≤ a → a < 102 → M' a = M a) (h6 : rI M' 0 6 = rI M 0 6) (h143 : M' 143 = M 143) (h145 : M' 145 = M 145) : relI M' := by
  intro i hi
  have e : imT M' i = imT M i := by unfold imT; funext k; rw [eqs_rI h143]
  rw [h6, eqs_rI h145, e]
  rcases h i hi with q | ⟨q1, q2, W', g', m', q3⟩
  · exact Or.inl q
  · exact Or.inr ⟨q1, q2, W', g', m', q3.moved (fun a h1 h2 h3 => hq a (by omega) (by omega))⟩
def trX (M : Mem) (t so ma : Nat) : Prop := rI M (103 + 2 * t) 0 = 1 ∧ so ≤ 3 ∧ ma ≤ 40 ∧ rI M 162 t = nI so ∧ rI M (103 + 2 * t) 2 = nI so ∧ rI M 163 t = nI ma ∧ rI M (103 + 2 * t) 1 = nI ma ∧ ∀ j, j < 40 → rJ M (104 + 2 * t) j = rJ M 164 (40 * t + j)
def trS (M : Mem) (t : Nat) : Prop := (rI M (103 + 2 * t) 0 = 0 ∧ rI M 162 t = -1) ∨ ∃ so ma : Nat, trX M t so ma
theorem relT_iff {M : Mem} : relT M ↔ ∀ t, t < 4 → trS M t := by
  unfold relT trS trX
  constructor
  · intro h t ht
    rcases h t ht with q | ⟨q1, so, ma, q2⟩
    · exact Or.inl q
    · exact Or.inr ⟨so, ma, q1, q2⟩
  · intro h t ht
    rcases h t ht with q | ⟨so, ma, q1, q2⟩
    · exact Or.inl q
    · exact Or.inr ⟨q1, so, ma, q2⟩
theorem trX_mv {M M' : Mem} {t so ma : Nat} (h : trX M t so ma) (ha : M' (103 + 2 * t) = M (103 + 2 * t)) (hb : M' (104 + 2 * t) = M (104 + 2 * t)) (h2 : rI M' 162 t = rI M 162 t) (h3 : rI M' 163 t = rI M 163 t) (h4 : ∀ j, j < 40 → rJ M' 164 (40 * t + j) = rJ M 164 (40 * t + j)) : trX M' t so ma := by
  obtain ⟨q1, q2, q3, q4, q5, q6, q7, q8⟩ := h
  refine ⟨by rw [eqs_rI ha]; exact q1, q2, q3, by rw [h2]; exact q4, by rw [eqs_rI ha]; exact q5, by rw [h3]; exact q6, by rw [eqs_rI ha]; exact q7, fun j hj => ?_⟩
  rw [eqs_rJ hb, h4 j hj]
  exact q8 j hj
theorem trS_mv {M M' : Mem} {t : Nat} (h : trS M t) (ha : M' (103 + 2 * t) = M (103 + 2 * t)) (hb : M' (104 + 2 * t) = M (104 + 2 * t)) (h2 : rI M' 162 t = rI M 162 t) (h3 : rI M' 163 t = rI M 163 t) (h4 : ∀ j, j < 40 → rJ M' 164 (40 * t + j) = rJ M 164 (40 * t + j)) : trS M' t := by
  rcases h with ⟨q1, q2⟩ | ⟨so, ma, q⟩
  · exact Or.inl ⟨by rw [eqs_rI ha]; exact q1, by rw [h2]; exact q2⟩
  · exact Or.inr ⟨so, ma, trX_mv q ha hb h2 h3 h4⟩
theorem relP_mv {M M' : Mem} (h : relP M) (h1 : rI M' 111 1 = rI M 111 1) (h7 : rI M' 140 7 = rI M 140 7) (h146 : M' 146 = M 146) (h119 : M' 119 = M 119) : relP M' := by
  obtain ⟨n, hn, p1, p2, p3⟩ := h
  refine ⟨n, hn, by rw [h1]; exact p1, by rw [h7]; exact p2, fun j hj => ?_⟩
  rw [eqs_rI h146, eqs_rI h119]
  exact p3 j hj
theorem relA_mv {M M' : Mem} (h : relA M) (h0 : M' 0 = M 0) (hk : ∀ k, k ≠ 5 → k ≠ 7 → rI M' 140 k = rI M 140 k) : relA M' := by
  unfold relA at h ⊢
  rw [eqs_rI h0, eqs_rI h0, eqs_rI h0, eqs_rI h0, hk 16 (by omega) (by omega), hk 17 (by omega) (by omega), hk 26 (by omega) (by omega), hk 27 (by omega) (by omega)]
  exact h
theorem trayAt_ok (v : Int32) (M : Mem) :
    (fX10_trayAt 0 v M = some (.inl 1, M) ∧ ∀ M' : Mem, fX11_isTray v M' = some false) ∨
    (∃ t, t < 4 ∧ v = nI t ∧ fX10_trayAt 0 v M = some (.inr (103 + 2 * t), M) ∧ ∀ M' : Mem, fX11_isTray v M' = some true) := by
  obtain ⟨l0, _, _, l3, _⟩ := lj_toInt
  unfold fX10_trayAt fX10_trayAt_b9 fX11_isTray
  rcases int_cases v with ⟨h0, h1⟩ | ⟨t, ht, rfl⟩
  · refine Or.inl ⟨by rw [if_pos h1], fun M' => ?_⟩
    rw [within_v v 0 3 0 3 l0 l3, decide_eq_false (by omega), Option.bind_some]
  · rw [if_neg (nI_pos ht)]
    rcases Nat.lt_or_ge t 4 with h4 | h4
    · refine Or.inr ⟨t, h4, rfl, ?_, fun M' => ?_⟩
      · rw [if_pos (show nI t < (4 : Int32) from nI_lt (b := 4) h4 (by decide)), if_pos (inB_nI h4 (by decide)), nI_clamp ht, show 0 + 102 + 1 + 2 * t = 103 + 2 * t by omega]
      · rw [within_v (nI t) 0 3 0 3 l0 l3, nI_toInt ht, decide_eq_true (by omega), Option.bind_some]
    · refine Or.inl ⟨?_, fun M' => ?_⟩
      · rw [if_neg (show ¬ nI t < (4 : Int32) from nI_nlt (b := 4) h4 ht)]
      · rw [within_v (nI t) 0 3 0 3 l0 l3, nI_toInt ht, decide_eq_false (by omega), Option.bind_some]
theorem num_ok {b j : Nat} (hj : j < 40) (M : Mem) : fX9_numberAt b (nI j) M = some (rJ M (b + 1) j) := by
  unfold fX9_numberAt
  rw [if_neg (nI_pos (by omega)), if_neg (show ¬ (40 : Int32) ≤ nI j from nI_ge (b := 40) hj (by decide)), if_pos (inB_nI hj (by decide)), nI_clamp (by omega)]
theorem ix40 {t j : Nat} : (40 : Int32) * nI t + nI j = nI (40 * t + j) := by rw [li_40, pk_mul, nI_add]
theorem rel_tr {M M' : Mem} {t : Nat} (hR : Rel M) (ht : t < 4) (hq : ∀ a, a ∉ scr → a ≠ 140 → a ≠ 103 + 2 * t → a ≠ 104 + 2 * t → a ≠ 162 → a ≠ 163 → a ≠ 164 → M' a = M a) (hk : ∀ k, k ≠ 5 → rI M' 140 k = rI M 140 k)
    (h2 : ∀ u, u ≠ t → rI M' 162 u = rI M 162 u) (h3 : ∀ u, u ≠ t → rI M' 163 u = rI M 163 u) (h4 : ∀ u, u ≠ t → ∀ j, j < 40 → rJ M' 164 (40 * u + j) = rJ M 164 (40 * u + j)) (hn : trS M' t) : Rel M' := by
  obtain ⟨hS, hI, hT, hP, hA⟩ := hR
  have e : ∀ a, (a ≤ 102 ∨ a = 111 ∨ a = 119 ∨ a = 141 ∨ a = 143 ∨ a = 145 ∨ a = 146) → a ≠ 8 → M' a = M a := fun a h8 h9 => hq a (scr_no (by omega) h9) (by omega) (by omega) (by omega) (by omega) (by omega) (by omega)
  refine ⟨relS_mv hS (fun a h1 h2 _ => e a (by omega) h2) (e 141 (by omega) (by omega)), relI_mv hI (fun a h1 h2 => e a (by omega) (by omega)) (eqs_rI (e 0 (by omega) (by omega)) _) (e 143 (by omega) (by omega)) (e 145 (by omega) (by omega)), relT_iff.mpr (fun u hu => ?_), relP_mv hP (eqs_rI (e 111 (by omega) (by omega)) _) (hk 7 (by omega)) (e 146 (by omega) (by omega)) (e 119 (by omega) (by omega)), relA_mv hA (e 0 (by omega) (by omega)) (fun k h _ => hk k h)⟩
  by_cases hut : u = t
  · rw [hut]; exact hn
  · refine trS_mv (relT_iff.mp hT u hu) ?_ ?_ (h2 u hut) (h3 u hut) (h4 u hut)
    · exact hq _ (scr_no (by omega) (by omega)) (by omega) (by omega) (by omega) (by omega) (by omega) (by omega)
    · exact hq _ (scr_no (by omega) (by omega)) (by omega) (by omega) (by omega) (by omega) (by omega) (by omega)
theorem ag_tray {N : Nat} (hN : 700 ≤ N) (a1 a2 a3 : Int32) (M : Mem) (hR : Rel M) : agV (fX10_tray N 0 a1 a2 a3 M) (fX11_tray N 140 a1 a2 a3) (fun k Mj1 => if k = 1 then some ((1 : Int32), Mj1) else if k = 3 then some ((2 : Int32), Mj1) else none) M := by
  obtain ⟨l0, _, _, l3, _, _, _, _, l40, _⟩ := lj_toInt
  rcases trayAt_ok a1 M with ⟨c1, c2⟩ | ⟨t, ht, rfl, c1, c2⟩
  · refine refV hR (e := 1) 1 ?_ rfl ?_
    · unfold fX10_tray; rw [c1, xb_l]
    · unfold fX11_tray fX11_tray_b41
      rw [c2, Option.bind_some, if_neg (by decide), w5_5, if_neg (by decide), yo_s]
      exact smF.refl
  · have bad : (¬ (0 ≤ a2.toInt ∧ a2.toInt ≤ 3) ∨ ¬ (0 ≤ a3.toInt ∧ a3.toInt ≤ 40)) → fX10_tray N 0 (nI t) a2 a3 M = some (.inl 3, M) ∧ fX11_tray N 140 (nI t) a2 a3 M = some (wI M 140 5 2) := by
      intro hb
      constructor
      · unfold fX10_tray fX10_tray_b26
        rw [c1, xb_r]
        by_cases q1 : a2 < 0
        · rw [if_pos q1]
        · rw [if_neg q1]
          by_cases q2 : (3 : Int32) < a2
          · rw [if_pos q2]
          · rw [if_neg q2]
            by_cases q3 : a3 < 0
            · rw [if_pos q3]
            · rw [if_neg q3, if_neg]
              rw [Int32.lt_iff_toInt_lt] at q1 q2 q3
              rw [Int32.le_iff_toInt_le]
              rw [Int32.toInt_zero] at q1 q3
              rw [show (3 : Int32).toInt = 3 from rfl] at q2
              rw [show (40 : Int32).toInt = 40 from rfl]
              omega
      · unfold fX11_tray fX11_tray_b36 fX11_tray_b41
        rw [c2, Option.bind_some, if_pos rfl, within_v a2 0 3 0 3 l0 l3, Option.bind_some]
        by_cases q : 0 ≤ a2.toInt ∧ a2.toInt ≤ 3
        · rw [decide_eq_true q, if_pos rfl, within_v a3 0 40 0 40 l0 l40, decide_eq_false (by omega), Option.bind_some, if_neg (by decide), w5_5, if_neg (by decide)]
        · rw [decide_eq_false q, if_neg (by decide), w5_5, if_neg (by decide)]
    by_cases hb : (¬ (0 ≤ a2.toInt ∧ a2.toInt ≤ 3) ∨ ¬ (0 ≤ a3.toInt ∧ a3.toInt ≤ 40))
    · refine refV hR (e := 3) 2 (bad hb).1 rfl ?_
      rw [(bad hb).2, yo_s]
      exact smF.refl
    · obtain ⟨so, hso, rfl⟩ : ∃ j : Nat, j < 2 ^ 31 ∧ a2 = nI j := by
        rcases int_cases a2 with ⟨q, _⟩ | q
        · omega
        · exact q
      obtain ⟨ma, hma, rfl⟩ : ∃ j : Nat, j < 2 ^ 31 ∧ a3 = nI j := by
        rcases int_cases a3 with ⟨q, _⟩ | q
        · omega
        · exact q
      rw [nI_toInt hso, nI_toInt hma] at hb
      refine Or.inr ⟨fillJ (wI (wI (wI M (103 + 2 * t) 0 1) (103 + 2 * t) 2 (nI so)) (103 + 2 * t) 1 (nI ma)) (104 + 2 * t) 40 0, ?_, ?_⟩
      · unfold fX10_tray fX9_begin
        rw [c1, xb_r, if_neg (nI_pos hso), if_neg (show ¬ (3 : Int32) < nI so from nI_nlt (a := 3) (by omega) (by decide)), if_neg (nI_pos hma), if_pos (show nI ma ≤ (40 : Int32) from nI_le (b := 40) (by omega) (by decide)), Option.bind_some, Option.bind_some, show 103 + 2 * t + 1 = 104 + 2 * t by omega]
      · generalize hM1 : fillJ (wI (wI (wI M (103 + 2 * t) 0 1) (103 + 2 * t) 2 (nI so)) (103 + 2 * t) 1 (nI ma)) (104 + 2 * t) 40 0 = M1
        unfold fX11_tray fX11_tray_b41
        rw [c2, Option.bind_some, if_pos rfl, within_v (nI so) 0 3 0 3 l0 l3, nI_toInt hso, decide_eq_true (by omega), Option.bind_some, if_pos rfl, within_v (nI ma) 0 40 0 40 l0 l40, nI_toInt hma, decide_eq_true (by omega), Option.bind_some, if_pos rfl, w5_5, if_pos (by decide), if_pos (inB_nI ht (by decide)), if_pos (inB_nI ht (by decide)), nI_clamp (by omega)]
        generalize hM2 : wI (wI (wI M1 140 5 0) (140 + 22) t (nI so)) (140 + 23) t (nI ma) = M2
        have loop : Yo (fX11_tray_l69 N 140 (nI t) N (0 : Int32) M2) (fun x => (∀ a k, rI x a k = rI M2 a k) ∧ (∀ a, a ≠ 164 → x a = M2 a) ∧ (∀ k, rJ x 164 k = if 40 * t ≤ k ∧ k < 40 * t + 40 then 0 else rJ M2 164 k)) := by
          refine yo_f2 (F := fX11_tray_l69 N 140 (nI t)) 40 (fun k v M' => v = nI k ∧ (∀ a k, rI M' a k = rI M2 a k) ∧ (∀ a, a ≠ 164 → M' a = M2 a) ∧ (∀ i, rJ M' 164 i = if 40 * t ≤ i ∧ i < 40 * t + k then 0 else rJ M2 164 i)) ?_ N 0 _ _ (by omega) (by omega) ⟨rfl, fun _ _ => rfl, fun _ _ => rfl, fun i => by rw [if_neg (by omega)]⟩
          intro f k v M' hk ⟨hv, h1, h2, h3⟩ ih
          subst hv
          show Yo (fX11_tray_l69_s N 140 (nI t) (fX11_tray_l69 N 140 (nI t) f) (nI k) M') _
          unfold fX11_tray_l69_s
          rcases Nat.lt_or_ge k 40 with hlt | hge
          · rw [if_neg (show ¬ (40 : Int32) ≤ nI k from nI_ge (b := 40) hlt (by decide)), ix40, if_pos (inB_nI (by omega) (by decide)), nI_clamp (by omega), nI_1]
            refine ih _ _ hlt ⟨rfl, fun a i => by rw [rI_wJ]; exact h1 a i, fun a ha => ?_, fun i => ?_⟩
            · exact ((smF.refl (S := [164])).pJ_ (by decide) _ _ a (by simpa using ha)).trans (h2 a ha)
            · rw [rJ_wJ, h3 i]
              by_cases q : i = 40 * t + k
              · rw [if_pos ⟨rfl, q⟩, if_pos (by omega)]
              · rw [if_neg (fun z => q z.2)]
                by_cases q2 : 40 * t ≤ i ∧ i < 40 * t + k
                · rw [if_pos q2, if_pos (by omega)]
                · rw [if_neg q2, if_neg (by omega)]
          · rw [if_pos (show (40 : Int32) ≤ nI k from nI_le (a := 40) hge (by omega)), yo_s]
            exact ⟨h1, h2, fun i => by rw [h3 i, show k = 40 by omega]⟩
        refine loop.to (fun x hx => ?_)
        obtain ⟨x1, x2, x3⟩ := hx
        have F1 : smF [103 + 2 * t, 104 + 2 * t] M M1 := by
          rw [← hM1]
          exact ((((smF.refl).pI_ (by simp) _ _).pI_ (by simp) _ _).pI_ (by simp) _ _).pJs_ (by simp) _
        have F2 : smF [140, 162, 163] M1 M2 := by
          rw [← hM2]
          exact (((smF.refl).pI_ (by simp) _ _).pI_ (by simp) _ _).pI_ (by simp) _ _
        have r164 : ∀ k, rJ M2 164 k = rJ M 164 k := fun k => by rw [F2.J_ (by decide), F1.J_ (by simp; omega)]
        refine ⟨?_, rel_tr hR ht (fun a h1 h2 h3 h4 h5 h6 h7 => ?_) (fun k hk => ?_) (fun u hu => ?_) (fun u hu => ?_) (fun u hu j hj => ?_) (Or.inr ⟨so, ma, ?_, by omega, by omega, ?_, ?_, ?_, ?_, fun j hj => ?_⟩)⟩
        · rw [x1, ← hM2, rI_wI, if_neg (by omega), rI_wI, if_neg (by omega), w5_5]
        · rw [x2 a h7, F2 a (by simp; omega), F1 a (by simp; omega)]
        · rw [x1, ← hM2, rI_wI, if_neg (by omega), rI_wI, if_neg (by omega), rI_wI, if_neg (by omega), F1.I_ (by simp; omega)]
        · rw [x1, ← hM2, rI_wI, if_neg (by omega), rI_wI, if_neg (by omega), rI_wI, if_neg (by omega), F1.I_ (by simp; omega)]
        · rw [x1, ← hM2, rI_wI, if_neg (by omega), rI_wI, if_neg (by omega), rI_wI, if_neg (by omega), F1.I_ (by simp; omega)]
        · rw [x3, if_neg (by omega), r164]
        · rw [x1, F2.I_ (by simp; omega), ← hM1, rI_fillJ, rI_wI, if_neg (by omega), rI_wI, if_neg (by omega), rI_wI, if_pos ⟨rfl, rfl⟩]
        · rw [x1, ← hM2, rI_wI, if_neg (by omega), rI_wI, if_pos ⟨rfl, rfl⟩]
        · rw [x1, F2.I_ (by simp; omega), ← hM1, rI_fillJ, rI_wI, if_neg (by omega), rI_wI, if_pos ⟨rfl, rfl⟩]
        · rw [x1, ← hM2, rI_wI, if_pos ⟨rfl, rfl⟩]
        · rw [x1, F2.I_ (by simp; omega), ← hM1, rI_fillJ, rI_wI, if_pos ⟨rfl, rfl⟩]
        · rw [x3, if_pos (by omega), eqs_rJ (x2 _ (by omega)), F2.J_ (by simp; omega), ← hM1, rJ_fillJ, if_pos ⟨rfl, hj⟩]
