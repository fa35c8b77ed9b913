/-! SEMANTICS: image, restore, feed -/
theorem imageAt_ok (v : Int32) (M : Mem) :
    (fX10_imageAt 0 v M = some (.inl 1, M) ∧ ∀ M' : Mem, fX11_within v.toInt64 (0 : Int64) (2 : Int64) M' = some false) ∨
    (∃ i, i < 3 ∧ v = nI i ∧ fX10_imageAt 0 v M = some (.inr (27 + 25 * i), M) ∧ ∀ M' : Mem, fX11_within v.toInt64 (0 : Int64) (2 : Int64) M' = some true) := by
  obtain ⟨l0, _, l2, _⟩ := lj_toInt
  unfold fX10_imageAt fX10_imageAt_b9
  rcases int_cases v with ⟨h0, h1⟩ | ⟨i, hi, rfl⟩
  · refine Or.inl ⟨by rw [if_pos h1], fun M' => ?_⟩
    rw [within_v v 0 2 0 2 l0 l2, decide_eq_false (by omega)]
  · rw [if_neg (nI_pos hi)]
    rcases Nat.lt_or_ge i 3 with h3 | h3
    · refine Or.inr ⟨i, h3, rfl, ?_, fun M' => ?_⟩
      · rw [if_pos (show nI i < (3 : Int32) from nI_lt (b := 3) h3 (by decide)), if_pos (inB_nI h3 (by decide)), nI_clamp hi, show 0 + 26 + 1 + 25 * i = 27 + 25 * i by omega]
      · rw [within_v (nI i) 0 2 0 2 l0 l2, nI_toInt hi, decide_eq_true (by omega)]
    · refine Or.inl ⟨?_, fun M' => ?_⟩
      · rw [if_neg (show ¬ nI i < (3 : Int32) from nI_nlt (b := 3) h3 hi)]
      · rw [within_v (nI i) 0 2 0 2 l0 l2, nI_toInt hi, decide_eq_false (by omega)]
theorem ix3268 {i j : Nat} : (3268 : Int32) * nI i + nI j = nI (3268 * i + j) := by rw [li_3268, pk_mul, nI_add]
theorem ag_image {N : Nat} (hN : 4000 ≤ N) (a1 : Int32) (M : Mem) (hR : Rel M) : agV (fX10_image N 0 a1 M) (fX11_image N 140 a1) (fun k Mj1 => if k = 1 then some ((1 : Int32), Mj1) else none) M := by
  rcases imageAt_ok a1 M with ⟨c1, c2⟩ | ⟨i, hi, rfl, c1, c2⟩
  · refine refV hR (e := 1) 1 ?_ rfl ?_
    · unfold fX10_image; rw [c1, xb_l]
    · unfold fX11_image fX11_image_b18
      rw [c2, Option.bind_some, if_neg (by decide), w5_5, if_neg (by decide), yo_s]
      exact smF.refl
  · obtain ⟨hS, hI, hT, hP, hA⟩ := hR
    obtain ⟨W, g, m, hS⟩ := hS
    obtain ⟨x, h1, h2, h3⟩ := shCopy (N := N) (by omega) (v0 := 27 + 25 * i) (by omega) hS
    generalize hM1 : wI x 0 6 ((rI x 0 6) ||| (shlI (1 : Int32) (nI i))) = M1
    have F1 : smF [0] x M1 := by rw [← hM1]; exact smF.refl.pI_ (by simp) _ _
    have E1 : ∀ a, ¬ (27 + 25 * i ≤ a ∧ a < 27 + 25 * i + 25) → a ≠ 0 → M1 a = M a := fun a ha h0 => by rw [F1 a (by simpa using h0), h3 a ha]
    refine Or.inr ⟨M1, ?_, ?_⟩
    · unfold fX10_image
      rw [c1, xb_r, h1, Option.bind_some, ← hM1]
    · unfold fX11_image fX11_image_b18
      rw [c2, Option.bind_some, if_pos rfl, w5_5, if_pos (by decide), if_pos (inB_nI hi (by decide)), nI_clamp (by omega)]
      generalize hM2 : wI (wI M1 140 5 (bI false)) (140 + 5) i (vp_nar .boolean (1 : Int32)) = M2
      have F2 : smF [140, 145] M1 M2 := by rw [← hM2]; exact (smF.refl.pI_ (by simp) _ _).pI_ (by simp) _ _
      have loop : Yo (fX11_image_l38 N 140 (nI i) N (0 : Int32) M2) (fun y => (∀ a, a ≠ 143 → y a = M2 a) ∧ (∀ k, rI y 143 k = if 3268 * i ≤ k ∧ k < 3268 * i + 3268 then rI M2 141 (k - 3268 * i) else rI M2 143 k)) := by
        refine yo_f2 (F := fX11_image_l38 N 140 (nI i)) 3268 (fun k v M' => v = nI k ∧ (∀ a, a ≠ 143 → M' a = M2 a) ∧ (∀ z, rI M' 143 z = if 3268 * i ≤ z ∧ z < 3268 * i + k then rI M2 141 (z - 3268 * i) else rI M2 143 z)) ?_ N 0 _ _ (by omega) (by omega) ⟨rfl, fun _ _ => rfl, fun z => by rw [if_neg (by omega)]⟩
        intro f k v M' hk ⟨hv, g1, g2⟩ ih
        subst hv
        show Yo (fX11_image_l38_s N 140 (nI i) (fX11_image_l38 N 140 (nI i) f) (nI k) M') _
        unfold fX11_image_l38_s
        rcases Nat.lt_or_ge k 3268 with hlt | hge
        · rw [if_neg (show ¬ (3268 : Int32) ≤ nI k from nI_ge (b := 3268) hlt (by decide)), ix3268, if_pos (inB_nI hlt (by decide)), if_pos (inB_nI (by omega) (by decide)), nI_clamp (by omega), nI_clamp (by omega), nI_1]
          refine ih _ _ hlt ⟨rfl, fun a ha => ?_, fun z => ?_⟩
          · exact (smF.refl (S := [143]).pI_ (by simp) _ _ a (by simpa using ha)).trans (g1 a ha)
          · rw [show 140 + 3 = 143 from rfl, rI_wI, g2 z]
            by_cases q : z = 3268 * i + k
            · rw [if_pos ⟨rfl, q⟩, if_pos (by omega), eqs_rI (g1 141 (by decide)), show z - 3268 * i = k by omega]
            · rw [if_neg (fun y => q y.2)]
              by_cases q2 : 3268 * i ≤ z ∧ z < 3268 * i + k
              · rw [if_pos q2, if_pos (by omega)]
              · rw [if_neg q2, if_neg (by omega)]
        · rw [if_pos (show (3268 : Int32) ≤ nI k from nI_le (a := 3268) hge (by omega)), yo_s]
          exact ⟨g1, fun z => by rw [g2 z, show k = 3268 by omega]⟩
      refine loop.to (fun y hy => ?_)
      obtain ⟨y1, y2⟩ := hy
      have EY : ∀ a, ¬ (27 + 25 * i ≤ a ∧ a < 27 + 25 * i + 25) → a ≠ 0 → a ≠ 140 → a ≠ 143 → a ≠ 145 → y a = M a := fun a q1 q2 q3 q4 q5 => by
        rw [y1 a q4, F2 a (by simp; omega), E1 a q1 q2]
      have e0 : ∀ k, k ≠ 6 → rI y 0 k = rI M 0 k := fun k hk => by
        rw [eqs_rI (y1 0 (by omega)), F2.I_ (by simp), ← hM1, rI_wI, if_neg (by omega), eqs_rI (h3 0 (by omega))]
      have e6 : rI y 0 6 = rI M 0 6 ||| shlI 1 (nI i) := by
        rw [eqs_rI (y1 0 (by omega)), F2.I_ (by simp), ← hM1, rI_wI, if_pos ⟨rfl, rfl⟩, eqs_rI (h3 0 (by omega))]
      have e140 : ∀ k, k ≠ 5 → rI y 140 k = rI M 140 k := fun k hk => by
        rw [eqs_rI (y1 140 (by omega)), ← hM2, rI_wI, if_neg (by omega), rI_wI, if_neg (by omega), eqs_rI (E1 140 (by omega) (by omega))]
      have e145 : ∀ k, k ≠ i → rI y 145 k = rI M 145 k := fun k hk => by
        rw [eqs_rI (y1 145 (by omega)), ← hM2, rI_wI, if_neg (by omega), rI_wI, if_neg (by omega), eqs_rI (E1 145 (by omega) (by omega))]
      have e145i : rI y 145 i = 1 := by
        rw [eqs_rI (y1 145 (by omega)), ← hM2, rI_wI, if_pos ⟨rfl, rfl⟩]
        rfl
      have eM2 : ∀ k, rI M2 141 k = rI M 141 k := fun k => by rw [F2.I_ (by simp), eqs_rI (E1 141 (by omega) (by omega))]
      have eM3 : ∀ k, rI M2 143 k = rI M 143 k := fun k => by rw [F2.I_ (by simp), eqs_rI (E1 143 (by omega) (by omega))]
      refine ⟨?_, relS_mv ⟨W, g, m, hS⟩ (fun a q1 q2 q3 => EY a (by omega) q3 (by omega) (by omega) (by omega)) (EY 141 (by omega) (by omega) (by omega) (by omega) (by omega)), fun k hk => ?_, relT_iff.mpr (fun t ht => trS_mv (relT_iff.mp hT t ht) (EY _ (by omega) (by omega) (by omega) (by omega) (by omega)) (EY _ (by omega) (by omega) (by omega) (by omega) (by omega)) (eqs_rI (EY 162 (by omega) (by omega) (by omega) (by omega) (by omega)) _) (eqs_rI (EY 163 (by omega) (by omega) (by omega) (by omega) (by omega)) _) (fun j _ => eqs_rJ (EY 164 (by omega) (by omega) (by omega) (by omega) (by omega)) _)), relP_mv hP (eqs_rI (EY 111 (by omega) (by omega) (by omega) (by omega) (by omega)) _) (e140 7 (by omega)) (EY 146 (by omega) (by omega) (by omega) (by omega) (by omega)) (EY 119 (by omega) (by omega) (by omega) (by omega) (by omega)), ?_⟩
      · rw [eqs_rI (y1 140 (by omega)), ← hM2, rI_wI, if_neg (by omega), w5_5]
        rfl
      · rw [e6, bt_or, bt_one (by omega) (by omega)]
        by_cases q : k = i
        · subst q
          refine Or.inr ⟨by simp, e145i, W, g, m, ?_⟩
          refine cSh_cong (T := (M 141).1) (fun j hj => ?_) (h2.moved (fun a q1 q2 q3 => ?_))
          · unfold imT
            rw [y2, if_pos (by omega), eM2, show 3268 * k + j - 3268 * k = j by omega]
            rfl
          · rw [y1 a (by omega), F2 a (by simp; omega), F1 a (by simp; omega)]
        · rw [decide_eq_false q, Bool.or_false, e145 k q]
          have eT : ∀ j, j < 3268 → imT y k j = imT M k j := fun j hj => by
            unfold imT
            rw [y2, if_neg (by omega), eM3]
          rcases hI k hk with z | ⟨z1, z2, W', g', m', z3⟩
          · exact Or.inl z
          · exact Or.inr ⟨z1, z2, W', g', m', cSh_cong eT (z3.moved (fun a q1 q2 q3 => EY a (by omega) (by omega) (by omega) (by omega) (by omega)))⟩
      · unfold relA at hA ⊢
        rw [e0 0 (by omega), e0 1 (by omega), e0 2 (by omega), e0 3 (by omega), e140 16 (by omega), e140 17 (by omega), e140 26 (by omega), e140 27 (by omega)]
        exact hA
theorem ag_restore {N : Nat} (hN : 4000 ≤ N) (a1 : Int32) (M : Mem) (hR : Rel M) : agV (fX10_restore N 0 a1 M) (fX11_restore N 140 a1) (fun k Mj1 => if k = 1 then some ((1 : Int32), Mj1) else if k = 2 then some ((2 : Int32), Mj1) else none) M := by
  rcases imageAt_ok a1 M with ⟨c1, c2⟩ | ⟨i, hi, rfl, c1, c2⟩
  · refine refV hR (e := 1) 1 ?_ rfl ?_
    · unfold fX10_restore; rw [c1, xb_l]
    · unfold fX11_restore fX11_restore_b31
      rw [c2, Option.bind_some, if_neg (by decide), w5_5, if_neg (by decide), yo_s]
      exact smF.refl
  · rcases hR.2.1 i hi with ⟨d1, d2⟩ | ⟨d1, d2, W, g, m, hS⟩
    · refine refV hR (e := 2) 2 ?_ rfl ?_
      · unfold fX10_restore; rw [c1, xb_r, if_pos ((bt_test _ (by omega)).mpr d1)]
      · unfold fX11_restore fX11_restore_b31
        rw [c2, Option.bind_some, if_pos rfl, if_pos (inB_nI hi (by decide)), nI_clamp (by omega), show rI M (140 + 5) i = 0 from d2, if_pos rfl, w5_5, if_neg (by decide), yo_s]
        exact smF.refl
    · obtain ⟨_, hI, hT, hP, hA⟩ := hR
      obtain ⟨x, h1, h2, h3⟩ := shCopy (N := N) (by omega) (v0 := 1) (by omega) hS
      refine Or.inr ⟨x, ?_, ?_⟩
      · unfold fX10_restore
        rw [c1, xb_r, if_neg (fun z => by rw [bt_test _ (by omega)] at z; rw [z] at d1; cases d1), h1, Option.bind_some]
      · unfold fX11_restore fX11_restore_b31
        have e145 : rI x (140 + 5) i = 1 := by rw [← d2]; exact eqs_rI (h3 145 (by omega)) i
        rw [c2, Option.bind_some, if_pos rfl, if_pos (inB_nI hi (by decide)), nI_clamp (by omega), e145, if_neg (by decide), w5_5, if_pos (by decide)]
        generalize hM2 : wI x 140 5 0 = M2
        have F2 : smF [140] x M2 := by rw [← hM2]; exact smF.refl.pI_ (by simp) _ _
        have loop : Yo (fX11_restore_l44 N 140 (nI i) N (0 : Int32) M2) (fun y => (∀ a, a ≠ 141 → y a = M2 a) ∧ (∀ k, k < 3268 → rI y 141 k = rI M2 143 (3268 * i + k))) := by
          refine yo_f2 (F := fX11_restore_l44 N 140 (nI i)) 3268 (fun k v M' => v = nI k ∧ (∀ a, a ≠ 141 → M' a = M2 a) ∧ (∀ z, z < k → rI M' 141 z = rI M2 143 (3268 * i + z))) ?_ N 0 _ _ (by omega) (by omega) ⟨rfl, fun _ _ => rfl, fun z hz => absurd hz (Nat.not_lt_zero z)⟩
          intro f k v M' hk ⟨hv, g1, g2⟩ ih
          subst hv
          show Yo (fX11_restore_l44_s N 140 (nI i) (fX11_restore_l44 N 140 (nI i) f) (nI k) M') _
          unfold fX11_restore_l44_s
          rcases Nat.lt_or_ge k 3268 with hlt | hge
          · rw [if_neg (show ¬ (3268 : Int32) ≤ nI k from nI_ge (b := 3268) hlt (by decide)), ix3268, if_pos (inB_nI (by omega) (by decide)), if_pos (inB_nI hlt (by decide)), nI_clamp (by omega), nI_clamp (by omega), nI_1]
            refine ih _ _ hlt ⟨rfl, fun a ha => ?_, fun z hz => ?_⟩
            · exact (smF.refl (S := [141]).pI_ (by simp) _ _ a (by simpa using ha)).trans (g1 a ha)
            · rw [show 140 + 1 = 141 from rfl, rI_wI]
              by_cases q : z = k
              · rw [if_pos ⟨rfl, q⟩, show 140 + 3 = 143 from rfl, eqs_rI (g1 143 (by decide)), q]
              · rw [if_neg (fun y => q y.2), g2 z (by omega)]
          · rw [if_pos (show (3268 : Int32) ≤ nI k from nI_le (a := 3268) hge (by omega)), yo_s]
            exact ⟨g1, fun z hz => g2 z (by omega)⟩
        refine loop.to (fun y hy => ?_)
        obtain ⟨y1, y2⟩ := hy
        have EY : ∀ a, 26 ≤ a → a ≠ 140 → a ≠ 141 → y a = M a := fun a q1 q2 q3 => by rw [y1 a q3, F2 a (by simpa using q2), h3 a (by omega)]
        have E0 : y 0 = M 0 := by rw [y1 0 (by omega), F2 0 (by simp), h3 0 (by omega)]
        have e140 : ∀ k, k ≠ 5 → rI y 140 k = rI M 140 k := fun k hk => by
          rw [eqs_rI (y1 140 (by omega)), ← hM2, rI_wI, if_neg (by omega), eqs_rI (h3 140 (by omega))]
        refine ⟨?_, ⟨W, g, m, cSh_cong (T := imT M i) (fun j hj => ?_) (h2.moved (fun a q1 q2 q3 => ?_))⟩, relI_mv hI (fun a q1 q2 => EY a (by omega) (by omega) (by omega)) (eqs_rI E0 6) (EY 143 (by omega) (by omega) (by omega)) (EY 145 (by omega) (by omega) (by omega)), relT_iff.mpr (fun t ht => trS_mv (relT_iff.mp hT t ht) (EY _ (by omega) (by omega) (by omega)) (EY _ (by omega) (by omega) (by omega)) (eqs_rI (EY 162 (by omega) (by omega) (by omega)) _) (eqs_rI (EY 163 (by omega) (by omega) (by omega)) _) (fun j _ => eqs_rJ (EY 164 (by omega) (by omega) (by omega)) _)), relP_mv hP (eqs_rI (EY 111 (by omega) (by omega) (by omega)) _) (e140 7 (by omega)) (EY 146 (by omega) (by omega) (by omega)) (EY 119 (by omega) (by omega) (by omega)), relA_mv hA E0 (fun k q _ => e140 k q)⟩
        · rw [eqs_rI (y1 140 (by omega)), ← hM2, w5_5]
        · show rI y 141 j = _
          rw [y2 j hj, F2.I_ (by simp), eqs_rI (h3 143 (by omega))]
          rfl
        · rw [y1 a (by omega), F2 a (by simp; omega)]
