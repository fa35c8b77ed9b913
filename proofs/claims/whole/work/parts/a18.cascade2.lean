/-! SEMANTICS: cascade, its faults -/
def awP (M : Mem) (u ms : Nat) : Prop := ∀ j, j < ms → 1 ≤ (rJ M 164 (40 * u + j)).toInt ∧ (rJ M 164 (40 * u + j)).toInt ≤ 64
theorem awP_sz {M : Mem} {u ms : Nat} (h : awP M u ms) : ∀ i, i < ms → (1 ≤ nmN M u i ∧ nmN M u i ≤ 64) ∧ (rJ M 164 (40 * u + i)).toInt32 = nI (nmN M u i) := fun i hi => by
  obtain ⟨h1, h2⟩ := h i hi
  have := nm_nat (W := 65) (by omega) (show isNm 65 (rJ M 164 (40 * u + i)) from ⟨by omega, by omega⟩)
  refine ⟨?_, this.1⟩
  unfold nmN
  omega
theorem c_within {N : Nat} (hN : 700 ≤ N) {M : Mem} {u so ms : Nat} (tr : trX M u so ms) : fX9_allWithin N (103 + 2 * u) (1 : Int32) (64 : Int32) M = some (bo (awP M u ms)) := by
  obtain ⟨t1, t2, t3, t4, t5, t6, t7, t8⟩ := tr
  rw [← yo_eq]
  unfold fX9_allWithin
  refine yo_f1 (F := fX9_allWithin_l2 N (103 + 2 * u) (1 : Int32) (64 : Int32) M) ms (fun k v => v = nI k ∧ ∀ j, j < k → 1 ≤ (rJ M 164 (40 * u + j)).toInt ∧ (rJ M 164 (40 * u + j)).toInt ≤ 64) ?_ N 0 _ (by omega) (by omega) ⟨rfl, fun j hj => absurd hj (Nat.not_lt_zero j)⟩
  intro f k v hk ⟨hv, hI⟩ ih
  subst hv
  show Yo (fX9_allWithin_l2_s N (103 + 2 * u) (1 : Int32) (64 : Int32) M (fX9_allWithin_l2 N (103 + 2 * u) (1 : Int32) (64 : Int32) M f) (nI k)) _
  unfold fX9_allWithin_l2_s fX9_allWithin_b32
  rw [t7]
  rcases Nat.lt_or_ge k ms with hlt | hge
  · rw [if_neg (nI_ge hlt (by omega)), num_ok (by omega), Option.bind_some, Option.bind_some, show 103 + 2 * u + 1 = 104 + 2 * u by omega, t8 k (by omega), nI_1]
    have w1 : (1 : Int32).toInt64.toInt = 1 := by decide
    have w64 : (64 : Int32).toInt64.toInt = 64 := by decide
    refine yo_i (fun z => ?_) (fun z => ?_)
    · rw [yo_s]
      rw [Int64.lt_iff_toInt_lt, w1] at z
      exact (bo_f (fun y => by have := (y k hlt).1; omega)).symm
    · rw [Int64.lt_iff_toInt_lt, w1] at z
      refine yo_i (fun z2 => ?_) (fun z2 => ?_)
      · rw [Int64.le_iff_toInt_le, w64] at z2
        refine ih _ hlt ⟨rfl, fun j hj => ?_⟩
        by_cases q : j = k
        · subst q; exact ⟨by omega, z2⟩
        · exact hI j (by omega)
      · rw [Int64.le_iff_toInt_le, w64] at z2
        rw [yo_s]
        exact (bo_f (fun y => by have := (y k hlt).2; omega)).symm
  · have e : k = ms := by omega
    subst e
    rw [if_pos (nI_le hge (by omega)), yo_s]
    exact (bo_t hI).symm
theorem c_what (v : Int32) (M : Mem) : fX10_needWhat v (2 : Int32) M = if 0 ≤ v.toInt ∧ v.toInt ≤ 2 then some (.inr (), M) else some (.inl 3, M) := by
  unfold fX10_needWhat fX10_needWhat_b9
  have w0 : (0 : Int32).toInt = 0 := rfl
  have w2 : (2 : Int32).toInt = 2 := rfl
  by_cases z : v < 0
  · rw [if_pos z, if_neg]
    rw [Int32.lt_iff_toInt_lt, w0] at z
    omega
  · rw [if_neg z]
    rw [Int32.lt_iff_toInt_lt, w0] at z
    by_cases z2 : v ≤ 2
    · rw [if_pos z2, if_pos]
      rw [Int32.le_iff_toInt_le, w2] at z2
      omega
    · rw [if_neg z2, if_neg]
      rw [Int32.le_iff_toInt_le, w2] at z2
      omega
theorem r_within0 {N : Nat} {a1 a2 a3 a4 : Int32} {M : Mem} {f : Nat} {v : Int32} : fX11_cascade_l111 N 140 a1 a2 a3 a4 M (f + 1) false v = fX11_cascade_b154 N 140 a1 a2 a3 a4 false M := by
  show fX11_cascade_l111_s N 140 a1 a2 a3 a4 M (fX11_cascade_l111 N 140 a1 a2 a3 a4 M f) false v = _
  unfold fX11_cascade_l111_s
  rw [if_neg (by decide)]
theorem r_within {N : Nat} {a1 a2 a4 : Int32} {M M0 : Mem} {u ms : Nat} (hu : u < 4) (hms : ms ≤ 40) (e1 : rI M 163 u = nI ms) (e2 : M 164 = M0 164) : ∀ (d f k : Nat), k + d = ms → d + 1 < f → (∀ j, j < k → 1 ≤ (rJ M0 164 (40 * u + j)).toInt ∧ (rJ M0 164 (40 * u + j)).toInt ≤ 64) →
    fX11_cascade_l111 N 140 a1 a2 (nI u) a4 M f true (nI k) = fX11_cascade_b154 N 140 a1 a2 (nI u) a4 (bo (awP M0 u ms)) M := by
  intro d
  induction d with
  | zero =>
    intro f k hk hf hI
    obtain ⟨f, rfl⟩ : ∃ f', f = f' + 1 := ⟨f - 1, by omega⟩
    show fX11_cascade_l111_s N 140 a1 a2 (nI u) a4 M (fX11_cascade_l111 N 140 a1 a2 (nI u) a4 M f) true (nI k) = _
    unfold fX11_cascade_l111_s
    rw [if_pos rfl, if_pos (inB_nI hu (by decide)), nI_clamp (by omega), show (140 + 23 : Nat) = 163 from rfl, e1, if_pos (nI_le (by omega) (by omega)), bo_t (show awP M0 u ms from fun j hj => hI j (by omega))]
  | succ d ih =>
    intro f k hk hf hI
    obtain ⟨f, rfl⟩ : ∃ f', f = f' + 1 := ⟨f - 1, by omega⟩
    show fX11_cascade_l111_s N 140 a1 a2 (nI u) a4 M (fX11_cascade_l111 N 140 a1 a2 (nI u) a4 M f) true (nI k) = _
    unfold fX11_cascade_l111_s
    obtain ⟨m1, m2⟩ := rnum_ok hu (show k < 40 by omega) M
    rw [if_pos rfl, if_pos (inB_nI hu (by decide)), nI_clamp (by omega), show (140 + 23 : Nat) = 163 from rfl, e1, if_neg (nI_ge (show k < ms by omega) (by omega)), if_pos m1, m2, eqs_rJ e2, within_ok, Option.bind_some, nI_1]
    by_cases q : (1 : Int64).toInt ≤ (rJ M0 164 (40 * u + k)).toInt ∧ (rJ M0 164 (40 * u + k)).toInt ≤ (64 : Int64).toInt
    · rw [decide_eq_true q]
      refine ih f (k + 1) (by omega) (by omega) (fun j hj => ?_)
      by_cases e : j = k
      · subst e; exact q
      · exact hI j (by omega)
    · obtain ⟨f, rfl⟩ : ∃ f', f = f' + 1 := ⟨f - 1, by omega⟩
      rw [decide_eq_false q, r_within0, bo_f (fun z => q (z k (by omega)))]
theorem r_casFail {N : Nat} (hN : 0 < N) {a1 a2 a3 a4 : Int32} {M : Mem} (h : rI M 140 5 = 1 ∨ rI M 140 5 = 2) : fX11_cascade_b72 N 140 a1 a2 a3 a4 M = some (0, M) := by
  obtain ⟨f, rfl⟩ : ∃ f, N = f + 1 := ⟨N - 1, by omega⟩
  unfold fX11_cascade_b72 fX11_cascade_b105 fX11_cascade_b106
  rcases h with h | h
  · rw [h, if_neg (by decide), r_within0]
    unfold fX11_cascade_b154 fX11_cascade_b171
    rw [h, if_neg (by decide), if_neg (by decide)]
  · rw [h, if_neg (by decide), r_within0]
    unfold fX11_cascade_b154 fX11_cascade_b171
    rw [h, if_neg (by decide), if_neg (by decide)]
theorem ag_cascade {N : Nat} (hN : 700 ≤ N) (a1 a2 a3 a4 : Int32) (M : Mem) (hR : Rel M) : agI (fX10_cascade N 0 a1 a2 a3 a4 M) (fX11_cascade N 140 a1 a2 a3 a4) (fun k Mj1 => if k = 1 then some ((1 : Int32), Mj1) else if k = 2 then some ((2 : Int32), Mj1) else if k = 3 then some ((3 : Int32), Mj1) else none) M := by
  obtain ⟨W, g, m, hS⟩ := hR.1
  have f1 : ∀ M' : Mem, fX11_cascade_b23 N 140 a1 a2 a3 a4 140 M' = some (0, wI M' 140 5 1) := fun M' => by
    unfold fX11_cascade_b23 fX11_cascade_b28
    rw [show bI true = (1 : Int32) from rfl, w5_5, if_neg (by decide), r_casFail (by omega) (Or.inl (w5_5 _ _))]
  rcases rowAt_ok hS a1 with ⟨c1, c2⟩ | ⟨r, hr, rfl, hh, c1, c2⟩
  · refine refI hR (e := 1) 1 ?_ rfl (by decide) ?_
    · unfold fX10_cascade; rw [c1, xb_l]
    · unfold fX11_cascade
      rw [c2 M rfl, Option.bind_some, if_neg (by decide), f1, yo_s]
      exact smF.refl
  · rcases trayAt_ok a2 M with ⟨d1, d2⟩ | ⟨t, ht, rfl, d1, d2⟩
    · refine refI hR (e := 1) 1 ?_ rfl (by decide) ?_
      · unfold fX10_cascade; rw [c1, xb_r, d1, xb_l]
      · unfold fX11_cascade
        rw [c2 M rfl, Option.bind_some, if_pos rfl, d2, Option.bind_some, if_neg (by decide), f1, yo_s]
        exact smF.refl
    · rcases trayAt_ok a3 M with ⟨e1, e2⟩ | ⟨u, hu, rfl, e1, e2⟩
      · refine refI hR (e := 1) 1 ?_ rfl (by decide) ?_
        · unfold fX10_cascade; rw [c1, xb_r, d1, xb_r, e1, xb_l]
        · unfold fX11_cascade
          rw [c2 M rfl, Option.bind_some, if_pos rfl, d2, Option.bind_some, if_pos rfl, e2, Option.bind_some, if_neg (by decide), f1, yo_s]
          exact smF.refl
      · obtain ⟨kd, sz0, mk, ex, ly, hc, hr'⟩ := sX hS hr hh
        have hk4 := hc.2.2.2.2.1.1
        have hW : W ≤ 256 := hc.W1.2.2
        have hx0 : ∀ M' : Mem, M' 141 = M 141 → rX (wI M' 140 5 0) (M 141).1 r W g m kd sz0 mk ex ly := fun M' e => hr' _ (by rw [w5_141, e])
        have f2 : ∀ M' : Mem, fX11_cascade_b67 N 140 (nI r) (nI t) (nI u) a4 (wI M' 140 5 0) = some (0, wI M' 140 5 2) := fun M' => by
          unfold fX11_cascade_b67
          rw [wI_wI, r_casFail (by omega) (Or.inr (w5_5 _ _))]
        have hrf : ∀ M' : Mem, M' 141 = M 141 → fX11_cascade N 140 (nI r) (nI t) (nI u) a4 M' = if kd = 0 then if rI M' 162 t = -1 then some (0, wI M' 140 5 2) else if rI M' 162 u = -1 then some (0, wI M' 140 5 2) else fX11_cascade_b72 N 140 (nI r) (nI t) (nI u) a4 (wI M' 140 5 0) else some (0, wI M' 140 5 2) := fun M' e => by
          unfold fX11_cascade fX11_cascade_b28
          rw [c2 M' (by rw [e]), Option.bind_some, if_pos rfl, d2, Option.bind_some, if_pos rfl, e2, Option.bind_some, if_pos rfl, show bI false = (0 : Int32) from rfl, w5_5, if_pos rfl, (hx0 M' e).flds.1, Option.bind_some, f2]
          by_cases k0 : kd = 0
          · rw [if_pos (show nI kd = (0 : Int32) from by rw [k0]; rfl), if_pos k0, if_pos (inB_nI ht (by decide)), if_pos (inB_nI hu (by decide)), nI_clamp (show t < 2147483648 by omega), nI_clamp (show u < 2147483648 by omega), w5_162, w5_162]
          · rw [if_neg (show ¬ nI kd = (0 : Int32) from nI_ne0 (by omega) (by omega)), if_neg k0]
        by_cases k0 : kd = 0
        · have hnk : fX10_needKind (10 + 4 * r) (0 : Int32) M = some (.inr (), M) := by
            unfold fX10_needKind
            rw [hc.flds.1, if_pos (show nI kd = (0 : Int32) from by rw [k0]; rfl)]
          rcases filled_ok (relT_iff.mp hR.2.2.1 t ht) with ⟨h1, h2⟩ | ⟨so, ma, tr, h1, h2⟩
          · refine refI hR (e := 2) 2 ?_ rfl (by decide) ?_
            · unfold fX10_cascade; rw [c1, xb_r, d1, xb_r, e1, xb_r, hnk, xb_r, h1, xb_l]
            · rw [hrf M rfl, if_pos k0, if_pos h2, yo_s]
              exact smF.refl
          · rcases filled_ok (relT_iff.mp hR.2.2.1 u hu) with ⟨i1, i2⟩ | ⟨so2, ms, tr2, i1, i2⟩
            · refine refI hR (e := 2) 2 ?_ rfl (by decide) ?_
              · unfold fX10_cascade; rw [c1, xb_r, d1, xb_r, e1, xb_r, hnk, xb_r, h1, xb_r, i1, xb_l]
              · rw [hrf M rfl, if_pos k0, if_neg h2, if_pos i2, yo_s]
                exact smF.refl
            · have hcl : fX10_cascade N 0 (nI r) (nI t) (nI u) a4 M = xb (if 0 ≤ a4.toInt ∧ a4.toInt ≤ 2 then some (.inr (), M) else some (.inl 3, M)) fun qj7 Mj7 => xb (fX10_needNames N 0 (103 + 2 * t) Mj7) fun qj8 Mj8 => (fX9_allWithin N (103 + 2 * u) (1 : Int32) (64 : Int32) Mj8).bind fun qj9 => if qj9 = true then (fX1_build N 135 (10 + 4 * r) 2 (103 + 2 * t) (103 + 2 * u) Mj8).bind fun qj13 => if qj13.1 = true then if a4 = 0 then some (.inr (rI qj13.2 135 0), qj13.2) else if a4 = (1 : Int32) then some (.inr (rI qj13.2 135 1), qj13.2) else some (.inr (rI qj13.2 135 2), qj13.2) else some (.inr (-1 : Int32), qj13.2) else some (.inl 3, Mj8) := by
                unfold fX10_cascade
                rw [c1, xb_r, d1, xb_r, e1, xb_r, hnk, xb_r, h1, xb_r, i1, xb_r, c_what]
              -- the reference's way on from here
              have hrg : ∀ M' : Mem, M' 141 = M 141 → M' 162 = M 162 → M' 163 = M 163 → M' 164 = M 164 → fX11_cascade N 140 (nI r) (nI t) (nI u) a4 M' = fX11_cascade_b154 N 140 (nI r) (nI t) (nI u) a4 (bo ((0 ≤ a4.toInt ∧ a4.toInt ≤ 2) ∧ nmsP M t ma W ∧ awP M u ms)) (wI M' 140 5 0) := fun M' e q2 q3 q4 => by
                have w3 : (wI M' 140 5 0) 163 = M 163 := by rw [← q3]; exact smF.refl.pI_ (S := [140]) (by simp) 5 0 163 (by simp)
                have w4 : (wI M' 140 5 0) 164 = M 164 := by rw [← q4]; exact smF.refl.pI_ (S := [140]) (by simp) 5 0 164 (by simp)
                obtain ⟨N', hN'⟩ : ∃ N', N = N' + 1 := ⟨N - 1, by omega⟩
                have no : fX11_cascade_b105 N 140 (nI r) (nI t) (nI u) a4 (wI M' 140 5 0) = fX11_cascade_b154 N 140 (nI r) (nI t) (nI u) a4 false (wI M' 140 5 0) := by
                  unfold fX11_cascade_b105 fX11_cascade_b106
                  have := @r_within0 N (nI r) (nI t) (nI u) a4 (wI M' 140 5 0) N' 0
                  rw [← hN'] at this
                  exact this
                rw [hrf M' e, if_pos k0, if_neg (by rw [eqs_rI q2]; exact h2), if_neg (by rw [eqs_rI q2]; exact i2)]
                unfold fX11_cascade_b72
                rw [w5_5, if_pos rfl, within_v a4 0 2 0 2 lj_toInt.1 lj_toInt.2.2.1, Option.bind_some, no]
                by_cases z1 : 0 ≤ a4.toInt ∧ a4.toInt ≤ 2
                · rw [decide_eq_true z1, if_pos rfl, r_names hN false hS ht tr (by rw [w5_141, e]) w3 w4, Option.bind_some]
                  by_cases z2 : nmsP M t ma W
                  · rw [bo_t (show nmsP M t ma W ∧ (false = true → ¬ alkP M t ma) from ⟨z2, fun z => by cases z⟩), if_pos rfl]
                    unfold fX11_cascade_b106
                    have := r_within (N := N) (a1 := nI r) (a2 := nI t) (a4 := a4) hu tr2.2.2.1 (by rw [eqs_rI w3]; exact tr2.2.2.2.2.2.1) w4 ms N 0 (by omega) (by have := tr2.2.2.1; omega) (fun j hj => absurd hj (Nat.not_lt_zero j))
                    have this : fX11_cascade_l111 N 140 (nI r) (nI t) (nI u) a4 (wI M' 140 5 0) N true (0 : Int32) = _ := this
                    rw [this]
                    by_cases z3 : awP M u ms
                    · rw [bo_t z3, bo_t ⟨z1, z2, z3⟩]
                    · rw [bo_f z3, bo_f (fun z => z3 z.2.2)]
                  · rw [bo_f (fun z => z2 z.1), if_neg (by decide), bo_f (fun z => z2 z.2.1)]
                · rw [decide_eq_false z1, if_neg (by decide), bo_f (fun z => z1 z.1)]
              have bad : ¬ ((0 ≤ a4.toInt ∧ a4.toInt ≤ 2) ∧ nmsP M t ma W ∧ awP M u ms) → Yo (fX11_cascade N 140 (nI r) (nI t) (nI u) a4 M) (fun x => smF scrR (wI M 140 5 3) x.2) := fun q => by
                rw [hrg M rfl rfl rfl rfl, bo_f q]
                unfold fX11_cascade_b154 fX11_cascade_b171
                rw [w5_5, if_pos rfl, if_neg (by decide), wI_wI, w5_5, if_neg (by decide), yo_s]
                exact smF.refl
              by_cases z1 : 0 ≤ a4.toInt ∧ a4.toInt ≤ 2
              · rw [if_pos z1, xb_r] at hcl
                rcases c_names (N := N) hS tr with ⟨n1, n2⟩ | ⟨n1, n2⟩
                · rw [n2, xb_r, c_within hN tr2, Option.bind_some] at hcl
                  by_cases z3 : awP M u ms
                  · rw [bo_t z3, if_pos rfl] at hcl
                    have hpp := nmN_ok hW n1
                    have haw := awP_sz z3
                    have hma := tr.2.2.1
                    have hms := tr2.2.2.1
                    refine askI hR (lvF (M 141).1 mk W (nmN M u) a4 ms 0 (setS (M 141).1 r W) (setA (M 141).1 r W (nmN M t) ma) 0 0) ?_ (fun M' hM' => ?_)
                    · rw [hcl]
                      refine (c_build hN hc ht hma tr.2.2.2.2.2.2.1 (fun j hj => by rw [tr.2.2.2.2.2.2.2 j (by omega)]; exact hpp j hj) hu hms (fun i hi => (haw i hi).1) tr2.2.2.2.2.2.2.1 (fun i hi => by rw [tr2.2.2.2.2.2.2.2 i (by omega)]; exact (haw i hi).2)).bi (fun x hx => ?_)
                      rw [← hx.1 a4]
                      refine yo_i (fun y => ?_) (fun y => ?_)
                      · rw [if_pos y]
                        refine yo_i (fun y2 => ?_) (fun y2 => ?_)
                        · rw [if_pos y2, yo_s]; exact ⟨rfl, hx.2.mono (by decide)⟩
                        · rw [if_neg y2]
                          refine yo_i (fun y3 => ?_) (fun y3 => ?_)
                          · rw [if_pos y3, yo_s]; exact ⟨rfl, hx.2.mono (by decide)⟩
                          · rw [if_neg y3, yo_s]; exact ⟨rfl, hx.2.mono (by decide)⟩
                      · rw [if_neg y, yo_s]; exact ⟨rfl, hx.2.mono (by decide)⟩
                    · rw [hrg M' (hM' 141 (by decide)) (hM' 162 (by decide)) (hM' 163 (by decide)) (hM' 164 (by decide)), bo_t ⟨z1, n1, z3⟩]
                      unfold fX11_cascade_b154
                      rw [w5_5, if_pos rfl, if_pos rfl]
                      have g3 : (wI M' 140 5 0) 163 = M 163 := by rw [← hM' 163 (by decide)]; exact smF.refl.pI_ (S := [140]) (by simp) 5 0 163 (by simp)
                      have g4 : (wI M' 140 5 0) 164 = M 164 := by rw [← hM' 164 (by decide)]; exact smF.refl.pI_ (S := [140]) (by simp) 5 0 164 (by simp)
                      refine (r_cascade (what := a4) hN (hx0 M' (hM' 141 (by decide))) ht hma (by rw [eqs_rI g3]; exact tr.2.2.2.2.2.1) (fun j hj => by rw [eqs_rJ g4]; exact hpp j hj) hu hms (fun i hi => (haw i hi).1) (by rw [eqs_rI g3]; exact tr2.2.2.2.2.2.1) (fun i hi => by rw [eqs_rJ g4]; exact (haw i hi).2) (by rw [w5_5]; decide)).to (fun x hx => ⟨hx.1, hx.2.mono (by decide)⟩)
                  · refine refI hR (e := 3) 3 ?_ rfl (by decide) (bad (fun z => z3 z.2.2))
                    rw [hcl, bo_f z3, if_neg (by decide)]
                · refine refI hR (e := 3) 3 ?_ rfl (by decide) (bad (fun z => n1 z.2.1))
                  rw [hcl, n2, xb_l]
              · refine refI hR (e := 3) 3 ?_ rfl (by decide) (bad (fun z => z1 z.1))
                rw [hcl, if_neg z1, xb_l]
        · have hnk : fX10_needKind (10 + 4 * r) (0 : Int32) M = some (.inl 2, M) := by
            unfold fX10_needKind
            rw [hc.flds.1, if_neg (show ¬ nI kd = (0 : Int32) from nI_ne0 (by omega) (by omega))]
          refine refI hR (e := 2) 2 ?_ rfl (by decide) ?_
          · unfold fX10_cascade; rw [c1, xb_r, d1, xb_r, e1, xb_r, hnk, xb_l]
          · rw [hrf M rfl, if_neg k0, yo_s]
            exact smF.refl
