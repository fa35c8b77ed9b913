/-! SEMANTICS: solve -/
/-- the numbers of a tray as names -/
def nmN (M : Mem) (t : Nat) : Nat → Nat := fun j => (rJ M 164 (40 * t + j)).toInt.toNat
theorem nmN_ok {M : Mem} {t ma W : Nat} (hW : W ≤ 256) (h : nmsP M t ma W) : ∀ j, j < ma → (rJ M 164 (40 * t + j)).toInt32 = nI (nmN M t j) ∧ nmN M t j < W := fun j hj => nm_nat hW (h j hj)
theorem c_solve {N : Nat} (hN : 700 ≤ N) {M : Mem} {T : Nat → Int32} {r W g m sz mk ex ly t ma : Nat} {p : Nat → Nat} (hc : cX M T r W g m 4 sz mk ex ly) (ht : t < 4) (hma : ma ≤ 40) (e1 : rI M (103 + 2 * t) 1 = nI ma) (hp : ∀ j, j < ma → (rJ M (104 + 2 * t) j).toInt32 = nI (p j) ∧ p j < W) :
    (okS ma (slv ma (fun i => xrM T (p i) sz mk) (fun i => nI (tagT T g (p i))) sz).1 (slv ma (fun i => xrM T (p i) sz mk) (fun i => nI (tagT T g (p i))) sz).2.1 ∧ Yo (fX8_solveFor N 126 (10 + 4 * r) 2 (103 + 2 * t) M) (fun x => x.1 = true ∧ cX x.2 (slT T r (slv ma (fun i => xrM T (p i) sz mk) (fun i => nI (tagT T g (p i))) sz).2.1 (slv ma (fun i => xrM T (p i) sz mk) (fun i => nI (tagT T g (p i))) sz).2.2.2 p sz ma) r W g m 4 sz mk ex ly ∧ smF [8, 126, 127, 128, 129, 12 + 4 * r, 13 + 4 * r] M x.2)) ∨
    (¬ okS ma (slv ma (fun i => xrM T (p i) sz mk) (fun i => nI (tagT T g (p i))) sz).1 (slv ma (fun i => xrM T (p i) sz mk) (fun i => nI (tagT T g (p i))) sz).2.1 ∧ Yo (fX8_solveFor N 126 (10 + 4 * r) 2 (103 + 2 * t) M) (fun x => x.1 = false ∧ smF [8, 126, 127, 128, 129] M x.2)) := by
  have hr := hc.1
  obtain ⟨MA, a1, a2, a3⟩ := c_states hN hc ht hma e1 hp
  have hcA : cX MA T r W g m 4 sz mk ex ly := hc.mv (fun a h1 h2 => a2 a (by simp; omega))
  obtain ⟨MB, b1, b2, b3, b4⟩ := c_cells (N := N) (t := 103 + 2 * t) hN (show 10 + 4 * r < 126 by omega) a3 hma hcA.flds.2.1 hc.2.2.2.2.1.2.2.1
  have hF : smF [8, 126, 127, 128, 129] M MB := (a2.mono (by decide)).trans (b2.mono (by decide))
  have hcB : cX MB T r W g m 4 sz mk ex ly := hc.mv (fun a h1 h2 => hF a (by simp; omega))
  rw [a1, b1]
  unfold fX8_solveFor_b107
  rcases c_check (N := N) (b := 10 + 4 * r) (t := 103 + 2 * t) b3 hma ma N 0 (by omega) (by omega) (fun i hi => absurd hi (Nat.not_lt_zero i)) with ⟨d1, d2⟩ | ⟨d1, d2⟩
  · refine Or.inl ⟨d1, ?_⟩
    have d2 : fX8_solveFor_l110 N 126 (10 + 4 * r) (103 + 2 * t) (nI ma) MB N (0 : Int32) = _ := d2
    rw [d2]
    refine (c_end hN hcB ht hma (fun i hi => (b3 i hi).2.1) b4 (slv_by sz) (fun j hj => by rw [hF.J_ (by simp; omega)]; exact hp j hj)).bi (fun x hx => ?_)
    rw [yo_s]
    exact ⟨rfl, hx.1, (hF.mono (by simp)).trans (hx.2.mono (by simp))⟩
  · refine Or.inr ⟨d1, ?_⟩
    have d2 : fX8_solveFor_l110 N 126 (10 + 4 * r) (103 + 2 * t) (nI ma) MB N (0 : Int32) = _ := d2
    rw [d2, yo_s]
    exact ⟨rfl, hF⟩
theorem r_solve {N : Nat} (hN : 700 ≤ N) {M : Mem} {T : Nat → Int32} {r W g m sz mk ex ly t ma : Nat} {p : Nat → Nat} (hx : rX M T r W g m 4 sz mk ex ly) (ht : t < 4) (hma : ma ≤ 40) (hp : ∀ j, j < ma → (rJ M 164 (40 * t + j)).toInt32 = nI (p j) ∧ p j < W) :
    (okS ma (slv ma (fun i => xrM T (p i) sz mk) (fun i => nI (tagT T g (p i))) sz).1 (slv ma (fun i => xrM T (p i) sz mk) (fun i => nI (tagT T g (p i))) sz).2.1 → Yo (fX11_solve_l82 N 140 (nI r) (nI t) (nI ma) N (0 : Int32) M) (fun x => x.1 = nI ma ∧ rX x.2 (slT T r (slv ma (fun i => xrM T (p i) sz mk) (fun i => nI (tagT T g (p i))) sz).2.1 (slv ma (fun i => xrM T (p i) sz mk) (fun i => nI (tagT T g (p i))) sz).2.2.2 p sz ma) r W g m 4 sz mk ex ly ∧ smF [141, 147, 151, 152, 153, 154] M x.2)) ∧
    (¬ okS ma (slv ma (fun i => xrM T (p i) sz mk) (fun i => nI (tagT T g (p i))) sz).1 (slv ma (fun i => xrM T (p i) sz mk) (fun i => nI (tagT T g (p i))) sz).2.1 → Yo (fX11_solve_l82 N 140 (nI r) (nI t) (nI ma) N (0 : Int32) M) (fun x => x.1 = -1 ∧ rX x.2 T r W g m 4 sz mk ex ly ∧ smF [141, 147, 151, 152, 153, 154] M x.2)) := by
  obtain ⟨MA, a1, a2, a3⟩ := r_states hN hx ht hma hp
  have hxA : rX MA T r W g m 4 sz mk ex ly := hx.mv (a2 141 (by decide))
  obtain ⟨MB, b1, b2, b3, b4⟩ := r_cells hN hxA a3 hma
  have hF : smF [147, 151, 152, 153, 154] M MB := (a2.mono (by decide)).trans (b2.mono (by decide))
  have hxB : rX MB T r W g m 4 sz mk ex ly := hx.mv (hF 141 (by decide))
  rw [a1, b1]
  rcases r_check (N := N) b3 hma ma N 0 (by omega) (by omega) (fun i hi => absurd hi (Nat.not_lt_zero i)) with ⟨d1, d2⟩ | ⟨d1, d2⟩
  · refine ⟨fun _ => ?_, fun z => absurd d1 z⟩
    have d2 : fX11_canSolve_l186 N 140 (nI ma) MB N (0 : Int32) = _ := d2
    rw [d2, Option.bind_some, if_pos rfl]
    refine (r_end hN hxB ht hma (fun i hi => (b3 i hi).2.1) b4 (slv_by sz) (fun j hj => by rw [hF.J_ (by decide)]; exact hp j hj)).to (fun x hx => ?_)
    exact ⟨hx.1, hx.2.1, (hF.mono (by decide)).trans (hx.2.2.mono (by decide))⟩
  · refine ⟨fun z => absurd z d1, fun _ => ?_⟩
    have d2 : fX11_canSolve_l186 N 140 (nI ma) MB N (0 : Int32) = _ := d2
    rw [d2, Option.bind_some, if_neg (show ¬ (false = true) by decide), yo_s]
    exact ⟨rfl, hxB, hF.mono (by decide)⟩
theorem ag_solve {N : Nat} (hN : 700 ≤ N) (a1 a2 : Int32) (M : Mem) (hR : Rel M) : agI (fX10_solve N 0 a1 a2 M) (fX11_solve N 140 a1 a2) (fun k Mj1 => if k = 1 then some ((1 : Int32), Mj1) else if k = 2 then some ((2 : Int32), Mj1) else if k = 3 then some ((3 : Int32), Mj1) else none) M := by
  obtain ⟨W, g, m, hS⟩ := hR.1
  rcases rowTray_ok hS a1 a2 with ⟨c1, c2⟩ | ⟨r, t, hr, ht, rfl, rfl, hh, c1, d1, c2⟩
  · refine refI hR (e := 1) 1 ?_ rfl (by decide) ?_
    · unfold fX10_solve
      rcases c1 with q | ⟨r, q1, q2⟩
      · rw [q, xb_l]
      · rw [q1, xb_r, q2, xb_l]
    · unfold fX11_solve fX11_solve_b42 fX11_solve_b63
      rw [c2 M rfl, Option.bind_some, w5_5, if_neg (by decide), if_neg (by decide), if_neg (by decide), yo_s]
      exact smF.refl
  · obtain ⟨kd, sz, mk, ex, ly, hc, hr'⟩ := sX hS hr hh
    have hk4 := hc.2.2.2.2.1.1
    have hW : W ≤ 256 := hc.W1.2.2
    have hx0 : ∀ M' : Mem, M' 141 = M 141 → rX (wI M' 140 5 0) (M 141).1 r W g m kd sz mk ex ly := fun M' e => hr' _ (by rw [w5_141, e])
    have h2 : ∀ M' : Mem, fX11_solve_b37 N 140 (nI r) (nI t) (wI M' 140 5 0) = some (0, wI M' 140 5 2) := fun M' => by
      unfold fX11_solve_b37 fX11_solve_b42 fX11_solve_b63
      rw [wI_wI, w5_5, if_neg (by decide), if_neg (by decide)]
    have hrf : ∀ M' : Mem, M' 141 = M 141 → fX11_solve N 140 (nI r) (nI t) M' = if kd = 4 then if rI M' 162 t = -1 then some (0, wI M' 140 5 2) else fX11_solve_b42 N 140 (nI r) (nI t) (wI M' 140 5 0) else some (0, wI M' 140 5 2) := fun M' e => by
      unfold fX11_solve
      rw [c2 M' e, Option.bind_some, w5_5, if_pos rfl, (hx0 M' e).flds.1, Option.bind_some, h2]
      by_cases k4 : kd = 4
      · rw [if_pos (show nI kd = (4 : Int32) from by rw [k4]; rfl), if_pos k4, if_pos (inB_nI ht (by decide)), nI_clamp (by omega), w5_162]
      · rw [if_neg (show ¬ nI kd = (4 : Int32) from ne_l (b := 4) k4 (by omega) (by omega)), if_neg k4]
    by_cases k4 : kd = 4
    · subst k4
      have hnk : fX10_needKind (10 + 4 * r) (4 : Int32) M = some (.inr (), M) := by
        unfold fX10_needKind
        rw [hc.flds.1, if_pos (show nI 4 = (4 : Int32) from rfl)]
      rcases filled_ok (relT_iff.mp hR.2.2.1 t ht) with ⟨f1, f2⟩ | ⟨so, ma, tr, f1, f2⟩
      · refine refI hR (e := 2) 2 ?_ rfl (by decide) ?_
        · unfold fX10_solve; rw [c1, xb_r, d1, xb_r, hnk, xb_r, f1, xb_l]
        · rw [hrf M rfl, if_pos rfl, if_pos f2, yo_s]
          exact smF.refl
      · have hcl : fX10_solve N 0 (nI r) (nI t) M = xb (fX10_needNames N 0 (103 + 2 * t) M) fun qj5 Mj5 => (fX9_hasTwoAlike N (103 + 2 * t) Mj5).bind fun qj6 => if qj6 = true then some (.inl 3, Mj5) else (fX8_solveFor N 126 (10 + 4 * r) 2 (103 + 2 * t) Mj5).bind fun qj10 => if qj10.1 = true then some (.inr (rI qj10.2 (103 + 2 * t) 1), qj10.2) else some (.inr (-1 : Int32), qj10.2) := by
          unfold fX10_solve
          rw [c1, xb_r, d1, xb_r, hnk, xb_r, f1, xb_r]
        have hrn : ∀ M' : Mem, M' 141 = M 141 → M' 162 = M 162 → M' 163 = M 163 → M' 164 = M 164 → (nmsP M t ma W ∧ ¬ alkP M t ma → fX11_solve N 140 (nI r) (nI t) M' = fX11_solve_l82 N 140 (nI r) (nI t) (nI ma) N (0 : Int32) (wI M' 140 5 0)) ∧ (¬ (nmsP M t ma W ∧ ¬ alkP M t ma) → fX11_solve N 140 (nI r) (nI t) M' = some (0, wI M' 140 5 3)) := fun M' e e2 e3 e4 => by
          have w3 : ∀ c : Int32, (wI M' 140 5 c) 163 = M 163 := fun c => by rw [← e3]; exact smF.refl.pI_ (S := [140]) (by simp) 5 c 163 (by simp)
          have w4 : ∀ c : Int32, (wI M' 140 5 c) 164 = M 164 := fun c => by rw [← e4]; exact smF.refl.pI_ (S := [140]) (by simp) 5 c 164 (by simp)
          rw [hrf M' e, if_pos rfl, if_neg (by rw [eqs_rI e2]; exact f2)]
          unfold fX11_solve_b42 fX11_solve_b63
          rw [w5_5, if_pos rfl, r_names hN true hS ht tr (by rw [w5_141, e]) (w3 0) (w4 0), Option.bind_some, wI_wI, w5_5]
          refine ⟨fun q => ?_, fun q => ?_⟩
          · rw [bo_t ⟨q.1, fun _ => q.2⟩, if_pos rfl, if_pos (by decide), if_pos (inB_nI ht (by decide)), nI_clamp (by omega), show (140 + 23 : Nat) = 163 from rfl, eqs_rI (w3 0), tr.2.2.2.2.2.1]
          · rw [bo_f (fun z => q ⟨z.1, z.2 rfl⟩), if_neg (by decide), if_neg (by decide)]
        have hno : ¬ (nmsP M t ma W ∧ ¬ alkP M t ma) → Yo (fX11_solve N 140 (nI r) (nI t) M) (fun x => smF scrR (wI M 140 5 3) x.2) := fun q => by
          rw [(hrn M rfl rfl rfl rfl).2 q, yo_s]
          exact smF.refl
        rcases c_names (N := N) hS tr with ⟨n1, n2⟩ | ⟨n1, n2⟩
        · by_cases al : alkP M t ma
          · refine refI hR (e := 3) 3 ?_ rfl (by decide) (hno (fun z => z.2 al))
            rw [hcl, n2, xb_r, c_alike hN tr, bo_t al, Option.bind_some, if_pos rfl]
          · rw [n2, xb_r, c_alike hN tr, bo_f al, Option.bind_some, if_neg (by decide)] at hcl
            have hpp := nmN_ok hW n1
            have hpc : ∀ j, j < ma → (rJ M (104 + 2 * t) j).toInt32 = nI (nmN M t j) ∧ nmN M t j < W := fun j hj => by rw [tr.2.2.2.2.2.2.2 j (by have := tr.2.2.1; omega)]; exact hpp j hj
            have hend : ∀ (c : Int32) (M1 : Mem) (T2 : Nat → Int32), fX10_solve N 0 (nI r) (nI t) M = some (.inr c, M1) → cX M1 T2 r W g m 4 sz mk ex ly → smF [8, 126, 127, 128, 129, 12 + 4 * r, 13 + 4 * r] M M1 → (∀ z, (z < 1220 + 512 * r ∨ 1220 + 512 * r + 512 ≤ z) → T2 z = (M 141).1 z) →
                (∀ M' : Mem, rX M' (M 141).1 r W g m 4 sz mk ex ly → (∀ j, j < ma → (rJ M' 164 (40 * t + j)).toInt32 = nI (nmN M t j) ∧ nmN M t j < W) → Yo (fX11_solve_l82 N 140 (nI r) (nI t) (nI ma) N (0 : Int32) M') (fun x => x.1 = c ∧ rX x.2 T2 r W g m 4 sz mk ex ly ∧ smF [141, 147, 151, 152, 153, 154] M' x.2)) →
                agI (fX10_solve N 0 (nI r) (nI t) M) (fX11_solve N 140 (nI r) (nI t)) (fun k Mj1 => if k = 1 then some ((1 : Int32), Mj1) else if k = 2 then some ((2 : Int32), Mj1) else if k = 3 then some ((3 : Int32), Mj1) else none) M := by
              intro c M1 T2 k1 k2 k3 k4 k5
              have k3' : smF (scrC ++ [10 + 4 * r, 12 + 4 * r, 13 + 4 * r]) M M1 := k3.mono (fun a ha => by
                simp only [List.mem_cons, List.not_mem_nil, or_false] at ha
                rw [List.mem_append]
                rcases ha with h | h | h | h | h | h | h
                · exact Or.inl (by rw [h]; decide)
                · exact Or.inl (by rw [h]; decide)
                · exact Or.inl (by rw [h]; decide)
                · exact Or.inl (by rw [h]; decide)
                · exact Or.inl (by rw [h]; decide)
                · exact Or.inr (by simp [h])
                · exact Or.inr (by simp [h]))
              have g : ∀ a, (a = 141 ∨ a = 162 ∨ a = 163 ∨ a = 164) → (wJ M1 165 0 c.toInt64) a = M a := fun a ha => by
                rw [wJ_165 a (by omega)]
                exact k3 a (by simp; omega)
              refine Or.inr ⟨c, M1, k1, ?_⟩
              rw [(hrn _ (g 141 (by omega)) (g 162 (by omega)) (g 163 (by omega)) (g 164 (by omega))).1 ⟨n1, al⟩]
              refine (k5 (wI (wJ M1 165 0 c.toInt64) 140 5 0) (hx0 _ (g 141 (by omega))) (fun j hj => by rw [w5_164, eqs_rJ (g 164 (by omega))]; exact hpp j hj)).to (fun x hx => ?_)
              obtain ⟨z1, z2, z3⟩ := row_endT hR hS hr hh.1 k2 k3' (k3.I_ (by simp; omega) 0) hx.2.1 (hx.2.2.mono (by decide)) k4
              exact ⟨hx.1, z1, z2, z3⟩
            have hp256 : ∀ j, j < ma → nmN M t j < 256 := fun j hj => by have := (hpp j hj).2; omega
            rcases c_solve hN hc ht tr.2.2.1 tr.2.2.2.2.2.2.1 hpc with ⟨q, x, x1, x2, x3, x4⟩ | ⟨q, x, x1, x2, x3⟩
            · refine hend (nI ma) x.2 _ ?_ x3 x4 (slT_out hc.2.2.2.2.1.2.2.1 hp256) (fun M' v1 v2 => (r_solve hN v1 ht tr.2.2.1 v2).1 q)
              rw [hcl, x1, Option.bind_some, x2, if_pos rfl, x4.I_ (by simp; omega), tr.2.2.2.2.2.2.1]
            · refine hend (-1) x.2 _ ?_ (hc.mv (fun a h1 h2 => x3 a (by simp; omega))) (x3.mono (by simp)) (fun _ _ => rfl) (fun M' v1 v2 => (r_solve hN v1 ht tr.2.2.1 v2).2 q)
              rw [hcl, x1, Option.bind_some, x2, if_neg (by decide)]
        · refine refI hR (e := 3) 3 ?_ rfl (by decide) (hno (fun z => n1 z.1))
          rw [hcl, n2, xb_l]
    · have hnk : fX10_needKind (10 + 4 * r) (4 : Int32) M = some (.inl 2, M) := by
        unfold fX10_needKind
        rw [hc.flds.1, if_neg (show ¬ nI kd = (4 : Int32) from ne_l (b := 4) k4 (by omega) (by omega))]
      refine refI hR (e := 2) 2 ?_ rfl (by decide) ?_
      · unfold fX10_solve; rw [c1, xb_r, d1, xb_r, hnk, xb_l]
      · rw [hrf M rfl, if_neg k4, yo_s]
        exact smF.refl
