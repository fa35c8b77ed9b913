/-! SEMANTICS: solve, all cells -/
theorem c_cells {N : Nat} (hN : 700 ≤ N) {M : Mem} {b t n sz : Nat} {H0 : Nat → Int64} {A0 : Nat → Int32} (hb : b < 126) (h : cSV M H0 A0 (fun _ => false) n) (hn : n ≤ 40) (hs : rI M b 2 = nI sz) (hs2 : sz ≤ 64) :
    ∃ MA, fX8_solveFor_l50 N 126 b t (nI n) N (0 : Int32) M = fX8_solveFor_b107 N 126 b t (nI n) MA ∧ smF [126, 127, 128, 129] M MA ∧ cSV MA (slv n H0 A0 sz).1 (slv n H0 A0 sz).2.1 (slv n H0 A0 sz).2.2.1 n ∧ ∀ j, j < sz → rI MA 129 j = (slv n H0 A0 sz).2.2.2 j := by
  obtain ⟨v, MA, ⟨hv, g1, g2, g3⟩, e⟩ := ex_f2 (F := fX8_solveFor_l50 N 126 b t (nI n)) sz (fun k v M2 => v = nI k ∧ smF [126, 127, 128, 129] M M2 ∧ cSV M2 (slv n H0 A0 k).1 (slv n H0 A0 k).2.1 (slv n H0 A0 k).2.2.1 n ∧ ∀ j, j < k → rI M2 129 j = (slv n H0 A0 k).2.2.2 j) (by
    intro f k v M2 hlt ⟨hv, g1, g2, g3⟩
    subst hv
    have hun : fX8_solveFor_l50 N 126 b t (nI n) (f + 1) (nI k) M2 = (fX8_chooseFor N 126 (nI k) (nI n) M2).bind fun qj1 => if inB (nI k) 64 = true then if qj1.1 = (-1 : Int32) then fX8_solveFor_l50 N 126 b t (nI n) f (nI (k + 1)) (wI qj1.2 129 k qj1.1) else (fX8_joinTo N 126 qj1.1 (nI k) (nI n) (wI qj1.2 129 k qj1.1)).bind fun qj3 => fX8_solveFor_l50 N 126 b t (nI n) f (nI (k + 1)) qj3 else none := by
      show fX8_solveFor_l50_s N 126 b t (nI n) (fX8_solveFor_l50 N 126 b t (nI n) f) (nI k) M2 = _
      unfold fX8_solveFor_l50_s fX8_solveFor_b101
      rw [g1.I_ (by simp; omega), hs, if_neg (nI_ge hlt (by omega)), if_neg (show ¬ (64 : Int32) ≤ nI k from nI_ge (b := 64) (by omega) (by decide)), nI_1, nI_clamp (show k < 2147483648 by omega)]
    have hch : fX8_chooseFor N 126 (nI k) (nI n) M2 = _ := c_choose (N := N) g2 hn (show k < 64 by omega) n N 0 (by omega) (by omega)
    rw [hun, hch, Option.bind_some, if_pos (inB_nI (show k < 64 by omega) (by decide)), slv_s]
    cases hc : chs (slv n H0 A0 k).1 (slv n H0 A0 k).2.2.1 k n 0 with
    | none =>
      refine ⟨_, _, ⟨rfl, g1.pI_ (a := 129) (by simp) k (-1), fun i hi => ?_, fun j hj => ?_⟩, ?_⟩
      · rw [rJ_wI, rI_wI, if_neg (by omega), rJ_wI]; exact g2 i hi
      · rw [rI_wI]
        show _ = uv (slv n H0 A0 k).2.2.2 k (-1) j
        by_cases q : j = k
        · rw [if_pos ⟨rfl, q⟩, q, uv_eq]
        · rw [if_neg (fun z => q z.2), uv_ne q]; exact g3 j (by omega)
      · show (if (-1 : Int32) = -1 then _ else _) = _
        rw [if_pos rfl]
    | some i =>
      have hi := chs_lt _ _ _ hc
      have hi1 : ¬ nI i = (-1 : Int32) := by rw [li_1]; exact fun z => (nI_ng (by omega) (by omega) (by omega)).mp z
      have g2' : cSV (wI (wJ M2 126 3 (rJ M2 126 3 ||| shlJ 1 (nI i))) 129 k (nI i)) (slv n H0 A0 k).1 (slv n H0 A0 k).2.1 (uv (slv n H0 A0 k).2.2.1 i true) n := by
        intro j hj
        obtain ⟨w1, w2, w3⟩ := g2 j hj
        rw [rJ_wI, rJ_wJ, if_neg (by omega), rI_wI, if_neg (by omega), rI_wJ, rJ_wI, rJ_wJ, if_pos ⟨rfl, rfl⟩, bl_or, w3, bl_one (by omega)]
        refine ⟨w1, w2, ?_⟩
        by_cases q : j = i
        · rw [decide_eq_true q, q, uv_eq, Bool.or_true]
        · rw [decide_eq_false q, uv_ne q, Bool.or_false]
      obtain ⟨x, x1, x2, x3⟩ := c_joinTo (N := N) hN g2' hn (show k < 64 by omega) (show i < n by omega)
      refine ⟨_, x, ⟨rfl, ?_, fun j hj => ?_, fun j hj => ?_⟩, ?_⟩
      · exact ((g1.pJ_ (a := 126) (by simp) _ _).pI_ (a := 129) (by simp) _ _).trans (x2.mono (by decide))
      · obtain ⟨w1, w2, w3⟩ := g2' j hj
        obtain ⟨y1, y2⟩ := x3 j hj
        refine ⟨y1, y2, ?_⟩
        rw [x2.J_ (by decide)]
        exact w3
      · rw [x2.I_ (by decide), rI_wI, rI_wJ]
        show _ = uv (slv n H0 A0 k).2.2.2 k (nI i) j
        by_cases q : j = k
        · rw [if_pos ⟨rfl, q⟩, q, uv_eq]
        · rw [if_neg (fun z => q z.2), uv_ne q]; exact g3 j (by omega)
      · show (if nI i = (-1 : Int32) then _ else _) = _
        rw [if_neg hi1, x1, Option.bind_some])
    sz N 0 (0 : Int32) M (by omega) (by omega) ⟨rfl, smF.refl, h, fun j hj => absurd hj (Nat.not_lt_zero j)⟩
  refine ⟨MA, ?_, g1, g2, g3⟩
  rw [e]
  obtain ⟨f, hf⟩ : ∃ f, N - sz = f + 1 := ⟨N - sz - 1, by omega⟩
  rw [hf, hv]
  show fX8_solveFor_l50_s N 126 b t (nI n) (fX8_solveFor_l50 N 126 b t (nI n) f) (nI sz) MA = _
  unfold fX8_solveFor_l50_s
  rw [g1.I_ (by simp; omega), hs, if_pos (nI_le (Nat.le_refl sz) (by omega))]
theorem r_cells {N : Nat} (hN : 700 ≤ N) {M : Mem} {T : Nat → Int32} {r W g m kd sz mk ex ly n : Nat} {H0 : Nat → Int64} {A0 : Nat → Int32} (hx : rX M T r W g m kd sz mk ex ly) (h : rSV M H0 A0 (fun _ => false) n) (hn : n ≤ 40) :
    ∃ MA, fX11_canSolve N 140 (nI r) (nI n) M = fX11_canSolve_l186 N 140 (nI n) MA N (0 : Int32) ∧ smF [151, 152, 153, 154] M MA ∧ rSV MA (slv n H0 A0 sz).1 (slv n H0 A0 sz).2.1 (slv n H0 A0 sz).2.2.1 n ∧ ∀ j, j < sz → rI MA 153 j = (slv n H0 A0 sz).2.2.2 j := by
  have hs2 : sz ≤ 64 := hx.2.2.2.2.1.2.2.1
  unfold fX11_canSolve
  obtain ⟨v, MA, ⟨hv, g1, g2, g3⟩, e⟩ := ex_f2 (F := fX11_canSolve_l2 N 140 (nI r) (nI n)) sz (fun k v M2 => v = nI k ∧ smF [151, 152, 153, 154] M M2 ∧ rSV M2 (slv n H0 A0 k).1 (slv n H0 A0 k).2.1 (slv n H0 A0 k).2.2.1 n ∧ ∀ j, j < k → rI M2 153 j = (slv n H0 A0 k).2.2.2 j) (by
    intro f k v M2 hlt ⟨hv, g1, g2, g3⟩
    subst hv
    have hx2 : rX M2 T r W g m kd sz mk ex ly := hx.mv (g1 141 (by decide))
    have g2a : rSV (wI M2 153 k (-1)) (slv n H0 A0 k).1 (slv n H0 A0 k).2.1 (slv n H0 A0 k).2.2.1 n := by
      intro i hi
      rw [rJ_wI, rI_wI, if_neg (by omega), rI_wI, if_neg (by omega)]
      exact g2 i hi
    have hun : fX11_canSolve_l2 N 140 (nI r) (nI n) (f + 1) (nI k) M2 = fX11_canSolve_l22 N (fX11_canSolve_l2 N 140 (nI r) (nI n) f) 140 (nI r) (nI n) (nI k) N (0 : Int32) (wI M2 153 k (-1)) := by
      show fX11_canSolve_l2_s N 140 (nI r) (nI n) (fX11_canSolve_l2 N 140 (nI r) (nI n) f) (nI k) M2 = _
      unfold fX11_canSolve_l2_s
      rw [hx2.flds.2.1, Option.bind_some, if_neg (nI_ge hlt (by omega)), if_pos (inB_nI (show k < 64 by omega) (by decide)), nI_clamp (show k < 2147483648 by omega)]
    have hch := r_choose (N := N) (v1 := nI r) (k2 := fX11_canSolve_l2 N 140 (nI r) (nI n) f) g2a hn (show k < 64 by omega) (by rw [rI_wI, if_pos ⟨rfl, rfl⟩]) n N 0 (by omega) (by omega)
    have hch : fX11_canSolve_l22 N (fX11_canSolve_l2 N 140 (nI r) (nI n) f) 140 (nI r) (nI n) (nI k) N (0 : Int32) (wI M2 153 k (-1)) = _ := hch
    rw [hun, hch, slv_s]
    cases hc : chs (slv n H0 A0 k).1 (slv n H0 A0 k).2.2.1 k n 0 with
    | none =>
      refine ⟨_, _, ⟨rfl, g1.pI_ (a := 153) (by simp) k (-1), fun i hi => ?_, fun j hj => ?_⟩, ?_⟩
      · exact g2a i hi
      · rw [rI_wI]
        show _ = uv (slv n H0 A0 k).2.2.2 k (-1) j
        by_cases q : j = k
        · rw [if_pos ⟨rfl, q⟩, q, uv_eq]
        · rw [if_neg (fun z => q z.2), uv_ne q]; exact g3 j (by omega)
      · show fX11_canSolve_b78 N (fX11_canSolve_l2 N 140 (nI r) (nI n) f) 140 (nI r) (nI n) (nI k) (wI M2 153 k (-1)) = _
        have hvi : rI (wI M2 153 k (-1)) 153 k = -1 := by rw [rI_wI, if_pos ⟨rfl, rfl⟩]
        unfold fX11_canSolve_b78 fX11_canSolve_b178
        rw [if_pos (inB_nI (show k < 64 by omega) (by decide)), nI_clamp (show k < 2147483648 by omega), show (140 + 13 : Nat) = 153 from rfl, hvi, if_pos rfl, nI_1]
    | some i =>
      have hi := chs_lt _ _ _ hc
      have hi1 : ¬ nI i = (-1 : Int32) := by rw [li_1]; exact fun z => (nI_ng (by omega) (by omega) (by omega)).mp z
      have g2' : rSV (wI (wI (wI M2 153 k (-1)) 153 k (nI i)) 154 i 1) (slv n H0 A0 k).1 (slv n H0 A0 k).2.1 (uv (slv n H0 A0 k).2.2.1 i true) n := by
        intro j hj
        obtain ⟨w1, w2, w3⟩ := g2a j hj
        rw [rJ_wI, rJ_wI, rI_wI, if_neg (by omega), rI_wI, if_neg (by omega)]
        refine ⟨w1, w2, ?_⟩
        by_cases q : j = i
        · rw [q, uv_eq, if_pos rfl, rI_wI, if_pos ⟨rfl, rfl⟩]
        · have e1 : rI (wI (wI (wI M2 153 k (-1)) 153 k (nI i)) 154 i 1) 154 j = rI (wI M2 153 k (-1)) 154 j := by rw [rI_wI, if_neg (fun z => q z.2), rI_wI, if_neg (by omega)]
          rw [e1, uv_ne q]; exact w3
      obtain ⟨x, x2, x3, x4⟩ := r_joinTo (N := N) (v1 := nI r) (k2 := fX11_canSolve_l2 N 140 (nI r) (nI n) f) hN (fun i hi => ⟨(g2' i hi).1, (g2' i hi).2.1⟩) hn (show k < 64 by omega) (show i < n by omega)
      refine ⟨_, x, ⟨rfl, ?_, fun j hj => ?_, fun j hj => ?_⟩, ?_⟩
      · exact (((g1.pI_ (a := 153) (by simp) _ _).pI_ (a := 153) (by simp) _ _).pI_ (a := 154) (by simp) _ _).trans (x2.mono (by decide))
      · obtain ⟨w1, w2, w3⟩ := g2' j hj
        obtain ⟨y1, y2⟩ := x3 j hj
        refine ⟨y1, y2, ?_⟩
        rw [x2.I_ (by decide)]
        exact w3
      · rw [x2.I_ (by decide), rI_wI, if_neg (by omega), rI_wI]
        show _ = uv (slv n H0 A0 k).2.2.2 k (nI i) j
        by_cases q : j = k
        · rw [if_pos ⟨rfl, q⟩, q, uv_eq]
        · rw [if_neg (fun z => q z.2), uv_ne q, rI_wI, if_neg (fun z => q z.2)]; exact g3 j (by omega)
      · show fX11_canSolve_b78 N (fX11_canSolve_l2 N 140 (nI r) (nI n) f) 140 (nI r) (nI n) (nI k) (wI (wI M2 153 k (-1)) 153 k (nI i)) = _
        have hvi : rI (wI (wI M2 153 k (-1)) 153 k (nI i)) 153 k = nI i := by rw [rI_wI, if_pos ⟨rfl, rfl⟩]
        unfold fX11_canSolve_b78
        rw [if_pos (inB_nI (show k < 64 by omega) (by decide)), nI_clamp (show k < 2147483648 by omega), show (140 + 13 : Nat) = 153 from rfl, hvi, if_neg hi1, if_pos (inB_nI (show i < 40 by omega) (by decide)), nI_clamp (show i < 2147483648 by omega), ← nI_1 k]
        exact x4)
    sz N 0 (0 : Int32) M (by omega) (by omega) ⟨rfl, smF.refl, h, fun j hj => absurd hj (Nat.not_lt_zero j)⟩
  refine ⟨MA, ?_, g1, g2, g3⟩
  rw [e]
  obtain ⟨f, hf⟩ : ∃ f, N - sz = f + 1 := ⟨N - sz - 1, by omega⟩
  rw [hf, hv]
  show fX11_canSolve_l2_s N 140 (nI r) (nI n) (fX11_canSolve_l2 N 140 (nI r) (nI n) f) (nI sz) MA = _
  unfold fX11_canSolve_l2_s
  rw [(hx.mv (g1 141 (by decide))).flds.2.1, Option.bind_some, if_pos (nI_le (Nat.le_refl sz) (by omega))]
