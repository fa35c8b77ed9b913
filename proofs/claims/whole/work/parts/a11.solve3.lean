/-! SEMANTICS: solve, its equations and its end -/
theorem xor_0 (x : Int64) : x ^^^ 0 = x := bl_ext (fun i _ => by rw [bl_xor, bl_0, Bool.xor_false])
theorem c_state {N : Nat} (hN : 700 ≤ N) {M : Mem} {T : Nat → Int32} {r W g m kd sz mk ex ly n i : Nat} (hc : cX M T r W g m kd sz mk ex ly) (hn : n < W) (hi : i < 40) :
    Yo (fX8_state N 126 (nI i) (10 + 4 * r) 2 (nI n) M) (fun x => smF [8, 127, 128] M x ∧ rJ x 127 i = xrM T n sz mk ∧ (∀ k, k ≠ i → rJ x 127 k = rJ M 127 k) ∧ rI x 128 i = nI (tagT T g n) ∧ ∀ k, k ≠ i → rI x 128 k = rI M 128 k) := by
  have hr := hc.1
  have hm : mk ≤ m := hc.2.2.2.2.1.2.2.2.2.2.1
  have hm6 : m ≤ 6 := hc.2.1.1.2.2.2.2.2.2.1
  have hs := hc.2.2.2.2.1.2.1
  have hs2 := hc.2.2.2.2.1.2.2.1
  unfold fX8_state
  rw [if_pos (inB_nI hi (by decide)), nI_clamp (by omega), show (126 + 1 : Nat) = 127 from rfl]
  refine yo_f2 (F := fX8_state_l10 N 126 (nI i) (10 + 4 * r) 2 (nI n)) mk (fun k v M2 => v = nI k ∧ smF [8, 127] M M2 ∧ rJ M2 127 i = xrM T n sz k ∧ ∀ j, j ≠ i → rJ M2 127 j = rJ M 127 j) ?_ N 0 _ _ (by omega) (by omega) ⟨rfl, smF.refl.pJ_ (by simp) _ _, by rw [rJ_wJ, if_pos ⟨rfl, rfl⟩]; rfl, fun j hj => by rw [rJ_wJ, if_neg (fun z => hj z.2)]⟩
  intro f k v M2 hk ⟨hv, g1, g2, g3⟩ ih
  subst hv
  show Yo (fX8_state_l10_s N 126 (nI i) (10 + 4 * r) 2 (nI n) (fX8_state_l10 N 126 (nI i) (10 + 4 * r) 2 (nI n) f) (nI k) M2) _
  unfold fX8_state_l10_s
  have hc2 : cX M2 T r W g m kd sz mk ex ly := hc.mv (fun a h1 h2 => g1 a (by simp; omega))
  rw [hc2.flds.2.2.1]
  rcases Nat.lt_or_ge k mk with hlt | hge
  · rw [if_neg (nI_ge hlt (by omega)), if_pos (inB_nI hi (by decide)), hc2.flds.2.1]
    refine (cv_place (w := k) (name := nI n) hN hc2.2.1 (by omega) hs (by omega)).bi (fun x hx => ?_)
    rw [if_pos (inB_nI hi (by decide)), hx.1, nI_clamp (by omega), show (126 + 1 : Nat) = 127 from rfl, nI_1, g2]
    refine ih _ _ hlt ⟨rfl, (g1.trans (hx.2.mono (by decide))).pJ_ (by simp) _ _, ?_, fun j hj => ?_⟩
    · rw [rJ_wJ, if_pos ⟨rfl, rfl⟩]; rfl
    · rw [rJ_wJ, if_neg (fun z => hj z.2), hx.2.J_ (by decide), g3 j hj]
  · have e : k = mk := by omega
    subst e
    rw [if_pos (nI_le hge (by omega)), cv_tag hc2.2.1 hn, Option.bind_some, if_pos (inB_nI hi (by decide)), nI_clamp (by omega), show (126 + 2 : Nat) = 128 from rfl, yo_s]
    refine ⟨(g1.mono (by decide)).pI_ (by decide) _ _, by rw [rJ_wI]; exact g2, fun j hj => by rw [rJ_wI]; exact g3 j hj, by rw [rI_wI, if_pos ⟨rfl, rfl⟩], fun j hj => ?_⟩
    rw [rI_wI, if_neg (fun z => hj z.2), g1.I_ (by decide)]
theorem c_states {N : Nat} (hN : 700 ≤ N) {M : Mem} {T : Nat → Int32} {r W g m kd sz mk ex ly t ma : Nat} {p : Nat → Nat} (hc : cX M T r W g m kd sz mk ex ly) (ht : t < 4) (hma : ma ≤ 40) (e1 : rI M (103 + 2 * t) 1 = nI ma) (hp : ∀ j, j < ma → (rJ M (104 + 2 * t) j).toInt32 = nI (p j) ∧ p j < W) :
    ∃ MA, fX8_solveFor N 126 (10 + 4 * r) 2 (103 + 2 * t) M = fX8_solveFor_l50 N 126 (10 + 4 * r) (103 + 2 * t) (nI ma) N (0 : Int32) MA ∧ smF [8, 126, 127, 128] M MA ∧ cSV MA (fun i => xrM T (p i) sz mk) (fun i => nI (tagT T g (p i))) (fun _ => false) ma := by
  have hmin : minI (nI ma) (40 : Int32) = nI ma := by
    unfold minI
    rw [if_neg]
    rw [li_40, Int32.lt_iff_toInt_lt, nI_toInt (by omega), nI_toInt (by omega)]
    omega
  unfold fX8_solveFor
  rw [e1, hmin]
  obtain ⟨v, MA, ⟨hv, g1, g2, g3⟩, e⟩ := ex_f2 (F := fX8_solveFor_l19 N 126 (10 + 4 * r) 2 (103 + 2 * t) (nI ma)) ma (fun k v M2 => v = nI k ∧ smF [8, 126, 127, 128] M M2 ∧ rJ M2 126 3 = 0 ∧ ∀ i, i < k → rJ M2 127 i = xrM T (p i) sz mk ∧ rI M2 128 i = nI (tagT T g (p i))) (by
    intro f k v M2 hlt ⟨hv, g1, g0, g2⟩
    subst hv
    have hc2 : cX M2 T r W g m kd sz mk ex ly := hc.mv (fun a h1 h2 => g1 a (by simp; omega))
    obtain ⟨p1, p2⟩ := hp k hlt
    obtain ⟨x, x1, x2, x3, x4, x5, x6⟩ := c_state (i := k) hN hc2 p2 (by omega)
    refine ⟨_, x, ⟨rfl, g1.trans (x2.mono (by decide)), by rw [x2.J_ (by decide)]; exact g0, fun i hi => ?_⟩, ?_⟩
    · by_cases q : i = k
      · subst q; exact ⟨x3, x5⟩
      · rw [x4 i q, x6 i q]; exact g2 i (by omega)
    · show fX8_solveFor_l19_s N 126 (10 + 4 * r) 2 (103 + 2 * t) (nI ma) (fX8_solveFor_l19 N 126 (10 + 4 * r) 2 (103 + 2 * t) (nI ma) f) (nI k) M2 = _
      unfold fX8_solveFor_l19_s
      rw [if_neg (nI_ge hlt (by omega)), num_ok (by omega), Option.bind_some, show 103 + 2 * t + 1 = 104 + 2 * t by omega, g1.J_ (by simp; omega), p1, x1, Option.bind_some, nI_1])
    ma N 0 (0 : Int32) (wJ M 126 3 0) (by omega) (by omega) ⟨rfl, smF.refl.pJ_ (by simp) _ _, by rw [rJ_wJ, if_pos ⟨rfl, rfl⟩], fun j hj => absurd hj (Nat.not_lt_zero j)⟩
  refine ⟨MA, ?_, g1, fun i hi => ⟨(g3 i hi).1, (g3 i hi).2, by rw [g2, bl_0]⟩⟩
  rw [e]
  obtain ⟨f, hf⟩ : ∃ f, N - ma = f + 1 := ⟨N - ma - 1, by omega⟩
  rw [hf, hv]
  show fX8_solveFor_l19_s N 126 (10 + 4 * r) 2 (103 + 2 * t) (nI ma) (fX8_solveFor_l19 N 126 (10 + 4 * r) 2 (103 + 2 * t) (nI ma) f) (nI ma) MA = _
  unfold fX8_solveFor_l19_s
  rw [if_pos (nI_le (Nat.le_refl ma) (by omega))]
theorem r_state {N : Nat} (hN : 700 ≤ N) {M : Mem} {T : Nat → Int32} {r W g m kd sz mk ex ly n i t : Nat} {n3 : Int32} {k82 : Int32 → Mem → Option (Int32 × Mem)} (hx : rX M T r W g m kd sz mk ex ly) (hi : i < 40) (ht : t < 4) (h0 : rJ M 151 i = 0) (hp : (rJ M 164 (40 * t + i)).toInt32 = nI n) :
    ∃ MA, fX11_solve_l125 N k82 140 (nI r) (nI t) n3 (nI i) N (0 : Int32) M = k82 (nI (i + 1)) MA ∧ smF [147, 151] M MA ∧ rJ MA 151 i = xrM T n sz mk ∧ ∀ k, k ≠ i → rJ MA 151 k = rJ M 151 k := by
  have hm : mk ≤ m := hx.2.2.2.2.1.2.2.2.2.2.1
  have hm6 : m ≤ 6 := hx.2.2.1.2.2.2.2.2.2.1
  obtain ⟨v, MA, ⟨hv, g1, g2, g3⟩, e⟩ := ex_f2 (F := fX11_solve_l125 N k82 140 (nI r) (nI t) n3 (nI i)) mk (fun k v M2 => v = nI k ∧ smF [147, 151] M M2 ∧ rJ M2 151 i = xrM T n sz k ∧ ∀ j, j ≠ i → rJ M2 151 j = rJ M 151 j) (by
    intro f k v M2 hlt ⟨hv, g1, g2, g3⟩
    subst hv
    have hx2 : rX M2 T r W g m kd sz mk ex ly := hx.mv (g1 141 (by decide))
    obtain ⟨x, x1, x2, x3⟩ := rspot (w := k) (name := nI n) hN hx2 (by omega)
    refine ⟨_, wJ x.2 151 i (xrM T n sz (k + 1)), ⟨rfl, (g1.trans (x3.mono (by decide))).pJ_ (by decide) _ _, by rw [rJ_wJ, if_pos ⟨rfl, rfl⟩], fun j hj => ?_⟩, ?_⟩
    · rw [rJ_wJ, if_neg (fun z => hj z.2), x3.J_ (by decide), g3 j hj]
    · show fX11_solve_l125_s N k82 140 (nI r) (nI t) n3 (nI i) (fX11_solve_l125 N k82 140 (nI r) (nI t) n3 (nI i) f) (nI k) M2 = _
      unfold fX11_solve_l125_s
      rw [hx2.flds.2.2.1, Option.bind_some, if_neg (nI_ge hlt (by omega)), if_pos (inB_nI hi (by decide)), inTray_ok ht hi, Option.bind_some, g1.J_ (by decide), hp, x1, Option.bind_some, if_pos (inB_nI hi (by decide)), nI_clamp (by omega), show (140 + 11 : Nat) = 151 from rfl, g2, x2, nI_1, xrM_s])
    mk N 0 (0 : Int32) M (by omega) (by omega) ⟨rfl, smF.refl, h0, fun j _ => rfl⟩
  refine ⟨MA, ?_, g1, g2, g3⟩
  rw [e]
  obtain ⟨f, hf⟩ : ∃ f, N - mk = f + 1 := ⟨N - mk - 1, by omega⟩
  rw [hf, hv]
  show fX11_solve_l125_s N k82 140 (nI r) (nI t) n3 (nI i) (fX11_solve_l125 N k82 140 (nI r) (nI t) n3 (nI i) f) (nI mk) MA = _
  unfold fX11_solve_l125_s
  rw [(hx.mv (g1 141 (by decide))).flds.2.2.1, Option.bind_some, if_pos (nI_le (Nat.le_refl mk) (by omega)), nI_1]
theorem r_states {N : Nat} (hN : 700 ≤ N) {M : Mem} {T : Nat → Int32} {r W g m kd sz mk ex ly t ma : Nat} {p : Nat → Nat} (hx : rX M T r W g m kd sz mk ex ly) (ht : t < 4) (hma : ma ≤ 40) (hp : ∀ j, j < ma → (rJ M 164 (40 * t + j)).toInt32 = nI (p j) ∧ p j < W) :
    ∃ MA, fX11_solve_l82 N 140 (nI r) (nI t) (nI ma) N (0 : Int32) M = ((fX11_canSolve N 140 (nI r) (nI ma) MA).bind fun qj1 => if qj1.1 = true then fX11_solve_l188 N 140 (nI r) (nI t) (nI ma) N (0 : Int32) qj1.2 else some ((-1 : Int32), qj1.2)) ∧ smF [147, 151, 152, 154] M MA ∧ rSV MA (fun i => xrM T (p i) sz mk) (fun i => nI (tagT T g (p i))) (fun _ => false) ma := by
  obtain ⟨v, MA, ⟨hv, g1, g2⟩, e⟩ := ex_f2 (F := fX11_solve_l82 N 140 (nI r) (nI t) (nI ma)) ma (fun k v M2 => v = nI k ∧ smF [147, 151, 152, 154] M M2 ∧ ∀ i, i < k → rJ M2 151 i = xrM T (p i) sz mk ∧ rI M2 152 i = nI (tagT T g (p i)) ∧ rI M2 154 i = 0) (by
    intro f k v M2 hlt ⟨hv, g1, g2⟩
    subst hv
    obtain ⟨p1, p2⟩ := hp k hlt
    have hx2 : rX (wI (wJ M2 151 k 0) 154 k 0) T r W g m kd sz mk ex ly := hx.mv (((g1.pJ_ (a := 151) (by simp) k 0).pI_ (a := 154) (by simp) k 0) 141 (by decide))
    obtain ⟨x, x1, x2, x3⟩ := rtag hN hx2 p2
    have hx3 : rX (wI x.2 152 k (nI (tagT T g (p k)))) T r W g m kd sz mk ex ly := hx2.mv ((x3.mono (by decide : ∀ a ∈ [147], a ∈ [147, 152])).pI_ (a := 152) (by simp) k _ 141 (by decide))
    obtain ⟨MB, y1, y2, y3, y4⟩ := r_state (N := N) (n3 := nI ma) (k82 := fX11_solve_l82 N 140 (nI r) (nI t) (nI ma) f) (n := p k) (i := k) hN hx3 (by omega) ht (by rw [rJ_wI, x3.J_ (by decide), rJ_wI, rJ_wJ, if_pos ⟨rfl, rfl⟩]) (by rw [rJ_wI, x3.J_ (by decide), rJ_wI, rJ_wJ, if_neg (by omega), g1.J_ (by decide)]; exact p1)
    refine ⟨_, MB, ⟨rfl, ?_, fun i hi => ?_⟩, ?_⟩
    · exact ((((g1.pJ_ (a := 151) (by decide) _ _).pI_ (a := 154) (by decide) _ _).trans (x3.mono (by decide))).pI_ (a := 152) (by decide) _ _).trans (y2.mono (by decide))
    · rw [y2.I_ (by decide), y2.I_ (by decide), rI_wI, rI_wI, if_neg (by omega : ¬ (154 = 152 ∧ i = k)), x3.I_ (by decide), x3.I_ (by decide), rI_wI, rI_wI, if_neg (by omega : ¬ (152 = 154 ∧ i = k)), rI_wJ, rI_wJ]
      by_cases q : i = k
      · subst q
        rw [if_pos ⟨rfl, rfl⟩, if_pos ⟨rfl, rfl⟩]
        exact ⟨y3, rfl, rfl⟩
      · rw [if_neg (fun z => q z.2), if_neg (fun z => q z.2), y4 i q, rJ_wI, x3.J_ (by decide), rJ_wI, rJ_wJ, if_neg (fun z => q z.2)]
        exact g2 i (by omega)
    · rw [← y1]
      show fX11_solve_l82_s N 140 (nI r) (nI t) (nI ma) (fX11_solve_l82 N 140 (nI r) (nI t) (nI ma) f) (nI k) M2 = _
      unfold fX11_solve_l82_s
      have hk40 : inB (nI k) 40 = true := inB_nI (by omega) (by decide)
      have hin : fX11_inTray 140 (nI t) (nI k) (wI (wJ M2 151 k 0) 154 k 0) = some (nI (p k)) := by
        rw [inTray_ok ht (by omega), rJ_wI, rJ_wJ, if_neg (by omega), g1.J_ (by decide), p1]
      rw [if_neg (nI_ge hlt (by omega)), if_pos hk40, if_pos hk40, nI_clamp (by omega), show (140 + 11 : Nat) = 151 from rfl, show (140 + 14 : Nat) = 154 from rfl, show vp_nar FieldType.boolean (0 : Int32) = 0 from rfl, hin, Option.bind_some, x1, Option.bind_some, if_pos hk40, x2])
    ma N 0 (0 : Int32) M (by omega) (by omega) ⟨rfl, smF.refl, fun j hj => absurd hj (Nat.not_lt_zero j)⟩
  refine ⟨MA, ?_, g1, fun i hi => ⟨(g2 i hi).1, (g2 i hi).2.1, by rw [(g2 i hi).2.2]; rfl⟩⟩
  rw [e]
  obtain ⟨f, hf⟩ : ∃ f, N - ma = f + 1 := ⟨N - ma - 1, by omega⟩
  rw [hf, hv]
  show fX11_solve_l82_s N 140 (nI r) (nI t) (nI ma) (fX11_solve_l82 N 140 (nI r) (nI t) (nI ma) f) (nI ma) MA = _
  unfold fX11_solve_l82_s
  rw [if_pos (nI_le (Nat.le_refl ma) (by omega))]
