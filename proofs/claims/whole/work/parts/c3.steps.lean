/-! RULES: the class's steps, a token each -/
def rdC : List Nat := [111, 112, 113, 114, 115, 116, 117, 118, 120]
/-- the class's loop goes on from M, where a token begins at b, as from M' and b' -/
def leads (N : Nat) (M : Mem) (b : Nat) (M' : Mem) (b' : Nat) : Prop := smF rdC M M' ∧ ∀ i, i ≤ b → ∃ i', i' ≤ b' ∧ fX4_readAll_l30 N 111 (N - i) 0 (nI i) M = fX4_readAll_l30 N 111 (N - i') 0 (nI i') M'
/-- it stops with a fault -/
def stops (N : Nat) (M : Mem) (b kd pl : Nat) : Prop := ∀ i, i ≤ b → ∃ Mx, fX4_readAll_l30 N 111 (N - i) 0 (nI i) M = some (false, Mx) ∧ rI Mx 111 2 = nI kd ∧ rI Mx 111 3 = nI pl ∧ smF rdC M Mx
theorem leads.refl {N : Nat} {M : Mem} {b : Nat} : leads N M b M b := ⟨smF.refl, fun i hi => ⟨i, hi, rfl⟩⟩
theorem leads.trans {N : Nat} {M M' M'' : Mem} {b b' b'' : Nat} (h : leads N M b M' b') (h' : leads N M' b' M'' b'') : leads N M b M'' b'' := by
  refine ⟨h.1.trans h'.1, fun i hi => ?_⟩
  obtain ⟨i', h1, h2⟩ := h.2 i hi
  obtain ⟨i'', h3, h4⟩ := h'.2 i' h1
  exact ⟨i'', h3, h2.trans h4⟩
theorem leads.stops {N : Nat} {M M' : Mem} {b b' kd pl : Nat} (h : leads N M b M' b') (h' : stops N M' b' kd pl) : stops N M b kd pl := by
  intro i hi
  obtain ⟨i', h1, h2⟩ := h.2 i hi
  obtain ⟨Mx, h3, h4, h5, h6⟩ := h' i' h1
  exact ⟨Mx, h2.trans h3, h4, h5, h.1.trans h6⟩
def kpC (M M' : Mem) : Prop := smF [111, 112, 113, 120] M M' ∧ (∀ k, k < 6 ∨ k = 7 ∨ k = 13 ∨ k = 14 → rI M' 111 k = rI M 111 k) ∧ (∀ k, k ≠ 4 → rI M' 112 k = rI M 112 k)
theorem kpC.refl {M : Mem} : kpC M M := ⟨smF.refl, fun _ _ => rfl, fun _ _ => rfl⟩
theorem kpC.trans {M M' M'' : Mem} (h : kpC M M') (h' : kpC M' M'') : kpC M M'' := ⟨h.1.trans h'.1, fun k hk => (h'.2.1 k hk).trans (h.2.1 k hk), fun k hk => (h'.2.2 k hk).trans (h.2.2 k hk)⟩
theorem kpC.rd {M M' : Mem} (h : kpC M M') : smF rdC M M' := h.1.mono (by decide)
theorem tkC_lt {t : Nat → Nat} {n : Nat} (ht : ∀ j, j < n → t j < 256) (b : Nat) : tkC t n b < 256 := by
  unfold tkC
  split
  · rename_i c
    split
    · unfold wdC
      repeat' split
      all_goals omega
    · split
      · split <;> omega
      · split
        · exact ht b c
        · omega
  · omega
theorem l30_eq {N i : Nat} (hi : i < N) (v : Int32) (M : Mem) : fX4_readAll_l30 N 111 (N - i) v (nI i) M = fX4_readAll_l30_s N 111 (fX4_readAll_l30 N 111 (N - (i + 1))) v (nI i) M := by
  rw [show N - i = (N - (i + 1)) + 1 by omega]
  rfl
theorem tok_n0 {t : Nat → Nat} {n b : Nat} (ht : ∀ j, j < n → t j < 256) (hb : b < n) : ¬ nI (tkC t n b) = 0 := by
  intro z
  have h1 := tkC_lt ht b
  have h2 : nI (tkC t n b) = nI 0 := z
  rw [nI_eq (by omega) (by omega)] at h2
  have := tkC_0 h2 ht
  omega
theorem acc_lead {N n b : Nat} {t : Nat → Nat} {M M1 : Mem} (hN : 700 ≤ N) (h : lxT M n t) (hb : b < n) (hC : lxC M t n b) (ha : fX4_accept N 111 M = some (0, M1)) (h1 : lxT M1 n t) (h9 : rI M1 111 9 = nI (tkE t n b)) (hF : smF rdC M M1) :
    ∃ M2, leads N M b M2 (tkN t n (tkE t n b)) ∧ smF [111] M1 M2 ∧ (∀ k, k < 8 ∨ 12 ≤ k → rI M2 111 k = rI M1 111 k) ∧ lxC M2 t n (tkN t n (tkE t n b)) := by
  have hn := h.1
  have ht : ∀ j, j < n → t j < 256 := fun j hj => (h.2.2 j hj).1
  obtain ⟨M2, e, x1, x2, x3⟩ := adv_ok hN h1 h9 (tkE_le (by omega))
  have g1 := tkE_gt (t := t) hb
  have g2 := tkN_ge t n (tkE t n b)
  refine ⟨M2, ⟨hF.trans (x1.mono (by decide)), fun i hi => ⟨i + 1, by omega, ?_⟩⟩, x1, x2, x3⟩
  rw [l30_eq (by omega)]
  unfold fX4_readAll_l30_s fX4_readAll_b62
  rw [h.2.1, if_neg (nI_nlt (by omega) (by omega)), hC.2.2.1, if_neg (tok_n0 ht hb), if_pos rfl, ha, Option.bind_some]
  show (if (0 : Int32) = 0 then _ else _) = _
  rw [if_pos rfl, e, Option.bind_some, nI_1]
theorem b68_stop (N : Nat) (kd : Nat) (hk : 0 < kd) (hk2 : kd < 10) (M : Mem) : fX4_readAll_b68 N 111 (nI kd) M = some (false, wI (wI M 111 2 (nI kd)) 111 3 (rI M 111 8)) := by
  have z : ¬ nI kd = 0 := nI_ne0 hk (by omega)
  unfold fX4_readAll_b68 fX4_readAll_b81 fX4_readAll_b99 fX4_readAll_b113
  rw [if_neg z, if_neg z, if_neg z, if_neg z, show rI (wI M 111 2 (nI kd)) 111 8 = rI M 111 8 by rw [rI_wI, if_neg (by omega)]]
theorem stop_fin {N i b kd : Nat} {M M1 : Mem} {o : Option (Bool × Mem)} (hF : smF rdC M M1) (h8 : rI M1 111 8 = nI b) (ho : o = some (false, wI (wI M1 111 2 (nI kd)) 111 3 (rI M1 111 8))) : ∃ Mx, o = some (false, Mx) ∧ rI Mx 111 2 = nI kd ∧ rI Mx 111 3 = nI b ∧ smF rdC M Mx :=
  ⟨_, ho, by rw [rI_wI, if_neg (by omega), rI_wI, if_pos ⟨rfl, rfl⟩], by rw [rI_wI, if_pos ⟨rfl, rfl⟩]; exact h8, (hF.pI_ (by decide) _ _).pI_ (by decide) _ _⟩
theorem acc_stop {N n b kd : Nat} {t : Nat → Nat} {M M1 : Mem} (hN : 700 ≤ N) (h : lxT M n t) (hb : b < n) (hC : lxC M t n b) (hk : 0 < kd) (hk2 : kd < 10) (ha : fX4_accept N 111 M = some (nI kd, M1)) (h8 : rI M1 111 8 = nI b) (hF : smF rdC M M1) : stops N M b kd b := by
  have hn := h.1
  have ht : ∀ j, j < n → t j < 256 := fun j hj => (h.2.2 j hj).1
  intro i hi
  refine stop_fin (N := N) (i := i) hF h8 ?_
  rw [l30_eq (by omega)]
  unfold fX4_readAll_l30_s fX4_readAll_b62
  rw [h.2.1, if_neg (nI_nlt (by omega) (by omega)), hC.2.2.1, if_neg (tok_n0 ht hb), if_pos rfl, ha, Option.bind_some]
  have z : ¬ nI kd = 0 := nI_ne0 hk (by omega)
  show (if nI kd = 0 then _ else _) = _
  rw [if_neg z, nI_1]
  show fX4_readAll_l30 N 111 (N - (i + 1)) (nI kd) (nI (i + 1)) M1 = _
  rw [l30_eq (by omega)]
  unfold fX4_readAll_l30_s
  rw [b68_stop N kd hk hk2 M1]
  rw [if_neg z]
  split
  · rfl
  · split <;> rfl
theorem end_stop {N n b nx : Nat} {t : Nat → Nat} {M : Mem} (hN : 700 ≤ N) (h : lxT M n t) (hb : b = n) (hC : lxC M t n b) (hx : 0 < nx) (hx2 : nx < 10) (h12 : rI M 111 12 = nI nx) : stops N M b 2 b := by
  have hn := h.1
  intro i hi
  refine stop_fin (N := N) (i := i) smF.refl hC.1 ?_
  rw [l30_eq (by omega)]
  unfold fX4_readAll_l30_s
  have e0 : tkC t n b = 0 := by unfold tkC; rw [if_neg (by omega)]
  have e1 : fX4_readAll_b68 N 111 0 M = fX4_readAll_b81 N 111 2 M := by
    unfold fX4_readAll_b68
    rw [if_pos rfl, h12, if_neg (nI_ne0 hx (by omega))]
  have e2 : fX4_readAll_b81 N 111 2 M = fX4_readAll_b68 N 111 (nI 2) M := by
    unfold fX4_readAll_b68
    rw [if_neg (show ¬ nI 2 = 0 by decide)]
    rfl
  rw [h.2.1, if_neg (nI_nlt (by omega) (by omega)), hC.2.2.1, e0, if_pos (show nI 0 = (0 : Int32) from rfl), e1, e2, b68_stop N 2 (by omega) (by omega) M]
theorem bind_eta {α β : Type} (o : Option (α × β)) : (o.bind fun q => some (q.1, q.2)) = o := by cases o <;> rfl
theorem acc_bad {N n b : Nat} {t : Nat → Nat} {M : Mem} (hC : lxC M t n b) (h : tkC t n b = 1) : fX4_accept N 111 M = some (nI 1, M) := by
  unfold fX4_accept
  rw [hC.2.2.1, h, if_pos (show nI 1 = (1 : Int32) from rfl)]
  rfl
theorem tok_eq {t : Nat → Nat} {n b : Nat} {M : Mem} (h : lxT M n t) (hC : lxC M t n b) (c : Nat) (v : Int32) (hv : v = nI c) (hc : c < 256) : rI M 111 10 = v ↔ tkC t n b = c := by
  subst hv
  have := tkC_lt (fun j hj => (h.2.2 j hj).1) b
  rw [hC.2.2.1, nI_eq (by omega) (by omega)]
theorem acc_0 {N n b : Nat} {t : Nat → Nat} {M : Mem} (h : lxT M n t) (hC : lxC M t n b) (h1 : tkC t n b ≠ 1) (h12 : rI M 111 12 = nI 0) : fX4_accept N 111 M = fX4_acceptHead 111 M := by
  unfold fX4_accept
  rw [if_neg (fun z => h1 ((tok_eq h hC 1 1 rfl (by omega)).mp z)), h12, if_pos (show nI 0 = (0 : Int32) from rfl), bind_eta]
theorem acc_1 {N n b : Nat} {t : Nat → Nat} {M : Mem} (h : lxT M n t) (hC : lxC M t n b) (h1 : tkC t n b ≠ 1) (h12 : rI M 111 12 = nI 1) : fX4_accept N 111 M = fX4_acceptBound 111 M := by
  unfold fX4_accept
  rw [if_neg (fun z => h1 ((tok_eq h hC 1 1 rfl (by omega)).mp z)), h12, if_neg (by decide), if_pos (show nI 1 = (1 : Int32) from rfl), bind_eta]
theorem acc_2 {N n b : Nat} {t : Nat → Nat} {M : Mem} (h : lxT M n t) (hC : lxC M t n b) (h1 : tkC t n b ≠ 1) (h12 : rI M 111 12 = nI 2) : fX4_accept N 111 M = fX4_acceptSemicolon 111 M := by
  unfold fX4_accept fX4_accept_b68
  rw [if_neg (fun z => h1 ((tok_eq h hC 1 1 rfl (by omega)).mp z)), h12, if_neg (by decide), if_neg (by decide), if_pos (show nI 2 = (2 : Int32) from rfl), bind_eta]
theorem acc_3 {N n b : Nat} {t : Nat → Nat} {M : Mem} (h : lxT M n t) (hC : lxC M t n b) (h1 : tkC t n b ≠ 1) (h12 : rI M 111 12 = nI 3) : fX4_accept N 111 M = fX4_acceptOperand 111 M := by
  unfold fX4_accept
  rw [if_neg (fun z => h1 ((tok_eq h hC 1 1 rfl (by omega)).mp z)), h12, if_neg (by decide), if_neg (by decide), if_neg (by decide), if_pos (show nI 3 = (3 : Int32) from rfl), bind_eta]
theorem acc_4 {N n b : Nat} {t : Nat → Nat} {M : Mem} (h : lxT M n t) (hC : lxC M t n b) (h1 : tkC t n b ≠ 1) (h12 : rI M 111 12 = nI 4) : fX4_accept N 111 M = fX4_acceptOperator N 111 M := by
  unfold fX4_accept
  rw [if_neg (fun z => h1 ((tok_eq h hC 1 1 rfl (by omega)).mp z)), h12, if_neg (by decide), if_neg (by decide), if_neg (by decide), if_neg (by decide), if_pos (show nI 4 = (4 : Int32) from rfl), bind_eta]
/-- the class inside an expression: what may stand next, brackets open, steps waiting (the latest first), how much code and which -/
def exS (M : Mem) (nx o : Nat) (w : List Int32) (L : Nat) (F : Nat → Int32) : Prop := rI M 111 12 = nI nx ∧ rI M 111 15 = nI o ∧ rI M 111 6 = nI w.length ∧ stk M 120 w ∧ rI M 112 4 = nI L ∧ ∀ k, k < L → rI M 113 k = F k
def clS (M : Mem) (t : Nat → Nat) (n b nx o : Nat) (w : List Int32) (L : Nat) (F : Nat → Int32) : Prop := lxT M n t ∧ b ≤ n ∧ lxC M t n b ∧ exS M nx o w L F
theorem exS.mv {M M' : Mem} {nx o : Nat} {w : List Int32} {L : Nat} {F : Nat → Int32} (h : exS M nx o w L F) (hF : smF [111] M M') (h12 : rI M' 111 12 = rI M 111 12) (h15 : rI M' 111 15 = rI M 111 15) (h6 : rI M' 111 6 = rI M 111 6) : exS M' nx o w L F :=
  ⟨h12.trans h.1, h15.trans h.2.1, h6.trans h.2.2.1, fun j hj => by rw [hF.I_ (by decide)]; exact h.2.2.2.1 j hj, by rw [hF.I_ (by decide)]; exact h.2.2.2.2.1, fun k hk => by rw [hF.I_ (by decide)]; exact h.2.2.2.2.2 k hk⟩
theorem exS.F_ {M : Mem} {nx o : Nat} {w : List Int32} {L : Nat} {F F' : Nat → Int32} (h : exS M nx o w L F) (hF : ∀ k, k < L → F' k = F k) : exS M nx o w L F' :=
  ⟨h.1, h.2.1, h.2.2.1, h.2.2.2.1, h.2.2.2.2.1, fun k hk => by rw [hF k hk]; exact h.2.2.2.2.2 k hk⟩
theorem clS.F_ {M : Mem} {t : Nat → Nat} {n b nx o : Nat} {w : List Int32} {L : Nat} {F F' : Nat → Int32} (h : clS M t n b nx o w L F) (hF : ∀ k, k < L → F' k = F k) : clS M t n b nx o w L F' := ⟨h.1, h.2.1, h.2.2.1, h.2.2.2.F_ hF⟩
theorem ex_go {N n b nx o L : Nat} {w : List Int32} {F : Nat → Int32} {t : Nat → Nat} {M M1 : Mem} (hN : 700 ≤ N) (h : lxT M n t) (hb : b < n) (hC : lxC M t n b) (ha : fX4_accept N 111 M = some (0, M1)) (hk : kpC M M1) (h9 : rI M1 111 9 = rI M 111 9) (hx : exS M1 nx o w L F) :
    ∃ M2, leads N M b M2 (tkN t n (tkE t n b)) ∧ clS M2 t n (tkN t n (tkE t n b)) nx o w L F ∧ kpC M M2 := by
  have h1 : lxT M1 n t := h.mv (hk.2.1 7 (by omega)) (hk.1 119 (by decide))
  obtain ⟨M2, g1, g2, g3, g4⟩ := acc_lead hN h hb hC ha h1 (h9.trans hC.2.1) hk.rd
  refine ⟨M2, g1, ⟨h1.mv (g3 7 (by omega)) (g2 119 (by decide)), tkN_le (tkE_le (by omega)), g4, hx.mv g2 (g3 12 (by omega)) (g3 15 (by omega)) (g3 6 (by omega))⟩, hk.trans ⟨g2.mono (by decide), fun k hk => g3 k (by omega), fun k _ => g2.I_ (by decide) k⟩⟩
theorem emit_ok {L : Nat} {M : Mem} (v : Int32) (h : rI M 112 4 = nI L) (hL : L < 600) : fX6_emit 112 v M = some (wI (wI M 113 L v) 112 4 (nI (L + 1))) := by
  unfold fX6_emit
  rw [h, if_neg (show ¬ (600 : Int32) ≤ nI L from nI_ge (b := 600) hL (by decide)), if_pos (inB_nI (by omega) (by decide)), nI_clamp (by omega)]
  show some (wI (wI M 113 L v) 112 4 (rI (wI M 113 L v) 112 4 + 1)) = _
  rw [show rI (wI M 113 L v) 112 4 = nI L by rw [rI_wI, if_neg (by omega)]; exact h, nI_1]
theorem hold_ok {k : Nat} {M : Mem} (v : Int32) (h : rI M 111 6 = nI k) (hk : k < 20) : fX4_holdBack 111 v M = some (wI (wI M 120 k v) 111 6 (nI (k + 1))) := by
  unfold fX4_holdBack
  rw [h, if_neg (show ¬ (20 : Int32) ≤ nI k from nI_ge (b := 20) hk (by decide)), if_pos (inB_nI (by omega) (by decide)), nI_clamp (by omega)]
  show some (wI (wI M 120 k v) 111 6 (rI (wI M 120 k v) 111 6 + 1)) = _
  rw [show rI (wI M 120 k v) 111 6 = nI k by rw [rI_wI, if_neg (by omega)]; exact h, nI_1]
theorem stk_mv {M M' : Mem} {w : List Int32} (h : stk M 120 w) (e : ∀ k, k < w.length → rI M' 120 k = rI M 120 k) : stk M' 120 w := fun j hj => by rw [e _ (by omega)]; exact h j hj
theorem stk_tl {M : Mem} {x : Int32} {w : List Int32} (h : stk M 120 (x :: w)) : rI M 120 w.length = x ∧ stk M 120 w := by
  refine ⟨?_, fun j hj => ?_⟩
  · have := h 0 (by simp)
    simpa using this
  · have h1 := h (j + 1) (by simp only [List.length_cons]; omega)
    simp only [List.length_cons] at h1
    rw [show w.length + 1 - 1 - (j + 1) = w.length - 1 - j by omega] at h1
    exact h1
/-- an operand is emitted -/
theorem emS {M : Mem} {nx o L : Nat} {w : List Int32} {F F' : Nat → Int32} {v : Int32} (h : exS M nx o w L F) (hF : ∀ k, k < L → F' k = F k) (hv : F' L = v) : exS (wI (wI (wI M 113 L v) 112 4 (nI (L + 1))) 111 12 4) 4 o w (L + 1) F' ∧ kpC M (wI (wI (wI M 113 L v) 112 4 (nI (L + 1))) 111 12 4) ∧ ∀ k, k ≠ 12 → rI (wI (wI (wI M 113 L v) 112 4 (nI (L + 1))) 111 12 4) 111 k = rI M 111 k := by
  obtain ⟨h1, h2, h3, h4, h5, h6⟩ := h
  have e : ∀ k, k ≠ 12 → rI (wI (wI (wI M 113 L v) 112 4 (nI (L + 1))) 111 12 4) 111 k = rI M 111 k := fun k hk => by rw [rI_wI, if_neg (fun z => hk z.2), rI_wI, if_neg (by omega), rI_wI, if_neg (by omega)]
  refine ⟨⟨?_, (e 15 (by decide)).trans h2, (e 6 (by decide)).trans h3, stk_mv h4 (fun k _ => ?_), ?_, fun k hk => ?_⟩, ⟨((smF.refl.pI_ (by decide) _ _).pI_ (by decide) _ _).pI_ (by decide) _ _, fun k hk => e k (by omega), fun k hk => ?_⟩, e⟩
  · rw [rI_wI, if_pos ⟨rfl, rfl⟩]; rfl
  · rw [rI_wI, if_neg (by omega), rI_wI, if_neg (by omega), rI_wI, if_neg (by omega)]
  · rw [rI_wI, if_neg (by omega), rI_wI, if_pos ⟨rfl, rfl⟩]
  · rw [rI_wI, if_neg (by omega), rI_wI, if_neg (by omega), rI_wI]
    by_cases q : k = L
    · rw [if_pos ⟨rfl, q⟩, q]; exact hv.symm
    · rw [if_neg (fun z => q z.2), hF k (by omega)]; exact h6 k (by omega)
  · rw [rI_wI, if_neg (by omega), rI_wI, if_neg (fun z => hk z.2), rI_wI, if_neg (by omega)]
theorem c_opd {N n b o L : Nat} {w : List Int32} {F F' : Nat → Int32} {t : Nat → Nat} {M : Mem} (hN : 700 ≤ N) (h : clS M t n b 3 o w L F) (hL : L < 600) (ht : tkC t n b = 2 ∨ tkC t n b = 7 ∨ tkC t n b = 8) (hF : ∀ k, k < L → F' k = F k) (hv : F' L = if tkC t n b = 2 then nI (tkV t n b) else if tkC t n b = 7 then -1 else -2) :
    ∃ M2, leads N M b M2 (tkN t n (tkE t n b)) ∧ clS M2 t n (tkN t n (tkE t n b)) 4 o w (L + 1) F' ∧ kpC M M2 := by
  obtain ⟨hT, hbn, hC, hx⟩ := h
  have hb : b < n := by
    rcases Nat.lt_or_ge b n with c | c
    · exact c
    · have : tkC t n b = 0 := by unfold tkC; rw [if_neg (by omega)]
      omega
  obtain ⟨e1, e2, e3⟩ := emS hx hF hv
  refine ex_go hN hT hb hC ?_ e2 (e3 9 (by decide)) e1
  rw [acc_3 hT hC (by omega) hx.1]
  unfold fX4_acceptOperand fX4_acceptOperand_b115
  show (if rI M 111 10 = (2 : Int32) then (fX6_emit 112 (rI M 111 11) M).bind _ else if rI M 111 10 = (7 : Int32) then (fX6_emit 112 (-1 : Int32) M).bind _ else if rI M 111 10 = (8 : Int32) then (fX6_emit 112 (-2 : Int32) M).bind _ else _) = _
  rw [emit_ok _ hx.2.2.2.2.1 hL, emit_ok _ hx.2.2.2.2.1 hL, emit_ok _ hx.2.2.2.2.1 hL]
  have q2 := tok_eq hT hC 2 2 rfl (by omega)
  have q7 := tok_eq hT hC 7 7 rfl (by omega)
  have q8 := tok_eq hT hC 8 8 rfl (by omega)
  by_cases c2 : tkC t n b = 2
  · rw [if_pos (show rI M 111 10 = (2 : Int32) from q2.mpr c2), Option.bind_some, if_pos c2, hC.2.2.2 c2]
  · rw [if_neg (fun z => c2 (q2.mp z)), if_neg c2]
    by_cases c7 : tkC t n b = 7
    · rw [if_pos (show rI M 111 10 = (7 : Int32) from q7.mpr c7), Option.bind_some, if_pos c7]
    · rw [if_neg (fun z => c7 (q7.mp z)), if_neg c7, if_pos (show rI M 111 10 = (8 : Int32) from q8.mpr (by omega)), Option.bind_some]
/-- a bracket opens -/
theorem c_open {N n b o L : Nat} {w : List Int32} {F : Nat → Int32} {t : Nat → Nat} {M : Mem} (hN : 700 ≤ N) (h : clS M t n b 3 o w L F) (hw : w.length < 20) (ht : tkC t n b = 40) (ho : o < 6) :
    ∃ M2, leads N M b M2 (tkN t n (tkE t n b)) ∧ clS M2 t n (tkN t n (tkE t n b)) 3 (o + 1) (0 :: w) L F ∧ kpC M M2 := by
  obtain ⟨hT, hbn, hC, hx⟩ := h
  have hb : b < n := by
    rcases Nat.lt_or_ge b n with c | c
    · exact c
    · have : tkC t n b = 0 := by unfold tkC; rw [if_neg (by omega)]
      omega
  obtain ⟨h1, h2, h3, h4, h5, h6⟩ := hx
  have e6 : rI (wI M 111 15 (nI (o + 1))) 111 6 = nI w.length := by rw [rI_wI, if_neg (by omega)]; exact h3
  refine ex_go (M1 := wI (wI (wI M 111 15 (nI (o + 1))) 120 w.length 0) 111 6 (nI (w.length + 1))) hN hT hb hC ?_ ⟨((smF.refl.pI_ (by decide) _ _).pI_ (by decide) _ _).pI_ (by decide) _ _, fun k hk => ?_, fun k hk => ?_⟩ ?_ ⟨?_, ?_, ?_, ?_, ?_, fun k hk => ?_⟩
  · rw [acc_3 hT hC (by omega) h1]
    unfold fX4_acceptOperand
    rw [if_neg (fun z => by have := (tok_eq hT hC 2 2 rfl (by omega)).mp z; omega), if_neg (fun z => by have := (tok_eq hT hC 7 7 rfl (by omega)).mp z; omega), if_neg (fun z => by have := (tok_eq hT hC 8 8 rfl (by omega)).mp z; omega), if_pos ((tok_eq hT hC 40 40 rfl (by omega)).mpr ht), h2, if_pos (show nI o < (6 : Int32) from nI_lt (b := 6) ho (by decide)), nI_1, hold_ok 0 e6 hw, Option.bind_some]
  · rw [rI_wI, if_neg (by omega), rI_wI, if_neg (by omega), rI_wI, if_neg (by omega)]
  · rw [rI_wI, if_neg (by omega), rI_wI, if_neg (by omega), rI_wI, if_neg (by omega)]
  · rw [rI_wI, if_neg (by omega), rI_wI, if_neg (by omega), rI_wI, if_neg (by omega)]
  · rw [rI_wI, if_neg (by omega), rI_wI, if_neg (by omega), rI_wI, if_neg (by omega)]; exact h1
  · rw [rI_wI, if_neg (by omega), rI_wI, if_neg (by omega), rI_wI, if_pos ⟨rfl, rfl⟩]
  · rw [rI_wI, if_pos ⟨rfl, rfl⟩]; rfl
  · refine stk_mv (stk_push (stk_mv (M' := wI M 111 15 (nI (o + 1))) h4 (fun k _ => by rw [rI_wI, if_neg (by omega)])) 0) (fun k _ => by rw [rI_wI, if_neg (by omega)])
  · rw [rI_wI, if_neg (by omega), rI_wI, if_neg (by omega), rI_wI, if_neg (by omega)]; exact h5
  · rw [rI_wI, if_neg (by omega), rI_wI, if_neg (by omega), rI_wI, if_neg (by omega)]; exact h6 k hk
/-- no operand -/
theorem c_noOpd {N n b o L : Nat} {w : List Int32} {F : Nat → Int32} {t : Nat → Nat} {M : Mem} (hN : 700 ≤ N) (h : clS M t n b 3 o w L F) (ho6 : o ≤ 6) (ht : tkC t n b ≠ 2 ∧ tkC t n b ≠ 7 ∧ tkC t n b ≠ 8 ∧ (tkC t n b = 40 → o = 6)) : stops N M b (if tkC t n b = 1 then 1 else if tkC t n b = 40 then 5 else 2) b := by
  obtain ⟨hT, hbn, hC, hx⟩ := h
  rcases Nat.lt_or_ge b n with hb | hb
  · by_cases c1 : tkC t n b = 1
    · rw [if_pos c1]
      exact acc_stop hN hT hb hC (by omega) (by omega) (acc_bad hC c1) hC.1 smF.refl
    · rw [if_neg c1]
      by_cases c40 : tkC t n b = 40
      · rw [if_pos c40]
        refine acc_stop (M1 := M) hN hT hb hC (by omega) (by omega) ?_ hC.1 smF.refl
        rw [acc_3 hT hC c1 hx.1]
        unfold fX4_acceptOperand
        rw [if_neg (fun z => ht.1 ((tok_eq hT hC 2 2 rfl (by omega)).mp z)), if_neg (fun z => ht.2.1 ((tok_eq hT hC 7 7 rfl (by omega)).mp z)), if_neg (fun z => ht.2.2.1 ((tok_eq hT hC 8 8 rfl (by omega)).mp z)), if_pos ((tok_eq hT hC 40 40 rfl (by omega)).mpr c40), hx.2.1, if_neg (show ¬ nI o < (6 : Int32) from nI_nlt (b := 6) (by have := ht.2.2.2 c40; omega) (by omega))]
        rfl
      · rw [if_neg c40]
        refine acc_stop (M1 := M) hN hT hb hC (by omega) (by omega) ?_ hC.1 smF.refl
        rw [acc_3 hT hC c1 hx.1]
        unfold fX4_acceptOperand
        rw [if_neg (fun z => ht.1 ((tok_eq hT hC 2 2 rfl (by omega)).mp z)), if_neg (fun z => ht.2.1 ((tok_eq hT hC 7 7 rfl (by omega)).mp z)), if_neg (fun z => ht.2.2.1 ((tok_eq hT hC 8 8 rfl (by omega)).mp z)), if_neg (fun z => c40 ((tok_eq hT hC 40 40 rfl (by omega)).mp z))]
        rfl
  · have e0 : tkC t n b = 0 := by unfold tkC; rw [if_neg (by omega)]
    rw [e0, if_neg (by omega), if_neg (by omega)]
    exact end_stop hN hT (by omega) hC (by omega) (by omega) hx.1
