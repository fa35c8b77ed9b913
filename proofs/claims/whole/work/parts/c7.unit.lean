/-! RULES: units, and so all expressions -/
theorem lxE_all {P : Nat → Bool} {n : Nat} : ∀ (f p j : Nat), p ≤ j → j < runE P n f p → P j = true := by
  intro f
  induction f with
  | zero => intro p j h1 h2; exact absurd h2 (Nat.not_lt.mpr h1)
  | succ f ih =>
    intro p j h1 h2
    have h2' : j < (if p < n ∧ P p = true then runE P n f (p + 1) else p) := h2
    by_cases c : p < n ∧ P p = true
    · rw [if_pos c] at h2'
      by_cases e : j = p
      · rw [e]; exact c.2
      · exact ih (p + 1) j (by omega) h2'
    · rw [if_neg c] at h2'
      omega
theorem tkV_le {t : Nat → Nat} {n b : Nat} (h : tkC t n b = 2) : tkV t n b ≤ 99999 := by
  unfold tkC at h
  split at h
  · rename_i c
    split at h
    · exfalso
      unfold wdC at h
      repeat' split at h
      all_goals omega
    · rename_i q
      split at h
      · rename_i q2
        unfold tkV
        refine (uV_lt _ (fun j hj => ?_)).2
        unfold tkE at hj
        rw [if_pos c, if_neg q, if_pos q2] at hj
        exact lxE_all (P := fun j => uD (t j)) (n := n) (n - b) b (b + j) (by omega) (by unfold lxE at hj; omega)
      · exfalso
        split at h
        · rename_i q3
          have := of_decide_eq_true q3
          omega
        · omega
  · exact absurd h (by decide)
theorem tok_b {t : Nat → Nat} {n b : Nat} (h : tkC t n b ≠ 0) : b < n := by
  rcases Nat.lt_or_ge b n with c | c
  · exact c
  · exact absurd (by unfold tkC; rw [if_neg (by omega)]) h
theorem r_tookSign {N n b : Nat} {t : Nat → Nat} {M : Mem} (h : lxU M n t) (hR : lxR M t n b) (h14 : rI M 140 14 = 0) (c : Nat) (v : Int32) (hv : v = nI c) (hc : 37 ≤ c) (hc2 : c < 256) : fX11_tookSign N 140 v M = if tkC t n b = c then (fX11_reads N 140 M).bind fun q => some (true, q) else some (false, M) := by
  unfold fX11_tookSign fX11_tookSign_b14
  rw [r_isSign h hR h14 c v hv hc hc2, Option.bind_some]
  by_cases e : tkC t n b = c
  · rw [if_pos (decide_eq_true e), if_pos e, decide_eq_true e]
  · rw [if_neg (fun z => e (of_decide_eq_true z)), if_neg e, decide_eq_false e]
theorem r_noTook {N : Nat} {M : Mem} (h14 : ¬ rI M 140 14 = 0) (v : Int32) : fX11_tookSign N 140 v M = some (false, M) := by
  unfold fX11_tookSign fX11_tookSign_b14
  rw [r_noSign h14, Option.bind_some, if_neg Bool.false_ne_true]
theorem r_took {N n b s k : Nat} {t : Nat → Nat} {M : Mem} (hN : 700 ≤ N) (h : lxU M n t) (hR : lxR M t n b) (h14 : rI M 140 14 = 0) (hs : s ∈ wdS) (hk : 1 ≤ k) (hk6 : k ≤ 6) (he : bytS s = bytS k) : fX11_took N 140 s M = if tkC t n b = k + 2 then (fX11_reads N 140 M).bind fun q => some (true, q) else some (false, M) := by
  unfold fX11_took fX11_took_b14
  rw [r_isWord hN h hR h14 hs hk hk6 he, Option.bind_some]
  by_cases e : tkC t n b = k + 2
  · rw [if_pos (decide_eq_true e), if_pos e, decide_eq_true e]
  · rw [if_neg (fun z => e (of_decide_eq_true z)), if_neg e, decide_eq_false e]
theorem r_noTookW {N s : Nat} {M : Mem} (hN : 700 ≤ N) (h14 : ¬ rI M 140 14 = 0) : fX11_took N 140 s M = some (false, M) := by
  unfold fX11_took fX11_took_b14
  rw [r_noWord hN h14, Option.bind_some, if_neg Bool.false_ne_true]
theorem b63_bad {N : Nat} {rs : Nat → Mem → Option Mem} {M : Mem} (h14 : ¬ rI M 140 14 = 0) : fX11_readUnit_b63 rs N 140 M = some (wI M 140 13 (rI M 140 13 - 1)) := by
  unfold fX11_readUnit_b63 fX11_readUnit_b77
  rw [r_noTook h14, Option.bind_some, if_neg Bool.false_ne_true, r_noBlame h14, Option.bind_some]
theorem b31_bad {N : Nat} {rs : Nat → Mem → Option Mem} {M : Mem} (h14 : ¬ rI M 140 14 = 0) : Yo (fX11_readUnit_b31 rs N 140 M) (fun x => kqR M x ∧ rI x 140 14 = rI M 140 14 ∧ rI x 140 15 = rI M 140 15) := by
  unfold fX11_readUnit_b31 fX11_readUnit_b52
  have e14 : ∀ v : Int32, rI (wI M 140 13 v) 140 14 = rI M 140 14 := fun v => by rw [rI_wI, if_neg (by omega)]
  have e15 : ∀ v : Int32, rI (wI M 140 13 v) 140 15 = rI M 140 15 := fun v => by rw [rI_wI, if_neg (by omega)]
  have g : ∀ v : Int32, ¬ rI (wI M 140 13 v) 140 14 = 0 := fun v => by rw [e14]; exact h14
  rw [if_neg (g _), if_neg (g _), b63_bad (g _), yo_s]
  refine ⟨(kqR.w (by omega)).trans (kqR.w (by omega)), ?_, ?_⟩
  · rw [rI_wI, if_neg (by omega)]; exact e14 _
  · rw [rI_wI, if_neg (by omega)]; exact e15 _
theorem rfS.w13 {n b o o' L : Nat} {t : Nat → Nat} {M : Mem} (h : rfS M t n b o L) : rfS (wI M 140 13 (nI o')) t n b o' L ∧ kpR M (wI M 140 13 (nI o')) L := by
  obtain ⟨h1, h2, h3, h4, h5, h6, h7⟩ := h
  have e : ∀ k, k ≠ 13 → rI (wI M 140 13 (nI o')) 140 k = rI M 140 k := fun k hk => by rw [rI_wI, if_neg (fun z => hk z.2)]
  have s : smF [140] M (wI M 140 13 (nI o')) := smF.refl.pI_ (by decide) _ _
  refine ⟨⟨h1.mv (e 8 (by decide)) (s 146 (by decide)), h2, ?_, (e 14 (by decide)).trans h4, by rw [rI_wI, if_pos ⟨rfl, rfl⟩], by rw [s.I_ (by decide)]; exact h6, h7⟩, s.mono (by decide), fun k hk => e k (by omega), fun k _ => s.I_ (by decide) k⟩
  unfold lxR
  rw [e 10 (by decide), e 9 (by decide), e 11 (by decide), e 12 (by decide)]
  exact h3
theorem kq_bl {M : Mem} (v w : Int32) : kqR M (wI (wI M 140 14 v) 140 15 w) ∧ rI (wI (wI M 140 14 v) 140 15 w) 140 14 = v ∧ rI (wI (wI M 140 14 v) 140 15 w) 140 15 = w :=
  ⟨(kqR.w (by omega)).trans (kqR.w (by omega)), by rw [rI_wI, if_neg (by omega), rI_wI, if_pos ⟨rfl, rfl⟩], by rw [rI_wI, if_pos ⟨rfl, rfl⟩]⟩
theorem unit_ok {N n : Nat} {t : Nat → Nat} {o : Nat} {rs : Nat → Mem → Option Mem} (hN : 700 ≤ N) (hn : n ≤ 600) (ho : o ≤ 6) (hs : o < 6 → prS N n t (o + 1) 1 (rs 140)) : prS N n t o 3 (fX11_readUnit rs N 140) := by
  intro Mr b L h hL
  have hr := h
  obtain ⟨hU, hbn, hR, h14, h13, h18, _⟩ := h
  have okn : ∀ b', okN t n b' 3 := fun b' _ => by have := rkW_le (stW (tkC t n b')); omega
  have opd : ∀ (M2 : Mem) (b1 : Nat), b < n → b1 = tkN t n (tkE t n b) → (tkC t n b = 2 ∨ tkC t n b = 7 ∨ tkC t n b = 8) → rfS M2 t n b1 o (L + 1) → kpR Mr M2 L → isNumV (rI M2 142 (20 + 2 * L)) (rI M2 142 (21 + 2 * L)) → (Fr M2 L = if tkC t n b = 2 then nI (tkV t n b) else if tkC t n b = 7 then -1 else -2) → (∃ b' L' pend, pGood N n t o 3 Mr b L M2 b' L' pend ∧ okN t n b' 3) := by
    intro M2 b1 hb e1 ht q1 q2 q3 q4
    subst e1
    have g1 := tkE_gt (t := t) hb
    have g2 := tkN_ge t n (tkE t n b)
    refine ⟨_, L + 1, [], ⟨q1, q2, ⟨by simp, by omega, by omega, by simp⟩, fun x hx => (nomatch hx), fun j hj => absurd hj (Nat.not_lt_zero j), fun d hd => ?_, fun Mc w0 w1 w2 w3 => ?_⟩, okn _⟩
    · rw [show L + 1 - L = 0 + 1 by omega]
      exact Or.inl ⟨q3, by omega, rfl⟩
    · exact c_opd hN w3 (by omega) ht (fun k hk => q2.F hk) q4
  unfold fX11_readUnit
  rw [if_pos h14, r_isSign hU hR h14 40 40 rfl (by omega) (by omega), Option.bind_some]
  by_cases c40 : tkC t n b = 40
  · rw [if_pos (decide_eq_true c40)]
    have hb : b < n := tok_b (t := t) (by omega)
    have g1 := tkE_gt (t := t) hb
    have g2 := tkN_ge t n (tkE t n b)
    by_cases o6 : o = 6
    · rw [if_pos (by rw [h13, o6]; rfl), r_blames hR h14 5 5 rfl, Option.bind_some, if_neg (by omega)]
      obtain ⟨k1, k2, k3⟩ := kq_bl (M := Mr) (nI 5) (nI b)
      refine (b31_bad (by rw [k2]; decide)).to (fun x hx => Or.inr ⟨5, b, by omega, by omega, hx.2.1.trans k2, hx.2.2.trans k3, k1.trans hx.1, fun Mc w0 w1 w2 w3 => ?_⟩)
      have := c_noOpd hN w3 ho ⟨by omega, by omega, by omega, fun _ => o6⟩
      rw [if_neg (by omega), if_pos c40] at this
      exact this
    · have e6 : ¬ nI o = 6 := fun z => o6 (by have z' : nI o = nI 6 := z; rw [nI_eq (by omega) (by omega)] at z'; exact z')
      rw [h13, if_neg e6]
      unfold fX11_readUnit_b31
      rw [h13, nI_1]
      obtain ⟨p1, p2⟩ := hr.w13 (o' := o + 1)
      generalize wI Mr 140 13 (nI (o + 1)) = M1 at p1 p2 ⊢
      rw [if_pos p1.2.2.2.1]
      refine (p1.rd hN).bi (fun M2 x => ?_)
      obtain ⟨x1, x2, x3, x4⟩ := x
      unfold fX11_readUnit_b52
      rw [if_pos x1.2.2.2.1]
      refine (hs (by omega) M2 _ L x1 (by omega)).bi (fun M3 y => ?_)
      have eF : ∀ k, k < L → Fr M2 k = Fr Mr k := fun k hk => (x4.F hk).trans (p2.F hk)
      have cl : ∀ (Mc : Mem) (w0 : List Int32), w0.length + 1 ≤ 3 * o + 3 → clS Mc t n b 3 o w0 L (Fr Mr) → ∃ Mc', leads N Mc b Mc' (tkN t n (tkE t n b)) ∧ clS Mc' t n (tkN t n (tkE t n b)) 3 (o + 1) (0 :: w0) L (Fr M2) ∧ kpC Mc Mc' := by
        intro Mc w0 w2 w3
        obtain ⟨Mc1, c1, c2, c3⟩ := c_open hN w3 (by omega) c40 (by omega)
        exact ⟨Mc1, c1, c2.F_ eF, c3⟩
      have okb : ∀ w0 : List Int32, okW 1 (0 :: w0) := okW_0
      rcases y with ⟨b2, L2, pend, ⟨y1, y2, ⟨y3, y4, y5, y6⟩, y7, y8, y9, y10⟩, y11⟩ | ⟨kd, pl, y1, y2, y3, y4, y5, y6⟩
      · have hb2 : b2 ≤ n := y1.2.1
        unfold fX11_readUnit_b63
        rw [r_tookSign y1.1 y1.2.2.1 y1.2.2.2.1 41 41 rfl (by omega) (by omega)]
        by_cases c41 : tkC t n b2 = 41
        · have hb2n : b2 < n := tok_b (t := t) (by omega)
          have g3 := tkE_gt (t := t) hb2n
          have g4 := tkN_ge t n (tkE t n b2)
          rw [if_pos c41, yo_b]
          refine (y1.rd hN).bi (fun M4 z => ?_)
          obtain ⟨z1, z2, z3, z4⟩ := z
          rw [yo_s, if_pos rfl]
          unfold fX11_readUnit_b77
          rw [yo_s, z1.2.2.2.2.1, nI_pred]
          obtain ⟨p3, p4⟩ := z1.w13 (o' := o)
          have kk : kpR Mr (wI M4 140 13 (nI o)) L := p2.trans (x4.trans (y2.trans (z4.trans p4 (Nat.le_refl _)) (by omega)) (Nat.le_refl _)) (Nat.le_refl _)
          refine Or.inl ⟨_, L2, [], ⟨p3, kk, ⟨by simp; omega, by omega, by omega, by simp⟩, fun x hx => (nomatch hx), fun j hj => absurd hj (Nat.not_lt_zero j), fun d hd => ?_, fun Mc w0 w1 w2 w3 => ?_⟩, okn _⟩
          · exact okD_mv _ _ _ (fun j j1 j2 => (p4.2.2 j (by omega)).trans (z4.2.2 j (by omega))) (y9 d (by omega))
          · obtain ⟨Mc1, c1, c2, c3⟩ := cl Mc w0 w2 w3
            obtain ⟨Mc2, d1, d2, d3⟩ := y10 Mc1 (0 :: w0) (okb w0) (by simp only [List.length_cons]; omega) c2
            obtain ⟨Mc3, e1, e2, e3⟩ := c_close hN d2 (by omega) c41 (by omega) (by omega) y7 y8
            rw [show L2 - pend.length + pend.length = L2 by omega] at e2
            exact ⟨Mc3, (c1.trans d1).trans e1, e2.F_ (fun k hk => (p4.F hk).trans (z4.F hk)), (c3.trans d3).trans e3⟩
        · rw [if_neg c41, Option.bind_some, if_neg Bool.false_ne_true, r_blames y1.2.2.1 y1.2.2.2.1 2 2 rfl, Option.bind_some]
          unfold fX11_readUnit_b77
          rw [yo_s]
          obtain ⟨k1, k2, k3⟩ := kq_bl (M := M3) (nI (if tkC t n b2 = 1 then 1 else 2)) (nI b2)
          refine Or.inr ⟨if tkC t n b2 = 1 then 1 else 2, b2, by split <;> omega, by split <;> omega, ?_, ?_, ((p2.q.trans x4.q).trans y2.q).trans (k1.trans (kqR.w (by omega))), fun Mc w0 w1 w2 w3 => ?_⟩
          · rw [rI_wI, if_neg (by omega)]; exact k2
          · rw [rI_wI, if_neg (by omega)]; exact k3
          · obtain ⟨Mc1, c1, c2, c3⟩ := cl Mc w0 w2 w3
            obtain ⟨Mc2, d1, d2, d3⟩ := y10 Mc1 (0 :: w0) (okb w0) (by simp only [List.length_cons]; omega) c2
            refine (c1.trans d1).stops (c_noOp hN d2 (by omega) ⟨?_, fun q => absurd q c41, fun _ => by omega⟩)
            by_cases q : stW (tkC t n b2) = 0
            · exact q
            · have h1 := y11 q
              have h2 := (stW_op q).2.2.2.2
              omega
      · have hb3 : ¬ rI M3 140 14 = 0 := by rw [y3]; exact nI_kd y1 y2
        rw [b63_bad hb3, yo_s]
        refine Or.inr ⟨kd, pl, y1, y2, ?_, ?_, ((p2.q.trans x4.q).trans y5).trans (kqR.w (by omega)), fun Mc w0 w1 w2 w3 => ?_⟩
        · rw [rI_wI, if_neg (by omega)]; exact y3
        · rw [rI_wI, if_neg (by omega)]; exact y4
        · obtain ⟨Mc1, c1, c2, c3⟩ := cl Mc w0 w2 w3
          exact c1.stops (y6 Mc1 (0 :: w0) (okb w0) (by simp only [List.length_cons]; omega) c2)
  · rw [if_neg (fun z => c40 (of_decide_eq_true z)), hR.2.2.1]
    by_cases c2 : tkC t n b = 2
    · have hb : b < n := tok_b (t := t) (by omega)
      rw [if_pos (rkC_num.mpr c2), hR.2.2.2.1 c2]
      obtain ⟨M1, z1, z2, z3, z4, z5, z6⟩ := hr.cd (by omega) 0 (nI (tkV t n b))
      rw [z1, Option.bind_some]
      refine (z2.rd hN).bi (fun M2 x => ?_)
      obtain ⟨x1, x2, x3, x4⟩ := x
      rw [yo_s]
      have e1 : rI M2 142 (20 + 2 * L) = 0 := by rw [x2.I_ (by decide)]; exact z4
      have e2 : rI M2 142 (21 + 2 * L) = nI (tkV t n b) := by rw [x2.I_ (by decide)]; exact z5
      refine Or.inl (opd M2 _ hb rfl (Or.inl c2) x1 (z3.trans x4 (by omega)) ?_ ?_)
      · rw [e1, e2]
        exact Or.inl ⟨rfl, _, tkV_le c2, rfl⟩
      · rw [if_pos c2]
        unfold Fr
        rw [e1, e2]
        rfl
    · rw [if_neg (fun z => c2 (rkC_num.mp z)), r_took hN hU hR h14 (s := 37) (k := 5) (by decide) (by omega) (by omega) (by decide)]
      by_cases c7 : tkC t n b = 5 + 2
      · have hb : b < n := tok_b (t := t) (by omega)
        have g1 := tkE_gt (t := t) hb
        have g2 := tkN_ge t n (tkE t n b)
        rw [if_pos c7, yo_b]
        refine (hr.rd hN).bi (fun M1 x => ?_)
        obtain ⟨x1, x2, x3, x4⟩ := x
        obtain ⟨M2, z1, z2, z3, z4, z5, z6⟩ := x1.cd (by omega) 1 0
        rw [yo_s, if_pos rfl]
        show Yo ((fX11_code 140 1 0 M1).bind _) _
        rw [z1, Option.bind_some, yo_s]
        refine Or.inl (opd M2 _ hb rfl (Or.inr (Or.inl c7)) z2 (x4.trans z3 (Nat.le_refl _)) ?_ ?_)
        · rw [z4]
          exact Or.inr (Or.inl rfl)
        · rw [if_neg c2, if_pos c7]
          unfold Fr
          rw [z4]
          exact (encs _).2.2.2.2.2.1
      · rw [if_neg c7, Option.bind_some, if_neg Bool.false_ne_true, r_took hN hU hR h14 (s := 38) (k := 6) (by decide) (by omega) (by omega) (by decide)]
        by_cases c8 : tkC t n b = 6 + 2
        · have hb : b < n := tok_b (t := t) (by omega)
          have g1 := tkE_gt (t := t) hb
          have g2 := tkN_ge t n (tkE t n b)
          rw [if_pos c8, yo_b]
          refine (hr.rd hN).bi (fun M1 x => ?_)
          obtain ⟨x1, x2, x3, x4⟩ := x
          obtain ⟨M2, z1, z2, z3, z4, z5, z6⟩ := x1.cd (by omega) 2 0
          rw [yo_s, if_pos rfl]
          show Yo ((fX11_code 140 2 0 M1).bind _) _
          rw [z1, Option.bind_some, yo_s]
          refine Or.inl (opd M2 _ hb rfl (Or.inr (Or.inr c8)) z2 (x4.trans z3 (Nat.le_refl _)) ?_ ?_)
          · rw [z4]
            exact Or.inr (Or.inr rfl)
          · rw [if_neg c2, if_neg c7]
            unfold Fr
            rw [z4]
            exact (encs _).2.2.2.2.2.2
        · rw [if_neg c8, Option.bind_some, if_neg Bool.false_ne_true]
          show Yo ((fX11_blames 140 2 Mr).bind _) _
          rw [r_blames hR h14 2 2 rfl, Option.bind_some, yo_s]
          obtain ⟨k1, k2, k3⟩ := kq_bl (M := Mr) (nI (if tkC t n b = 1 then 1 else 2)) (nI b)
          refine Or.inr ⟨if tkC t n b = 1 then 1 else 2, b, by split <;> omega, by split <;> omega, k2, k3, k1, fun Mc w0 w1 w2 w3 => ?_⟩
          have := c_noOpd hN w3 ho ⟨c2, c7, c8, fun q => absurd q c40⟩
          rw [if_neg c40] at this
          exact this
/-- expressions in o brackets -/
theorem sums_ok {N n : Nat} {t : Nat → Nat} (hN : 700 ≤ N) (hn : n ≤ 600) : ∀ d o, o + d = 8 → o ≤ 6 → prS N n t o 1 (fX11_readSumD N d 140) := by
  intro d
  induction d with
  | zero => intro o h1 h2; omega
  | succ d ih =>
    intro o h1 h2
    exact sum_ok (rs := fX11_readSumD N d) hN hn h2 (prod_ok hN hn h2 (unit_ok hN hn h2 (fun h6 => ih (o + 1) (by omega) (by omega))))
