/-! RULES: a line with an expression -/
theorem for_bad {N : Nat} {M : Mem} (v : Int32) (h14 : ¬ rI M 140 14 = 0) : fX11_readFor N 140 v M = some M := by
  unfold fX11_readFor
  rw [if_neg h14]
theorem r_for {N n b L w m : Nat} {t : Nat → Nat} {Mr : Mem} (hN : 700 ≤ N) (hn : n ≤ 600) (h : rfS Mr t n b 0 L) (hL : L ≤ b) (hb : b < n) (hw : w ≤ 6) (hwm : w < 6 → w = m) (hm : m ≤ 6) (h3 : rI Mr 142 3 = nI m) :
    Yo (fX11_readFor N 140 (nI w) Mr) (fun x => ∃ M1, rfS M1 t n (tkN t n (tkE t n b)) 0 L ∧ smF [140] Mr M1 ∧ kqR Mr M1 ∧
      ((∃ M2 b2 L2 pend, pGood N n t 0 1 M1 (tkN t n (tkE t n b)) L M2 b2 L2 pend ∧ okN t n b2 1 ∧ rfS x t n b2 0 L2 ∧ kqR M2 x ∧ (∀ k, rI x 142 k = if k = 4 + 2 * w then nI L else if k = 5 + 2 * w then nI L2 else if k = 3 ∧ w < 6 then nI (m + 1) else rI M2 142 k)) ∨ pBad N n t 0 1 M1 (tkN t n (tkE t n b)) L x)) := by
  have g1 := tkE_gt (t := t) hb
  have g2 := tkN_ge t n (tkE t n b)
  unfold fX11_readFor
  rw [if_pos h.2.2.2.1]
  refine (h.rd hN).bi (fun M1 y => ?_)
  obtain ⟨y1, y2, y3, y4⟩ := y
  rw [if_pos (by decide)]
  have hs := sums_ok (t := t) hN hn 8 0 rfl (by omega) M1 _ L y1 (by omega)
  refine (show Yo (fX11_readSum N 140 M1) _ from hs).bi (fun M2 z => ?_)
  rcases z with ⟨b2, L2, pend, z1, z2⟩ | z
  · have zz := z1
    obtain ⟨⟨u1, u2, u3, u4, u5, u6, u7⟩, p2, ⟨p3, p4, p5, p6⟩, _⟩ := z1
    have e18 : rI M1 (140 + 2) (18 : Int32).toNatClampNeg = nI L := y1.2.2.2.2.2.1
    have i4 : (4 : Int32) + (2 : Int32) * nI w = nI (4 + 2 * w) := by rw [li_4, li_2, pk_mul, nI_add]
    have i5 : nI (4 + 2 * w) + (1 : Int32) = nI (5 + 2 * w) := by rw [nI_1]; congr 1; omega
    rw [if_pos u4, i4, i5, if_pos (inB_nI (by omega) (by decide)), if_pos (by decide), if_pos (inB_nI (by omega) (by decide)), nI_clamp (by omega), nI_clamp (by omega), e18]
    have f18 : rI (wI M2 (140 + 2) (4 + 2 * w) (nI L)) (140 + 2) (18 : Int32).toNatClampNeg = nI L2 := by
      rw [rI_wI]
      show (if 142 = 142 ∧ 18 = 4 + 2 * w then _ else rI M2 142 18) = _
      rw [if_neg (by omega)]
      exact u6
    rw [f18]
    have f3 : rI (wI (wI M2 (140 + 2) (4 + 2 * w) (nI L)) (140 + 2) (5 + 2 * w) (nI L2)) (140 + 2) (3 : Int32).toNatClampNeg = nI m := by
      rw [rI_wI, rI_wI]
      show (if 142 = 142 ∧ 3 = 5 + 2 * w then _ else if 142 = 142 ∧ 3 = 4 + 2 * w then _ else rI M2 142 3) = _
      rw [if_neg (by omega), if_neg (by omega), p2.2.2 3 (by omega), y2.I_ (by decide)]
      exact h3
    have fin : ∀ x : Mem, smF [142] M2 x → (∀ k, rI x 142 k = if k = 4 + 2 * w then nI L else if k = 5 + 2 * w then nI L2 else if k = 3 ∧ w < 6 then nI (m + 1) else rI M2 142 k) → rfS x t n b2 0 L2 ∧ kqR M2 x := by
      intro x sx ex
      have e : ∀ k, rI x 140 k = rI M2 140 k := fun k => sx.I_ (by decide) k
      refine ⟨⟨u1.mv (e 8) (sx 146 (by decide)), u2, ?_, (e 14).trans u4, (e 13).trans u5, ?_, u7⟩, sx.mono (by decide), fun k _ => e k⟩
      · unfold lxR
        rw [e, e, e, e]
        exact u3
      · rw [ex, if_neg (by omega), if_neg (by omega), if_neg (by omega)]; exact u6
    by_cases c : w < 6
    · rw [if_neg (show ¬ (6 : Int32) ≤ nI w from nI_ge (b := 6) c (by decide)), if_pos (by decide), if_pos (by decide), f3, nI_1, yo_s]
      have ex : ∀ k, rI (wI (wI (wI M2 (140 + 2) (4 + 2 * w) (nI L)) (140 + 2) (5 + 2 * w) (nI L2)) (140 + 2) (3 : Int32).toNatClampNeg (nI (m + 1))) 142 k = if k = 4 + 2 * w then nI L else if k = 5 + 2 * w then nI L2 else if k = 3 ∧ w < 6 then nI (m + 1) else rI M2 142 k := fun k => by
        rw [rI_wI, rI_wI, rI_wI]
        show (if 142 = 142 ∧ k = 3 then _ else if 142 = 142 ∧ k = 5 + 2 * w then _ else if 142 = 142 ∧ k = 4 + 2 * w then _ else rI M2 142 k) = _
        by_cases q3 : k = 3
        · rw [if_pos ⟨rfl, q3⟩, if_neg (by omega), if_neg (by omega), if_pos ⟨q3, c⟩]
        · rw [if_neg (fun z => q3 z.2)]
          by_cases q5 : k = 5 + 2 * w
          · rw [if_pos ⟨rfl, q5⟩, if_neg (by omega), if_pos q5]
          · rw [if_neg (fun z => q5 z.2)]
            by_cases q4 : k = 4 + 2 * w
            · rw [if_pos ⟨rfl, q4⟩, if_pos q4]
            · rw [if_neg (fun z => q4 z.2), if_neg q4, if_neg q5, if_neg (fun z => q3 z.1)]
      obtain ⟨r1, r2⟩ := fin _ (((smF.refl.pI_ (by decide) _ _).pI_ (by decide) _ _).pI_ (by decide) _ _) ex
      exact ⟨M1, y1, y2, y4.q, Or.inl ⟨M2, b2, L2, pend, zz, z2, r1, r2, ex⟩⟩
    · have hw6 : w = 6 := by omega
      rw [if_pos (show (6 : Int32) ≤ nI w from nI_le (a := 6) (by omega) (by omega)), yo_s]
      have ex : ∀ k, rI (wI (wI M2 (140 + 2) (4 + 2 * w) (nI L)) (140 + 2) (5 + 2 * w) (nI L2)) 142 k = if k = 4 + 2 * w then nI L else if k = 5 + 2 * w then nI L2 else if k = 3 ∧ w < 6 then nI (m + 1) else rI M2 142 k := fun k => by
        rw [rI_wI, rI_wI]
        show (if 142 = 142 ∧ k = 5 + 2 * w then _ else if 142 = 142 ∧ k = 4 + 2 * w then _ else rI M2 142 k) = _
        by_cases q5 : k = 5 + 2 * w
        · rw [if_pos ⟨rfl, q5⟩, if_neg (by omega), if_pos q5]
        · rw [if_neg (fun z => q5 z.2)]
          by_cases q4 : k = 4 + 2 * w
          · rw [if_pos ⟨rfl, q4⟩, if_pos q4]
          · rw [if_neg (fun z => q4 z.2), if_neg q4, if_neg q5, if_neg (fun z => c z.2)]
      obtain ⟨r1, r2⟩ := fin _ ((smF.refl.pI_ (by decide) _ _).pI_ (by decide) _ _) ex
      exact ⟨M1, y1, y2, y4.q, Or.inl ⟨M2, b2, L2, pend, zz, z2, r1, r2, ex⟩⟩
  · have z' := z
    obtain ⟨kd, pl, v1, v2, v3, v4, v5, v6⟩ := z
    rw [if_neg (by rw [v3]; exact nI_kd v1 v2), yo_s]
    exact ⟨M1, y1, y2, y4.q, Or.inr z'⟩
theorem fin_mark {N m L p : Nat} {M : Mem} (hN : 700 ≤ N) (h13 : rI M 111 13 = nI 5) (h14 : rI M 111 14 = nI p) (h3 : rI M 112 3 = nI m) (hm : m < 6) (h4 : rI M 112 4 = nI L) (hL : L ≤ 600) (hp : p ≤ L) :
    Yo (fX4_finishExpression N 111 M) (fun x => smF [112, 114, 115] M x ∧ ((∀ k, k ≠ 3 → k ≠ 7 → rI x 112 k = rI M 112 k) ∧ rI x 112 3 = nI (m + 1) ∧ (∀ w, rI x 114 w = if w = m then nI p else rI M 114 w) ∧ (∀ w, rI x 115 w = if w = m then nI L else rI M 115 w) ∧ (∀ w, w < 32 → w ≠ m → bt (rI x 112 7) w = bt (rI M 112 7) w) ∧ (bt (rI x 112 7) m = false → ∀ k, p ≤ k → k < L → rI M 113 k ≠ -2))) := by
  unfold fX4_finishExpression
  rw [if_pos (by rw [h13]; rfl), h14]
  refine (show Yo (fX6_addMark N 112 (nI p) M) _ from addMark_ok hN h3 hm h4 hL hp).bi (fun x hx => ?_)
  rw [yo_s]
  exact hx
theorem fin_tag {N L p : Nat} {M : Mem} (h13 : rI M 111 13 = nI 6) (h14 : rI M 111 14 = nI p) (h4 : rI M 112 4 = nI L) :
    Yo (fX4_finishExpression N 111 M) (fun x => smF [112] M x ∧ (∀ k, rI x 112 k = if k = 5 then nI p else if k = 6 then nI L else rI M 112 k)) := by
  unfold fX4_finishExpression fX6_setTag
  rw [if_neg (by rw [h13]; decide), h14, Option.bind_some, yo_s]
  refine ⟨(smF.refl.pI_ (by decide) _ _).pI_ (by decide) _ _, fun k => ?_⟩
  have q4 : rI (wI M 112 5 (nI p)) 112 4 = nI L := by rw [rI_wI, if_neg (by omega)]; exact h4
  show rI (wI (wI M 112 5 (nI p)) 112 6 (rI (wI M 112 5 (nI p)) 112 4)) 112 k = _
  rw [q4, rI_wI, rI_wI]
  by_cases q5 : k = 5
  · rw [if_neg (by omega), if_pos ⟨rfl, q5⟩, if_pos q5]
  · by_cases q6 : k = 6
    · rw [if_pos ⟨rfl, q6⟩, if_neg q5, if_pos q6]
    · rw [if_neg (fun z => q6 z.2), if_neg (fun z => q5 z.2), if_neg q5, if_neg q6]
theorem ln_exp {N n b L w m : Nat} {t : Nat → Nat} {Mr : Mem} (hN : 700 ≤ N) (hn : n ≤ 600) (h : rfS Mr t n b 0 L) (hL : L ≤ b) (ht : (tkC t n b = 5 ∧ w = m ∧ m < 6) ∨ (tkC t n b = 6 ∧ w = 6)) (hm : m ≤ 6) (h3 : rI Mr 142 3 = nI m) :
    Yo ((fX11_readFor N 140 (nI w) Mr).bind fun q => fX11_readLine_b112 N 140 q) (fun x => (∃ b' L', lnGood N n t Mr b L x b' L') ∨ lnBad N n t Mr b L x) := by
  have hb : b < n := tok_b (t := t) (by omega)
  have g1 := tkE_gt (t := t) hb
  have g2 := tkN_ge t n (tkE t n b)
  refine (r_for hN hn h hL hb (by omega) (by omega) hm h3).bi (fun x hx => ?_)
  obtain ⟨M1, y1, y2, y3, hx⟩ := hx
  have hd : ∀ (Mc : Mem) (W g m' : Nat), clL Mc t n b → dfT Mc (Mr 142).1 L W g m' → ∃ Ma, leads N Mc b Ma (tkN t n (tkE t n b)) ∧ smF [111] Mc Ma ∧ clS Ma t n (tkN t n (tkE t n b)) 3 0 [] L (Fr M1) ∧ rI Ma 111 13 = nI (tkC t n b) ∧ rI Ma 111 14 = nI L ∧ m' = m := by
    intro Mc W g m' hc hdf
    obtain ⟨_, _, ⟨f9, f10, f11⟩, _, ⟨f13, f14⟩, _⟩ := hdf
    have em : m' = m := by
      have e1 : rI Mr 142 3 = nI m' := f10
      rw [h3, nI_eq (by omega) (by omega)] at e1
      exact e1.symm
    subst em
    obtain ⟨Ma, a1, a2, a3, a4, a5⟩ := c_headE (F := Fr M1) hN hc (by omega) f11 hm f13 (fun k hk => by rw [f14 k hk]; exact (Fr_sm (y2 142 (by decide)) k).symm)
    exact ⟨Ma, a1, a2, a3, a4, a5, rfl⟩
  rcases hx with ⟨M2, b2, L2, pend, z1, z2, z3, z4, z5⟩ | ⟨kd, pl, v1, v2, v3, v4, v5, v6⟩
  · obtain ⟨u0, p2, ⟨p3, p4, p5, p6⟩, p7, p8, p9, p10⟩ := z1
    have kq : kqR Mr x := (y3.trans p2.q).trans z4
    have hb2 : b2 ≤ n := z3.2.1
    refine (b112_ok hN z3).to (fun y hy => ?_)
    rcases hy with ⟨q1, q2, q3, q4, q5⟩ | ⟨q1, q2, q3, q4⟩
    · have g3 := tkE_gt (t := t) (tok_b (t := t) (n := n) (b := b2) (by omega))
      have g4 := tkN_ge t n (tkE t n b2)
      have T_lo : ∀ k, k ≠ 0 → k < 18 → k ≠ 4 + 2 * w → k ≠ 5 + 2 * w → ¬ (k = 3 ∧ w < 6) → (y 142).1 k = (Mr 142).1 k := fun k k0 k1 k2 k3 k4 => by
        show rI y 142 k = rI Mr 142 k
        rw [q5 k k0, z5, if_neg k2, if_neg k3, if_neg k4, p2.2.2 k (by omega), y2.I_ (by decide)]
      have T_2 : ∀ k, 20 ≤ k → (y 142).1 k = (M2 142).1 k := fun k k0 => by
        show rI y 142 k = rI M2 142 k
        rw [q5 k (by omega), z5, if_neg (by omega), if_neg (by omega), if_neg (by omega)]
      have T_hi : ∀ k, (20 ≤ k ∧ k < 20 + 2 * L) ∨ 1220 ≤ k → (y 142).1 k = (Mr 142).1 k := fun k hk => by
        rw [T_2 k (by omega)]
        show rI M2 142 k = rI Mr 142 k
        rw [p2.2.2 k (by omega), y2.I_ (by decide)]
      have T_0 : (y 142).1 0 = (Mr 142).1 0 + 1 := by
        show rI y 142 0 = rI Mr 142 0 + 1
        rw [q4, z5, if_neg (by omega), if_neg (by omega), if_neg (by omega), p2.2.2 0 (by omega), y2.I_ (by decide)]
      have T_4 : (y 142).1 (4 + 2 * w) = nI L := by
        show rI y 142 (4 + 2 * w) = _
        rw [q5 _ (by omega), z5, if_pos rfl]
      have T_5 : (y 142).1 (5 + 2 * w) = nI L2 := by
        show rI y 142 (5 + 2 * w) = _
        rw [q5 _ (by omega), z5, if_neg (by omega), if_pos rfl]
      have T_3 : (y 142).1 3 = if w < 6 then nI (m + 1) else nI m := by
        show rI y 142 3 = _
        rw [q5 _ (by omega), z5, if_neg (by omega), if_neg (by omega)]
        by_cases c : w < 6
        · rw [if_pos ⟨rfl, c⟩, if_pos c]
        · rw [if_neg (fun z => c z.2), if_neg c, p2.2.2 3 (by omega), y2.I_ (by decide)]
          exact h3
      have okn : okD (y 142).1 (L2 - L) L 0 1 := okD_mv _ _ _ (fun j j1 j2 => T_2 j (by omega)) (p9 0 (by omega))
      refine Or.inl ⟨_, L2, q2, by omega, by omega, kq.trans q3, ⟨if w < 6 then m + 1 else m, by split <;> omega, ?_⟩, fun k hk => T_hi k (Or.inr hk), fun Mc W g m' hc hdf => ?_⟩
      · show (y 142).1 3 = _
        rw [T_3]
        split <;> rfl
      · obtain ⟨Ma, a1, a2, a3, a4, a5, em⟩ := hd Mc W g m' hc hdf
        subst em
        obtain ⟨⟨f1, f2, f3, f4⟩, ⟨f5, f6, f7, f8⟩, ⟨f9, f10, f11⟩, f12, ⟨f13, f14⟩, f15, f16⟩ := hdf
        obtain ⟨Mb, b1, b3, b4⟩ := p10 Ma [] (okW_nil 1) (by simp) a3
        have K : ∀ {M1' : Mem}, kpC Mb M1' → (∀ k, k ≠ 4 → rI M1' 112 k = rI Mc 112 k) ∧ (∀ a, a ≠ 111 → a ≠ 112 → a ≠ 113 → a ≠ 120 → M1' a = Mc a) ∧ rI M1' 111 13 = nI (tkC t n b) ∧ rI M1' 111 14 = nI L := fun k => by
          have kk := b4.trans k
          exact ⟨fun j hj => by rw [kk.2.2 j hj, a2.I_ (by decide)], fun a h1 h2 h3 h4 => by rw [kk.1 a (by simp; omega), a2 a (by simpa using h1)], by rw [kk.2.1 13 (by omega)]; exact a4, by rw [kk.2.1 14 (by omega)]; exact a5⟩
        have EF : ∀ k, k < L2 → Fr M2 k = encV ((y 142).1 (20 + 2 * k)) ((y 142).1 (21 + 2 * k)) := fun k hk => by
          rw [T_2 _ (by omega), T_2 _ (by omega)]
          rfl
        have eL : L2 - pend.length + pend.length = L2 := by omega
        have hL2 : L2 ≤ 600 := by omega
        rcases ht with ⟨t5, twm, tm⟩ | ⟨t6, tw6⟩
        · subst twm
          obtain ⟨Mf, Mg, Mh, d1, d2, d3, ⟨e1, e2, e3, e4, e5, e6⟩, d5, d6, d7, d8, d9⟩ := c_fin (Q := fun M1' x => (∀ k, k ≠ 3 → k ≠ 7 → rI x 112 k = rI M1' 112 k) ∧ rI x 112 3 = nI (w + 1) ∧ (∀ j, rI x 114 j = if j = w then nI L else rI M1' 114 j) ∧ (∀ j, rI x 115 j = if j = w then nI L2 else rI M1' 115 j) ∧ (∀ j, j < 32 → j ≠ w → bt (rI x 112 7) j = bt (rI M1' 112 7) j) ∧ (bt (rI x 112 7) w = false → ∀ k, L ≤ k → k < L2 → rI M1' 113 k ≠ -2)) (S := [112, 114, 115]) hN b3 q1 (by omega) (by omega) p7 p8 (fun a ha => by simp at ha; omega) (fun M1' x1 x2 => by
            obtain ⟨k1, k2, k3, k4⟩ := K x2
            exact fin_mark hN (by rw [k3, t5]) k4 ((k1 3 (by omega)).trans f11) tm (by rw [x1.2.2.2.2.1, eL]) hL2 (by omega))
          obtain ⟨k1, k2, k3, k4⟩ := K d2
          have C_lo : ∀ k, k ≠ 0 → k ≠ 3 → k ≠ 4 → k ≠ 7 → rI Mh 112 k = rI Mc 112 k := fun k h0 h3 h4 h7 => by rw [d8 k h0, e1 k h3 h7, k1 k h4]
          have C_hi : ∀ a, a ≠ 111 → a ≠ 112 → ∀ k, rI Mh a k = rI Mg a k := fun a h1 h2 k => eqs_rI (d9 a h1 h2) k
          refine ⟨Mh, W, g, w + 1, (a1.trans b1).trans d5, d6, ⟨f1, f2, by rw [T_lo 1 (by omega) (by omega) (by omega) (by omega) (by omega)]; exact f3, by rw [C_lo 1 (by omega) (by omega) (by omega) (by omega)]; exact f4⟩, ⟨f5, f6, by rw [T_lo 2 (by omega) (by omega) (by omega) (by omega) (by omega)]; exact f7, by rw [C_lo 2 (by omega) (by omega) (by omega) (by omega)]; exact f8⟩, ⟨by omega, by rw [T_3, if_pos tm], by rw [d8 3 (by omega)]; exact e2⟩, ?_, ⟨?_, fun k hk => ?_⟩, fun j hj => ?_, ?_⟩
          · rw [d7, e1 0 (by omega) (by omega), k1 0 (by omega), f12, T_0]
          · rw [d8 4 (by omega), e1 4 (by omega) (by omega), d1.2.2.2.2.1, eL]
          · rw [C_hi 113 (by omega) (by omega), d3.I_ (by decide), d1.2.2.2.2.2 k (by omega)]
            exact EF k hk
          · by_cases c : j = w
            · subst c
              refine ⟨L, L2, by omega, Nat.le_refl _, T_4, T_5, okn, ?_, ?_, fun z k j1 j2 q => ?_⟩
              · rw [C_hi 114 (by omega) (by omega), e3, if_pos rfl]
              · rw [C_hi 115 (by omega) (by omega), e4, if_pos rfl]
              · rw [d8 7 (by omega)] at z
                refine e6 z k j1 j2 ?_
                rw [d1.2.2.2.2.2 k (by omega), EF k j2, q]
                exact (encs _).2.2.2.2.2.2
            · refine (f15 j (by omega)).mv (T_lo _ (by omega) (by omega) (by omega) (by omega) (by omega)) (T_lo _ (by omega) (by omega) (by omega) (by omega) (by omega)) (fun k k1 k2 => T_hi k (by omega)) ?_ ?_ ?_ (by omega)
              · rw [C_hi 114 (by omega) (by omega), e3, if_neg c]; exact eqs_rI (k2 114 (by omega) (by omega) (by omega) (by omega)) j
              · rw [C_hi 115 (by omega) (by omega), e4, if_neg c]; exact eqs_rI (k2 115 (by omega) (by omega) (by omega) (by omega)) j
              · rw [d8 7 (by omega), e5 j (by omega) c, k1 7 (by omega)]
          · exact f16.mv (T_lo _ (by omega) (by omega) (by omega) (by omega) (by omega)) (T_lo _ (by omega) (by omega) (by omega) (by omega) (by omega)) (fun k k1 k2 => T_hi k (by omega)) (C_lo 5 (by omega) (by omega) (by omega) (by omega)) (C_lo 6 (by omega) (by omega) (by omega) (by omega)) (by omega)
        · subst tw6
          obtain ⟨Mf, Mg, Mh, d1, d2, d3, e1, d5, d6, d7, d8, d9⟩ := c_fin (Q := fun M1' x => ∀ k, rI x 112 k = if k = 5 then nI L else if k = 6 then nI L2 else rI M1' 112 k) (S := [112]) hN b3 q1 (by omega) (by omega) p7 p8 (fun a ha => by simp at ha; omega) (fun M1' x1 x2 => by
            obtain ⟨k1, k2, k3, k4⟩ := K x2
            exact fin_tag (by rw [k3, t6]) k4 (by rw [x1.2.2.2.2.1, eL]))
          obtain ⟨k1, k2, k3, k4⟩ := K d2
          have C_lo : ∀ k, k ≠ 0 → k ≠ 4 → k ≠ 5 → k ≠ 6 → rI Mh 112 k = rI Mc 112 k := fun k h0 h4 h5 h6 => by rw [d8 k h0, e1 k, if_neg h5, if_neg h6, k1 k h4]
          have C_hi : ∀ a, a ≠ 111 → a ≠ 112 → ∀ k, rI Mh a k = rI Mg a k := fun a h1 h2 k => eqs_rI (d9 a h1 h2) k
          refine ⟨Mh, W, g, m', (a1.trans b1).trans d5, d6, ⟨f1, f2, by rw [T_lo 1 (by omega) (by omega) (by omega) (by omega) (by omega)]; exact f3, by rw [C_lo 1 (by omega) (by omega) (by omega) (by omega)]; exact f4⟩, ⟨f5, f6, by rw [T_lo 2 (by omega) (by omega) (by omega) (by omega) (by omega)]; exact f7, by rw [C_lo 2 (by omega) (by omega) (by omega) (by omega)]; exact f8⟩, ⟨by omega, by rw [T_3, if_neg (by omega)], by rw [C_lo 3 (by omega) (by omega) (by omega) (by omega)]; exact f11⟩, ?_, ⟨?_, fun k hk => ?_⟩, fun j hj => ?_, ?_⟩
          · rw [d7, e1 0, if_neg (by omega), if_neg (by omega), k1 0 (by omega), f12, T_0]
          · rw [d8 4 (by omega), e1 4, if_neg (by omega), if_neg (by omega), d1.2.2.2.2.1, eL]
          · rw [C_hi 113 (by omega) (by omega), d3.I_ (by decide), d1.2.2.2.2.2 k (by omega)]
            exact EF k hk
          · refine (f15 j hj).mv (T_lo _ (by omega) (by omega) (by omega) (by omega) (by omega)) (T_lo _ (by omega) (by omega) (by omega) (by omega) (by omega)) (fun k k1 k2 => T_hi k (by omega)) ?_ ?_ ?_ (by omega)
            · rw [C_hi 114 (by omega) (by omega), d3.I_ (by decide)]; exact eqs_rI (k2 114 (by omega) (by omega) (by omega) (by omega)) j
            · rw [C_hi 115 (by omega) (by omega), d3.I_ (by decide)]; exact eqs_rI (k2 115 (by omega) (by omega) (by omega) (by omega)) j
            · rw [C_lo 7 (by omega) (by omega) (by omega) (by omega)]
          · refine ⟨L, L2, by omega, Nat.le_refl _, T_4, T_5, ?_, ?_, Or.inr okn⟩
            · rw [d8 5 (by omega), e1, if_pos rfl]
            · rw [d8 6 (by omega), e1, if_neg (by omega), if_pos rfl]
    · refine Or.inr ⟨if tkC t n b2 = 1 then 1 else 2, b2, by split <;> omega, by split <;> omega, q2, q3, kq.trans q4, fun Mc W g m' hc hdf => ?_⟩
      obtain ⟨Ma, a1, a2, a3, a4, a5, em⟩ := hd Mc W g m' hc hdf
      obtain ⟨Mb, b1, b3, b4⟩ := p10 Ma [] (okW_nil 1) (by simp) a3
      refine (a1.trans b1).stops (c_noOp hN b3 (by omega) ⟨?_, fun _ => rfl, fun z => absurd z q1⟩)
      by_cases q : stW (tkC t n b2) = 0
      · exact q
      · have h1 := z2 q
        have h2 := (stW_op q).2.2.2.2
        omega
  · rw [b112_bad (by rw [v3]; exact nI_kd v1 v2), yo_s]
    refine Or.inr ⟨kd, pl, v1, v2, v3, v4, y3.trans v5, fun Mc W g m' hc hdf => ?_⟩
    obtain ⟨Ma, a1, a2, a3, a4, a5, em⟩ := hd Mc W g m' hc hdf
    exact a1.stops (v6 Ma [] (okW_nil 1) (by simp) a3)
/-- every line -/
theorem ln_ok {N n b L m : Nat} {t : Nat → Nat} {Mr : Mem} (hN : 700 ≤ N) (hn : n ≤ 600) (h : rfS Mr t n b 0 L) (hL : L ≤ b) (ht : tkC t n b ≠ 0) (hm : m ≤ 6) (h3 : rI Mr 142 3 = nI m) :
    Yo (fX11_readLine N 140 Mr) (fun x => (∃ b' L', lnGood N n t Mr b L x b' L') ∨ lnBad N n t Mr b L x) := by
  have hr := h
  obtain ⟨hU, hbn, hR, h14, h13, h18, h6⟩ := h
  have bad : ∀ (k : Nat), k = 2 ∨ k = 4 → (tkC t n b ≠ 3 ∧ tkC t n b ≠ 4 ∧ (tkC t n b = 5 → m = 6) ∧ tkC t n b ≠ 6) → (k = 4 ↔ tkC t n b = 5) → lnBad N n t Mr b L (wI (wI Mr 140 14 (nI (if tkC t n b = 1 then 1 else k))) 140 15 (nI b)) := by
    intro k hk q1 q2
    obtain ⟨k1, k2, k3⟩ := kq_bl (M := Mr) (nI (if tkC t n b = 1 then 1 else k)) (nI b)
    refine ⟨if tkC t n b = 1 then 1 else k, b, by split <;> omega, by split <;> omega, k2, k3, k1, fun Mc W g m' hc hdf => ?_⟩
    have em : m' = m := by
      have e1 : rI Mr 142 3 = nI m' := hdf.2.2.1.2.1
      have := hdf.2.2.1.1
      rw [h3, nI_eq (by omega) (by omega)] at e1
      exact e1.symm
    subst em
    have := c_noHead hN hc ht hdf.2.2.1.2.2 hm q1
    have ek : (if tkC t n b = 5 then 4 else 2) = k := by
      by_cases c : tkC t n b = 5
      · rw [if_pos c]; exact (q2.mpr c).symm
      · rw [if_neg c]
        rcases hk with q | q
        · exact q.symm
        · exact absurd (q2.mp q) c
    rw [ek] at this
    exact this
  unfold fX11_readLine
  rw [r_took hN hU hR h14 (s := 34) (k := 1) (by decide) (by omega) (by omega) (by decide)]
  by_cases c3 : tkC t n b = 1 + 2
  · rw [if_pos c3, yo_b]
    refine (hr.rd hN).bi (fun M1 x => ?_)
    obtain ⟨x1, x2, x3, x4⟩ := x
    rw [yo_s, if_pos rfl]
    have := ln_num (hd := 3) (hi := 256) (mx := 256) hN hL (Or.inl ⟨rfl, rfl, rfl⟩) c3 hm h3 x1 x2 x4.q
    rw [yo_b] at this ⊢
    refine this.to (fun q hq => ?_)
    rw [if_pos (by decide)]
    exact hq
  · rw [if_neg c3, Option.bind_some, if_neg Bool.false_ne_true, r_took hN hU hR h14 (s := 35) (k := 2) (by decide) (by omega) (by omega) (by decide)]
    by_cases c4 : tkC t n b = 2 + 2
    · rw [if_pos c4, yo_b]
      refine (hr.rd hN).bi (fun M1 x => ?_)
      obtain ⟨x1, x2, x3, x4⟩ := x
      rw [yo_s, if_pos rfl]
      have := ln_num (hd := 4) (hi := 64) (mx := 64) hN hL (Or.inr ⟨rfl, rfl, rfl⟩) c4 hm h3 x1 x2 x4.q
      rw [yo_b] at this ⊢
      refine this.to (fun q hq => ?_)
      rw [if_pos (by decide)]
      exact hq
    · rw [if_neg c4, Option.bind_some, if_neg Bool.false_ne_true]
      show Yo ((fX11_isWord N 140 36 Mr).bind _) _
      rw [r_isWord hN hU hR h14 (s := 36) (k := 3) (by decide) (by omega) (by omega) (by decide), Option.bind_some]
      by_cases c5 : tkC t n b = 3 + 2
      · rw [if_pos (decide_eq_true c5), if_pos (by decide)]
        have e3 : rI Mr (140 + 2) (3 : Int32).toNatClampNeg = nI m := h3
        by_cases m6 : m = 6
        · rw [if_pos (show rI Mr (140 + 2) (3 : Int32).toNatClampNeg = 6 by rw [e3, m6]; rfl)]
          show Yo ((fX11_blames 140 4 Mr).bind _) _
          rw [r_blames hR h14 4 4 rfl, Option.bind_some]
          have hb := bad 4 (Or.inr rfl) ⟨by omega, by omega, fun _ => m6, by omega⟩ ⟨fun _ => c5, fun _ => rfl⟩
          obtain ⟨kd, pl, v1, v2, v3, v4, v5, v6⟩ := hb
          have hne := nI_kd v1 v2
          unfold fX11_readLine_b76
          rw [if_pos (by decide), for_bad _ (by rw [v3]; exact hne), Option.bind_some, b112_bad (by rw [v3]; exact hne), yo_s]
          exact Or.inr ⟨kd, pl, v1, v2, v3, v4, v5, v6⟩
        · rw [if_neg (show ¬ rI Mr (140 + 2) (3 : Int32).toNatClampNeg = 6 from fun z => m6 (by rw [e3] at z; have z' : nI m = nI 6 := z; rw [nI_eq (by omega) (by omega)] at z'; exact z'))]
          show Yo (fX11_readLine_b76 N 140 Mr) _
          unfold fX11_readLine_b76
          rw [if_pos (by decide), e3]
          exact ln_exp hN hn hr hL (Or.inl ⟨c5, rfl, by omega⟩) hm h3
      · rw [if_neg (fun z => c5 (of_decide_eq_true z))]
        show Yo ((fX11_isWord N 140 39 Mr).bind _) _
        rw [r_isWord hN hU hR h14 (s := 39) (k := 4) (by decide) (by omega) (by omega) (by decide), Option.bind_some]
        by_cases c6 : tkC t n b = 4 + 2
        · rw [if_pos (decide_eq_true c6)]
          exact ln_exp (w := 6) hN hn hr hL (Or.inr ⟨c6, rfl⟩) hm h3
        · rw [if_neg (fun z => c6 (of_decide_eq_true z))]
          show Yo ((fX11_blames 140 2 Mr).bind _) _
          rw [r_blames hR h14 2 2 rfl, Option.bind_some]
          have hb := bad 2 (Or.inl rfl) ⟨by omega, by omega, fun z => absurd z c5, c6⟩ ⟨fun z => by omega, fun z => absurd z c5⟩
          obtain ⟨kd, pl, v1, v2, v3, v4, v5, v6⟩ := hb
          rw [b112_bad (by rw [v3]; exact nI_kd v1 v2), yo_s]
          exact Or.inr ⟨kd, pl, v1, v2, v3, v4, v5, v6⟩
