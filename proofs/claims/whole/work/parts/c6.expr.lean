/-! RULES: expressions, both readers in step. r: 3 a unit, 2 a product, 1 a sum -/
def pGood (N n : Nat) (t : Nat → Nat) (o r : Nat) (Mr : Mem) (b L : Nat) (Mr' : Mem) (b' L' : Nat) (pend : List Int32) : Prop :=
  rfS Mr' t n b' o L' ∧ kpR Mr Mr' L ∧ (L + pend.length ≤ L' ∧ b < b' ∧ L' + b ≤ L + b' ∧ pend.length + r ≤ 3) ∧ (∀ x, x ∈ pend → r ≤ rkW x) ∧ (∀ j, j < pend.length → pend.getD j 0 = Fr Mr' (L' - pend.length + j)) ∧
  (∀ d, d + 1 ≤ 2 * o + r → okD (Mr' 142).1 (L' - L) L d (d + 1)) ∧
  ∀ (Mc : Mem) (w0 : List Int32), okW r w0 → w0.length + 1 ≤ 3 * o + r → clS Mc t n b 3 o w0 L (Fr Mr) → ∃ Mc', leads N Mc b Mc' b' ∧ clS Mc' t n b' 4 o (pend ++ w0) (L' - pend.length) (Fr Mr') ∧ kpC Mc Mc'
def pBad (N n : Nat) (t : Nat → Nat) (o r : Nat) (Mr : Mem) (b L : Nat) (Mr' : Mem) : Prop :=
  ∃ kd pl : Nat, 1 ≤ kd ∧ kd ≤ 5 ∧ rI Mr' 140 14 = nI kd ∧ rI Mr' 140 15 = nI pl ∧ kqR Mr Mr' ∧
  ∀ (Mc : Mem) (w0 : List Int32), okW r w0 → w0.length + 1 ≤ 3 * o + r → clS Mc t n b 3 o w0 L (Fr Mr) → stops N Mc b kd pl
/-- what may not come next -/
def okN (t : Nat → Nat) (n b r : Nat) : Prop := stW (tkC t n b) ≠ 0 → rkW (stW (tkC t n b)) < r
def prS (N n : Nat) (t : Nat → Nat) (o r : Nat) (f : Mem → Option Mem) : Prop :=
  ∀ (Mr : Mem) (b L : Nat), rfS Mr t n b o L → L ≤ b → Yo (f Mr) (fun Mr' => (∃ b' L' pend, pGood N n t o r Mr b L Mr' b' L' pend ∧ okN t n b' r) ∨ pBad N n t o r Mr b L Mr')
theorem okW.up {r r' : Nat} {w : List Int32} (h : okW r w) (hr : r ≤ r') : okW r' w := fun x s e => Nat.lt_of_lt_of_le (h x s e) hr
theorem pGood.weak {N n : Nat} {t : Nat → Nat} {o r r' : Nat} {Mr : Mem} {b L : Nat} {Mr' : Mem} {b' L' : Nat} {pend : List Int32} (h : pGood N n t o r Mr b L Mr' b' L' pend) (hr : r' ≤ r) : pGood N n t o r' Mr b L Mr' b' L' pend := by
  obtain ⟨h1, h2, ⟨h3, h4, h5, h6⟩, h7, h8, h9, h10⟩ := h
  exact ⟨h1, h2, ⟨h3, h4, h5, by omega⟩, fun x hx => Nat.le_trans hr (h7 x hx), h8, fun d hd => h9 d (by omega), fun Mc w0 g1 g2 g3 => h10 Mc w0 (g1.up hr) (by omega) g3⟩
theorem pBad.weak {N n : Nat} {t : Nat → Nat} {o r r' : Nat} {Mr : Mem} {b L : Nat} {Mr' : Mem} (h : pBad N n t o r Mr b L Mr') (hr : r' ≤ r) : pBad N n t o r' Mr b L Mr' := by
  obtain ⟨kd, pl, h1, h2, h3, h4, h5, h6⟩ := h
  exact ⟨kd, pl, h1, h2, h3, h4, h5, fun Mc w0 g1 g2 g3 => h6 Mc w0 (g1.up hr) (by omega) g3⟩
theorem nI_kd {kd : Nat} (h : 1 ≤ kd) (h5 : kd ≤ 5) : ¬ nI kd = 0 := nI_ne0 h (by omega)
theorem stW_op {c : Nat} (h : stW c ≠ 0) : isOpV (nI c) ∧ encV (nI c) 0 = stW c ∧ 37 ≤ c ∧ c ≤ 47 ∧ 1 ≤ rkW (stW c) := by
  unfold stW at h ⊢
  by_cases c1 : c = 43
  · subst c1; exact ⟨Or.inl rfl, by decide, by decide, by decide, by decide⟩
  · rw [if_neg c1] at h ⊢
    by_cases c2 : c = 45
    · subst c2; exact ⟨Or.inr (Or.inl rfl), by decide, by decide, by decide, by decide⟩
    · rw [if_neg c2] at h ⊢
      by_cases c3 : c = 42
      · subst c3; exact ⟨Or.inr (Or.inr (Or.inl rfl)), by decide, by decide, by decide, by decide⟩
      · rw [if_neg c3] at h ⊢
        by_cases c4 : c = 47
        · subst c4; exact ⟨Or.inr (Or.inr (Or.inr (Or.inl rfl))), by decide, by decide, by decide, by decide⟩
        · rw [if_neg c4] at h ⊢
          by_cases c5 : c = 37
          · subst c5; exact ⟨Or.inr (Or.inr (Or.inr (Or.inr rfl))), by decide, by decide, by decide, by decide⟩
          · rw [if_neg c5] at h; exact absurd rfl h
/-- one step of a loop: an operator and what stands behind it -/
theorem bin_ok {N n : Nat} {t : Nat → Nat} {o r : Nat} {f : Mem → Option Mem} (hN : 700 ≤ N) (ho : o ≤ 6) (hr1 : 1 ≤ r) (hr2 : r ≤ 2) (hf : prS N n t o (r + 1) f) {Mr : Mem} {b L : Nat} (hL : L ≤ b) {M : Mem} {b' L' : Nat} {pend : List Int32} (hg : pGood N n t o r Mr b L M b' L' pend) (hs : stW (tkC t n b') ≠ 0) (hrk : rkW (stW (tkC t n b')) = r) :
    Yo ((fX11_reads N 140 M).bind fun q1 => (f q1).bind fun q2 => fX11_code 140 (rI M 140 12) (0 : Int32) q2) (fun x => (∃ b'' L'' pend'', b' < b'' ∧ pGood N n t o r Mr b L x b'' L'' pend'' ∧ okN t n b'' (r + 1)) ∨ pBad N n t o r Mr b L x) := by
  obtain ⟨h1, h2, ⟨h3, h4, h5, h6⟩, h7, h8, h9, h10⟩ := hg
  have hn := h1.1.1
  have hbn : b' < n := by
    rcases Nat.lt_or_ge b' n with c | c
    · exact c
    · have : tkC t n b' = 0 := by unfold tkC; rw [if_neg (by omega)]
      rw [this] at hs
      exact absurd rfl hs
  obtain ⟨so, se, s1, s2, _⟩ := stW_op hs
  have g1 := tkE_gt (t := t) hbn
  have g2 := tkN_ge t n (tkE t n b')
  refine (h1.rd hN).bi (fun M1 x => ?_)
  obtain ⟨x1, x2, x3, x4⟩ := x
  refine (hf M1 _ L' x1 (by omega)).bi (fun M2 y => ?_)
  have cl : ∀ (Mc : Mem) (w0 : List Int32), okW r w0 → w0.length + 1 ≤ 3 * o + r → clS Mc t n b 3 o w0 L (Fr Mr) → ∃ Mc', leads N Mc b Mc' (tkN t n (tkE t n b')) ∧ clS Mc' t n (tkN t n (tkE t n b')) 3 o (stW (tkC t n b') :: w0) L' (Fr M1) ∧ kpC Mc Mc' := by
    intro Mc w0 w1 w2 w3
    obtain ⟨Mc1, c1, c2, c3⟩ := h10 Mc w0 w1 w2 w3
    obtain ⟨Mc2, d1, d2, d3⟩ := c_op hN c2 hs (by rw [hrk]; exact w1) (by omega) (by omega) (by omega) (by rw [hrk]; exact h7) h8
    rw [show L' - pend.length + pend.length = L' by omega] at d2
    exact ⟨Mc2, c1.trans d1, d2.F_ (fun k _ => Fr_sm (x2 142 (by decide)) k), c3.trans d3⟩
  rcases y with ⟨b2, L2, pend2, ⟨y1, y2, ⟨y3, y4, y5, y6⟩, y7, y8, y9, y10⟩, y11⟩ | ⟨kd, pl, y1, y2, y3, y4, y5, y6⟩
  · have e12 : rI M 140 12 = nI (tkC t n b') := h1.2.2.1.2.2.2.2 (by omega)
    have hb2 : b2 ≤ n := y1.2.1
    have hL2 : L2 < 600 := by omega
    obtain ⟨M3, z1, z2, z3, z4, z5, z6⟩ := y1.cd hL2 (rI M 140 12) 0
    refine ⟨M3, z1, Or.inl ⟨b2, L2 + 1, pend2 ++ [stW (tkC t n b')], by omega, ⟨z2, ?_, ?_, ?_, ?_, ?_, ?_⟩, y11⟩⟩
    · exact (h2.trans (x4.trans (y2.trans z3 (by omega)) (Nat.le_refl _)) (by omega))
    · rw [List.length_append, List.length_singleton]
      exact ⟨by omega, by omega, by omega, by omega⟩
    · intro x hx
      rcases List.mem_append.mp hx with q | q
      · have := y7 x q; omega
      · rw [List.mem_singleton.mp q, hrk]; exact Nat.le_refl r
    · intro j hj
      rw [List.length_append, List.length_singleton] at hj ⊢
      rw [show L2 + 1 - (pend2.length + 1) = L2 - pend2.length by omega]
      rcases Nat.lt_or_ge j pend2.length with c | c
      · have e := y8 j c
        rw [z3.F (by omega), ← e]
        simp only [List.getD_eq_getElem?_getD]
        rw [List.getElem?_append_left c]
      · have ej : j = pend2.length := by omega
        subst ej
        rw [show L2 - pend2.length + pend2.length = L2 by omega]
        unfold Fr
        rw [z4, z5, e12, se]
        simp
    · intro d hd
      have a1 : okD (M3 142).1 (L' - L) L d (d + 1) := okD_mv _ _ _ (fun j j1 j2 => by
        have e1 : rI M3 142 j = rI M2 142 j := z3.2.2 j (by omega)
        have e2 : rI M2 142 j = rI M1 142 j := y2.2.2 j (by omega)
        have e3 : rI M1 142 j = rI M 142 j := x4.2.2 j (by omega)
        exact (e1.trans e2).trans e3) (h9 d (by omega))
      have a2 : okD (M3 142).1 (L2 - L') L' (d + 1) (d + 1 + 1) := okD_mv _ _ _ (fun j j1 j2 => z3.2.2 j (by omega)) (y9 (d + 1) (by omega))
      have a3 : okD (M3 142).1 1 L2 (d + 1 + 1) (d + 1) := by
        refine Or.inr ⟨?_, by omega, rfl⟩
        show isOpV (rI M3 142 (20 + 2 * L2))
        rw [z4, e12]
        exact so
      have a12 := okD_app _ _ _ a1 (show okD (M3 142).1 (L2 - L') (L + (L' - L)) (d + 1) (d + 1 + 1) by rw [show L + (L' - L) = L' by omega]; exact a2)
      have a123 := okD_app _ _ _ a12 (show okD (M3 142).1 1 (L + (L' - L + (L2 - L'))) (d + 1 + 1) (d + 1) by rw [show L + (L' - L + (L2 - L')) = L2 by omega]; exact a3)
      rw [show L' - L + (L2 - L') + 1 = L2 + 1 - L by omega] at a123
      exact a123
    · intro Mc w0 w1 w2 w3
      obtain ⟨Mc1, c1, c2, c3⟩ := cl Mc w0 w1 w2 w3
      obtain ⟨Mc2, d1, d2, d3⟩ := y10 Mc1 (stW (tkC t n b') :: w0) (fun x s e => by cases e; rw [hrk]; omega) (by simp only [List.length_cons]; omega) c2
      refine ⟨Mc2, c1.trans d1, ?_, c3.trans d3⟩
      rw [List.length_append, List.length_singleton, List.append_assoc, show L2 + 1 - (pend2.length + 1) = L2 - pend2.length by omega]
      exact d2.F_ (fun k hk => z3.F (by omega))
  · have hb : ¬ rI M2 140 14 = 0 := by rw [y3]; exact nI_kd y1 y2
    rw [r_noCode _ _ hb]
    refine ⟨M2, rfl, Or.inr ⟨kd, pl, y1, y2, y3, y4, (h2.q.trans x4.q).trans y5, fun Mc w0 w1 w2 w3 => ?_⟩⟩
    obtain ⟨Mc1, c1, c2, c3⟩ := cl Mc w0 w1 w2 w3
    exact c1.stops (y6 Mc1 (stW (tkC t n b') :: w0) (fun x s e => by cases e; rw [hrk]; omega) (by simp only [List.length_cons]; omega) c2)
theorem stW_2 (c : Nat) : (stW c ≠ 0 ∧ rkW (stW c) = 2) ↔ (c = 42 ∨ c = 47 ∨ c = 37) := by
  unfold stW
  by_cases c1 : c = 43
  · subst c1; decide
  · rw [if_neg c1]
    by_cases c2 : c = 45
    · subst c2; decide
    · rw [if_neg c2]
      by_cases c3 : c = 42
      · subst c3; decide
      · rw [if_neg c3]
        by_cases c4 : c = 47
        · subst c4; decide
        · rw [if_neg c4]
          by_cases c5 : c = 37
          · subst c5; decide
          · rw [if_neg c5]
            exact ⟨fun z => absurd rfl z.1, fun z => by omega⟩
theorem stW_1 (c : Nat) : (stW c ≠ 0 ∧ rkW (stW c) = 1) ↔ (c = 43 ∨ c = 45) := by
  unfold stW
  by_cases c1 : c = 43
  · subst c1; decide
  · rw [if_neg c1]
    by_cases c2 : c = 45
    · subst c2; decide
    · rw [if_neg c2]
      by_cases c3 : c = 42
      · subst c3; decide
      · rw [if_neg c3]
        by_cases c4 : c = 47
        · subst c4; decide
        · rw [if_neg c4]
          by_cases c5 : c = 37
          · subst c5; decide
          · rw [if_neg c5]
            exact ⟨fun z => absurd rfl z.1, fun z => by omega⟩
theorem prod_ok {N n : Nat} {t : Nat → Nat} {o : Nat} {rs : Nat → Mem → Option Mem} (hN : 700 ≤ N) (hn : n ≤ 600) (ho : o ≤ 6) (hu : prS N n t o 3 (fX11_readUnit rs N 140)) : prS N n t o 2 (fX11_readProduct rs N 140) := by
  intro Mr b L h hL
  unfold fX11_readProduct
  refine (hu Mr b L h hL).bi (fun M1 h1 => ?_)
  refine yo_f1 (F := fX11_readProduct_l4 rs N 140) n (fun k M => (∃ b' L' pend, k ≤ b' ∧ pGood N n t o 2 Mr b L M b' L' pend) ∨ pBad N n t o 2 Mr b L M) ?_ N 0 _ (by omega) (by omega) ?_
  · intro f k M hk hI ih
    show Yo (fX11_readProduct_l4_s rs N 140 (fX11_readProduct_l4 rs N 140 f) M) _
    unfold fX11_readProduct_l4_s
    rcases hI with ⟨b', L', pend, hkb, hg⟩ | hb
    · have hg' := hg
      obtain ⟨h1, h2, ⟨h3, h4, h5, h6⟩, h7, h8, h9, h10⟩ := hg
      have hU := h1.1
      have hR := h1.2.2.1
      have h14 := h1.2.2.2.1
      rw [r_isSign hU hR h14 42 42 rfl (by omega) (by omega), r_isSign hU hR h14 47 47 rfl (by omega) (by omega), r_isSign hU hR h14 37 37 rfl (by omega) (by omega)]
      simp only [Option.bind_some]
      have go : stW (tkC t n b') ≠ 0 → rkW (stW (tkC t n b')) = 2 → Yo (fX11_readProduct_b31 rs N (fX11_readProduct_l4 rs N 140 f) 140 M) (fun Mr' => (∃ b' L' pend, pGood N n t o 2 Mr b L Mr' b' L' pend ∧ okN t n b' 2) ∨ pBad N n t o 2 Mr b L Mr') := by
        intro s1 s2
        have hbn : b' < n := by
          rcases Nat.lt_or_ge b' n with c | c
          · exact c
          · have : tkC t n b' = 0 := by unfold tkC; rw [if_neg (by omega)]
            rw [this] at s1
            exact absurd rfl s1
        have := bin_ok hN ho (by omega) (by omega) hu hL hg' s1 s2
        unfold fX11_readProduct_b31
        rw [yo_b] at this ⊢
        refine this.to (fun q1 hq1 => ?_)
        rw [yo_b] at hq1 ⊢
        refine hq1.to (fun q2 hq2 => ?_)
        refine hq2.bi (fun q3 hq3 => ?_)
        refine ih q3 (by omega) ?_
        rcases hq3 with ⟨b'', L'', pend'', z1, z2, _⟩ | z
        · exact Or.inl ⟨b'', L'', pend'', by omega, z2⟩
        · exact Or.inr z
      by_cases c1 : tkC t n b' = 42
      · rw [if_pos (decide_eq_true c1)]
        have := (stW_2 _).mpr (Or.inl c1)
        exact go this.1 this.2
      · rw [if_neg (fun z => c1 (of_decide_eq_true z))]
        by_cases c2 : tkC t n b' = 47
        · rw [if_pos (decide_eq_true c2)]
          have := (stW_2 _).mpr (Or.inr (Or.inl c2))
          exact go this.1 this.2
        · rw [if_neg (fun z => c2 (of_decide_eq_true z))]
          by_cases c3 : tkC t n b' = 37
          · rw [if_pos (decide_eq_true c3)]
            have := (stW_2 _).mpr (Or.inr (Or.inr c3))
            exact go this.1 this.2
          · rw [if_neg (fun z => c3 (of_decide_eq_true z)), yo_s]
            refine Or.inl ⟨b', L', pend, hg', fun s => ?_⟩
            have := rkW_le (stW (tkC t n b'))
            rcases Nat.lt_or_ge (rkW (stW (tkC t n b'))) 2 with q | q
            · exact q
            · have := (stW_2 (tkC t n b')).mp ⟨s, by omega⟩
              omega
    · have hb' := hb
      obtain ⟨kd, pl, y1, y2, y3, y4, y5, y6⟩ := hb
      have h14 : ¬ rI M 140 14 = 0 := by rw [y3]; exact nI_kd y1 y2
      rw [r_noSign h14, r_noSign h14, r_noSign h14]
      simp only [Option.bind_some]
      rw [if_neg (by decide), if_neg (by decide), if_neg (by decide), yo_s]
      exact Or.inr hb'
  · rcases h1 with ⟨b', L', pend, g1, g2⟩ | g
    · exact Or.inl ⟨b', L', pend, by omega, g1.weak (by omega)⟩
    · exact Or.inr (g.weak (by omega))
theorem sum_ok {N n : Nat} {t : Nat → Nat} {o : Nat} {rs : Nat → Mem → Option Mem} (hN : 700 ≤ N) (hn : n ≤ 600) (ho : o ≤ 6) (hu : prS N n t o 2 (fX11_readProduct rs N 140)) : prS N n t o 1 (fX11_readSumB rs N 140) := by
  intro Mr b L h hL
  unfold fX11_readSumB
  refine (hu Mr b L h hL).bi (fun M1 h1 => ?_)
  refine yo_f1 (F := fX11_readSumB_l4 rs N 140) n (fun k M => (∃ b' L' pend, k ≤ b' ∧ pGood N n t o 1 Mr b L M b' L' pend ∧ okN t n b' 2) ∨ pBad N n t o 1 Mr b L M) ?_ N 0 _ (by omega) (by omega) ?_
  · intro f k M hk hI ih
    show Yo (fX11_readSumB_l4_s rs N 140 (fX11_readSumB_l4 rs N 140 f) M) _
    unfold fX11_readSumB_l4_s
    rcases hI with ⟨b', L', pend, hkb, hg, hok⟩ | hb
    · have hg' := hg
      obtain ⟨h1, h2, ⟨h3, h4, h5, h6⟩, h7, h8, h9, h10⟩ := hg
      have hU := h1.1
      have hR := h1.2.2.1
      have h14 := h1.2.2.2.1
      rw [r_isSign hU hR h14 43 43 rfl (by omega) (by omega), r_isSign hU hR h14 45 45 rfl (by omega) (by omega)]
      simp only [Option.bind_some]
      have go : stW (tkC t n b') ≠ 0 → rkW (stW (tkC t n b')) = 1 → Yo (fX11_readSumB_b22 rs N (fX11_readSumB_l4 rs N 140 f) 140 M) (fun Mr' => (∃ b' L' pend, pGood N n t o 1 Mr b L Mr' b' L' pend ∧ okN t n b' 1) ∨ pBad N n t o 1 Mr b L Mr') := by
        intro s1 s2
        have hbn : b' < n := by
          rcases Nat.lt_or_ge b' n with c | c
          · exact c
          · have : tkC t n b' = 0 := by unfold tkC; rw [if_neg (by omega)]
            rw [this] at s1
            exact absurd rfl s1
        have := bin_ok (f := fX11_readProduct rs N 140) hN ho (by omega) (by omega) hu hL hg' s1 s2
        unfold fX11_readSumB_b22
        rw [yo_b] at this ⊢
        refine this.to (fun q1 hq1 => ?_)
        rw [yo_b] at hq1 ⊢
        refine hq1.to (fun q2 hq2 => ?_)
        refine hq2.bi (fun q3 hq3 => ?_)
        refine ih q3 (by omega) ?_
        rcases hq3 with ⟨b'', L'', pend'', z1, z2, z3⟩ | z
        · exact Or.inl ⟨b'', L'', pend'', by omega, z2, z3⟩
        · exact Or.inr z
      by_cases c1 : tkC t n b' = 43
      · rw [if_pos (decide_eq_true c1)]
        have := (stW_1 _).mpr (Or.inl c1)
        exact go this.1 this.2
      · rw [if_neg (fun z => c1 (of_decide_eq_true z))]
        by_cases c2 : tkC t n b' = 45
        · rw [if_pos (decide_eq_true c2)]
          have := (stW_1 _).mpr (Or.inr c2)
          exact go this.1 this.2
        · rw [if_neg (fun z => c2 (of_decide_eq_true z)), yo_s]
          refine Or.inl ⟨b', L', pend, hg', fun s => ?_⟩
          have h1 := hok s
          have h2 := (stW_op s).2.2.2.2
          have := (stW_1 (tkC t n b')).mp ⟨s, by omega⟩
          omega
    · have hb' := hb
      obtain ⟨kd, pl, y1, y2, y3, y4, y5, y6⟩ := hb
      have h14 : ¬ rI M 140 14 = 0 := by rw [y3]; exact nI_kd y1 y2
      rw [r_noSign h14, r_noSign h14]
      simp only [Option.bind_some]
      rw [if_neg (by decide), if_neg (by decide), yo_s]
      exact Or.inr hb'
  · rcases h1 with ⟨b', L', pend, g1, g2⟩ | g
    · exact Or.inl ⟨b', L', pend, by omega, g1.weak (by omega), g2⟩
    · exact Or.inr (g.weak (by omega))
