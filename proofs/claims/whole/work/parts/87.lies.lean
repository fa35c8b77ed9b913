/-! SEMANTICS, LIES: lying, lie, worse -/
theorem cnt_two {p q : Nat → Bool} : ∀ {n : Nat}, (∀ k, k < n → ¬ (p k = true ∧ q k = true)) → cnt p n + cnt q n ≤ n
  | 0, _ => Nat.le_refl 0
  | n + 1, h => by
    have ih := cnt_two (p := p) (q := q) (n := n) (fun k hk => h k (by omega))
    have h1 := h n (by omega)
    unfold cnt
    by_cases a : p n = true <;> by_cases b : q n = true <;> simp only [a, b, if_true, if_false, Bool.false_eq_true] <;> first | omega | exact absurd ⟨a, b⟩ h1
noncomputable def lieB (T : Nat → Int32) (r W g kd sz mk ex ly n : Nat) : Bool := !put1 T r n && bo (saysP T r W g kd sz mk ex ly n)
theorem c_isLie {N : Nat} {M : Mem} {T : Nat → Int32} {r W g m kd sz mk ex ly n : Nat} (hN : 700 ≤ N) (h : cX M T r W g m kd sz mk ex ly) (hn : n < W) :
    Yo (fX10_isLie N 0 (10 + 4 * r) (nI n) M) (fun x => x.1 = lieB T r W g kd sz mk ex ly n ∧ smF [8] M x.2) := by
  have hW := h.2.1.1.2.1
  unfold fX10_isLie fX10_isLie_b30
  rw [has_ok (by omega), Option.bind_some, h.2.2.1.2.2.2 n (by omega)]
  show Yo (if put1 T r n = true then _ else _) _
  unfold lieB
  cases hp : put1 T r n
  · rw [if_neg (by decide)]
    refine (c_says hN h hn).bi (fun x hx => ?_)
    rw [hx.1]
    cases hb : bo (saysP T r W g kd sz mk ex ly n)
    · rw [if_neg (by decide), yo_s]; exact ⟨rfl, hx.2⟩
    · rw [if_pos rfl, yo_s]; exact ⟨rfl, hx.2⟩
  · rw [if_pos rfl, yo_s]
    exact ⟨rfl, smF.refl⟩
theorem r_isLie {N : Nat} {M : Mem} {T : Nat → Int32} {r W g m kd sz mk ex ly n : Nat} (hN : 700 ≤ N) (h : rX M T r W g m kd sz mk ex ly) (hn : n < W) :
    Yo (fX11_isLie N 140 (nI r) (nI n) M) (fun x => x.1 = lieB T r W g kd sz mk ex ly n ∧ smF [147] M x.2) := by
  have hW := h.2.2.1.2.1
  unfold fX11_isLie fX11_isLie_b22
  rw [isIn_ok h.1 (by omega), Option.bind_some, h.2.1]
  show Yo (if put1 T r n = true then _ else _) _
  unfold lieB
  cases hp : put1 T r n
  · rw [if_neg (by decide)]
    refine (r_says hN h hn).bi (fun x hx => ?_)
    rw [hx.1]
    cases hb : bo (saysP T r W g kd sz mk ex ly n)
    · rw [if_neg (by decide), yo_s]; exact ⟨rfl, hx.2⟩
    · rw [if_pos rfl, yo_s]; exact ⟨rfl, hx.2⟩
  · rw [if_pos rfl, yo_s]
    exact ⟨rfl, smF.refl⟩
noncomputable def liesT (T : Nat → Int32) (r W g kd sz mk ex ly : Nat) : Nat := cnt (lieB T r W g kd sz mk ex ly) W
theorem cX.W1 {M : Mem} {T : Nat → Int32} {r W g m kd sz mk ex ly : Nat} (h : cX M T r W g m kd sz mk ex ly) : rI M 2 1 = nI W ∧ 2 ≤ W ∧ W ≤ 256 := ⟨h.2.1.2.2.1, h.2.1.1.1, h.2.1.1.2.1⟩
theorem rX.W1 {M : Mem} {T : Nat → Int32} {r W g m kd sz mk ex ly : Nat} (h : rX M T r W g m kd sz mk ex ly) : rI M 141 1 = nI W ∧ 2 ≤ W ∧ W ≤ 256 := ⟨by have := h.2.2.1.2.2.1; rw [← h.2.1] at this; exact this, h.2.2.1.1, h.2.2.1.2.1⟩
theorem c_count {N : Nat} {M : Mem} {T : Nat → Int32} {r W g m kd sz mk ex ly : Nat} (hN : 700 ≤ N) (h : cX M T r W g m kd sz mk ex ly) :
    Yo (fX10_countLies N 0 (10 + 4 * r) M) (fun x => x.1 = nI (liesT T r W g kd sz mk ex ly) ∧ smF [8] M x.2) := by
  unfold fX10_countLies
  refine yo_f3 (F := fX10_countLies_l4 N 0 (10 + 4 * r)) W (fun k a v M' => v = nI k ∧ a = nI (cnt (lieB T r W g kd sz mk ex ly) k) ∧ smF [8] M M') ?_ N 0 _ _ _ (by omega) (by have := h.W1.2.2; omega) ⟨rfl, rfl, smF.refl⟩
  intro f k a v M' hk ⟨hv, ha, hF⟩ ih
  subst hv ha
  show Yo (fX10_countLies_l4_s N 0 (10 + 4 * r) (fX10_countLies_l4 N 0 (10 + 4 * r) f) (nI (cnt (lieB T r W g kd sz mk ex ly) k)) (nI k) M') _
  have h' := h.mv8 hF
  obtain ⟨w1, w2, w3⟩ := h'.W1
  unfold fX10_countLies_l4_s fX10_countLies_b47
  rw [show rI M' (0 + 1 + 1) 1 = nI W from w1]
  rcases Nat.lt_or_ge k W with hlt | hge
  · rw [if_neg (nI_ge hlt (by omega)), has_ok (by omega), Option.bind_some, h'.2.2.1.2.2.2 k (by omega), nI_1, nI_1]
    show Yo (if put1 T r k = true then _ else _) _
    have step : cnt (lieB T r W g kd sz mk ex ly) (k + 1) = cnt (lieB T r W g kd sz mk ex ly) k + (if lieB T r W g kd sz mk ex ly k = true then 1 else 0) := rfl
    cases hp : put1 T r k
    · rw [if_neg (by decide)]
      refine (c_says hN h' hlt).bi (fun x hx => ?_)
      rw [hx.1]
      cases hb : bo (saysP T r W g kd sz mk ex ly k)
      · have hz : lieB T r W g kd sz mk ex ly k = false := by unfold lieB; rw [hp, hb]; rfl
        rw [if_neg (by decide)]
        refine ih _ _ _ hlt ⟨rfl, by rw [step, hz]; rfl, hF.trans hx.2⟩
      · have hz : lieB T r W g kd sz mk ex ly k = true := by unfold lieB; rw [hp, hb]; rfl
        rw [if_pos rfl]
        refine ih _ _ _ hlt ⟨rfl, by rw [step, hz]; rfl, hF.trans hx.2⟩
    · have hz : lieB T r W g kd sz mk ex ly k = false := by unfold lieB; rw [hp]; rfl
      rw [if_pos rfl]
      refine ih _ _ _ hlt ⟨rfl, by rw [step, hz]; rfl, hF⟩
  · rw [if_pos (nI_le hge (by omega)), yo_s, show k = W by omega]
    exact ⟨rfl, hF⟩
theorem r_count {N : Nat} {M : Mem} {T : Nat → Int32} {r W g m kd sz mk ex ly : Nat} (hN : 700 ≤ N) (h : rX M T r W g m kd sz mk ex ly) :
    Yo (fX11_lies N 140 (nI r) M) (fun x => x.1 = nI (liesT T r W g kd sz mk ex ly) ∧ smF [147] M x.2) := by
  unfold fX11_lies
  refine yo_f3 (F := fX11_lies_l4 N 140 (nI r)) W (fun k a v M' => v = nI k ∧ a = nI (cnt (lieB T r W g kd sz mk ex ly) k) ∧ smF [147] M M') ?_ N 0 _ _ _ (by omega) (by have := h.W1.2.2; omega) ⟨rfl, rfl, smF.refl⟩
  intro f k a v M' hk ⟨hv, ha, hF⟩ ih
  subst hv ha
  show Yo (fX11_lies_l4_s N 140 (nI r) (fX11_lies_l4 N 140 (nI r) f) (nI (cnt (lieB T r W g kd sz mk ex ly) k)) (nI k) M') _
  have h' := h.mv7 hF
  obtain ⟨w1, w2, w3⟩ := h'.W1
  unfold fX11_lies_l4_s fX11_lies_b29
  rw [if_pos (by decide), show rI M' (140 + 1) (1 : Int32).toNatClampNeg = nI W from w1]
  rcases Nat.lt_or_ge k W with hlt | hge
  · rw [if_neg (nI_ge hlt (by omega)), nI_1]
    have step : cnt (lieB T r W g kd sz mk ex ly) (k + 1) = cnt (lieB T r W g kd sz mk ex ly) k + (if lieB T r W g kd sz mk ex ly k = true then 1 else 0) := rfl
    refine (r_isLie hN h' hlt).bi (fun x hx => ?_)
    rw [hx.1]
    cases hb : lieB T r W g kd sz mk ex ly k
    · rw [if_neg (by decide)]
      exact ih _ _ _ hlt ⟨rfl, by rw [step, hb]; exact nI_add _ 0, hF.trans hx.2⟩
    · rw [if_pos rfl]
      exact ih _ _ _ hlt ⟨rfl, by rw [step, hb]; exact nI_add _ 1, hF.trans hx.2⟩
  · rw [if_pos (nI_le hge (by omega)), yo_s, show k = W by omega]
    exact ⟨rfl, hF⟩
/-- the k-th of the first, from i on -/
def kthF (p : Nat → Bool) : Nat → Nat → Nat → Int32
  | 0, _, _ => -1
  | r + 1, i, k => if p i = true then (if k = 0 then nI i else kthF p r (i + 1) (k - 1)) else kthF p r (i + 1) k
theorem ag_lie {N : Nat} (hN : 700 ≤ N) (a1 a2 : Int32) (M : Mem) (hR : Rel M) : agI (fX10_lie N 0 a1 a2 M) (fX11_lie N 140 a1 a2) (fun k Mj1 => if k = 1 then some ((1 : Int32), Mj1) else none) M := by
  obtain ⟨W, g, m, hS⟩ := hR.1
  rcases rowAt_ok hS a1 with ⟨c1, c2⟩ | ⟨r, hr, rfl, hh, c1, c2⟩
  · refine refI hR (e := 1) 1 ?_ rfl (by decide) ?_
    · unfold fX10_lie; rw [c1, xb_l]
    · unfold fX11_lie
      rw [c2 _ (by rw [w5_141]), Option.bind_some, if_neg (by decide), fails_ok, Option.bind_some, yo_s, wI_wI]
      exact smF.refl
  · obtain ⟨kd, sz, mk, ex, ly, hc, hr'⟩ := sX hS hr hh
    have hW := hc.W1.2.2
    rcases int_cases a2 with ⟨t0, t1⟩ | ⟨q, hq, rfl⟩
    · refine askI hR (-1) ?_ (fun M' hM' => ?_)
      · unfold fX10_lie
        rw [c1, xb_r]
        obtain ⟨f, rfl⟩ : ∃ f, N = f + 1 := ⟨N - 1, by omega⟩
        show Yo (fX10_lie_l12_s (f + 1) 0 a2 (10 + 4 * r) (fX10_lie_l12 (f + 1) 0 a2 (10 + 4 * r) f) 0 0 M) _
        unfold fX10_lie_l12_s fX10_lie_b61
        rw [show rI M (0 + 1 + 1) 1 = nI W from hc.W1.1, if_neg (show ¬ nI W ≤ (0 : Int32) from nI_nle (by have := hc.W1.2.1; omega) (by omega)), if_pos t1, yo_s]
        exact ⟨rfl, smF.refl⟩
      · have e : M' 141 = M 141 := hM' 141 (by decide)
        unfold fX11_lie
        rw [c2 _ (by rw [w5_141, e]), Option.bind_some, if_pos rfl]
        have h' := hr' (wI M' 140 5 0) (by rw [w5_141, e])
        refine yo_f3 (F := fX11_lie_l24 N 140 (nI r)) W (fun k a v M2 => v = nI k ∧ (∃ j, j ≤ k ∧ a + nI j = a2) ∧ smF [147] (wI M' 140 5 0) M2) ?_ N 0 _ _ _ (by omega) (by omega) ⟨rfl, ⟨0, by omega, by show a2 + (0 : Int32) = a2; exact Int32.add_zero a2⟩, smF.refl⟩
        intro f k a v M2 hk ⟨hv, ⟨j, hj, hj2⟩, hF⟩ ih
        subst hv
        show Yo (fX11_lie_l24_s N 140 (nI r) (fX11_lie_l24 N 140 (nI r) f) a (nI k) M2) _
        have h2 := h'.mv7 hF
        unfold fX11_lie_l24_s fX11_lie_b58
        rw [if_pos (by decide), show rI M2 (140 + 1) (1 : Int32).toNatClampNeg = nI W from h2.W1.1]
        rcases Nat.lt_or_ge k W with hlt | hge
        · rw [if_neg (nI_ge hlt (by omega)), nI_1]
          refine (r_isLie hN h2 hlt).bi (fun x hx => ?_)
          refine yo_i (fun _ => ?_) (fun _ => ?_)
          · have ha0 : a ≠ 0 := fun z => by
              rw [z, Int32.zero_add] at hj2
              rw [← hj2, nI_toInt (by omega)] at t0
              omega
            rw [if_neg ha0]
            refine ih _ _ _ hlt ⟨rfl, ⟨j + 1, by omega, ?_⟩, hF.trans hx.2⟩
            rw [← hj2, ← nI_1, Int32.add_assoc, Int32.add_comm (-1), Int32.add_assoc (nI j)]
            show a + (nI j + 0) = _
            rw [Int32.add_zero]
          · exact ih _ _ _ hlt ⟨rfl, ⟨j, by omega, hj2⟩, hF.trans hx.2⟩
        · rw [if_pos (nI_le hge (by omega)), yo_s]
          exact ⟨rfl, hF.mono (by decide)⟩
    · refine askI hR (kthF (lieB (M 141).1 r W g kd sz mk ex ly) W 0 q) ?_ (fun M' hM' => ?_)
      · unfold fX10_lie
        rw [c1, xb_r]
        refine yo_f3 (F := fX10_lie_l12 N 0 (nI q) (10 + 4 * r)) W (fun k a v M2 => v = nI k ∧ smF [8] M M2 ∧ ∃ s, a = nI s ∧ s ≤ q ∧ kthF (lieB (M 141).1 r W g kd sz mk ex ly) (W - k) k (q - s) = kthF (lieB (M 141).1 r W g kd sz mk ex ly) W 0 q) ?_ N 0 _ _ _ (by omega) (by omega) ⟨rfl, smF.refl, 0, rfl, by omega, rfl⟩
        intro f k a v M2 hk ⟨hv, hF, s, ha, hs, hI⟩ ih
        subst hv ha
        show Yo (fX10_lie_l12_s N 0 (nI q) (10 + 4 * r) (fX10_lie_l12 N 0 (nI q) (10 + 4 * r) f) (nI s) (nI k) M2) _
        have h2 := hc.mv8 hF
        unfold fX10_lie_l12_s fX10_lie_b61 fX10_lie_b55
        rw [show rI M2 (0 + 1 + 1) 1 = nI W from h2.W1.1]
        rcases Nat.lt_or_ge k W with hlt | hge
        · rw [if_neg (nI_ge hlt (by omega)), if_neg (nI_nlt hs hq), nI_1, nI_1]
          obtain ⟨c, hc1⟩ : ∃ c, W - k = c + 1 := ⟨W - k - 1, by omega⟩
          have hc2 : W - (k + 1) = c := by omega
          rw [hc1, kthF] at hI
          refine (c_isLie hN h2 hlt).bi (fun x hx => ?_)
          rw [hx.1]
          refine yo_i (fun z => ?_) (fun z => ?_)
          · rw [if_pos z] at hI
            refine yo_i (fun y => ?_) (fun y => ?_)
            · rw [nI_eq (by omega) hq] at y
              rw [if_pos (by omega)] at hI
              rw [yo_s]
              exact ⟨congrArg Sum.inr hI, (hF.trans hx.2).mono (by decide)⟩
            · rw [nI_eq (by omega) hq] at y
              rw [if_neg (by omega)] at hI
              exact ih _ _ _ hlt ⟨rfl, hF.trans hx.2, s + 1, rfl, by omega, by rw [hc2, ← hI, show q - (s + 1) = q - s - 1 by omega]⟩
          · rw [if_neg z] at hI
            exact ih _ _ _ hlt ⟨rfl, hF.trans hx.2, s, rfl, hs, by rw [hc2, ← hI]⟩
        · rw [if_pos (nI_le hge (by omega)), yo_s, ← hI, show W - k = 0 by omega]
          exact ⟨rfl, hF.mono (by decide)⟩
      · have e : M' 141 = M 141 := hM' 141 (by decide)
        unfold fX11_lie
        rw [c2 _ (by rw [w5_141, e]), Option.bind_some, if_pos rfl]
        have h' := hr' (wI M' 140 5 0) (by rw [w5_141, e])
        refine yo_f3 (F := fX11_lie_l24 N 140 (nI r)) W (fun k a v M2 => v = nI k ∧ smF [147] (wI M' 140 5 0) M2 ∧ ∃ s, a = nI s ∧ s ≤ q ∧ kthF (lieB (M 141).1 r W g kd sz mk ex ly) (W - k) k s = kthF (lieB (M 141).1 r W g kd sz mk ex ly) W 0 q) ?_ N 0 _ _ _ (by omega) (by omega) ⟨rfl, smF.refl, q, rfl, by omega, rfl⟩
        intro f k a v M2 hk ⟨hv, hF, s, ha, hs, hI⟩ ih
        subst hv ha
        show Yo (fX11_lie_l24_s N 140 (nI r) (fX11_lie_l24 N 140 (nI r) f) (nI s) (nI k) M2) _
        have h2 := h'.mv7 hF
        unfold fX11_lie_l24_s fX11_lie_b58
        rw [if_pos (by decide), show rI M2 (140 + 1) (1 : Int32).toNatClampNeg = nI W from h2.W1.1]
        rcases Nat.lt_or_ge k W with hlt | hge
        · rw [if_neg (nI_ge hlt (by omega)), nI_1]
          obtain ⟨c, hc1⟩ : ∃ c, W - k = c + 1 := ⟨W - k - 1, by omega⟩
          have hc2 : W - (k + 1) = c := by omega
          rw [hc1, kthF] at hI
          refine (r_isLie hN h2 hlt).bi (fun x hx => ?_)
          rw [hx.1]
          refine yo_i (fun z => ?_) (fun z => ?_)
          · rw [if_pos z] at hI
            by_cases y : s = 0
            · subst y
              rw [if_pos rfl] at hI
              rw [if_pos (show nI 0 = (0 : Int32) from rfl), yo_s]
              exact ⟨hI, (hF.trans hx.2).mono (by decide)⟩
            · rw [if_neg y] at hI
              rw [if_neg (nI_ne0 (by omega) (by omega)), sb_m1 (by omega)]
              exact ih _ _ _ hlt ⟨rfl, hF.trans hx.2, s - 1, rfl, by omega, by rw [hc2, ← hI]⟩
          · rw [if_neg z] at hI
            exact ih _ _ _ hlt ⟨rfl, hF.trans hx.2, s, rfl, hs, by rw [hc2, ← hI]⟩
        · rw [if_pos (nI_le hge (by omega)), yo_s, ← hI, show W - k = 0 by omega]
          exact ⟨rfl, hF.mono (by decide)⟩
theorem ag_worse {N : Nat} (hN : 700 ≤ N) (a1 a2 : Int32) (M : Mem) (hR : Rel M) : agI (fX10_worse N 0 a1 a2 M) (fX11_worse N 140 a1 a2) (fun k Mj1 => if k = 1 then some ((1 : Int32), Mj1) else none) M := by
  obtain ⟨W, g, m, hS⟩ := hR.1
  rcases rowAt_ok hS a1 with ⟨c1, c2⟩ | ⟨r, hr, rfl, hh, c1, c2⟩
  · refine refI hR (e := 1) 1 ?_ rfl (by decide) ?_
    · unfold fX10_worse; rw [c1, xb_l]
    · unfold fX11_worse fX11_worse_b21
      rw [c2 _ (by rw [w5_141]), Option.bind_some, if_neg (by decide), fails_ok, Option.bind_some, yo_s, wI_wI]
      exact smF.refl
  · rcases rowAt_ok hS a2 with ⟨d1, d2⟩ | ⟨r2, hr2, rfl, hh2, d1, d2⟩
    · refine refI hR (e := 1) 1 ?_ rfl (by decide) ?_
      · unfold fX10_worse; rw [c1, xb_r, d1, xb_l]
      · unfold fX11_worse fX11_worse_b21
        rw [c2 _ (by rw [w5_141]), Option.bind_some, if_pos rfl, d2 _ (by rw [w5_141]), Option.bind_some, if_neg (by decide), fails_ok, Option.bind_some, yo_s, wI_wI]
        exact smF.refl
    · obtain ⟨kd, sz, mk, ex, ly, hc, hr'⟩ := sX hS hr hh
      obtain ⟨kd2, sz2, mk2, ex2, ly2, hc2, hr2'⟩ := sX hS hr2 hh2
      refine askI hR (nI (liesT (M 141).1 r W g kd sz mk ex ly) - nI (liesT (M 141).1 r2 W g kd2 sz2 mk2 ex2 ly2)) ?_ (fun M' hM' => ?_)
      · unfold fX10_worse
        rw [c1, xb_r, d1, xb_r]
        refine (c_count hN hc).bi (fun x hx => ?_)
        refine (c_count hN (hc2.mv8 hx.2)).bi (fun y hy => ?_)
        rw [yo_s, hx.1, hy.1]
        exact ⟨rfl, (hx.2.trans hy.2).mono (by decide)⟩
      · have e : M' 141 = M 141 := hM' 141 (by decide)
        unfold fX11_worse
        rw [c2 _ (by rw [w5_141, e]), Option.bind_some, if_pos rfl, d2 _ (by rw [w5_141, e]), Option.bind_some, if_pos rfl]
        refine (r_count hN (hr' (wI M' 140 5 0) (by rw [w5_141, e]))).bi (fun x hx => ?_)
        refine (r_count hN ((hr2' (wI M' 140 5 0) (by rw [w5_141, e])).mv7 hx.2)).bi (fun y hy => ?_)
        rw [yo_s, hx.1, hy.1]
        exact ⟨rfl, (hx.2.trans hy.2).mono (by decide)⟩
