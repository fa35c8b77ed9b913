/-! SEMANTICS, LYING AND THE FRACTION -/
theorem cdv_ok {N a b : Nat} (hN : 700 ≤ N) (ha : a ≤ 256) (hb : b ≤ 256) (M : Mem) : fX10_commonDivisor N (nI a) (nI b) M = some (nI (Nat.gcd a b)) := by
  rw [← yo_eq]
  unfold fX10_commonDivisor
  refine yo_f3 (F := fX10_commonDivisor_l7 N M) 256 (fun k x y c => c = nI k ∧ ∃ p q, x = nI p ∧ y = nI q ∧ p ≤ 256 ∧ q + k ≤ 256 ∧ Nat.gcd p q = Nat.gcd a b) ?_ N 0 _ _ _ (by omega) (by omega) ⟨rfl, a, b, rfl, rfl, ha, by omega, rfl⟩
  intro f k x y c hk ⟨hc, p, q, hx, hy, hp, hq, hG⟩ ih
  subst hc hx hy
  show Yo (fX10_commonDivisor_l7_s N M (fX10_commonDivisor_l7 N M f) (nI p) (nI q) (nI k)) _
  unfold fX10_commonDivisor_l7_s fX10_commonDivisor_b35
  by_cases h0 : q = 0
  · subst h0
    have e : p = Nat.gcd a b := by rw [← hG, Nat.gcd_zero_right]
    by_cases h1 : 256 ≤ k
    · rw [if_pos (show (256 : Int32) ≤ nI k from nI_le (a := 256) h1 (by omega)), yo_s, e]
    · rw [if_neg (show ¬ (256 : Int32) ≤ nI k from nI_ge (b := 256) (by omega) (by decide)), if_pos (show nI 0 = (0 : Int32) from rfl), yo_s, e]
  · rw [if_neg (show ¬ (256 : Int32) ≤ nI k from nI_ge (b := 256) (by omega) (by decide)), if_neg (nI_ne0 (by omega) (by omega)), if_neg (nI_ne0 (by omega) (by omega)), nI_1, rem_nn (by omega) (by omega) (by rw [nI_toInt (by omega)]; omega), modN_nI (by omega)]
    have hlt := Nat.mod_lt p (show 0 < q by omega)
    refine ih _ _ _ (by omega) ⟨rfl, q, p % q, rfl, rfl, by omega, by omega, ?_⟩
    rw [← hG, Nat.gcd_comm p q, Nat.gcd_rec q p, Nat.gcd_comm]
theorem rdv_ok {N up dn : Nat} (hN : 700 ≤ N) (hu : up ≤ 256) (hd : dn ≤ 256) (h0 : dn = 0 → up = 0) (M : Mem) :
    fX11_lying_l48 N 140 (nI up) (nI dn) M N (nI dn) = some (decide (dn ≠ 0), wI (wI M 140 26 (nI (up / Nat.gcd up dn))) 140 27 (nI (dn / Nat.gcd up dn))) := by
  rw [← yo_eq]
  have fin : ∀ d : Nat, d = Nat.gcd up dn → Yo (fX11_lying_b74 N 140 (nI up) (nI dn) (nI d) M) (fun x => x = (decide (dn ≠ 0), wI (wI M 140 26 (nI (up / Nat.gcd up dn))) 140 27 (nI (dn / Nat.gcd up dn)))) := by
    intro d hdG
    unfold fX11_lying_b74 fX11_lying_b87 fX11_lying_b103
    by_cases hz : dn = 0
    · have hz2 := h0 hz
      subst hz hz2
      rw [if_pos (show nI 0 = (0 : Int32) from rfl), if_pos (show nI 0 = (0 : Int32) from rfl), if_pos (show nI 0 ≤ (0 : Int32) from by decide), yo_s]
      rfl
    · have hd1 : 0 < d := by rw [hdG]; exact Nat.gcd_pos_of_pos_right _ (by omega)
      have hd2 : d ≤ dn := by rw [hdG]; exact Nat.gcd_le_right _ (by omega)
      rw [if_neg (nI_ne0 (by omega) (by omega)), if_neg (nI_ne0 (by omega) (by omega)), if_neg (nI_ne0 (by omega) (by omega)), if_neg (nI_ne0 (by omega) (by omega)), if_neg (nI_nle (by omega) (by omega)), yo_s, pk_div (by omega) hd1 (by omega), pk_div (by omega) hd1 (by omega), hdG, decide_eq_true hz]
  have hG1 : Nat.gcd up dn ≤ dn := by
    by_cases hz : dn = 0
    · have hz2 := h0 hz
      subst hz hz2
      exact Nat.le_refl _
    · exact Nat.gcd_le_right _ (by omega)
  refine yo_f1 (F := fX11_lying_l48 N 140 (nI up) (nI dn) M) dn (fun k v => ∃ d, v = nI d ∧ d + k = dn ∧ Nat.gcd up dn ≤ d) ?_ N 0 _ (by omega) (by omega) ⟨dn, rfl, by omega, hG1⟩
  intro f k v hk ⟨d, hv, hdk, hG⟩ ih
  subst hv
  show Yo (fX11_lying_l48_s N 140 (nI up) (nI dn) M (fX11_lying_l48 N 140 (nI up) (nI dn) M f) (nI d)) _
  unfold fX11_lying_l48_s fX11_lying_b68
  by_cases h1 : d ≤ 1
  · rw [if_pos (show nI d ≤ (1 : Int32) from nI_le (b := 1) h1 (by decide))]
    refine fin d ?_
    by_cases hz : dn = 0
    · have hz2 := h0 hz
      subst hz hz2
      have : Nat.gcd 0 0 = 0 := rfl
      omega
    · have := Nat.gcd_pos_of_pos_right up (show 0 < dn by omega)
      omega
  · have hdv : ∀ a : Nat, a ≤ 256 → remI (nI a) (nI d) = nI (a % d) := fun a ha => by rw [rem_nn (by omega) (by omega) (by rw [nI_toInt (by omega)]; omega), modN_nI (by omega)]
    rw [if_neg (show ¬ nI d ≤ (1 : Int32) from nI_ge (a := 1) (by omega) (by omega)), if_neg (nI_ne0 (by omega) (by omega)), hdv up hu, hdv dn hd, sb_m1 (by omega)]
    have hb : ∀ a : Nat, a % d < d := fun a => Nat.mod_lt _ (by omega)
    have hne : Nat.gcd up dn ≠ d → Nat.gcd up dn ≤ d - 1 := fun q => by omega
    refine yo_i (fun y => ?_) (fun y => ?_)
    · rw [show (0 : Int32) = nI 0 from rfl, nI_eq (by have := hb up; omega) (by omega)] at y
      rw [if_neg (nI_ne0 (by omega) (by omega))]
      refine yo_i (fun z => ?_) (fun z => ?_)
      · rw [show (0 : Int32) = nI 0 from rfl, nI_eq (by have := hb dn; omega) (by omega)] at z
        refine fin d (Nat.le_antisymm (Nat.le_of_dvd (Nat.gcd_pos_of_pos_right _ (by omega)) (Nat.dvd_gcd (Nat.dvd_of_mod_eq_zero y) (Nat.dvd_of_mod_eq_zero z))) hG)
      · rw [show (0 : Int32) = nI 0 from rfl, nI_eq (by have := hb dn; omega) (by omega)] at z
        refine ih _ (by omega) ⟨d - 1, rfl, by omega, hne (fun q => z ?_)⟩
        rw [← q]
        exact Nat.mod_eq_zero_of_dvd (Nat.gcd_dvd_right _ _)
    · rw [show (0 : Int32) = nI 0 from rfl, nI_eq (by have := hb up; omega) (by omega)] at y
      refine ih _ (by omega) ⟨d - 1, rfl, by omega, hne (fun q => y ?_)⟩
      rw [← q]
      exact Nat.mod_eq_zero_of_dvd (Nat.gcd_dvd_left _ _)
/-- the same but for scratch, and for some fields of both -/
theorem rel_moved {M M' : Mem} (h : Rel M) (hq : ∀ a, a ∉ scr → a ≠ 140 → a ≠ 0 → M' a = M a) (h6 : rI M' 0 6 = rI M 0 6) (h7 : rI M' 140 7 = rI M 140 7) (hA' : relA M') : Rel M' := by
  obtain ⟨⟨W, g, m, hS⟩, hI, hT, ⟨n, hn, p1, p2, p3⟩, hA⟩ := h
  have e141 := hq 141 (scr_no (by omega) (by omega)) (by omega) (by omega)
  have e143 := hq 143 (scr_no (by omega) (by omega)) (by omega) (by omega)
  have e145 := hq 145 (scr_no (by omega) (by omega)) (by omega) (by omega)
  have e162 := hq 162 (scr_no (by omega) (by omega)) (by omega) (by omega)
  have e163 := hq 163 (scr_no (by omega) (by omega)) (by omega) (by omega)
  have e164 := hq 164 (scr_no (by omega) (by omega)) (by omega) (by omega)
  have e146 := hq 146 (scr_no (by omega) (by omega)) (by omega) (by omega)
  have e119 := hq 119 (scr_no (by omega) (by omega)) (by omega) (by omega)
  have e111 := hq 111 (scr_no (by omega) (by omega)) (by omega) (by omega)
  refine ⟨⟨W, g, m, ?_⟩, fun i hi => ?_, fun t ht => ?_, ⟨n, hn, ?_, ?_, fun j hj => ?_⟩, hA'⟩
  · rw [e141]
    exact hS.moved (fun a h1 h2 h3 => hq a (scr_no (by omega) (by omega)) (by omega) (by omega))
  · have e : imT M' i = imT M i := by unfold imT; funext k; rw [eqs_rI e143]
    rw [h6, eqs_rI e145, e]
    rcases hI i hi with q | ⟨q1, q2, W', g', m', q3⟩
    · exact Or.inl q
    · exact Or.inr ⟨q1, q2, W', g', m', q3.moved (fun a h1 h2 h3 => hq a (scr_no (by omega) (by omega)) (by omega) (by omega))⟩
  · have ea := hq (103 + 2 * t) (scr_no (by omega) (by omega)) (by omega) (by omega)
    have eb := hq (104 + 2 * t) (scr_no (by omega) (by omega)) (by omega) (by omega)
    rw [eqs_rI ea, eqs_rI ea, eqs_rI ea, eqs_rI e162, eqs_rI e163]
    rcases hT t ht with q | ⟨q1, so, ma, q2, q3, q4, q5, q6, q7, q8⟩
    · exact Or.inl q
    · exact Or.inr ⟨q1, so, ma, q2, q3, q4, q5, q6, q7, fun j hj => by rw [eqs_rJ eb, eqs_rJ e164]; exact q8 j hj⟩
  · rw [eqs_rI e111]; exact p1
  · rw [h7]; exact p2
  · rw [eqs_rI e146, eqs_rI e119]; exact p3 j hj
theorem ag_lying {N : Nat} (hN : 700 ≤ N) (a1 : Int32) (M : Mem) (hR : Rel M) : agB (fX10_lying N 0 a1 M) (fX11_lying N 140 a1) (fun k Mj1 => if k = 1 then some ((1 : Int32), Mj1) else none) M := by
  obtain ⟨W, g, m, hS⟩ := hR.1
  rcases rowAt_ok hS a1 with ⟨c1, c2⟩ | ⟨r, hr, rfl, hh, c1, c2⟩
  · refine refB hR (e := 1) 1 ?_ rfl (by decide) ?_
    · unfold fX10_lying; rw [c1, xb_l]
    · unfold fX11_lying fX11_lying_b14
      rw [c2 M rfl, Option.bind_some, if_neg (by decide), w5_5, if_neg (by decide), yo_s]
      exact smF.refl
  · obtain ⟨kd, sz, mk, ex, ly, hc, hr'⟩ := sX hS hr hh
    obtain ⟨w1, w2, w3⟩ := hc.W1
    have two : liesT (M 141).1 r W g kd sz mk ex ly + manyT (M 141).1 r ≤ W := by
      rw [manyT_W hc.2.2.2 w3]
      refine cnt_two (fun k _ q => ?_)
      unfold lieB at q
      rw [q.2] at q
      exact absurd q.1 (by simp)
    generalize hup : liesT (M 141).1 r W g kd sz mk ex ly = up at two
    generalize hmn : manyT (M 141).1 r = mn at two
    have hcl : Yo (fX10_lying N 0 (nI r) M) (fun x => x.1 = .inr (decide (W - mn ≠ 0)) ∧ ∃ M'', smF [8] M M'' ∧ x.2 = wI (wI M'' 0 2 (nI (up / Nat.gcd up (W - mn)))) 0 3 (nI ((W - mn) / Nat.gcd up (W - mn)))) := by
      unfold fX10_lying
      rw [c1, xb_r]
      refine (c_count hN hc).bi (fun x hx => ?_)
      have hx1 := hc.mv8 hx.2
      rw [hx1.many hN, Option.bind_some, show rI x.2 (0 + 1 + 1) 1 = nI W from hx1.W1.1, hmn, pk_sub (by omega), hx.1, hup, cdv_ok hN (by omega) (by omega), Option.bind_some]
      have hgb : Nat.gcd up (W - mn) ≤ 256 := by
        by_cases hz : W - mn = 0
        · rw [hz, Nat.gcd_zero_right]; omega
        · exact Nat.le_trans (Nat.gcd_le_right _ (by omega)) (by omega)
      unfold fX10_lying_b54 fX10_lying_b72
      have hd : ∀ z : Mem, (if nI (W - mn) = 0 then some (((Sum.inr false : Nat ⊕ Bool)), z) else some (Sum.inr true, z)) = some (Sum.inr (decide (W - mn ≠ 0)), z) := fun z => by
        by_cases hz : W - mn = 0
        · rw [hz, if_pos (show nI 0 = (0 : Int32) from rfl)]; rfl
        · rw [if_neg (nI_ne0 (by omega) (by omega)), decide_eq_true hz]
      by_cases hg : Nat.gcd up (W - mn) = 0
      · rw [hg, if_pos (show nI 0 = (0 : Int32) from rfl), if_pos (show nI 0 = (0 : Int32) from rfl), hd, yo_s]
        exact ⟨rfl, x.2, hx.2, by rw [Nat.div_zero, Nat.div_zero]; rfl⟩
      · rw [if_neg (nI_ne0 (by omega) (by omega)), if_neg (nI_ne0 (by omega) (by omega)), if_neg (nI_ne0 (by omega) (by omega)), if_neg (nI_ne0 (by omega) (by omega)), hd, yo_s, pk_div (by omega) (by omega) (by omega), pk_div (by omega) (by omega) (by omega)]
        exact ⟨rfl, x.2, hx.2, rfl⟩
    obtain ⟨⟨v, M1⟩, h1, h2, M'', h3, h4⟩ := hcl
    have h2 : v = .inr (decide (W - mn ≠ 0)) := h2
    have h5 : M1 = wI (wI M'' 0 2 (nI (up / Nat.gcd up (W - mn)))) 0 3 (nI ((W - mn) / Nat.gcd up (W - mn))) := h4
    subst h2
    refine Or.inr ⟨decide (W - mn ≠ 0), M1, h1, ?_⟩
    generalize hk : (if decide (W - mn ≠ 0) = true then (1 : Int64) else 0) = ans
    have hsame : ∀ a, a ∉ [0, 8, 165] → (wJ M1 165 0 ans) a = M a := by
      intro a ha
      have q1 : smF [0, 8, 165] M (wJ M1 165 0 ans) := by
        rw [h5]
        exact (((h3.mono (by decide)).pI_ (by decide) _ _).pI_ (by decide) _ _).pJ_ (by decide) _ _
      exact q1 a ha
    have e141 : (wJ M1 165 0 ans) 141 = M 141 := hsame 141 (by decide)
    unfold fX11_lying fX11_lying_b14
    rw [c2 _ (by rw [e141]), Option.bind_some, if_pos rfl, w5_5, if_pos (by decide)]
    have h' := hr' (wI (wJ M1 165 0 ans) 140 5 (bI false)) (by rw [w5_141, e141])
    refine (r_count hN h').bi (fun x hx => ?_)
    have hx1 := h'.mv7 hx.2
    rw [if_pos (by decide), hx1.many hN, Option.bind_some, show rI x.2 (140 + 1) (1 : Int32).toNatClampNeg = nI W from hx1.W1.1, hmn, pk_sub (by omega), hx.1, hup, rdv_ok hN (by omega) (by omega) (by omega), yo_s]
    refine ⟨rfl, ?_, ?_, ?_⟩
    · rw [rI_wI, if_neg (by omega), rI_wI, if_neg (by omega), hx.2.I_ (by decide), w5_5]; rfl
    · rw [rJ_wI, rJ_wI, hx.2.J_ (by decide), rJ_wI, rJ_wJ, if_pos ⟨rfl, rfl⟩]
    · have f0 : ∀ k, rI x.2 0 k = rI M1 0 k := fun k => by rw [hx.2.I_ (by decide), rI_wI, if_neg (by omega), rI_wJ]
      have f140 : ∀ k, k ≠ 5 → rI x.2 140 k = rI M 140 k := fun k hk => by rw [hx.2.I_ (by decide), rI_wI, if_neg (by omega), rI_wJ, h5, rI_wI, if_neg (by omega), rI_wI, if_neg (by omega), h3.I_ (by decide)]
      refine rel_moved hR (fun a ha ha1 ha2 => ?_) ?_ ?_ ?_
      · have q1 : smF [140, 147] (wJ M1 165 0 ans) (wI (wI x.2 140 26 (nI (up / Nat.gcd up (W - mn)))) 140 27 (nI ((W - mn) / Nat.gcd up (W - mn)))) :=
          ((((smF.refl (S := [140, 147])).pI_ (by decide) _ _).trans (hx.2.mono (by decide))).pI_ (by decide) _ _).pI_ (by decide) _ _
        refine (q1 a ?_).trans (hsame a ?_)
        · simp only [scr, List.mem_cons, List.not_mem_nil, or_false, not_or] at ha ⊢; omega
        · simp only [scr, List.mem_cons, List.not_mem_nil, or_false, not_or] at ha ⊢; omega
      · rw [rI_wI, if_neg (by omega), rI_wI, if_neg (by omega), f0, h5, rI_wI, if_neg (by omega), rI_wI, if_neg (by omega), h3.I_ (by decide)]
      · rw [rI_wI, if_neg (by omega), rI_wI, if_neg (by omega), f140 7 (by omega)]
      · obtain ⟨a1, a2, _, _⟩ := hR.2.2.2.2
        refine ⟨?_, ?_, ?_, ?_⟩
        · rw [rI_wI, if_neg (by omega), rI_wI, if_neg (by omega), f0, h5, rI_wI, if_neg (by omega), rI_wI, if_neg (by omega), h3.I_ (by decide), a1, rI_wI, if_neg (by omega), rI_wI, if_neg (by omega), f140 16 (by omega)]
        · rw [rI_wI, if_neg (by omega), rI_wI, if_neg (by omega), f0, h5, rI_wI, if_neg (by omega), rI_wI, if_neg (by omega), h3.I_ (by decide), a2, rI_wI, if_neg (by omega), rI_wI, if_neg (by omega), f140 17 (by omega)]
        · rw [rI_wI, if_neg (by omega), rI_wI, if_neg (by omega), f0, h5, rI_wI, if_neg (by omega), rI_wI, if_pos (by omega), rI_wI, if_neg (by omega), rI_wI, if_pos (by omega)]
        · rw [rI_wI, if_neg (by omega), rI_wI, if_neg (by omega), f0, h5, rI_wI, if_pos (by omega), rI_wI, if_pos (by omega)]
