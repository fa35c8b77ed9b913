/-! SEMANTICS: halve, join -/
def tog (kd : Nat) (a b : Int32) : Int32 := if kd = 0 then a ||| b else minI 15 (a + b)
theorem tog_c : ∀ a, a ≤ 15 → ∀ b, b ≤ 15 → minI (nI a + nI b) 15 = minI 15 (nI a + nI b) ∧ minI 15 (nI a + nI b) = nI (min 15 (a + b)) := by decide +kernel
theorem tog_ok {T T' : Nat → Int32} {r r' W m kd sz mk ex ly sz' mk' ex' ly' i j : Nat} (h : roT T r W m kd sz mk ex ly) (h' : roT T' r' W m kd sz' mk' ex' ly') (hk : kd = 0 ∨ kd = 1) (hi : i < 240) (hj : j < 240) (l : Nat) : okC kd W l (tog kd (rq T r (10 + i)) (rq T' r' (10 + j))) ∧ minI (rq T r (10 + i) + rq T' r' (10 + j)) (if kd = 1 then 15 else 1) = tog kd (rq T r (10 + i)) (rq T' r' (10 + j)) := by
  unfold tog okC
  rcases hk with q | q
  · subst q
    rw [if_pos rfl, if_neg (by decide)]
    rcases h.2.2.2.1.1 (Or.inl rfl) i hi with e | e <;> rcases h'.2.2.2.1.1 (Or.inl rfl) j hj with e' | e' <;> rw [e, e'] <;> refine ⟨⟨fun _ => by decide, fun z => by omega, fun z => by omega, fun z => by omega⟩, by decide⟩
  · subst q
    rw [if_neg (by decide), if_pos rfl]
    obtain ⟨a, ha, e⟩ := h.2.2.2.1.2.1 rfl i hi
    obtain ⟨b, hb, e'⟩ := h'.2.2.2.1.2.1 rfl j hj
    obtain ⟨t1, t2⟩ := tog_c a ha b hb
    rw [e, e']
    exact ⟨⟨fun z => by omega, fun _ => ⟨min 15 (a + b), by omega, t2⟩, fun z => by omega, fun z => by omega⟩, t1⟩
theorem together_ok {M : Mem} {T : Nat → Int32} {r W g m kd sz mk ex ly : Nat} (h : rX M T r W g m kd sz mk ex ly) (a b : Int32) : fX11_together 140 (nI r) a b M = some (tog kd a b) := by
  have hk := h.2.2.2.2.1.1
  unfold fX11_together tog
  rw [h.flds.1, Option.bind_some]
  by_cases q : kd = 0
  · rw [if_pos (show nI kd = (0 : Int32) from by rw [q]; rfl), if_pos q]
  · rw [if_neg (nI_ne0 (by omega) (by omega)), if_neg q]
theorem plain_ok {M : Mem} {T : Nat → Int32} {r W g m kd sz mk ex ly : Nat} (h : cX M T r W g m kd sz mk ex ly) : fX5_isPlain (10 + 4 * r) M = some (decide (kd = 0 ∨ kd = 1)) := by
  have hk := h.2.2.2.2.1.1
  unfold fX5_isPlain fX5_isPlain_b15
  rw [h.flds.1]
  by_cases q : kd = 0
  · rw [if_pos (show nI kd = (0 : Int32) from by rw [q]; rfl), decide_eq_true (Or.inl q)]
  · rw [if_neg (nI_ne0 (by omega) (by omega))]
    by_cases q1 : kd = 1
    · rw [if_pos (show nI kd = (1 : Int32) from by rw [q1]; rfl), decide_eq_true (Or.inr q1)]
    · rw [if_neg (show ¬ nI kd = (1 : Int32) from ne_l (b := 1) q1 (by omega) (by omega)), decide_eq_false (by omega)]
theorem counted_ok {kd : Nat} (hk : kd ≤ 4) (M : Mem) : fX11_isCounted (nI kd) M = some (decide (kd = 0 ∨ kd = 1)) := by
  unfold fX11_isCounted fX11_isCounted_b9
  by_cases q : kd = 0
  · rw [if_pos (show nI kd = (0 : Int32) from by rw [q]; rfl), decide_eq_true (Or.inl q)]
  · rw [if_neg (nI_ne0 (by omega) (by omega))]
    by_cases q1 : kd = 1
    · rw [if_pos (show nI kd = (1 : Int32) from by rw [q1]; rfl), decide_eq_true (Or.inr q1)]
    · rw [if_neg (show ¬ nI kd = (1 : Int32) from ne_l (b := 1) q1 (by omega) (by omega)), decide_eq_false (by omega)]
theorem roT_size {T : Nat → Int32} {r W m kd sz mk ex ly sz' : Nat} (h : roT T r W m kd sz mk ex ly) (hk : kd ≠ 3) (h1 : 1 ≤ sz') (h2 : sz' ≤ 64) (h3 : kd = 2 → sz' ≤ 16) : roT (setT T r 1 (nI sz')) r W m kd sz' mk ex ly := by
  obtain ⟨⟨q0, q1, q2, q3, q4⟩, k5, ⟨p1, p2⟩, ⟨c1, c2, c3, c4, c5⟩, p, hp, hp2⟩ := h
  have o : ∀ k, k ≠ 1 → rq (setT T r 1 (nI sz')) r k = rq T r k := fun k hk => by rw [setT_rq, if_neg hk]
  refine ⟨⟨by rw [o 0 (by omega)]; exact q0, by rw [setT_rq, if_pos rfl], by rw [o 2 (by omega)]; exact q2, by rw [o 3 (by omega)]; exact q3, by rw [o 4 (by omega)]; exact q4⟩, (by clear c1 c2 c3 c4 c5 p1 p2; omega), ⟨fun n hn => by rw [o _ (by omega)]; exact p1 n hn, fun n g1 g2 => by rw [o _ (by omega)]; exact p2 n g1 g2⟩, ⟨fun z j hj => by rw [o _ (by omega)]; exact c1 z j hj, fun z j hj => by rw [o _ (by omega)]; exact c2 z j hj, fun z j hj => by rw [o _ (by omega)]; exact c3 z j hj, fun z j g1 g2 => by rw [o _ (by omega)]; exact c4 z j g1 g2, fun z => absurd z hk⟩, p, hp, by rw [o 5 (by omega)]; exact hp2⟩
def hvT (T : Nat → Int32) (r kd hf : Nat) : Nat → Nat → Int32
  | 0 => T
  | k + 1 => setT (setT (hvT T r kd hf k) r (10 + k) (tog kd (rq (hvT T r kd hf k) r (10 + k)) (rq (hvT T r kd hf k) r (10 + (k + hf))))) r (10 + (k + hf)) 0
theorem hvT_out {T : Nat → Int32} {r kd hf : Nat} : ∀ k, k + hf ≤ 240 → ∀ z, (z < 1220 + 512 * r ∨ 1220 + 512 * r + 512 ≤ z) → hvT T r kd hf k z = T z
  | 0, _, _, _ => rfl
  | k + 1, hk, z, hz => by
    have ih := hvT_out (T := T) (r := r) (kd := kd) (hf := hf) k (by omega) z hz
    unfold hvT
    rw [setT_out (by omega) z hz, setT_out (by omega) z hz]
    exact ih
theorem ag_halve {N : Nat} (hN : 700 ≤ N) (a1 : Int32) (M : Mem) (hR : Rel M) : agI (fX10_halve N 0 a1 M) (fX11_halve N 140 a1) (fun k Mj1 => if k = 1 then some ((1 : Int32), Mj1) else if k = 2 then some ((2 : Int32), Mj1) else none) M := by
  obtain ⟨W, g, m, hS⟩ := hR.1
  rcases rowAt_ok hS a1 with ⟨c1, c2⟩ | ⟨r, hr, rfl, hh, c1, c2⟩
  · refine refI hR (e := 1) 1 ?_ rfl (by decide) ?_
    · unfold fX10_halve; rw [c1, xb_l]
    · unfold fX11_halve
      rw [c2 _ (by rw [w5_141]), Option.bind_some, if_neg (by decide), fails_ok, Option.bind_some, yo_s, wI_wI]
      exact smF.refl
  · obtain ⟨kd, sz, mk, ex, ly, hc, hr'⟩ := sX hS hr hh
    have k5 := hc.2.2.2.2.1
    have hrem : remI (nI sz) 2 = nI (sz % 2) := by
      rw [li_2, rem_nn (by omega) (by omega) (by rw [nI_toInt (by omega)]; omega), modN_nI (by omega)]
    have hdiv : nI sz / (2 : Int32) = nI (sz / 2) := by rw [li_2, pk_div (by omega) (by omega) (by omega)]
    have hlt2 := Nat.mod_lt sz (show 0 < 2 by omega)
    by_cases hg : (kd = 0 ∨ kd = 1) ∧ sz % 2 = 0
    · obtain ⟨hk, hev⟩ := hg
      generalize hhf : sz / 2 = hf at hdiv
      have h2 : sz = 2 * hf := by omega
      have hcl : Yo (fX10_halve N 0 (nI r) M) (fun x => x.1 = .inr (nI hf) ∧ cX x.2 (setT (hvT (M 141).1 r kd hf hf) r 1 (nI hf)) r W g m kd hf mk ex ly ∧ smF [10 + 4 * r, 13 + 4 * r] M x.2 ∧ rI x.2 (10 + 4 * r) 0 = rI M (10 + 4 * r) 0) := by
        unfold fX10_halve fX5_fold
        rw [c1, xb_r, plain_ok hc, Option.bind_some, decide_eq_true hk, if_pos rfl, hc.flds.2.1, hrem, hev, if_pos (show nI 0 = (0 : Int32) from rfl), hdiv]
        have loop : Yo (fX5_fold_l9 N (10 + 4 * r) (nI hf) N (0 : Int32) M) (fun x => cX x (setT (hvT (M 141).1 r kd hf hf) r 1 (nI hf)) r W g m kd hf mk ex ly ∧ smF [10 + 4 * r, 13 + 4 * r] M x ∧ rI x (10 + 4 * r) 0 = rI M (10 + 4 * r) 0) := by
          refine yo_f2 (F := fX5_fold_l9 N (10 + 4 * r) (nI hf)) hf (fun k v M' => v = nI k ∧ cX M' (hvT (M 141).1 r kd hf k) r W g m kd sz mk ex ly ∧ smF [13 + 4 * r] M M') ?_ N 0 _ _ (by omega) (by omega) ⟨rfl, hc, smF.refl⟩
          intro f k v M' hk2 ⟨hv, h', hF⟩ ih
          subst hv
          show Yo (fX5_fold_l9_s N (10 + 4 * r) (nI hf) (fX5_fold_l9 N (10 + 4 * r) (nI hf) f) (nI k) M') _
          unfold fX5_fold_l9_s
          rcases Nat.lt_or_ge k hf with hlt | hge
          · obtain ⟨t1, t2⟩ := tog_ok h'.2.2.2 h'.2.2.2 hk (show k < 240 by omega) (show k + hf < 240 by omega) k
            obtain ⟨s1, s2⟩ := cX_cell h' (show k < 240 by omega) t1
            obtain ⟨s3, s4⟩ := cX_cell s2 (show k + hf < 240 by omega) (okC_0 kd W (k + hf))
            rw [if_neg (nI_ge hlt (by omega)), h'.cell (by omega), Option.bind_some, nI_add, h'.cell (by omega), Option.bind_some, full_ok h', Option.bind_some, t2, s1, Option.bind_some, s3, Option.bind_some, nI_1]
            exact ih _ _ hlt ⟨rfl, s4, (hF.pI_ (by simp) _ _).pI_ (by simp) _ _⟩
          · rw [if_pos (nI_le hge (by omega)), yo_s]
            have e : k = hf := by omega
            subst e
            refine ⟨cX_fld (i := 1) h' (Or.inl rfl) (by omega) (roT_size h'.2.2.2 (by omega) (by omega) (by omega) (by omega)), (hF.mono (by simp)).pI_ (by simp) _ _, ?_⟩
            rw [rI_wI, if_neg (by omega), hF.I_ (by simp)]
        refine loop.bi (fun x hx => ?_)
        rw [yo_s, hx.1.flds.2.1]
        exact ⟨rfl, hx⟩
      obtain ⟨⟨v, M1⟩, h1, q1, q2, q3, q4⟩ := hcl
      have q1 : v = .inr (nI hf) := q1
      subst q1
      refine Or.inr ⟨nI hf, M1, h1, ?_⟩
      have e141 : M1 141 = M 141 := q3 141 (by simp; omega)
      generalize hM' : wJ M1 165 0 (nI hf).toInt64 = M'
      have e : M' 141 = M 141 := by rw [← hM', wJ_165 141 (by omega), e141]
      have h' := hr' (wI M' 140 5 0) (by rw [w5_141, e])
      have hrf : Yo (fX11_halve N 140 (nI r) M') (fun x => x.1 = nI hf ∧ rX x.2 (setT (hvT (M 141).1 r kd hf hf) r 1 (nI hf)) r W g m kd hf mk ex ly ∧ smF (141 :: scrR) (wI M' 140 5 0) x.2) := by
        unfold fX11_halve
        rw [c2 _ (by rw [w5_141, e]), Option.bind_some, if_pos rfl, h'.flds.1, Option.bind_some, counted_ok k5.1, Option.bind_some, decide_eq_true hk, if_pos rfl, h'.flds.2.1, Option.bind_some, hrem, hev, if_neg (show ¬ nI 0 = (1 : Int32) by decide), Option.bind_some, hdiv]
        refine yo_f2 (F := fX11_halve_l61 N 140 (nI r) (nI hf)) hf (fun k v M2 => v = nI (10 + k) ∧ rX M2 (hvT (M 141).1 r kd hf k) r W g m kd sz mk ex ly ∧ smF (141 :: scrR) (wI M' 140 5 0) M2) ?_ N 0 _ _ (by omega) (by omega) ⟨rfl, h', smF.refl⟩
        intro f k v M2 hk2 ⟨hv, hx, hF⟩ ih
        subst hv
        show Yo (fX11_halve_l61_s N 140 (nI r) (nI hf) (fX11_halve_l61 N 140 (nI r) (nI hf) f) (nI (10 + k)) M2) _
        unfold fX11_halve_l61_s
        rw [li_10, nI_add]
        rcases Nat.lt_or_ge k hf with hlt | hge
        · obtain ⟨t1, _⟩ := tog_ok hx.2.2.2 hx.2.2.2 hk (show k < 240 by omega) (show k + hf < 240 by omega) k
          have s2 := rX_set hx (roT_cell hx.2.2.2 (show k < 240 by omega) t1)
          have s4 := rX_set s2 (roT_cell s2.2.2.2 (show k + hf < 240 by omega) (okC_0 kd W (k + hf)))
          rw [if_neg (nI_ge (by omega) (by omega)), hx.cell (by omega), Option.bind_some, nI_add, Nat.add_assoc, hx.cell (by omega), Option.bind_some, together_ok hx, Option.bind_some, set_ok _ _ (by omega), Option.bind_some, set_ok _ _ (by omega), Option.bind_some, nI_1]
          exact ih _ _ hlt ⟨rfl, s4, (hF.pI_ (by simp) _ _).pI_ (by simp) _ _⟩
        · have e2 : k = hf := by omega
          subst e2
          rw [if_pos (nI_le (by omega) (by omega)), show (1 : Int32) = nI 1 from rfl, set_ok _ _ (by omega), Option.bind_some, yo_s]
          exact ⟨rfl, rX_set hx (roT_size hx.2.2.2 (by omega) (by omega) (by omega) (by omega)), hF.pI_ (by simp) _ _⟩
      refine hrf.to (fun x hx => ?_)
      rw [← hM'] at hx
      obtain ⟨z1, z2, z3⟩ := row_endT hR hS hr hh.1 q2 (q3.mono (fun a ha => by simp at ha ⊢; rcases ha with h | h <;> simp [h])) q4 hx.2.1 hx.2.2 (fun z hz => by rw [setT_out (by omega) z hz]; exact hvT_out _ (by omega) z hz)
      exact ⟨hx.1, z1, z2, z3⟩
    · refine refI hR (e := 2) 2 ?_ rfl (by decide) ?_
      · unfold fX10_halve fX10_halve_b22
        rw [c1, xb_r, plain_ok hc, Option.bind_some, hc.flds.2.1, hrem]
        by_cases q : kd = 0 ∨ kd = 1
        · rw [decide_eq_true q, if_pos rfl, if_neg (nI_ne0 (by omega) (by omega))]
        · rw [decide_eq_false q, if_neg (by decide)]
      · have h' := hr' (wI M 140 5 0) (by rw [w5_141])
        unfold fX11_halve fX11_halve_b43
        rw [c2 _ (by rw [w5_141]), Option.bind_some, if_pos rfl, h'.flds.1, Option.bind_some, counted_ok k5.1, Option.bind_some, h'.flds.2.1, Option.bind_some, hrem, fails_ok, Option.bind_some]
        by_cases q : kd = 0 ∨ kd = 1
        · rw [decide_eq_true q, if_pos rfl, show sz % 2 = 1 by omega, if_pos (show nI 1 = (1 : Int32) from rfl), yo_s, wI_wI]
          exact smF.refl
        · rw [decide_eq_false q, if_neg (by decide), yo_s, wI_wI]
          exact smF.refl
