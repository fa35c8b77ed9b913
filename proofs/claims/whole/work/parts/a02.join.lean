/-! SEMANTICS: join -/
theorem setT_rq2 (T : Nat → Int32) {r r2 k j : Nat} (v : Int32) (hr : r ≠ r2) (hk : k < 512) (hj : j < 512) : rq (setT T r k v) r2 j = rq T r2 j := by
  unfold rq setT
  rw [if_neg (by omega)]
def jcT (T : Nat → Int32) (r r2 kd : Nat) : Nat → Nat → Int32
  | 0 => T
  | k + 1 => setT (jcT T r r2 kd k) r (10 + k) (tog kd (rq (jcT T r r2 kd k) r (10 + k)) (rq T r2 (10 + k)))
def jpT (U : Nat → Int32) (r : Nat) (p : Nat → Bool) : Nat → Nat → Int32
  | 0 => U
  | k + 1 => if p k = true then setT (jpT U r p k) r (250 + k) 1 else jpT U r p k
theorem jcT_rq2 {T : Nat → Int32} {r r2 kd : Nat} (hr : r ≠ r2) : ∀ k, k ≤ 240 → ∀ j, j < 512 → rq (jcT T r r2 kd k) r2 j = rq T r2 j
  | 0, _, _, _ => rfl
  | k + 1, hk, j, hj => by
    unfold jcT
    rw [setT_rq2 _ _ hr (by omega) hj]
    exact jcT_rq2 hr k (by omega) j hj
theorem jcT_out {T : Nat → Int32} {r r2 kd : Nat} : ∀ k, k ≤ 240 → ∀ z, (z < 1220 + 512 * r ∨ 1220 + 512 * r + 512 ≤ z) → jcT T r r2 kd k z = T z
  | 0, _, _, _ => rfl
  | k + 1, hk, z, hz => by
    unfold jcT
    rw [setT_out (by omega) z hz]
    exact jcT_out k (by omega) z hz
theorem jpT_out {U : Nat → Int32} {r : Nat} {p : Nat → Bool} : ∀ k, k ≤ 256 → ∀ z, (z < 1220 + 512 * r ∨ 1220 + 512 * r + 512 ≤ z) → jpT U r p k z = U z
  | 0, _, _, _ => rfl
  | k + 1, hk, z, hz => by
    unfold jpT
    split
    · rw [setT_out (by omega) z hz]
      exact jpT_out k (by omega) z hz
    · exact jpT_out k (by omega) z hz
theorem jpT_rq {U : Nat → Int32} {r : Nat} {p : Nat → Bool} : ∀ k j, rq (jpT U r p k) r j = if 250 ≤ j ∧ j < 250 + k ∧ p (j - 250) = true then 1 else rq U r j
  | 0, j => by rw [if_neg (by omega)]; rfl
  | k + 1, j => by
    have ih := jpT_rq (U := U) (r := r) (p := p) k j
    unfold jpT
    by_cases q : p k = true
    · rw [if_pos q, setT_rq, ih]
      by_cases e : j = 250 + k
      · rw [if_pos e, if_pos ⟨by omega, by omega, by rw [show j - 250 = k by omega]; exact q⟩]
      · rw [if_neg e]
        by_cases c : 250 ≤ j ∧ j < 250 + k ∧ p (j - 250) = true
        · rw [if_pos c, if_pos ⟨c.1, by omega, c.2.2⟩]
        · rw [if_neg c, if_neg (fun z => c ⟨z.1, by omega, z.2.2⟩)]
    · rw [if_neg q, ih]
      by_cases c : 250 ≤ j ∧ j < 250 + k ∧ p (j - 250) = true
      · rw [if_pos c, if_pos ⟨c.1, by omega, c.2.2⟩]
      · rw [if_neg c, if_neg (fun z => c ⟨z.1, (by
          by_cases e : j = 250 + k
          · exact absurd z.2.2 (by rw [show j - 250 = k by omega]; exact q)
          · omega), z.2.2⟩)]
theorem roT_jp {U : Nat → Int32} {r W m kd sz mk ex ly : Nat} {p : Nat → Bool} (h : roT U r W m kd sz mk ex ly) (hW : W ≤ 256) : ∀ k, k ≤ W → roT (jpT U r p k) r W m kd sz mk ex ly
  | 0, _ => h
  | k + 1, hk => by
    have ih := roT_jp (p := p) h hW k (by omega)
    unfold jpT
    split
    · exact roT_put ih (by omega) (Or.inr ⟨rfl, by omega⟩)
    · exact ih
theorem c_absorb {N : Nat} {M : Mem} {T : Nat → Int32} {r r2 W g m kd sz mk ex ly ex2 ly2 : Nat} (hN : 700 ≤ N) (h : cX M T r W g m kd sz mk ex ly) (h2 : cX M T r2 W g m kd sz mk ex2 ly2) (hk : kd = 0 ∨ kd = 1) (hne : r ≠ r2) :
    Yo (fX5_absorb N (10 + 4 * r) (10 + 4 * r2) M) (fun x => cX x (jpT (jcT T r r2 kd sz) r (put1 T r2) W) r W g m kd sz mk ex ly ∧ smF [12 + 4 * r, 13 + 4 * r] M x) := by
  have k5 := h.2.2.2.2.1
  have hW := h.W1.2.2
  unfold fX5_absorb
  refine yo_f2 (F := fX5_absorb_l2 N (10 + 4 * r) (10 + 4 * r2)) sz (fun k v M' => v = nI k ∧ cX M' (jcT T r r2 kd k) r W g m kd sz mk ex ly ∧ smF [13 + 4 * r] M M') ?_ N 0 _ _ (by omega) (by omega) ⟨rfl, h, smF.refl⟩
  intro f k v M' hk2 ⟨hv, h', hF⟩ ih
  subst hv
  show Yo (fX5_absorb_l2_s N (10 + 4 * r) (10 + 4 * r2) (fX5_absorb_l2 N (10 + 4 * r) (10 + 4 * r2) f) (nI k) M') _
  unfold fX5_absorb_l2_s
  rw [h'.flds.2.1]
  rcases Nat.lt_or_ge k sz with hlt | hge
  · have e2 : fX5_cellAt (10 + 4 * r2) (nI k) M' = some (rq T r2 (10 + k)) := by
      rw [cellAt_ok (by omega), hF.I_ (by simp; omega), ← h2.2.2.1.2.2.1 k (by omega)]
    obtain ⟨t1, t2⟩ := tog_ok h'.2.2.2 h2.2.2.2 hk (show k < 240 by omega) (show k < 240 by omega) k
    obtain ⟨s1, s2⟩ := cX_cell h' (show k < 240 by omega) t1
    rw [if_neg (nI_ge hlt (by omega)), h'.cell (by omega), Option.bind_some, e2, Option.bind_some, full_ok h', Option.bind_some, t2, s1, Option.bind_some, nI_1]
    exact ih _ _ hlt ⟨rfl, s2, hF.pI_ (by simp) _ _⟩
  · have ek : sz = k := by omega
    rw [if_pos (nI_le hge (by omega)), ek]
    rw [ek] at h'
    have loop : Yo (fX2_addAll N (10 + 4 * r + 1) (10 + 4 * r2 + 1) M') (fun x => (∀ a, a ≠ 12 + 4 * r → x a = M' a) ∧ (∀ b i, rI x b i = rI M' b i) ∧ ∀ w, w < 4 → rJ x (12 + 4 * r) w = rJ M' (12 + 4 * r) w ||| rJ M (12 + 4 * r2) w) := by
      unfold fX2_addAll
      refine yo_f2 (F := fX2_addAll_l2 N (10 + 4 * r + 1) (10 + 4 * r2 + 1)) 4 (fun i v M2 => v = nI i ∧ (∀ a, a ≠ 12 + 4 * r → M2 a = M' a) ∧ (∀ b j, rI M2 b j = rI M' b j) ∧ (∀ w, w < i → rJ M2 (12 + 4 * r) w = rJ M' (12 + 4 * r) w ||| rJ M (12 + 4 * r2) w) ∧ (∀ w, i ≤ w → rJ M2 (12 + 4 * r) w = rJ M' (12 + 4 * r) w)) ?_ N 0 _ _ (by omega) (by omega) ⟨rfl, fun _ _ => rfl, fun _ _ => rfl, fun w hw => absurd hw (Nat.not_lt_zero w), fun _ _ => rfl⟩
      intro f2 i v M2 hi ⟨hv, g1, g2, g3, g4⟩ ih2
      subst hv
      show Yo (fX2_addAll_l2_s N (10 + 4 * r + 1) (10 + 4 * r2 + 1) (fX2_addAll_l2 N (10 + 4 * r + 1) (10 + 4 * r2 + 1) f2) (nI i) M2) _
      unfold fX2_addAll_l2_s
      rcases Nat.lt_or_ge i 4 with hil | hig
      · rw [if_neg (show ¬ (4 : Int32) ≤ nI i from nI_ge (b := 4) hil (by decide)), if_pos (inB_nI hil (by decide)), if_pos (inB_nI hil (by decide)), if_pos (inB_nI hil (by decide)), nI_clamp (by omega), nI_1, show 10 + 4 * r + 1 + 1 = 12 + 4 * r by omega, show 10 + 4 * r2 + 1 + 1 = 12 + 4 * r2 by omega]
        have e3 : rJ M2 (12 + 4 * r2) i = rJ M (12 + 4 * r2) i := by rw [eqs_rJ (g1 _ (by omega)), hF.J_ (by simp; omega)]
        rw [e3, g4 i (Nat.le_refl i)]
        refine ih2 _ _ hil ⟨rfl, fun a ha => ?_, fun b j => ?_, fun w hw => ?_, fun w hw => ?_⟩
        · exact (smF.refl (S := [12 + 4 * r]).pJ_ (by simp) _ _ a (by simpa using ha)).trans (g1 a ha)
        · rw [rI_wJ]; exact g2 b j
        · rw [rJ_wJ]
          by_cases q : w = i
          · rw [if_pos ⟨rfl, q⟩, q]
          · rw [if_neg (fun z => q z.2), g3 w (by omega)]
        · rw [rJ_wJ, if_neg (by omega), g4 w (by omega)]
      · rw [if_pos (show (4 : Int32) ≤ nI i from nI_le (a := 4) hig (by omega)), yo_s]
        exact ⟨g1, g2, fun w hw => g3 w (by omega)⟩
    refine loop.bi (fun x hx => ?_)
    obtain ⟨x1, x2, x3⟩ := hx
    rw [yo_s]
    have hro := roT_jp (p := put1 T r2) h'.2.2.2 hW W (Nat.le_refl W)
    obtain ⟨hr4, hru, ⟨⟨q0, q1, q2, q3, q4, q5⟩, q6, q7, q8⟩, _⟩ := h'
    have o : ∀ j, j < 250 → rq (jpT (jcT T r r2 kd k) r (put1 T r2) W) r j = rq (jcT T r r2 kd k) r j := fun j hj => by rw [jpT_rq, if_neg (by omega)]
    refine ⟨⟨hr4, cRu_cong (fun z hz => jpT_out W hW z (by omega)) (hru.moved (fun a h1 h2 => x1 a (by omega))), ⟨⟨by rw [x2, o 0 (by omega)]; exact q0, by rw [x2, o 1 (by omega)]; exact q1, by rw [x2, o 2 (by omega)]; exact q2, by rw [x2, o 3 (by omega)]; exact q3, by rw [x2, o 4 (by omega)]; exact q4, by rw [x2, o 5 (by omega)]; exact q5⟩, fun z l h4 hl => ?_, fun j hj => ?_, fun n hn => ?_⟩, hro⟩, fun a ha => ?_⟩
    · rw [o 0 (by omega)] at z
      rw [o 4 (by omega)] at hl
      rw [x2, o _ (by omega)]
      exact q6 z l h4 hl
    · rw [x2, o _ (by omega)]; exact q7 j hj
    · rw [show 10 + 4 * r + 2 = 12 + 4 * r by omega, x3 _ (by omega), bl_or]
      have hold := q8 n hn
      rw [show 10 + 4 * r + 2 = 12 + 4 * r by omega] at hold
      have hold2 := h2.2.2.1.2.2.2 n hn
      rw [show 10 + 4 * r2 + 2 = 12 + 4 * r2 by omega] at hold2
      rw [hold, hold2, jpT_rq, Nat.add_sub_cancel_left]
      show (decide (rq (jcT T r r2 kd k) r (250 + n) = 1) || put1 T r2 n) = _
      by_cases q : put1 T r2 n = true
      · have hnW : n < W := by
          rcases Nat.lt_or_ge n W with z | z
          · exact z
          · have := h2.2.2.2.2.2.1.2 n z hn
            unfold put1 at q
            rw [this] at q
            exact absurd q (by decide)
        rw [if_pos ⟨by omega, by omega, q⟩, q]
        simp
      · rw [if_neg (fun z => q z.2.2), Bool.eq_false_iff.mpr q, Bool.or_false]
    · rw [x1 a (by simp at ha; omega)]
      exact hF a (by simp at ha ⊢; omega)
theorem ag_join {N : Nat} (hN : 700 ≤ N) (a1 a2 : Int32) (M : Mem) (hR : Rel M) : agI (fX10_join N 0 a1 a2 M) (fX11_join N 140 a1 a2) (fun k Mj1 => if k = 1 then some ((1 : Int32), Mj1) else if k = 2 then some ((2 : Int32), Mj1) else if k = 3 then some ((3 : Int32), Mj1) else none) M := by
  obtain ⟨W, g, m, hS⟩ := hR.1
  rcases rowAt_ok hS a1 with ⟨c1, c2⟩ | ⟨r, hr, rfl, hh, c1, c2⟩
  · refine refI hR (e := 1) 1 ?_ rfl (by decide) ?_
    · unfold fX10_join; rw [c1, xb_l]
    · unfold fX11_join fX11_join_b21
      rw [c2 _ (by rw [w5_141]), Option.bind_some, if_neg (by decide), fails_ok, Option.bind_some, yo_s, wI_wI]
      exact smF.refl
  · rcases rowAt_ok hS a2 with ⟨d1, d2⟩ | ⟨r2, hr2, rfl, hh2, d1, d2⟩
    · refine refI hR (e := 1) 1 ?_ rfl (by decide) ?_
      · unfold fX10_join; rw [c1, xb_r, d1, xb_l]
      · unfold fX11_join fX11_join_b21
        rw [c2 _ (by rw [w5_141]), Option.bind_some, if_pos rfl, d2 _ (by rw [w5_141]), Option.bind_some, if_neg (by decide), fails_ok, Option.bind_some, yo_s, wI_wI]
        exact smF.refl
    · obtain ⟨kd, sz, mk, ex, ly, hc, hr'⟩ := sX hS hr hh
      obtain ⟨kd2, sz2, mk2, ex2, ly2, hc2, hr2'⟩ := sX hS hr2 hh2
      have k5 := hc.2.2.2.2.1
      have k52 := hc2.2.2.2.2.1
      have hm6 : m ≤ 6 := hc.2.1.1.2.2.2.2.2.2.1
      have hW := hc.W1.2.2
      have hkd : (nI kd = nI kd2) ↔ kd = kd2 := nI_eq (by omega) (by omega)
      have hsz : (nI sz = nI sz2) ↔ sz = sz2 := nI_eq (by omega) (by omega)
      have hmk : (nI mk = nI mk2) ↔ mk = mk2 := nI_eq (by omega) (by omega)
      have hcl : fX10_join N 0 (nI r) (nI r2) M = if kd = kd2 ∧ sz = sz2 ∧ mk = mk2 ∧ (kd = 0 ∨ kd = 1) then (if r = r2 then some (.inl 3, M) else (fX5_absorb N (10 + 4 * r) (10 + 4 * r2) M).bind fun qj2 => (fX2_many N (10 + 4 * r + 1) qj2).bind fun qj4 => some (.inr qj4, qj2)) else some (.inl 2, M) := by
        unfold fX10_join fX10_join_b53 fX10_join_b54 fX10_join_b68
        rw [c1, xb_r, d1, xb_r, hc.flds.1, hc2.flds.1, hc.flds.2.1, hc2.flds.2.1, hc.flds.2.2.1, hc2.flds.2.2.1, plain_ok hc, Option.bind_some]
        by_cases q1 : kd = kd2
        · rw [if_pos (hkd.mpr q1)]
          by_cases q2 : sz = sz2
          · rw [if_pos (hsz.mpr q2)]
            by_cases q3 : mk = mk2
            · rw [if_pos (hmk.mpr q3), if_pos rfl]
              by_cases q4 : kd = 0 ∨ kd = 1
              · rw [decide_eq_true q4, if_pos rfl, if_pos (show kd = kd2 ∧ sz = sz2 ∧ mk = mk2 ∧ (kd = 0 ∨ kd = 1) from ⟨q1, q2, q3, q4⟩)]
                by_cases q5 : r = r2
                · rw [if_pos (show nI r = nI r2 from by rw [q5]), if_pos q5]
                · rw [if_neg (ne_l q5 (by omega) (by omega)), if_neg q5]
              · rw [decide_eq_false q4, if_neg (by decide), if_neg (fun z => q4 z.2.2.2)]
            · rw [if_neg (fun z => q3 (hmk.mp z)), if_neg (by decide), if_neg (fun z => q3 z.2.2.1)]
          · rw [if_neg (fun z => q2 (hsz.mp z)), if_neg (by decide), if_neg (fun z => q2 z.2.1)]
        · rw [if_neg (fun z => q1 (hkd.mp z)), if_neg (by decide), if_neg (fun z => q1 z.1)]
      have hrf : ∀ M' : Mem, M' 141 = M 141 → ∀ Q, Yo (if kd = kd2 ∧ sz = sz2 ∧ mk = mk2 ∧ (kd = 0 ∨ kd = 1) then (if r = r2 then some ((0 : Int32), wI M' 140 5 3) else fX11_join_l93 N 140 (nI r) (nI r2) N (10 : Int32) (wI M' 140 5 0)) else some ((0 : Int32), wI M' 140 5 2)) Q → Yo (fX11_join N 140 (nI r) (nI r2) M') Q := by
        intro M' e Q hQ
        have x1 := hr' (wI M' 140 5 0) (by rw [w5_141, e])
        have x2 := hr2' (wI M' 140 5 0) (by rw [w5_141, e])
        unfold fX11_join
        rw [c2 _ (by rw [w5_141, e]), Option.bind_some, if_pos rfl, d2 _ (by rw [w5_141, e]), Option.bind_some, if_pos rfl]
        refine yo_f1 (F := fX11_join_l29 N 140 (nI r) (nI r2) (wI M' 140 5 0)) 3 (fun k v => v = nI k ∧ (1 ≤ k → kd = kd2) ∧ (2 ≤ k → sz = sz2) ∧ (3 ≤ k → mk = mk2)) ?_ N 0 _ (by omega) (by omega) ⟨rfl, fun z => by omega, fun z => by omega, fun z => by omega⟩
        intro f k v hk ⟨hv, g1, g2, g3⟩ ih
        subst hv
        show Yo (fX11_join_l29_s N 140 (nI r) (nI r2) (wI M' 140 5 0) (fX11_join_l29 N 140 (nI r) (nI r2) (wI M' 140 5 0) f) (nI k)) _
        unfold fX11_join_l29_s
        have : k = 0 ∨ k = 1 ∨ k = 2 ∨ k = 3 := by omega
        rcases this with z | z | z | z <;> subst z
        · rw [if_neg (show ¬ (2 : Int32) < nI 0 by decide), show nI 0 = (0 : Int32) from rfl, x1.flds.1, Option.bind_some, x2.flds.1, Option.bind_some]
          refine yo_i (fun y => ih _ (by omega) ⟨rfl, fun _ => hkd.mp y, fun z => by omega, fun z => by omega⟩) (fun y => ?_)
          rw [if_neg (fun z => y (hkd.mpr z.1))] at hQ
          rw [fails_ok, Option.bind_some, wI_wI]
          exact hQ
        · rw [if_neg (show ¬ (2 : Int32) < nI 1 by decide), show nI 1 = (1 : Int32) from rfl, x1.flds.2.1, Option.bind_some, x2.flds.2.1, Option.bind_some]
          refine yo_i (fun y => ih _ (by omega) ⟨rfl, fun _ => g1 (by omega), fun _ => hsz.mp y, fun z => by omega⟩) (fun y => ?_)
          rw [if_neg (fun z => y (hsz.mpr z.2.1))] at hQ
          rw [fails_ok, Option.bind_some, wI_wI]
          exact hQ
        · rw [if_neg (show ¬ (2 : Int32) < nI 2 by decide), show nI 2 = (2 : Int32) from rfl, x1.flds.2.2.1, Option.bind_some, x2.flds.2.2.1, Option.bind_some]
          refine yo_i (fun y => ih _ (by omega) ⟨rfl, fun _ => g1 (by omega), fun _ => g2 (by omega), fun _ => hmk.mp y⟩) (fun y => ?_)
          rw [if_neg (fun z => y (hmk.mpr z.2.2.1))] at hQ
          rw [fails_ok, Option.bind_some, wI_wI]
          exact hQ
        · rw [if_pos (show (2 : Int32) < nI 3 by decide), x1.flds.1, Option.bind_some, counted_ok k5.1, Option.bind_some]
          by_cases q4 : kd = 0 ∨ kd = 1
          · rw [if_pos ⟨g1 (by omega), g2 (by omega), g3 (by omega), q4⟩] at hQ
            rw [decide_eq_true q4, if_pos rfl]
            by_cases q5 : r = r2
            · rw [if_pos q5] at hQ
              rw [if_pos (by rw [q5]), fails_ok, Option.bind_some, wI_wI]
              exact hQ
            · rw [if_neg q5] at hQ
              rw [if_neg (ne_l q5 (by omega) (by omega))]
              exact hQ
          · rw [if_neg (fun z => q4 z.2.2.2)] at hQ
            rw [decide_eq_false q4, if_neg (by decide), fails_ok, Option.bind_some, wI_wI]
            exact hQ
      by_cases hg : kd = kd2 ∧ sz = sz2 ∧ mk = mk2 ∧ (kd = 0 ∨ kd = 1)
      · rw [if_pos hg] at hcl
        by_cases q5 : r = r2
        · rw [if_pos q5] at hcl
          refine refI hR (e := 3) 3 hcl rfl (by decide) ?_
          refine hrf M rfl _ ?_
          rw [if_pos hg, if_pos q5, yo_s]
          exact smF.refl
        · rw [if_neg q5] at hcl
          obtain ⟨e1, e2, e3, hk⟩ := hg
          subst e1 e2 e3
          obtain ⟨x, x1, x2, x3⟩ := c_absorb hN hc hc2 hk q5
          refine Or.inr ⟨nI (manyT (jpT (jcT (M 141).1 r r2 kd sz) r (put1 (M 141).1 r2) W) r), x, ?_, ?_⟩
          · rw [hcl, x1, Option.bind_some, x2.many hN, Option.bind_some]
          · have e141 : x 141 = M 141 := x3 141 (by simp; omega)
            generalize hans : (nI (manyT (jpT (jcT (M 141).1 r r2 kd sz) r (put1 (M 141).1 r2) W) r)).toInt64 = ans
            have eM' : (wJ x 165 0 ans) 141 = M 141 := by rw [wJ_165 141 (by omega), e141]
            have hX0 := hr' (wI (wJ x 165 0 ans) 140 5 0) (by rw [w5_141, eM'])
            refine hrf (wJ x 165 0 ans) eM' _ ?_
            rw [if_pos ⟨rfl, rfl, rfl, hk⟩, if_neg q5]
            have l2 : ∀ M3 : Mem, rX M3 (jcT (M 141).1 r r2 kd sz) r W g m kd sz mk ex ly → smF (141 :: scrR) (wI (wJ x 165 0 ans) 140 5 0) M3 → Yo (fX11_join_l137 N 140 (nI r) (nI r2) N (0 : Int32) M3) (fun y => y.1 = nI (manyT (jpT (jcT (M 141).1 r r2 kd sz) r (put1 (M 141).1 r2) W) r) ∧ rX y.2 (jpT (jcT (M 141).1 r r2 kd sz) r (put1 (M 141).1 r2) W) r W g m kd sz mk ex ly ∧ smF (141 :: scrR) (wI (wJ x 165 0 ans) 140 5 0) y.2) := by
              intro M3 hx3 hF3
              refine yo_f2 (F := fX11_join_l137 N 140 (nI r) (nI r2)) W (fun k v M4 => v = nI k ∧ rX M4 (jpT (jcT (M 141).1 r r2 kd sz) r (put1 (M 141).1 r2) k) r W g m kd sz mk ex ly ∧ smF (141 :: scrR) (wI (wJ x 165 0 ans) 140 5 0) M4) ?_ N 0 _ _ (by omega) (by omega) ⟨rfl, hx3, hF3⟩
              intro f k v M4 hkk ⟨hv, hx4, hF4⟩ ih
              subst hv
              show Yo (fX11_join_l137_s N 140 (nI r) (nI r2) (fX11_join_l137 N 140 (nI r) (nI r2) f) (nI k) M4) _
              unfold fX11_join_l137_s fX11_join_b167
              rw [if_pos (by decide), show rI M4 (140 + 1) (1 : Int32).toNatClampNeg = nI W from hx4.W1.1]
              have st : jpT (jcT (M 141).1 r r2 kd sz) r (put1 (M 141).1 r2) (k + 1) = if put1 (M 141).1 r2 k = true then setT (jpT (jcT (M 141).1 r r2 kd sz) r (put1 (M 141).1 r2) k) r (250 + k) 1 else jpT (jcT (M 141).1 r r2 kd sz) r (put1 (M 141).1 r2) k := rfl
              rcases Nat.lt_or_ge k W with hlt | hge
              · have ep : rq (jpT (jcT (M 141).1 r r2 kd sz) r (put1 (M 141).1 r2) k) r2 (250 + k) = rq (M 141).1 r2 (250 + k) := by
                  have := jcT_rq2 (T := (M 141).1) (kd := kd) q5 sz (by omega) (250 + k) (by omega)
                  rw [← this]
                  exact jpT_out k (by omega) _ (by omega)
                rw [if_neg (nI_ge hlt (by omega)), isIn_ok hr2 (by omega), Option.bind_some, hx4.2.1, ep, nI_1]
                show Yo (if put1 (M 141).1 r2 k = true then _ else _) _
                by_cases q : put1 (M 141).1 r2 k = true
                · rw [if_pos q] at st ⊢
                  rw [li_250, nI_add, set_ok _ _ (by omega), Option.bind_some]
                  exact ih _ _ hlt ⟨rfl, by rw [st]; exact rX_set hx4 (roT_put hx4.2.2.2 (by omega) (Or.inr ⟨rfl, hlt⟩)), hF4.pI_ (by simp) _ _⟩
                · rw [if_neg q] at st ⊢
                  exact ih _ _ hlt ⟨rfl, by rw [st]; exact hx4, hF4⟩
              · have ek : k = W := by omega
                subst ek
                rw [if_pos (nI_le hge (by omega)), hx4.many hN, Option.bind_some, yo_s]
                exact ⟨rfl, hx4, hF4⟩
            refine (yo_f2 (F := fX11_join_l93 N 140 (nI r) (nI r2)) (Q := fun y => y.1 = nI (manyT (jpT (jcT (M 141).1 r r2 kd sz) r (put1 (M 141).1 r2) W) r) ∧ rX y.2 (jpT (jcT (M 141).1 r r2 kd sz) r (put1 (M 141).1 r2) W) r W g m kd sz mk ex ly ∧ smF (141 :: scrR) (wI (wJ x 165 0 ans) 140 5 0) y.2) sz (fun k v M4 => v = nI (10 + k) ∧ rX M4 (jcT (M 141).1 r r2 kd k) r W g m kd sz mk ex ly ∧ smF (141 :: scrR) (wI (wJ x 165 0 ans) 140 5 0) M4) ?_ N 0 _ _ (by omega) (by omega) ⟨rfl, hX0, smF.refl⟩).to (fun y hy => ?_)
            · intro f k v M4 hkk ⟨hv, hx4, hF4⟩ ih
              subst hv
              show Yo (fX11_join_l93_s N 140 (nI r) (nI r2) (fX11_join_l93 N 140 (nI r) (nI r2) f) (nI (10 + k)) M4) _
              unfold fX11_join_l93_s
              rw [hx4.flds.2.1, Option.bind_some, li_10, nI_add]
              rcases Nat.lt_or_ge k sz with hlt | hge
              · have e2 : fX11_get 140 (nI r2) (nI (10 + k)) M4 = some (rq (M 141).1 r2 (10 + k)) := by
                  rw [get_ok M4 (by omega), hx4.2.1, jcT_rq2 q5 k (by omega) _ (by omega)]
                obtain ⟨t1, _⟩ := tog_ok hx4.2.2.2 hc2.2.2.2 hk (show k < 240 by omega) (show k < 240 by omega) k
                rw [if_neg (nI_ge (by omega) (by omega)), hx4.cell (by omega), Option.bind_some, e2, Option.bind_some, together_ok hx4, Option.bind_some, set_ok _ _ (by omega), Option.bind_some, nI_1]
                exact ih _ _ hlt ⟨rfl, rX_set hx4 (roT_cell hx4.2.2.2 (by omega) t1), hF4.pI_ (by simp) _ _⟩
              · have ek : k = sz := by omega
                subst ek
                rw [if_pos (nI_le (by omega) (by omega))]
                exact l2 M4 hx4 hF4
            · obtain ⟨z1, z2, z3⟩ := row_endT hR hS hr hh.1 x2 (x3.mono (fun a ha => by simp at ha ⊢; rcases ha with h | h <;> simp [h])) (x3.I_ (by simp) 0) hy.2.1 hy.2.2 (fun z hz => by rw [jpT_out W hW z hz]; exact jcT_out _ (by omega) z hz)
              exact ⟨hy.1, z1, z2, z3⟩
      · rw [if_neg hg] at hcl
        refine refI hR (e := 2) 2 hcl rfl (by decide) ?_
        refine hrf M rfl _ ?_
        rw [if_neg hg, yo_s]
        exact smF.refl
