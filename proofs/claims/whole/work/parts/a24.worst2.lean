/-! SEMANTICS: worst, the reference; worst in step -/
theorem r_bitRow {T : Nat → Int32} {r W m sz mk ex ly k : Nat} (h : roT T r W m 0 sz mk ex ly) (hk : k < 64) : rowV T r sz k = (decide (k < sz) && decide (rq T r (10 + k) = 1)) := by
  unfold rowV
  rcases h.2.2.2.1.1 (Or.inl rfl) k (by omega) with e | e
  · rw [e]; simp
  · rw [e]; simp
theorem r_liesWith {N : Nat} (hN : 700 ≤ N) {M : Mem} {T : Nat → Int32} {r W g m sz mk ex ly n : Nat} (hx : rX M T r W g m 0 sz mk ex ly) (hn : n < W) :
    Yo (fX11_liesWith N 140 (nI r) (nI n) M) (fun x => x.1 = nI (lwU T r mk sz W n) ∧ smF [147, 155] M x.2) := by
  have hr := hx.1
  have hW : W ≤ 256 := hx.2.2.1.2.1
  have hm : mk ≤ m := hx.2.2.2.2.1.2.2.2.2.2.1
  have hm6 : m ≤ 6 := hx.2.2.1.2.2.2.2.2.2.1
  have hs := hx.2.2.2.2.1.2.1
  have hs2 := hx.2.2.2.2.1.2.2.1
  unfold fX11_liesWith
  refine yo_f2 (F := fX11_liesWith_l2 N 140 (nI r) (nI n)) 64 (fun k v M2 => v = nI k ∧ smF [155] M M2 ∧ ∀ q, q < k → rI M2 155 q = (if rowV T r sz q = true then 1 else 0)) ?_ N 0 _ _ (by omega) (by omega) ⟨rfl, smF.refl, fun q hq => absurd hq (Nat.not_lt_zero q)⟩
  intro f k v M2 hk ⟨hv, g1, g2⟩ ih
  subst hv
  show Yo (fX11_liesWith_l2_s N 140 (nI r) (nI n) (fX11_liesWith_l2 N 140 (nI r) (nI n) f) (nI k) M2) _
  unfold fX11_liesWith_l2_s fX11_liesWith_b40
  have hx2 : rX M2 T r W g m 0 sz mk ex ly := hx.mv (g1 141 (by decide))
  rcases Nat.lt_or_ge k 64 with hlt | hge
  · have go : ∀ b : Bool, rowV T r sz k = b → Yo (fX11_liesWith_b41 N (fX11_liesWith_l2 N 140 (nI r) (nI n) f) 140 (nI r) (nI n) (nI k) b (nI k) 155 M2) (fun x => x.1 = nI (lwU T r mk sz W n) ∧ smF [147, 155] M x.2) := fun b hb => by
      unfold fX11_liesWith_b41
      rw [if_pos (inB_nI hlt (by decide)), nI_clamp (by omega), bI_nar, nI_1]
      refine ih _ _ hlt ⟨rfl, g1.pI_ (by decide) _ _, fun q hq => ?_⟩
      rw [rI_wI]
      by_cases e : q = k
      · rw [if_pos ⟨rfl, e⟩, e, hb]
      · rw [if_neg (fun z => e z.2)]; exact g2 q (by omega)
    rw [if_neg (show ¬ (64 : Int32) ≤ nI k from nI_ge (b := 64) hlt (by decide)), hx2.flds.2.1, Option.bind_some]
    have hrow := r_bitRow hx.2.2.2 hlt
    rcases Nat.lt_or_ge k sz with h1 | h1
    · rw [if_neg (nI_ge h1 (by omega)), gcell hr (by omega), Option.bind_some, hx2.2.1]
      rw [decide_eq_true h1, Bool.true_and] at hrow
      by_cases q : rq T r (10 + k) = 1
      · rw [if_pos q]; exact go true (by rw [hrow, decide_eq_true q])
      · rw [if_neg q]; exact go false (by rw [hrow, decide_eq_false q])
    · rw [if_pos (nI_le h1 (by omega))]
      exact go false (by rw [hrow, decide_eq_false (by omega), Bool.false_and])
  · rw [if_pos (show (64 : Int32) ≤ nI k from nI_le (a := 64) hge (by omega))]
    refine yo_f2 (F := fX11_liesWith_l50 N 140 (nI r) (nI n)) mk (fun w v M3 => v = nI w ∧ smF [147, 155] M M3 ∧ ∀ q, q < 64 → rI M3 155 q = (if (rowV T r sz q || plcB T w sz n q) = true then 1 else 0)) ?_ N 0 _ _ (by omega) (by omega) ⟨rfl, g1.mono (by decide), fun q hq => ?_⟩
    · intro f2 w v M3 hw ⟨hv, j1, j2⟩ ih2
      subst hv
      show Yo (fX11_liesWith_l50_s N 140 (nI r) (nI n) (fX11_liesWith_l50 N 140 (nI r) (nI n) f2) (nI w) M3) _
      unfold fX11_liesWith_l50_s
      have hx3 : rX M3 T r W g m 0 sz mk ex ly := hx.mv (j1 141 (by decide))
      rw [hx3.flds.2.2.1, Option.bind_some]
      rcases Nat.lt_or_ge w mk with hwl | hwg
      · rw [if_neg (nI_ge hwl (by omega))]
        refine (rspot (w := w) (name := nI n) hN hx3 (by omega)).bi (fun x hx4 => ?_)
        have hpl := plT_lt (T := T) (w := w) (name := nI n) hs
        rw [hx4.1, if_pos (inB_nI (by omega) (by decide)), nI_clamp (by omega), nI_1, show (140 + 15 : Nat) = 155 from rfl]
        refine ih2 _ _ hwl ⟨rfl, (j1.trans (hx4.2.mono (by decide))).pI_ (by decide) _ _, fun q hq => ?_⟩
        rw [rI_wI, hx4.2.I_ (by decide), j2 q hq]
        have hpc : plcB T (w + 1) sz n q = (plcB T w sz n q || bo (plT T w (nI n) sz = q)) := bo_s (P := fun w => plT T w (nI n) sz = q)
        rw [hpc]
        by_cases q2 : q = plT T w (nI n) sz
        · rw [if_pos ⟨rfl, q2⟩, bo_t q2.symm, Bool.or_true, Bool.or_true]
          rfl
        · rw [if_neg (fun z => q2 z.2), bo_f (fun z => q2 z.symm), Bool.or_false]
      · have ew : w = mk := by omega
        subst ew
        rw [if_pos (nI_le hwg (by omega))]
        unfold lwU
        generalize hP : lwB T w sz (fun q => rowV T r sz q || plcB T w sz n q) (fun k => decide (k = n)) (setS T r W) = P
        refine yo_f3 (F := fX11_liesWith_l84 N 140 (nI r) (nI n)) W (fun j a v M4 => v = nI j ∧ a = nI (cnt P j) ∧ smF [147] M3 M4) ?_ N 0 _ _ _ (by omega) (by omega) ⟨rfl, rfl, smF.refl⟩
        intro f3 j a v M4 hj ⟨hv, ha, i1⟩ ih3
        subst hv ha
        show Yo (fX11_liesWith_l84_s N 140 (nI r) (nI n) (fX11_liesWith_l84 N 140 (nI r) (nI n) f3) (nI (cnt P j)) (nI j) M4) _
        unfold fX11_liesWith_l84_s fX11_liesWith_b137 fX11_liesWith_b138
        have hF4 : smF [147, 155] M M4 := j1.trans (i1.mono (by decide))
        have hx4 : rX M4 T r W g m 0 sz w ex ly := hx.mv (hF4 141 (by decide))
        rw [if_pos (by decide), rworld hx4]
        rcases Nat.lt_or_ge j W with hjl | hjg
        · have hsj : cnt P (j + 1) = cnt P j + if P j = true then 1 else 0 := rfl
          have hval : nI (cnt P j) + bI (P j) = nI (cnt P (j + 1)) := by rw [hsj]; exact bI_add _ _
          have hPj : P j = (sayV T w sz (fun q => rowV T r sz q || plcB T w sz n q) j && !(decide (j = n) || setS T r W j)) := by rw [← hP]; rfl
          have yes : ∀ M5, smF [147] M3 M5 → P j = true → Yo (fX11_liesWith_l84 N 140 (nI r) (nI n) f3 (nI (cnt P j) + bI true) (nI j + 1) M5) (fun x => x.1 = nI (cnt P W) ∧ smF [147, 155] M x.2) := fun M5 hM5 z => by
            rw [z] at hval
            rw [hval, nI_1]
            exact ih3 _ _ _ hjl ⟨rfl, rfl, hM5⟩
          have no : ∀ M5, smF [147] M3 M5 → P j = false → Yo (fX11_liesWith_l84 N 140 (nI r) (nI n) f3 (nI (cnt P j) + bI false) (nI j + 1) M5) (fun x => x.1 = nI (cnt P W) ∧ smF [147, 155] M x.2) := fun M5 hM5 z => by
            rw [z] at hval
            rw [hval, nI_1]
            exact ih3 _ _ _ hjl ⟨rfl, rfl, hM5⟩
          rw [if_neg (nI_ge hjl (by omega))]
          by_cases q : j = n
          · rw [if_pos (by rw [q])]
            exact no M4 i1 (by rw [hPj, decide_eq_true q]; simp)
          · rw [if_neg (fun z => q ((nI_eq (by omega) (by omega)).mp z)), isIn_ok hr (by omega), Option.bind_some, hx4.2.1, ← setS_lt hjl]
            cases e : setS T r W j with
            | true =>
              rw [if_pos rfl]
              exact no M4 i1 (by rw [hPj, e]; simp)
            | false =>
              rw [if_neg (by decide), hx4.flds.2.1, Option.bind_some, hx4.flds.2.2.1, Option.bind_some]
              refine (r_isSaid (n := j) (sz := sz) (V := fun q => rowV T r sz q || plcB T w sz n q) hN hx4 hs hs2 (fun q hq => by rw [i1.I_ (by decide)]; exact j2 q hq)).bi (fun x hx5 => ?_)
              have hsay : x.1 = sayV T w sz (fun q => rowV T r sz q || plcB T w sz n q) j := hx5.1
              cases e2 : sayV T w sz (fun q => rowV T r sz q || plcB T w sz n q) j with
              | true =>
                rw [hsay, e2, if_pos rfl]
                exact yes x.2 (i1.trans hx5.2) (by rw [hPj, e2, e, decide_eq_false q]; rfl)
              | false =>
                rw [hsay, e2, if_neg (by decide)]
                exact no x.2 (i1.trans hx5.2) (by rw [hPj, e2]; rfl)
        · have ej : j = W := by omega
          subst ej
          rw [if_pos (nI_le hjg (by omega)), yo_s]
          exact ⟨rfl, hF4⟩
    · rw [g2 q (by omega)]
      have : plcB T 0 sz n q = false := bo_f (fun ⟨w, hw, _⟩ => absurd hw (Nat.not_lt_zero w))
      rw [this, Bool.or_false]
theorem r_worst {N : Nat} (hN : 700 ≤ N) {M : Mem} {T : Nat → Int32} {r W g m sz mk ex ly : Nat} {what : Int32} (hx : rX M T r W g m 0 sz mk ex ly) :
    Yo (fX11_worst_l61 N 140 (nI r) what N (-1 : Int32) (-1 : Int32) (0 : Int32) M) (fun x => x.1 = (if what = 0 then bqI (bqF (lwU T r mk sz W) (setS T r W) W) else bqU (lwU T r mk sz W) (bqF (lwU T r mk sz W) (setS T r W) W)) ∧ smF [147, 155] M x.2) := by
  have hr := hx.1
  have hW : W ≤ 256 := hx.2.2.1.2.1
  have hle : ∀ n, lwU T r mk sz W n ≤ 256 := fun n => Nat.le_trans (cnt_le _ _) hW
  refine yo_f4 (F := fX11_worst_l61 N 140 (nI r) what) W (fun k a b v M2 => v = nI k ∧ a = bqI (bqF (lwU T r mk sz W) (setS T r W) k) ∧ b = bqU (lwU T r mk sz W) (bqF (lwU T r mk sz W) (setS T r W) k) ∧ smF [147, 155] M M2) ?_ N 0 _ _ _ _ (by omega) (by omega) ⟨rfl, rfl, rfl, smF.refl⟩
  intro f k a b v M2 hk ⟨hv, ha, hb, g1⟩ ih
  subst hv ha hb
  show Yo (fX11_worst_l61_s N 140 (nI r) what (fX11_worst_l61 N 140 (nI r) what f) _ _ (nI k) M2) _
  unfold fX11_worst_l61_s fX11_worst_b111
  have hx2 : rX M2 T r W g m 0 sz mk ex ly := hx.mv (g1 141 (by decide))
  rw [if_pos (by decide), rworld hx2]
  rcases Nat.lt_or_ge k W with hlt | hge
  · have hst : bqF (lwU T r mk sz W) (setS T r W) (k + 1) = if setS T r W k = true then bqF (lwU T r mk sz W) (setS T r W) k else match bqF (lwU T r mk sz W) (setS T r W) k with | none => some k | some b => if lwU T r mk sz W k ≤ lwU T r mk sz W b then some b else some k := rfl
    rw [if_neg (nI_ge hlt (by omega)), isIn_ok hr (by omega), Option.bind_some, hx2.2.1, ← setS_lt hlt, nI_1]
    cases e : setS T r W k with
    | true =>
      rw [if_pos rfl]
      rw [e, if_pos rfl] at hst
      exact ih _ _ _ _ hlt ⟨rfl, by rw [hst], by rw [hst], g1⟩
    | false =>
      rw [e, if_neg (by decide)] at hst
      rw [if_neg (by decide)]
      refine (r_liesWith hN hx2 hlt).bi (fun x hx4 => ?_)
      have hF := g1.trans hx4.2
      have hk1 := hle k
      rw [hx4.1]
      cases e2 : bqF (lwU T r mk sz W) (setS T r W) k with
      | none =>
        rw [e2] at hst
        have hst : bqF (lwU T r mk sz W) (setS T r W) (k + 1) = some k := hst
        have : bqU (lwU T r mk sz W) none < nI (lwU T r mk sz W k) := by
          show (-1 : Int32) < nI (lwU T r mk sz W k)
          rw [Int32.lt_iff_toInt_lt, nI_toInt (by omega), show (-1 : Int32).toInt = -1 from by decide]
          omega
        rw [if_pos this]
        exact ih _ _ _ _ hlt ⟨rfl, by rw [hst]; rfl, by rw [hst]; rfl, hF⟩
      | some b =>
        rw [e2] at hst
        have hst : bqF (lwU T r mk sz W) (setS T r W) (k + 1) = if lwU T r mk sz W k ≤ lwU T r mk sz W b then some b else some k := hst
        have hb1 := hle b
        have hiff : (bqU (lwU T r mk sz W) (some b) < nI (lwU T r mk sz W k)) ↔ lwU T r mk sz W b < lwU T r mk sz W k := by
          show nI (lwU T r mk sz W b) < nI (lwU T r mk sz W k) ↔ _
          rw [Int32.lt_iff_toInt_lt, nI_toInt (by omega), nI_toInt (by omega)]
          omega
        by_cases q : lwU T r mk sz W k ≤ lwU T r mk sz W b
        · rw [if_neg (fun z => by have := hiff.mp z; omega)]
          rw [if_pos q] at hst
          exact ih _ _ _ _ hlt ⟨rfl, by rw [hst], by rw [hst], hF⟩
        · rw [if_pos (hiff.mpr (by omega))]
          rw [if_neg q] at hst
          exact ih _ _ _ _ hlt ⟨rfl, by rw [hst]; rfl, by rw [hst]; rfl, hF⟩
  · have e : k = W := by omega
    subst e
    rw [if_pos (nI_le hge (by omega))]
    refine yo_i (fun z => ?_) (fun z => ?_)
    · rw [if_pos z, yo_s]; exact ⟨rfl, g1⟩
    · rw [if_neg z, yo_s]; exact ⟨rfl, g1⟩
theorem c_what1 (v : Int32) (M : Mem) : fX10_needWhat v (1 : Int32) M = if 0 ≤ v.toInt ∧ v.toInt ≤ 1 then some (.inr (), M) else some (.inl 3, M) := by
  unfold fX10_needWhat fX10_needWhat_b9
  have w0 : (0 : Int32).toInt = 0 := rfl
  have w2 : (1 : Int32).toInt = 1 := rfl
  by_cases z : v < 0
  · rw [if_pos z, if_neg]
    rw [Int32.lt_iff_toInt_lt, w0] at z
    omega
  · rw [if_neg z]
    rw [Int32.lt_iff_toInt_lt, w0] at z
    by_cases z2 : v ≤ 1
    · rw [if_pos z2, if_pos]
      rw [Int32.le_iff_toInt_le, w2] at z2
      omega
    · rw [if_neg z2, if_neg]
      rw [Int32.le_iff_toInt_le, w2] at z2
      omega
theorem ag_worst {N : Nat} (hN : 700 ≤ N) (a1 a2 : Int32) (M : Mem) (hR : Rel M) : agI (fX10_worst N 0 a1 a2 M) (fX11_worst N 140 a1 a2) (fun k Mj1 => if k = 1 then some ((1 : Int32), Mj1) else if k = 2 then some ((2 : Int32), Mj1) else if k = 3 then some ((3 : Int32), Mj1) else none) M := by
  obtain ⟨W, g, m, hS⟩ := hR.1
  rcases rowAt_ok hS a1 with ⟨c1, c2⟩ | ⟨r, hr, rfl, hh, c1, c2⟩
  · refine refI hR (e := 1) 1 ?_ rfl (by decide) ?_
    · unfold fX10_worst; rw [c1, xb_l]
    · unfold fX11_worst fX11_worst_b41
      rw [c2 M rfl, Option.bind_some, if_neg (by decide), w5_5, if_neg (by decide), yo_s]
      exact smF.refl
  · obtain ⟨kd, sz, mk, ex, ly, hc, hr'⟩ := sX hS hr hh
    have hk4 := hc.2.2.2.2.1.1
    have hrf : ∀ M' : Mem, M' 141 = M 141 → fX11_worst N 140 (nI r) a2 M' = if kd = 0 then if 0 ≤ a2.toInt ∧ a2.toInt ≤ 1 then fX11_worst_l61 N 140 (nI r) a2 N (-1 : Int32) (-1 : Int32) (0 : Int32) (wI M' 140 5 0) else some (0, wI M' 140 5 3) else some (0, wI M' 140 5 2) := fun M' e => by
      unfold fX11_worst fX11_worst_b41
      rw [c2 M' (by rw [e]), Option.bind_some, if_pos rfl, (hr' M' e).flds.1, Option.bind_some, w5_5, w5_5, w5_5, if_neg (show ¬ (3 : Int32) ≤ 0 by decide), if_neg (show ¬ (2 : Int32) ≤ 0 by decide), if_pos (show (0 : Int32) ≤ 0 by decide), within_v a2 0 1 0 1 lj_toInt.1 lj_toInt.2.1, Option.bind_some]
      by_cases k0 : kd = 0
      · rw [if_pos (show nI kd = (0 : Int32) from by rw [k0]; rfl), if_pos k0]
        by_cases z : 0 ≤ a2.toInt ∧ a2.toInt ≤ 1
        · rw [decide_eq_true z, if_pos rfl, if_pos z]
        · rw [decide_eq_false z, if_neg (by decide), if_neg z]
      · rw [if_neg (show ¬ nI kd = (0 : Int32) from nI_ne0 (by omega) (by omega)), if_neg k0]
    by_cases k0 : kd = 0
    · subst k0
      have hnk : fX10_needKind (10 + 4 * r) (0 : Int32) M = some (.inr (), M) := by
        unfold fX10_needKind
        rw [hc.flds.1, if_pos (show nI 0 = (0 : Int32) from rfl)]
      have hcl : fX10_worst N 0 (nI r) a2 M = xb (if 0 ≤ a2.toInt ∧ a2.toInt ≤ 1 then some (.inr (), M) else some (.inl 3, M)) fun qj3 Mj3 => (fX0_findWorst N 130 (10 + 4 * r) 2 Mj3).bind fun qj7 => if qj7.1 = true then if a2 = 0 then some (.inr (rI qj7.2 130 0), qj7.2) else some (.inr (rI qj7.2 130 1), qj7.2) else some (.inr (-1 : Int32), qj7.2) := by
        unfold fX10_worst
        rw [c1, xb_r, hnk, xb_r, c_what1]
      by_cases z : 0 ≤ a2.toInt ∧ a2.toInt ≤ 1
      · rw [if_pos z, xb_r] at hcl
        refine askI hR (if a2 = 0 then bqI (bqF (lwU (M 141).1 r mk sz W) (setS (M 141).1 r W) W) else bqU (lwU (M 141).1 r mk sz W) (bqF (lwU (M 141).1 r mk sz W) (setS (M 141).1 r W) W)) ?_ (fun M' hM' => ?_)
        · rw [hcl]
          refine (c_worst hN hc).bi (fun x hx => ?_)
          obtain ⟨x1, x2, x3, x4⟩ := hx
          rw [x1, x2, x3]
          cases e : bqF (lwU (M 141).1 r mk sz W) (setS (M 141).1 r W) W with
          | none =>
            rw [if_neg (show ¬ ((none : Option Nat).isSome = true) by decide), yo_s]
            refine ⟨?_, x4.mono (by decide)⟩
            by_cases y : a2 = 0
            · rw [if_pos y]; rfl
            · rw [if_neg y]; rfl
          | some b =>
            rw [if_pos (show (some b).isSome = true from rfl)]
            refine yo_i (fun y => ?_) (fun y => ?_)
            · rw [if_pos y, yo_s]; exact ⟨rfl, x4.mono (by decide)⟩
            · rw [if_neg y, yo_s]; exact ⟨rfl, x4.mono (by decide)⟩
        · rw [hrf M' (hM' 141 (by decide)), if_pos rfl, if_pos z]
          exact (r_worst hN (hr' _ (by rw [w5_141, hM' 141 (by decide)]))).to (fun x hx => ⟨hx.1, hx.2.mono (by decide)⟩)
      · refine refI hR (e := 3) 3 ?_ rfl (by decide) ?_
        · rw [hcl, if_neg z, xb_l]
        · rw [hrf M rfl, if_pos rfl, if_neg z, yo_s]
          exact smF.refl
    · have hnk : fX10_needKind (10 + 4 * r) (0 : Int32) M = some (.inl 2, M) := by
        unfold fX10_needKind
        rw [hc.flds.1, if_neg (show ¬ nI kd = (0 : Int32) from nI_ne0 (by omega) (by omega))]
      refine refI hR (e := 2) 2 ?_ rfl (by decide) ?_
      · unfold fX10_worst; rw [c1, xb_r, hnk, xb_l]
      · rw [hrf M rfl, if_neg k0, yo_s]
        exact smF.refl
