/-! SEMANTICS: learn and ask -/
theorem r_learns {N : Nat} (hN : 700 ≤ N) {M : Mem} {T : Nat → Int32} {r W g m sz mk ex ly t ma : Nat} {p : Nat → Nat} (hx : rX M T r W g m 0 sz mk ex ly) (ht : t < 4) (hma : ma ≤ 40) (e1 : rI M 163 t = nI ma) (hp : ∀ j, j < ma → (rJ M 164 (40 * t + j)).toInt32 = nI (p j) ∧ p j < W) :
    Yo (fX11_learns N 140 (nI r) (nI t) M) (fun x => (∀ q, q < 64 → rI x 159 q = (if knwB T r mk sz p ma q = true then 1 else 0)) ∧ rN x 160 W (askB' p ma) ∧ smF [147, 159, 160] M x) := by
  have hr := hx.1
  have hW : W ≤ 256 := hx.2.2.1.2.1
  have hm : mk ≤ m := hx.2.2.2.2.1.2.2.2.2.2.1
  have hm6 : m ≤ 6 := hx.2.2.1.2.2.2.2.2.2.1
  have hs := hx.2.2.2.2.1.2.1
  have hs2 := hx.2.2.2.2.1.2.2.1
  have hly : ly = 1 := hx.2.2.2.2.1.2.2.2.2.2.2.2.2.2.2.2.2.2 (by decide)
  unfold fX11_learns
  refine yo_f2 (F := fX11_learns_l2 N 140 (nI r) (nI t)) 64 (fun k v M2 => v = nI k ∧ smF [159] M M2 ∧ ∀ q, q < k → rI M2 159 q = 0) ?_ N 0 _ _ (by omega) (by omega) ⟨rfl, smF.refl, fun q hq => absurd hq (Nat.not_lt_zero q)⟩
  intro f k v M2 hk ⟨hv, g1, g2⟩ ih
  subst hv
  show Yo (fX11_learns_l2_s N 140 (nI r) (nI t) (fX11_learns_l2 N 140 (nI r) (nI t) f) (nI k) M2) _
  unfold fX11_learns_l2_s
  rcases Nat.lt_or_ge k 64 with hlt | hge
  · rw [if_neg (show ¬ (64 : Int32) ≤ nI k from nI_ge (b := 64) hlt (by decide)), if_pos (inB_nI hlt (by decide)), nI_clamp (by omega), nI_1]
    refine ih _ _ hlt ⟨rfl, g1.pI_ (by simp) _ _, fun q hq => ?_⟩
    rw [show (140 + 19 : Nat) = 159 from rfl, rI_wI]
    by_cases e : q = k
    · rw [if_pos ⟨rfl, e⟩]; rfl
    · rw [if_neg (fun z => e z.2)]; exact g2 q (by omega)
  · rw [if_pos (show (64 : Int32) ≤ nI k from nI_le (a := 64) hge (by omega))]
    refine yo_f2 (F := fX11_learns_l23 N 140 (nI r) (nI t)) W (fun n v M3 => v = nI n ∧ smF [159, 160] M M3 ∧ (∀ q, q < 64 → rI M3 159 q = 0) ∧ rN M3 160 n (fun _ => false)) ?_ N 0 _ _ (by omega) (by omega) ⟨rfl, g1.mono (by decide), fun q hq => g2 q (by omega), fun n hn => absurd hn (Nat.not_lt_zero n)⟩
    intro f2 n v M3 hn ⟨hv, j1, j2, j3⟩ ih2
    subst hv
    show Yo (fX11_learns_l23_s N 140 (nI r) (nI t) (fX11_learns_l23 N 140 (nI r) (nI t) f2) (nI n) M3) _
    unfold fX11_learns_l23_s
    rw [if_pos (by decide), rworld (hx.mv (j1 141 (by decide)))]
    rcases Nat.lt_or_ge n W with hlt | hge2
    · rw [if_neg (nI_ge hlt (by omega)), if_pos (inB_nI (show n < 256 by omega) (by decide)), nI_clamp (by omega), nI_1, show (140 + 20 : Nat) = 160 from rfl]
      refine ih2 _ _ hlt ⟨rfl, j1.pI_ (by decide) _ _, fun q hq => by rw [rI_wI, if_neg (by omega)]; exact j2 q hq, fun i hi => ?_⟩
      rw [rI_wI]
      by_cases e : i = n
      · rw [if_pos ⟨rfl, e⟩]; rfl
      · rw [if_neg (fun z => e z.2)]; exact j3 i (by omega)
    · have en : n = W := by omega
      subst en
      rw [if_pos (nI_le hge2 (by omega))]
      refine yo_f2 (F := fX11_learns_l48 N 140 (nI r) (nI t)) ma (fun j v M4 => v = nI j ∧ smF [147, 159, 160] M M4 ∧ (∀ q, q < 64 → rI M4 159 q = (if knwB T r mk sz p j q = true then 1 else 0)) ∧ rN M4 160 n (askB' p j)) ?_ N 0 _ _ (by omega) (by omega) ⟨rfl, j1.mono (by decide), fun q hq => ?_, by rw [askB_0]; exact j3⟩
      · intro f3 j v M4 hj ⟨hv, i1, i2, i3⟩ ih3
        subst hv
        show Yo (fX11_learns_l48_s N 140 (nI r) (nI t) (fX11_learns_l48 N 140 (nI r) (nI t) f3) (nI j) M4) _
        unfold fX11_learns_l48_s
        rw [if_pos (inB_nI ht (by decide)), nI_clamp (by omega), show (140 + 23 : Nat) = 163 from rfl, i1.I_ (by decide), e1]
        rcases Nat.lt_or_ge j ma with hlt | hge3
        · obtain ⟨p1, p2⟩ := hp j hlt
          rw [if_neg (nI_ge hlt (by omega)), inTray_ok ht (by omega), Option.bind_some, i1.J_ (by decide), p1, if_pos (inB_nI (show p j < 256 by omega) (by decide)), nI_clamp (by omega), show (140 + 20 : Nat) = 160 from rfl, show vp_nar FieldType.boolean (1 : Int32) = (if true = true then 1 else 0) from rfl]
          have hA : rN (wI M4 160 (p j) (if true = true then 1 else 0)) 160 n (askB' p (j + 1)) := by rw [askB_uv]; exact rN_set i3
          have hF5 : smF [147, 159, 160] M (wI M4 160 (p j) (if true = true then 1 else 0)) := i1.pI_ (by decide) _ _
          have hK : ∀ q, q < 64 → rI (wI M4 160 (p j) (if true = true then 1 else 0)) 159 q = (if knwB T r mk sz p j q = true then 1 else 0) := fun q hq => by rw [rI_wI, if_neg (by omega)]; exact i2 q hq
          generalize wI M4 160 (p j) (if true = true then 1 else 0) = M5 at *
          refine yo_f2 (F := fX11_learns_l77 N (fX11_learns_l48 N 140 (nI r) (nI t) f3) 140 (nI r) (nI t) (nI j) (nI (p j))) mk (fun w v M6 => v = nI w ∧ smF [147, 159] M5 M6 ∧ (0 < w → sayB T r mk sz (p j) = true) ∧ ∀ q, q < 64 → rI M6 159 q = (if (knwB T r mk sz p j q || plcB T w sz (p j) q) = true then 1 else 0)) ?_ N 0 _ _ (by omega) (by omega) ⟨rfl, smF.refl, fun z => absurd z (Nat.lt_irrefl 0), fun q hq => ?_⟩
          · intro f4 w v M6 hw ⟨hv, l1, l2, l3⟩ ih4
            subst hv
            show Yo (fX11_learns_l77_s N (fX11_learns_l48 N 140 (nI r) (nI t) f3) 140 (nI r) (nI t) (nI j) (nI (p j)) (fX11_learns_l77 N (fX11_learns_l48 N 140 (nI r) (nI t) f3) 140 (nI r) (nI t) (nI j) (nI (p j)) f4) (nI w) M6) _
            unfold fX11_learns_l77_s fX11_learns_b119
            have hF6 : smF [147, 159, 160] M M6 := hF5.trans (l1.mono (by decide))
            have hx6 : rX M6 T r n g m 0 sz mk ex ly := hx.mv (hF6 141 (by decide))
            rw [hx6.flds.2.2.1, Option.bind_some, nI_1, nI_1]
            rcases Nat.lt_or_ge w mk with hwl | hwg
            · rw [if_neg (nI_ge hwl (by omega))]
              refine (r_says hN hx6 p2).bi (fun x hx4 => ?_)
              rw [hx4.1, says0 hly hs]
              cases e : sayB T r mk sz (p j) with
              | true =>
                rw [if_pos rfl]
                refine (rspot (w := w) (name := nI (p j)) hN (hx6.mv (hx4.2 141 (by decide))) (by omega)).bi (fun y hy => ?_)
                have hpl := plT_lt (T := T) (w := w) (name := nI (p j)) hs
                rw [hy.1, if_pos (inB_nI (by omega) (by decide)), nI_clamp (by omega), show (140 + 19 : Nat) = 159 from rfl]
                refine ih4 _ _ hwl ⟨rfl, ((l1.trans (hx4.2.mono (by decide))).trans (hy.2.mono (by decide))).pI_ (by decide) _ _, fun _ => e, fun q hq => ?_⟩
                rw [rI_wI, hy.2.I_ (by decide), hx4.2.I_ (by decide), l3 q hq]
                have hpc : plcB T (w + 1) sz (p j) q = (plcB T w sz (p j) q || bo (plT T w (nI (p j)) sz = q)) := bo_s (P := fun w => plT T w (nI (p j)) sz = q)
                rw [hpc]
                by_cases q2 : q = plT T w (nI (p j)) sz
                · rw [if_pos ⟨rfl, q2⟩, bo_t q2.symm, Bool.or_true, Bool.or_true]
                  rfl
                · rw [if_neg (fun z => q2 z.2), bo_f (fun z => q2 z.symm), Bool.or_false]
              | false =>
                rw [if_neg (by decide)]
                have hw0 : w = 0 := by
                  rcases Nat.eq_zero_or_pos w with h | h
                  · exact h
                  · rw [l2 h] at e; cases e
                subst hw0
                refine ih3 _ _ hlt ⟨rfl, hF6.trans (hx4.2.mono (by decide)), fun q hq => ?_, hA.mv (by rw [hx4.2 160 (by decide), l1 160 (by decide)])⟩
                rw [hx4.2.I_ (by decide), l3 q hq, knwB_s, e, Bool.false_and, Bool.or_false]
                have : plcB T 0 sz (p j) q = false := bo_f (fun ⟨w, hw, _⟩ => absurd hw (Nat.not_lt_zero w))
                rw [this, Bool.or_false]
            · have ew : w = mk := by omega
              subst ew
              have hsay : sayB T r w sz (p j) = true := l2 (by have := hx.2.2.2.2.1.2.2.2.2.1; omega)
              rw [if_pos (nI_le hwg (by omega))]
              refine ih3 _ _ hlt ⟨rfl, hF6, fun q hq => ?_, hA.mv (l1 160 (by decide))⟩
              rw [l3 q hq, knwB_s, hsay, Bool.true_and]
          · rw [hK q hq]
            have : plcB T 0 sz (p j) q = false := bo_f (fun ⟨w, hw, _⟩ => absurd hw (Nat.not_lt_zero w))
            rw [this, Bool.or_false]
        · have ej : j = ma := by omega
          subst ej
          rw [if_pos (nI_le hge3 (by omega)), yo_s]
          exact ⟨i2, i3, i1⟩
      · have : knwB T r mk sz p 0 q = false := bo_f (fun ⟨j, hj, _⟩ => absurd hj (Nat.not_lt_zero j))
        rw [this, j2 q hq]
        rfl
/-- how many places of a name are not in K -/
noncomputable def unkC (T : Nat → Int32) (mk sz : Nat) (K : Nat → Bool) (n : Nat) : Nat := cnt (fun q => plcB T mk sz n q && !K q) 64
theorem unk_s {T : Nat → Int32} {w sz n : Nat} {K : Nat → Bool} (h1 : 1 ≤ sz) (h2 : sz ≤ 64) : unkC T (w + 1) sz K n = unkC T w sz K n + if (!K (plT T w (nI n) sz) && !plcB T w sz n (plT T w (nI n) sz)) = true then 1 else 0 := by
  have hpl := plT_lt (T := T) (w := w) (name := nI n) h1
  have hpc : ∀ q, plcB T (w + 1) sz n q = (plcB T w sz n q || bo (plT T w (nI n) sz = q)) := fun q => bo_s (P := fun w => plT T w (nI n) sz = q)
  unfold unkC
  generalize plT T w (nI n) sz = a at *
  by_cases h : (!K a && !plcB T w sz n a) = true
  · rw [if_pos h]
    rw [Bool.and_eq_true] at h
    have h3 : plcB T w sz n a = false := by have := h.2; cases e : plcB T w sz n a with | false => rfl | true => rw [e] at this; cases this
    refine Eq.trans ?_ (cnt_set (p := fun q => plcB T w sz n q && !K q) (i := a) (n := 64) (by omega) (by rw [h3, Bool.false_and]))
    refine cnt_cong (p := fun q => plcB T (w + 1) sz n q && !K q) (q := fun k => if k = a then true else (plcB T w sz n k && !K k)) (n := 64) (fun q hq => ?_)
    show (plcB T (w + 1) sz n q && !K q) = if q = a then true else (plcB T w sz n q && !K q)
    rw [hpc]
    by_cases e : q = a
    · rw [if_pos e, e, bo_t rfl, Bool.or_true, Bool.true_and]; exact h.1
    · rw [if_neg e, bo_f (fun z => e z.symm), Bool.or_false]
  · rw [if_neg h, Nat.add_zero]
    refine cnt_cong (p := fun q => plcB T (w + 1) sz n q && !K q) (q := fun k => plcB T w sz n k && !K k) (n := 64) (fun q hq => ?_)
    show (plcB T (w + 1) sz n q && !K q) = (plcB T w sz n q && !K q)
    rw [hpc]
    by_cases e : q = a
    · subst e
      rw [bo_t rfl, Bool.or_true, Bool.true_and]
      cases e2 : K q with
      | true => rw [Bool.not_true, Bool.and_false]
      | false =>
        cases e3 : plcB T w sz n q with
        | true => rfl
        | false => rw [e2, e3] at h; exact absurd rfl h
    · rw [bo_f (fun z => e z.symm), Bool.or_false]
theorem r_unknown {N : Nat} (hN : 700 ≤ N) {M : Mem} {T : Nat → Int32} {r W g m kd sz mk ex ly n : Nat} {K : Nat → Bool} (hx : rX M T r W g m kd sz mk ex ly) (hK : ∀ q, q < 64 → rI M 159 q = (if K q = true then 1 else 0)) :
    Yo (fX11_unknown N 140 (nI r) (nI n) M) (fun x => x.1 = nI (unkC T mk sz K n) ∧ smF [147] M x.2) := by
  have hm : mk ≤ m := hx.2.2.2.2.1.2.2.2.2.2.1
  have hm6 : m ≤ 6 := hx.2.2.1.2.2.2.2.2.2.1
  have hs := hx.2.2.2.2.1.2.1
  have hs2 := hx.2.2.2.2.1.2.2.1
  unfold fX11_unknown
  have h0 : unkC T 0 sz K n = 0 := by
    have : ∀ k, cnt (fun q => plcB T 0 sz n q && !K q) k = 0 := by
      intro k
      induction k with
      | zero => rfl
      | succ k ih =>
        show cnt (fun q => plcB T 0 sz n q && !K q) k + (if (plcB T 0 sz n k && !K k) = true then 1 else 0) = 0
        have : plcB T 0 sz n k = false := bo_f (fun ⟨w, hw, _⟩ => absurd hw (Nat.not_lt_zero w))
        rw [ih, this, Bool.false_and]
        rfl
    exact this 64
  refine yo_f3 (F := fX11_unknown_l5 N 140 (nI r) (nI n)) mk (fun k a v M2 => v = nI k ∧ smF [147] M M2 ∧ a = nI (unkC T k sz K n)) ?_ N 0 _ _ _ (by omega) (by omega) ⟨rfl, smF.refl, by rw [h0]; rfl⟩
  intro f k a v M2 hk ⟨hv, g1, g2⟩ ih
  subst hv g2
  show Yo (fX11_unknown_l5_s N 140 (nI r) (nI n) (fX11_unknown_l5 N 140 (nI r) (nI n) f) (nI (unkC T k sz K n)) (nI k) M2) _
  unfold fX11_unknown_l5_s
  have hx2 : rX M2 T r W g m kd sz mk ex ly := hx.mv (g1 141 (by decide))
  rw [hx2.flds.2.2.1, Option.bind_some]
  rcases Nat.lt_or_ge k mk with hlt | hge
  · rw [if_neg (nI_ge hlt (by omega))]
    refine (rspot (w := k) (name := nI n) hN hx2 (by omega)).bi (fun x hx4 => ?_)
    have hpl := plT_lt (T := T) (w := k) (name := nI n) hs
    rw [hx4.1, if_pos (inB_nI (by omega) (by decide)), nI_clamp (by omega), show (140 + 19 : Nat) = 159 from rfl, hx4.2.I_ (by decide), g1.I_ (by decide), hK _ (by omega)]
    have hF : smF [147] M x.2 := g1.trans hx4.2
    -- the loop over the earlier ones
    have inner : ∀ b : Bool, (b = !K (plT T k (nI n) sz)) → Yo (fX11_unknown_b41 N (fX11_unknown_l5 N 140 (nI r) (nI n) f) 140 (nI r) (nI n) (nI (unkC T k sz K n)) (nI k) (nI (plT T k (nI n) sz)) b x.2) (fun y => y.1 = nI (unkC T mk sz K n) ∧ smF [147] M y.2) := by
      intro b hb
      unfold fX11_unknown_b41
      refine yo_f3 (F := fX11_unknown_l46 N (fX11_unknown_l5 N 140 (nI r) (nI n) f) 140 (nI r) (nI n) (nI (unkC T k sz K n)) (nI k) (nI (plT T k (nI n) sz))) k (fun j c v M3 => v = nI j ∧ smF [147] M M3 ∧ c = (b && !plcB T j sz n (plT T k (nI n) sz))) ?_ N 0 _ _ _ (by omega) (by omega) ⟨rfl, hF, ?_⟩
      · intro f2 j c v M3 hj ⟨hv, j1, j2⟩ ih2
        subst hv
        show Yo (fX11_unknown_l46_s N (fX11_unknown_l5 N 140 (nI r) (nI n) f) 140 (nI r) (nI n) (nI (unkC T k sz K n)) (nI k) (nI (plT T k (nI n) sz)) (fX11_unknown_l46 N (fX11_unknown_l5 N 140 (nI r) (nI n) f) 140 (nI r) (nI n) (nI (unkC T k sz K n)) (nI k) (nI (plT T k (nI n) sz)) f2) c (nI j) M3) _
        unfold fX11_unknown_l46_s fX11_unknown_b95 fX11_unknown_b75 fX11_unknown_b76
        rcases Nat.lt_or_ge j k with hjl | hjg
        · have hpc : plcB T (j + 1) sz n (plT T k (nI n) sz) = (plcB T j sz n (plT T k (nI n) sz) || bo (plT T j (nI n) sz = plT T k (nI n) sz)) := bo_s (P := fun w => plT T w (nI n) sz = plT T k (nI n) sz)
          rw [if_neg (nI_ge hjl (by omega)), nI_1]
          by_cases hc : c = true
          · rw [if_pos hc]
            refine (rspot (w := j) (name := nI n) hN (hx.mv (j1 141 (by decide))) (by omega)).bi (fun y hy => ?_)
            have hpj := plT_lt (T := T) (w := j) (name := nI n) hs
            rw [hc] at j2
            rw [hy.1]
            by_cases q : plT T j (nI n) sz = plT T k (nI n) sz
            · rw [if_pos (by rw [q])]
              refine ih2 _ _ _ hjl ⟨rfl, j1.trans hy.2, ?_⟩
              rw [hpc, bo_t q, Bool.or_true, Bool.not_true, Bool.and_false]
            · rw [if_neg (fun z => q ((nI_eq (by omega) (by omega)).mp z))]
              refine ih2 _ _ _ hjl ⟨rfl, j1.trans hy.2, ?_⟩
              rw [hpc, bo_f q, Bool.or_false]
              exact j2
          · rw [if_neg hc]
            refine ih2 _ _ _ hjl ⟨rfl, j1, ?_⟩
            have hcf : c = false := by cases e : c with | false => rfl | true => exact absurd e hc
            rw [hcf] at j2
            rw [hpc, Bool.not_or, ← Bool.and_assoc, ← j2, Bool.false_and]
        · have ej : j = k := by omega
          subst ej
          rw [if_pos (nI_le hjg (by omega)), nI_1]
          have hval : nI (unkC T j sz K n) + bI c = nI (unkC T (j + 1) sz K n) := by
            rw [unk_s hs hs2, bI_add, j2, hb]
          by_cases hc : c = true
          · rw [if_pos hc]
            rw [hc] at hval
            rw [hval]
            exact ih _ _ _ hlt ⟨rfl, j1, rfl⟩
          · rw [if_neg hc]
            have hcf : c = false := by cases e : c with | false => rfl | true => exact absurd e hc
            rw [hcf] at hval
            rw [hval]
            exact ih _ _ _ hlt ⟨rfl, j1, rfl⟩
      · have : plcB T 0 sz n (plT T k (nI n) sz) = false := bo_f (fun ⟨w, hw, _⟩ => absurd hw (Nat.not_lt_zero w))
        rw [this, Bool.not_false, Bool.and_true]
    cases e : K (plT T k (nI n) sz) with
    | true =>
      rw [if_neg (by decide)]
      exact inner false (by rw [e]; rfl)
    | false =>
      rw [if_pos (by decide)]
      exact inner true (by rw [e]; rfl)
  · have e : k = mk := by omega
    subst e
    rw [if_pos (nI_le hge (by omega)), yo_s]
    exact ⟨rfl, g1⟩
