/-! SEMANTICS: learn, ask -/
noncomputable def lnF (T : Nat → Int32) (mk sz W : Nat) (K A : Nat → Bool) (what : Int32) : Int32 := if what = 0 then nI (cnt K 64) else nI (cnt (kwnB T mk sz K A (decide (what = 2))) W)
theorem r_learnEnd {N : Nat} (hN : 700 ≤ N) {M : Mem} {T : Nat → Int32} {r W g m kd sz mk ex ly : Nat} {K A : Nat → Bool} {what : Int32} (hw : 0 ≤ what.toInt ∧ what.toInt ≤ 2) (hx : rX M T r W g m kd sz mk ex ly) (hK : ∀ q, q < 64 → rI M 159 q = (if K q = true then 1 else 0)) (hA : rN M 160 W A) :
    Yo (fX11_learn_l64 N 140 (nI r) what M N (0 : Int32) (0 : Int32)) (fun x => x.1 = lnF T mk sz W K A what ∧ smF [147] M x.2) := by
  have hW : W ≤ 256 := hx.2.2.1.2.1
  obtain ⟨N', rfl⟩ : ∃ N', N = N' + 1 := ⟨N - 1, by omega⟩
  by_cases w0 : what = 0
  · subst w0
    -- the places known are counted
    have e104 : ∀ v M', Yo (fX11_learn_l104 (N' + 1) 140 (nI r) (0 : Int32) (N' + 1) v (0 : Int32) M') (fun x => x = (v, M')) := fun v M' => by
      show Yo (fX11_learn_l104_s (N' + 1) 140 (nI r) (0 : Int32) (fX11_learn_l104 (N' + 1) 140 (nI r) (0 : Int32) N') v (0 : Int32) M') _
      unfold fX11_learn_l104_s fX11_learn_b160
      rw [if_pos (by decide)]
      refine yo_i (fun z => ?_) (fun z => ?_)
      · rw [yo_s]
      · rw [if_pos (by decide), yo_s]
    refine yo_f2 (F := fX11_learn_l64 (N' + 1) 140 (nI r) (0 : Int32) M) 64 (fun k a v => v = nI k ∧ a = nI (cnt K k)) ?_ (N' + 1) 0 _ _ (by omega) (by omega) ⟨rfl, rfl⟩
    intro f k a v hk ⟨hv, ha⟩ ih
    subst hv ha
    show Yo (fX11_learn_l64_s (N' + 1) 140 (nI r) (0 : Int32) M (fX11_learn_l64 (N' + 1) 140 (nI r) (0 : Int32) M f) (nI (cnt K k)) (nI k)) _
    unfold fX11_learn_l64_s fX11_learn_b92 fX11_learn_b101
    rcases Nat.lt_or_ge k 64 with hlt | hge
    · have hs : cnt K (k + 1) = cnt K k + if K k = true then 1 else 0 := rfl
      have hval : nI (cnt K k) + bI (K k) = nI (cnt K (k + 1)) := by rw [hs]; exact bI_add _ _
      rw [if_neg (show ¬ (64 : Int32) ≤ nI k from nI_ge (b := 64) hlt (by decide)), if_pos rfl, if_pos (inB_nI hlt (by decide)), nI_clamp (by omega), show (140 + 19 : Nat) = 159 from rfl, hK k hlt, nI_1]
      cases e : K k with
      | true =>
        rw [e] at hval
        rw [if_neg (by decide), hval]
        exact ih _ _ hlt ⟨rfl, rfl⟩
      | false =>
        rw [e] at hval
        rw [if_pos (by decide), hval]
        exact ih _ _ hlt ⟨rfl, rfl⟩
    · have ek : k = 64 := by omega
      subst ek
      rw [if_pos (show (64 : Int32) ≤ nI 64 from nI_le (a := 64) hge (by omega))]
      refine (e104 _ _).to (fun x hx => ?_)
      rw [hx]
      exact ⟨by unfold lnF; rw [if_pos rfl], smF.refl⟩
  · have hpos : ¬ what ≤ (0 : Int32) := fun z => by
      rw [Int32.le_iff_toInt_le, show (0 : Int32).toInt = 0 from rfl] at z
      exact w0 (Int32.toInt_inj.mp (by rw [show (0 : Int32).toInt = 0 from rfl]; omega))
    have e1 : fX11_learn_l64 (N' + 1) 140 (nI r) what M (N' + 1) (0 : Int32) (0 : Int32) = fX11_learn_l104 (N' + 1) 140 (nI r) what (N' + 1) (0 : Int32) (0 : Int32) M := by
      show fX11_learn_l64_s (N' + 1) 140 (nI r) what M (fX11_learn_l64 (N' + 1) 140 (nI r) what M N') (0 : Int32) (0 : Int32) = _
      unfold fX11_learn_l64_s fX11_learn_b101
      rw [if_neg (by decide), if_neg w0]
    have hl : lnF T mk sz W K A what = nI (cnt (kwnB T mk sz K A (decide (what = 2))) W) := by unfold lnF; rw [if_neg w0]
    rw [e1, hl]
    generalize hP : kwnB T mk sz K A (decide (what = 2)) = P
    refine yo_f3 (F := fX11_learn_l104 (N' + 1) 140 (nI r) what) W (fun k a v M2 => v = nI k ∧ a = nI (cnt P k) ∧ smF [147] M M2) ?_ (N' + 1) 0 _ _ _ (by omega) (by omega) ⟨rfl, rfl, smF.refl⟩
    intro f k a v M2 hk ⟨hv, ha, g1⟩ ih
    subst hv ha
    show Yo (fX11_learn_l104_s (N' + 1) 140 (nI r) what (fX11_learn_l104 (N' + 1) 140 (nI r) what f) (nI (cnt P k)) (nI k) M2) _
    unfold fX11_learn_l104_s fX11_learn_b160 fX11_learn_b146 fX11_learn_b150 fX11_learn_b151
    have hx2 : rX M2 T r W g m kd sz mk ex ly := hx.mv (g1 141 (by decide))
    rw [if_pos (by decide), rworld hx2]
    rcases Nat.lt_or_ge k W with hlt | hge
    · have hs : cnt P (k + 1) = cnt P k + if P k = true then 1 else 0 := rfl
      have hval : nI (cnt P k) + bI (P k) = nI (cnt P (k + 1)) := by rw [hs]; exact bI_add _ _
      rw [if_neg (nI_ge hlt (by omega)), if_neg hpos]
      refine (r_unknown (n := k) (by omega) hx2 (fun q hq => by rw [g1.I_ (by decide)]; exact hK q hq)).bi (fun x hx4 => ?_)
      have hF : smF [147] M x.2 := g1.trans hx4.2
      have uk := unk_le (T := T) (mk := mk) (sz := sz) (n := k) (K := K)
      have eA : rI x.2 (140 + 20) k = (if A k = true then 1 else 0) := by rw [show (140 + 20 : Nat) = 160 from rfl, hF.I_ (by decide)]; exact hA k hlt
      have hPk : P k = (decide (unkC T mk sz K k = 0) && !(decide (what = 2) && A k)) := by rw [← hP]; rfl
      have yes : P k = true → Yo (fX11_learn_l104 (N' + 1) 140 (nI r) what f (nI (cnt P k) + bI true) (nI k + 1) x.2) (fun x => x.1 = nI (cnt P W) ∧ smF [147] M x.2) := fun z => by
        rw [z] at hval
        rw [hval, nI_1]
        exact ih _ _ _ hlt ⟨rfl, rfl, hF⟩
      have no : P k = false → Yo (fX11_learn_l104 (N' + 1) 140 (nI r) what f (nI (cnt P k) + bI false) (nI k + 1) x.2) (fun x => x.1 = nI (cnt P W) ∧ smF [147] M x.2) := fun z => by
        rw [z] at hval
        rw [hval, nI_1]
        exact ih _ _ _ hlt ⟨rfl, rfl, hF⟩
      rw [hx4.1]
      by_cases q : unkC T mk sz K k = 0
      · rw [q, if_pos (show nI 0 = (0 : Int32) from rfl)]
        rw [decide_eq_true q, Bool.true_and] at hPk
        by_cases q2 : what = 2
        · rw [if_pos q2, if_pos (inB_nI (show k < 256 by omega) (by decide)), nI_clamp (by omega), eA]
          rw [decide_eq_true q2, Bool.true_and] at hPk
          cases e : A k with
          | true => rw [if_neg (by decide)]; exact no (by rw [hPk, e]; rfl)
          | false => rw [if_pos (by decide)]; exact yes (by rw [hPk, e]; rfl)
        · rw [if_neg q2]
          exact yes (by rw [hPk, decide_eq_false q2, Bool.false_and]; rfl)
      · rw [if_neg (nI_ne0 (by omega) (by omega))]
        exact no (by rw [hPk, decide_eq_false q, Bool.false_and])
    · have e : k = W := by omega
      subst e
      rw [if_pos (nI_le hge (by omega)), yo_s]
      exact ⟨rfl, g1⟩
/-- the faults that learn and ask have in common -/
theorem ask_cases {M : Mem} {W g m : Nat} (hR : Rel M) (hS : cSh M 1 (M 141).1 W g m) (a1 a2 : Int32) :
    ((fX10_rowAt 0 a1 M = some (.inl 1, M) ∨ ∃ r, fX10_rowAt 0 a1 M = some (.inr r, M) ∧ fX10_trayAt 0 a2 M = some (.inl 1, M)) ∧ ∀ M' : Mem, M' 141 = M 141 → M' 162 = M 162 → fX11_askFault 140 a1 a2 M' = some 1) ∨
    ((∃ b c, fX10_rowAt 0 a1 M = some (.inr b, M) ∧ fX10_trayAt 0 a2 M = some (.inr c, M) ∧ (fX10_needKind b (0 : Int32) M = some (.inl 2, M) ∨ (fX10_needKind b (0 : Int32) M = some (.inr (), M) ∧ fX10_needFilled c M = some (.inl 2, M)))) ∧ ∀ M' : Mem, M' 141 = M 141 → M' 162 = M 162 → fX11_askFault 140 a1 a2 M' = some 2) ∨
    (∃ r t sz mk ex ly so ma, t < 4 ∧ a1 = nI r ∧ a2 = nI t ∧ fX10_rowAt 0 a1 M = some (.inr (10 + 4 * r), M) ∧ fX10_trayAt 0 a2 M = some (.inr (103 + 2 * t), M) ∧ fX10_needKind (10 + 4 * r) (0 : Int32) M = some (.inr (), M) ∧ fX10_needFilled (103 + 2 * t) M = some (.inr (), M) ∧
      cX M (M 141).1 r W g m 0 sz mk ex ly ∧ (∀ M' : Mem, M' 141 = M 141 → rX M' (M 141).1 r W g m 0 sz mk ex ly) ∧ trX M t so ma ∧ ∀ M' : Mem, M' 141 = M 141 → M' 162 = M 162 → fX11_askFault 140 a1 a2 M' = some 0) := by
  unfold fX11_askFault fX11_askFault_b30 fX11_askFault_b32
  rcases rowTray_ok hS a1 a2 with ⟨c1, c2⟩ | ⟨r, t, hr, ht, rfl, rfl, hh, c1, d1, c2⟩
  · exact Or.inl ⟨c1, fun M' e _ => by rw [c2 M' e, Option.bind_some, if_neg (by decide)]⟩
  · obtain ⟨kd, sz, mk, ex, ly, hc, hr'⟩ := sX hS hr hh
    have hk4 := hc.2.2.2.2.1.1
    by_cases k0 : kd = 0
    · subst k0
      have hnk : fX10_needKind (10 + 4 * r) (0 : Int32) M = some (.inr (), M) := by
        unfold fX10_needKind
        rw [hc.flds.1, if_pos (show nI 0 = (0 : Int32) from rfl)]
      rcases filled_ok (relT_iff.mp hR.2.2.1 t ht) with ⟨f1, f2⟩ | ⟨so, ma, tr, f1, f2⟩
      · refine Or.inr (Or.inl ⟨⟨_, _, c1, d1, Or.inr ⟨hnk, f1⟩⟩, fun M' e e2 => ?_⟩)
        rw [c2 M' e, Option.bind_some, if_pos rfl, (hr' M' e).flds.1, Option.bind_some, if_pos (show nI 0 = (0 : Int32) from rfl), if_pos (inB_nI ht (by decide)), nI_clamp (by omega), show (140 + 22 : Nat) = 162 from rfl, eqs_rI e2, f2, if_pos rfl]
      · refine Or.inr (Or.inr ⟨r, t, sz, mk, ex, ly, so, ma, ht, rfl, rfl, c1, d1, hnk, f1, hc, hr', tr, fun M' e e2 => ?_⟩)
        rw [c2 M' e, Option.bind_some, if_pos rfl, (hr' M' e).flds.1, Option.bind_some, if_pos (show nI 0 = (0 : Int32) from rfl), if_pos (inB_nI ht (by decide)), nI_clamp (by omega), show (140 + 22 : Nat) = 162 from rfl, eqs_rI e2, if_neg f2]
    · refine Or.inr (Or.inl ⟨⟨_, _, c1, d1, Or.inl ?_⟩, fun M' e e2 => ?_⟩)
      · unfold fX10_needKind
        rw [hc.flds.1, if_neg (show ¬ nI kd = (0 : Int32) from nI_ne0 (by omega) (by omega))]
      · rw [c2 M' e, Option.bind_some, if_pos rfl, (hr' M' e).flds.1, Option.bind_some, if_neg (show ¬ nI kd = (0 : Int32) from nI_ne0 (by omega) (by omega))]
theorem ag_learn {N : Nat} (hN : 700 ≤ N) (a1 a2 a3 : Int32) (M : Mem) (hR : Rel M) : agI (fX10_learn N 0 a1 a2 a3 M) (fX11_learn N 140 a1 a2 a3) (fun k Mj1 => if k = 1 then some ((1 : Int32), Mj1) else if k = 2 then some ((2 : Int32), Mj1) else if k = 3 then some ((3 : Int32), Mj1) else none) M := by
  obtain ⟨W, g, m, hS⟩ := hR.1
  rcases ask_cases hR hS a1 a2 with ⟨c1, c2⟩ | ⟨⟨b, c, c1, d1, c3⟩, c2⟩ | ⟨r, t, sz, mk, ex, ly, so, ma, ht, rfl, rfl, c1, d1, c3, c4, hc, hr', tr, c2⟩
  · refine refI hR (e := 1) 1 ?_ rfl (by decide) ?_
    · unfold fX10_learn
      rcases c1 with q | ⟨r, q1, q2⟩
      · rw [q, xb_l]
      · rw [q1, xb_r, q2, xb_l]
    · unfold fX11_learn fX11_learn_b43
      rw [c2 M rfl rfl, Option.bind_some, w5_5, if_neg (by decide), if_neg (by decide), yo_s]
      exact smF.refl
  · refine refI hR (e := 2) 2 ?_ rfl (by decide) ?_
    · unfold fX10_learn
      rcases c3 with q | ⟨q1, q2⟩
      · rw [c1, xb_r, d1, xb_r, q, xb_l]
      · rw [c1, xb_r, d1, xb_r, q1, xb_r, q2, xb_l]
    · unfold fX11_learn fX11_learn_b43
      rw [c2 M rfl rfl, Option.bind_some, w5_5, if_neg (by decide), if_neg (by decide), yo_s]
      exact smF.refl
  · have hW : W ≤ 256 := hc.W1.2.2
    have hcl : fX10_learn N 0 (nI r) (nI t) a3 M = xb (if 0 ≤ a3.toInt ∧ a3.toInt ≤ 2 then some (.inr (), M) else some (.inl 3, M)) fun qj5 Mj5 => xb (fX10_needNames N 0 (103 + 2 * t) Mj5) fun qj6 Mj6 => (fX0_hear N 130 (10 + 4 * r) 2 (103 + 2 * t) Mj6).bind fun qj10 => if a3 = 0 then (fX0_knownPlaces 130 qj10).bind fun qj12 => some (.inr qj12, qj10) else if a3 = (2 : Int32) then fX10_learn_b82 N true 130 qj10 else fX10_learn_b82 N false 130 qj10 := by
      unfold fX10_learn
      rw [c1, xb_r, d1, xb_r, c3, xb_r, c4, xb_r, c_what]
    have hrf : ∀ M' : Mem, M' 141 = M 141 → M' 162 = M 162 → M' 163 = M 163 → M' 164 = M 164 → ((0 ≤ a3.toInt ∧ a3.toInt ≤ 2) ∧ nmsP M t ma W → fX11_learn N 140 (nI r) (nI t) a3 M' = (fX11_learns N 140 (nI r) (nI t) (wI M' 140 5 0)).bind fun qj1 => fX11_learn_l64 N 140 (nI r) a3 qj1 N (0 : Int32) (0 : Int32)) ∧ (¬ ((0 ≤ a3.toInt ∧ a3.toInt ≤ 2) ∧ nmsP M t ma W) → fX11_learn N 140 (nI r) (nI t) a3 M' = some (0, wI M' 140 5 3)) := fun M' e e2 e3 e4 => by
      have w3 : (wI M' 140 5 0) 163 = M 163 := by rw [← e3]; exact smF.refl.pI_ (S := [140]) (by simp) 5 0 163 (by simp)
      have w4 : (wI M' 140 5 0) 164 = M 164 := by rw [← e4]; exact smF.refl.pI_ (S := [140]) (by simp) 5 0 164 (by simp)
      unfold fX11_learn fX11_learn_b38 fX11_learn_b43
      rw [c2 M' e e2, Option.bind_some, w5_5, if_pos rfl, within_v a3 0 2 0 2 lj_toInt.1 lj_toInt.2.2.1, Option.bind_some, wI_wI, w5_5, if_neg (show ¬ (3 : Int32) ≤ 0 by decide), if_pos (show (0 : Int32) ≤ 0 by decide), r_names hN false hS ht tr (by rw [w5_141, e]) w3 w4, Option.bind_some]
      by_cases z1 : 0 ≤ a3.toInt ∧ a3.toInt ≤ 2
      · rw [decide_eq_true z1, if_pos rfl]
        by_cases z2 : nmsP M t ma W
        · rw [bo_t (show nmsP M t ma W ∧ (false = true → ¬ alkP M t ma) from ⟨z2, fun z => by cases z⟩), if_pos rfl]
          exact ⟨fun _ => rfl, fun z => absurd ⟨z1, z2⟩ z⟩
        · rw [bo_f (fun z => z2 z.1), if_neg (by decide)]
          exact ⟨fun z => absurd z.2 z2, fun _ => rfl⟩
      · rw [decide_eq_false z1, if_neg (by decide)]
        exact ⟨fun z => absurd z.1 z1, fun _ => rfl⟩
    have bad : ¬ ((0 ≤ a3.toInt ∧ a3.toInt ≤ 2) ∧ nmsP M t ma W) → Yo (fX11_learn N 140 (nI r) (nI t) a3 M) (fun x => smF scrR (wI M 140 5 3) x.2) := fun q => by
      rw [(hrf M rfl rfl rfl rfl).2 q, yo_s]
      exact smF.refl
    by_cases z1 : 0 ≤ a3.toInt ∧ a3.toInt ≤ 2
    · rw [if_pos z1, xb_r] at hcl
      rcases c_names (N := N) hS tr with ⟨n1, n2⟩ | ⟨n1, n2⟩
      · rw [n2, xb_r] at hcl
        have hpp := nmN_ok hW n1
        have hma := tr.2.2.1
        refine askI hR (lnF (M 141).1 mk sz W (knwB (M 141).1 r mk sz (nmN M t) ma) (askB' (nmN M t) ma) a3) ?_ (fun M' hM' => ?_)
        · rw [hcl]
          refine (c_hear hN hc ht hma tr.2.2.2.2.2.2.1 (fun j hj => by rw [tr.2.2.2.2.2.2.2 j (by omega)]; exact hpp j hj)).bi (fun x hx => ?_)
          have hh : cHr x (M 141).1 mk sz W (knwB (M 141).1 r mk sz (nmN M t) ma) (askB' (nmN M t) ma) := ⟨hx.1, hx.2.1, hx.2.2.1⟩
          unfold lnF fX10_learn_b82 fX0_knownPlaces
          refine yo_i (fun y => ?_) (fun y => ?_)
          · rw [bitCount_ok, Option.bind_some, Option.bind_some, if_pos y, yo_s]
            refine ⟨?_, hx.2.2.2.mono (by decide)⟩
            show Sum.inr _ = Sum.inr _
            congr 2
            exact cnt_cong (n := 64) (fun q _ => hx.2.1 q)
          · rw [if_neg y]
            refine yo_i (fun y2 => ?_) (fun y2 => ?_)
            · rw [c_kwn hN hW hh true, Option.bind_some, decide_eq_true y2, yo_s]
              exact ⟨rfl, hx.2.2.2.mono (by decide)⟩
            · rw [c_kwn hN hW hh false, Option.bind_some, decide_eq_false y2, yo_s]
              exact ⟨rfl, hx.2.2.2.mono (by decide)⟩
        · rw [(hrf M' (hM' 141 (by decide)) (hM' 162 (by decide)) (hM' 163 (by decide)) (hM' 164 (by decide))).1 ⟨z1, n1⟩]
          have g3 : (wI M' 140 5 0) 163 = M 163 := by rw [← hM' 163 (by decide)]; exact smF.refl.pI_ (S := [140]) (by simp) 5 0 163 (by simp)
          have g4 : (wI M' 140 5 0) 164 = M 164 := by rw [← hM' 164 (by decide)]; exact smF.refl.pI_ (S := [140]) (by simp) 5 0 164 (by simp)
          have hx0 : rX (wI M' 140 5 0) (M 141).1 r W g m 0 sz mk ex ly := hr' _ (by rw [w5_141, hM' 141 (by decide)])
          refine (r_learns hN hx0 ht hma (by rw [eqs_rI g3]; exact tr.2.2.2.2.2.1) (fun j hj => by rw [eqs_rJ g4]; exact hpp j hj)).bi (fun x hx => ?_)
          exact (r_learnEnd hN z1 (hx0.mv (hx.2.2 141 (by decide))) hx.1 hx.2.1).to (fun y hy => ⟨hy.1, (hx.2.2.mono (by decide)).trans (hy.2.mono (by decide))⟩)
      · refine refI hR (e := 3) 3 ?_ rfl (by decide) (bad (fun z => n1 z.2))
        rw [hcl, n2, xb_l]
    · refine refI hR (e := 3) 3 ?_ rfl (by decide) (bad (fun z => z1 z.1))
      rw [hcl, if_neg z1, xb_l]
theorem ag_ask {N : Nat} (hN : 700 ≤ N) (a1 a2 : Int32) (M : Mem) (hR : Rel M) : agI (fX10_ask N 0 a1 a2 M) (fX11_ask N 140 a1 a2) (fun k Mj1 => if k = 1 then some ((1 : Int32), Mj1) else if k = 2 then some ((2 : Int32), Mj1) else if k = 3 then some ((3 : Int32), Mj1) else none) M := by
  obtain ⟨W, g, m, hS⟩ := hR.1
  rcases ask_cases hR hS a1 a2 with ⟨c1, c2⟩ | ⟨⟨b, c, c1, d1, c3⟩, c2⟩ | ⟨r, t, sz, mk, ex, ly, so, ma, ht, rfl, rfl, c1, d1, c3, c4, hc, hr', tr, c2⟩
  · refine refI hR (e := 1) 1 ?_ rfl (by decide) ?_
    · unfold fX10_ask
      rcases c1 with q | ⟨r, q1, q2⟩
      · rw [q, xb_l]
      · rw [q1, xb_r, q2, xb_l]
    · unfold fX11_ask fX11_ask_b31
      rw [c2 M rfl rfl, Option.bind_some, w5_5, if_neg (by decide), if_neg (by decide), yo_s]
      exact smF.refl
  · refine refI hR (e := 2) 2 ?_ rfl (by decide) ?_
    · unfold fX10_ask
      rcases c3 with q | ⟨q1, q2⟩
      · rw [c1, xb_r, d1, xb_r, q, xb_l]
      · rw [c1, xb_r, d1, xb_r, q1, xb_r, q2, xb_l]
    · unfold fX11_ask fX11_ask_b31
      rw [c2 M rfl rfl, Option.bind_some, w5_5, if_neg (by decide), if_neg (by decide), yo_s]
      exact smF.refl
  · have hW : W ≤ 256 := hc.W1.2.2
    have hcl : fX10_ask N 0 (nI r) (nI t) M = xb (fX10_needNames N 0 (103 + 2 * t) M) fun qj5 Mj5 => (fX0_hear N 130 (10 + 4 * r) 2 (103 + 2 * t) Mj5).bind fun qj9 => (fX0_bestQuestion N 130 qj9).bind fun qj11 => some (.inr qj11, qj9) := by
      unfold fX10_ask
      rw [c1, xb_r, d1, xb_r, c3, xb_r, c4, xb_r]
    have hrf : ∀ M' : Mem, M' 141 = M 141 → M' 162 = M 162 → M' 163 = M 163 → M' 164 = M 164 → (nmsP M t ma W → fX11_ask N 140 (nI r) (nI t) M' = (fX11_learns N 140 (nI r) (nI t) (wI M' 140 5 0)).bind fun qj1 => fX11_ask_l51 N 140 (nI r) N (-1 : Int32) (0 : Int32) qj1) ∧ (¬ nmsP M t ma W → fX11_ask N 140 (nI r) (nI t) M' = some (0, wI M' 140 5 3)) := fun M' e e2 e3 e4 => by
      have w3 : (wI M' 140 5 0) 163 = M 163 := by rw [← e3]; exact smF.refl.pI_ (S := [140]) (by simp) 5 0 163 (by simp)
      have w4 : (wI M' 140 5 0) 164 = M 164 := by rw [← e4]; exact smF.refl.pI_ (S := [140]) (by simp) 5 0 164 (by simp)
      unfold fX11_ask fX11_ask_b31
      rw [c2 M' e e2, Option.bind_some, w5_5, if_pos rfl, wI_wI, w5_5, if_neg (show ¬ (3 : Int32) ≤ 0 by decide), if_pos (show (0 : Int32) ≤ 0 by decide), r_names hN false hS ht tr (by rw [w5_141, e]) w3 w4, Option.bind_some]
      by_cases z2 : nmsP M t ma W
      · rw [bo_t (show nmsP M t ma W ∧ (false = true → ¬ alkP M t ma) from ⟨z2, fun z => by cases z⟩), if_pos rfl]
        exact ⟨fun _ => rfl, fun z => absurd z2 z⟩
      · rw [bo_f (fun z => z2 z.1), if_neg (by decide)]
        exact ⟨fun z => absurd z z2, fun _ => rfl⟩
    rcases c_names (N := N) hS tr with ⟨n1, n2⟩ | ⟨n1, n2⟩
    · rw [n2, xb_r] at hcl
      have hpp := nmN_ok hW n1
      have hma := tr.2.2.1
      refine askI hR (bqI (bqF (unkC (M 141).1 mk sz (knwB (M 141).1 r mk sz (nmN M t) ma)) (askB' (nmN M t) ma) W)) ?_ (fun M' hM' => ?_)
      · rw [hcl]
        refine (c_hear hN hc ht hma tr.2.2.2.2.2.2.1 (fun j hj => by rw [tr.2.2.2.2.2.2.2 j (by omega)]; exact hpp j hj)).bi (fun x hx => ?_)
        rw [c_best hN hW ⟨hx.1, hx.2.1, hx.2.2.1⟩, Option.bind_some, yo_s]
        exact ⟨rfl, hx.2.2.2.mono (by decide)⟩
      · rw [(hrf M' (hM' 141 (by decide)) (hM' 162 (by decide)) (hM' 163 (by decide)) (hM' 164 (by decide))).1 n1]
        have g3 : (wI M' 140 5 0) 163 = M 163 := by rw [← hM' 163 (by decide)]; exact smF.refl.pI_ (S := [140]) (by simp) 5 0 163 (by simp)
        have g4 : (wI M' 140 5 0) 164 = M 164 := by rw [← hM' 164 (by decide)]; exact smF.refl.pI_ (S := [140]) (by simp) 5 0 164 (by simp)
        have hx0 : rX (wI M' 140 5 0) (M 141).1 r W g m 0 sz mk ex ly := hr' _ (by rw [w5_141, hM' 141 (by decide)])
        refine (r_learns hN hx0 ht hma (by rw [eqs_rI g3]; exact tr.2.2.2.2.2.1) (fun j hj => by rw [eqs_rJ g4]; exact hpp j hj)).bi (fun x hx => ?_)
        exact (r_best hN (hx0.mv (hx.2.2 141 (by decide))) hx.1 hx.2.1).to (fun y hy => ⟨hy.1, (hx.2.2.mono (by decide)).trans (hy.2.mono (by decide))⟩)
    · refine refI hR (e := 3) 3 ?_ rfl (by decide) ?_
      · rw [hcl, n2, xb_l]
      · rw [(hrf M rfl rfl rfl rfl).2 n1, yo_s]
        exact smF.refl
