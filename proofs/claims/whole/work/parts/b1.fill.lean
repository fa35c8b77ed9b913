/-! SEMANTICS: the tables, filled -/
def cR0 (M : Mem) (b : Nat) (T : Nat → Int32) (W g m : Nat) : Prop :=
  ruT T W g m ∧ rI M b 0 = T 0 ∧ rI M b 1 = nI W ∧ rI M b 2 = nI g ∧ rI M b 3 = nI m ∧
  (∀ w, w < m → rI M (b + 2) w = T (4 + 2 * w) ∧ rI M (b + 3) w = T (5 + 2 * w) ∧ ∀ k, tn T (4 + 2 * w) ≤ k → k < tn T (5 + 2 * w) → rI M (b + 1) k = encV (T (20 + 2 * k)) (T (21 + 2 * k))) ∧
  (rI M b 5 = T 16 ∧ rI M b 6 = T 17 ∧ ∀ k, tn T 16 ≤ k → k < tn T 17 → rI M (b + 1) k = encV (T (20 + 2 * k)) (T (21 + 2 * k))) ∧
  (∀ w, w < m → bt (rI M b 7) w = false → ∀ name bound bound', valT T w name bound = valT T w name bound')
theorem cR0.mv {M M' : Mem} {b : Nat} {T : Nat → Int32} {W g m : Nat} (h : cR0 M b T W g m) (hq : ∀ a, b ≤ a → a < b + 4 → M' a = M a) : cR0 M' b T W g m := by
  obtain ⟨h1, h2, h3, h4, h5, h6, ⟨h7, h8, h9⟩, h10⟩ := h
  have e0 := hq b (by omega) (by omega)
  have e1 := hq (b + 1) (by omega) (by omega)
  have e2 := hq (b + 2) (by omega) (by omega)
  have e3 := hq (b + 3) (by omega) (by omega)
  exact ⟨h1, by rw [eqs_rI e0]; exact h2, by rw [eqs_rI e0]; exact h3, by rw [eqs_rI e0]; exact h4, by rw [eqs_rI e0]; exact h5, fun w hw => ⟨by rw [eqs_rI e2]; exact (h6 w hw).1, by rw [eqs_rI e3]; exact (h6 w hw).2.1, fun k k1 k2 => by rw [eqs_rI e1]; exact (h6 w hw).2.2 k k1 k2⟩, ⟨by rw [eqs_rI e0]; exact h7, by rw [eqs_rI e0]; exact h8, fun k k1 k2 => by rw [eqs_rI e1]; exact h9 k k1 k2⟩, fun w hw => by rw [eqs_rI e0]; exact h10 w hw⟩
theorem c0_comp {N b w W g m : Nat} {T : Nat → Int32} {name bound : Int32} {M : Mem} (hN : 700 ≤ N) (h : cR0 M b T W g m) (hw : w < m) :
    Yo (fX6_compute N b (rI M (b + 2) w) (rI M (b + 3) w) name bound M) (fun x => x.1 = valT T w name bound ∧ smF [b + 6] M x.2) := by
  obtain ⟨⟨_, _, _, _, _, _, _, _, hs, _⟩, _, _, _, _, h6, _⟩ := h
  obtain ⟨p, q, hpq, hq, h4, h5, hk⟩ := hs w hw
  obtain ⟨g1, g2, g3⟩ := h6 w hw
  rw [g1, g2, h4, h5, valT_seg h4 h5 hpq hq]
  unfold tn at g3
  rw [h4, h5, nI_clamp (by omega), nI_clamp (by omega)] at g3
  exact cp_ok hN hq g3 hpq hk
theorem c0_tag {N b W g m : Nat} {T : Nat → Int32} {name bound : Int32} {M : Mem} (hN : 700 ≤ N) (h : cR0 M b T W g m) (hs : segT T 6) :
    Yo (fX6_compute N b (rI M b 5) (rI M b 6) name bound M) (fun x => x.1 = valT T 6 name bound ∧ smF [b + 6] M x.2) := by
  obtain ⟨_, _, _, _, _, _, ⟨g1, g2, g3⟩, _⟩ := h
  obtain ⟨p, q, hpq, hq, h4, h5, hk⟩ := hs
  have h4' : T 16 = nI p := h4
  have h5' : T 17 = nI q := h5
  rw [g1, g2, h4', h5', valT_seg h4 h5 hpq hq]
  unfold tn at g3
  rw [h4', h5', nI_clamp (by omega), nI_clamp (by omega)] at g3
  exact cp_ok hN hq g3 hpq hk
theorem c_fill {N b W g m : Nat} {T : Nat → Int32} {M : Mem} (hN : 700 ≤ N) (h : cR0 M b T W g m) :
    Yo (fX6_fillTables N b M) (fun x => cRu x b T W g m ∧ smF [b + 4, b + 5, b + 6] M x) := by
  have hW : W ≤ 256 := h.1.2.1
  have hm6 : m ≤ 6 := h.1.2.2.2.2.2.2.1
  have hg1 : 2 ≤ g := h.1.2.2.2.1
  have hg2 : g ≤ 64 := h.1.2.2.2.2.1
  unfold fX6_fillTables
  refine yo_f2 (F := fX6_fillTables_l2 N b) W (fun n v M2 => v = nI n ∧ smF [b + 4, b + 5, b + 6] M M2 ∧ (∀ i, i < n → rI M2 (b + 4) i = nI (tagT T g i)) ∧ ∀ w, w < m → bt (rI M b 7) w = false → ∀ i, i < n → ∀ bound, rI M2 (b + 5) (256 * w + i) = valT T w (nI i) bound) ?_ N 0 _ _ (by omega) (by omega) ⟨rfl, smF.refl, fun i hi => absurd hi (Nat.not_lt_zero i), fun w _ _ i hi => absurd hi (Nat.not_lt_zero i)⟩
  intro f n v M2 hn ⟨hv, g1, g2, g3⟩ ih
  subst hv
  show Yo (fX6_fillTables_l2_s N b (fX6_fillTables_l2 N b f) (nI n) M2) _
  unfold fX6_fillTables_l2_s
  have h2 : cR0 M2 b T W g m := h.mv (fun a h1 h2 => g1 a (by simp; omega))
  rw [h2.2.2.1]
  rcases Nat.lt_or_ge n W with hlt | hge
  · rw [if_neg (nI_ge hlt (by omega)), if_neg (show ¬ (256 : Int32) ≤ nI n from nI_ge (b := 256) (by omega) (by decide))]
    have body : ∀ (s : Int32) (M3 : Mem), smF [b + 6] M2 M3 → modN s g = tagT T g n → Yo (fX6_fillTables_b49 N (fX6_fillTables_l2 N b f) b (nI n) s M3) (fun x => cRu x b T W g m ∧ smF [b + 4, b + 5, b + 6] M x) := by
      intro s M3 hF hs
      have h3 : cR0 M3 b T W g m := h2.mv (fun a h1 h2 => hF a (by simp; omega))
      unfold fX6_fillTables_b49
      rw [h3.2.2.2.1, modulo_c s (by omega) (by omega), Option.bind_some, if_pos (inB_nI (show n < 256 by omega) (by decide)), nI_clamp (by omega), hs]
      refine yo_f2 (F := fX6_fillTables_l66 N (fX6_fillTables_l2 N b f) b (nI n)) m (fun w v M4 => v = nI w ∧ smF [b + 4, b + 5, b + 6] M M4 ∧ (∀ i, i < n + 1 → rI M4 (b + 4) i = nI (tagT T g i)) ∧ (∀ w', w' < m → bt (rI M b 7) w' = false → ∀ i, i < n → ∀ bound, rI M4 (b + 5) (256 * w' + i) = valT T w' (nI i) bound) ∧ ∀ w', w' < w → bt (rI M b 7) w' = false → ∀ bound, rI M4 (b + 5) (256 * w' + n) = valT T w' (nI n) bound) ?_ N 0 _ _ (by omega) (by omega) ⟨rfl, (g1.trans (hF.mono (by simp))).pI_ (by simp) _ _, fun i hi => ?_, fun w' hw' hb i hi bound => ?_, fun w' hw' => absurd hw' (Nat.not_lt_zero w')⟩
      · intro f2 w v M4 hw ⟨hv, j1, j2, j3, j4⟩ ih2
        subst hv
        show Yo (fX6_fillTables_l66_s N (fX6_fillTables_l2 N b f) b (nI n) (fX6_fillTables_l66 N (fX6_fillTables_l2 N b f) b (nI n) f2) (nI w) M4) _
        unfold fX6_fillTables_l66_s fX6_fillTables_b127 fX6_fillTables_b121
        have h4 : cR0 M4 b T W g m := h.mv (fun a h1 h2 => j1 a (by simp; omega))
        have e7 : rI M4 b 7 = rI M b 7 := j1.I_ (by simp) _
        rw [h4.2.2.2.2.1, nI_1, nI_1]
        rcases Nat.lt_or_ge w m with hwl | hwg
        · rw [if_neg (nI_ge hwl (by omega)), if_neg (show ¬ (6 : Int32) ≤ nI w from nI_ge (b := 6) (by omega) (by decide)), e7]
          cases e : bt (rI M b 7) w with
          | true =>
            rw [if_neg (fun z => by rw [(bt_test _ (by omega)).mp z] at e; cases e)]
            refine ih2 _ _ hwl ⟨rfl, j1, j2, j3, fun w' hw' hb bound => ?_⟩
            by_cases q : w' = w
            · subst q; rw [e] at hb; cases hb
            · exact j4 w' (by omega) hb bound
          | false =>
            rw [if_pos ((bt_test _ (by omega)).mpr e), if_pos (inB_nI (show w < 6 by omega) (by decide)), if_pos (inB_nI (show w < 6 by omega) (by decide)), nI_clamp (by omega)]
            refine (c0_comp hN h4 hwl).bi (fun x hx => ?_)
            have hix : nI w * (256 : Int32) + nI n = nI (256 * w + n) := by rw [show (256 : Int32) = nI 256 from rfl, pk_mul, nI_add, Nat.mul_comm]
            rw [hix, if_pos (inB_nI (show 256 * w + n < 1536 by omega) (by decide)), nI_clamp (by omega), hx.1]
            refine ih2 _ _ hwl ⟨rfl, (j1.trans (hx.2.mono (by simp))).pI_ (by simp) _ _, fun i hi => ?_, fun w' hw' hb i hi bound => ?_, fun w' hw' hb bound => ?_⟩
            · rw [rI_wI, if_neg (by omega), hx.2.I_ (by simp)]; exact j2 i hi
            · rw [rI_wI, if_neg (by omega), hx.2.I_ (by simp)]; exact j3 w' hw' hb i hi bound
            · rw [rI_wI]
              by_cases q : w' = w
              · subst q
                rw [if_pos ⟨rfl, rfl⟩]
                exact h.2.2.2.2.2.2.2 w' hwl hb _ _ _
              · rw [if_neg (by omega), hx.2.I_ (by simp)]; exact j4 w' (by omega) hb bound
        · have ew : w = m := by omega
          subst ew
          rw [if_pos (nI_le hwg (by omega))]
          refine ih _ _ hlt ⟨rfl, j1, j2, fun w' hw' hb i hi bound => ?_⟩
          by_cases q : i = n
          · subst q; exact j4 w' hw' hb bound
          · exact j3 w' hw' hb i (by omega) bound
      · rw [rI_wI]
        by_cases q : i = n
        · rw [if_pos ⟨rfl, q⟩, q]
        · rw [if_neg (fun z => q z.2), hF.I_ (by simp)]; exact g2 i (by omega)
      · rw [rI_wI, if_neg (by omega), hF.I_ (by simp)]; exact g3 w' hw' hb i hi bound
    by_cases q : rI M2 b 5 = rI M2 b 6
    · rw [if_pos q]
      refine body _ M2 smF.refl ?_
      rw [h2.2.2.2.2.2.2.1.1, h2.2.2.2.2.2.2.1.2.1] at q
      unfold tagT
      rw [if_pos q]
      exact modN_nI (by omega)
    · rw [if_neg q]
      have hq : T 16 ≠ T 17 := by rw [← h2.2.2.2.2.2.2.1.1, ← h2.2.2.2.2.2.2.1.2.1]; exact q
      have hs : segT T 6 := by
        rcases h.1.2.2.2.2.2.2.2.2.2 with z | z
        · exact absurd z hq
        · exact z.1
      rw [h2.2.2.2.1]
      refine (c0_tag hN h2 hs).bi (fun x hx => ?_)
      refine body _ _ hx.2 ?_
      unfold tagT
      rw [if_neg hq, hx.1]
  · have e : n = W := by omega
    subst e
    rw [if_pos (nI_le hge (by omega)), yo_s]
    refine ⟨⟨h2.1, h2.2.1, h2.2.2.1, h2.2.2.2.1, h2.2.2.2.2.1, h2.2.2.2.2.2.1, g2, fun w hw hb i hi bound => g3 w hw (by rw [← hb, g1.I_ (by simp)]) i hi bound⟩, g1⟩
