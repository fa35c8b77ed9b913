/-! SEMANTICS: feed -/
theorem byte_and (x : Int32) : (vp_nar .byte x.toInt8.toInt32) &&& 255 = x &&& 255 := by
  show x.toInt8.toInt32.toInt8.toInt32 &&& 255 = _
  apply bt_ext
  intro i hi
  rw [bt_and, bt_and]
  have h255 : bt 255 i = decide (i < 8) := (by decide +kernel : ∀ i, i < 32 → bt 255 i = decide (i < 8)) i hi
  rw [h255]
  by_cases h : i < 8
  · have e : bt x.toInt8.toInt32.toInt8.toInt32 i = bt x i := by
      show (BitVec.signExtend 32 (BitVec.signExtend 8 (BitVec.signExtend 32 (BitVec.signExtend 8 x.toBitVec)))).getLsbD i = x.toBitVec.getLsbD i
      simp only [BitVec.getLsbD_signExtend]
      simp [h, hi]
    rw [e]
  · simp [h]
theorem and255_c (x : Int32) : ∃ c : Nat, c < 256 ∧ x &&& 255 = nI c := pk_andE x (m := 255) 8 (by decide)
theorem sub8 {p : Nat} (h : p < 3) : nI (24 - 8 * p) + (-8 : Int32) = nI (24 - 8 * (p + 1)) := by
  have : p = 0 ∨ p = 1 ∨ p = 2 := by omega
  rcases this with q | q | q <;> subst q <;> decide
theorem append_ok {N n : Nat} (hN : 700 ≤ N) {M : Mem} (v : Int32) (h1 : rI M 111 1 = nI n) (hn : n + 4 ≤ 600) :
    Yo (fX4_append N 111 v M) (fun x => rI x 111 1 = nI (n + 4) ∧ smF [111, 119] M x ∧ (∀ k, k ≠ 1 → rI x 111 k = rI M 111 k) ∧ (∀ j, j < 4 → rI x 119 (n + j) &&& 255 = ushrI v (nI (24 - 8 * j)) &&& 255) ∧ (∀ j, j < n → rI x 119 j = rI M 119 j)) := by
  unfold fX4_append
  refine yo_f2 (F := fX4_append_l3 N 111 v) 4 (fun p w M' => (p < 4 → w = nI (24 - 8 * p)) ∧ (p = 4 → w = -8) ∧ rI M' 111 1 = nI (n + p) ∧ smF [111, 119] M M' ∧ (∀ k, k ≠ 1 → rI M' 111 k = rI M 111 k) ∧ (∀ j, j < p → rI M' 119 (n + j) &&& 255 = ushrI v (nI (24 - 8 * j)) &&& 255) ∧ (∀ j, j < n → rI M' 119 j = rI M 119 j)) ?_ N 0 _ _ (by omega) (by omega) ⟨fun _ => rfl, fun z => by omega, h1, smF.refl, fun _ _ => rfl, fun j hj => absurd hj (Nat.not_lt_zero j), fun _ _ => rfl⟩
  intro f p w M' hp ⟨hw1, hw2, g1, g2, g3, g4, g5⟩ ih
  show Yo (fX4_append_l3_s N 111 v (fX4_append_l3 N 111 v f) w M') _
  unfold fX4_append_l3_s
  rcases Nat.lt_or_ge p 4 with hlt | hge
  · have hw := hw1 hlt
    subst hw
    rw [if_neg (nI_pos (by omega)), g1, if_neg (show ¬ (600 : Int32) ≤ nI (n + p) from nI_ge (b := 600) (by omega) (by decide)), if_pos (inB_nI (by omega) (by decide)), nI_clamp (by omega)]
    have e : rI (wI M' (111 + 8) (n + p) (vp_nar FieldType.byte (ushrI v (nI (24 - 8 * p))).toInt8.toInt32)) 111 1 = nI (n + p) := by rw [rI_wI, if_neg (by omega), g1]
    rw [e, nI_1]
    refine ih _ _ hlt ⟨fun q => sub8 (by omega), fun q => ?_, ?_, ?_, fun k hk => ?_, fun j hj => ?_, fun j hj => ?_⟩
    · have : p = 3 := by omega
      subst this
      decide
    · rw [rI_wI, if_pos ⟨rfl, rfl⟩, Nat.add_assoc]
    · exact (g2.pI_ (by decide) _ _).pI_ (by decide) _ _
    · rw [rI_wI, if_neg (by omega), rI_wI, if_neg (by omega), g3 k hk]
    · rw [rI_wI, if_neg (by omega), rI_wI]
      by_cases q : j = p
      · subst q
        rw [if_pos ⟨rfl, rfl⟩, byte_and]
      · rw [if_neg (fun z => by have := z.2; omega)]
        exact g4 j (by omega)
    · rw [rI_wI, if_neg (by omega), rI_wI, if_neg (by omega), g5 j hj]
  · have : p = 4 := by omega
    subst this
    rw [hw2 rfl, if_pos (by decide), yo_s]
    exact ⟨g1, g2, g3, g4, g5⟩
def wdF (a b c d e : Int32) (k : Nat) : Int32 := if k < 4 then a else if k < 8 then b else if k < 12 then c else if k < 16 then d else e
def byF (a b c d e : Int32) (k : Nat) : Int32 := ushrI (wdF a b c d e k) (nI (24 - 8 * (k % 4))) &&& 255
theorem sh_k : ∀ k, k < 20 → (24 : Int32) - ((8 : Int32) * (nI k &&& (3 : Int32))) = nI (24 - 8 * (k % 4)) := by decide
theorem lc0_ok {N : Nat} (hN : 700 ≤ N) (a b c d e : Int32) (M : Mem) (hR : Rel M) : ∃ M1, Rel M1 ∧ ∀ k : Mem → Option Mem, fLc0 N a b c d e M k = k M1 := by
  obtain ⟨hS, hI, hT, hP, hA⟩ := hR
  obtain ⟨n, hn, p1, p2, p3⟩ := hP
  have cond : (nI n + (20 : Int32) ≤ (600 : Int32)) ↔ n + 20 ≤ 600 := by
    rw [li_20, nI_add, li_600, nI_leI (by omega) (by decide)]
  have r7 : ∀ c, rI (wI M 140 5 c) 140 7 = nI n := fun c => by rw [rI_wI, if_neg (by omega), p2]
  by_cases h : n + 20 ≤ 600
  · have hc : Yo (fX10_feed N 0 a b c d e M) (fun x => x.1 = nI (n + 20) ∧ rI x.2 111 1 = nI (n + 20) ∧ smF [111, 119] M x.2 ∧ (∀ j, j < 20 → rI x.2 119 (n + j) &&& 255 = byF a b c d e j) ∧ (∀ j, j < n → rI x.2 119 j = rI M 119 j)) := by
      unfold fX10_feed
      rw [show rI M (0 + 111) 1 = nI n from p1, if_pos (cond.mpr h)]
      refine (append_ok hN a p1 (by omega)).bi (fun x1 h1 => ?_)
      refine (append_ok hN b h1.1 (by omega)).bi (fun x2 h2 => ?_)
      refine (append_ok hN c h2.1 (by omega)).bi (fun x3 h3 => ?_)
      refine (append_ok hN d h3.1 (by omega)).bi (fun x4 h4 => ?_)
      refine (append_ok hN e h4.1 (by omega)).bi (fun x5 h5 => ?_)
      rw [yo_s]
      refine ⟨h5.1, h5.1, (((h1.2.1.trans h2.2.1).trans h3.2.1).trans h4.2.1).trans h5.2.1, fun j hj => ?_, fun j hj => ?_⟩
      · unfold byF wdF
        by_cases c4 : j < 4
        · rw [if_pos c4, h5.2.2.2.2 _ (by omega), h4.2.2.2.2 _ (by omega), h3.2.2.2.2 _ (by omega), h2.2.2.2.2 _ (by omega), h1.2.2.2.1 j c4, show j % 4 = j by omega]
        · by_cases c8 : j < 8
          · rw [if_neg c4, if_pos c8, h5.2.2.2.2 _ (by omega), h4.2.2.2.2 _ (by omega), h3.2.2.2.2 _ (by omega), show n + j = n + 4 + (j - 4) by omega, h2.2.2.2.1 (j - 4) (by omega), show j % 4 = j - 4 by omega]
          · by_cases c12 : j < 12
            · rw [if_neg c4, if_neg c8, if_pos c12, h5.2.2.2.2 _ (by omega), h4.2.2.2.2 _ (by omega), show n + j = n + 4 + 4 + (j - 8) by omega, h3.2.2.2.1 (j - 8) (by omega), show j % 4 = j - 8 by omega]
            · by_cases c16 : j < 16
              · rw [if_neg c4, if_neg c8, if_neg c12, if_pos c16, h5.2.2.2.2 _ (by omega), show n + j = n + 4 + 4 + 4 + (j - 12) by omega, h4.2.2.2.1 (j - 12) (by omega), show j % 4 = j - 12 by omega]
              · rw [if_neg c4, if_neg c8, if_neg c12, if_neg c16, show n + j = n + 4 + 4 + 4 + 4 + (j - 16) by omega, h5.2.2.2.1 (j - 16) (by omega), show j % 4 = j - 16 by omega]
      · rw [h5.2.2.2.2 _ (by omega), h4.2.2.2.2 _ (by omega), h3.2.2.2.2 _ (by omega), h2.2.2.2.2 _ (by omega), h1.2.2.2.2 _ hj]
    obtain ⟨⟨v, M1⟩, g1, g2, g3, g4, g5, g6⟩ := hc
    have g2 : v = nI (n + 20) := g2
    subst g2
    have r71 : rI (wI M1 140 5 0) 140 7 = nI n := by rw [rI_wI, if_neg (by omega), g4.I_ (by simp), p2]
    have hr : Yo (fX11_feed N 140 a b c d e M1) (fun x => x.1 = nI (n + 20) ∧ rI x.2 140 7 = nI (n + 20) ∧ smF [140, 146] M1 x.2 ∧ (∀ k, k ≠ 5 → k ≠ 7 → rI x.2 140 k = rI M1 140 k) ∧ (∀ j, j < 20 → rI x.2 146 (n + j) = byF a b c d e j) ∧ (∀ j, j < n → rI x.2 146 j = rI M1 146 j)) := by
      unfold fX11_feed
      rw [r71, if_pos (cond.mpr h)]
      refine yo_f2 (F := fX11_feed_l23 N 140 a b c d e) 20 (fun p w M' => w = nI p ∧ rI M' 140 7 = nI (n + p) ∧ smF [140, 146] M1 M' ∧ (∀ k, k ≠ 5 → k ≠ 7 → rI M' 140 k = rI M1 140 k) ∧ (∀ j, j < p → rI M' 146 (n + j) = byF a b c d e j) ∧ (∀ j, j < n → rI M' 146 j = rI M1 146 j)) ?_ N 0 _ _ (by omega) (by omega) ⟨rfl, r71, smF.refl.pI_ (by simp) _ _, fun k h5 h7 => by rw [rI_wI, if_neg (by omega)], fun j hj => absurd hj (Nat.not_lt_zero j), fun j hj => by rw [rI_wI, if_neg (by omega)]⟩
      intro f p w M' hp ⟨hw, q1, q2, q3, q4, q5⟩ ih
      subst hw
      show Yo (fX11_feed_l23_s N 140 a b c d e (fX11_feed_l23 N 140 a b c d e f) (nI p) M') _
      unfold fX11_feed_l23_s
      rcases Nat.lt_or_ge p 20 with hlt | hge
      · have step : Yo (fX11_feed_b76 N (fX11_feed_l23 N 140 a b c d e f) 140 a b c d e (nI p) (wdF a b c d e p) M') (fun x => x.1 = nI (n + 20) ∧ rI x.2 140 7 = nI (n + 20) ∧ smF [140, 146] M1 x.2 ∧ (∀ k, k ≠ 5 → k ≠ 7 → rI x.2 140 k = rI M1 140 k) ∧ (∀ j, j < 20 → rI x.2 146 (n + j) = byF a b c d e j) ∧ (∀ j, j < n → rI x.2 146 j = rI M1 146 j)) := by
          unfold fX11_feed_b76
          rw [q1, if_pos (inB_nI (by omega) (by decide)), nI_clamp (by omega), sh_k p hlt, nI_1]
          have e7 : rI (wI M' (140 + 6) (n + p) (ushrI (wdF a b c d e p) (nI (24 - 8 * (p % 4))) &&& 255)) 140 7 = nI (n + p) := by rw [rI_wI, if_neg (by omega), q1]
          rw [e7, nI_1]
          refine ih _ _ hlt ⟨rfl, ?_, ?_, fun k h5 h7 => ?_, fun j hj => ?_, fun j hj => ?_⟩
          · rw [rI_wI, if_pos ⟨rfl, rfl⟩, Nat.add_assoc]
          · exact (q2.pI_ (by decide) _ _).pI_ (by decide) _ _
          · rw [rI_wI, if_neg (by omega), rI_wI, if_neg (by omega), q3 k h5 h7]
          · rw [rI_wI, if_neg (by omega), rI_wI]
            by_cases z : j = p
            · subst z
              rw [if_pos ⟨rfl, rfl⟩]
              rfl
            · rw [if_neg (fun y => by have := y.2; omega)]
              exact q4 j (by omega)
          · rw [rI_wI, if_neg (by omega), rI_wI, if_neg (by omega), q5 j hj]
        unfold wdF at step
        rw [if_neg (show ¬ (20 : Int32) ≤ nI p from nI_ge (b := 20) hlt (by decide))]
        by_cases c4 : p < 4
        · rw [if_neg (show ¬ (4 : Int32) ≤ nI p from nI_ge (b := 4) c4 (by decide))]
          rw [if_pos c4] at step
          exact step
        · rw [if_neg c4] at step
          rw [if_pos (show (4 : Int32) ≤ nI p from nI_le (a := 4) (by omega) (by omega))]
          by_cases c8 : p < 8
          · rw [if_neg (show ¬ (8 : Int32) ≤ nI p from nI_ge (b := 8) c8 (by decide))]
            rw [if_pos c8] at step
            exact step
          · rw [if_neg c8] at step
            rw [if_pos (show (8 : Int32) ≤ nI p from nI_le (a := 8) (by omega) (by omega))]
            by_cases c12 : p < 12
            · rw [if_neg (show ¬ (12 : Int32) ≤ nI p from nI_ge (b := 12) c12 (by decide))]
              rw [if_pos c12] at step
              exact step
            · rw [if_neg c12] at step
              rw [if_pos (show (12 : Int32) ≤ nI p from nI_le (a := 12) (by omega) (by omega))]
              by_cases c16 : p < 16
              · rw [if_neg (show ¬ (16 : Int32) ≤ nI p from nI_ge (b := 16) c16 (by decide))]
                rw [if_pos c16] at step
                exact step
              · rw [if_neg c16] at step
                rw [if_pos (show (16 : Int32) ≤ nI p from nI_le (a := 16) (by omega) (by omega))]
                exact step
      · have : p = 20 := by omega
        subst this
        rw [if_pos (show (20 : Int32) ≤ nI 20 by decide), yo_s]
        exact ⟨q1, q1, q2, q3, q4, q5⟩
    obtain ⟨⟨v2, M2⟩, k1, k2, k3, k4, k5, k6, k7⟩ := hr
    have k2 : v2 = nI (n + 20) := k2
    subst k2
    dsimp only at g3 g4 g5 g6 k3 k4 k5 k6 k7
    have E : ∀ x, x ≠ 111 → x ≠ 119 → x ≠ 140 → x ≠ 146 → M2 x = M x := fun x h1 h2 h3 h4 => by rw [k4 x (by simp; omega), g4 x (by simp; omega)]
    refine ⟨M2, ⟨relS_mv hS (fun x h1 h2 h3 => E x (by omega) (by omega) (by omega) (by omega)) (E 141 (by omega) (by omega) (by omega) (by omega)), relI_mv hI (fun x h1 h2 => E x (by omega) (by omega) (by omega) (by omega)) (eqs_rI (E 0 (by omega) (by omega) (by omega) (by omega)) _) (E 143 (by omega) (by omega) (by omega) (by omega)) (E 145 (by omega) (by omega) (by omega) (by omega)), relT_iff.mpr (fun t ht => trS_mv (relT_iff.mp hT t ht) (E _ (by omega) (by omega) (by omega) (by omega)) (E _ (by omega) (by omega) (by omega) (by omega)) (eqs_rI (E 162 (by omega) (by omega) (by omega) (by omega)) _) (eqs_rI (E 163 (by omega) (by omega) (by omega) (by omega)) _) (fun j _ => eqs_rJ (E 164 (by omega) (by omega) (by omega) (by omega)) _)), ⟨n + 20, by omega, ?_, k3, fun j hj => ?_⟩, relA_mv hA (E 0 (by omega) (by omega) (by omega) (by omega)) (fun k h5 h7 => ?_)⟩, fun k => ?_⟩
    · rw [k4.I_ (by simp)]; exact g3
    · rcases Nat.lt_or_ge j n with hlt | hge
      · obtain ⟨ch, h1, h2, h3⟩ := p3 j hlt
        refine ⟨ch, h1, ?_, ?_⟩
        · rw [k7 j hlt, g4.I_ (by simp), h2]
        · rw [k4.I_ (by simp), g6 j hlt, h3]
      · obtain ⟨ch, h1, h2⟩ := and255_c (ushrI (wdF a b c d e (j - n)) (nI (24 - 8 * ((j - n) % 4))))
        have e1 := k6 (j - n) (by omega)
        have e2 := g5 (j - n) (by omega)
        rw [show n + (j - n) = j by omega] at e1 e2
        refine ⟨ch, h1, ?_, ?_⟩
        · rw [e1]; exact h2
        · rw [k4.I_ (by simp), e2]; exact h2
    · rw [k5 k h5 h7, g4.I_ (by simp)]
    · unfold fLc0
      rw [g1, Option.bind_some]
      show ((fX11_feed N 140 a b c d e M1).bind _) = _
      rw [k1, Option.bind_some, if_pos rfl]
  · refine ⟨wI M 140 5 0, Rel.calm ⟨hS, hI, hT, ⟨n, hn, p1, p2, p3⟩, hA⟩ 0, fun k => ?_⟩
    unfold fLc0 fX10_feed
    rw [show rI M (0 + 111) 1 = nI n from p1, if_neg (fun z => h (cond.mp z)), Option.bind_some]
    unfold fX11_feed
    show (Option.bind (if rI (wI M 140 5 0) 140 7 + 20 ≤ 600 then _ else _) _) = _
    rw [r7, if_neg (fun z => h (cond.mp z)), Option.bind_some, if_pos rfl]
