/-! RULES: the class's lines -/
def clL (M : Mem) (t : Nat → Nat) (n b : Nat) : Prop := lxT M n t ∧ b ≤ n ∧ lxC M t n b ∧ rI M 111 12 = nI 0
theorem maxI_00 (k : Nat) (h : k < 700) : maxI (nI k) (0 : Int32) = nI k := (by decide +kernel : ∀ k, k < 700 → maxI (nI k) (0 : Int32) = nI k) k h
theorem addMark_ok {N m L p : Nat} {M : Mem} (hN : 700 ≤ N) (h3 : rI M 112 3 = nI m) (hm : m < 6) (h4 : rI M 112 4 = nI L) (hL : L ≤ 600) (hp : p ≤ L) :
    Yo (fX6_addMark N 112 (nI p) M) (fun x => smF [112, 114, 115] M x ∧ (∀ k, k ≠ 3 → k ≠ 7 → rI x 112 k = rI M 112 k) ∧ rI x 112 3 = nI (m + 1) ∧ (∀ w, rI x 114 w = if w = m then nI p else rI M 114 w) ∧ (∀ w, rI x 115 w = if w = m then nI L else rI M 115 w) ∧ (∀ w, w < 32 → w ≠ m → bt (rI x 112 7) w = bt (rI M 112 7) w) ∧ (bt (rI x 112 7) m = false → ∀ k, p ≤ k → k < L → rI M 113 k ≠ -2)) := by
  unfold fX6_addMark
  rw [h3, if_pos (show nI m < (6 : Int32) from nI_lt (b := 6) hm (by decide)), if_pos (inB_nI (by omega) (by decide)), nI_clamp (by omega)]
  have q3 : rI (wI M (112 + 2) m (nI p)) 112 3 = nI m := by rw [rI_wI, if_neg (by omega)]; exact h3
  have q4 : rI (wI M (112 + 2) m (nI p)) 112 4 = nI L := by rw [rI_wI, if_neg (by omega)]; exact h4
  rw [q3, q4, if_pos (inB_nI (by omega) (by decide)), nI_clamp (by omega), maxI_00 p (by omega)]
  have s0 : smF [112, 114, 115] M (wI (wI M (112 + 2) m (nI p)) (112 + 3) m (nI L)) := (smF.refl.pI_ (by decide) _ _).pI_ (by decide) _ _
  have s1 : ∀ k, rI (wI (wI M (112 + 2) m (nI p)) (112 + 3) m (nI L)) 112 k = rI M 112 k := fun k => by rw [rI_wI, if_neg (by omega), rI_wI, if_neg (by omega)]
  have s2 : ∀ w, rI (wI (wI M (112 + 2) m (nI p)) (112 + 3) m (nI L)) 114 w = if w = m then nI p else rI M 114 w := fun w => by
    rw [rI_wI, if_neg (by omega), rI_wI]
    by_cases q : w = m
    · rw [if_pos ⟨rfl, q⟩, if_pos q]
    · rw [if_neg (fun z => q z.2), if_neg q]
  have s3 : ∀ w, rI (wI (wI M (112 + 2) m (nI p)) (112 + 3) m (nI L)) 115 w = if w = m then nI L else rI M 115 w := fun w => by
    rw [rI_wI]
    by_cases q : w = m
    · rw [if_pos ⟨rfl, q⟩, if_pos q]
    · rw [if_neg (fun z => q z.2), if_neg q, rI_wI, if_neg (by omega)]
  generalize wI (wI M (112 + 2) m (nI p)) (112 + 3) m (nI L) = M1 at s0 s1 s2 s3 ⊢
  refine yo_f2 (F := fX6_addMark_l39 N 112) L (fun k v M' => p ≤ k ∧ v = nI k ∧ smF [112] M1 M' ∧ (∀ k, k ≠ 7 → rI M' 112 k = rI M1 112 k) ∧ (∀ w, w < 32 → w ≠ m → bt (rI M' 112 7) w = bt (rI M1 112 7) w) ∧ (bt (rI M' 112 7) m = false → ∀ j, p ≤ j → j < k → rI M1 113 j ≠ -2)) ?_ N p _ _ hp (by omega) ⟨Nat.le_refl p, rfl, smF.refl, fun _ _ => rfl, fun _ _ _ => rfl, fun _ j h1 h2 => by omega⟩
  intro f k v M' hk ⟨hpk, hv, hF, gk, gb, gm⟩ ih
  subst hv
  show Yo (fX6_addMark_l39_s N 112 (fX6_addMark_l39 N 112 f) (nI k) M') _
  unfold fX6_addMark_l39_s fX6_addMark_b73
  have e4 : rI M' 112 4 = nI L := (gk 4 (by decide)).trans ((s1 4).trans h4)
  have e3 : rI M' 112 3 = nI m := (gk 3 (by decide)).trans ((s1 3).trans h3)
  rw [e4]
  rcases Nat.lt_or_ge k L with hlt | hge
  · have e13 : rI M' (112 + 1) k = rI M1 113 k := hF.I_ (by decide) k
    rw [if_neg (nI_ge hlt (by omega)), if_pos (inB_nI (by omega) (by decide)), nI_clamp (by omega), e13, e3, nI_1]
    have go : ∀ v : Int32, (∀ w, w < 32 → w ≠ m → bt v w = false) → (rI M1 113 k = -2 → bt v m = true) → Yo (fX6_addMark_l39 N 112 f (nI (k + 1)) (wI M' 112 7 (rI M' 112 7 ||| v))) (fun x => smF [112, 114, 115] M x ∧ (∀ k, k ≠ 3 → k ≠ 7 → rI x 112 k = rI M 112 k) ∧ rI x 112 3 = nI (m + 1) ∧ (∀ w, rI x 114 w = if w = m then nI p else rI M 114 w) ∧ (∀ w, rI x 115 w = if w = m then nI L else rI M 115 w) ∧ (∀ w, w < 32 → w ≠ m → bt (rI x 112 7) w = bt (rI M 112 7) w) ∧ (bt (rI x 112 7) m = false → ∀ k, p ≤ k → k < L → rI M 113 k ≠ -2)) := by
      intro v v1 v2
      refine ih _ _ hlt ⟨by omega, rfl, hF.pI_ (by simp) _ _, fun j hj => ?_, fun w w1 w2 => ?_, fun z j j1 j2 => ?_⟩
      · rw [rI_wI, if_neg (fun z => hj z.2)]; exact gk j hj
      · rw [rI_wI, if_pos ⟨rfl, rfl⟩, bt_or, v1 w w1 w2, Bool.or_false]; exact gb w w1 w2
      · rw [rI_wI, if_pos ⟨rfl, rfl⟩, bt_or, Bool.or_eq_false_iff] at z
        by_cases q : j = k
        · subst q
          intro q2
          rw [v2 q2] at z
          exact absurd z.2 (by decide)
        · exact gm z.1 j j1 (by omega)
    by_cases c : rI M1 113 k = -2
    · rw [if_pos c]
      refine go _ (fun w w1 w2 => ?_) (fun _ => ?_)
      · rw [bt_one (by omega) w1]; exact decide_eq_false w2
      · rw [bt_one (by omega) (by omega)]; exact decide_eq_true rfl
    · rw [if_neg c]
      exact go _ (fun w w1 w2 => bt_0 w) (fun z => absurd z c)
  · have ek : k = L := by omega
    subst ek
    rw [if_pos (nI_le hge (by omega)), yo_s, e3, nI_1]
    refine ⟨(s0.trans (hF.mono (by decide))).pI_ (by decide) _ _, fun j j3 j7 => ?_, ?_, fun w => ?_, fun w => ?_, fun w w1 w2 => ?_, fun z j j1 j2 => ?_⟩
    · rw [rI_wI, if_neg (fun z => j3 z.2), gk j j7, s1]
    · rw [rI_wI, if_pos ⟨rfl, rfl⟩]
    · rw [rI_wI, if_neg (by omega), hF.I_ (by decide)]; exact s2 w
    · rw [rI_wI, if_neg (by omega), hF.I_ (by decide)]; exact s3 w
    · rw [rI_wI, if_neg (by omega), gb w w1 w2, s1]
    · rw [rI_wI, if_neg (by omega)] at z
      have := gm z j j1 j2
      rw [s0.I_ (by decide)] at this
      exact this
/-- the semicolon behind an expression: the class has the line -/
theorem c_fin {N n b L0 : Nat} {pend : List Int32} {F : Nat → Int32} {t : Nat → Nat} {M : Mem} (hN : 700 ≤ N) (h : clS M t n b 4 0 (pend ++ []) L0 F) (ht : tkC t n b = 59) (hc : pend.length ≤ 20) (hL : L0 + pend.length ≤ 600) (hp : ∀ x, x ∈ pend → 1 ≤ rkW x) (hj : ∀ j, j < pend.length → pend.getD j 0 = F (L0 + j)) (S : List Nat) (hS : ∀ a, a ∈ S → a = 112 ∨ a = 114 ∨ a = 115) (Q : Mem → Mem → Prop)
    (hfin : ∀ M1, exS M1 4 0 [] (L0 + pend.length) F → kpC M M1 → Yo (fX4_finishExpression N 111 M1) (fun x => smF S M1 x ∧ Q M1 x)) :
    ∃ M1 M2 M4, exS M1 4 0 [] (L0 + pend.length) F ∧ kpC M M1 ∧ smF S M1 M2 ∧ Q M1 M2 ∧ leads N M b M4 (tkN t n (tkE t n b)) ∧ clL M4 t n (tkN t n (tkE t n b)) ∧ rI M4 112 0 = rI M2 112 0 + 1 ∧ (∀ k, k ≠ 0 → rI M4 112 k = rI M2 112 k) ∧ ∀ a, a ≠ 111 → a ≠ 112 → M4 a = M2 a := by
  obtain ⟨hT, hbn, hC, hx⟩ := h
  have hb : b < n := tok_b (t := t) (by omega)
  obtain ⟨M1, e1, x1, y, z⟩ := emitW (r := 1) (w0 := []) hN (by omega) (okW_nil 1) (by simpa using hc) hL hx hp hj
  obtain ⟨M2, e2, s2, q2⟩ := hfin M1 x1 y
  have h111 : M2 111 = M1 111 := s2 111 (fun a => by have := hS 111 a; omega)
  have ha : fX4_accept N 111 M = some (0, wI (wI M2 112 0 (rI M2 112 0 + 1)) 111 12 0) := by
    rw [acc_4 hT hC (by omega) hx.1]
    unfold fX4_acceptOperator
    have hlt := tkC_lt (fun j hj => (hT.2.2 j hj).1) b
    rw [hC.2.2.1, ht, step_ok 59 (by omega), Option.bind_some, if_pos (by decide), if_neg (by decide)]
    unfold fX4_acceptOperator_b79
    rw [if_pos ((tok_eq hT hC 59 59 rfl (by omega)).mpr ht), hx.2.1, if_pos (show nI 0 = (0 : Int32) from rfl)]
    show ((fX4_emitWaiting N 111 (nI 1) M).bind _) = _
    rw [e1, Option.bind_some, e2, Option.bind_some]
    unfold fX4_acceptSemicolon
    have e10 : rI M2 111 10 = 59 := by
      rw [eqs_rI h111, z 10 (by decide)]
      exact (tok_eq hT hC 59 59 rfl (by omega)).mpr ht
    rw [if_pos e10, Option.bind_some]
  have f111 : ∀ k, k ≠ 12 → rI (wI (wI M2 112 0 (rI M2 112 0 + 1)) 111 12 0) 111 k = rI M1 111 k := fun k hk => by rw [rI_wI, if_neg (fun z => hk z.2), rI_wI, if_neg (by omega), eqs_rI h111]
  have hrd : smF rdC M (wI (wI M2 112 0 (rI M2 112 0 + 1)) 111 12 0) := ((y.rd.trans (s2.mono (fun a ha => by rcases hS a ha with q | q | q <;> subst q <;> decide))).pI_ (by decide) _ _).pI_ (by decide) _ _
  have h119 : (wI (wI M2 112 0 (rI M2 112 0 + 1)) 111 12 0) 119 = M 119 := hrd 119 (by decide)
  have hT3 : lxT (wI (wI M2 112 0 (rI M2 112 0 + 1)) 111 12 0) n t := hT.mv ((f111 7 (by decide)).trans (y.2.1 7 (by omega))) h119
  obtain ⟨M4, g1, g2, g3, g4⟩ := acc_lead hN hT hb hC ha hT3 (((f111 9 (by decide)).trans (z 9 (by decide))).trans hC.2.1) hrd
  refine ⟨M1, M2, M4, x1, y, s2, q2, g1, ⟨hT3.mv (g3 7 (by omega)) (g2 119 (by decide)), tkN_le (tkE_le hbn), g4, ?_⟩, ?_, fun k hk => ?_, fun a a1 a2 => ?_⟩
  · rw [g3 12 (by omega), rI_wI, if_pos ⟨rfl, rfl⟩]; rfl
  · rw [g2.I_ (by decide), rI_wI, if_neg (by omega), rI_wI, if_pos ⟨rfl, rfl⟩]
  · rw [g2.I_ (by decide), rI_wI, if_neg (by omega), rI_wI, if_neg (fun z => hk z.2)]
  · rw [g2 a (by simpa using a1)]
    exact ((smF.refl (S := [111, 112])).pI_ (by decide) _ _).pI_ (by decide) _ _ a (by simp; omega)
/-- the head of a line -/
theorem c_head {N n b : Nat} {t : Nat → Nat} {M : Mem} (hN : 700 ≤ N) (h : clL M t n b) (ht : tkC t n b = 3 ∨ tkC t n b = 4) : ∃ M2, leads N M b M2 (tkN t n (tkE t n b)) ∧ smF [111] M M2 ∧ lxT M2 n t ∧ lxC M2 t n (tkN t n (tkE t n b)) ∧ rI M2 111 12 = nI 1 ∧ rI M2 111 13 = nI (tkC t n b) := by
  obtain ⟨hT, hbn, hC, h12⟩ := h
  have hb : b < n := tok_b (t := t) (by omega)
  have e : ∀ k, k ≠ 12 → k ≠ 13 → rI (wI (wI M 111 13 (nI (tkC t n b))) 111 12 1) 111 k = rI M 111 k := fun k h1 h2 => by rw [rI_wI, if_neg (fun z => h1 z.2), rI_wI, if_neg (fun z => h2 z.2)]
  have s : smF [111] M (wI (wI M 111 13 (nI (tkC t n b))) 111 12 1) := (smF.refl.pI_ (by decide) _ _).pI_ (by decide) _ _
  have hT1 : lxT (wI (wI M 111 13 (nI (tkC t n b))) 111 12 1) n t := hT.mv (e 7 (by decide) (by decide)) (s 119 (by decide))
  have ha : fX4_accept N 111 M = some (0, wI (wI M 111 13 (nI (tkC t n b))) 111 12 1) := by
    rw [acc_0 hT hC (by omega) h12]
    unfold fX4_acceptHead fX4_acceptHead_b24
    rw [hC.2.2.1]
    have e10 : rI (wI M 111 13 (nI (tkC t n b))) 111 10 = nI (tkC t n b) := by rw [rI_wI, if_neg (by omega)]; exact hC.2.2.1
    rw [e10]
    rcases ht with q | q <;> rw [q] <;> rfl
  obtain ⟨M2, g1, g2, g3, g4⟩ := acc_lead hN hT hb hC ha hT1 ((e 9 (by decide) (by decide)).trans hC.2.1) (s.mono (by decide))
  refine ⟨M2, g1, s.trans g2, hT1.mv (g3 7 (by omega)) (g2 119 (by decide)), g4, ?_, ?_⟩
  · rw [g3 12 (by omega), rI_wI, if_pos ⟨rfl, rfl⟩]; rfl
  · rw [g3 13 (by omega), rI_wI, if_neg (by omega), rI_wI, if_pos ⟨rfl, rfl⟩]
/-- its bound -/
theorem c_bound {N n b hd mx : Nat} {t : Nat → Nat} {M : Mem} (hN : 700 ≤ N) (hT : lxT M n t) (hbn : b ≤ n) (hC : lxC M t n b) (h12 : rI M 111 12 = nI 1) (h13 : rI M 111 13 = nI hd) (hh : (hd = 3 ∧ mx = 256) ∨ (hd = 4 ∧ mx = 64)) :
    (tkC t n b = 2 ∧ 2 ≤ tkV t n b ∧ tkV t n b ≤ mx ∧ ∃ M2, leads N M b M2 (tkN t n (tkE t n b)) ∧ smF [111, 112] M M2 ∧ lxT M2 n t ∧ lxC M2 t n (tkN t n (tkE t n b)) ∧ rI M2 111 12 = nI 2 ∧ ∀ k, rI M2 112 k = if k = hd - 2 then nI (tkV t n b) else rI M 112 k) ∨
    (¬ (tkC t n b = 2 ∧ 2 ≤ tkV t n b ∧ tkV t n b ≤ mx) ∧ stops N M b (if tkC t n b = 1 then 1 else if tkC t n b = 2 then 3 else 2) b) := by
  rcases Nat.lt_or_ge b n with hb | hb
  · by_cases c1 : tkC t n b = 1
    · exact Or.inr ⟨by omega, by rw [if_pos c1]; exact acc_stop hN hT hb hC (by omega) (by omega) (acc_bad hC c1) hC.1 smF.refl⟩
    · by_cases c2 : tkC t n b = 2
      · have hv := tkV_le c2
        have hsel : ∀ {β : Type} (x y : β), (if rI M 111 13 = (3 : Int32) then x else y) = if hd = 3 then x else y := fun x y => by
          rcases hh with ⟨q, _⟩ | ⟨q, _⟩
          · rw [if_pos (by rw [h13, q]; rfl), if_pos q]
          · rw [if_neg (by rw [h13, q]; decide), if_neg (by omega)]
        have e11 : rI M 111 11 = nI (tkV t n b) := hC.2.2.2 c2
        by_cases cv : 2 ≤ tkV t n b ∧ tkV t n b ≤ mx
        · refine Or.inl ⟨c2, cv.1, cv.2, ?_⟩
          have ha : fX4_accept N 111 M = some (0, wI (wI M 112 (hd - 2) (nI (tkV t n b))) 111 12 2) := by
            rw [acc_1 hT hC c1 h12]
            unfold fX4_acceptBound fX4_acceptBound_b38 fX4_acceptBound_b76
            rw [if_pos ((tok_eq hT hC 2 2 rfl (by omega)).mpr c2), e11, if_neg (show ¬ nI (tkV t n b) < (2 : Int32) from nI_nlt (b := 2) cv.1 (by omega)), hsel, hsel]
            rcases hh with ⟨q, q2⟩ | ⟨q, q2⟩
            · rw [if_pos q, if_pos (show nI (tkV t n b) ≤ (256 : Int32) from nI_le (b := 256) (by omega) (by decide)), if_pos q, q]
            · rw [if_neg (show ¬ hd = 3 by omega), if_pos (show nI (tkV t n b) ≤ (64 : Int32) from nI_le (b := 64) (by omega) (by decide)), if_neg (show ¬ hd = 3 by omega), q]
          have e : ∀ k, k ≠ 12 → rI (wI (wI M 112 (hd - 2) (nI (tkV t n b))) 111 12 2) 111 k = rI M 111 k := fun k hk => by rw [rI_wI, if_neg (fun z => hk z.2), rI_wI, if_neg (by omega)]
          have s : smF [111, 112] M (wI (wI M 112 (hd - 2) (nI (tkV t n b))) 111 12 2) := (smF.refl.pI_ (by decide) _ _).pI_ (by decide) _ _
          have hT1 : lxT (wI (wI M 112 (hd - 2) (nI (tkV t n b))) 111 12 2) n t := hT.mv (e 7 (by decide)) (s 119 (by decide))
          obtain ⟨M2, g1, g2, g3, g4⟩ := acc_lead hN hT hb hC ha hT1 ((e 9 (by decide)).trans hC.2.1) (s.mono (by decide))
          refine ⟨M2, g1, s.trans (g2.mono (by decide)), hT1.mv (g3 7 (by omega)) (g2 119 (by decide)), g4, ?_, fun k => ?_⟩
          · rw [g3 12 (by omega), rI_wI, if_pos ⟨rfl, rfl⟩]; rfl
          · rw [g2.I_ (by decide), rI_wI, if_neg (by omega), rI_wI]
            by_cases q : k = hd - 2
            · rw [if_pos ⟨rfl, q⟩, if_pos q]
            · rw [if_neg (fun z => q z.2), if_neg q]
        · refine Or.inr ⟨fun z => cv z.2, ?_⟩
          rw [if_neg c1, if_pos c2]
          refine acc_stop (M1 := M) hN hT hb hC (by omega) (by omega) ?_ hC.1 smF.refl
          rw [acc_1 hT hC c1 h12]
          unfold fX4_acceptBound fX4_acceptBound_b38 fX4_acceptBound_b41
          rw [if_pos ((tok_eq hT hC 2 2 rfl (by omega)).mpr c2), e11]
          by_cases c3 : tkV t n b < 2
          · rw [if_pos (show nI (tkV t n b) < (2 : Int32) from nI_lt (b := 2) c3 (by decide))]; rfl
          · rw [if_neg (show ¬ nI (tkV t n b) < (2 : Int32) from nI_nlt (b := 2) (by omega) (by omega)), hsel, hsel]
            rcases hh with ⟨q, q2⟩ | ⟨q, q2⟩
            · rw [if_pos q, if_neg (show ¬ nI (tkV t n b) ≤ (256 : Int32) from nI_ge (a := 256) (by omega) (by omega))]; rfl
            · rw [if_neg (by omega), if_neg (show ¬ nI (tkV t n b) ≤ (64 : Int32) from nI_ge (a := 64) (by omega) (by omega))]; rfl
      · refine Or.inr ⟨fun z => c2 z.1, ?_⟩
        rw [if_neg c1, if_neg c2]
        refine acc_stop (M1 := M) hN hT hb hC (by omega) (by omega) ?_ hC.1 smF.refl
        rw [acc_1 hT hC c1 h12]
        unfold fX4_acceptBound
        rw [if_neg (fun z => c2 ((tok_eq hT hC 2 2 rfl (by omega)).mp z))]
        rfl
  · have e0 : tkC t n b = 0 := by unfold tkC; rw [if_neg (by omega)]
    refine Or.inr ⟨by omega, ?_⟩
    rw [e0, if_neg (by omega), if_neg (by omega)]
    exact end_stop hN hT (by omega) hC (by omega) (by omega) h12
/-- the semicolon behind a bound -/
theorem c_semi {N n b : Nat} {t : Nat → Nat} {M : Mem} (hN : 700 ≤ N) (hT : lxT M n t) (hbn : b ≤ n) (hC : lxC M t n b) (h12 : rI M 111 12 = nI 2) :
    (tkC t n b = 59 ∧ ∃ M2, leads N M b M2 (tkN t n (tkE t n b)) ∧ smF [111, 112] M M2 ∧ clL M2 t n (tkN t n (tkE t n b)) ∧ rI M2 112 0 = rI M 112 0 + 1 ∧ ∀ k, k ≠ 0 → rI M2 112 k = rI M 112 k) ∨
    (tkC t n b ≠ 59 ∧ stops N M b (if tkC t n b = 1 then 1 else 2) b) := by
  rcases Nat.lt_or_ge b n with hb | hb
  · by_cases c1 : tkC t n b = 1
    · exact Or.inr ⟨by omega, by rw [if_pos c1]; exact acc_stop hN hT hb hC (by omega) (by omega) (acc_bad hC c1) hC.1 smF.refl⟩
    · by_cases c2 : tkC t n b = 59
      · refine Or.inl ⟨c2, ?_⟩
        have ha : fX4_accept N 111 M = some (0, wI (wI M 112 0 (rI M 112 0 + 1)) 111 12 0) := by
          rw [acc_2 hT hC c1 h12]
          unfold fX4_acceptSemicolon
          rw [if_pos ((tok_eq hT hC 59 59 rfl (by omega)).mpr c2)]
        have e : ∀ k, k ≠ 12 → rI (wI (wI M 112 0 (rI M 112 0 + 1)) 111 12 0) 111 k = rI M 111 k := fun k hk => by rw [rI_wI, if_neg (fun z => hk z.2), rI_wI, if_neg (by omega)]
        have s : smF [111, 112] M (wI (wI M 112 0 (rI M 112 0 + 1)) 111 12 0) := (smF.refl.pI_ (by decide) _ _).pI_ (by decide) _ _
        have hT1 : lxT (wI (wI M 112 0 (rI M 112 0 + 1)) 111 12 0) n t := hT.mv (e 7 (by decide)) (s 119 (by decide))
        obtain ⟨M2, g1, g2, g3, g4⟩ := acc_lead hN hT hb hC ha hT1 ((e 9 (by decide)).trans hC.2.1) (s.mono (by decide))
        refine ⟨M2, g1, s.trans (g2.mono (by decide)), ⟨hT1.mv (g3 7 (by omega)) (g2 119 (by decide)), tkN_le (tkE_le hbn), g4, ?_⟩, ?_, fun k hk => ?_⟩
        · rw [g3 12 (by omega), rI_wI, if_pos ⟨rfl, rfl⟩]; rfl
        · rw [g2.I_ (by decide), rI_wI, if_neg (by omega), rI_wI, if_pos ⟨rfl, rfl⟩]
        · rw [g2.I_ (by decide), rI_wI, if_neg (by omega), rI_wI, if_neg (fun z => hk z.2)]
      · refine Or.inr ⟨c2, ?_⟩
        rw [if_neg c1]
        refine acc_stop (M1 := M) hN hT hb hC (by omega) (by omega) ?_ hC.1 smF.refl
        rw [acc_2 hT hC c1 h12]
        unfold fX4_acceptSemicolon
        rw [if_neg (fun z => c2 ((tok_eq hT hC 59 59 rfl (by omega)).mp z))]
        rfl
  · have e0 : tkC t n b = 0 := by unfold tkC; rw [if_neg (by omega)]
    refine Or.inr ⟨by omega, ?_⟩
    rw [e0, if_neg (by omega)]
    exact end_stop hN hT (by omega) hC (by omega) (by omega) h12
/-- the head of a line with an expression -/
theorem c_headE {N n b m L : Nat} {F : Nat → Int32} {t : Nat → Nat} {M : Mem} (hN : 700 ≤ N) (h : clL M t n b) (ht : (tkC t n b = 5 ∧ m < 6) ∨ tkC t n b = 6) (h3 : rI M 112 3 = nI m) (hm : m ≤ 6) (h4 : rI M 112 4 = nI L) (hF : ∀ k, k < L → rI M 113 k = F k) :
    ∃ M2, leads N M b M2 (tkN t n (tkE t n b)) ∧ smF [111] M M2 ∧ clS M2 t n (tkN t n (tkE t n b)) 3 0 [] L F ∧ rI M2 111 13 = nI (tkC t n b) ∧ rI M2 111 14 = nI L := by
  obtain ⟨hT, hbn, hC, h12⟩ := h
  have hb : b < n := tok_b (t := t) (by omega)
  have e : ∀ k, k < 6 ∨ (7 ≤ k ∧ k < 12) → rI (wI (wI (wI (wI (wI M 111 13 (nI (tkC t n b))) 111 14 (nI L)) 111 15 0) 111 6 0) 111 12 3) 111 k = rI M 111 k := fun k h1 => by rw [rI_wI, if_neg (by omega), rI_wI, if_neg (by omega), rI_wI, if_neg (by omega), rI_wI, if_neg (by omega), rI_wI, if_neg (by omega)]
  have s : smF [111] M (wI (wI (wI (wI (wI M 111 13 (nI (tkC t n b))) 111 14 (nI L)) 111 15 0) 111 6 0) 111 12 3) := ((((smF.refl.pI_ (by decide) _ _).pI_ (by decide) _ _).pI_ (by decide) _ _).pI_ (by decide) _ _).pI_ (by decide) _ _
  have hT1 : lxT (wI (wI (wI (wI (wI M 111 13 (nI (tkC t n b))) 111 14 (nI L)) 111 15 0) 111 6 0) 111 12 3) n t := hT.mv (e 7 (by omega)) (s 119 (by decide))
  have ha : fX4_accept N 111 M = some (0, wI (wI (wI (wI (wI M 111 13 (nI (tkC t n b))) 111 14 (nI L)) 111 15 0) 111 6 0) 111 12 3) := by
    rw [acc_0 hT hC (by omega) h12]
    unfold fX4_acceptHead fX4_acceptHead_b50
    rw [hC.2.2.1]
    have e10 : rI (wI M 111 13 (nI (tkC t n b))) 111 10 = nI (tkC t n b) := by rw [rI_wI, if_neg (by omega)]; exact hC.2.2.1
    have e3 : rI (wI M 111 13 (nI (tkC t n b))) (111 + 1) 3 = nI m := by rw [rI_wI, if_neg (by omega)]; exact h3
    have e4 : rI (wI M 111 13 (nI (tkC t n b))) 112 4 = nI L := by rw [rI_wI, if_neg (by omega)]; exact h4
    have e72 : fX4_acceptHead_b72 111 (wI M 111 13 (nI (tkC t n b))) = some (0, wI (wI (wI (wI (wI M 111 13 (nI (tkC t n b))) 111 14 (nI L)) 111 15 0) 111 6 0) 111 12 3) := by
      unfold fX4_acceptHead_b72 fX6_emitted
      show Option.bind (some (rI (wI M 111 13 (nI (tkC t n b))) 112 4)) _ = _
      rw [e4, Option.bind_some]
    rw [e10, e3, e72]
    rcases ht with ⟨q, q2⟩ | q
    · rw [if_neg (by rw [q]; decide), if_neg (by rw [q]; decide), if_pos (by rw [q]; rfl), if_pos (by rw [q]; rfl), if_pos (show nI m < (6 : Int32) from nI_lt (b := 6) q2 (by decide))]
    · rw [if_neg (by rw [q]; decide), if_neg (by rw [q]; decide), if_neg (by rw [q]; decide), if_pos (by rw [q]; rfl), if_neg (by rw [q]; decide)]
  obtain ⟨M2, g1, g2, g3, g4⟩ := acc_lead hN hT hb hC ha hT1 ((e 9 (by omega)).trans hC.2.1) (s.mono (by decide))
  have st := s.trans g2
  refine ⟨M2, g1, st, ⟨hT1.mv (g3 7 (by omega)) (g2 119 (by decide)), tkN_le (tkE_le hbn), g4, ?_, ?_, ?_, fun j hj => absurd hj (Nat.not_lt_zero j), ?_, fun k hk => ?_⟩, ?_, ?_⟩
  · rw [g3 12 (by omega), rI_wI, if_pos ⟨rfl, rfl⟩]; rfl
  · rw [g3 15 (by omega), rI_wI, if_neg (by omega), rI_wI, if_neg (by omega), rI_wI, if_pos ⟨rfl, rfl⟩]; rfl
  · rw [g3 6 (by omega), rI_wI, if_neg (by omega), rI_wI, if_pos ⟨rfl, rfl⟩]; rfl
  · rw [st.I_ (by decide)]; exact h4
  · rw [st.I_ (by decide)]; exact hF k hk
  · rw [g3 13 (by omega), rI_wI, if_neg (by omega), rI_wI, if_neg (by omega), rI_wI, if_neg (by omega), rI_wI, if_neg (by omega), rI_wI, if_pos ⟨rfl, rfl⟩]
  · rw [g3 14 (by omega), rI_wI, if_neg (by omega), rI_wI, if_neg (by omega), rI_wI, if_neg (by omega), rI_wI, if_pos ⟨rfl, rfl⟩]
/-- no line begins so -/
theorem c_noHead {N n b m : Nat} {t : Nat → Nat} {M : Mem} (hN : 700 ≤ N) (h : clL M t n b) (ht0 : tkC t n b ≠ 0) (h3 : rI M 112 3 = nI m) (hm : m ≤ 6) (ht : tkC t n b ≠ 3 ∧ tkC t n b ≠ 4 ∧ (tkC t n b = 5 → m = 6) ∧ tkC t n b ≠ 6) : stops N M b (if tkC t n b = 1 then 1 else if tkC t n b = 5 then 4 else 2) b := by
  obtain ⟨hT, hbn, hC, h12⟩ := h
  have hb : b < n := tok_b ht0
  by_cases c1 : tkC t n b = 1
  · rw [if_pos c1]
    exact acc_stop hN hT hb hC (by omega) (by omega) (acc_bad hC c1) hC.1 smF.refl
  · rw [if_neg c1]
    have h8 : rI (wI M 111 13 (nI (tkC t n b))) 111 8 = nI b := by rw [rI_wI, if_neg (by omega)]; exact hC.1
    have s : smF rdC M (wI M 111 13 (nI (tkC t n b))) := smF.refl.pI_ (by decide) _ _
    have hlt := tkC_lt (fun j hj => (hT.2.2 j hj).1) b
    have ne : ∀ (c : Nat) (v : Int32), v = nI c → c < 256 → tkC t n b ≠ c → ¬ nI (tkC t n b) = v := fun c v hv hc q z => q (by rw [hv, nI_eq (by omega) (by omega)] at z; exact z)
    have e10 : rI (wI M 111 13 (nI (tkC t n b))) 111 10 = nI (tkC t n b) := by rw [rI_wI, if_neg (by omega)]; exact hC.2.2.1
    have e3 : rI (wI M 111 13 (nI (tkC t n b))) (111 + 1) 3 = nI m := by rw [rI_wI, if_neg (by omega)]; exact h3
    by_cases c5 : tkC t n b = 5
    · rw [if_pos c5]
      refine acc_stop hN hT hb hC (by omega) (by omega) ?_ h8 s
      rw [acc_0 hT hC c1 h12]
      unfold fX4_acceptHead fX4_acceptHead_b50
      rw [hC.2.2.1, e10, e3, if_neg (ne 3 3 rfl (by omega) ht.1), if_neg (ne 4 4 rfl (by omega) ht.2.1), if_pos (by rw [c5]; rfl), if_pos (by rw [c5]; rfl), if_neg (show ¬ nI m < (6 : Int32) from nI_nlt (b := 6) (by have := ht.2.2.1 c5; omega) (by omega))]
      rfl
    · rw [if_neg c5]
      refine acc_stop hN hT hb hC (by omega) (by omega) ?_ h8 s
      rw [acc_0 hT hC c1 h12]
      unfold fX4_acceptHead
      rw [hC.2.2.1, e10, if_neg (ne 3 3 rfl (by omega) ht.1), if_neg (ne 4 4 rfl (by omega) ht.2.1), if_neg (ne 5 5 rfl (by omega) c5), if_neg (ne 6 6 rfl (by omega) ht.2.2.2)]
      rfl
