/-! RULES: operators -/
def rkW (v : Int32) : Nat := if v = 0 then 0 else if v = -3 then 1 else if v = -4 then 1 else 2
theorem rank_ok (v : Int32) (M : Mem) : fX4_rankOf v M = some (nI (rkW v)) := by
  unfold fX4_rankOf fX4_rankOf_b18 rkW
  by_cases c : v = 0
  · rw [if_pos c, if_pos c]; rfl
  · rw [if_neg c, if_neg c]
    by_cases c3 : v = -3
    · rw [if_pos c3, if_pos c3]; rfl
    · rw [if_neg c3, if_neg c3]
      by_cases c4 : v = -4
      · rw [if_pos c4, if_pos c4]; rfl
      · rw [if_neg c4, if_neg c4]; rfl
theorem rkW_le (v : Int32) : rkW v ≤ 2 := by
  unfold rkW
  repeat' split
  all_goals omega
def stW (c : Nat) : Int32 := if c = 43 then -3 else if c = 45 then -4 else if c = 42 then -5 else if c = 47 then -6 else if c = 37 then -7 else 0
theorem step_ok (c : Nat) (hc : c < 256) (M : Mem) : fX4_stepOf (nI c) M = some (stW c) := (show fX4_stepOf (nI c) M = fX4_stepOf (nI c) zM from rfl).trans ((by decide +kernel : ∀ c, c < 256 → fX4_stepOf (nI c) zM = some (stW c)) c hc)
/-- the waiting steps that come now, pend, and those that wait on, w0 -/
def okW (r : Nat) (w0 : List Int32) : Prop := ∀ x s, w0 = x :: s → rkW x < r
theorem emitW_l {N r nx o : Nat} {w0 : List Int32} {F : Nat → Int32} (hr : r ≤ 2) (h0 : okW r w0) : ∀ (pend : List Int32) (f c L : Nat) (M : Mem), pend.length < f → c + pend.length + w0.length ≤ 20 → L + pend.length ≤ 600 → exS M nx o (pend ++ w0) L F → (∀ x, x ∈ pend → r ≤ rkW x) → (∀ j, j < pend.length → pend.getD j 0 = F (L + j)) →
    Yo (fX4_emitWaiting_l2 N 111 (nI r) f (nI c) M) (fun x => exS x nx o w0 (L + pend.length) F ∧ kpC M x ∧ ∀ k, k ≠ 6 → rI x 111 k = rI M 111 k) := by
  intro pend
  induction pend with
  | nil =>
    intro f c L M hf hc hL hx hp hj
    obtain ⟨f', rfl⟩ : ∃ f', f = f' + 1 := ⟨f - 1, by simp at hf; omega⟩
    show Yo (fX4_emitWaiting_l2_s N 111 (nI r) (fX4_emitWaiting_l2 N 111 (nI r) f') (nI c) M) _
    unfold fX4_emitWaiting_l2_s
    have fin : Yo (some M) (fun x => exS x nx o w0 (L + ([] : List Int32).length) F ∧ kpC M x ∧ ∀ k, k ≠ 6 → rI x 111 k = rI M 111 k) := yo_s.mpr ⟨hx, kpC.refl, fun _ _ => rfl⟩
    refine yo_i (fun _ => fin) (fun _ => yo_i (fun _ => fin) (fun h6 => ?_))
    have h6' : rI M 111 6 = nI w0.length := hx.2.2.1
    simp only [List.length_nil] at hc
    cases w0 with
    | nil => exact absurd (show rI M 111 6 ≤ 0 by rw [h6']; decide) h6
    | cons x s =>
      obtain ⟨g1, g2⟩ := stk_tl (show stk M 120 (x :: s) from hx.2.2.2.1)
      simp only [List.length_cons] at h6' hc
      have g1' : rI M (111 + 9) s.length = x := g1
      rw [h6', nI_pred, if_pos (inB_nI (by omega) (by decide)), nI_clamp (by omega), g1', rank_ok, Option.bind_some, if_neg (nI_ge (h0 x s rfl) (by omega))]
      exact fin
  | cons x pend ih =>
    intro f c L M hf hc hL hx hp hj
    simp only [List.length_cons] at hf hc hL
    obtain ⟨f', rfl⟩ : ∃ f', f = f' + 1 := ⟨f - 1, by omega⟩
    show Yo (fX4_emitWaiting_l2_s N 111 (nI r) (fX4_emitWaiting_l2 N 111 (nI r) f') (nI c) M) _
    unfold fX4_emitWaiting_l2_s
    obtain ⟨h1, h2, h3, h4, h5, h6⟩ := hx
    have h3' : rI M 111 6 = nI ((pend ++ w0).length + 1) := h3
    obtain ⟨g1, g2⟩ := stk_tl (show stk M 120 (x :: (pend ++ w0)) from h4)
    have hlen : (pend ++ w0).length = pend.length + w0.length := List.length_append
    have g1' : rI M (111 + 9) (pend ++ w0).length = x := g1
    have hF0 : x = F L := hj 0 (by simp)
    rw [if_neg (show ¬ (20 : Int32) ≤ nI c from nI_ge (b := 20) (by omega) (by decide)), h3', if_neg (nI_nle (by omega) (by omega)), nI_pred, if_pos (inB_nI (by omega) (by decide)), nI_clamp (by omega), g1', rank_ok, Option.bind_some, if_pos (nI_le (hp x (by simp)) (by have := rkW_le x; omega))]
    show Yo ((fX6_emit 112 x M).bind _) _
    rw [emit_ok x h5 (by omega), Option.bind_some]
    have e6 : rI (wI (wI M 113 L x) 112 4 (nI (L + 1))) 111 6 = nI ((pend ++ w0).length + 1) := by rw [rI_wI, if_neg (by omega), rI_wI, if_neg (by omega)]; exact h3'
    rw [e6, nI_pred, nI_1]
    have ek : ∀ k, k ≠ 6 → rI (wI (wI (wI M 113 L x) 112 4 (nI (L + 1))) 111 6 (nI (pend ++ w0).length)) 111 k = rI M 111 k := fun k hk => by rw [rI_wI, if_neg (fun z => hk z.2), rI_wI, if_neg (by omega), rI_wI, if_neg (by omega)]
    refine (ih f' (c + 1) (L + 1) _ (by omega) (by omega) (by omega) ⟨(ek 12 (by decide)).trans h1, (ek 15 (by decide)).trans h2, ?_, stk_mv g2 (fun k _ => ?_), ?_, fun k hk => ?_⟩ (fun y hy => hp y (by simp [hy])) (fun j hj' => ?_)).to (fun y hy => ?_)
    · rw [rI_wI, if_pos ⟨rfl, rfl⟩]
    · rw [rI_wI, if_neg (by omega), rI_wI, if_neg (by omega), rI_wI, if_neg (by omega)]
    · rw [rI_wI, if_neg (by omega), rI_wI, if_pos ⟨rfl, rfl⟩]
    · rw [rI_wI, if_neg (by omega), rI_wI, if_neg (by omega), rI_wI]
      by_cases q : k = L
      · rw [if_pos ⟨rfl, q⟩, q]; exact hF0
      · rw [if_neg (fun z => q z.2)]; exact h6 k (by omega)
    · have := hj (j + 1) (by simp only [List.length_cons]; omega)
      rw [show L + 1 + j = L + (j + 1) by omega]
      simpa using this
    · obtain ⟨y1, y2, y3⟩ := hy
      refine ⟨?_, kpC.trans ⟨((smF.refl.pI_ (by decide) _ _).pI_ (by decide) _ _).pI_ (by decide) _ _, fun k hk => ek k (by omega), fun k hk => ?_⟩ y2, fun k hk => (y3 k hk).trans (ek k hk)⟩
      · rw [show L + (x :: pend).length = L + 1 + pend.length by simp only [List.length_cons]; omega]; exact y1
      · rw [rI_wI, if_neg (by omega), rI_wI, if_neg (fun z => hk z.2), rI_wI, if_neg (by omega)]
theorem emitW {N r nx o L : Nat} {w0 pend : List Int32} {F : Nat → Int32} {M : Mem} (hN : 700 ≤ N) (hr : r ≤ 2) (h0 : okW r w0) (hc : pend.length + w0.length ≤ 20) (hL : L + pend.length ≤ 600) (hx : exS M nx o (pend ++ w0) L F) (hp : ∀ x, x ∈ pend → r ≤ rkW x) (hj : ∀ j, j < pend.length → pend.getD j 0 = F (L + j)) :
    Yo (fX4_emitWaiting N 111 (nI r) M) (fun x => exS x nx o w0 (L + pend.length) F ∧ kpC M x ∧ ∀ k, k ≠ 6 → rI x 111 k = rI M 111 k) :=
  emitW_l hr h0 pend N 0 L M (by omega) (by omega) hL hx hp hj
theorem c_op {N n b o L : Nat} {w0 pend : List Int32} {F : Nat → Int32} {t : Nat → Nat} {M : Mem} (hN : 700 ≤ N) (h : clS M t n b 4 o (pend ++ w0) L F) (hs : stW (tkC t n b) ≠ 0) (h0 : okW (rkW (stW (tkC t n b))) w0) (hc : pend.length + w0.length ≤ 20) (hw : w0.length < 20) (hL : L + pend.length ≤ 600) (hp : ∀ x, x ∈ pend → rkW (stW (tkC t n b)) ≤ rkW x) (hj : ∀ j, j < pend.length → pend.getD j 0 = F (L + j)) :
    ∃ M2, leads N M b M2 (tkN t n (tkE t n b)) ∧ clS M2 t n (tkN t n (tkE t n b)) 3 o (stW (tkC t n b) :: w0) (L + pend.length) F ∧ kpC M M2 := by
  obtain ⟨hT, hbn, hC, hx⟩ := h
  have hb : b < n := by
    rcases Nat.lt_or_ge b n with c | c
    · exact c
    · have : tkC t n b = 0 := by unfold tkC; rw [if_neg (by omega)]
      rw [this] at hs
      exact absurd rfl hs
  have hlt := tkC_lt (fun j hj => (hT.2.2 j hj).1) b
  obtain ⟨M1, e1, ⟨x1, x2, x3, x4, x5, x6⟩, y, z⟩ := emitW hN (rkW_le _) h0 hc hL hx hp hj
  have ek : ∀ k, k ≠ 12 → k ≠ 6 → rI (wI (wI (wI M1 120 w0.length (stW (tkC t n b))) 111 6 (nI (w0.length + 1))) 111 12 3) 111 k = rI M1 111 k := fun k h1 h2 => by rw [rI_wI, if_neg (fun q => h1 q.2), rI_wI, if_neg (fun q => h2 q.2), rI_wI, if_neg (by omega)]
  refine ex_go (M1 := wI (wI (wI M1 120 w0.length (stW (tkC t n b))) 111 6 (nI (w0.length + 1))) 111 12 3) hN hT hb hC ?_ (y.trans ⟨((smF.refl.pI_ (by decide) _ _).pI_ (by decide) _ _).pI_ (by decide) _ _, fun k hk => ek k (by omega) (by omega), fun k hk => ?_⟩) ((ek 9 (by decide) (by decide)).trans (z 9 (by decide))) ⟨?_, (ek 15 (by decide) (by decide)).trans x2, ?_, ?_, ?_, fun k hk => ?_⟩
  · rw [acc_4 hT hC (fun q => by rw [q] at hs; exact absurd rfl hs) hx.1]
    unfold fX4_acceptOperator
    rw [hC.2.2.1, step_ok _ hlt, Option.bind_some, if_neg hs, rank_ok, Option.bind_some, e1, Option.bind_some, hold_ok _ x3 hw, Option.bind_some]
  · rw [rI_wI, if_neg (by omega), rI_wI, if_neg (by omega), rI_wI, if_neg (by omega)]
  · rw [rI_wI, if_pos ⟨rfl, rfl⟩]; rfl
  · rw [rI_wI, if_neg (by omega), rI_wI, if_pos ⟨rfl, rfl⟩]; rfl
  · exact stk_mv (stk_push x4 _) (fun k _ => by rw [rI_wI, if_neg (by omega), rI_wI, if_neg (by omega)])
  · rw [rI_wI, if_neg (by omega), rI_wI, if_neg (by omega), rI_wI, if_neg (by omega)]; exact x5
  · rw [rI_wI, if_neg (by omega), rI_wI, if_neg (by omega), rI_wI, if_neg (by omega)]; exact x6 k hk
theorem maxI_0 (k : Nat) (h : k < 100) : maxI (nI k) (0 : Int32) = nI k := (by decide +kernel : ∀ k, k < 100 → maxI (nI k) (0 : Int32) = nI k) k h
theorem okW_0 (s : List Int32) : okW 1 (0 :: s) := fun x s' h => by
  cases h
  decide
theorem okW_nil (r : Nat) : okW r [] := fun x s h => by cases h
theorem c_close {N n b o L : Nat} {w0 pend : List Int32} {F : Nat → Int32} {t : Nat → Nat} {M : Mem} (hN : 700 ≤ N) (h : clS M t n b 4 (o + 1) (pend ++ 0 :: w0) L F) (ho : o < 100) (ht : tkC t n b = 41) (hc : pend.length + w0.length + 1 ≤ 20) (hL : L + pend.length ≤ 600) (hp : ∀ x, x ∈ pend → 1 ≤ rkW x) (hj : ∀ j, j < pend.length → pend.getD j 0 = F (L + j)) :
    ∃ M2, leads N M b M2 (tkN t n (tkE t n b)) ∧ clS M2 t n (tkN t n (tkE t n b)) 4 o w0 (L + pend.length) F ∧ kpC M M2 := by
  obtain ⟨hT, hbn, hC, hx⟩ := h
  have hb : b < n := by
    rcases Nat.lt_or_ge b n with c | c
    · exact c
    · have : tkC t n b = 0 := by unfold tkC; rw [if_neg (by omega)]
      omega
  obtain ⟨M1, e1, ⟨x1, x2, x3, x4, x5, x6⟩, y, z⟩ := emitW (r := 1) hN (by omega) (okW_0 w0) (by simp only [List.length_cons]; omega) hL hx hp hj
  have x3' : rI M1 111 6 = nI (w0.length + 1) := x3
  have ek : ∀ k, k ≠ 15 → k ≠ 6 → rI (wI (wI M1 111 6 (nI w0.length)) 111 15 (nI o)) 111 k = rI M1 111 k := fun k h1 h2 => by rw [rI_wI, if_neg (fun q => h1 q.2), rI_wI, if_neg (fun q => h2 q.2)]
  refine ex_go (M1 := wI (wI M1 111 6 (nI w0.length)) 111 15 (nI o)) hN hT hb hC ?_ (y.trans ⟨(smF.refl.pI_ (by decide) _ _).pI_ (by decide) _ _, fun k hk => ek k (by omega) (by omega), fun k hk => ?_⟩) ((ek 9 (by decide) (by decide)).trans (z 9 (by decide))) ⟨(ek 12 (by decide) (by decide)).trans x1, ?_, ?_, ?_, ?_, fun k hk => ?_⟩
  · rw [acc_4 hT hC (by omega) hx.1]
    unfold fX4_acceptOperator
    rw [hC.2.2.1, ht, step_ok 41 (by omega), Option.bind_some, if_pos (by decide), if_pos (by decide), hx.2.1, if_neg (nI_nle (by omega) (by omega))]
    show ((fX4_emitWaiting N 111 (nI 1) M).bind _) = _
    rw [e1, Option.bind_some, x3', nI_pred, maxI_0 _ (by omega), show rI (wI M1 111 6 (nI w0.length)) 111 15 = nI (o + 1) by rw [rI_wI, if_neg (by omega)]; exact x2, nI_pred]
  · rw [rI_wI, if_neg (by omega), rI_wI, if_neg (by omega)]
  · rw [rI_wI, if_pos ⟨rfl, rfl⟩]
  · rw [rI_wI, if_neg (by omega), rI_wI, if_pos ⟨rfl, rfl⟩]
  · exact stk_mv (stk_tl x4).2 (fun k _ => by rw [rI_wI, if_neg (by omega), rI_wI, if_neg (by omega)])
  · rw [rI_wI, if_neg (by omega), rI_wI, if_neg (by omega)]; exact x5
  · rw [rI_wI, if_neg (by omega), rI_wI, if_neg (by omega)]; exact x6 k hk
/-- no operator, no bracket to close, no end -/
theorem c_noOp {N n b o L : Nat} {w : List Int32} {F : Nat → Int32} {t : Nat → Nat} {M : Mem} (hN : 700 ≤ N) (h : clS M t n b 4 o w L F) (ho : o < 100) (ht : stW (tkC t n b) = 0 ∧ (tkC t n b = 41 → o = 0) ∧ (tkC t n b = 59 → 0 < o)) : stops N M b (if tkC t n b = 1 then 1 else 2) b := by
  obtain ⟨hT, hbn, hC, hx⟩ := h
  have hlt := tkC_lt (fun j hj => (hT.2.2 j hj).1) b
  rcases Nat.lt_or_ge b n with hb | hb
  · by_cases c1 : tkC t n b = 1
    · rw [if_pos c1]
      exact acc_stop hN hT hb hC (by omega) (by omega) (acc_bad hC c1) hC.1 smF.refl
    · rw [if_neg c1]
      refine acc_stop (M1 := M) hN hT hb hC (by omega) (by omega) ?_ hC.1 smF.refl
      rw [acc_4 hT hC c1 hx.1]
      unfold fX4_acceptOperator
      rw [hC.2.2.1, step_ok _ hlt, Option.bind_some, if_pos ht.1]
      have e79 : fX4_acceptOperator_b79 N 111 M = some (nI 2, M) := by
        unfold fX4_acceptOperator_b79 fX4_acceptOperator_b109
        by_cases c59 : tkC t n b = 59
        · rw [if_pos ((tok_eq hT hC 59 59 rfl (by omega)).mpr c59), hx.2.1, if_neg (nI_ne0 (ht.2.2 c59) (by omega))]
          rfl
        · rw [if_neg (fun z => c59 ((tok_eq hT hC 59 59 rfl (by omega)).mp z))]
          rfl
      by_cases c41 : tkC t n b = 41
      · rw [if_pos (show nI (tkC t n b) = (41 : Int32) by rw [c41]; rfl), hx.2.1, ht.2.1 c41, if_pos (by decide)]
        exact e79
      · rw [if_neg (fun z => c41 (by have z' : nI (tkC t n b) = nI 41 := z; rw [nI_eq (by omega) (by omega)] at z'; exact z'))]
        exact e79
  · have e0 : tkC t n b = 0 := by unfold tkC; rw [if_neg (by omega)]
    rw [e0, if_neg (by omega)]
    exact end_stop hN hT (by omega) hC (by omega) (by omega) hx.1
