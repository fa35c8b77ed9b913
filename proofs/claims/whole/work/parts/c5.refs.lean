/-! RULES: the reference's small calls -/
theorem spW_two {t : Nat → Nat} {b e s s' : Nat} (h : spW t b e s = true) (h' : spW t b e s' = true) : bytS s = bytS s' := by
  have h1 := of_decide_eq_true h
  have h2 := of_decide_eq_true h'
  have e1 : lenS s = lenS s' := by omega
  refine List.ext_getElem e1 (fun i hi hi' => ?_)
  have g1 := h1.2 i hi
  have g2 := h2.2 i hi'
  rw [g1] at g2
  simpa [List.getD_eq_getElem?_getD, hi, hi'] using g2
theorem spW_like {t : Nat → Nat} {b e s s' : Nat} (h : bytS s = bytS s') : spW t b e s = spW t b e s' := by
  unfold spW lenS
  rw [h]
theorem wdC_iff (t : Nat → Nat) (b e : Nat) (k : Nat) (hk : 1 ≤ k) (hk6 : k ≤ 6) : wdC t b e = k + 2 ↔ spW t b e k = true := by
  have ex : ∀ s, s ∈ [1, 2, 3, 4, 5, 6] → s ≠ k → spW t b e k = true → ¬ spW t b e s = true := by
    intro s hs hne h h'
    have e1 := spW_two h h'
    have : ∀ s ∈ [1, 2, 3, 4, 5, 6], ∀ k ∈ [1, 2, 3, 4, 5, 6], s ≠ k → bytS k ≠ bytS s := by decide +kernel
    exact this s hs k (by simp; omega) hne e1
  unfold wdC
  constructor
  · intro h
    split at h
    · rename_i q; rw [show k = 1 by omega]; exact q
    · split at h
      · rename_i q; rw [show k = 2 by omega]; exact q
      · split at h
        · rename_i q; rw [show k = 3 by omega]; exact q
        · split at h
          · rename_i q; rw [show k = 4 by omega]; exact q
          · split at h
            · rename_i q; rw [show k = 5 by omega]; exact q
            · split at h
              · rename_i q; rw [show k = 6 by omega]; exact q
              · omega
  · intro h
    by_cases k1 : k = 1
    · subst k1; rw [if_pos h]
    · rw [if_neg (ex 1 (by decide) (by omega) h)]
      by_cases k2 : k = 2
      · subst k2; rw [if_pos h]
      · rw [if_neg (ex 2 (by decide) (by omega) h)]
        by_cases k3 : k = 3
        · subst k3; rw [if_pos h]
        · rw [if_neg (ex 3 (by decide) (by omega) h)]
          by_cases k4 : k = 4
          · subst k4; rw [if_pos h]
          · rw [if_neg (ex 4 (by decide) (by omega) h)]
            by_cases k5 : k = 5
            · subst k5; rw [if_pos h]
            · rw [if_neg (ex 5 (by decide) (by omega) h)]
              have k6 : k = 6 := by omega
              subst k6; rw [if_pos h]
/-- which tokens there are -/
theorem tkC_cases (t : Nat → Nat) (n b : Nat) : tkC t n b ≤ 9 ∨ 37 ≤ tkC t n b := by
  unfold tkC
  split
  · split
    · left
      unfold wdC
      repeat' split
      all_goals omega
    · split
      · left; split <;> omega
      · split
        · right
          rename_i q
          have := of_decide_eq_true q
          omega
        · left; omega
  · left; omega
theorem tkC_word {t : Nat → Nat} {n b : Nat} (h : 3 ≤ tkC t n b) (h9 : tkC t n b ≤ 9) : b < n ∧ uL (t b) = true ∧ tkC t n b = wdC t b (tkE t n b) := by
  unfold tkC at h h9 ⊢
  split at h
  · rename_i c
    rw [if_pos c] at h9 ⊢
    split at h
    · rename_i q
      rw [if_pos q]
      exact ⟨c, q, rfl⟩
    · rename_i q
      rw [if_neg q] at h9
      split at h
      · split at h <;> omega
      · rename_i q2
        rw [if_neg q2] at h9
        split at h
        · rename_i q3
          rw [if_pos q3] at h9
          have := of_decide_eq_true q3
          omega
        · omega
  · omega
theorem rkC_lt (c : Nat) : rkC c < 5 := by
  unfold rkC
  repeat' split
  all_goals omega
theorem rkC_sign {c : Nat} (h : c ≤ 9 ∨ 37 ≤ c) : nI (rkC c) = 3 ↔ 37 ≤ c := by
  have e : (3 : Int32) = nI 3 := rfl
  have b := rkC_lt c
  rw [e, nI_eq (by omega) (by omega)]
  unfold rkC
  repeat' split
  all_goals omega
theorem rkC_word {c : Nat} : nI (rkC c) = 1 ↔ 3 ≤ c ∧ c ≤ 9 := by
  have e : (1 : Int32) = nI 1 := rfl
  have b := rkC_lt c
  rw [e, nI_eq (by omega) (by omega)]
  unfold rkC
  repeat' split
  all_goals omega
theorem rkC_num {c : Nat} : nI (rkC c) = 2 ↔ c = 2 := by
  have e : (2 : Int32) = nI 2 := rfl
  have b := rkC_lt c
  rw [e, nI_eq (by omega) (by omega)]
  unfold rkC
  repeat' split
  all_goals omega
theorem rkC_bad {c : Nat} : nI (rkC c) = 4 ↔ c = 1 := by
  have e : (4 : Int32) = nI 4 := rfl
  have b := rkC_lt c
  rw [e, nI_eq (by omega) (by omega)]
  unfold rkC
  repeat' split
  all_goals omega
theorem rkC_end {c : Nat} : nI (rkC c) = 0 ↔ c = 0 := by
  have e : (0 : Int32) = nI 0 := rfl
  have b := rkC_lt c
  rw [e, nI_eq (by omega) (by omega)]
  unfold rkC
  repeat' split
  all_goals omega
theorem r_isSign {n b : Nat} {t : Nat → Nat} {M : Mem} (h : lxU M n t) (hR : lxR M t n b) (h14 : rI M 140 14 = 0) (c : Nat) (v : Int32) (hv : v = nI c) (hc : 37 ≤ c) (hc2 : c < 256) : fX11_isSign 140 v M = some (decide (tkC t n b = c)) := by
  subst hv
  unfold fX11_isSign fX11_isSign_b27
  have h1 := tkC_cases t n b
  have h2 := tkC_lt (fun j hj => (h.2.2 j hj).1) b
  rw [if_pos h14, hR.2.2.1]
  by_cases q : 37 ≤ tkC t n b
  · rw [if_pos ((rkC_sign h1).mpr q), hR.2.2.2.2 (by omega)]
    by_cases e : tkC t n b = c
    · rw [if_pos (by rw [e]), decide_eq_true e]
    · rw [if_neg (fun z => e (by rw [nI_eq (by omega) (by omega)] at z; exact z)), decide_eq_false e]
  · rw [if_neg (fun z => q ((rkC_sign h1).mp z)), decide_eq_false (by omega)]
theorem r_noSign {M : Mem} (h14 : ¬ rI M 140 14 = 0) (v : Int32) : fX11_isSign 140 v M = some false := by
  unfold fX11_isSign fX11_isSign_b27
  rw [if_neg h14]
theorem r_blames {n b : Nat} {t : Nat → Nat} {M : Mem} (hR : lxR M t n b) (h14 : rI M 140 14 = 0) (k : Nat) (v : Int32) (hv : v = nI k) : fX11_blames 140 v M = some (wI (wI M 140 14 (nI (if tkC t n b = 1 then 1 else k))) 140 15 (nI b)) := by
  subst hv
  unfold fX11_blames fX11_blames_b22
  rw [if_pos h14, hR.2.2.1]
  have e : ∀ v : Int32, rI (wI M 140 14 v) 140 10 = nI b := fun v => by rw [rI_wI, if_neg (by omega)]; exact hR.1
  by_cases q : tkC t n b = 1
  · rw [if_pos (rkC_bad.mpr q), if_pos q, e]
    rfl
  · rw [if_neg (fun z => q (rkC_bad.mp z)), if_neg q, e]
theorem r_noBlame {M : Mem} (h14 : ¬ rI M 140 14 = 0) (v : Int32) : fX11_blames 140 v M = some M := by
  unfold fX11_blames
  rw [if_neg h14]
theorem isW_0 {N s : Nat} {M : Mem} (hN : 700 ≤ N) : fX11_isWord_b35 N 140 s M = some false := by
  unfold fX11_isWord_b35 fX11_isWord_b36
  obtain ⟨f, rfl⟩ : ∃ f, N = f + 1 := ⟨N - 1, by omega⟩
  show fX11_isWord_l39_s (f + 1) 140 s M (fX11_isWord_l39 (f + 1) 140 s M f) false 0 = _
  unfold fX11_isWord_l39_s fX11_isWord_b82
  rw [if_neg (by decide)]
theorem isW_1 {N n s b : Nat} {t : Nat → Nat} {M : Mem} (hN : 700 ≤ N) (hs : s ∈ wdS) (h : lxU M n t) (h10 : rI M 140 10 = nI b) (hb : b + lenS s ≤ n) : fX11_isWord_b36 N 140 s true M = some (spW t b (b + lenS s) s) := by
  have hn := h.1
  obtain ⟨s40, s5⟩ := wdS_lt s hs
  unfold fX11_isWord_b36
  rw [← yo_eq]
  refine yo_f2 (F := fX11_isWord_l39 N 140 s M) (lenS s + 1) (fun j v2 v => (v2 = true ∧ j ≤ lenS s ∧ v = nI j ∧ ∀ i, i < j → nI (t (b + i)) = (bytS s).getD i 0) ∨ (v2 = false ∧ spW t b (b + lenS s) s = false)) ?_ N 0 _ _ (by omega) (by omega) (Or.inl ⟨rfl, by omega, rfl, fun i hi => absurd hi (Nat.not_lt_zero i)⟩)
  intro f j v2 v hj hI ih
  show Yo (fX11_isWord_l39_s N 140 s M (fX11_isWord_l39 N 140 s M f) v2 v) _
  unfold fX11_isWord_l39_s fX11_isWord_b82 fX11_isWord_b75
  rcases hI with ⟨h2, hjl, hv, hi⟩ | ⟨h2, hf⟩
  · subst h2 hv
    rw [if_pos rfl, k_len s s40, Option.bind_some]
    rcases Nat.lt_or_ge j (lenS s) with hlt | hge
    · have e6 : rI M (140 + 6) (b + j) = nI (t (b + j)) := (h.2.2 (b + j) (by omega)).2
      rw [if_neg (nI_ge hlt (by omega)), h10, nI_add, if_pos (inB_nI (by omega) (by decide)), k_char s hs j hlt, Option.bind_some, nI_clamp (by omega), e6, nI_1]
      by_cases q : nI (t (b + j)) = (bytS s).getD j 0
      · rw [if_pos q]
        refine ih _ _ (by omega) (Or.inl ⟨rfl, by omega, rfl, fun i hi' => ?_⟩)
        by_cases z : i = j
        · rw [z]; exact q
        · exact hi i (by omega)
      · rw [if_neg q]
        exact ih _ _ (by omega) (Or.inr ⟨rfl, decide_eq_false (fun z => q (z.2 j hlt))⟩)
    · have ej : j = lenS s := by omega
      subst ej
      rw [if_pos (nI_le hge (by omega)), yo_s]
      exact (decide_eq_true ⟨rfl, hi⟩).symm
  · subst h2
    rw [if_neg (by decide), yo_s]
    exact hf.symm
theorem r_isWord {N n b s k : Nat} {t : Nat → Nat} {M : Mem} (hN : 700 ≤ N) (h : lxU M n t) (hR : lxR M t n b) (h14 : rI M 140 14 = 0) (hs : s ∈ wdS) (hk : 1 ≤ k) (hk6 : k ≤ 6) (he : bytS s = bytS k) : fX11_isWord N 140 s M = some (decide (tkC t n b = k + 2)) := by
  have hn := h.1
  obtain ⟨s40, s5⟩ := wdS_lt s hs
  unfold fX11_isWord
  rw [if_pos h14, hR.2.2.1]
  by_cases q : 3 ≤ tkC t n b ∧ tkC t n b ≤ 9
  · obtain ⟨hb, _, hw⟩ := tkC_word q.1 q.2
    have g1 := tkE_gt (t := t) hb
    have g2 := tkE_le (t := t) (n := n) (b := b) (by omega)
    rw [if_pos (rkC_word.mpr q), k_len s s40, Option.bind_some, hR.1, hR.2.1, nI_sub (by omega)]
    have e1 : tkC t n b = k + 2 ↔ spW t b (tkE t n b) s = true := by rw [hw, spW_like he]; exact wdC_iff t b _ k hk hk6
    by_cases c : tkE t n b - b = lenS s
    · rw [if_pos (by rw [c]), isW_1 hN hs h hR.1 (by omega)]
      rw [show b + lenS s = tkE t n b by omega]
      congr 1
      cases e : spW t b (tkE t n b) s
      · exact (decide_eq_false (fun z => by rw [e1.mp z] at e; cases e)).symm
      · exact (decide_eq_true (e1.mpr e)).symm
    · rw [if_neg (fun z => c (by rw [nI_eq (by omega) (by omega)] at z; exact z)), isW_0 hN]
      congr 1
      refine (decide_eq_false (fun z => c ?_)).symm
      have := (of_decide_eq_true (e1.mp z)).1
      omega
  · rw [if_neg (fun z => q (rkC_word.mp z)), isW_0 hN]
    congr 1
    exact (decide_eq_false (fun z => q (by omega))).symm
theorem r_noWord {N s : Nat} {M : Mem} (hN : 700 ≤ N) (h14 : ¬ rI M 140 14 = 0) : fX11_isWord N 140 s M = some false := by
  unfold fX11_isWord
  rw [if_neg h14, isW_0 hN]
theorem r_code {L : Nat} {M : Mem} (v w : Int32) (h14 : rI M 140 14 = 0) (h : rI M 142 18 = nI L) (hL : L < 600) : fX11_code 140 v w M = some (wI (wI (wI M 142 (20 + 2 * L) v) 142 (21 + 2 * L) w) 142 18 (nI (L + 1))) := by
  unfold fX11_code
  have c18 : (18 : Int32).toNatClampNeg = 18 := rfl
  have g1 : rI M (140 + 2) 18 = nI L := h
  have e20 : (20 : Int32) + (2 : Int32) * nI L = nI (20 + 2 * L) := by rw [li_20, li_2, pk_mul, nI_add]
  have e21 : nI (20 + 2 * L) + (1 : Int32) = nI (21 + 2 * L) := by rw [nI_1]; congr 1; omega
  have g2 : rI (wI M (140 + 2) (20 + 2 * L) v) (140 + 2) 18 = nI L := by rw [rI_wI, if_neg (by omega)]; exact h
  have g3 : rI (wI (wI M (140 + 2) (20 + 2 * L) v) (140 + 2) (21 + 2 * L) w) (140 + 2) 18 = nI L := by rw [rI_wI, if_neg (by omega), rI_wI, if_neg (by omega)]; exact h
  have i18 : inB (18 : Int32) 3268 = true := by decide
  rw [if_pos h14, if_pos i18, c18, g1, e20, if_pos (inB_nI (by omega) (by decide)), if_pos i18, nI_clamp (by omega), g2, e20, e21, if_pos (inB_nI (by omega) (by decide)), if_pos i18, if_pos i18, nI_clamp (by omega), g3, nI_1]
theorem r_noCode {M : Mem} (v w : Int32) (h14 : ¬ rI M 140 14 = 0) : fX11_code 140 v w M = some M := by
  unfold fX11_code
  rw [if_neg h14]
/-! the reference at a token -/
def rfS (M : Mem) (t : Nat → Nat) (n b o L : Nat) : Prop := lxU M n t ∧ b ≤ n ∧ lxR M t n b ∧ rI M 140 14 = 0 ∧ rI M 140 13 = nI o ∧ rI M 142 18 = nI L ∧ L ≤ 600
def kpR (M M' : Mem) (L : Nat) : Prop := smF [140, 142] M M' ∧ (∀ k, k < 9 ∨ 16 ≤ k → rI M' 140 k = rI M 140 k) ∧ (∀ k, k < 18 ∨ k = 19 ∨ (20 ≤ k ∧ k < 20 + 2 * L) ∨ 1220 ≤ k → rI M' 142 k = rI M 142 k)
def kqR (M M' : Mem) : Prop := smF [140, 142] M M' ∧ (∀ k, k < 9 ∨ 16 ≤ k → rI M' 140 k = rI M 140 k)
theorem kpR.trans {M M' M'' : Mem} {L L' : Nat} (h : kpR M M' L) (h' : kpR M' M'' L') (hL : L ≤ L') : kpR M M'' L :=
  ⟨h.1.trans h'.1, fun k hk => (h'.2.1 k hk).trans (h.2.1 k hk), fun k hk => (h'.2.2 k (by omega)).trans (h.2.2 k hk)⟩
theorem kpR.q {M M' : Mem} {L : Nat} (h : kpR M M' L) : kqR M M' := ⟨h.1, h.2.1⟩
theorem kqR.trans {M M' M'' : Mem} (h : kqR M M') (h' : kqR M' M'') : kqR M M'' := ⟨h.1.trans h'.1, fun k hk => (h'.2 k hk).trans (h.2 k hk)⟩
theorem kqR.w {M : Mem} {k : Nat} {v : Int32} (hk : 9 ≤ k ∧ k < 16) : kqR M (wI M 140 k v) := ⟨smF.refl.pI_ (by decide) _ _, fun j hj => by rw [rI_wI, if_neg (by omega)]⟩
theorem rfS.rd {N n b o L : Nat} {t : Nat → Nat} {M : Mem} (hN : 700 ≤ N) (h : rfS M t n b o L) : Yo (fX11_reads N 140 M) (fun x => rfS x t n (tkN t n (tkE t n b)) o L ∧ smF [140] M x ∧ (∀ k, k < 9 ∨ 13 ≤ k → rI x 140 k = rI M 140 k) ∧ kpR M x L) := by
  obtain ⟨h1, h2, h3, h4, h5, h6, h7⟩ := h
  refine (reads_ok hN h1 h3.2.1 (tkE_le h2)).to (fun x hx => ?_)
  obtain ⟨x1, x2, x3⟩ := hx
  exact ⟨⟨h1.mv (x2 8 (by omega)) (x1 146 (by decide)), tkN_le (tkE_le h2), x3, (x2 14 (by omega)).trans h4, (x2 13 (by omega)).trans h5, (by rw [x1.I_ (by decide)]; exact h6), h7⟩, x1, x2, ⟨x1.mono (by decide), fun k hk => x2 k (by omega), fun k _ => x1.I_ (by decide) k⟩⟩
def Fr (M : Mem) (k : Nat) : Int32 := encV (rI M 142 (20 + 2 * k)) (rI M 142 (21 + 2 * k))
theorem Fr_sm {M M' : Mem} (h : M' 142 = M 142) (k : Nat) : Fr M' k = Fr M k := by unfold Fr; rw [eqs_rI h, eqs_rI h]
theorem kpR.F {M M' : Mem} {L : Nat} (h : kpR M M' L) {k : Nat} (hk : k < L) : Fr M' k = Fr M k := by
  unfold Fr
  rw [h.2.2 _ (by omega), h.2.2 _ (by omega)]
/-- an operator or operand comes behind the code -/
theorem rfS.cd {n b o L : Nat} {t : Nat → Nat} {M : Mem} (h : rfS M t n b o L) (hb : L < 600) (v w : Int32) : ∃ M1, fX11_code 140 v w M = some M1 ∧ rfS M1 t n b o (L + 1) ∧ kpR M M1 L ∧ rI M1 142 (20 + 2 * L) = v ∧ rI M1 142 (21 + 2 * L) = w ∧ ∀ k, rI M1 140 k = rI M 140 k := by
  obtain ⟨h1, h2, h3, h4, h5, h6, h7⟩ := h
  have e : ∀ k, rI (wI (wI (wI M 142 (20 + 2 * L) v) 142 (21 + 2 * L) w) 142 18 (nI (L + 1))) 140 k = rI M 140 k := fun k => by rw [rI_wI, if_neg (by omega), rI_wI, if_neg (by omega), rI_wI, if_neg (by omega)]
  have s : smF [142] M (wI (wI (wI M 142 (20 + 2 * L) v) 142 (21 + 2 * L) w) 142 18 (nI (L + 1))) := ((smF.refl.pI_ (by decide) _ _).pI_ (by decide) _ _).pI_ (by decide) _ _
  refine ⟨_, r_code v w h4 h6 hb, ⟨h1.mv (e 8) (s 146 (by decide)), h2, ?_, (e 14).trans h4, (e 13).trans h5, ?_, by omega⟩, ⟨s.mono (by decide), fun k _ => e k, fun k hk => ?_⟩, ?_, ?_, e⟩
  · unfold lxR
    rw [e, e, e, e]
    exact h3
  · rw [rI_wI, if_pos ⟨rfl, rfl⟩]
  · rw [rI_wI, if_neg (by omega), rI_wI, if_neg (by omega), rI_wI, if_neg (by omega)]
  · rw [rI_wI, if_neg (by omega), rI_wI, if_neg (by omega), rI_wI, if_pos ⟨rfl, rfl⟩]
  · rw [rI_wI, if_neg (by omega), rI_wI, if_pos ⟨rfl, by omega⟩]
def okD (T : Nat → Int32) : Nat → Nat → Nat → Nat → Prop
  | 0, _, d, d' => d = d'
  | c + 1, k, d, d' => (isNumV (T (20 + 2 * k)) (T (21 + 2 * k)) ∧ d < 16 ∧ okD T c (k + 1) (d + 1) d') ∨ (isOpV (T (20 + 2 * k)) ∧ 2 ≤ d ∧ okD T c (k + 1) (d - 1) d')
theorem okD_V {T : Nat → Int32} : ∀ c k d, okD T c k d 1 → okV T c k d
  | 0, _, _, h => h
  | c + 1, k, d, h => by
    unfold okD at h
    unfold okV
    rcases h with ⟨h1, h2, h3⟩ | ⟨h1, h2, h3⟩
    · exact Or.inl ⟨h1, h2, okD_V c _ _ h3⟩
    · exact Or.inr ⟨h1, h2, okD_V c _ _ h3⟩
theorem okD_app {T : Nat → Int32} {e d1 d2 : Nat} : ∀ a k d, okD T a k d d1 → okD T e (k + a) d1 d2 → okD T (a + e) k d d2
  | 0, k, d, h, h' => by
    have h : d = d1 := h
    subst h
    rw [Nat.zero_add]
    exact h'
  | a + 1, k, d, h, h' => by
    rw [show a + 1 + e = (a + e) + 1 by omega]
    rw [show k + (a + 1) = k + 1 + a by omega] at h'
    unfold okD at h ⊢
    rcases h with ⟨h1, h2, h3⟩ | ⟨h1, h2, h3⟩
    · exact Or.inl ⟨h1, h2, okD_app a _ _ h3 h'⟩
    · exact Or.inr ⟨h1, h2, okD_app a _ _ h3 h'⟩
theorem okD_mv {T T' : Nat → Int32} {d' : Nat} : ∀ c k d, (∀ j, 20 + 2 * k ≤ j → j < 20 + 2 * (k + c) → T' j = T j) → okD T c k d d' → okD T' c k d d'
  | 0, _, _, _, h => h
  | c + 1, k, d, e, h => by
    unfold okD at h ⊢
    rw [e (20 + 2 * k) (by omega) (by omega), e (21 + 2 * k) (by omega) (by omega)]
    rcases h with ⟨h1, h2, h3⟩ | ⟨h1, h2, h3⟩
    · exact Or.inl ⟨h1, h2, okD_mv c _ _ (fun j hj hj' => e j (by omega) (by omega)) h3⟩
    · exact Or.inr ⟨h1, h2, okD_mv c _ _ (fun j hj hj' => e j (by omega) (by omega)) h3⟩
