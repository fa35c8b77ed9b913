/-! RULES: the whole call, in step -/
theorem evV_ind {T : Nat → Int32} {name bound bound' : Int32} : ∀ (c k : Nat) (s : List Int32), (∀ j, k ≤ j → j < k + c → T (20 + 2 * j) ≠ 2) → evV T name bound c k s = evV T name bound' c k s
  | 0, _, _, _ => rfl
  | c + 1, k, s, h => by
    rw [evV_s, evV_s]
    have h2 := h k (Nat.le_refl k) (by omega)
    have e : stV (T (20 + 2 * k)) (T (21 + 2 * k)) name bound s = stV (T (20 + 2 * k)) (T (21 + 2 * k)) name bound' s := by
      unfold stV
      rw [if_neg h2, if_neg h2]
    rw [e]
    exact evV_ind c (k + 1) _ (fun j j1 j2 => h j (by omega) (by omega))
theorem dfT.cR {Mc : Mem} {T : Nat → Int32} {L W g m : Nat} (h : dfT Mc T L W g m) (hL : L ≤ 600) : cR0 Mc 112 T W g m := by
  obtain ⟨⟨f1, f2, f3, f4⟩, ⟨f5, f6, f7, f8⟩, ⟨f9, f10, f11⟩, f12, ⟨f13, f14⟩, f15, p, q, t1, t2, t3, t4, t5, t6, t7⟩ := h
  refine ⟨⟨f1, f2, f3, f5, f6, f7, f9, f10, fun w hw => ?_, ?_⟩, f12, f4, f8, f11, fun w hw => ?_, ⟨t5.trans t3.symm, t6.trans t4.symm, fun k k1 k2 => ?_⟩, fun w hw hb name bound bound' => ?_⟩
  · obtain ⟨p, q, h1, h2, h3, h4, h5, h6, h7, h8⟩ := f15 w hw
    exact ⟨p, q, h1, by omega, h3, h4, okD_V _ _ _ h5⟩
  · rcases t7 with z | z
    · left; rw [t3, t4, z]
    · right
      refine ⟨⟨p, q, t1, by omega, t3, t4, okD_V _ _ _ z⟩, fun e => ?_⟩
      rw [t3, t4, nI_eq (by omega) (by omega)] at e
      rw [e, Nat.sub_self] at z
      exact absurd (show (0 : Nat) = 1 from z) (by decide)
  · obtain ⟨p, q, h1, h2, h3, h4, h5, h6, h7, h8⟩ := f15 w hw
    refine ⟨h6.trans h3.symm, h7.trans h4.symm, fun k k1 k2 => f14 k ?_⟩
    unfold tn at k2
    rw [h4, nI_clamp (by omega)] at k2
    omega
  · unfold tn at k2
    rw [t4, nI_clamp (by omega)] at k2
    exact f14 k (by omega)
  · obtain ⟨p, q, h1, h2, h3, h4, h5, h6, h7, h8⟩ := f15 w hw
    rw [valT_seg h3 h4 h1 (by omega), valT_seg h3 h4 h1 (by omega), evV_ind (bound := bound) (bound' := bound') _ _ _ (fun j j1 j2 => h8 hb j j1 (by omega))]
def dfC (Mc : Mem) : Prop := ∀ k, k < 8 → rI Mc 112 k = if k = 1 then 64 else if k = 2 then 16 else 0
theorem dfT_0 {Mc : Mem} {T : Nat → Int32} (hc : dfC Mc) (hT : ∀ k, k < 20 → T k = bgT 4 k) : dfT Mc T 0 64 16 0 := by
  have t : ∀ k, k < 20 → k ≠ 1 → k ≠ 2 → T k = 0 := fun k hk h1 h2 => by
    rw [hT k hk]
    unfold bgT
    rw [if_neg h1, if_neg h2, if_neg (by omega)]
  refine ⟨⟨by omega, by omega, hT 1 (by omega), hc 1 (by omega)⟩, ⟨by omega, by omega, hT 2 (by omega), hc 2 (by omega)⟩, ⟨by omega, t 3 (by omega) (by omega) (by omega), hc 3 (by omega)⟩, ?_, ⟨hc 4 (by omega), fun k hk => absurd hk (Nat.not_lt_zero k)⟩, fun w hw => absurd hw (Nat.not_lt_zero w), 0, 0, by omega, by omega, t 16 (by omega) (by omega) (by omega), t 17 (by omega) (by omega) (by omega), hc 5 (by omega), hc 6 (by omega), Or.inl rfl⟩
  rw [t 0 (by omega) (by omega) (by omega)]
  exact hc 0 (by omega)
theorem readAll_eq {N n : Nat} {t : Nat → Nat} {M : Mem} (hN : 700 ≤ N) (hn : n ≤ 600) (ht : ∀ j, j < n → t j < 256 ∧ rI M 119 j &&& 255 = nI (t j)) :
    ∃ M3, clL M3 t n (tkN t n 0) ∧ dfC M3 ∧ smF rdC M M3 ∧ fX4_readAll N 111 (nI n) M = fX4_readAll_l30 N 111 N 0 0 M3 := by
  obtain ⟨M2, e2, s2, c2⟩ : ∃ M2, fX6_clear 112 (wI (wI (wI M 111 7 (nI n)) 111 9 0) 111 12 0) = some M2 ∧ smF [112] (wI (wI (wI M 111 7 (nI n)) 111 9 0) 111 12 0) M2 ∧ ∀ k, k < 8 → rI M2 112 k = if k = 1 then 64 else if k = 2 then 16 else 0 := by
    refine ⟨_, rfl, (((((((smF.refl.pI_ (by simp) _ _).pI_ (by simp) _ _).pI_ (by simp) _ _).pI_ (by simp) _ _).pI_ (by simp) _ _).pI_ (by simp) _ _).pI_ (by simp) _ _).pI_ (by simp) _ _, fun k hk => ?_⟩
    rw [rI_wI, rI_wI, rI_wI, rI_wI, rI_wI, rI_wI, rI_wI, rI_wI]
    match k, hk with
    | 0, _ => rfl
    | 1, _ => rfl
    | 2, _ => rfl
    | 3, _ => rfl
    | 4, _ => rfl
    | 5, _ => rfl
    | 6, _ => rfl
    | 7, _ => rfl
  have s1 : smF [111] M (wI (wI (wI M 111 7 (nI n)) 111 9 0) 111 12 0) := ((smF.refl.pI_ (by simp) _ _).pI_ (by simp) _ _).pI_ (by simp) _ _
  have f7 : rI M2 111 7 = nI n := by rw [s2.I_ (by decide), rI_wI, if_neg (by omega), rI_wI, if_neg (by omega), rI_wI, if_pos ⟨rfl, rfl⟩]
  have f9 : rI M2 111 9 = nI 0 := by rw [s2.I_ (by decide), rI_wI, if_neg (by omega), rI_wI, if_pos ⟨rfl, rfl⟩]; rfl
  have f12 : rI M2 111 12 = nI 0 := by rw [s2.I_ (by decide), rI_wI, if_pos ⟨rfl, rfl⟩]; rfl
  have hT : lxT M2 n t := ⟨hn, f7, fun j hj => ⟨(ht j hj).1, by rw [s2.I_ (by decide), s1.I_ (by decide)]; exact (ht j hj).2⟩⟩
  obtain ⟨M3, e3, x1, x2, x3⟩ := adv_ok hN hT f9 (by omega)
  refine ⟨M3, ⟨hT.mv (x2 7 (by omega)) (x1 119 (by decide)), tkN_le (by omega), x3, (x2 12 (by omega)).trans f12⟩, fun k hk => ?_, (s1.mono (by decide)).trans ((s2.mono (by decide)).trans (x1.mono (by decide))), ?_⟩
  · rw [x1.I_ (by decide)]; exact c2 k hk
  · unfold fX4_readAll
    show ((fX6_clear 112 (wI (wI (wI M 111 7 (nI n)) 111 9 0) 111 12 0)).bind _) = _
    rw [e2, Option.bind_some, e3, Option.bind_some]
theorem end_fine {N n i L W g m : Nat} {t : Nat → Nat} {T : Nat → Int32} {M : Mem} (hN : 700 ≤ N) (hi : i ≤ n) (h : clL M t n n) (hd : dfT M T L W g m) (hL : L ≤ 600) :
    Yo (fX4_readAll_l30 N 111 (N - i) 0 (nI i) M) (fun x => x.1 = true ∧ cRu x.2 112 T W g m ∧ smF rdC M x.2 ∧ rI x.2 111 2 = 0 ∧ rI x.2 111 3 = -1) := by
  obtain ⟨hT, hbn, hC, h12⟩ := h
  have hn := hT.1
  rw [l30_eq (by omega)]
  unfold fX4_readAll_l30_s
  have e0 : tkC t n n = 0 := by unfold tkC; rw [if_neg (by omega)]
  rw [hT.2.1, if_neg (nI_nlt (by omega) (by omega)), hC.2.2.1, e0, if_pos (show nI 0 = (0 : Int32) from rfl)]
  unfold fX4_readAll_b68 fX4_readAll_b81 fX4_readAll_b99
  rw [if_pos rfl, h12, if_pos (show nI 0 = (0 : Int32) from rfl), if_pos rfl, if_pos rfl]
  have s : smF [111] M (wI (wI M 111 2 0) 111 3 (-1)) := (smF.refl.pI_ (by simp) _ _).pI_ (by simp) _ _
  have hc : cR0 (wI (wI M 111 2 0) 111 3 (-1)) 112 T W g m := (hd.cR hL).mv (fun a h1 h2 => s a (by simp; omega))
  refine (show Yo (fX6_fillTables N 112 (wI (wI M 111 2 0) 111 3 (-1))) _ from c_fill hN hc).bi (fun x hx => ?_)
  unfold fX4_readAll_b113
  rw [if_pos rfl, yo_s]
  refine ⟨rfl, hx.1, (s.mono (by decide)).trans (hx.2.mono (by decide)), ?_, ?_⟩
  · rw [hx.2.I_ (by decide), rI_wI, if_neg (by omega), rI_wI, if_pos ⟨rfl, rfl⟩]
  · rw [hx.2.I_ (by decide), rI_wI, if_pos ⟨rfl, rfl⟩]
theorem rm_rows {N : Nat} {M : Mem} (hN : 700 ≤ N) : Yo (fX7_removeRows N 1 M) (fun x => smF [10, 14, 18, 22] M x ∧ ∀ r, r < 4 → rI x (10 + 4 * r) 0 = 0) := by
  unfold fX7_removeRows
  refine yo_f2 (F := fX7_removeRows_l2 N 1) 4 (fun k v M' => v = nI k ∧ smF [10, 14, 18, 22] M M' ∧ ∀ r, r < k → rI M' (10 + 4 * r) 0 = 0) ?_ N 0 _ _ (by omega) (by omega) ⟨rfl, smF.refl, fun r hr => absurd hr (Nat.not_lt_zero r)⟩
  intro f k v M' hk ⟨hv, hF, hr⟩ ih
  subst hv
  show Yo (fX7_removeRows_l2_s N 1 (fX7_removeRows_l2 N 1 f) (nI k) M') _
  unfold fX7_removeRows_l2_s
  rcases Nat.lt_or_ge k 4 with hlt | hge
  · rw [if_neg (show ¬ (4 : Int32) ≤ nI k from nI_ge (b := 4) hlt (by decide)), if_pos (inB_nI hlt (by decide)), nI_clamp (by omega), nI_1, show 1 + 8 + 1 + 4 * k = 10 + 4 * k by omega]
    refine ih _ _ hlt ⟨rfl, hF.pI_ (by simp; omega) _ _, fun r hr' => ?_⟩
    rw [rI_wI]
    by_cases q : r = k
    · rw [if_pos ⟨by omega, rfl⟩]
    · rw [if_neg (by omega)]; exact hr r (by omega)
  · rw [if_pos (show (4 : Int32) ≤ nI k from nI_le (a := 4) hge (by omega)), yo_s]
    exact ⟨hF, fun r hr' => hr r (by omega)⟩
/-- the reference's copy -/
theorem r126 {N : Nat} {M : Mem} (hN : 4000 ≤ N) : Yo (fX11_rules_l126 N 140 N 0 M) (fun x => x.1 = rI M 142 0 ∧ smF [141] M x.2 ∧ ∀ k, k < 3268 → rI x.2 141 k = rI M 142 k) := by
  refine yo_f2 (F := fX11_rules_l126 N 140) 3268 (fun k v M' => v = nI k ∧ smF [141] M M' ∧ ∀ j, j < k → rI M' 141 j = rI M 142 j) ?_ N 0 _ _ (by omega) (by omega) ⟨rfl, smF.refl, fun r hr => absurd hr (Nat.not_lt_zero r)⟩
  intro f k v M' hk ⟨hv, hF, hr⟩ ih
  subst hv
  show Yo (fX11_rules_l126_s N 140 (fX11_rules_l126 N 140 f) (nI k) M') _
  unfold fX11_rules_l126_s
  rcases Nat.lt_or_ge k 3268 with hlt | hge
  · have e : rI M' (140 + 2) k = rI M 142 k := hF.I_ (by decide) k
    rw [if_neg (show ¬ (3268 : Int32) ≤ nI k from nI_ge (b := 3268) hlt (by decide)), if_pos (inB_nI hlt (by decide)), if_pos (inB_nI hlt (by decide)), nI_clamp (by omega), nI_1, e]
    refine ih _ _ hlt ⟨rfl, hF.pI_ (by simp) _ _, fun r hr' => ?_⟩
    rw [rI_wI]
    by_cases q : r = k
    · rw [if_pos ⟨rfl, q⟩, q]
    · rw [if_neg (fun z => q z.2)]; exact hr r (by omega)
  · have ek : k = 3268 := by omega
    subst ek
    rw [if_pos (show (3268 : Int32) ≤ nI 3268 by decide), if_pos (by decide), yo_s]
    exact ⟨hr 0 (by omega), hF, hr⟩
def ruGood (N n : Nat) (t : Nat → Nat) (x : Int32 × Mem) : Prop :=
  ∃ T : Nat → Int32, x.1 = T 0 ∧ (∀ k, k < 3268 → rI x.2 141 k = T k) ∧ rI x.2 140 16 = 0 ∧ rI x.2 140 17 = -1 ∧ (∀ r, r < 4 → T (1220 + 512 * r) = -1) ∧
    ∀ Mc : Mem, clL Mc t n (tkN t n 0) → dfC Mc → ∃ (Mc' : Mem) (L W g m : Nat), leads N Mc (tkN t n 0) Mc' n ∧ clL Mc' t n n ∧ dfT Mc' T L W g m ∧ L ≤ 600
def ruBad (N n : Nat) (t : Nat → Nat) (M' : Mem) (x : Int32 × Mem) : Prop :=
  ∃ kd pl : Nat, 1 ≤ kd ∧ kd ≤ 5 ∧ x.1 = -10 - nI kd ∧ x.2 141 = M' 141 ∧ rI x.2 140 16 = nI kd ∧ rI x.2 140 17 = nI pl ∧ ∀ Mc : Mem, clL Mc t n (tkN t n 0) → dfC Mc → stops N Mc (tkN t n 0) kd pl
theorem ru_ref {N n n0 : Nat} {t : Nat → Nat} {M : Mem} (hN : 4000 ≤ N) (hn0 : n0 ≤ 600) (hn : n ≤ n0) (h7 : rI M 140 7 = nI n0) (ht : ∀ j, j < n → t j < 256 ∧ rI M 146 j = nI (t j)) :
    Yo (fX11_rules N 140 (nI n) M) (fun x => smF [140, 141, 142] M x.2 ∧ rI x.2 140 5 = 0 ∧ rI x.2 140 7 = 0 ∧ rI x.2 140 26 = rI M 140 26 ∧ rI x.2 140 27 = rI M 140 27 ∧ (ruGood N n t x ∨ ruBad N n t M x)) := by
  have hN7 : 700 ≤ N := by omega
  unfold fX11_rules
  have e7 : rI (wI M 140 5 0) 140 7 = nI n0 := by rw [rI_wI, if_neg (by omega)]; exact h7
  have ew : fX11_within (nI n).toInt64 0 ((rI (wI M 140 5 0) 140 7).toInt64) (wI M 140 5 0) = some true := by
    rw [e7, within_v _ _ _ 0 n0 (by decide) (by rw [nI_l (by omega), lN_toInt (by omega)]), nI_toInt (by omega), decide_eq_true (by omega)]
  rw [ew, Option.bind_some, if_pos rfl]
  have sA : smF [140] M (wI (wI (wI (wI (wI (wI M 140 5 0) 140 8 (nI n)) 140 7 0) 140 9 0) 140 14 0) 140 13 0) := (((((smF.refl.pI_ (by simp) _ _).pI_ (by simp) _ _).pI_ (by simp) _ _).pI_ (by simp) _ _).pI_ (by simp) _ _).pI_ (by simp) _ _
  have fA : ∀ k, rI (wI (wI (wI (wI (wI (wI M 140 5 0) 140 8 (nI n)) 140 7 0) 140 9 0) 140 14 0) 140 13 0) 140 k = if k = 13 then 0 else if k = 14 then 0 else if k = 9 then 0 else if k = 7 then 0 else if k = 8 then nI n else if k = 5 then 0 else rI M 140 k := fun k => by
    rw [rI_wI, rI_wI, rI_wI, rI_wI, rI_wI, rI_wI]
    simp only [eq_self, true_and]
  generalize wI (wI (wI (wI (wI (wI M 140 5 0) 140 8 (nI n)) 140 7 0) 140 9 0) 140 14 0) 140 13 0 = MA at sA fA ⊢
  refine (show Yo (fX11_begins N 142 MA) _ from bg_ok (by omega)).bi (fun MB hB => ?_)
  obtain ⟨sB, tB⟩ := hB
  have fB : ∀ k, rI MB 140 k = rI MA 140 k := fun k => sB.I_ (by decide) k
  have hU : lxU MB n t := ⟨by omega, by rw [fB, fA, if_neg (by omega), if_neg (by omega), if_neg (by omega), if_neg (by omega), if_pos rfl], fun j hj => ⟨(ht j hj).1, by rw [sB.I_ (by decide), sA.I_ (by decide)]; exact (ht j hj).2⟩⟩
  refine (reads_ok hN7 hU (e := 0) (by rw [fB, fA, if_neg (by omega), if_neg (by omega), if_pos rfl]; rfl) (by omega)).bi (fun M0 h0 => ?_)
  obtain ⟨s0, f0, r0⟩ := h0
  have st : rfS M0 t n (tkN t n 0) 0 0 := by
    refine ⟨hU.mv (f0 8 (by omega)) (s0 146 (by decide)), tkN_le (by omega), r0, ?_, ?_, ?_, by omega⟩
    · rw [f0 14 (by omega), fB, fA, if_neg (by omega), if_pos rfl]
    · rw [f0 13 (by omega), fB, fA, if_pos rfl]; rfl
    · rw [s0.I_ (by decide), tB 18 (by omega)]; rfl
  have fr : ∀ k, k < 3268 → rI M0 142 k = bgT 4 k := fun k hk => by rw [s0.I_ (by decide)]; exact tB k hk
  have g0 : ∀ k, k < 9 ∨ 16 ≤ k → rI M0 140 k = if k = 7 then 0 else if k = 8 then nI n else if k = 5 then 0 else rI M 140 k := fun k hk => by
    rw [f0 k (by omega), fB, fA, if_neg (by omega), if_neg (by omega), if_neg (by omega)]
  have sM0 : smF [140, 142] M M0 := (sA.mono (by decide)).trans ((sB.mono (by decide)).trans (s0.mono (by decide)))
  have goodI : ∃ b L, 0 ≤ b ∧ rfS M0 t n b 0 L ∧ L ≤ b ∧ kqR M0 M0 ∧ (∃ m, m ≤ 6 ∧ rI M0 142 3 = nI m) ∧ (∀ k, 1220 ≤ k → rI M0 142 k = rI M0 142 k) ∧ ∀ Mc : Mem, clL Mc t n (tkN t n 0) → dfC Mc → ∃ (Mc' : Mem) (W g m : Nat), leads N Mc (tkN t n 0) Mc' b ∧ clL Mc' t n b ∧ dfT Mc' (M0 142).1 L W g m :=
    ⟨_, 0, by omega, st, by omega, ⟨smF.refl, fun _ _ => rfl⟩, ⟨0, by omega, by rw [fr 3 (by omega)]; rfl⟩, fun _ _ => rfl, fun Mc hc hd => ⟨Mc, 64, 16, 0, leads.refl, hc, dfT_0 hd (fun k hk => fr k (by omega))⟩⟩
  refine yo_f1 (F := fX11_rules_l61 N 140) n (fun k Mr => (∃ b L, k ≤ b ∧ rfS Mr t n b 0 L ∧ L ≤ b ∧ kqR M0 Mr ∧ (∃ m, m ≤ 6 ∧ rI Mr 142 3 = nI m) ∧ (∀ k, 1220 ≤ k → rI Mr 142 k = rI M0 142 k) ∧ ∀ Mc : Mem, clL Mc t n (tkN t n 0) → dfC Mc → ∃ (Mc' : Mem) (W g m : Nat), leads N Mc (tkN t n 0) Mc' b ∧ clL Mc' t n b ∧ dfT Mc' (Mr 142).1 L W g m) ∨ (∃ kd pl : Nat, 1 ≤ kd ∧ kd ≤ 5 ∧ rI Mr 140 14 = nI kd ∧ rI Mr 140 15 = nI pl ∧ kqR M0 Mr ∧ ∀ Mc : Mem, clL Mc t n (tkN t n 0) → dfC Mc → stops N Mc (tkN t n 0) kd pl)) ?_ N 0 _ (by omega) (by omega) (Or.inl goodI)
  intro f k Mr hk hI ih
  show Yo (fX11_rules_l61_s N 140 (fX11_rules_l61 N 140 f) Mr) _
  unfold fX11_rules_l61_s
  rcases hI with ⟨b, L, hkb, h, hL, kq, ⟨m, hm, h3⟩, hro, hcl⟩ | ⟨kd, pl, v1, v2, v3, v4, v5, v6⟩
  · rw [if_pos h.2.2.2.1, h.2.2.1.2.2.1]
    by_cases c : tkC t n b = 0
    · rw [if_pos (rkC_end.mpr c)]
      have hbn : b = n := by
        have h1 := tkC_0 c (fun j hj => (h.1.2.2 j hj).1)
        have h2 := h.2.1
        omega
      subst hbn
      unfold fX11_rules_b82 fX11_rules_b106
      rw [h.2.2.2.1]
      have sC : smF [140] Mr (wI (wI Mr 140 16 0) 140 17 (-1)) := (smF.refl.pI_ (by simp) _ _).pI_ (by simp) _ _
      have fC : ∀ k, rI (wI (wI Mr 140 16 0) 140 17 (-1)) 140 k = if k = 17 then -1 else if k = 16 then 0 else rI Mr 140 k := fun k => by
        rw [rI_wI, rI_wI]
        simp only [eq_self, true_and]
      rw [if_pos (show rI (wI Mr 140 16 0) 140 14 = 0 by rw [rI_wI, if_neg (by omega)]; exact h.2.2.2.1), if_pos (show rI (wI (wI Mr 140 16 0) 140 17 (-1)) 140 14 = 0 by rw [fC, if_neg (by omega), if_neg (by omega)]; exact h.2.2.2.1)]
      generalize wI (wI Mr 140 16 0) 140 17 (-1) = MC at sC fC ⊢
      refine (r126 hN).to (fun x hx => ?_)
      obtain ⟨x1, x2, x3⟩ := hx
      have gx : ∀ k, k < 9 ∨ 18 ≤ k → rI x.2 140 k = if k = 7 then 0 else if k = 8 then nI b else if k = 5 then 0 else rI M 140 k := fun k hk => by
        rw [x2.I_ (by decide), fC, if_neg (by omega), if_neg (by omega), kq.2 k (by omega), g0 k (by omega)]
      refine ⟨(sM0.mono (by decide)).trans ((kq.1.mono (by decide)).trans ((sC.mono (by decide)).trans (x2.mono (by decide)))), ?_, ?_, ?_, ?_, Or.inl ⟨(Mr 142).1, ?_, fun k hk => ?_, ?_, ?_, fun r hr => ?_, fun Mc hc hd => ?_⟩⟩
      · rw [gx 5 (by omega)]; rfl
      · rw [gx 7 (by omega)]; rfl
      · rw [gx 26 (by omega)]; rfl
      · rw [gx 27 (by omega)]; rfl
      · rw [x1, sC.I_ (by decide)]; rfl
      · rw [x3 k hk, sC.I_ (by decide)]; rfl
      · rw [x2.I_ (by decide), fC]; rfl
      · rw [x2.I_ (by decide), fC]; rfl
      · show rI Mr 142 (1220 + 512 * r) = -1
        rw [hro _ (by omega), fr _ (by omega)]
        unfold bgT
        rw [if_neg (by omega), if_neg (by omega), if_pos (by omega)]
      · obtain ⟨Mc', W, g, m', c1, c2, c3⟩ := hcl Mc hc hd
        exact ⟨Mc', L, W, g, m', c1, c2, c3, by have := h.1.1; omega⟩
    · rw [if_neg (fun z => c (rkC_end.mp z))]
      refine (ln_ok hN7 (by omega) h hL c hm h3).bi (fun M1 h1 => ?_)
      have hbn : b < n := tok_b c
      refine ih M1 (by omega) ?_
      rcases h1 with ⟨b', L', l1, l2, l3, l4, l5, l6, l7⟩ | ⟨kd, pl, v1, v2, v3, v4, v5, v6⟩
      · refine Or.inl ⟨b', L', by omega, l1, l3, kq.trans l4, l5, fun k hk => (l6 k hk).trans (hro k hk), fun Mc hc hd => ?_⟩
        obtain ⟨Mc', W, g, m', c1, c2, c3⟩ := hcl Mc hc hd
        obtain ⟨Mc'', W', g', m'', d1, d2, d3⟩ := l7 Mc' W g m' c2 c3
        exact ⟨Mc'', W', g', m'', c1.trans d1, d2, d3⟩
      · refine Or.inr ⟨kd, pl, v1, v2, v3, v4, kq.trans v5, fun Mc hc hd => ?_⟩
        obtain ⟨Mc', W, g, m', c1, c2, c3⟩ := hcl Mc hc hd
        exact c1.stops (v6 Mc' W g m' c2 c3)
  · have hne := nI_kd v1 v2
    rw [if_neg (by rw [v3]; exact hne)]
    unfold fX11_rules_b82 fX11_rules_b106
    rw [v3]
    have e14 : rI (wI Mr 140 16 (nI kd)) 140 14 = nI kd := by rw [rI_wI, if_neg (by omega)]; exact v3
    have e15 : rI (wI Mr 140 16 (nI kd)) 140 15 = nI pl := by rw [rI_wI, if_neg (by omega)]; exact v4
    rw [e14, if_neg hne, e15]
    have sC : smF [140] Mr (wI (wI Mr 140 16 (nI kd)) 140 17 (nI pl)) := (smF.refl.pI_ (by simp) _ _).pI_ (by simp) _ _
    have fC : ∀ k, rI (wI (wI Mr 140 16 (nI kd)) 140 17 (nI pl)) 140 k = if k = 17 then nI pl else if k = 16 then nI kd else rI Mr 140 k := fun k => by
      rw [rI_wI, rI_wI]
      simp only [eq_self, true_and]
    have e14' : rI (wI (wI Mr 140 16 (nI kd)) 140 17 (nI pl)) 140 14 = nI kd := by rw [fC, if_neg (by omega), if_neg (by omega)]; exact v3
    rw [e14', if_neg hne, yo_s]
    generalize wI (wI Mr 140 16 (nI kd)) 140 17 (nI pl) = MC at sC fC ⊢
    have gx : ∀ k, k < 9 ∨ 18 ≤ k → rI MC 140 k = if k = 7 then 0 else if k = 8 then nI n else if k = 5 then 0 else rI M 140 k := fun k hk => by
      rw [fC, if_neg (by omega), if_neg (by omega), v5.2 k (by omega), g0 k (by omega)]
    refine ⟨(sM0.mono (by decide)).trans ((v5.1.mono (by decide)).trans (sC.mono (by decide))), ?_, ?_, ?_, ?_, Or.inr ⟨kd, pl, v1, v2, rfl, ?_, ?_, ?_, v6⟩⟩
    · rw [gx 5 (by omega)]; rfl
    · rw [gx 7 (by omega)]; rfl
    · rw [gx 26 (by omega)]; rfl
    · rw [gx 27 (by omega)]; rfl
    · show MC 141 = M 141
      rw [sC 141 (by decide), v5.1 141 (by decide), sM0 141 (by decide)]
    · rw [fC]; rfl
    · rw [fC]; rfl
