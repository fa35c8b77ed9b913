/-! RULES: a line, both readers in step -/
theorem b112_bad {N : Nat} {M : Mem} (h14 : ¬ rI M 140 14 = 0) : fX11_readLine_b112 N 140 M = some M := by
  unfold fX11_readLine_b112 fX11_readLine_b126
  rw [r_noTook h14, Option.bind_some, if_neg Bool.false_ne_true, r_noBlame h14, Option.bind_some, if_neg h14]
theorem b112_ok {N n b L : Nat} {t : Nat → Nat} {M : Mem} (hN : 700 ≤ N) (h : rfS M t n b 0 L) :
    Yo (fX11_readLine_b112 N 140 M) (fun x => (tkC t n b = 59 ∧ rfS x t n (tkN t n (tkE t n b)) 0 L ∧ kqR M x ∧ rI x 142 0 = rI M 142 0 + 1 ∧ ∀ k, k ≠ 0 → rI x 142 k = rI M 142 k) ∨ (tkC t n b ≠ 59 ∧ rI x 140 14 = nI (if tkC t n b = 1 then 1 else 2) ∧ rI x 140 15 = nI b ∧ kqR M x)) := by
  unfold fX11_readLine_b112
  rw [r_tookSign h.1 h.2.2.1 h.2.2.2.1 59 59 rfl (by omega) (by omega)]
  by_cases c : tkC t n b = 59
  · rw [if_pos c, yo_b]
    refine (h.rd hN).bi (fun M1 x => ?_)
    obtain ⟨x1, x2, x3, x4⟩ := x
    rw [yo_s, if_pos rfl]
    unfold fX11_readLine_b126
    rw [if_pos x1.2.2.2.1, if_pos (by decide), if_pos (by decide), yo_s]
    have e : ∀ k, rI (wI M1 (140 + 2) (0 : Int32).toNatClampNeg (rI M1 (140 + 2) (0 : Int32).toNatClampNeg + 1)) 140 k = rI M1 140 k := fun k => by rw [rI_wI, if_neg (by omega)]
    have e2 : ∀ k, rI (wI M1 (140 + 2) (0 : Int32).toNatClampNeg (rI M1 (140 + 2) (0 : Int32).toNatClampNeg + 1)) 142 k = if k = 0 then rI M1 142 0 + 1 else rI M1 142 k := fun k => by
      rw [rI_wI]
      by_cases q : k = 0
      · rw [if_pos ⟨rfl, q⟩, if_pos q]; rfl
      · rw [if_neg (fun z => q z.2), if_neg q]
    have s : smF [142] M1 (wI M1 (140 + 2) (0 : Int32).toNatClampNeg (rI M1 (140 + 2) (0 : Int32).toNatClampNeg + 1)) := smF.refl.pI_ (by decide) _ _
    generalize wI M1 (140 + 2) (0 : Int32).toNatClampNeg (rI M1 (140 + 2) (0 : Int32).toNatClampNeg + 1) = M2 at e e2 s ⊢
    obtain ⟨y1, y2, y3, y4, y5, y6, y7⟩ := x1
    refine Or.inl ⟨c, ⟨y1.mv (e 8) (s 146 (by decide)), y2, ?_, (e 14).trans y4, (e 13).trans y5, ?_, y7⟩, ⟨(x2.mono (by decide)).trans (s.mono (by decide)), fun k hk => (e k).trans (x3 k (by omega))⟩, ?_, fun k hk => ?_⟩
    · unfold lxR
      rw [e, e, e, e]
      exact y3
    · rw [e2, if_neg (by decide)]; exact y6
    · rw [e2, if_pos rfl, x2.I_ (by decide)]
    · rw [e2, if_neg hk, x2.I_ (by decide)]
  · rw [if_neg c, Option.bind_some, if_neg Bool.false_ne_true, r_blames h.2.2.1 h.2.2.2.1 2 2 rfl, Option.bind_some]
    obtain ⟨k1, k2, k3⟩ := kq_bl (M := M) (nI (if tkC t n b = 1 then 1 else 2)) (nI b)
    unfold fX11_readLine_b126
    rw [if_neg (by rw [k2]; exact nI_kd (by split <;> omega) (by split <;> omega)), yo_s]
    exact Or.inr ⟨c, k2, k3, k1⟩
theorem r_number {N n b L mx : Nat} {hi : Int32} {t : Nat → Nat} {M : Mem} (hN : 700 ≤ N) (h : rfS M t n b 0 L) (hh : (hi = 256 ∧ mx = 256) ∨ (hi = 64 ∧ mx = 64)) :
    Yo (fX11_number N 140 2 hi M) (fun x => (tkC t n b = 2 ∧ 2 ≤ tkV t n b ∧ tkV t n b ≤ mx ∧ x.1 = nI (tkV t n b) ∧ rfS x.2 t n (tkN t n (tkE t n b)) 0 L ∧ smF [140] M x.2 ∧ kqR M x.2) ∨ (¬ (tkC t n b = 2 ∧ 2 ≤ tkV t n b ∧ tkV t n b ≤ mx) ∧ rI x.2 140 14 = nI (if tkC t n b = 1 then 1 else if tkC t n b = 2 then 3 else 2) ∧ rI x.2 140 15 = nI b ∧ kqR M x.2)) := by
  have h14 := h.2.2.2.1
  have hR := h.2.2.1
  have bad : ∀ M1 : Mem, ¬ rI M1 140 14 = 0 → fX11_number_b36 N 140 2 M1 = some (2, M1) := fun M1 q => by
    unfold fX11_number_b36 fX11_number_b52
    rw [if_neg q, if_neg q]
  unfold fX11_number
  rw [hR.2.2.1]
  by_cases c2 : tkC t n b = 2
  · have hv := tkV_le c2
    rw [if_pos (rkC_num.mpr c2), hR.2.2.2.1 c2]
    have ew : fX11_within (nI (tkV t n b)).toInt64 (2 : Int32).toInt64 hi.toInt64 M = some (decide (2 ≤ tkV t n b ∧ tkV t n b ≤ mx)) := by
      rcases hh with ⟨q1, q2⟩ | ⟨q1, q2⟩
      · rw [within_v _ _ _ 2 256 (by decide) (by rw [q1]; decide), nI_toInt (by omega), q2]
        congr 1
        exact decide_eq_decide.mpr (by omega)
      · rw [within_v _ _ _ 2 64 (by decide) (by rw [q1]; decide), nI_toInt (by omega), q2]
        congr 1
        exact decide_eq_decide.mpr (by omega)
    rw [ew, Option.bind_some]
    by_cases cv : 2 ≤ tkV t n b ∧ tkV t n b ≤ mx
    · rw [if_pos (decide_eq_true cv)]
      unfold fX11_number_b36 fX11_number_b52
      rw [if_pos h14, hR.2.2.2.1 c2]
      refine (h.rd hN).bi (fun M1 x => ?_)
      obtain ⟨x1, x2, x3, x4⟩ := x
      rw [if_pos x1.2.2.2.1, yo_s]
      exact Or.inl ⟨c2, cv.1, cv.2, rfl, x1, x2, x4.q⟩
    · rw [if_neg (fun z => cv (of_decide_eq_true z)), r_blames hR h14 3 3 rfl, Option.bind_some]
      obtain ⟨k1, k2, k3⟩ := kq_bl (M := M) (nI (if tkC t n b = 1 then 1 else 3)) (nI b)
      rw [bad _ (by rw [k2]; exact nI_kd (by split <;> omega) (by split <;> omega)), yo_s]
      refine Or.inr ⟨fun z => cv z.2, ?_, k3, k1⟩
      have e : (if tkC t n b = 1 then 1 else if tkC t n b = 2 then 3 else 2) = (if tkC t n b = 1 then 1 else 3) := by rw [if_pos c2]
      rw [e]
      exact k2
  · rw [if_neg (fun z => c2 (rkC_num.mp z)), r_blames hR h14 2 2 rfl, Option.bind_some]
    obtain ⟨k1, k2, k3⟩ := kq_bl (M := M) (nI (if tkC t n b = 1 then 1 else 2)) (nI b)
    rw [bad _ (by rw [k2]; exact nI_kd (by split <;> omega) (by split <;> omega)), yo_s]
    refine Or.inr ⟨fun z => c2 z.1, ?_, k3, k1⟩
    rw [if_neg c2]
    exact k2
/-! the draft tells what is fresh -/
def mrkT (Mc : Mem) (T : Nat → Int32) (L w : Nat) : Prop := ∃ p q : Nat, p ≤ q ∧ q ≤ L ∧ T (4 + 2 * w) = nI p ∧ T (5 + 2 * w) = nI q ∧ okD T (q - p) p 0 1 ∧ rI Mc 114 w = nI p ∧ rI Mc 115 w = nI q ∧ (bt (rI Mc 112 7) w = false → ∀ k, p ≤ k → k < q → T (20 + 2 * k) ≠ 2)
def tgT (Mc : Mem) (T : Nat → Int32) (L : Nat) : Prop := ∃ p q : Nat, p ≤ q ∧ q ≤ L ∧ T 16 = nI p ∧ T 17 = nI q ∧ rI Mc 112 5 = nI p ∧ rI Mc 112 6 = nI q ∧ (p = q ∨ okD T (q - p) p 0 1)
def dfT (Mc : Mem) (T : Nat → Int32) (L W g m : Nat) : Prop := (2 ≤ W ∧ W ≤ 256 ∧ T 1 = nI W ∧ rI Mc 112 1 = nI W) ∧ (2 ≤ g ∧ g ≤ 64 ∧ T 2 = nI g ∧ rI Mc 112 2 = nI g) ∧ (m ≤ 6 ∧ T 3 = nI m ∧ rI Mc 112 3 = nI m) ∧ rI Mc 112 0 = T 0 ∧ (rI Mc 112 4 = nI L ∧ ∀ k, k < L → rI Mc 113 k = encV (T (20 + 2 * k)) (T (21 + 2 * k))) ∧ (∀ w, w < m → mrkT Mc T L w) ∧ tgT Mc T L
theorem mrkT.mv {Mc Mc' : Mem} {T T' : Nat → Int32} {L L' w : Nat} (h : mrkT Mc T L w) (e4 : T' (4 + 2 * w) = T (4 + 2 * w)) (e5 : T' (5 + 2 * w) = T (5 + 2 * w)) (eC : ∀ j, 20 ≤ j → j < 20 + 2 * L → T' j = T j) (e1 : rI Mc' 114 w = rI Mc 114 w) (e2 : rI Mc' 115 w = rI Mc 115 w) (e7 : bt (rI Mc' 112 7) w = bt (rI Mc 112 7) w) (hL : L ≤ L') : mrkT Mc' T' L' w := by
  obtain ⟨p, q, h1, h2, h3, h4, h5, h6, h7, h8⟩ := h
  exact ⟨p, q, h1, by omega, e4.trans h3, e5.trans h4, okD_mv _ _ _ (fun j j1 j2 => eC j (by omega) (by omega)) h5, e1.trans h6, e2.trans h7, fun z k k1 k2 => by rw [eC _ (by omega) (by omega)]; exact h8 (by rw [← e7]; exact z) k k1 k2⟩
theorem tgT.mv {Mc Mc' : Mem} {T T' : Nat → Int32} {L L' : Nat} (h : tgT Mc T L) (e4 : T' 16 = T 16) (e5 : T' 17 = T 17) (eC : ∀ j, 20 ≤ j → j < 20 + 2 * L → T' j = T j) (e1 : rI Mc' 112 5 = rI Mc 112 5) (e2 : rI Mc' 112 6 = rI Mc 112 6) (hL : L ≤ L') : tgT Mc' T' L' := by
  obtain ⟨p, q, h1, h2, h3, h4, h5, h6, h7⟩ := h
  exact ⟨p, q, h1, by omega, e4.trans h3, e5.trans h4, e1.trans h5, e2.trans h6, h7.imp id (fun z => okD_mv _ _ _ (fun j j1 j2 => eC j (by omega) (by omega)) z)⟩
def lnGood (N n : Nat) (t : Nat → Nat) (Mr : Mem) (b L : Nat) (Mr' : Mem) (b' L' : Nat) : Prop :=
  rfS Mr' t n b' 0 L' ∧ b < b' ∧ L' ≤ b' ∧ kqR Mr Mr' ∧ (∃ m, m ≤ 6 ∧ rI Mr' 142 3 = nI m) ∧ (∀ k, 1220 ≤ k → rI Mr' 142 k = rI Mr 142 k) ∧
  ∀ (Mc : Mem) (W g m : Nat), clL Mc t n b → dfT Mc (Mr 142).1 L W g m → ∃ (Mc' : Mem) (W' g' m' : Nat), leads N Mc b Mc' b' ∧ clL Mc' t n b' ∧ dfT Mc' (Mr' 142).1 L' W' g' m'
def lnBad (N n : Nat) (t : Nat → Nat) (Mr : Mem) (b L : Nat) (Mr' : Mem) : Prop :=
  ∃ kd pl : Nat, 1 ≤ kd ∧ kd ≤ 5 ∧ rI Mr' 140 14 = nI kd ∧ rI Mr' 140 15 = nI pl ∧ kqR Mr Mr' ∧
  ∀ (Mc : Mem) (W g m : Nat), clL Mc t n b → dfT Mc (Mr 142).1 L W g m → stops N Mc b kd pl
/-- a line that tells a bound -/
theorem ln_num {N n b L m hd mx : Nat} {hi : Int32} {t : Nat → Nat} {Mr M1 : Mem} (hN : 700 ≤ N) (hL : L ≤ b) (hh : (hd = 3 ∧ hi = 256 ∧ mx = 256) ∨ (hd = 4 ∧ hi = 64 ∧ mx = 64)) (ht : tkC t n b = hd) (hm : m ≤ 6) (h3 : rI Mr 142 3 = nI m)
    (h1 : rfS M1 t n (tkN t n (tkE t n b)) 0 L) (s1 : smF [140] Mr M1) (k1 : kqR Mr M1) :
    Yo ((fX11_number N 140 2 hi M1).bind fun q => fX11_readLine_b112 N 140 (wI q.2 142 (hd - 2) q.1)) (fun x => (∃ b' L', lnGood N n t Mr b L x b' L') ∨ lnBad N n t Mr b L x) := by
  have hb : b < n := tok_b (t := t) (by omega)
  have g1 := tkE_gt (t := t) hb
  have g2 := tkN_ge t n (tkE t n b)
  have hhr : (hi = 256 ∧ mx = 256) ∨ (hi = 64 ∧ mx = 64) := hh.imp (fun z => z.2) (fun z => z.2)
  have hhc : (hd = 3 ∧ mx = 256) ∨ (hd = 4 ∧ mx = 64) := hh.imp (fun z => ⟨z.1, z.2.2⟩) (fun z => ⟨z.1, z.2.2⟩)
  have ht' : tkC t n b = 3 ∨ tkC t n b = 4 := by omega
  have hd34 : hd = 3 ∨ hd = 4 := by omega
  refine (r_number hN h1 hhr).bi (fun x hx => ?_)
  rcases hx with ⟨x1, x2, x3, x4, x5, x6, x7⟩ | ⟨x1, x2, x3, x4⟩
  · have g3 := tkE_gt (t := t) (tok_b (t := t) (n := n) (b := tkN t n (tkE t n b)) (by omega))
    have g4 := tkN_ge t n (tkE t n (tkN t n (tkE t n b)))
    rw [x4]
    have e : ∀ k, rI (wI x.2 142 (hd - 2) (nI (tkV t n (tkN t n (tkE t n b))))) 140 k = rI x.2 140 k := fun k => by rw [rI_wI, if_neg (by omega)]
    have e2 : ∀ k, rI (wI x.2 142 (hd - 2) (nI (tkV t n (tkN t n (tkE t n b))))) 142 k = if k = hd - 2 then nI (tkV t n (tkN t n (tkE t n b))) else rI Mr 142 k := fun k => by
      rw [rI_wI]
      by_cases q : k = hd - 2
      · rw [if_pos ⟨rfl, q⟩, if_pos q]
      · rw [if_neg (fun z => q z.2), if_neg q, x6.I_ (by decide), s1.I_ (by decide)]
    have s : smF [142] x.2 (wI x.2 142 (hd - 2) (nI (tkV t n (tkN t n (tkE t n b))))) := smF.refl.pI_ (by decide) _ _
    generalize wI x.2 142 (hd - 2) (nI (tkV t n (tkN t n (tkE t n b)))) = M2 at e e2 s ⊢
    obtain ⟨y1, y2, y3, y4, y5, y6, y7⟩ := x5
    have r2 : rfS M2 t n (tkN t n (tkE t n (tkN t n (tkE t n b)))) 0 L := by
      refine ⟨y1.mv (e 8) (s 146 (by decide)), y2, ?_, (e 14).trans y4, (e 13).trans y5, ?_, y7⟩
      · unfold lxR
        rw [e, e, e, e]
        exact y3
      · have q18 : rI x.2 142 18 = rI Mr 142 18 := by rw [x6.I_ (by decide), s1.I_ (by decide)]
        rw [e2, if_neg (by omega), ← q18]
        exact y6
    have kq2 : kqR Mr M2 := (k1.trans x7).trans ⟨s.mono (by decide), fun k _ => e k⟩
    have cl : ∀ (Mc : Mem), clL Mc t n b → ∃ Mc2, leads N Mc b Mc2 (tkN t n (tkE t n (tkN t n (tkE t n b)))) ∧ smF [111, 112] Mc Mc2 ∧ lxT Mc2 n t ∧ lxC Mc2 t n (tkN t n (tkE t n (tkN t n (tkE t n b)))) ∧ rI Mc2 111 12 = nI 2 ∧ ∀ k, rI Mc2 112 k = if k = hd - 2 then nI (tkV t n (tkN t n (tkE t n b))) else rI Mc 112 k := by
      intro Mc hc
      obtain ⟨Ma, a1, a2, a3, a4, a5, a6⟩ := c_head hN hc ht'
      rcases c_bound hN a3 (h1.2.1) a4 a5 (by rw [a6, ht]) hhc with ⟨_, _, _, Mb, b1, b2, b3, b4, b5, b6⟩ | ⟨z, _⟩
      · exact ⟨Mb, a1.trans b1, (a2.mono (by decide)).trans b2, b3, b4, b5, fun k => by rw [b6 k]; split; rfl; exact a2.I_ (by decide) k⟩
      · exact absurd ⟨x1, x2, x3⟩ z
    refine (b112_ok hN r2).to (fun y hy => ?_)
    rcases hy with ⟨z1, z2, z3, z4, z5⟩ | ⟨z1, z2, z3, z4⟩
    · have g5 := tkE_gt (t := t) (tok_b (t := t) (n := n) (b := tkN t n (tkE t n (tkN t n (tkE t n b)))) (by omega))
      have g6 := tkN_ge t n (tkE t n (tkN t n (tkE t n (tkN t n (tkE t n b)))))
      refine Or.inl ⟨_, L, z2, by omega, by omega, kq2.trans z3, ⟨m, hm, ?_⟩, fun k hk => ?_, fun Mc W g m' hc hdf => ?_⟩
      · rw [z5 3 (by decide), e2, if_neg (by omega)]; exact h3
      · rw [z5 k (by omega), e2, if_neg (by omega)]
      · obtain ⟨Mc2, c1, c2, c3, c4, c5, c6⟩ := cl Mc hc
        rcases c_semi hN c3 r2.2.1 c4 c5 with ⟨_, Mc3, d1, d2, d3, d4, d5⟩ | ⟨w, _⟩
        · obtain ⟨⟨f1, f2, f3, f4⟩, ⟨f5, f6, f7, f8⟩, ⟨f9, f10, f11⟩, f12, ⟨f13, f14⟩, f15, f16⟩ := hdf
          have T0 : (y 142).1 0 = (Mr 142).1 0 + 1 := by
            show rI y 142 0 = rI Mr 142 0 + 1
            rw [z4, e2, if_neg (by omega)]
          have Tk : ∀ k, k ≠ 0 → (y 142).1 k = if k = hd - 2 then nI (tkV t n (tkN t n (tkE t n b))) else (Mr 142).1 k := fun k hk => (z5 k hk).trans (e2 k)
          have Ck : ∀ k, k ≠ 0 → rI Mc3 112 k = if k = hd - 2 then nI (tkV t n (tkN t n (tkE t n b))) else rI Mc 112 k := fun k hk => (d5 k hk).trans (c6 k)
          have C3 : ∀ a, a ≠ 111 → a ≠ 112 → Mc3 a = Mc a := fun a a1 a2 => by rw [d2 a (by simp; omega), c2 a (by simp; omega)]
          have Td : (y 142).1 (hd - 2) = nI (tkV t n (tkN t n (tkE t n b))) := by rw [Tk _ (by omega), if_pos rfl]
          have Cd : rI Mc3 112 (hd - 2) = nI (tkV t n (tkN t n (tkE t n b))) := by rw [Ck _ (by omega), if_pos rfl]
          have To : ∀ k, k ≠ 0 → k ≠ hd - 2 → (y 142).1 k = (Mr 142).1 k := fun k k1 k2 => by rw [Tk k k1, if_neg k2]
          have Co : ∀ k, k ≠ 0 → k ≠ hd - 2 → rI Mc3 112 k = rI Mc 112 k := fun k k1 k2 => by rw [Ck k k1, if_neg k2]
          have rest : rI Mc3 112 0 = (y 142).1 0 ∧ (rI Mc3 112 4 = nI L ∧ ∀ k, k < L → rI Mc3 113 k = encV ((y 142).1 (20 + 2 * k)) ((y 142).1 (21 + 2 * k))) ∧ (∀ w, w < m' → mrkT Mc3 (y 142).1 L w) ∧ tgT Mc3 (y 142).1 L := by
            refine ⟨?_, ⟨?_, fun k hk => ?_⟩, fun w hw => (f15 w hw).mv (To _ (by omega) (by omega)) (To _ (by omega) (by omega)) (fun j j1 _ => To j (by omega) (by omega)) ?_ ?_ ?_ (Nat.le_refl L), f16.mv (To _ (by omega) (by omega)) (To _ (by omega) (by omega)) (fun j j1 _ => To j (by omega) (by omega)) (Co _ (by omega) (by omega)) (Co _ (by omega) (by omega)) (Nat.le_refl L)⟩
            · rw [d4, c6 0, if_neg (by omega), f12, T0]
            · rw [Co 4 (by omega) (by omega)]; exact f13
            · rw [To _ (by omega) (by omega), To _ (by omega) (by omega), eqs_rI (C3 113 (by decide) (by decide))]; exact f14 k hk
            · exact eqs_rI (C3 114 (by decide) (by decide)) w
            · exact eqs_rI (C3 115 (by decide) (by decide)) w
            · rw [Co 7 (by omega) (by omega)]
          have t3 : (y 142).1 3 = nI m' ∧ rI Mc3 112 3 = nI m' := ⟨by rw [To 3 (by omega) (by omega)]; exact f10, by rw [Co 3 (by omega) (by omega)]; exact f11⟩
          rcases hhc with ⟨q, q2⟩ | ⟨q, q2⟩
          · subst q
            exact ⟨Mc3, tkV t n (tkN t n (tkE t n b)), g, m', c1.trans d1, d3, ⟨x2, by omega, Td, Cd⟩, ⟨f5, f6, by rw [To 2 (by omega) (by omega)]; exact f7, by rw [Co 2 (by omega) (by omega)]; exact f8⟩, ⟨f9, t3⟩, rest⟩
          · subst q
            exact ⟨Mc3, W, tkV t n (tkN t n (tkE t n b)), m', c1.trans d1, d3, ⟨f1, f2, by rw [To 1 (by omega) (by omega)]; exact f3, by rw [Co 1 (by omega) (by omega)]; exact f4⟩, ⟨x2, by omega, Td, Cd⟩, ⟨f9, t3⟩, rest⟩
        · exact absurd z1 w
    · refine Or.inr ⟨if tkC t n (tkN t n (tkE t n (tkN t n (tkE t n b)))) = 1 then 1 else 2, _, by split <;> omega, by split <;> omega, z2, z3, kq2.trans z4, fun Mc W g m' hc hdf => ?_⟩
      obtain ⟨Mc2, c1, c2, c3, c4, c5, c6⟩ := cl Mc hc
      rcases c_semi hN c3 r2.2.1 c4 c5 with ⟨w, _⟩ | ⟨_, w⟩
      · exact absurd w z1
      · exact c1.stops w
  · have hk : 1 ≤ (if tkC t n (tkN t n (tkE t n b)) = 1 then 1 else if tkC t n (tkN t n (tkE t n b)) = 2 then 3 else 2) ∧ (if tkC t n (tkN t n (tkE t n b)) = 1 then 1 else if tkC t n (tkN t n (tkE t n b)) = 2 then 3 else 2) ≤ 5 := by
      split
      · omega
      · split <;> omega
    have e : ∀ k, rI (wI x.2 142 (hd - 2) x.1) 140 k = rI x.2 140 k := fun k => by rw [rI_wI, if_neg (by omega)]
    rw [b112_bad (by rw [e, x2]; exact nI_kd hk.1 hk.2), yo_s]
    refine Or.inr ⟨_, _, hk.1, hk.2, (e 14).trans x2, (e 15).trans x3, (k1.trans x4).trans ⟨smF.refl.pI_ (by decide) _ _, fun k _ => e k⟩, fun Mc W g m' hc hdf => ?_⟩
    obtain ⟨Ma, a1, a2, a3, a4, a5, a6⟩ := c_head hN hc ht'
    rcases c_bound hN a3 (h1.2.1) a4 a5 (by rw [a6, ht]) hhc with ⟨w1, w2, w3, _⟩ | ⟨_, w⟩
    · exact absurd ⟨w1, w2, w3⟩ x1
    · exact a1.stops w
