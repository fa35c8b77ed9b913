/-! SEMANTICS: solve, the end -/
def okS (n : Nat) (H : Nat → Int64) (A : Nat → Int32) : Prop := ∀ i, i < n → H i = 0 → A i = 0
theorem c_check {N n b t : Nat} {M : Mem} {H : Nat → Int64} {A : Nat → Int32} {tk : Nat → Bool} (h : cSV M H A tk n) (hn : n ≤ 40) : ∀ (d f k : Nat), k + d = n → d < f → (∀ i, i < k → H i = 0 → A i = 0) →
    (okS n H A ∧ fX8_solveFor_l110 N 126 b t (nI n) M f (nI k) = (fX8_settle N 126 b t (nI n) M).bind fun qj1 => some (true, qj1)) ∨ (¬ okS n H A ∧ fX8_solveFor_l110 N 126 b t (nI n) M f (nI k) = some (false, M)) := by
  intro d
  induction d with
  | zero =>
    intro f k hk hf hI
    obtain ⟨f, rfl⟩ : ∃ f', f = f' + 1 := ⟨f - 1, by omega⟩
    refine Or.inl ⟨fun i hi => hI i (by omega), ?_⟩
    show fX8_solveFor_l110_s N 126 b t (nI n) M (fX8_solveFor_l110 N 126 b t (nI n) M f) (nI k) = _
    unfold fX8_solveFor_l110_s
    rw [if_pos (nI_le (by omega) (by omega))]
  | succ d ih =>
    intro f k hk hf hI
    obtain ⟨f, rfl⟩ : ∃ f', f = f' + 1 := ⟨f - 1, by omega⟩
    obtain ⟨h1, h2, _⟩ := h k (by omega)
    have hun : fX8_solveFor_l110 N 126 b t (nI n) M (f + 1) (nI k) = if H k = 0 then if A k = 0 then fX8_solveFor_l110 N 126 b t (nI n) M f (nI (k + 1)) else some (false, M) else fX8_solveFor_l110 N 126 b t (nI n) M f (nI (k + 1)) := by
      show fX8_solveFor_l110_s N 126 b t (nI n) M (fX8_solveFor_l110 N 126 b t (nI n) M f) (nI k) = _
      unfold fX8_solveFor_l110_s fX8_solveFor_b141
      rw [if_neg (nI_ge (show k < n by omega) (by omega)), if_pos (inB_nI (show k < 40 by omega) (by decide)), if_pos (inB_nI (show k < 40 by omega) (by decide)), nI_clamp (by omega), show (126 + 1 : Nat) = 127 from rfl, show (126 + 2 : Nat) = 128 from rfl, h1, h2, nI_1]
    rw [hun]
    by_cases q : H k = 0
    · by_cases q2 : A k = 0
      · rw [if_pos q, if_pos q2]
        refine ih f (k + 1) (by omega) (by omega) (fun i hi => ?_)
        by_cases e : i = k
        · subst e; exact fun _ => q2
        · exact hI i (by omega)
      · rw [if_pos q, if_neg q2]
        exact Or.inr ⟨fun z => q2 (z k (by omega) q), rfl⟩
    · rw [if_neg q]
      refine ih f (k + 1) (by omega) (by omega) (fun i hi => ?_)
      by_cases e : i = k
      · subst e; exact fun z => absurd z q
      · exact hI i (by omega)
theorem r_check {N n : Nat} {M : Mem} {H : Nat → Int64} {A : Nat → Int32} {tk : Nat → Bool} (h : rSV M H A tk n) (hn : n ≤ 40) : ∀ (d f k : Nat), k + d = n → d < f → (∀ i, i < k → H i = 0 → A i = 0) →
    (okS n H A ∧ fX11_canSolve_l186 N 140 (nI n) M f (nI k) = some (true, M)) ∨ (¬ okS n H A ∧ fX11_canSolve_l186 N 140 (nI n) M f (nI k) = some (false, M)) := by
  intro d
  induction d with
  | zero =>
    intro f k hk hf hI
    obtain ⟨f, rfl⟩ : ∃ f', f = f' + 1 := ⟨f - 1, by omega⟩
    refine Or.inl ⟨fun i hi => hI i (by omega), ?_⟩
    show fX11_canSolve_l186_s N 140 (nI n) M (fX11_canSolve_l186 N 140 (nI n) M f) (nI k) = _
    unfold fX11_canSolve_l186_s
    rw [if_pos (nI_le (by omega) (by omega))]
  | succ d ih =>
    intro f k hk hf hI
    obtain ⟨f, rfl⟩ : ∃ f', f = f' + 1 := ⟨f - 1, by omega⟩
    obtain ⟨h1, h2, _⟩ := h k (by omega)
    have hun : fX11_canSolve_l186 N 140 (nI n) M (f + 1) (nI k) = if H k = 0 then if A k = 0 then fX11_canSolve_l186 N 140 (nI n) M f (nI (k + 1)) else some (false, M) else fX11_canSolve_l186 N 140 (nI n) M f (nI (k + 1)) := by
      show fX11_canSolve_l186_s N 140 (nI n) M (fX11_canSolve_l186 N 140 (nI n) M f) (nI k) = _
      unfold fX11_canSolve_l186_s fX11_canSolve_b213
      rw [if_neg (nI_ge (show k < n by omega) (by omega)), if_pos (inB_nI (show k < 40 by omega) (by decide)), if_pos (inB_nI (show k < 40 by omega) (by decide)), nI_clamp (by omega), show (140 + 11 : Nat) = 151 from rfl, show (140 + 12 : Nat) = 152 from rfl, h1, h2, nI_1]
    rw [hun]
    by_cases q : H k = 0
    · by_cases q2 : A k = 0
      · rw [if_pos q, if_pos q2]
        refine ih f (k + 1) (by omega) (by omega) (fun i hi => ?_)
        by_cases e : i = k
        · subst e; exact fun _ => q2
        · exact hI i (by omega)
      · rw [if_pos q, if_neg q2]
        exact Or.inr ⟨fun z => q2 (z k (by omega) q), rfl⟩
    · rw [if_neg q]
      refine ih f (k + 1) (by omega) (by omega) (fun i hi => ?_)
      by_cases e : i = k
      · subst e; exact fun z => absurd z q
      · exact hI i (by omega)
def ceT (T : Nat → Int32) (r : Nat) (val : Nat → Int32) (k : Nat) : Nat → Int32 := fun z => if 1220 + 512 * r + 10 ≤ z ∧ z < 1220 + 512 * r + 10 + k then val (z - (1220 + 512 * r + 10)) else T z
theorem ceT_s (T : Nat → Int32) (r : Nat) (val : Nat → Int32) (k : Nat) : setT (ceT T r val k) r (10 + k) (val k) = ceT T r val (k + 1) := by
  funext z
  unfold setT ceT
  by_cases q : z = 1220 + 512 * r + (10 + k)
  · rw [if_pos q, if_pos (by omega)]
    congr 1
    omega
  · rw [if_neg q]
    by_cases q2 : 1220 + 512 * r + 10 ≤ z ∧ z < 1220 + 512 * r + 10 + k
    · rw [if_pos q2, if_pos (by omega)]
    · rw [if_neg q2, if_neg (by omega)]
theorem ceT_0 (T : Nat → Int32) (r : Nat) (val : Nat → Int32) : ceT T r val 0 = T := by
  funext z
  unfold ceT
  rw [if_neg (by omega)]
def pcT (T : Nat → Int32) (r k : Nat) : Nat → Int32 := fun z => if 1220 + 512 * r + 250 ≤ z ∧ z < 1220 + 512 * r + 250 + k then 0 else T z
theorem pcT_s (T : Nat → Int32) (r k : Nat) : setT (pcT T r k) r (250 + k) 0 = pcT T r (k + 1) := by
  funext z
  unfold setT pcT
  by_cases q : z = 1220 + 512 * r + (250 + k)
  · rw [if_pos q, if_pos (by omega)]
  · rw [if_neg q]
    by_cases q2 : 1220 + 512 * r + 250 ≤ z ∧ z < 1220 + 512 * r + 250 + k
    · rw [if_pos q2, if_pos (by omega)]
    · rw [if_neg q2, if_neg (by omega)]
theorem pcT_W {T : Nat → Int32} {r W m kd sz mk ex ly : Nat} (h : roT T r W m kd sz mk ex ly) (hW : W ≤ 256) : pcT T r W = pcT T r 256 := by
  funext z
  unfold pcT
  by_cases q : 1220 + 512 * r + 250 ≤ z ∧ z < 1220 + 512 * r + 250 + W
  · rw [if_pos q, if_pos (by omega)]
  · rw [if_neg q]
    by_cases q2 : 1220 + 512 * r + 250 ≤ z ∧ z < 1220 + 512 * r + 250 + 256
    · rw [if_pos q2]
      have := h.2.2.1.2 (z - (1220 + 512 * r + 250)) (by omega) (by omega)
      unfold rq at this
      rw [show 1220 + 512 * r + (250 + (z - (1220 + 512 * r + 250))) = z by omega] at this
      exact this
    · rw [if_neg q2]
theorem pcT_rq {T : Nat → Int32} {r k i : Nat} : rq (pcT T r k) r i = if 250 ≤ i ∧ i < 250 + k then 0 else rq T r i := by
  unfold rq pcT
  by_cases q : 250 ≤ i ∧ i < 250 + k
  · rw [if_pos (by omega), if_pos q]
  · rw [if_neg (by omega), if_neg q]
theorem roT_pc {T : Nat → Int32} {r W m kd sz mk ex ly : Nat} (h : roT T r W m kd sz mk ex ly) : roT (pcT T r 256) r W m kd sz mk ex ly := by
  obtain ⟨⟨q0, q1, q2, q3, q4⟩, k5, ⟨p1, p2⟩, ⟨c1, c2, c3, c4, c5⟩, p, hp, hp2⟩ := h
  have o : ∀ i, i < 250 → rq (pcT T r 256) r i = rq T r i := fun i hi => by rw [pcT_rq, if_neg (by omega)]
  have hly := k5.2.2.2.2.2.2.2.2.2.2.2.2.1
  refine ⟨⟨by rw [o 0 (by omega)]; exact q0, by rw [o 1 (by omega)]; exact q1, by rw [o 2 (by omega)]; exact q2, by rw [o 3 (by omega)]; exact q3, by rw [o 4 (by omega)]; exact q4⟩, k5, ⟨fun n hn => Or.inl (by rw [pcT_rq, if_pos (by omega)]), fun n _ g2 => by rw [pcT_rq, if_pos (by omega)]⟩, ⟨fun z j hj => by rw [o _ (by omega)]; exact c1 z j hj, fun z j hj => by rw [o _ (by omega)]; exact c2 z j hj, fun z j hj => by rw [o _ (by omega)]; exact c3 z j hj, fun z j g1 g2 => by rw [o _ (by omega)]; exact c4 z j g1 g2, fun z => ?_⟩, p, hp, by rw [o 5 (by omega)]; exact hp2⟩
  obtain ⟨⟨t, ht, ht2⟩, l1⟩ := c5 z
  exact ⟨⟨t, ht, by rw [o _ (by omega)]; exact ht2⟩, fun l h1 h2 => by rw [o _ (by omega)]; exact l1 l h1 h2⟩
theorem cX_pc {M : Mem} {T : Nat → Int32} {r W g m kd sz mk ex ly : Nat} (h : cX M T r W g m kd sz mk ex ly) : cX (fillJ M (12 + 4 * r) 4 0) (pcT T r 256) r W g m kd sz mk ex ly ∧ smF [12 + 4 * r] M (fillJ M (12 + 4 * r) 4 0) := by
  obtain ⟨hr, hru, ⟨⟨q0, q1, q2, q3, q4, q5⟩, q6, q7, q8⟩, hro⟩ := h
  have o : ∀ i, i < 250 → rq (pcT T r 256) r i = rq T r i := fun i hi => by rw [pcT_rq, if_neg (by omega)]
  have F : smF [12 + 4 * r] M (fillJ M (12 + 4 * r) 4 0) := fun a ha => by
    simp at ha
    unfold fillJ wJs
    exact va_up_ne _ _ ha
  have lw : ∀ k, rI (fillJ M (12 + 4 * r) 4 0) (10 + 4 * r) k = rI M (10 + 4 * r) k := fun k => F.I_ (by simp) k
  refine ⟨⟨hr, cRu_cong (fun k hk => by unfold pcT; rw [if_neg (by omega)]) (hru.moved (fun a h1 h2 => F a (by simp; omega))), ⟨⟨by rw [lw, o 0 (by omega)]; exact q0, by rw [lw, o 1 (by omega)]; exact q1, by rw [lw, o 2 (by omega)]; exact q2, by rw [lw, o 3 (by omega)]; exact q3, by rw [lw, o 4 (by omega)]; exact q4, by rw [lw, o 5 (by omega)]; exact q5⟩, fun z l h4 hl => ?_, fun j hj => ?_, fun n hn => ?_⟩, roT_pc hro⟩, F⟩
  · rw [o 0 (by omega)] at z
    rw [o 4 (by omega)] at hl
    rw [lw, o _ (by omega)]
    exact q6 z l h4 hl
  · rw [F.I_ (by simp; omega), o _ (by omega)]
    exact q7 j hj
  · rw [show 10 + 4 * r + 2 = 12 + 4 * r by omega, rJ_fillJ, if_pos ⟨rfl, by omega⟩, bl_0, pcT_rq, if_pos (by omega)]
    rfl
def apT (T : Nat → Int32) (r : Nat) (p : Nat → Nat) : Nat → Nat → Int32
  | 0 => T
  | k + 1 => setT (apT T r p k) r (250 + p k) 1
theorem apT_s (T : Nat → Int32) (r : Nat) (p : Nat → Nat) (k : Nat) : apT T r p (k + 1) = setT (apT T r p k) r (250 + p k) 1 := rfl
theorem apT_out {T : Nat → Int32} {r : Nat} {p : Nat → Nat} : ∀ k, (∀ j, j < k → p j < 256) → ∀ z, (z < 1220 + 512 * r ∨ 1220 + 512 * r + 512 ≤ z) → apT T r p k z = T z
  | 0, _, _, _ => rfl
  | k + 1, hp, z, hz => by
    rw [apT_s, setT_out (by have := hp k (by omega); omega) z hz]
    exact apT_out k (fun j hj => hp j (by omega)) z hz
def bvl (A by' : Nat → Int32) (j : Nat) : Int32 := if by' j = -1 then 0 else A (by' j).toNatClampNeg
def slT (T : Nat → Int32) (r : Nat) (A by' : Nat → Int32) (p : Nat → Nat) (sz n : Nat) : Nat → Int32 := apT (pcT (ceT T r (bvl A by') sz) r 256) r p n
theorem slT_out {T : Nat → Int32} {r : Nat} {A by' : Nat → Int32} {p : Nat → Nat} {sz n : Nat} (hs : sz ≤ 64) (hp : ∀ j, j < n → p j < 256) : ∀ z, (z < 1220 + 512 * r ∨ 1220 + 512 * r + 512 ≤ z) → slT T r A by' p sz n z = T z := fun z hz => by
  unfold slT
  rw [apT_out n hp z hz]
  unfold pcT
  rw [if_neg (by omega)]
  unfold ceT
  rw [if_neg (by omega)]
theorem okC4 {W j : Nat} {v : Int32} : okC 4 W j v := ⟨fun z => by omega, fun z => by omega, fun z => by omega, fun z => by omega⟩
theorem c_end {N : Nat} (hN : 700 ≤ N) {M : Mem} {T : Nat → Int32} {r W g m sz mk ex ly t n : Nat} {A by' : Nat → Int32} {p : Nat → Nat} (hc : cX M T r W g m 4 sz mk ex ly) (ht : t < 4) (hn : n ≤ 40)
    (hA : ∀ i, i < n → rI M 128 i = A i) (hB : ∀ j, j < sz → rI M 129 j = by' j) (hB2 : ∀ j, by' j = -1 ∨ ∃ i, i < n ∧ by' j = nI i) (hp : ∀ j, j < n → (rJ M (104 + 2 * t) j).toInt32 = nI (p j) ∧ p j < W) :
    Yo (fX8_settle N 126 (10 + 4 * r) (103 + 2 * t) (nI n) M) (fun x => cX x (slT T r A by' p sz n) r W g m 4 sz mk ex ly ∧ smF [12 + 4 * r, 13 + 4 * r] M x) := by
  have hr := hc.1
  have hs2 : sz ≤ 64 := hc.2.2.2.2.1.2.2.1
  unfold fX8_settle
  refine yo_f2 (F := fX8_settle_l3 N 126 (10 + 4 * r) (103 + 2 * t) (nI n)) sz (fun k v M2 => v = nI k ∧ smF [13 + 4 * r] M M2 ∧ cX M2 (ceT T r (bvl A by') k) r W g m 4 sz mk ex ly) ?_ N 0 _ _ (by omega) (by omega) ⟨rfl, smF.refl, by rw [ceT_0]; exact hc⟩
  intro f k v M2 hk ⟨hv, g1, g2⟩ ih
  subst hv
  show Yo (fX8_settle_l3_s N 126 (10 + 4 * r) (103 + 2 * t) (nI n) (fX8_settle_l3 N 126 (10 + 4 * r) (103 + 2 * t) (nI n) f) (nI k) M2) _
  unfold fX8_settle_l3_s
  rw [g2.flds.2.1]
  rcases Nat.lt_or_ge k sz with hlt | hge
  · have key : ∀ v, v = bvl A by' k → Yo (fX8_settle_b49 N (fX8_settle_l3 N 126 (10 + 4 * r) (103 + 2 * t) (nI n) f) 126 (10 + 4 * r) (103 + 2 * t) (nI n) (nI k) v (nI k) (10 + 4 * r) M2) (fun x => cX x (slT T r A by' p sz n) r W g m 4 sz mk ex ly ∧ smF [12 + 4 * r, 13 + 4 * r] M x) := by
      intro v hv
      subst hv
      unfold fX8_settle_b49
      obtain ⟨s1, s2⟩ := cX_cell g2 (show k < 240 by omega) (v := bvl A by' k) okC4
      rw [s1, Option.bind_some, nI_1]
      exact ih _ _ hlt ⟨rfl, g1.pI_ (by simp) _ _, by rw [← ceT_s]; exact s2⟩
    have e9 : rI M2 129 k = by' k := by rw [g1.I_ (by simp; omega)]; exact hB k hlt
    rw [if_neg (nI_ge hlt (by omega)), if_neg (show ¬ (64 : Int32) ≤ nI k from nI_ge (b := 64) (by omega) (by decide)), if_pos (inB_nI (show k < 64 by omega) (by decide)), nI_clamp (by omega), show (126 + 3 : Nat) = 129 from rfl, show (126 + 2 : Nat) = 128 from rfl, e9]
    rcases hB2 k with q | ⟨i, hi, q⟩
    · rw [if_pos q]
      exact key 0 (by unfold bvl; rw [if_pos q])
    · have q1 : ¬ by' k = -1 := by rw [q, li_1]; exact fun z => (nI_ng (by omega) (by omega) (by omega)).mp z
      rw [if_neg q1, if_pos (inB_nI (show k < 64 by omega) (by decide)), q, if_pos (inB_nI (show i < 40 by omega) (by decide)), nI_clamp (show i < 2147483648 by omega), g1.I_ (by simp; omega), hA i hi]
      exact key (A i) (by unfold bvl; rw [if_neg q1, q, nI_clamp (by omega)])
  · have e : k = sz := by omega
    subst e
    rw [if_pos (nI_le hge (by omega))]
    unfold fX8_settle_b58 fX2_clear
    obtain ⟨h1, h2⟩ := cX_pc g2
    rw [show 10 + 4 * r + 1 + 1 = 12 + 4 * r by omega, Option.bind_some, Option.bind_some]
    refine yo_f2 (F := fX8_settle_l68 N (10 + 4 * r) (103 + 2 * t) (nI n)) n (fun j v M3 => v = nI j ∧ smF [12 + 4 * r, 13 + 4 * r] M M3 ∧ cX M3 (apT (pcT (ceT T r (bvl A by') k) r 256) r p j) r W g m 4 k mk ex ly) ?_ N 0 _ _ (by omega) (by omega) ⟨rfl, (g1.mono (by simp)).trans (h2.mono (by simp)), h1⟩
    intro f' j v M3 hj ⟨hv, j1, j2⟩ ih2
    subst hv
    show Yo (fX8_settle_l68_s N (10 + 4 * r) (103 + 2 * t) (nI n) (fX8_settle_l68 N (10 + 4 * r) (103 + 2 * t) (nI n) f') (nI j) M3) _
    unfold fX8_settle_l68_s
    rcases Nat.lt_or_ge j n with hlt | hge2
    · obtain ⟨p1, p2⟩ := hp j hlt
      rw [if_neg (nI_ge hlt (by omega)), num_ok (by omega), Option.bind_some, show 103 + 2 * t + 1 = 104 + 2 * t by omega, j1.J_ (by simp; omega), p1, nI_1]
      refine (cX_add j2 p2).bi (fun x hx => ?_)
      exact ih2 _ _ hlt ⟨rfl, j1.trans (hx.2.mono (by simp)), by rw [apT_s]; exact hx.1⟩
    · have e : j = n := by omega
      subst e
      rw [if_pos (nI_le hge2 (by omega)), yo_s]
      exact ⟨j2, j1⟩
theorem r_end {N : Nat} (hN : 700 ≤ N) {M : Mem} {T : Nat → Int32} {r W g m sz mk ex ly t n : Nat} {A by' : Nat → Int32} {p : Nat → Nat} (hx : rX M T r W g m 4 sz mk ex ly) (ht : t < 4) (hn : n ≤ 40)
    (hA : ∀ i, i < n → rI M 152 i = A i) (hB : ∀ j, j < sz → rI M 153 j = by' j) (hB2 : ∀ j, by' j = -1 ∨ ∃ i, i < n ∧ by' j = nI i) (hp : ∀ j, j < n → (rJ M 164 (40 * t + j)).toInt32 = nI (p j) ∧ p j < W) :
    Yo (fX11_solve_l188 N 140 (nI r) (nI t) (nI n) N (0 : Int32) M) (fun x => x.1 = nI n ∧ rX x.2 (slT T r A by' p sz n) r W g m 4 sz mk ex ly ∧ smF [141] M x.2) := by
  have hr := hx.1
  have hs2 : sz ≤ 64 := hx.2.2.2.2.1.2.2.1
  refine yo_f2 (F := fX11_solve_l188 N 140 (nI r) (nI t) (nI n)) sz (fun k v M2 => v = nI k ∧ smF [141] M M2 ∧ rX M2 (ceT T r (bvl A by') k) r W g m 4 sz mk ex ly) ?_ N 0 _ _ (by omega) (by omega) ⟨rfl, smF.refl, by rw [ceT_0]; exact hx⟩
  intro f k v M2 hk ⟨hv, g1, g2⟩ ih
  subst hv
  show Yo (fX11_solve_l188_s N 140 (nI r) (nI t) (nI n) (fX11_solve_l188 N 140 (nI r) (nI t) (nI n) f) (nI k) M2) _
  unfold fX11_solve_l188_s
  rw [g2.flds.2.1, Option.bind_some]
  have hW : W ≤ 256 := hx.2.2.1.2.1
  rcases Nat.lt_or_ge k sz with hlt | hge
  · have key : ∀ v, v = bvl A by' k → Yo (fX11_solve_b233 N (fX11_solve_l188 N 140 (nI r) (nI t) (nI n) f) 140 (nI r) (nI t) (nI n) (nI k) v ((10 : Int32) + nI k) (nI r) 140 M2) (fun x => x.1 = nI n ∧ rX x.2 (slT T r A by' p sz n) r W g m 4 sz mk ex ly ∧ smF [141] M x.2) := by
      intro v hv
      subst hv
      unfold fX11_solve_b233
      rw [li_10, nI_add, set_ok _ _ (by omega), Option.bind_some, nI_1]
      exact ih _ _ hlt ⟨rfl, g1.pI_ (by simp) _ _, by rw [← ceT_s]; exact rX_set g2 (roT_cell g2.2.2.2 (by omega) okC4)⟩
    have e9 : rI M2 153 k = by' k := by rw [g1.I_ (by simp)]; exact hB k hlt
    rw [if_neg (nI_ge hlt (by omega)), if_pos (inB_nI (show k < 64 by omega) (by decide)), nI_clamp (by omega), show (140 + 13 : Nat) = 153 from rfl, show (140 + 12 : Nat) = 152 from rfl, e9]
    rcases hB2 k with q | ⟨i, hi, q⟩
    · rw [if_pos q]
      exact key 0 (by unfold bvl; rw [if_pos q])
    · have q1 : ¬ by' k = -1 := by rw [q, li_1]; exact fun z => (nI_ng (by omega) (by omega) (by omega)).mp z
      rw [if_neg q1, if_pos (inB_nI (show k < 64 by omega) (by decide)), q, if_pos (inB_nI (show i < 40 by omega) (by decide)), nI_clamp (show i < 2147483648 by omega), g1.I_ (by simp), hA i hi]
      exact key (A i) (by unfold bvl; rw [if_neg q1, q, nI_clamp (by omega)])
  · have e : k = sz := by omega
    subst e
    rw [if_pos (nI_le hge (by omega))]
    -- the names cleared
    refine yo_f2 (F := fX11_solve_l245 N 140 (nI r) (nI t) (nI n)) W (fun j v M3 => v = nI j ∧ smF [141] M M3 ∧ (M3 141).1 = pcT (ceT T r (bvl A by') k) r j) ?_ N 0 _ _ (by omega) (by omega) ⟨rfl, g1, by
      rw [g2.2.1]
      funext z
      unfold pcT
      rw [if_neg (by omega)]⟩
    intro f2 j v M3 hj ⟨hv, j1, j2⟩ ih2
    subst hv
    show Yo (fX11_solve_l245_s N 140 (nI r) (nI t) (nI n) (fX11_solve_l245 N 140 (nI r) (nI t) (nI n) f2) (nI j) M3) _
    unfold fX11_solve_l245_s
    have e1 : rI M3 (140 + 1) (1 : Int32).toNatClampNeg = nI W := by
      have : rI M3 (140 + 1) (1 : Int32).toNatClampNeg = (M3 141).1 1 := rfl
      rw [this, j2]
      unfold pcT
      rw [if_neg (by omega)]
      unfold ceT
      rw [if_neg (by omega)]
      exact hx.2.2.1.2.2.1
    rw [if_pos (by decide), e1]
    rcases Nat.lt_or_ge j W with hlt | hge2
    · rw [if_neg (nI_ge hlt (by omega)), li_250, nI_add, set_ok _ _ (by omega), Option.bind_some, nI_1]
      exact ih2 _ _ hlt ⟨rfl, j1.pI_ (by simp) _ _, by rw [setT_mem j2, pcT_s]⟩
    · have e : j = W := by omega
      subst e
      rw [if_pos (nI_le hge2 (by omega))]
      rw [pcT_W g2.2.2.2 hW] at j2
      have hx3 : rX M3 (pcT (ceT T r (bvl A by') k) r 256) r j g m 4 k mk ex ly := ⟨hr, j2, ruT_cong (fun z hz => by unfold pcT; rw [if_neg (by omega)]) g2.2.2.1, roT_pc g2.2.2.2⟩
      refine yo_f2 (F := fX11_solve_l277 N 140 (nI r) (nI t) (nI n)) n (fun i v M4 => v = nI i ∧ smF [141] M M4 ∧ rX M4 (apT (pcT (ceT T r (bvl A by') k) r 256) r p i) r j g m 4 k mk ex ly) ?_ N 0 _ _ (by omega) (by omega) ⟨rfl, j1, hx3⟩
      intro f3 i v M4 hi ⟨hv, i1, i2⟩ ih3
      subst hv
      show Yo (fX11_solve_l277_s N 140 (nI r) (nI t) (nI n) (fX11_solve_l277 N 140 (nI r) (nI t) (nI n) f3) (nI i) M4) _
      unfold fX11_solve_l277_s
      rcases Nat.lt_or_ge i n with hlt | hge3
      · obtain ⟨p1, p2⟩ := hp i hlt
        rw [if_neg (nI_ge hlt (by omega)), inTray_ok ht (by omega), Option.bind_some, i1.J_ (by simp), p1, li_250, nI_add, set_ok _ _ (by omega), Option.bind_some, nI_1]
        exact ih3 _ _ hlt ⟨rfl, i1.pI_ (by simp) _ _, by rw [apT_s]; exact rX_set i2 (roT_put i2.2.2.2 (by omega) (Or.inr ⟨rfl, p2⟩))⟩
      · have e : i = n := by omega
        subst e
        rw [if_pos (nI_le hge3 (by omega)), yo_s]
        exact ⟨rfl, i2, i1⟩
