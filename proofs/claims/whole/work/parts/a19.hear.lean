/-! SEMANTICS: what a list of names tells of the places -/
noncomputable def rowV (T : Nat → Int32) (r sz q : Nat) : Bool := decide (q < sz) && !(decide (rq T r (10 + q) = 0))
noncomputable def sayB (T : Nat → Int32) (r mk sz n : Nat) : Bool := bo (∀ w, w < mk → rowV T r sz (plT T w (nI n) sz) = true)
noncomputable def knwB (T : Nat → Int32) (r mk sz : Nat) (p : Nat → Nat) (k q : Nat) : Bool := bo (∃ j, j < k ∧ sayB T r mk sz (p j) = true ∧ plcB T mk sz (p j) q = true)
noncomputable def askB' (p : Nat → Nat) (k n : Nat) : Bool := bo (∃ j, j < k ∧ p j = n)
theorem bo_s {P : Nat → Prop} {k : Nat} : bo (∃ j, j < k + 1 ∧ P j) = (bo (∃ j, j < k ∧ P j) || bo (P k)) := by
  by_cases h : ∃ j, j < k ∧ P j
  · rw [bo_t h]
    obtain ⟨j, hj, hp⟩ := h
    rw [bo_t (show ∃ j, j < k + 1 ∧ P j from ⟨j, by omega, hp⟩)]
    rfl
  · rw [bo_f h, Bool.false_or]
    by_cases h2 : P k
    · rw [bo_t h2, bo_t ⟨k, by omega, h2⟩]
    · rw [bo_f h2, bo_f]
      rintro ⟨j, hj, hp⟩
      by_cases e : j = k
      · subst e; exact h2 hp
      · exact h ⟨j, by omega, hp⟩
theorem bo_and {P Q : Prop} : bo (P ∧ Q) = (bo P && bo Q) := by
  by_cases h : P
  · by_cases h2 : Q
    · rw [bo_t h, bo_t h2, bo_t ⟨h, h2⟩]; rfl
    · rw [bo_f h2, Bool.and_false, bo_f (fun z => h2 z.2)]
  · rw [bo_f h, Bool.false_and, bo_f (fun z => h z.1)]
theorem bo_bool (b : Bool) : bo (b = true) = b := by
  cases b with
  | true => exact bo_t rfl
  | false => exact bo_f (by decide)
theorem knwB_s {T : Nat → Int32} {r mk sz : Nat} {p : Nat → Nat} {k q : Nat} : knwB T r mk sz p (k + 1) q = (knwB T r mk sz p k q || (sayB T r mk sz (p k) && plcB T mk sz (p k) q)) := by
  unfold knwB
  rw [bo_s (P := fun j => sayB T r mk sz (p j) = true ∧ plcB T mk sz (p j) q = true), bo_and, bo_bool, bo_bool]
theorem askB_s {p : Nat → Nat} {k n : Nat} : askB' p (k + 1) n = (askB' p k n || bo (p k = n)) := by
  unfold askB'
  rw [bo_s (P := fun j => p j = n)]
theorem askB_uv {p : Nat → Nat} {k : Nat} : askB' p (k + 1) = uv (askB' p k) (p k) true := by
  funext n
  rw [askB_s]
  by_cases q : n = p k
  · rw [q, uv_eq, bo_t rfl, Bool.or_true]
  · rw [uv_ne q, bo_f (fun z => q z.symm), Bool.or_false]
theorem askB_0 {p : Nat → Nat} : askB' p 0 = fun _ => false := by
  funext n
  exact bo_f (fun ⟨j, hj, _⟩ => absurd hj (Nat.not_lt_zero j))
theorem says0 {T : Nat → Int32} {r W g sz mk ex ly n : Nat} (hly : ly = 1) (h1 : 1 ≤ sz) : bo (saysP T r W g 0 sz mk ex ly n) = sayB T r mk sz n := by
  refine bo_cong ?_
  rw [saysO (by decide) (by decide)]
  subst hly
  have hv : ∀ w, (rowV T r sz (plT T w (nI n) sz) = true ↔ rq T r (10 + plT T w (nI n) sz) ≠ 0) := fun w => by
    have hpl := plT_lt (T := T) (w := w) (name := nI n) h1
    unfold rowV
    rw [decide_eq_true hpl, Bool.true_and]
    simp
  constructor
  · rintro ⟨l, hl, h⟩ w hw
    have el : l = 0 := by omega
    subst el
    have := h w hw
    rw [Nat.pow_zero, Nat.sub_self, Nat.mul_zero, Nat.mul_one, Nat.zero_add] at this
    exact (hv w).mpr this
  · intro h
    refine ⟨0, by omega, fun w hw => ?_⟩
    rw [Nat.pow_zero, Nat.sub_self, Nat.mul_zero, Nat.mul_one, Nat.zero_add]
    exact (hv w).mp (h w hw)
/-- the places of every name are laid -/
def cPl (M : Mem) (T : Nat → Int32) (mk sz W : Nat) : Prop := rI M 130 5 = nI W ∧ ∀ n, n < W → ∀ q, bl (rJ M 133 n) q = plcB T mk sz n q
theorem c_lay {N : Nat} (hN : 700 ≤ N) {M : Mem} {T : Nat → Int32} {r W g m kd sz mk ex ly : Nat} (hc : cX M T r W g m kd sz mk ex ly) :
    Yo (fX0_lay N 130 (10 + 4 * r) 2 M) (fun x => cPl x T mk sz W ∧ smF [8, 130, 133] M x) := by
  have hr := hc.1
  have hW : W ≤ 256 := hc.W1.2.2
  have hs := hc.2.2.2.2.1.2.1
  have hs2 := hc.2.2.2.2.1.2.2.1
  have hm : mk ≤ m := hc.2.2.2.2.1.2.2.2.2.2.1
  have hmin : minI (nI W) (256 : Int32) = nI W := by
    unfold minI
    rw [if_neg]
    rw [show (256 : Int32) = nI 256 from rfl, Int32.lt_iff_toInt_lt, nI_toInt (by omega), nI_toInt (by omega)]
    omega
  unfold fX0_lay
  rw [show rI M 2 1 = nI W from hc.2.1.2.2.1, hmin]
  refine yo_f2 (F := fX0_lay_l16 N 130 (10 + 4 * r) 2) W (fun k v M2 => v = nI k ∧ smF [8, 130, 133] M M2 ∧ rI M2 130 5 = nI W ∧ ∀ n, n < k → ∀ q, bl (rJ M2 133 n) q = plcB T mk sz n q) ?_ N 0 _ _ (by omega) (by omega) ⟨rfl, smF.refl.pI_ (by simp) _ _, by rw [rI_wI, if_pos ⟨rfl, rfl⟩], fun n hn => absurd hn (Nat.not_lt_zero n)⟩
  intro f k v M2 hk ⟨hv, g1, g2, g3⟩ ih
  subst hv
  show Yo (fX0_lay_l16_s N 130 (10 + 4 * r) 2 (fX0_lay_l16 N 130 (10 + 4 * r) 2 f) (nI k) M2) _
  unfold fX0_lay_l16_s
  have hc2 : cX M2 T r W g m kd sz mk ex ly := hc.mv (fun a h1 h2 => g1 a (by simp; omega))
  rw [g2, hc2.flds.2.1, hc2.flds.2.2.1]
  rcases Nat.lt_or_ge k W with hlt | hge
  · rw [if_neg (nI_ge hlt (by omega))]
    refine (c_plcs (n := k) hN hc2.2.1 hm hs hs2).bi (fun x hx => ?_)
    rw [if_pos (inB_nI (show k < 256 by omega) (by decide)), nI_clamp (by omega), nI_1, show (130 + 3 : Nat) = 133 from rfl]
    refine ih _ _ hlt ⟨rfl, (g1.trans (hx.2.mono (by simp))).pJ_ (by simp) _ _, by rw [rI_wJ, hx.2.I_ (by decide), g2], fun n hn q => ?_⟩
    rw [rJ_wJ]
    by_cases e : n = k
    · rw [if_pos ⟨rfl, e⟩, e]; exact hx.1 q
    · rw [if_neg (fun z => e z.2), hx.2.J_ (by decide)]; exact g3 n (by omega) q
  · have e : k = W := by omega
    subst e
    rw [if_pos (nI_le hge (by omega)), yo_s]
    exact ⟨⟨g2, g3⟩, g1⟩
theorem c_bits {N : Nat} (hN : 700 ≤ N) {M : Mem} {T : Nat → Int32} {r W g m kd sz mk ex ly : Nat} (hc : cX M T r W g m kd sz mk ex ly) :
    Yo (fX5_bits N (10 + 4 * r) M) (fun x => ∀ q, bl x q = rowV T r sz q) := by
  have hs2 := hc.2.2.2.2.1.2.2.1
  unfold fX5_bits
  refine yo_f2 (F := fX5_bits_l4 N (10 + 4 * r) M) sz (fun k a v => v = nI k ∧ ∀ q, bl a q = (decide (q < k) && !(decide (rq T r (10 + q) = 0)))) ?_ N 0 _ _ (by omega) (by omega) ⟨rfl, fun q => by rw [bl_0, decide_eq_false (Nat.not_lt_zero q), Bool.false_and]⟩
  intro f k a v hk ⟨hv, g1⟩ ih
  subst hv
  show Yo (fX5_bits_l4_s N (10 + 4 * r) M (fX5_bits_l4 N (10 + 4 * r) M f) a (nI k)) _
  unfold fX5_bits_l4_s fX5_bits_b26
  rw [hc.flds.2.1]
  rcases Nat.lt_or_ge k sz with hlt | hge
  · rw [if_neg (nI_ge hlt (by omega)), hc.cell (show k < 240 by omega), Option.bind_some, nI_1]
    have step : ∀ (b : Int64), (∀ q, bl b q = (decide (q = k) && !(decide (rq T r (10 + k) = 0)))) → ∀ q, bl (a ||| b) q = (decide (q < k + 1) && !(decide (rq T r (10 + q) = 0))) := by
      intro b hb q
      rw [bl_or, g1, hb]
      by_cases e : q = k
      · subst e
        rw [decide_eq_false (Nat.lt_irrefl q), decide_eq_true rfl, decide_eq_true (show q < q + 1 by omega)]
        simp
      · by_cases e2 : q < k
        · rw [decide_eq_true e2, decide_eq_false e, decide_eq_true (show q < k + 1 by omega)]
          simp
        · rw [decide_eq_false e2, decide_eq_false e, decide_eq_false (show ¬ q < k + 1 by omega)]
          rfl
    refine yo_i (fun z => ?_) (fun z => ?_)
    · refine ih _ _ hlt ⟨rfl, step _ (fun q => ?_)⟩
      rw [decide_eq_true z, Bool.not_true, Bool.and_false]
      have : shlJ (0 : Int64) (nI k) = 0 := bl_ext (fun i hi => by rw [bl_shl k (by omega) 0 hi, bl_0, bl_0, Bool.and_false])
      rw [this, bl_0]
    · refine ih _ _ hlt ⟨rfl, step _ (fun q => ?_)⟩
      rw [bl_one (by omega), decide_eq_false z, Bool.not_false, Bool.and_true]
  · have e : k = sz := by omega
    subst e
    rw [if_pos (nI_le hge (by omega)), yo_s]
    exact g1
theorem c_hear {N : Nat} (hN : 700 ≤ N) {M : Mem} {T : Nat → Int32} {r W g m kd sz mk ex ly t ma : Nat} {p : Nat → Nat} (hc : cX M T r W g m kd sz mk ex ly) (ht : t < 4) (hma : ma ≤ 40) (e1 : rI M (103 + 2 * t) 1 = nI ma) (hp : ∀ j, j < ma → (rJ M (104 + 2 * t) j).toInt32 = nI (p j) ∧ p j < W) :
    Yo (fX0_hear N 130 (10 + 4 * r) 2 (103 + 2 * t) M) (fun x => cPl x T mk sz W ∧ (∀ q, bl (rJ x 130 6) q = knwB T r mk sz p ma q) ∧ cN x 131 (askB' p ma) ∧ smF [8, 130, 132, 133] M x) := by
  have hr := hc.1
  have hW : W ≤ 256 := hc.W1.2.2
  have hs := hc.2.2.2.2.1.2.1
  have hs2 := hc.2.2.2.2.1.2.2.1
  unfold fX0_hear
  refine (c_lay hN hc).bi (fun x hx => ?_)
  obtain ⟨⟨x1, x2⟩, x3⟩ := hx
  have hc2 : cX x T r W g m kd sz mk ex ly := hc.mv (fun a h1 h2 => x3 a (by simp; omega))
  refine (c_bits hN hc2).bi (fun B hB => ?_)
  refine (cN_clear (b := 131)).bi (fun y hy => ?_)
  have hF1 : smF [130] x (wJ x 130 6 0) := smF.refl.pJ_ (by simp) _ _
  have hy2 : smF [130, 132] x y := (hF1.mono (by simp)).trans (hy.2.mono (by simp))
  have y5 : rI y 130 5 = nI W := by rw [hy.2.I_ (by simp), rI_wJ, x1]
  have y6 : rJ y 130 6 = 0 := by rw [hy.2.J_ (by simp), rJ_wJ, if_pos ⟨rfl, rfl⟩]
  have y3 : ∀ n, n < W → ∀ q, bl (rJ y 133 n) q = plcB T mk sz n q := fun n hn q => by rw [hy2.J_ (by simp)]; exact x2 n hn q
  refine yo_f2 (F := fX0_hear_l27 N 130 (103 + 2 * t) B) ma (fun k v M2 => v = nI k ∧ smF [130, 132] x M2 ∧ rI M2 130 5 = nI W ∧ (∀ q, bl (rJ M2 130 6) q = knwB T r mk sz p k q) ∧ cN M2 131 (askB' p k)) ?_ N 0 _ _ (by omega) (by omega) ⟨rfl, hy2, y5, fun q => by rw [y6, bl_0]; exact (bo_f (fun ⟨j, hj, _⟩ => absurd hj (Nat.not_lt_zero j))).symm, by rw [askB_0]; exact hy.1⟩
  intro f k v M2 hk ⟨hv, g1, g2, g3, g4⟩ ih
  subst hv
  show Yo (fX0_hear_l27_s N 130 (103 + 2 * t) B (fX0_hear_l27 N 130 (103 + 2 * t) B f) (nI k) M2) _
  unfold fX0_hear_l27_s fX0_hear_b103 fX0_hear_b107
  have hF : smF [8, 130, 132, 133] M M2 := (x3.mono (by simp)).trans (g1.mono (by simp))
  rw [hF.I_ (by simp; omega), e1]
  rcases Nat.lt_or_ge k ma with hlt | hge
  · obtain ⟨p1, p2⟩ := hp k hlt
    rw [if_neg (nI_ge hlt (by omega)), num_ok (by omega), Option.bind_some, show 103 + 2 * t + 1 = 104 + 2 * t by omega, hF.J_ (by simp; omega), p1, if_neg (nI_pos (by omega)), g2, if_neg (nI_ge p2 (by omega)), nI_1]
    refine (cN_add g4 (show p k < 256 by omega)).bi (fun z hz => ?_)
    have z3 : ∀ q, bl (rJ z 133 (p k)) q = plcB T mk sz (p k) q := fun q => by rw [hz.2.J_ (by simp), g1.J_ (by simp)]; exact x2 _ p2 q
    have z6 : rJ z 130 6 = rJ M2 130 6 := hz.2.J_ (by simp) _
    have zF : smF [130, 132] x z := g1.trans (hz.2.mono (by simp))
    rw [if_pos (inB_nI (show p k < 256 by omega) (by decide)), nI_clamp (by omega), show (130 + 3 : Nat) = 133 from rfl]
    have hin : (rJ z 133 (p k) &&& (B ^^^ (-1 : Int64)) = 0) ↔ sayB T r mk sz (p k) = true := by
      rw [bl_in]
      unfold sayB
      rw [bo_iff, ← pl_in (V := rowV T r sz) hs hs2]
      refine ⟨fun h q hq hp => ?_, fun h q hq hp => ?_⟩
      · rw [← hB]; exact h q hq (by rw [z3]; exact hp)
      · rw [hB]; exact h q hq (by rw [← z3]; exact hp)
    have fin : ∀ w : Int64, (∀ q, bl w q = knwB T r mk sz p (k + 1) q) → Yo (fX0_hear_l27 N 130 (103 + 2 * t) B f (nI (k + 1)) (wJ z 130 6 w)) (fun x => cPl x T mk sz W ∧ (∀ q, bl (rJ x 130 6) q = knwB T r mk sz p ma q) ∧ cN x 131 (askB' p ma) ∧ smF [8, 130, 132, 133] M x) := by
      intro w hw
      refine ih _ _ hlt ⟨rfl, zF.pJ_ (by simp) _ _, by rw [rI_wJ, hz.2.I_ (by simp)]; exact g2, fun q => by rw [rJ_wJ, if_pos ⟨rfl, rfl⟩]; exact hw q, ?_⟩
      rw [askB_uv]
      exact hz.1.mv (smF.refl.pJ_ (S := [130]) (by simp) _ _ _ (by simp))
    by_cases q : rJ z 133 (p k) &&& (B ^^^ (-1 : Int64)) = 0
    · rw [if_pos q, if_pos (inB_nI (show p k < 256 by omega) (by decide))]
      refine fin _ (fun i => ?_)
      rw [bl_or, z6, g3, z3, knwB_s, hin.mp q, Bool.true_and]
    · rw [if_neg q]
      refine fin _ (fun i => ?_)
      have hs0 : sayB T r mk sz (p k) = false := by
        cases e : sayB T r mk sz (p k) with
        | false => rfl
        | true => exact absurd (hin.mpr e) q
      rw [bl_or, z6, g3, bl_0, Bool.or_false, knwB_s, hs0, Bool.false_and, Bool.or_false]
  · have e : k = ma := by omega
    subst e
    rw [if_pos (nI_le hge (by omega)), yo_s]
    exact ⟨⟨g2, fun n hn q => by rw [g1.J_ (by simp)]; exact x2 n hn q⟩, g3, g4, hF⟩
