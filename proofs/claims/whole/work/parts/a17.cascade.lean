/-! SEMANTICS: cascade -/
noncomputable def setS (T : Nat → Int32) (r W : Nat) (n : Nat) : Bool := decide (n < W) && decide (rq T r (250 + n) = 1)
noncomputable def setA (T : Nat → Int32) (r W : Nat) (p : Nat → Nat) (k n : Nat) : Bool := bo (∃ j, j < k ∧ p j = n) && !(setS T r W n)
theorem setS_W {T : Nat → Int32} {r W : Nat} : ∀ n, W ≤ n → setS T r W n = false := fun n hn => by
  unfold setS
  rw [decide_eq_false (show ¬ n < W by omega), Bool.false_and]
theorem setS_lt {T : Nat → Int32} {r W n : Nat} (h : n < W) : setS T r W n = decide (rq T r (250 + n) = 1) := by
  unfold setS
  rw [decide_eq_true h, Bool.true_and]
theorem setS_put {T : Nat → Int32} {r W m kd sz mk ex ly n : Nat} (h : roT T r W m kd sz mk ex ly) (hn : n < 256) : decide (rq T r (250 + n) = 1) = setS T r W n := by
  rcases Nat.lt_or_ge n W with q | q
  · rw [setS_lt q]
  · rw [setS_W n q, h.2.2.1.2 n q hn]
    rfl
theorem setA_W {T : Nat → Int32} {r W k : Nat} {p : Nat → Nat} (hp : ∀ j, j < k → p j < W) : ∀ n, W ≤ n → setA T r W p k n = false := fun n hn => by
  unfold setA
  rw [bo_f (fun ⟨j, hj, e⟩ => by have := hp j hj; omega), Bool.false_and]
theorem setA_s {T : Nat → Int32} {r W k : Nat} {p : Nat → Nat} : (if setS T r W (p k) = true then setA T r W p k else uv (setA T r W p k) (p k) true) = setA T r W p (k + 1) := by
  funext n
  have hne : n ≠ p k → bo (∃ j, j < k + 1 ∧ p j = n) = bo (∃ j, j < k ∧ p j = n) := fun q => by
    by_cases h : ∃ j, j < k ∧ p j = n
    · obtain ⟨j, hj, e⟩ := h
      rw [bo_t (show ∃ j, j < k + 1 ∧ p j = n from ⟨j, by omega, e⟩), bo_t (show ∃ j, j < k ∧ p j = n from ⟨j, hj, e⟩)]
    · rw [bo_f h, bo_f]
      rintro ⟨j, hj, e⟩
      by_cases ej : j = k
      · subst ej; exact q e.symm
      · exact h ⟨j, by omega, e⟩
  by_cases hS : setS T r W (p k) = true
  · rw [if_pos hS]
    unfold setA
    by_cases q : n = p k
    · rw [q, hS, Bool.not_true, Bool.and_false, Bool.and_false]
    · rw [hne q]
  · rw [if_neg hS]
    by_cases q : n = p k
    · rw [q, uv_eq]
      unfold setA
      rw [bo_t ⟨k, by omega, rfl⟩, Bool.true_and]
      cases e : setS T r W (p k) with
      | true => exact absurd e hS
      | false => rfl
    · rw [uv_ne q]
      unfold setA
      rw [hne q]
theorem setA_0 {T : Nat → Int32} {r W : Nat} {p : Nat → Nat} : setA T r W p 0 = fun _ => false := by
  funext n
  unfold setA
  rw [bo_f (fun ⟨j, hj, _⟩ => absurd hj (Nat.not_lt_zero j)), Bool.false_and]
theorem c_gather {N : Nat} (hN : 700 ≤ N) {M : Mem} {T : Nat → Int32} {r W g m kd sz mk ex ly t ma b : Nat} {p : Nat → Nat} (hc : cX M T r W g m kd sz mk ex ly) (ht : t < 4) (hma : ma ≤ 40) (hb : 111 ≤ b) (e1 : rI M (103 + 2 * t) 1 = nI ma) (hp : ∀ j, j < ma → (rJ M (104 + 2 * t) j).toInt32 = nI (p j) ∧ p j < W) :
    Yo (fX1_gatherOutside N (10 + 4 * r) (103 + 2 * t) b M) (fun x => cN x b (setA T r W p ma) ∧ smF [b + 1] M x) := by
  have hr := hc.1
  have hW : W ≤ 256 := hc.W1.2.2
  unfold fX1_gatherOutside
  refine (cN_clear).bi (fun y hy => ?_)
  refine yo_f2 (F := fX1_gatherOutside_l6 N (10 + 4 * r) (103 + 2 * t) b) ma (fun k v M2 => v = nI k ∧ smF [b + 1] M M2 ∧ cN M2 b (setA T r W p k)) ?_ N 0 _ _ (by omega) (by omega) ⟨rfl, hy.2, by rw [setA_0]; exact hy.1⟩
  intro f k v M2 hk ⟨hv, g1, g2⟩ ih
  subst hv
  show Yo (fX1_gatherOutside_l6_s N (10 + 4 * r) (103 + 2 * t) b (fX1_gatherOutside_l6 N (10 + 4 * r) (103 + 2 * t) b f) (nI k) M2) _
  unfold fX1_gatherOutside_l6_s fX1_gatherOutside_b40
  rw [g1.I_ (by simp; omega), e1]
  rcases Nat.lt_or_ge k ma with hlt | hge
  · obtain ⟨p1, p2⟩ := hp k hlt
    have hc2 : cX M2 T r W g m kd sz mk ex ly := hc.mv (fun a h1 h2 => g1 a (by simp; omega))
    rw [if_neg (nI_ge hlt (by omega)), num_ok (by omega), Option.bind_some, show 103 + 2 * t + 1 = 104 + 2 * t by omega, g1.J_ (by simp; omega), p1, has_ok (by omega), Option.bind_some, hc2.2.2.1.2.2.2 (p k) (by omega), setS_put hc.2.2.2 (by omega), nI_1]
    by_cases q : setS T r W (p k) = true
    · rw [if_pos q]
      refine ih _ _ hlt ⟨rfl, g1, ?_⟩
      rw [← setA_s, if_pos q]
      exact g2
    · rw [if_neg q]
      refine (cN_add g2 (show p k < 256 by omega)).bi (fun x hx => ?_)
      refine ih _ _ hlt ⟨rfl, g1.trans hx.2, ?_⟩
      rw [← setA_s, if_neg q]
      exact hx.1
  · have e : k = ma := by omega
    subst e
    rw [if_pos (nI_le hge (by omega)), yo_s]
    exact ⟨g2, g1⟩
theorem c_build {N : Nat} (hN : 700 ≤ N) {M : Mem} {T : Nat → Int32} {r W g m kd sz0 mk ex ly t ma u ms : Nat} {p sz : Nat → Nat} (hc : cX M T r W g m kd sz0 mk ex ly) (ht : t < 4) (hma : ma ≤ 40) (e1 : rI M (103 + 2 * t) 1 = nI ma) (hp : ∀ j, j < ma → (rJ M (104 + 2 * t) j).toInt32 = nI (p j) ∧ p j < W)
    (hu : u < 4) (hms : ms ≤ 40) (hsz : ∀ i, i < ms → 1 ≤ sz i ∧ sz i ≤ 64) (d1 : rI M (103 + 2 * u) 1 = nI ms) (d2 : ∀ i, i < ms → (rJ M (104 + 2 * u) i).toInt32 = nI (sz i)) :
    Yo (fX1_build N 135 (10 + 4 * r) 2 (103 + 2 * t) (103 + 2 * u) M) (fun x => (∀ what : Int32, (if x.1 = true then (if what = 0 then rI x.2 135 0 else if what = 1 then rI x.2 135 1 else rI x.2 135 2) else -1) = lvF T mk W sz what ms 0 (setS T r W) (setA T r W p ma) 0 0) ∧ smF [8, 135, 137, 139] M x.2) := by
  have hr := hc.1
  unfold fX1_build fX2_copyFrom
  have hF0 : smF [135] M (wI (wI (wI M 135 0 (0 : Int32)) 135 1 (0 : Int32)) 135 2 (0 : Int32)) := ((smF.refl.pI_ (by simp) _ _).pI_ (by simp) _ _).pI_ (by simp) _ _
  have q0 : rI (wI (wI (wI M 135 0 (0 : Int32)) 135 1 (0 : Int32)) 135 2 (0 : Int32)) 135 0 = nI 0 := by rw [rI_wI, if_neg (by omega), rI_wI, if_neg (by omega), rI_wI, if_pos ⟨rfl, rfl⟩]; rfl
  have q1 : rI (wI (wI (wI M 135 0 (0 : Int32)) 135 1 (0 : Int32)) 135 2 (0 : Int32)) 135 1 = nI 0 := by rw [rI_wI, if_neg (by omega), rI_wI, if_pos ⟨rfl, rfl⟩]; rfl
  have q2 : rI (wI (wI (wI M 135 0 (0 : Int32)) 135 1 (0 : Int32)) 135 2 (0 : Int32)) 135 2 = nI 0 := by rw [rI_wI, if_pos ⟨rfl, rfl⟩]; rfl
  generalize wI (wI (wI M 135 0 (0 : Int32)) 135 1 (0 : Int32)) 135 2 (0 : Int32) = M1 at *
  rw [Option.bind_some, show 10 + 4 * r + 1 + 1 = 12 + 4 * r by omega, show (135 + 1 + 1 : Nat) = 137 from rfl, show (135 + 3 : Nat) = 138 from rfl, show (135 + 1 : Nat) = 136 from rfl]
  have hF1 : smF [137] M1 (cpJ M1 (12 + 4 * r) 137 4) := fun a ha => by
    simp at ha
    unfold cpJ wJs
    exact va_up_ne _ _ ha
  have hS1 : cN (cpJ M1 (12 + 4 * r) 137 4) 136 (setS T r W) := fun n hn => by
    rw [show (136 + 1 : Nat) = 137 from rfl, rJ_cpJ, if_pos ⟨rfl, by omega⟩, hF0.J_ (by simp; omega), show 12 + 4 * r = 10 + 4 * r + 2 by omega, hc.2.2.1.2.2.2 n hn]
    exact setS_put hc.2.2.2 hn
  have hF2 : smF [135, 137] M (cpJ M1 (12 + 4 * r) 137 4) := (hF0.mono (by simp)).trans (hF1.mono (by simp))
  have w0 : ∀ k, rI (cpJ M1 (12 + 4 * r) 137 4) 135 k = rI M1 135 k := fun k => hF1.I_ (by simp) k
  generalize cpJ M1 (12 + 4 * r) 137 4 = M2 at *
  have hc2 : cX M2 T r W g m kd sz0 mk ex ly := hc.mv (fun a h1 h2 => hF2 a (by simp; omega))
  refine (c_gather hN hc2 ht hma (show 111 ≤ 138 by omega) (by rw [hF2.I_ (by simp; omega)]; exact e1) (fun j hj => by rw [hF2.J_ (by simp; omega)]; exact hp j hj)).bi (fun y hy => ?_)
  have hF3 : smF [135, 137, 139] M y := (hF2.mono (by decide)).trans (hy.2.mono (by decide))
  refine (c_levels hN hu hms hsz ms N 0 136 138 0 0 y (setS T r W) (setA T r W p ma) (by omega) (by omega) (Or.inl ⟨rfl, rfl⟩) (hc.mv (fun a h1 h2 => hF3 a (by simp; omega))) (by rw [hF3.I_ (by simp; omega)]; exact d1) (fun i hi => by rw [hF3.J_ (by simp; omega)]; exact d2 i hi) (hS1.mv (hy.2 _ (by simp))) hy.1 setS_W (setA_W (fun j hj => (hp j hj).2)) (by rw [hy.2.I_ (by simp), w0, q0]) (by rw [hy.2.I_ (by simp), w0, q1]) (by rw [hy.2.I_ (by simp), w0, q2])).to (fun x hx => ⟨hx.1, (hF3.mono (by decide)).trans hx.2⟩)
/-- the reference's, from the first level's sets on -/
theorem r_takesPut {N : Nat} (hN : 700 ≤ N) {M : Mem} {T : Nat → Int32} {r W g m kd sz mk ex ly : Nat} (hx : rX M T r W g m kd sz mk ex ly) :
    Yo (fX11_takesPut N 140 (nI r) M) (fun x => rN x 156 W (setS T r W) ∧ smF [156] M x) := by
  have hr := hx.1
  have hW : W ≤ 256 := hx.2.2.1.2.1
  unfold fX11_takesPut
  refine yo_f2 (F := fX11_takesPut_l2 N 140 (nI r)) W (fun k v M2 => v = nI k ∧ smF [156] M M2 ∧ rN M2 156 k (setS T r W)) ?_ N 0 _ _ (by omega) (by omega) ⟨rfl, smF.refl, fun n hn => absurd hn (Nat.not_lt_zero n)⟩
  intro f k v M2 hk ⟨hv, g1, g2⟩ ih
  subst hv
  show Yo (fX11_takesPut_l2_s N 140 (nI r) (fX11_takesPut_l2 N 140 (nI r) f) (nI k) M2) _
  unfold fX11_takesPut_l2_s
  have hx2 : rX M2 T r W g m kd sz mk ex ly := hx.mv (g1 141 (by decide))
  rw [if_pos (by decide), rworld hx2]
  rcases Nat.lt_or_ge k W with hlt | hge
  · rw [if_neg (nI_ge hlt (by omega)), isIn_ok hr (by omega), Option.bind_some, hx2.2.1, if_pos (inB_nI (show k < 256 by omega) (by decide)), nI_clamp (by omega), bI_nar, nI_1, ← setS_lt hlt]
    refine ih _ _ hlt ⟨rfl, g1.pI_ (by decide) _ _, fun n hn => ?_⟩
    rw [show (140 + 16 : Nat) = 156 from rfl, rI_wI]
    by_cases q : n = k
    · rw [if_pos ⟨rfl, q⟩, q]
    · rw [if_neg (fun z => q z.2)]; exact g2 n (by omega)
  · have e : k = W := by omega
    subst e
    rw [if_pos (nI_le hge (by omega)), yo_s]
    exact ⟨g2, g1⟩
theorem r_cascade {N : Nat} (hN : 700 ≤ N) {M : Mem} {T : Nat → Int32} {r W g m kd sz0 mk ex ly t ma u ms : Nat} {p sz : Nat → Nat} {what : Int32} (hx : rX M T r W g m kd sz0 mk ex ly) (ht : t < 4) (hma : ma ≤ 40) (e1 : rI M 163 t = nI ma) (hp : ∀ j, j < ma → (rJ M 164 (40 * t + j)).toInt32 = nI (p j) ∧ p j < W)
    (hu : u < 4) (hms : ms ≤ 40) (hsz : ∀ i, i < ms → 1 ≤ sz i ∧ sz i ≤ 64) (d1 : rI M 163 u = nI ms) (d2 : ∀ i, i < ms → (rJ M 164 (40 * u + i)).toInt32 = nI (sz i)) (h5 : rI M 140 5 ≤ 0) :
    Yo (fX11_cascade_b171 N 140 (nI r) (nI t) (nI u) what M) (fun x => x.1 = lvF T mk W sz what ms 0 (setS T r W) (setA T r W p ma) 0 0 ∧ smF [147, 155, 156, 157, 158] M x.2) := by
  have hr := hx.1
  have hW : W ≤ 256 := hx.2.2.1.2.1
  unfold fX11_cascade_b171
  rw [if_pos h5, hx.flds.2.2.1, Option.bind_some]
  refine (r_takesPut hN hx).bi (fun y hy => ?_)
  have hxy : rX y T r W g m kd sz0 mk ex ly := hx.mv (hy.2 141 (by decide))
  refine yo_f2 (F := fX11_cascade_l196 N 140 (nI r) (nI t) (nI u) what (nI mk)) W (fun k v M2 => v = nI k ∧ smF [157] y M2 ∧ rN M2 157 k (fun _ => false)) ?_ N 0 _ _ (by omega) (by omega) ⟨rfl, smF.refl, fun n hn => absurd hn (Nat.not_lt_zero n)⟩
  intro f k v M2 hk ⟨hv, g1, g2⟩ ih
  subst hv
  show Yo (fX11_cascade_l196_s N 140 (nI r) (nI t) (nI u) what (nI mk) (fX11_cascade_l196 N 140 (nI r) (nI t) (nI u) what (nI mk) f) (nI k) M2) _
  unfold fX11_cascade_l196_s
  have hx2 : rX M2 T r W g m kd sz0 mk ex ly := hxy.mv (g1 141 (by decide))
  rw [if_pos (by decide), rworld hx2]
  rcases Nat.lt_or_ge k W with hlt | hge
  · rw [if_neg (nI_ge hlt (by omega)), if_pos (inB_nI (show k < 256 by omega) (by decide)), nI_clamp (by omega), nI_1]
    refine ih _ _ hlt ⟨rfl, g1.pI_ (by decide) _ _, fun n hn => ?_⟩
    rw [show (140 + 17 : Nat) = 157 from rfl, rI_wI]
    by_cases q : n = k
    · rw [if_pos ⟨rfl, q⟩]; rfl
    · rw [if_neg (fun z => q z.2)]; exact g2 n (by omega)
  · have ek : k = W := by omega
    subst ek
    rw [if_pos (nI_le hge (by omega))]
    refine yo_f2 (F := fX11_cascade_l224 N 140 (nI r) (nI t) (nI u) what (nI mk)) ma (fun j v M3 => v = nI j ∧ smF [157] y M3 ∧ rN M3 157 k (setA T r k p j)) ?_ N 0 _ _ (by omega) (by omega) ⟨rfl, g1, by rw [setA_0]; exact g2⟩
    intro f2 j v M3 hj ⟨hv, j1, j2⟩ ih2
    subst hv
    show Yo (fX11_cascade_l224_s N 140 (nI r) (nI t) (nI u) what (nI mk) (fX11_cascade_l224 N 140 (nI r) (nI t) (nI u) what (nI mk) f2) (nI j) M3) _
    unfold fX11_cascade_l224_s
    have hF : smF [156, 157] M M3 := (hy.2.mono (by decide)).trans (j1.mono (by decide))
    have hx3 : rX M3 T r k g m kd sz0 mk ex ly := hx.mv (hF 141 (by decide))
    rw [if_pos (inB_nI ht (by decide)), nI_clamp (by omega), show (140 + 23 : Nat) = 163 from rfl, hF.I_ (by decide), e1]
    rcases Nat.lt_or_ge j ma with hlt | hge2
    · obtain ⟨p1, p2⟩ := hp j hlt
      rw [if_neg (nI_ge hlt (by omega)), inTray_ok ht (by omega), Option.bind_some, hF.J_ (by decide), p1, Option.bind_some, isIn_ok hr (by omega), Option.bind_some, hx3.2.1, ← setS_lt p2]
      have go : ∀ b : Bool, Yo (fX11_cascade_b266 N (fX11_cascade_l224 N 140 (nI r) (nI t) (nI u) what (nI mk) f2) 140 (nI r) (nI t) (nI u) what (nI mk) (nI j) b (nI (p j)) 157 M3) (fun x => x.1 = lvF T mk k sz what ms 0 (setS T r k) (setA T r k p ma) 0 0 ∧ smF [147, 155, 156, 157, 158] M x.2) ↔ Yo (fX11_cascade_l224 N 140 (nI r) (nI t) (nI u) what (nI mk) f2 (nI (j + 1)) (wI M3 157 (p j) (if b = true then 1 else 0))) (fun x => x.1 = lvF T mk k sz what ms 0 (setS T r k) (setA T r k p ma) 0 0 ∧ smF [147, 155, 156, 157, 158] M x.2) := fun b => by
        unfold fX11_cascade_b266
        rw [if_pos (inB_nI (show p j < 256 by omega) (by decide)), nI_clamp (by omega), bI_nar, nI_1]
      by_cases q : setS T r k (p j) = true
      · rw [if_pos q]
        refine (go false).mpr (ih2 _ _ hlt ⟨rfl, j1.pI_ (by decide) _ _, fun n hn => ?_⟩)
        rw [← setA_s, if_pos q, rI_wI]
        by_cases e : n = p j
        · rw [if_pos ⟨rfl, e⟩, e]
          unfold setA
          rw [q, Bool.not_true, Bool.and_false]
        · rw [if_neg (fun z => e z.2)]; exact j2 n hn
      · rw [if_neg q]
        refine (go true).mpr (ih2 _ _ hlt ⟨rfl, j1.pI_ (by decide) _ _, fun n hn => ?_⟩)
        rw [← setA_s, if_neg q, rI_wI]
        by_cases e : n = p j
        · rw [if_pos ⟨rfl, e⟩, e, uv_eq]
        · rw [if_neg (fun z => e z.2), uv_ne e]; exact j2 n hn
    · have ej : j = ma := by omega
      subst ej
      rw [if_pos (nI_le hge2 (by omega))]
      refine (r_levels (what := what) hN hu hms hsz ms N 0 0 0 M3 (setS T r k) (setA T r k p j) (by omega) (by omega) hx3 (by rw [hF.I_ (by decide)]; exact d1) (fun i hi => by rw [hF.J_ (by decide)]; exact d2 i hi) (hy.1.mv (j1 156 (by decide))) j2).to (fun x hx4 => ⟨hx4.1, (hF.mono (by decide)).trans hx4.2⟩)
