/-! SEMANTICS: grow -/
/-- the row's cells cleared up to k -/
def clT (T : Nat → Int32) (r k : Nat) : Nat → Int32 := fun z => if 1220 + 512 * r + 10 ≤ z ∧ z < 1220 + 512 * r + k then 0 else T z
theorem clT_rq {T : Nat → Int32} {r k i : Nat} : rq (clT T r k) r i = if 10 ≤ i ∧ i < k then 0 else rq T r i := by
  unfold rq clT
  by_cases q : 10 ≤ i ∧ i < k
  · rw [if_pos (by omega), if_pos q]
  · rw [if_neg (by omega), if_neg q]
theorem roT_clear {T : Nat → Int32} {r W m sz mk ex ly : Nat} (h : roT T r W m 2 sz mk ex ly) : roT (clT T r 250) r W m 2 sz mk ex ly := by
  obtain ⟨⟨q0, q1, q2, q3, q4⟩, k5, ⟨p1, p2⟩, ⟨c1, c2, c3, c4, c5⟩, p, hp, hp2⟩ := h
  have o : ∀ i, ¬ (10 ≤ i ∧ i < 250) → rq (clT T r 250) r i = rq T r i := fun i hi => by rw [clT_rq, if_neg hi]
  have o2 : ∀ j, j < 240 → rq (clT T r 250) r (10 + j) = 0 := fun j hj => by rw [clT_rq, if_pos (by omega)]
  exact ⟨⟨by rw [o 0 (by omega)]; exact q0, by rw [o 1 (by omega)]; exact q1, by rw [o 2 (by omega)]; exact q2, by rw [o 3 (by omega)]; exact q3, by rw [o 4 (by omega)]; exact q4⟩, k5, ⟨fun n hn => by rw [o _ (by omega)]; exact p1 n hn, fun n g1 g2 => by rw [o _ (by omega)]; exact p2 n g1 g2⟩, ⟨fun z => by omega, fun z => by omega, fun _ j hj => Or.inl (o2 j hj), fun _ j _ hj => o2 j hj, fun z => by omega⟩, p, hp, by rw [o 5 (by omega)]; exact hp2⟩
theorem cX_clear {M : Mem} {T : Nat → Int32} {r W g m sz mk ex ly : Nat} (h : cX M T r W g m 2 sz mk ex ly) : cX (fillI M (13 + 4 * r) 240 0) (clT T r 250) r W g m 2 sz mk ex ly := by
  obtain ⟨hr, hru, ⟨⟨q0, q1, q2, q3, q4, q5⟩, q6, q7, q8⟩, hro⟩ := h
  have o : ∀ i, ¬ (10 ≤ i ∧ i < 250) → rq (clT T r 250) r i = rq T r i := fun i hi => by rw [clT_rq, if_neg hi]
  have F : smF [13 + 4 * r] M (fillI M (13 + 4 * r) 240 0) := fun a ha => by
    simp at ha
    unfold fillI wIs
    exact va_up_ne _ _ ha
  have lw : ∀ k, rI (fillI M (13 + 4 * r) 240 0) (10 + 4 * r) k = rI M (10 + 4 * r) k := fun k => F.I_ (by simp) k
  refine ⟨hr, cRu_cong (fun k hk => by unfold clT; rw [if_neg (by omega)]) (hru.moved (fun a h1 h2 => F a (by simp; omega))), ⟨⟨by rw [lw, o 0 (by omega)]; exact q0, by rw [lw, o 1 (by omega)]; exact q1, by rw [lw, o 2 (by omega)]; exact q2, by rw [lw, o 3 (by omega)]; exact q3, by rw [lw, o 4 (by omega)]; exact q4, by rw [lw, o 5 (by omega)]; exact q5⟩, fun z => ?_, fun j hj => ?_, fun n hn => ?_⟩, roT_clear hro⟩
  · rw [o 0 (by omega), hro.1.1] at z
    exact absurd z (by decide)
  · rw [show 10 + 4 * r + 3 = 13 + 4 * r by omega, rI_fillI, if_pos ⟨rfl, hj⟩, clT_rq, if_pos (by omega)]
  · rw [F.J_ (by simp; omega), o _ (by omega)]
    exact q8 n hn
theorem c_grow_tail {N : Nat} {M : Mem} {T : Nat → Int32} {r W g m sz mk ex ly : Nat} {v3 : Int32} (hc : cX M T r W g m 2 sz mk ex ly) : ∀ (c n k : Nat), c < n → k + c = 256 → W ≤ k → fX3_enlarge_l54 N 121 (10 + 4 * r) 2 v3 n (nI k) M = some (true, M) := by
  intro c
  induction c with
  | zero =>
    intro n k hn hk hW
    obtain ⟨f, rfl⟩ : ∃ f, n = f + 1 := ⟨n - 1, by omega⟩
    show fX3_enlarge_l54_s N 121 (10 + 4 * r) 2 v3 (fX3_enlarge_l54 N 121 (10 + 4 * r) 2 v3 f) (nI k) M = _
    unfold fX3_enlarge_l54_s
    rw [if_pos (show (256 : Int32) ≤ nI k from nI_le (a := 256) (by omega) (by omega))]
  | succ c ih =>
    intro n k hn hk hW
    obtain ⟨f, rfl⟩ : ∃ f, n = f + 1 := ⟨n - 1, by omega⟩
    show fX3_enlarge_l54_s N 121 (10 + 4 * r) 2 v3 (fX3_enlarge_l54 N 121 (10 + 4 * r) 2 v3 f) (nI k) M = _
    unfold fX3_enlarge_l54_s fX3_enlarge_b134
    have h0 := hc.2.2.2.2.2.1.2 k hW (by omega)
    rw [if_neg (show ¬ (256 : Int32) ≤ nI k from nI_ge (b := 256) (by omega) (by decide)), has_ok (by omega), Option.bind_some, hc.2.2.1.2.2.2 k (by omega), h0, decide_eq_false (by decide), if_neg (by decide), nI_1]
    exact ih f (k + 1) (by omega) (by omega) (by omega)
/-- both loops over the names, with what the end of a failing one needs -/
theorem grow_two {N : Nat} (hN : 700 ≤ N) {T0 : Nat → Int32} {r W g m sz mk ex ly p : Nat} (h0 : roT T0 r W m 2 sz mk ex ly) (hp : rq T0 r 5 = nI p) (hp2 : p ≤ 100) (h8 : sz ≤ 8) :
    ∀ (c n n' k : Nat) (M M' : Mem) (T : Nat → Int32), c + 256 < n → c < n' → k + c = W → cX M T r W g m 2 (2 * sz) mk ex ly → rX M' T r W g m 2 (2 * sz) mk ex ly →
    (∀ z, z ≠ 1220 + 512 * r + 1 ∧ z ≠ 1220 + 512 * r + 5 ∧ (z < 1220 + 512 * r + 10 ∨ 1220 + 512 * r + 74 ≤ z) → T z = T0 z) →
    (∀ j, j < 64 → rI M 125 j = rq T0 r (10 + j)) → (∀ j, j < 512 → rI M' 144 j = rq T0 r j) →
    ∃ (b : Bool) (T2 : Nat → Int32) (sz2 : Nat), (∀ z, (z < 1220 + 512 * r ∨ 1220 + 512 * r + 512 ≤ z) → T2 z = T0 z) ∧ (b = true → sz2 = 2 * sz) ∧
      Yo (fX3_enlarge_l54 N 121 (10 + 4 * r) 2 (nI p) n (nI k) M) (fun x => x.1 = b ∧ cX x.2 T2 r W g m 2 sz2 mk ex ly ∧ smF [8, 121, 122, 123, 124, 10 + 4 * r, 13 + 4 * r] M x.2 ∧ rI x.2 (10 + 4 * r) 0 = rI M (10 + 4 * r) 0) ∧
      Yo (fX11_grow_l112 N 140 (nI r) n' (nI k) M') (fun x => x.1 = (if b = true then nI (2 * sz) else -1) ∧ rX x.2 T2 r W g m 2 sz2 mk ex ly ∧ smF [141, 147, 148, 149, 150] M' x.2) := by
  intro c
  induction c with
  | zero =>
    intro n n' k M M' T hn hn' hk hc hx hT hs1 hs2
    obtain ⟨f', rfl⟩ : ∃ f, n' = f + 1 := ⟨n' - 1, by omega⟩
    have hW := hc.W1.2.2
    refine ⟨true, T, 2 * sz, fun z hz => hT z (by omega), fun _ => rfl, ?_, ?_⟩
    · rw [c_grow_tail hc (256 - k) n k (by omega) (by omega) (by omega), yo_s]
      exact ⟨rfl, hc, smF.refl, rfl⟩
    · show Yo (fX11_grow_l112_s N 140 (nI r) (fX11_grow_l112 N 140 (nI r) f') (nI k) M') _
      unfold fX11_grow_l112_s
      have e1 : rI M' (140 + 1) (1 : Int32).toNatClampNeg = nI W := by rw [← hx.2.2.1.2.2.1, ← hx.2.1]; rfl
      rw [if_pos (by decide), e1, if_pos (nI_le (by omega) (by omega)), hx.flds.2.1, Option.bind_some, yo_s]
      exact ⟨rfl, hx, smF.refl⟩
  | succ c ih =>
    intro n n' k M M' T hn hn' hk hc hx hT hs1 hs2
    obtain ⟨f, rfl⟩ : ∃ f, n = f + 1 := ⟨n - 1, by omega⟩
    obtain ⟨f', rfl⟩ : ∃ f, n' = f + 1 := ⟨n' - 1, by omega⟩
    have hW := hc.W1.2.2
    have hr := hc.1
    have hkW : k < W := by omega
    have hcl : fX3_enlarge_l54 N 121 (10 + 4 * r) 2 (nI p) (f + 1) (nI k) M = if decide (rq T r (250 + k) = 1) = true then (fX3_settle N 121 (10 + 4 * r) 2 (nI k) M).bind fun qj3 => if qj3.1 = true then fX3_enlarge_l54 N 121 (10 + 4 * r) 2 (nI p) f (nI (k + 1)) qj3.2 else fX3_enlarge_l103 N 121 (10 + 4 * r) N (0 : Int32) (wI (wI qj3.2 (10 + 4 * r) 2 ((rI qj3.2 (10 + 4 * r) 2) / (2 : Int32))) (10 + 4 * r) 6 (nI p)) else fX3_enlarge_l54 N 121 (10 + 4 * r) 2 (nI p) f (nI (k + 1)) M := by
      show fX3_enlarge_l54_s N 121 (10 + 4 * r) 2 (nI p) (fX3_enlarge_l54 N 121 (10 + 4 * r) 2 (nI p) f) (nI k) M = _
      unfold fX3_enlarge_l54_s fX3_enlarge_b134
      rw [if_neg (show ¬ (256 : Int32) ≤ nI k from nI_ge (b := 256) (by omega) (by decide)), has_ok (by omega), Option.bind_some, hc.2.2.1.2.2.2 k (by omega), nI_1]
    have hrf : fX11_grow_l112 N 140 (nI r) (f' + 1) (nI k) M' = if decide (rq T r (250 + k) = 1) = true then (fX11_nestPuts N 140 (nI r) (nI k) M').bind fun qj5 => if qj5.1 = true then fX11_grow_l112 N 140 (nI r) f' (nI (k + 1)) qj5.2 else fX11_grow_l145 N 140 (nI r) N (0 : Int32) qj5.2 else fX11_grow_l112 N 140 (nI r) f' (nI (k + 1)) M' := by
      show fX11_grow_l112_s N 140 (nI r) (fX11_grow_l112 N 140 (nI r) f') (nI k) M' = _
      unfold fX11_grow_l112_s fX11_grow_b172
      have e1 : rI M' (140 + 1) (1 : Int32).toNatClampNeg = nI W := by rw [← hx.2.2.1.2.2.1, ← hx.2.1]; rfl
      rw [if_pos (by decide), e1, if_neg (nI_ge hkW (by omega)), isIn_ok hr (by omega), Option.bind_some, hx.2.1, nI_1]
    by_cases hput : decide (rq T r (250 + k) = 1) = true
    · rw [if_pos hput] at hcl hrf
      rcases nest_two hN hc hx hkW with ⟨⟨x, x1, x2, x3, x4⟩, ⟨y, y1, y2, y3, y4⟩⟩ | ⟨T2, hT2, ⟨x, x1, x2, x3, x4, x5⟩, ⟨y, y1, y2, y3, y4⟩⟩
      · -- back to what was
        rw [x1, Option.bind_some, x2, if_neg (by decide)] at hcl
        rw [y1, Option.bind_some, y2, if_neg (by decide)] at hrf
        refine ⟨false, T0, sz, fun _ _ => rfl, fun h => (by cases h), ?_, ?_⟩
        · rw [hcl, x3.flds.2.1, show nI (2 * sz) / (2 : Int32) = nI sz from by rw [li_2, pk_div (by omega) (by omega) (by omega)]; congr 1; omega]
          have hro1 := roT_size (sz' := sz) x3.2.2.2 (by decide) h0.2.1.2.1 h0.2.1.2.2.1 (fun _ => by omega)
          have hcA := cX_fld (i := 1) x3 (Or.inl rfl) (by decide) hro1
          have hcB := cX_fld (i := 5) hcA (Or.inr rfl) (by decide) (roT_push (p := p) hcA.2.2.2 hp2)
          have hcB : cX (wI (wI x.2 (10 + 4 * r) 2 (nI sz)) (10 + 4 * r) 6 (nI p)) (setT (setT T r 1 (nI sz)) r 5 (nI p)) r W g m 2 sz mk ex ly := hcB
          have hFB : smF [10 + 4 * r, 13 + 4 * r] x.2 (wI (wI x.2 (10 + 4 * r) 2 (nI sz)) (10 + 4 * r) 6 (nI p)) := (smF.refl.pI_ (by simp) _ _).pI_ (by simp) _ _
          have hT1 : ∀ z, ¬ (1220 + 512 * r + 10 + 0 ≤ z ∧ z < 1220 + 512 * r + 74) → setT (setT T r 1 (nI sz)) r 5 (nI p) z = T0 z := by
            intro z hz
            by_cases e5 : z = 1220 + 512 * r + 5
            · unfold setT; rw [if_pos e5, ← hp, e5]; rfl
            · rw [setT_ne e5]
              by_cases e1 : z = 1220 + 512 * r + 1
              · unfold setT; rw [if_pos e1, ← h0.1.2.1, e1]; rfl
              · rw [setT_ne e1]; exact hT z (by omega)
          generalize hMB : wI (wI x.2 (10 + 4 * r) 2 (nI sz)) (10 + 4 * r) 6 (nI p) = MB at *
          have hs3 : ∀ j, j < 64 → rI MB 125 j = rq T0 r (10 + j) := fun j hj => by rw [hFB.I_ (by simp; omega), x4.I_ (by simp)]; exact hs1 j hj
          have h00 : rI MB (10 + 4 * r) 0 = rI M (10 + 4 * r) 0 := by rw [← hMB, rI_wI, if_neg (by omega), rI_wI, if_neg (by omega), x4.I_ (by simp; omega)]
          refine yo_f2 (F := fX3_enlarge_l103 N 121 (10 + 4 * r)) 64 (fun k v M3 => v = nI k ∧ smF [13 + 4 * r] MB M3 ∧ ∃ T', cX M3 T' r W g m 2 sz mk ex ly ∧ ∀ z, ¬ (1220 + 512 * r + 10 + k ≤ z ∧ z < 1220 + 512 * r + 74) → T' z = T0 z) ?_ N 0 _ _ (by omega) (by omega) ⟨rfl, smF.refl, _, hcB, hT1⟩
          intro f k v M3 hk ⟨hv, g1, T', g2, g3⟩ ih
          subst hv
          show Yo (fX3_enlarge_l103_s N 121 (10 + 4 * r) (fX3_enlarge_l103 N 121 (10 + 4 * r) f) (nI k) M3) _
          unfold fX3_enlarge_l103_s
          rcases Nat.lt_or_ge k 64 with hlt | hge
          · have hok : okC 2 W k (rq T0 r (10 + k)) := ⟨fun z => by omega, fun z => by omega, fun _ => h0.2.2.2.1.2.2.1 rfl k (by omega), fun _ z => by omega⟩
            obtain ⟨s1, s2⟩ := cX_cell g2 (show k < 240 by omega) hok
            rw [if_neg (show ¬ (64 : Int32) ≤ nI k from nI_ge (b := 64) hlt (by decide)), if_pos (inB_nI hlt (by decide)), nI_clamp (by omega), show (121 + 4 : Nat) = 125 from rfl, g1.I_ (by simp; omega), hs3 k hlt, s1, Option.bind_some, nI_1]
            refine ih _ _ hlt ⟨rfl, g1.pI_ (by simp) _ _, _, s2, fun z hz => ?_⟩
            by_cases e : z = 1220 + 512 * r + (10 + k)
            · unfold setT; rw [if_pos e, e]; rfl
            · rw [setT_ne e, g3 z (by omega)]
          · rw [if_pos (show (64 : Int32) ≤ nI k from nI_le (a := 64) hge (by omega)), yo_s]
            have eT : T' = T0 := funext (fun z => g3 z (by omega))
            subst eT
            refine ⟨rfl, g2, ?_, by rw [g1.I_ (by simp), h00]⟩
            exact ((x4.mono (by simp)).trans (hFB.mono (by simp))).trans (g1.mono (by simp))
        · rw [hrf]
          refine yo_f2 (F := fX11_grow_l145 N 140 (nI r)) 512 (fun k v M3 => v = nI k ∧ smF [141] y.2 M3 ∧ ∀ z, ¬ (1220 + 512 * r + k ≤ z ∧ z < 1220 + 512 * r + 512) → rI M3 141 z = T0 z) ?_ N 0 _ _ (by omega) (by omega) ⟨rfl, smF.refl, fun z hz => ?_⟩
          · intro f k v M3 hk ⟨hv, g1, g2⟩ ih
            subst hv
            show Yo (fX11_grow_l145_s N 140 (nI r) (fX11_grow_l145 N 140 (nI r) f) (nI k) M3) _
            unfold fX11_grow_l145_s
            rcases Nat.lt_or_ge k 512 with hlt | hge
            · rw [if_neg (show ¬ (512 : Int32) ≤ nI k from nI_ge (b := 512) hlt (by decide)), if_pos (inB_nI hlt (by decide)), nI_clamp (by omega), show (140 + 4 : Nat) = 144 from rfl, g1.I_ (by decide), y4.I_ (by decide), hs2 k hlt, set_ok _ _ (by omega), Option.bind_some, nI_1]
              refine ih _ _ hlt ⟨rfl, g1.pI_ (by simp) _ _, fun z hz => ?_⟩
              rw [rI_wI]
              by_cases e : z = 1220 + 512 * r + k
              · rw [if_pos ⟨rfl, e⟩, e]; rfl
              · rw [if_neg (fun q => e q.2), g2 z (by omega)]
            · rw [if_pos (show (512 : Int32) ≤ nI k from nI_le (a := 512) hge (by omega)), yo_s]
              refine ⟨rfl, ⟨hr, funext (fun z => g2 z (by omega)), ?_, h0⟩, y4.trans (g1.mono (by decide))⟩
              exact ruT_cong (fun z hz => (hT z (by omega)).symm) hx.2.2.1
          · have : rI y.2 141 z = T z := congrFun y3.2.1 z
            rw [this]; exact hT z (by omega)
      · rw [x1, Option.bind_some, x2, if_pos rfl] at hcl
        rw [y1, Option.bind_some, y2, if_pos rfl] at hrf
        obtain ⟨b, T3, sz2, q1, q2, ⟨x', z1, z2, z3, z4, z5⟩, ⟨y', w1, w2, w3, w4⟩⟩ := ih f f' (k + 1) x.2 y.2 T2 (by omega) (by omega) (by omega) x3 y3 (fun z hz => by rw [hT2 z (by omega), hT z hz]) (fun j hj => by rw [x4.I_ (by simp; omega)]; exact hs1 j hj) (fun j hj => by rw [y4.I_ (by decide)]; exact hs2 j hj)
        refine ⟨b, T3, sz2, q1, q2, ?_, ?_⟩
        · rw [hcl, z1]; exact ⟨x', rfl, z2, z3, x4.trans z4, by rw [z5, x5]⟩
        · rw [hrf, w1]; exact ⟨y', rfl, w2, w3, y4.trans w4⟩
    · rw [if_neg hput] at hcl hrf
      rw [hcl, hrf]
      exact ih f f' (k + 1) M M' T (by omega) (by omega) (by omega) hc hx hT hs1 hs2
/-- a loop's first rounds, as an equation -/
theorem ex_f2 {A B β : Type} {F : Nat → A → B → Option β} (W : Nat) (I : Nat → A → B → Prop) (st : ∀ (n k : Nat) (a : A) (b : B), k < W → I k a b → ∃ a' b', I (k + 1) a' b' ∧ F (n + 1) a b = F n a' b') :
    ∀ (c n k : Nat) (a : A) (b : B), k + c = W → c < n → I k a b → ∃ a' b', I W a' b' ∧ F n a b = F (n - c) a' b' := by
  intro c
  induction c with
  | zero => intro n k a b h1 h2 h; exact ⟨a, b, (by rw [← h1]; exact h), rfl⟩
  | succ c ih =>
    intro n k a b h1 h2 h
    obtain ⟨f, rfl⟩ : ∃ f, n = f + 1 := ⟨n - 1, by omega⟩
    obtain ⟨a', b', h3, h4⟩ := st f k a b (by omega) h
    obtain ⟨a2, b2, h5, h6⟩ := ih f (k + 1) a' b' (by omega) (by omega) h3
    exact ⟨a2, b2, h5, by rw [h4, h6]; congr 1; omega⟩
def dblT (T : Nat → Int32) (r sz : Nat) : Nat → Int32 := setT (clT T r 250) r 1 (nI (2 * sz))
theorem roT_dbl {T : Nat → Int32} {r W m sz mk ex ly : Nat} (h : roT T r W m 2 sz mk ex ly) (h8 : sz ≤ 8) : roT (dblT T r sz) r W m 2 (2 * sz) mk ex ly :=
  roT_size (sz' := 2 * sz) (roT_clear h) (by decide) (by have := h.2.1.2.1; omega) (by omega) (fun _ => by omega)
theorem c_grow0 {N : Nat} (hN : 700 ≤ N) {M : Mem} {T : Nat → Int32} {r W g m sz mk ex ly p : Nat} (hc : cX M T r W g m 2 sz mk ex ly) (h8 : sz ≤ 8) (hp : rq T r 5 = nI p) :
    ∃ MA, fX3_enlarge N 121 (10 + 4 * r) 2 M = fX3_enlarge_l54 N 121 (10 + 4 * r) 2 (nI p) N (nI 0) MA ∧ cX MA (dblT T r sz) r W g m 2 (2 * sz) mk ex ly ∧ smF [125, 10 + 4 * r, 13 + 4 * r] M MA ∧ (∀ j, j < 64 → rI MA 125 j = rq T r (10 + j)) ∧ rI MA (10 + 4 * r) 0 = rI M (10 + 4 * r) 0 := by
  have hr := hc.1
  have h6 : rI M (10 + 4 * r) 6 = nI p := by rw [hc.2.2.1.1.2.2.2.2.2, hp]
  unfold fX3_enlarge
  rw [h6]
  obtain ⟨v, MB, ⟨hv, g1, g2⟩, e⟩ := ex_f2 (F := fX3_enlarge_l8 N 121 (10 + 4 * r) 2 (nI p)) 64 (fun k v M2 => v = nI k ∧ smF [125] M M2 ∧ ∀ j, j < k → rI M2 125 j = rq T r (10 + j)) (by
    intro n k v M2 hk ⟨hv, g1, g2⟩
    subst hv
    refine ⟨_, _, ⟨rfl, g1.pI_ (a := 125) (by simp) k (rq T r (10 + k)), fun j hj => ?_⟩, ?_⟩
    · rw [rI_wI]
      by_cases q : j = k
      · rw [if_pos ⟨rfl, q⟩, q]
      · rw [if_neg (fun z => q z.2), g2 j (by omega)]
    · show fX3_enlarge_l8_s N 121 (10 + 4 * r) 2 (nI p) (fX3_enlarge_l8 N 121 (10 + 4 * r) 2 (nI p) n) (nI k) M2 = _
      unfold fX3_enlarge_l8_s
      rw [if_neg (show ¬ (64 : Int32) ≤ nI k from nI_ge (b := 64) hk (by decide)), cellAt_ok (by omega), Option.bind_some, if_pos (inB_nI hk (by decide)), nI_clamp (by omega), g1.I_ (by simp; omega), hc.2.2.1.2.2.1 k (by omega), nI_1])
    64 N 0 (0 : Int32) M (by omega) (by omega) ⟨rfl, smF.refl, fun j hj => absurd hj (Nat.not_lt_zero j)⟩
  rw [e]
  obtain ⟨f, hf⟩ : ∃ f, N - 64 = f + 1 := ⟨N - 65, by omega⟩
  rw [hf, hv]
  have hcB := cX_clear (hc.mv (M' := MB) (fun a h1 h2 => g1 a (by simp; omega)))
  have e2 : fX3_enlarge_l8 N 121 (10 + 4 * r) 2 (nI p) (f + 1) (nI 64) MB = fX3_enlarge_l54 N 121 (10 + 4 * r) 2 (nI p) N (0 : Int32) (wI (fillI MB (13 + 4 * r) 240 0) (10 + 4 * r) 2 (nI (2 * sz))) := by
    show fX3_enlarge_l8_s N 121 (10 + 4 * r) 2 (nI p) (fX3_enlarge_l8 N 121 (10 + 4 * r) 2 (nI p) f) (nI 64) MB = _
    unfold fX3_enlarge_l8_s fX5_clearCells
    rw [if_pos (by decide), show 10 + 4 * r + 3 = 13 + 4 * r by omega, Option.bind_some, Option.bind_some, hcB.flds.2.1, show nI sz * (2 : Int32) = nI (2 * sz) from by rw [li_2, pk_mul, Nat.mul_comm]]
  rw [e2]
  have hfl : smF [13 + 4 * r] MB (fillI MB (13 + 4 * r) 240 0) := fun a ha => by
    simp at ha
    unfold fillI wIs
    exact va_up_ne _ _ ha
  refine ⟨_, rfl, cX_fld (i := 1) hcB (Or.inl rfl) (by decide) (roT_dbl hc.2.2.2 h8), ((g1.mono (by simp)).trans (hfl.mono (by simp))).pI_ (by simp) _ _, fun j hj => ?_, ?_⟩
  · rw [rI_wI, if_neg (by omega), hfl.I_ (by simp; omega)]; exact g2 j hj
  · rw [rI_wI, if_neg (by omega), hfl.I_ (by simp), g1.I_ (by simp; omega)]
theorem r_grow0 {N : Nat} (hN : 700 ≤ N) {M : Mem} {T : Nat → Int32} {r W g m sz mk ex ly : Nat} (hx : rX M T r W g m 2 sz mk ex ly) (h8 : sz ≤ 8) :
    ∃ MA, fX11_grow_l48 N 140 (nI r) N (0 : Int32) M = fX11_grow_l112 N 140 (nI r) N (nI 0) MA ∧ rX MA (dblT T r sz) r W g m 2 (2 * sz) mk ex ly ∧ smF [141, 144] M MA ∧ (∀ j, j < 512 → rI MA 144 j = rq T r j) := by
  have hr := hx.1
  obtain ⟨v, MB, ⟨hv, g1, g2⟩, e⟩ := ex_f2 (F := fX11_grow_l48 N 140 (nI r)) 512 (fun k v M2 => v = nI k ∧ smF [144] M M2 ∧ ∀ j, j < k → rI M2 144 j = rq T r j) (by
    intro n k v M2 hk ⟨hv, g1, g2⟩
    subst hv
    refine ⟨_, _, ⟨rfl, g1.pI_ (a := 144) (by simp) k (rq T r k), fun j hj => ?_⟩, ?_⟩
    · rw [rI_wI]
      by_cases q : j = k
      · rw [if_pos ⟨rfl, q⟩, q]
      · rw [if_neg (fun z => q z.2), g2 j (by omega)]
    · show fX11_grow_l48_s N 140 (nI r) (fX11_grow_l48 N 140 (nI r) n) (nI k) M2 = _
      unfold fX11_grow_l48_s
      rw [if_neg (show ¬ (512 : Int32) ≤ nI k from nI_ge (b := 512) hk (by decide)), get_ok _ (by omega), Option.bind_some, if_pos (inB_nI hk (by decide)), nI_clamp (by omega), g1 141 (by decide), hx.2.1, nI_1])
    512 N 0 (0 : Int32) M (by omega) (by omega) ⟨rfl, smF.refl, fun j hj => absurd hj (Nat.not_lt_zero j)⟩
  rw [e]
  obtain ⟨f, hf⟩ : ∃ f, N - 512 = f + 1 := ⟨N - 513, by omega⟩
  rw [hf, hv]
  have e2 : fX11_grow_l48 N 140 (nI r) (f + 1) (nI 512) MB = fX11_grow_l76 N 140 (nI r) N (nI 10) MB := by
    show fX11_grow_l48_s N 140 (nI r) (fX11_grow_l48 N 140 (nI r) f) (nI 512) MB = _
    unfold fX11_grow_l48_s
    rw [if_pos (by decide)]
    rfl
  rw [e2]
  obtain ⟨v, MC, ⟨hv, j1, j0, j2⟩, e3⟩ := ex_f2 (F := fX11_grow_l76 N 140 (nI r)) 250 (fun k v M2 => v = nI k ∧ smF [141] MB M2 ∧ 10 ≤ k ∧ (M2 141).1 = clT T r k) (by
    intro n k v M2 hk ⟨hv, j1, j0, j2⟩
    subst hv
    refine ⟨_, _, ⟨rfl, j1.pI_ (a := 141) (by simp) (1220 + 512 * r + k) 0, by omega, ?_⟩, ?_⟩
    · rw [setT_mem j2]
      funext z
      unfold setT clT
      by_cases q : z = 1220 + 512 * r + k
      · rw [if_pos q, if_pos (by omega)]
      · rw [if_neg q]
        by_cases q2 : 1220 + 512 * r + 10 ≤ z ∧ z < 1220 + 512 * r + k
        · rw [if_pos q2, if_pos (by omega)]
        · rw [if_neg q2, if_neg (by omega)]
    · show fX11_grow_l76_s N 140 (nI r) (fX11_grow_l76 N 140 (nI r) n) (nI k) M2 = _
      unfold fX11_grow_l76_s
      rw [if_neg (show ¬ (250 : Int32) ≤ nI k from nI_ge (b := 250) hk (by decide)), set_ok _ _ (by omega), Option.bind_some, nI_1])
    240 N 10 (nI 10) MB (by omega) (by omega) ⟨rfl, smF.refl, by omega, by
      funext z
      have : (MB 141).1 z = T z := by rw [g1 141 (by decide), hx.2.1]
      unfold clT
      rw [if_neg (by omega), this]⟩
  rw [e3]
  obtain ⟨f2, hf2⟩ : ∃ f, N - 240 = f + 1 := ⟨N - 241, by omega⟩
  rw [hf2, hv]
  have hxC : rX MC (clT T r 250) r W g m 2 sz mk ex ly := ⟨hr, j2, ruT_cong (fun z hz => by unfold clT; rw [if_neg (by omega)]) hx.2.2.1, roT_clear hx.2.2.2⟩
  have e4 : fX11_grow_l76 N 140 (nI r) (f2 + 1) (nI 250) MC = fX11_grow_l112 N 140 (nI r) N (0 : Int32) (wI MC 141 (1220 + 512 * r + 1) (nI (2 * sz))) := by
    show fX11_grow_l76_s N 140 (nI r) (fX11_grow_l76 N 140 (nI r) f2) (nI 250) MC = _
    unfold fX11_grow_l76_s
    rw [if_pos (by decide), hxC.flds.2.1, Option.bind_some, show (1 : Int32) = nI 1 from rfl, set_ok _ _ (by omega), Option.bind_some, li_2, pk_mul]
  rw [e4]
  refine ⟨_, rfl, rX_set hxC (roT_dbl hx.2.2.2 h8), ((g1.mono (by decide)).trans (j1.mono (by decide))).pI_ (by decide) _ _, fun j hj => ?_⟩
  rw [rI_wI, if_neg (by omega), j1.I_ (by decide)]
  exact g2 j hj
theorem ag_grow {N : Nat} (hN : 700 ≤ N) (a1 : Int32) (M : Mem) (hR : Rel M) : agI (fX10_grow N 0 a1 M) (fX11_grow N 140 a1) (fun k Mj1 => if k = 1 then some ((1 : Int32), Mj1) else if k = 2 then some ((2 : Int32), Mj1) else none) M := by
  obtain ⟨W, g, m, hS⟩ := hR.1
  rcases rowAt_ok hS a1 with ⟨c1, c2⟩ | ⟨r, hr, rfl, hh, c1, c2⟩
  · refine refI hR (e := 1) 1 ?_ rfl (by decide) ?_
    · unfold fX10_grow; rw [c1, xb_l]
    · unfold fX11_grow
      rw [c2 _ (by rw [w5_141]), Option.bind_some, if_neg (by decide), fails_ok, Option.bind_some, wI_wI, yo_s]
      exact smF.refl
  · obtain ⟨kd, sz, mk, ex, ly, hc, hr'⟩ := sX hS hr hh
    have hk4 := hc.2.2.2.2.1.1
    have hs1 := hc.2.2.2.2.1.2.1
    have hs2 := hc.2.2.2.2.1.2.2.1
    have hx0 : ∀ M' : Mem, M' 141 = M 141 → rX (wI M' 140 5 0) (M 141).1 r W g m kd sz mk ex ly := fun M' e => hr' _ (by rw [w5_141, e])
    have hcl : fX10_grow N 0 (nI r) M = if kd = 2 ∧ sz ≤ 8 then (fX3_enlarge N 121 (10 + 4 * r) 2 M).bind fun qj6 => if qj6.1 = true then some (.inr (rI qj6.2 (10 + 4 * r) 2), qj6.2) else some (.inr (-1 : Int32), qj6.2) else some (.inl 2, M) := by
      unfold fX10_grow fX10_needKind
      rw [c1, xb_r, hc.flds.1]
      by_cases k2 : kd = 2
      · rw [if_pos (show nI kd = (2 : Int32) from by rw [k2]; rfl), xb_r, hc.flds.2.1]
        by_cases k8 : sz ≤ 8
        · rw [if_pos (show nI sz ≤ (8 : Int32) from nI_le (b := 8) k8 (by omega)), if_pos ⟨k2, k8⟩]
        · rw [if_neg (show ¬ nI sz ≤ (8 : Int32) from nI_ge (a := 8) (by omega) (by omega)), if_neg (fun z => k8 z.2)]
      · rw [if_neg (show ¬ nI kd = (2 : Int32) from ne_l (b := 2) k2 (by omega) (by omega)), xb_l, if_neg (fun z => k2 z.1)]
    have hrf : ∀ M' : Mem, M' 141 = M 141 → fX11_grow N 140 (nI r) M' = if kd = 2 ∧ sz ≤ 8 then fX11_grow_l48 N 140 (nI r) N (0 : Int32) (wI M' 140 5 0) else some (0, wI M' 140 5 2) := fun M' e => by
      unfold fX11_grow fX11_grow_b40
      rw [c2 _ (by rw [w5_141, e]), Option.bind_some, if_pos rfl, (hx0 M' e).flds.1, Option.bind_some, fails_ok, Option.bind_some, wI_wI]
      by_cases k2 : kd = 2
      · rw [if_pos (show nI kd = (2 : Int32) from by rw [k2]; rfl), (hx0 M' e).flds.2.1, Option.bind_some]
        by_cases k8 : sz ≤ 8
        · rw [if_pos (show nI sz ≤ (8 : Int32) from nI_le (b := 8) k8 (by omega)), if_pos ⟨k2, k8⟩]
        · rw [if_neg (show ¬ nI sz ≤ (8 : Int32) from nI_ge (a := 8) (by omega) (by omega)), if_neg (fun z => k8 z.2)]
      · rw [if_neg (show ¬ nI kd = (2 : Int32) from ne_l (b := 2) k2 (by omega) (by omega)), if_neg (fun z => k2 z.1)]
    by_cases hk : kd = 2 ∧ sz ≤ 8
    · rw [if_pos hk] at hcl
      obtain ⟨k2, k8⟩ := hk
      subst k2
      obtain ⟨p, hp2, hp⟩ := hc.2.2.2.2.2.2.2
      obtain ⟨MA, e1, e2, e3, e4, e5⟩ := c_grow0 hN hc k8 hp
      have hdbl : ∀ z, z ≠ 1220 + 512 * r + 1 ∧ z ≠ 1220 + 512 * r + 5 ∧ (z < 1220 + 512 * r + 10 ∨ 1220 + 512 * r + 74 ≤ z) → dblT (M 141).1 r sz z = (M 141).1 z := fun z hz => by
        unfold dblT
        rw [setT_ne hz.1]
        unfold clT
        by_cases q : 1220 + 512 * r + 10 ≤ z ∧ z < 1220 + 512 * r + 250
        · rw [if_pos q]
          have := hc.2.2.2.2.2.2.1.2.2.2.1 rfl (z - (1220 + 512 * r + 10)) (by omega) (by omega)
          unfold rq at this
          rw [show 1220 + 512 * r + (10 + (z - (1220 + 512 * r + 10))) = z by omega] at this
          exact this.symm
        · rw [if_neg q]
      have two := fun (MB : Mem) (q1 : rX MB (dblT (M 141).1 r sz) r W g m 2 (2 * sz) mk ex ly) (q2 : ∀ j, j < 512 → rI MB 144 j = rq (M 141).1 r j) => grow_two hN hc.2.2.2 hp hp2 k8 W N N 0 MA MB (dblT (M 141).1 r sz) (by have := hc.W1.2.2; omega) (by have := hc.W1.2.2; omega) (by omega) e2 q1 hdbl e4 q2
      obtain ⟨MB, f1, f2, f3, f4⟩ := r_grow0 hN (hx0 M rfl) k8
      obtain ⟨b, T2, sz2, t1, t2, ⟨x, x1, x2, x3, x4, x5⟩, _⟩ := two MB f2 f4
      have hS2 : smF (scrC ++ [10 + 4 * r, 12 + 4 * r, 13 + 4 * r]) M x.2 := by
        refine (e3.mono (fun a ha => ?_)).trans (x4.mono (fun a ha => ?_))
        · simp only [List.mem_cons, List.not_mem_nil, or_false] at ha
          rw [List.mem_append]
          rcases ha with h | h | h
          · exact Or.inl (by rw [h]; decide)
          · exact Or.inr (by simp [h])
          · exact Or.inr (by simp [h])
        · simp only [List.mem_cons, List.not_mem_nil, or_false] at ha
          rw [List.mem_append]
          rcases ha with h | h | h | h | h | h | h
          · exact Or.inl (by rw [h]; decide)
          · exact Or.inl (by rw [h]; decide)
          · exact Or.inl (by rw [h]; decide)
          · exact Or.inl (by rw [h]; decide)
          · exact Or.inl (by rw [h]; decide)
          · exact Or.inr (by simp [h])
          · exact Or.inr (by simp [h])
      have e141 := eq141 hr hS2
      have hv : fX10_grow N 0 (nI r) M = some (.inr (if b = true then nI (2 * sz) else -1), x.2) := by
        rw [hcl, e1, x1, Option.bind_some, x2]
        by_cases hb : b = true
        · rw [if_pos hb, if_pos hb, x3.flds.2.1, t2 hb]
        · rw [if_neg hb, if_neg hb]
      refine Or.inr ⟨_, x.2, hv, ?_⟩
      generalize hans : (if b = true then nI (2 * sz) else (-1 : Int32)) = ans
      have g141 : (wJ x.2 165 0 ans.toInt64) 141 = M 141 := by rw [wJ_165 141 (by omega), e141]
      obtain ⟨MB', f1', f2', f3', f4'⟩ := r_grow0 hN (hx0 _ g141) k8
      obtain ⟨b', T2', sz2', t1', t2', ⟨y, y1, y2, y3, y4, y5⟩, ⟨w, w1, w2, w3, w4⟩⟩ := two MB' f2' f4'
      have exy : x = y := Option.some.inj (x1.symm.trans y1)
      subst exy
      have ebb : b = b' := x2.symm.trans y2
      subst ebb
      rw [hrf _ g141, if_pos ⟨rfl, k8⟩, f1', w1]
      obtain ⟨z1, z2, z3⟩ := row_endT hR hS hr hh.1 y3 hS2 (by rw [y5, e5]) w3 ((f3'.mono (by decide)).trans (w4.mono (by decide))) t1'
      exact ⟨w, rfl, by rw [w2, hans], z1, z2, z3⟩
    · refine refI hR (e := 2) 2 ?_ rfl (by decide) ?_
      · rw [hcl, if_neg hk]
      · rw [hrf M rfl, if_neg hk, yo_s]
        exact smF.refl
