/-! SEMANTICS: a put in NESTS, both in step; put, pour -/
theorem setT_ne {T : Nat → Int32} {r k z : Nat} {v : Int32} (h : z ≠ 1220 + 512 * r + k) : setT T r k v z = T z := by
  unfold setT
  rw [if_neg h]
theorem psT_out {r ex n sz m W mk ly : Nat} {fr : Nat → Option (Nat × Nat)} {come : Nat → Bool} {pos : Nat → Nat} (hfr : frOk fr come pos sz ex) (h16 : sz ≤ 16) (hex : ex ≤ 4) : ∀ (f nest slot c : Nat) (T : Nat → Int32), come nest = true → slot < ex → ∀ z, (z ≠ 1220 + 512 * r + 5 ∧ (z < 1220 + 512 * r + 10 ∨ 1220 + 512 * r + 74 ≤ z)) → (psT r ex n fr f nest slot c T).1 z = T z
  | 0, _, _, _, _, _, _, _, _ => rfl
  | f + 1, nest, slot, c, T, hc, hs, z, hz => by
    obtain ⟨g1, _, g3⟩ := hfr nest hc
    have hix := nests_ix h16 hex g1 hs
    cases e : fr nest with
    | none =>
      rw [ps_none e]
      exact setT_ne (by omega)
    | some q =>
      obtain ⟨a, s⟩ := q
      obtain ⟨k1, _, k3⟩ := g3 a s e
      rw [ps_some e, psT_out (m := m) (W := W) (mk := mk) (ly := ly) hfr h16 hex f a s (c + 1) _ k1 k3 z hz]
      exact setT_ne (by omega)
theorem nest_two {N : Nat} {M M' : Mem} {T : Nat → Int32} {r W g m sz mk ex ly n : Nat} (hN : 700 ≤ N) (hc : cX M T r W g m 2 sz mk ex ly) (hx : rX M' T r W g m 2 sz mk ex ly) (hn : n < W) :
    (Yo (fX3_settle N 121 (10 + 4 * r) 2 (nI n) M) (fun x => x.1 = false ∧ cX x.2 T r W g m 2 sz mk ex ly ∧ smF [8, 121, 122, 123, 124] M x.2) ∧ Yo (fX11_nestPuts N 140 (nI r) (nI n) M') (fun x => x.1 = false ∧ rX x.2 T r W g m 2 sz mk ex ly ∧ smF [141, 147, 148, 149, 150] M' x.2)) ∨
    (∃ T2, (∀ z, (z ≠ 1220 + 512 * r + 5 ∧ (z < 1220 + 512 * r + 10 ∨ 1220 + 512 * r + 74 ≤ z)) → T2 z = T z) ∧ Yo (fX3_settle N 121 (10 + 4 * r) 2 (nI n) M) (fun x => x.1 = true ∧ cX x.2 T2 r W g m 2 sz mk ex ly ∧ smF [8, 121, 122, 123, 124, 10 + 4 * r, 13 + 4 * r] M x.2 ∧ rI x.2 (10 + 4 * r) 0 = rI M (10 + 4 * r) 0) ∧
      Yo (fX11_nestPuts N 140 (nI r) (nI n) M') (fun x => x.1 = true ∧ rX x.2 T2 r W g m 2 sz mk ex ly ∧ smF [141, 147, 148, 149, 150] M' x.2)) := by
  have k5 := hc.2.2.2.2.1
  have h16 := k5.2.2.2.1 (by omega)
  have hex4 := (k5.2.2.2.2.2.2.2.2.2.1 rfl).2
  have hm2 : 2 ≤ m := by have := k5.2.2.2.2.2.2.1 rfl; omega
  have hsz := k5.2.1
  have hr4 := hc.1
  obtain ⟨x1, a1, a2, a3⟩ := cv_place (w := 0) (name := nI n) (size := sz) hN hc.2.1 (by omega) hsz (by omega)
  have hc1 := hc.mv8 a3
  obtain ⟨x2, b1, b2, b3⟩ := cv_place (w := 1) (name := nI n) (size := sz) hN hc1.2.1 (by omega) hsz (by omega)
  have hc2 := hc1.mv8 b3
  obtain ⟨y1, d1, d2, d3⟩ := rspot (w := 0) (name := nI n) hN hx (by omega)
  have hx1 := hx.mv7 d3
  obtain ⟨y2, e1, e2, e3⟩ := rspot (w := 1) (name := nI n) hN hx1 (by omega)
  have hx2 := hx1.mv7 e3
  have hF1 : smF [8] M x2.2 := a3.trans b3
  have a1 : fX6_placeOf N 2 (0 : Int32) (nI n) (nI sz) M = some x1 := a1
  have b1 : fX6_placeOf N 2 (1 : Int32) (nI n) (nI sz) x1.2 = some x2 := b1
  have d1 : fX11_spot N 140 (nI r) (0 : Int32) (nI n) M' = some y1 := d1
  have e1 : fX11_spot N 140 (nI r) (1 : Int32) (nI n) y1.2 = some y2 := e1
  have hF2 : smF [147] M' y2.2 := d3.trans e3
  have pa := plT_lt (T := T) (w := 0) (name := nI n) hsz
  have pb := plT_lt (T := T) (w := 1) (name := nI n) hsz
  generalize plT T 0 (nI n) sz = a at *
  generalize plT T 1 (nI n) sz = b at *
  have hset : fX3_settle N 121 (10 + 4 * r) 2 (nI n) M = if fsF T r ex a ex 0 = -1 then fX3_settle_b41 N 121 (10 + 4 * r) 2 (nI n) (nI a) (nI b) (nI b) x2.2 else fX3_settle_b41 N 121 (10 + 4 * r) 2 (nI n) (nI a) (nI b) (nI a) x2.2 := by
    unfold fX3_settle
    rw [hc.flds.2.1, a1, Option.bind_some, hc1.flds.2.1, b1, Option.bind_some, a2, b2, c_fs hN hc2 pa, Option.bind_some]
  have hnp : fX11_nestPuts N 140 (nI r) (nI n) M' = if fsF T r ex a ex 0 = -1 then (if fsF T r ex b ex 0 = -1 then fX11_nestPuts_b48 N 140 (nI r) (nI n) (nI a) (nI b) (-1) y2.2 else fX11_nestPuts_b48 N 140 (nI r) (nI n) (nI a) (nI b) (nI b) y2.2) else fX11_nestPuts_b48 N 140 (nI r) (nI n) (nI a) (nI b) (nI a) y2.2 := by
    unfold fX11_nestPuts
    rw [d1, Option.bind_some, e1, Option.bind_some, d2, e2, r_fs hN hx2 pa, Option.bind_some, r_fs hN hx2 pb, Option.bind_some]
  -- into a free slot of this nest
  have into : ∀ o s, o < sz → s < ex → fsF T r ex o ex 0 = nI s →
      Yo (fX3_settle_b41 N 121 (10 + 4 * r) 2 (nI n) (nI a) (nI b) (nI o) x2.2) (fun x => x.1 = true ∧ cX x.2 (setT (setT T r (10 + (o * ex + s)) (nI (n + 1))) r 5 0) r W g m 2 sz mk ex ly ∧ smF [8, 121, 122, 123, 124, 10 + 4 * r, 13 + 4 * r] M x.2 ∧ rI x.2 (10 + 4 * r) 0 = rI M (10 + 4 * r) 0) ∧
      Yo (fX11_nestPuts_b48 N 140 (nI r) (nI n) (nI a) (nI b) (nI o) y2.2) (fun x => x.1 = true ∧ rX x.2 (setT (setT T r (10 + (o * ex + s)) (nI (n + 1))) r 5 0) r W g m 2 sz mk ex ly ∧ smF [141, 147, 148, 149, 150] M' x.2) := by
    intro o s ho hs hfs
    have hs1 : ¬ nI s = -1 := by rw [li_1]; exact fun z => (nI_ng (by omega) (by omega) (by omega)).mp z
    have ho1 : ¬ nI o = -1 := by rw [li_1]; exact fun z => (nI_ng (by omega) (by omega) (by omega)).mp z
    have hix := nests_ix h16 hex4 ho hs
    obtain ⟨s1, s2⟩ := c_setG (w := nI n) hc2 ho hs (Or.inr ⟨n, hn, by rw [nI_1]⟩)
    rw [nI_1] at s1 s2
    constructor
    · unfold fX3_settle_b41
      rw [c_fs hN hc2 ho, Option.bind_some, hfs, if_neg hs1, s1, Option.bind_some, yo_s]
      refine ⟨rfl, cX_fld (i := 5) s2 (Or.inr rfl) (by omega) (roT_push (p := 0) s2.2.2.2 (by omega)), ?_, ?_⟩
      · exact ((hF1.mono (by simp)).pI_ (by simp) _ _).pI_ (by simp) _ _
      · rw [rI_wI, if_neg (by omega), rI_wI, if_neg (by omega), hF1.I_ (by simp; omega)]
    · have t2 := rX_set hx2 (roT_cell hx2.2.2.2 (show o * ex + s < 240 by omega) (v := nI (n + 1)) ⟨fun z => by omega, fun z => by omega, fun _ => Or.inr ⟨n, hn, rfl⟩, fun _ z => by omega⟩)
      unfold fX11_nestPuts_b48
      rw [if_neg ho1, r_fs hN hx2 ho, Option.bind_some, hfs, slotAt_ok hx2, Option.bind_some, nI_1, set_ok _ _ (by omega), Option.bind_some, show (5 : Int32) = nI 5 from rfl, set_ok _ _ (by omega), Option.bind_some, yo_s]
      exact ⟨rfl, rX_set t2 (roT_push (p := 0) t2.2.2.2 (by omega)), ((hF2.mono (by simp)).pI_ (by simp) _ _).pI_ (by simp) _ _⟩
  have outI : ∀ o s, o < sz → s < ex → ∀ z, (z ≠ 1220 + 512 * r + 5 ∧ (z < 1220 + 512 * r + 10 ∨ 1220 + 512 * r + 74 ≤ z)) → setT (setT T r (10 + (o * ex + s)) (nI (n + 1))) r 5 0 z = T z := fun o s ho hs z hz => by
    have hix := nests_ix h16 hex4 ho hs
    rw [setT_ne (by omega), setT_ne (by omega)]
  rcases fs_two T r ex a with ⟨t1, t2⟩ | ⟨s, t1, t2, t3⟩
  · rcases fs_two T r ex b with ⟨u1, u2⟩ | ⟨s, u1, u2, u3⟩
    · rw [t1, if_pos rfl] at hset
      rw [t1, if_pos rfl, u1, if_pos rfl] at hnp
      -- the roots
      have hSC0 : SC (wI (wI x2.2 121 4 0) 121 5 0) 0 (fun _ => 0) (fun _ => false) (fun _ => none) := ⟨by rw [rI_wI, if_neg (by omega), rI_wI, if_pos ⟨rfl, rfl⟩]; rfl, fun x _ => by rw [rI_wI, if_pos ⟨rfl, rfl⟩, bt_0], fun i hi => absurd hi (Nat.not_lt_zero i), fun x hx => (by cases hx), fun x hx => (by cases hx)⟩
      have hc0 : cnt (fun _ => false) 16 = 0 := by decide
      have hSP0 : SP T r ex sz 0 (fun _ => 0) (fun _ => false) (fun _ => none) (fun _ => 0) := ⟨hc0.symm, fun i hi => absurd hi (Nat.not_lt_zero i), fun x hx => (by cases hx), fun x hx => (by cases hx)⟩
      have hnfo : ∀ (come : Nat → Bool) (pos : Nat → Nat) (c : Nat), ∀ a' s', (none : Option (Nat × Nat)) = some (a', s') → come a' = true ∧ pos a' < c ∧ s' < ex := fun _ _ _ _ _ h => by cases h
      obtain ⟨p, p1, p2, p3, p4⟩ := c_reach hSC0 (by omega) (show a < 16 by omega) rfl none
      have hSP1 := SP_add hSP0 pa (by omega) rfl t2 (hnfo _ _ 0)
      have p1' : fX3_reach 121 (nI a) (-1) (-1) (wI (wI x2.2 121 4 0) 121 5 0) = some p := p1
      have hFp : smF [8, 121, 122, 123, 124] M p.2 := (((hF1.mono (by decide)).pI_ (by decide) _ _).pI_ (by decide) _ _).trans (p4.mono (by decide))
      have hcp : cX p.2 T r W g m 2 sz mk ex ly := hc.mv (fun z h1 h2 => hFp z (by simp; omega))
      -- the reference's start
      have hl90 : ∀ (Q : Bool × Mem → Prop), (∀ M2 : Mem, smF [150] y2.2 M2 → (∀ x, x < 16 → rI M2 150 x = 0) → Yo (fX11_nestPuts_l117 N 140 (nI r) (nI n) (nI a) (nI b) N (0 : Int32) (0 : Int32) M2) Q) → Yo (fX11_nestPuts N 140 (nI r) (nI n) M') Q := by
        intro Q hQ
        rw [hnp]
        unfold fX11_nestPuts_b48
        rw [if_pos rfl]
        refine yo_f2 (F := fX11_nestPuts_l90 N 140 (nI r) (nI n) (nI a) (nI b)) 16 (fun k v M2 => v = nI k ∧ smF [150] y2.2 M2 ∧ ∀ x, x < k → rI M2 150 x = 0) ?_ N 0 _ _ (by omega) (by omega) ⟨rfl, smF.refl, fun x hx => absurd hx (Nat.not_lt_zero x)⟩
        intro f k v M2 hk ⟨hv, g1, g2⟩ ih
        subst hv
        show Yo (fX11_nestPuts_l90_s N 140 (nI r) (nI n) (nI a) (nI b) (fX11_nestPuts_l90 N 140 (nI r) (nI n) (nI a) (nI b) f) (nI k) M2) _
        unfold fX11_nestPuts_l90_s
        rcases Nat.lt_or_ge k 16 with hlt | hge
        · rw [if_neg (show ¬ (16 : Int32) ≤ nI k from nI_ge (b := 16) hlt (by decide)), if_pos (inB_nI hlt (by decide)), nI_clamp (by omega), nI_1]
          refine ih _ _ hlt ⟨rfl, g1.pI_ (by simp) _ _, fun x hx => ?_⟩
          rw [rI_wI]
          by_cases e : x = k
          · rw [if_pos ⟨rfl, e⟩]; rfl
          · rw [if_neg (fun z => e z.2), g2 x (by omega)]
        · rw [if_pos (show (16 : Int32) ≤ nI k from nI_le (a := 16) hge (by omega))]
          exact hQ M2 g1 (fun x hx => g2 x (by omega))
      -- the first root in the reference
      have root : ∀ (o c : Nat) (q : Nat → Nat) (come : Nat → Bool) (fr : Nat → Option (Nat × Nat)) (B : Mem) (k117 : Int32 → Int32 → Mem → Option (Bool × Mem)) (v7 : Int32), o < 16 → c < 16 → SX B c q come fr → come o = false →
          ∃ B2, smF [148, 149, 150] B B2 ∧ SX B2 (c + 1) (uq q c o) (uc come o) (uf fr o none) ∧ fX11_nestPuts_b134 N k117 140 (nI r) (nI n) (nI a) (nI b) (nI c) v7 (nI o) B = k117 (nI (c + 1)) (v7 + 1) B2 := by
        intro o c q come fr B k117 v7 ho hcc hSX hco
        refine ⟨wI (wI (wI B 150 o (vp_nar FieldType.boolean 1)) 149 o (-1)) 148 c (nI o), ((smF.refl.pI_ (by simp) _ _).pI_ (by simp) _ _).pI_ (by simp) _ _, ?_, ?_⟩
        · refine SX_add hSX ?_ (fun k hk => ?_) ?_ (fun k hk => ?_) ?_ (fun k hk => ?_)
          · rw [rI_wI, if_pos ⟨rfl, rfl⟩]
          · rw [rI_wI, if_neg (fun z => hk z.2), rI_wI, if_neg (by omega), rI_wI, if_neg (by omega)]
          · rw [rI_wI, if_neg (by omega), rI_wI, if_neg (by omega), rI_wI, if_pos ⟨rfl, rfl⟩]; rfl
          · rw [rI_wI, if_neg (by omega), rI_wI, if_neg (by omega), rI_wI, if_neg (fun z => hk z.2)]
          · rw [rI_wI, if_neg (by omega), rI_wI, if_pos ⟨rfl, rfl⟩]; rfl
          · rw [rI_wI, if_neg (by omega), rI_wI, if_neg (fun z => hk z.2), rI_wI, if_neg (by omega)]
        · have h0 : rI B (140 + 10) o = 0 := by have := hSX.2.1 o ho; rw [hco] at this; exact this
          unfold fX11_nestPuts_b134 fX11_nestPuts_b177
          rw [if_pos (inB_nI ho (by decide)), nI_clamp (by omega), h0, if_pos rfl, if_pos (inB_nI ho (by decide)), if_pos (inB_nI ho (by decide)), if_pos (inB_nI hcc (by decide)), nI_clamp (by omega), nI_1]
      have joint : ∃ M2 : Mem, smF [150] y2.2 M2 ∧ True := ⟨y2.2, smF.refl, trivial⟩
      -- both searches from here
      have main : ∀ M2 : Mem, smF [150] y2.2 M2 → (∀ x, x < 16 → rI M2 150 x = 0) →
          JJ T r W g m sz mk ex ly n M M' (fX3_search N 121 (10 + 4 * r) 2 (nI a) (nI b) x2.2) (fX11_nestPuts_l117 N 140 (nI r) (nI n) (nI a) (nI b) N (0 : Int32) (0 : Int32) M2) := by
        intro M2 g1 g2
        have hSX0 : SX M2 0 (fun _ => 0) (fun _ => false) (fun _ => none) := ⟨fun i hi => absurd hi (Nat.not_lt_zero i), fun x hx => by rw [g2 x hx]; rfl, fun x hx => by cases hx⟩
        obtain ⟨N', rfl⟩ : ∃ N', N = N' + 3 := ⟨N - 3, by omega⟩
        obtain ⟨B1, j1, j2, j3⟩ := root a 0 _ _ _ M2 (fX11_nestPuts_l117 (N' + 3) 140 (nI r) (nI n) (nI a) (nI b) (N' + 2)) 0 (by omega) (by omega) hSX0 rfl
        have hFB1 : smF [141, 147, 148, 149, 150] M' B1 := ((hF2.mono (by decide)).trans (g1.mono (by decide))).trans (j1.mono (by decide))
        have e117 : fX11_nestPuts_l117 (N' + 3) 140 (nI r) (nI n) (nI a) (nI b) (N' + 3) (0 : Int32) (0 : Int32) M2 = fX11_nestPuts_l117_s (N' + 3) 140 (nI r) (nI n) (nI a) (nI b) (fX11_nestPuts_l117 (N' + 3) 140 (nI r) (nI n) (nI a) (nI b) (N' + 1)) (nI 1) (nI 1) B1 := by
          show fX11_nestPuts_l117_s (N' + 3) 140 (nI r) (nI n) (nI a) (nI b) (fX11_nestPuts_l117 (N' + 3) 140 (nI r) (nI n) (nI a) (nI b) (N' + 2)) 0 0 M2 = _
          unfold fX11_nestPuts_l117_s
          rw [if_neg (by decide), if_pos rfl]
          exact j3
        have hB1 : rX B1 T r W g m 2 sz mk ex ly := hx2.mv (by rw [j1 141 (by decide), g1 141 (by decide)])
        unfold fX3_search
        rw [p1', Option.bind_some, e117]
        unfold fX11_nestPuts_l117_s
        rw [if_neg (show ¬ (2 : Int32) ≤ nI 1 by decide), if_neg (show ¬ nI 1 = (0 : Int32) by decide)]
        have last : ∀ (c : Nat) (B : Mem), fX11_nestPuts_l117 (N' + 3) 140 (nI r) (nI n) (nI a) (nI b) (N' + 1) (nI c) (nI 1 + 1) B = fX11_nestPuts_l186 (N' + 3) 140 (nI r) (nI n) (N' + 3) (nI c) (nI 0) B := fun c B => by
          show fX11_nestPuts_l117_s (N' + 3) 140 (nI r) (nI n) (nI a) (nI b) (fX11_nestPuts_l117 (N' + 3) 140 (nI r) (nI n) (nI a) (nI b) N') (nI c) (nI 1 + 1) B = _
          unfold fX11_nestPuts_l117_s
          rw [if_pos (show (2 : Int32) ≤ nI 1 + 1 by decide)]
          rfl
        by_cases hab : b = a
        · subst hab
          have hcb : uc (fun _ => false) b b = true := by unfold uc; rw [if_pos rfl]
          have hcom : rI B1 (140 + 10) b = 1 := by have := j2.2.1 b (by omega); rw [hcb] at this; exact this
          have e134 : fX11_nestPuts_b134 (N' + 3) (fX11_nestPuts_l117 (N' + 3) 140 (nI r) (nI n) (nI b) (nI b) (N' + 1)) 140 (nI r) (nI n) (nI b) (nI b) (nI 1) (nI 1) (nI b) B1 = fX11_nestPuts_l186 (N' + 3) 140 (nI r) (nI n) (N' + 3) (nI 1) (nI 0) B1 := by
            unfold fX11_nestPuts_b134 fX11_nestPuts_b177
            rw [if_pos (inB_nI (show b < 16 by omega) (by decide)), nI_clamp (by omega), hcom, if_neg (by decide), last]
          rw [c_reach_no p3 (by omega) hcb, Option.bind_some, e134]
          exact search_two hN hn 16 0 1 (N' + 3) (N' + 3) _ _ _ _ p.2 B1 (by omega) (by omega) (by omega) (by omega) hSP1 hcp hFp p3 hB1 hFB1 j2
        · have hcb : uc (fun _ => false) a b = false := by unfold uc; rw [if_neg hab]
          obtain ⟨p', k1, k2, k3, k4⟩ := c_reach p3 (by omega) (show b < 16 by omega) hcb none
          have k1' : fX3_reach 121 (nI b) (-1) (-1) p.2 = some p' := k1
          have hSP2 := SP_add hSP1 pb (by omega) hcb u2 (hnfo _ _ 1)
          have hFp' : smF [8, 121, 122, 123, 124] M p'.2 := hFp.trans (k4.mono (by decide))
          have hcp' : cX p'.2 T r W g m 2 sz mk ex ly := hc.mv (fun z h1 h2 => hFp' z (by simp; omega))
          obtain ⟨B2, i1, i2, i3⟩ := root b 1 _ _ _ B1 (fX11_nestPuts_l117 (N' + 3) 140 (nI r) (nI n) (nI a) (nI b) (N' + 1)) (nI 1) (by omega) (by omega) j2 hcb
          rw [k1', Option.bind_some, i3, last]
          exact search_two hN hn 16 0 2 (N' + 3) (N' + 3) _ _ _ _ p'.2 B2 (by omega) (by omega) (by omega) (by omega) hSP2 hcp' hFp' k3 (hB1.mv (i1 141 (by decide))) (hFB1.trans (i1.mono (by decide))) i2
      have hset2 : fX3_settle N 121 (10 + 4 * r) 2 (nI n) M = (fX3_search N 121 (10 + 4 * r) 2 (nI a) (nI b) x2.2).bind fun qj2 => if qj2.1 = (-1 : Int32) then some (false, qj2.2) else (fX3_pushAlong N 121 (10 + 4 * r) qj2.1 (nI n) qj2.2).bind fun qj3 => some (true, wI qj3.2 (10 + 4 * r) 6 qj3.1) := by
        rw [hset]
        unfold fX3_settle_b41
        rw [c_fs hN hc2 pb, Option.bind_some, u1, if_pos rfl]
      -- what the reference comes to doesn't hang on how its start is cut
      have hM2 : ∃ M2 : Mem, smF [150] y2.2 M2 ∧ (∀ x, x < 16 → rI M2 150 x = 0) ∧ fX11_nestPuts N 140 (nI r) (nI n) M' = fX11_nestPuts_l117 N 140 (nI r) (nI n) (nI a) (nI b) N (0 : Int32) (0 : Int32) M2 := by
        rw [hnp]
        unfold fX11_nestPuts_b48
        rw [if_pos rfl]
        have : ∀ (d k f : Nat) (M2 : Mem), k + d = 16 → d < f → smF [150] y2.2 M2 → (∀ x, x < k → rI M2 150 x = 0) → ∃ M3 : Mem, smF [150] y2.2 M3 ∧ (∀ x, x < 16 → rI M3 150 x = 0) ∧ fX11_nestPuts_l90 N 140 (nI r) (nI n) (nI a) (nI b) f (nI k) M2 = fX11_nestPuts_l117 N 140 (nI r) (nI n) (nI a) (nI b) N (0 : Int32) (0 : Int32) M3 := by
          intro d
          induction d with
          | zero =>
            intro k f M2 hk hf g1 g2
            obtain ⟨f, rfl⟩ : ∃ f', f = f' + 1 := ⟨f - 1, by omega⟩
            refine ⟨M2, g1, fun x hx => g2 x (by omega), ?_⟩
            show fX11_nestPuts_l90_s N 140 (nI r) (nI n) (nI a) (nI b) (fX11_nestPuts_l90 N 140 (nI r) (nI n) (nI a) (nI b) f) (nI k) M2 = _
            unfold fX11_nestPuts_l90_s
            rw [if_pos (show (16 : Int32) ≤ nI k from nI_le (a := 16) (by omega) (by omega))]
          | succ d ihd =>
            intro k f M2 hk hf g1 g2
            obtain ⟨f, rfl⟩ : ∃ f', f = f' + 1 := ⟨f - 1, by omega⟩
            obtain ⟨M3, z1, z2, z3⟩ := ihd (k + 1) f (wI M2 150 k (vp_nar FieldType.boolean 0)) (by omega) (by omega) (g1.pI_ (by simp) _ _) (fun x hx => by
              rw [rI_wI]
              by_cases e : x = k
              · rw [if_pos ⟨rfl, e⟩]; rfl
              · rw [if_neg (fun z => e z.2), g2 x (by omega)])
            refine ⟨M3, z1, z2, ?_⟩
            rw [← z3]
            show fX11_nestPuts_l90_s N 140 (nI r) (nI n) (nI a) (nI b) (fX11_nestPuts_l90 N 140 (nI r) (nI n) (nI a) (nI b) f) (nI k) M2 = _
            unfold fX11_nestPuts_l90_s
            rw [if_neg (show ¬ (16 : Int32) ≤ nI k from nI_ge (b := 16) (by omega) (by decide)), if_pos (inB_nI (show k < 16 by omega) (by decide)), nI_clamp (by omega), nI_1]
        exact this 16 0 N y2.2 (by omega) (by omega) smF.refl (fun x hx => absurd hx (Nat.not_lt_zero x))
      obtain ⟨M2, g1, g2, g3⟩ := hM2
      rcases main M2 g1 g2 with ⟨z1, z2⟩ | ⟨to, s, fr, come, pos, z1, z2, z3, z4, z5, z6, z7⟩
      · refine Or.inl ⟨?_, by rw [g3]; exact z2⟩
        rw [hset2]
        refine z1.bi (fun x hx => ?_)
        rw [hx.1, if_pos rfl, yo_s]
        exact ⟨rfl, hx.2⟩
      · refine Or.inr ⟨setT (psT r ex n fr 17 to s 0 T).1 r 5 (nI (psT r ex n fr 17 to s 0 T).2), fun z hz => ?_, ?_, ?_⟩
        · rw [setT_ne (by omega)]
          exact psT_out (m := m) (W := W) (mk := mk) (ly := ly) z4 h16 hex4 17 to s 0 T z3 z2 z hz
        · rw [hset2]
          refine z6.bi (fun x hx => ?_)
          obtain ⟨w1, w2, w3, w4, w5⟩ := hx
          have hto1 : ¬ nI to = -1 := by rw [li_1]; exact fun z => (nI_ng (by omega) (by omega) (by omega)).mp z
          rw [w1, if_neg hto1]
          unfold fX3_pushAlong
          rw [c_fs hN w2 z1, Option.bind_some, z5]
          refine (c_along hN w2 hn z4 w4 w5 16 to s 0 N T x.2 (by have := (z4 to z3).2.1; omega) (by omega) z3 z2 (by omega) w2 smF.refl).bi (fun u hu => ?_)
          rw [yo_s, hu.1]
          refine ⟨rfl, cX_fld (i := 5) hu.2.2.1 (Or.inr rfl) (by omega) (roT_push hu.2.2.1.2.2.2 (by omega)), ?_, ?_⟩
          · exact ((w3.mono (by simp)).trans (hu.2.2.2.mono (by simp))).pI_ (by simp) _ _
          · rw [rI_wI, if_neg (by omega), hu.2.2.2.I_ (by simp), w3.I_ (by simp; omega)]
        · rw [g3]
          exact z7.to (fun x hx => ⟨hx.1, hx.2.2⟩)
    · have hs1 : ¬ nI s = -1 := by rw [li_1]; exact fun z => (nI_ng (by omega) (by omega) (by omega)).mp z
      obtain ⟨i1, i2⟩ := into b s pb u1 u3
      rw [t1, if_pos rfl] at hset
      rw [t1, if_pos rfl, u3, if_neg hs1] at hnp
      exact Or.inr ⟨_, outI b s pb u1, by rw [hset]; exact i1, by rw [hnp]; exact i2⟩
  · have hs1 : ¬ nI s = -1 := by rw [li_1]; exact fun z => (nI_ng (by omega) (by omega) (by omega)).mp z
    obtain ⟨i1, i2⟩ := into a s pa t1 t3
    rw [t3, if_neg hs1] at hset hnp
    exact Or.inr ⟨_, outI a s pa t1, by rw [hset]; exact i1, by rw [hnp]; exact i2⟩
