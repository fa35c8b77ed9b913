/-! SEMANTICS, NESTS: the search, both in step -/
theorem cnt_set {p : Nat → Bool} {i : Nat} : ∀ {n : Nat}, i < n → p i = false → cnt (fun k => if k = i then true else p k) n = cnt p n + 1
  | 0, h, _ => by omega
  | n + 1, h, hp => by
    show cnt (fun k => if k = i then true else p k) n + (if (if n = i then true else p n) = true then 1 else 0) = cnt p n + (if p n = true then 1 else 0) + 1
    by_cases q : n = i
    · rw [if_pos q, if_pos rfl, q, hp]
      have : cnt (fun k => if k = i then true else p k) i = cnt p i := cnt_cong (fun k hk => by rw [if_neg (by omega)])
      rw [this]
      simp
    · rw [if_neg q, cnt_set (by omega) hp]
      omega
def otF (T : Nat → Int32) (sz nest q : Nat) : Int32 := if plT T 0 (nI q) sz = plT T 1 (nI q) sz then -1 else if nest = plT T 0 (nI q) sz then nI (plT T 1 (nI q) sz) else nI (plT T 0 (nI q) sz)
theorem ot_two {T : Nat → Int32} {sz nest q : Nat} (h : 1 ≤ sz) : otF T sz nest q = -1 ∨ ∃ o, o < sz ∧ otF T sz nest q = nI o := by
  unfold otF
  by_cases e : plT T 0 (nI q) sz = plT T 1 (nI q) sz
  · rw [if_pos e]; exact Or.inl rfl
  · rw [if_neg e]
    by_cases e2 : nest = plT T 0 (nI q) sz
    · rw [if_pos e2]; exact Or.inr ⟨_, plT_lt h, rfl⟩
    · rw [if_neg e2]; exact Or.inr ⟨_, plT_lt h, rfl⟩
theorem c_other {N : Nat} {M : Mem} {T : Nat → Int32} {r W g m sz mk ex ly nest q : Nat} (hN : 700 ≤ N) (h : cX M T r W g m 2 sz mk ex ly) (hn : nest < sz) (hq : q < W) : Yo (fX3_otherNest N (10 + 4 * r) 2 (nI nest) (nI q) M) (fun x => x.1 = otF T sz nest q ∧ smF [8] M x.2) := by
  have k5 := h.2.2.2.2.1
  have hW := h.W1.2.2
  have hm : 2 ≤ m := by have := k5.2.2.2.2.2.2.1 rfl; omega
  unfold fX3_otherNest fX3_otherNest_b36
  rw [h.flds.2.1]
  refine (cv_place (w := 0) hN h.2.1 (by omega) k5.2.1 (by omega)).bi (fun x hx => ?_)
  have hx1 := h.mv8 hx.2
  rw [hx1.flds.2.1]
  refine (cv_place (w := 1) hN hx1.2.1 (by omega) k5.2.1 (by omega)).bi (fun y hy => ?_)
  have p0 := plT_lt (T := T) (w := 0) (name := nI q) k5.2.1
  have p1 := plT_lt (T := T) (w := 1) (name := nI q) k5.2.1
  have hF := hx.2.trans hy.2
  rw [if_neg (show ¬ nI q = -1 by rw [li_1]; exact fun z => (nI_ng (by omega) (by omega) (by omega)).mp z), hx.1, hy.1]
  unfold otF
  refine yo_i (fun z => ?_) (fun z => ?_)
  · rw [nI_eq (by omega) (by omega)] at z
    rw [if_pos z, yo_s]
    exact ⟨rfl, hF⟩
  · rw [nI_eq (by omega) (by omega)] at z
    rw [if_neg z]
    refine yo_i (fun w => ?_) (fun w => ?_)
    · rw [nI_eq (by omega) (by omega)] at w
      rw [if_pos w, yo_s]
      exact ⟨rfl, hF⟩
    · rw [nI_eq (by omega) (by omega)] at w
      rw [if_neg w, yo_s]
      exact ⟨rfl, hF⟩
theorem r_other {N : Nat} {M : Mem} {T : Nat → Int32} {r W g m sz mk ex ly nest q : Nat} (hN : 700 ≤ N) (h : rX M T r W g m 2 sz mk ex ly) (hn : nest < sz) : Yo (fX11_otherNest N 140 (nI r) (nI nest) (nI q) M) (fun x => x.1 = otF T sz nest q ∧ smF [147] M x.2) := by
  have k5 := h.2.2.2.2.1
  have hm : 2 ≤ m := by have := k5.2.2.2.2.2.2.1 rfl; omega
  unfold fX11_otherNest
  refine (rspot (w := 0) hN h (by omega)).bi (fun x hx => ?_)
  have hx1 := h.mv7 hx.2
  refine (rspot (w := 1) hN hx1 (by omega)).bi (fun y hy => ?_)
  have p0 := plT_lt (T := T) (w := 0) (name := nI q) k5.2.1
  have p1 := plT_lt (T := T) (w := 1) (name := nI q) k5.2.1
  have hF := hx.2.trans hy.2
  rw [hx.1, hy.1]
  unfold otF
  refine yo_i (fun z => ?_) (fun z => ?_)
  · rw [nI_eq (by omega) (by omega)] at z
    rw [if_pos z, yo_s]
    exact ⟨rfl, hF⟩
  · rw [nI_eq (by omega) (by omega)] at z
    rw [if_neg z]
    refine yo_i (fun w => ?_) (fun w => ?_)
    · rw [nI_eq (by omega) (by omega)] at w
      rw [if_pos w.symm, yo_s]
      exact ⟨rfl, hF⟩
    · rw [nI_eq (by omega) (by omega)] at w
      rw [if_neg (fun z => w z.symm), yo_s]
      exact ⟨rfl, hF⟩
def SC (M : Mem) (c : Nat) (q : Nat → Nat) (come : Nat → Bool) (fr : Nat → Option (Nat × Nat)) : Prop := rI M 121 4 = nI c ∧ (∀ x, x < 16 → bt (rI M 121 5) x = come x) ∧ (∀ i, i < c → rI M 122 i = nI (q i)) ∧ (∀ x, come x = true → rI M 123 x = frN (fr x)) ∧ (∀ x, come x = true → rI M 124 x = frS (fr x))
def SX (M : Mem) (c : Nat) (q : Nat → Nat) (come : Nat → Bool) (fr : Nat → Option (Nat × Nat)) : Prop := (∀ i, i < c → rI M 148 i = nI (q i)) ∧ (∀ x, x < 16 → rI M 150 x = if come x = true then 1 else 0) ∧ (∀ x, come x = true → rI M 149 x = frP (fr x))
def SP (T : Nat → Int32) (r ex sz c : Nat) (q : Nat → Nat) (come : Nat → Bool) (fr : Nat → Option (Nat × Nat)) (pos : Nat → Nat) : Prop := c = cnt come 16 ∧ (∀ i, i < c → fullN T r ex (q i) ∧ come (q i) = true ∧ pos (q i) = i) ∧ (∀ x, come x = true → pos x < c) ∧ frOk fr come pos sz ex
def uq (q : Nat → Nat) (c o : Nat) : Nat → Nat := fun k => if k = c then o else q k
def uc (come : Nat → Bool) (o : Nat) : Nat → Bool := fun k => if k = o then true else come k
def uf (fr : Nat → Option (Nat × Nat)) (o : Nat) (fo : Option (Nat × Nat)) : Nat → Option (Nat × Nat) := fun k => if k = o then fo else fr k
theorem SP_c {T : Nat → Int32} {r ex sz c : Nat} {q : Nat → Nat} {come : Nat → Bool} {fr : Nat → Option (Nat × Nat)} {pos : Nat → Nat} (h : SP T r ex sz c q come fr pos) {o : Nat} (ho : o < 16) (hc : come o = false) : c < 16 := by
  have := cnt_set (p := come) ho hc
  have h2 := cnt_le (fun k => if k = o then true else come k) 16
  rw [this, ← h.1] at h2
  omega
theorem frOk_add {fr : Nat → Option (Nat × Nat)} {come : Nat → Bool} {pos : Nat → Nat} {sz ex o c : Nat} {fo : Option (Nat × Nat)} (h : frOk fr come pos sz ex) (ho : o < sz) (hco : come o = false) (hc : c < 16) (hfo : ∀ a s, fo = some (a, s) → come a = true ∧ pos a < c ∧ s < ex) : frOk (uf fr o fo) (uc come o) (uq pos o c) sz ex := by
  intro n hn
  unfold uc at hn
  unfold uf uq uc
  by_cases e : n = o
  · subst e
    rw [if_pos rfl, if_pos rfl]
    refine ⟨ho, hc, fun a s z => ?_⟩
    obtain ⟨k1, k2, k3⟩ := hfo a s z
    have : a ≠ n := fun y => by rw [y, hco] at k1; cases k1
    rw [if_neg this, if_neg this]
    exact ⟨k1, k2, k3⟩
  · rw [if_neg e] at hn ⊢
    rw [if_neg e]
    obtain ⟨k1, k2, k3⟩ := h n hn
    refine ⟨k1, k2, fun a s z => ?_⟩
    obtain ⟨j1, j2, j3⟩ := k3 a s z
    have : a ≠ o := fun y => by rw [y, hco] at j1; cases j1
    rw [if_neg this, if_neg this]
    exact ⟨j1, j2, j3⟩
theorem SP_add {T : Nat → Int32} {r ex sz c : Nat} {q : Nat → Nat} {come : Nat → Bool} {fr : Nat → Option (Nat × Nat)} {pos : Nat → Nat} (h : SP T r ex sz c q come fr pos) {o : Nat} {fo : Option (Nat × Nat)} (ho : o < sz) (h16 : o < 16) (hco : come o = false) (hful : fullN T r ex o) (hfo : ∀ a s, fo = some (a, s) → come a = true ∧ pos a < c ∧ s < ex) : SP T r ex sz (c + 1) (uq q c o) (uc come o) (uf fr o fo) (uq pos o c) := by
  have hc := SP_c h h16 hco
  obtain ⟨h1, h2, h3, h4⟩ := h
  refine ⟨?_, fun i hi => ?_, fun x hx => ?_, frOk_add h4 ho hco hc hfo⟩
  · have := cnt_set (p := come) h16 hco
    unfold uc
    rw [this, ← h1]
  · unfold uq uc
    by_cases e : i = c
    · rw [if_pos e, if_pos rfl, if_pos rfl]
      exact ⟨hful, rfl, e.symm⟩
    · rw [if_neg e]
      obtain ⟨g1, g2, g3⟩ := h2 i (by omega)
      have : q i ≠ o := fun y => by rw [y, hco] at g2; cases g2
      rw [if_neg this, if_neg this]
      exact ⟨g1, g2, g3⟩
  · unfold uq
    unfold uc at hx
    by_cases e : x = o
    · rw [if_pos e]; omega
    · rw [if_neg e] at hx ⊢
      have := h3 x hx
      omega
theorem c_reach {M : Mem} {c o : Nat} {q : Nat → Nat} {come : Nat → Bool} {fr : Nat → Option (Nat × Nat)} (h : SC M c q come fr) (hc : c < 16) (ho : o < 16) (hco : come o = false) (fo : Option (Nat × Nat)) :
    Yo (fX3_reach 121 (nI o) (frN fo) (frS fo) M) (fun x => x.1 = true ∧ SC x.2 (c + 1) (uq q c o) (uc come o) (uf fr o fo) ∧ smF [121, 122, 123, 124] M x.2) := by
  obtain ⟨h1, h2, h3, h4, h5⟩ := h
  have e4 : ∀ v, rI (wI M 121 5 v) 121 4 = nI c := fun v => by rw [rI_wI, if_neg (by omega), h1]
  have e44 : ∀ v w, rI (wI (wI M 121 5 v) (121 + 1) c w) 121 4 = nI c := fun v w => by rw [rI_wI, if_neg (by omega), e4]
  unfold fX3_reach fX3_reach_b30
  rw [if_neg (nI_pos (by omega)), if_neg (show ¬ (16 : Int32) ≤ nI o from nI_ge (b := 16) ho (by decide)), h1, if_neg (show ¬ (16 : Int32) ≤ nI c from nI_ge (b := 16) hc (by decide)), if_pos ((bt_test _ (by omega)).mpr (by rw [h2 o ho]; exact hco)), e4, if_pos (inB_nI hc (by decide)), if_pos (inB_nI ho (by decide)), if_pos (inB_nI ho (by decide)), nI_clamp (by omega), nI_clamp (by omega), e44, nI_1, yo_s]
  have F : smF [121, 122, 123, 124] M (wI (wI (wI (wI (wI M 121 5 (rI M 121 5 ||| shlI 1 (nI o))) (121 + 1) c (nI o)) 121 4 (nI (c + 1))) (121 + 2) o (frN fo)) (121 + 3) o (frS fo)) := ((((smF.refl.pI_ (by simp) _ _).pI_ (by simp) _ _).pI_ (by simp) _ _).pI_ (by simp) _ _).pI_ (by simp) _ _
  refine ⟨rfl, ⟨?_, fun x hx => ?_, fun i hi => ?_, fun x hx => ?_, fun x hx => ?_⟩, F⟩
  · rw [rI_wI, if_neg (by omega), rI_wI, if_neg (by omega), rI_wI, if_pos ⟨rfl, rfl⟩]
  · rw [rI_wI, if_neg (by omega), rI_wI, if_neg (by omega), rI_wI, if_neg (by omega), rI_wI, if_neg (by omega), rI_wI, if_pos ⟨rfl, rfl⟩, bt_or, bt_one (by omega) (by omega), h2 x hx]
    unfold uc
    by_cases e : x = o
    · rw [if_pos e, decide_eq_true e, Bool.or_true]
    · rw [if_neg e, decide_eq_false e, Bool.or_false]
  · rw [rI_wI, if_neg (by omega), rI_wI, if_neg (by omega), rI_wI, if_neg (by omega), rI_wI]
    unfold uq
    by_cases e : i = c
    · rw [if_pos ⟨rfl, e⟩, if_pos e]
    · rw [if_neg (fun z => e z.2), if_neg e, rI_wI, if_neg (by omega), h3 i (by omega)]
  · rw [rI_wI, if_neg (by omega), rI_wI]
    unfold uf
    unfold uc at hx
    by_cases e : x = o
    · rw [if_pos ⟨rfl, e⟩, if_pos e]
    · rw [if_neg e] at hx
      rw [if_neg (fun z => e z.2), if_neg e, rI_wI, if_neg (by omega), rI_wI, if_neg (by omega), rI_wI, if_neg (by omega), h4 x hx]
  · rw [rI_wI]
    unfold uf
    unfold uc at hx
    by_cases e : x = o
    · rw [if_pos ⟨rfl, e⟩, if_pos e]
    · rw [if_neg e] at hx
      rw [if_neg (fun z => e z.2), if_neg e, rI_wI, if_neg (by omega), rI_wI, if_neg (by omega), rI_wI, if_neg (by omega), rI_wI, if_neg (by omega), h5 x hx]
theorem c_reach_no {M : Mem} {c o : Nat} {q : Nat → Nat} {come : Nat → Bool} {fr : Nat → Option (Nat × Nat)} (h : SC M c q come fr) (ho : o < 16) (hco : come o = true) (p1 p2 : Int32) : fX3_reach 121 (nI o) p1 p2 M = some (false, M) := by
  unfold fX3_reach fX3_reach_b30
  rw [if_neg (nI_pos (by omega)), if_neg (show ¬ (16 : Int32) ≤ nI o from nI_ge (b := 16) ho (by decide))]
  by_cases q1 : (16 : Int32) ≤ rI M 121 4
  · rw [if_pos q1]
  · rw [if_neg q1, if_neg]
    rw [bt_test _ (by omega), h.2.1 o ho, hco]
    decide
theorem c_reach_m {M : Mem} (p1 p2 : Int32) : fX3_reach 121 (-1) p1 p2 M = some (false, M) := by
  unfold fX3_reach fX3_reach_b30
  rw [if_pos (by decide)]
theorem SX_add {M M' : Mem} {c o : Nat} {q : Nat → Nat} {come : Nat → Bool} {fr : Nat → Option (Nat × Nat)} {fo : Option (Nat × Nat)} (h : SX M c q come fr) (h1 : rI M' 148 c = nI o) (h2 : ∀ i, i ≠ c → rI M' 148 i = rI M 148 i) (h3 : rI M' 150 o = 1) (h4 : ∀ i, i ≠ o → rI M' 150 i = rI M 150 i) (h5 : rI M' 149 o = frP fo) (h6 : ∀ i, i ≠ o → rI M' 149 i = rI M 149 i) : SX M' (c + 1) (uq q c o) (uc come o) (uf fr o fo) := by
  obtain ⟨g1, g2, g3⟩ := h
  refine ⟨fun i hi => ?_, fun x hx => ?_, fun x hx => ?_⟩
  · unfold uq
    by_cases e : i = c
    · rw [if_pos e, e, h1]
    · rw [if_neg e, h2 i e, g1 i (by omega)]
  · unfold uc
    by_cases e : x = o
    · rw [if_pos e, if_pos rfl, e, h3]
    · rw [if_neg e, h4 x e, g2 x hx]
  · unfold uf
    unfold uc at hx
    by_cases e : x = o
    · rw [if_pos e, e, h5]
    · rw [if_neg e] at hx ⊢
      rw [h6 x e, g3 x hx]
def JJ (T : Nat → Int32) (r W g m sz mk ex ly n : Nat) (M0 M1 : Mem) (o1 : Option (Int32 × Mem)) (o2 : Option (Bool × Mem)) : Prop :=
  (Yo o1 (fun x => x.1 = -1 ∧ cX x.2 T r W g m 2 sz mk ex ly ∧ smF [8, 121, 122, 123, 124] M0 x.2) ∧ Yo o2 (fun x => x.1 = false ∧ rX x.2 T r W g m 2 sz mk ex ly ∧ smF [141, 147, 148, 149, 150] M1 x.2)) ∨
  (∃ (to s : Nat) (fr : Nat → Option (Nat × Nat)) (come : Nat → Bool) (pos : Nat → Nat), to < sz ∧ s < ex ∧ come to = true ∧ frOk fr come pos sz ex ∧ fsF T r ex to ex 0 = nI s ∧
    Yo o1 (fun x => x.1 = nI to ∧ cX x.2 T r W g m 2 sz mk ex ly ∧ smF [8, 121, 122, 123, 124] M0 x.2 ∧ (∀ y, come y = true → rI x.2 123 y = frN (fr y)) ∧ (∀ y, come y = true → rI x.2 124 y = frS (fr y))) ∧
    Yo o2 (fun x => x.1 = true ∧ (psT r ex n fr 17 to s 0 T).2 ≤ 16 ∧ rX x.2 (setT (psT r ex n fr 17 to s 0 T).1 r 5 (nI (psT r ex n fr 17 to s 0 T).2)) r W g m 2 sz mk ex ly ∧ smF [141, 147, 148, 149, 150] M1 x.2))
theorem SC_mv {M M' : Mem} {c : Nat} {q : Nat → Nat} {come : Nat → Bool} {fr : Nat → Option (Nat × Nat)} (h : SC M c q come fr) (hF : smF [8] M M') : SC M' c q come fr :=
  ⟨by rw [hF.I_ (by decide)]; exact h.1, fun x hx => by rw [hF.I_ (by decide)]; exact h.2.1 x hx, fun i hi => by rw [hF.I_ (by decide)]; exact h.2.2.1 i hi, fun x hx => by rw [hF.I_ (by decide)]; exact h.2.2.2.1 x hx, fun x hx => by rw [hF.I_ (by decide)]; exact h.2.2.2.2 x hx⟩
theorem SX_mv {M M' : Mem} {c : Nat} {q : Nat → Nat} {come : Nat → Bool} {fr : Nat → Option (Nat × Nat)} (h : SX M c q come fr) (hF : smF [147] M M') : SX M' c q come fr :=
  ⟨fun i hi => by rw [hF.I_ (by decide)]; exact h.1 i hi, fun x hx => by rw [hF.I_ (by decide)]; exact h.2.1 x hx, fun x hx => by rw [hF.I_ (by decide)]; exact h.2.2 x hx⟩
/-- the search, from the i-th that was come to -/
theorem search_two {N : Nat} {T : Nat → Int32} {r W g m sz mk ex ly n : Nat} {M0 M1 : Mem} (hN : 700 ≤ N) (hn : n < W) :
    ∀ (d i c f1 f2 : Nat) (q : Nat → Nat) (come : Nat → Bool) (fr : Nat → Option (Nat × Nat)) (pos : Nat → Nat) (A B : Mem), i + d = 16 → i ≤ c → d < f1 → d < f2 → SP T r ex sz c q come fr pos →
      cX A T r W g m 2 sz mk ex ly → smF [8, 121, 122, 123, 124] M0 A → SC A c q come fr → rX B T r W g m 2 sz mk ex ly → smF [141, 147, 148, 149, 150] M1 B → SX B c q come fr →
      JJ T r W g m sz mk ex ly n M0 M1 (fX3_search_l30 N 121 (10 + 4 * r) 2 f1 (nI i) A) (fX11_nestPuts_l186 N 140 (nI r) (nI n) f2 (nI c) (nI i) B) := by
  intro d
  induction d with
  | zero =>
    intro i c f1 f2 q come fr pos A B hid hic hf1 hf2 hP hA hFA hSC hB hFB hSX
    have hc16 : c ≤ 16 := by rw [hP.1]; exact cnt_le _ 16
    obtain ⟨f1, rfl⟩ : ∃ f, f1 = f + 1 := ⟨f1 - 1, by omega⟩
    obtain ⟨f2, rfl⟩ : ∃ f, f2 = f + 1 := ⟨f2 - 1, by omega⟩
    have e : i = c := by omega
    subst e
    refine Or.inl ⟨?_, ?_⟩
    · show Yo (fX3_search_l30_s N 121 (10 + 4 * r) 2 (fX3_search_l30 N 121 (10 + 4 * r) 2 f1) (nI i) A) _
      unfold fX3_search_l30_s fX3_search_b131
      rw [hSC.1, if_pos (nI_le (Nat.le_refl i) (by omega)), yo_s]
      exact ⟨rfl, hA, hFA⟩
    · show Yo (fX11_nestPuts_l186_s N 140 (nI r) (nI n) (fX11_nestPuts_l186 N 140 (nI r) (nI n) f2) (nI i) (nI i) B) _
      unfold fX11_nestPuts_l186_s
      rw [if_pos (nI_le (Nat.le_refl i) (by omega)), yo_s]
      exact ⟨rfl, hB, hFB⟩
  | succ d ihd =>
    intro i c f1 f2 q come fr pos A B hid hic hf1 hf2 hP hA hFA hSC hB hFB hSX
    have hc16 : c ≤ 16 := by rw [hP.1]; exact cnt_le _ 16
    obtain ⟨f1, rfl⟩ : ∃ f, f1 = f + 1 := ⟨f1 - 1, by omega⟩
    obtain ⟨f2, rfl⟩ : ∃ f, f2 = f + 1 := ⟨f2 - 1, by omega⟩
    show JJ T r W g m sz mk ex ly n M0 M1 (fX3_search_l30_s N 121 (10 + 4 * r) 2 (fX3_search_l30 N 121 (10 + 4 * r) 2 f1) (nI i) A) (fX11_nestPuts_l186_s N 140 (nI r) (nI n) (fX11_nestPuts_l186 N 140 (nI r) (nI n) f2) (nI c) (nI i) B)
    unfold fX3_search_l30_s fX3_search_b131 fX11_nestPuts_l186_s
    rw [hSC.1]
    rcases Nat.lt_or_ge i c with hlt | hge
    · rw [if_neg (nI_ge hlt (by omega)), if_neg (show ¬ (16 : Int32) ≤ nI i from nI_ge (b := 16) (by omega) (by decide)), if_neg (nI_ge hlt (by omega))]
      have hex4 := (hA.2.2.2.2.1.2.2.2.2.2.2.2.2.2.1 rfl).2
      have hW := hA.W1.2.2
      have h16 := hA.2.2.2.2.1.2.2.2.1 (by omega)
      have hsz := hA.2.2.2.2.1.2.1
      -- the slots of the i-th nest
      have inner : ∀ (e j c' g1 g2 : Nat) (q' : Nat → Nat) (come' : Nat → Bool) (fr' : Nat → Option (Nat × Nat)) (pos' : Nat → Nat) (A' B' : Mem), j + e = ex → i < c' → e < g1 → e < g2 → SP T r ex sz c' q' come' fr' pos' →
          cX A' T r W g m 2 sz mk ex ly → smF [8, 121, 122, 123, 124] M0 A' → SC A' c' q' come' fr' → rX B' T r W g m 2 sz mk ex ly → smF [141, 147, 148, 149, 150] M1 B' → SX B' c' q' come' fr' →
          JJ T r W g m sz mk ex ly n M0 M1 (fX3_search_l52 N (fX3_search_l30 N 121 (10 + 4 * r) 2 f1) 121 (10 + 4 * r) 2 (nI i) g1 (nI j) A') (fX11_nestPuts_l196 N (fX11_nestPuts_l186 N 140 (nI r) (nI n) f2) 140 (nI r) (nI n) (nI i) g2 (nI c') (nI j) B') := by
        intro e
        induction e with
        | zero =>
          intro j c' g1 g2 q' come' fr' pos' A' B' hje hic' hg1 hg2 hP' hA' hFA' hSC' hB' hFB' hSX'
          obtain ⟨g1, rfl⟩ : ∃ f, g1 = f + 1 := ⟨g1 - 1, by omega⟩
          obtain ⟨g2, rfl⟩ : ∃ f, g2 = f + 1 := ⟨g2 - 1, by omega⟩
          show JJ T r W g m sz mk ex ly n M0 M1 (fX3_search_l52_s N (fX3_search_l30 N 121 (10 + 4 * r) 2 f1) 121 (10 + 4 * r) 2 (nI i) (fX3_search_l52 N (fX3_search_l30 N 121 (10 + 4 * r) 2 f1) 121 (10 + 4 * r) 2 (nI i) g1) (nI j) A') (fX11_nestPuts_l196_s N (fX11_nestPuts_l186 N 140 (nI r) (nI n) f2) 140 (nI r) (nI n) (nI i) (fX11_nestPuts_l196 N (fX11_nestPuts_l186 N 140 (nI r) (nI n) f2) 140 (nI r) (nI n) (nI i) g2) (nI c') (nI j) B')
          unfold fX3_search_l52_s fX11_nestPuts_l196_s
          rw [hA'.flds.2.2.2.1, hB'.flds.2.2.2.1, Option.bind_some, if_pos (nI_le (by omega) (by omega)), if_pos (nI_le (by omega) (by omega)), nI_1]
          exact ihd (i + 1) c' f1 f2 q' come' fr' pos' A' B' (by omega) (by omega) (by omega) (by omega) hP' hA' hFA' hSC' hB' hFB' hSX'
        | succ e ihe =>
          intro j c' g1 g2 q' come' fr' pos' A' B' hje hic' hg1 hg2 hP' hA' hFA' hSC' hB' hFB' hSX'
          obtain ⟨g1, rfl⟩ : ∃ f, g1 = f + 1 := ⟨g1 - 1, by omega⟩
          obtain ⟨g2, rfl⟩ : ∃ f, g2 = f + 1 := ⟨g2 - 1, by omega⟩
          have hc16' : c' ≤ 16 := by rw [hP'.1]; exact cnt_le _ 16
          have hje2 : j < ex := by omega
          obtain ⟨u1, u2, u3⟩ := hP'.2.1 i hic'
          obtain ⟨v1, _, _⟩ := hP'.2.2.2 _ u2
          have hix := nests_ix h16 hex4 v1 hje2
          have hq : rI A' (121 + 1) i = nI (q' i) := hSC'.2.2.1 i hic'
          have hq2 : rI B' (140 + 8) i = nI (q' i) := hSX'.1 i hic'
          obtain ⟨gq, hgq, w1, w2⟩ : ∃ gq, gq < W ∧ rq T r (10 + (q' i * ex + j)) = nI (gq + 1) ∧ rq T r (10 + (q' i * ex + j)) - 1 = nI gq := by
            rcases guest_is hA'.2.2.2 (show q' i * ex + j < 240 by omega) with ⟨z, _⟩ | z
            · exact absurd z (u1 j hje2)
            · exact z
          show JJ T r W g m sz mk ex ly n M0 M1 (fX3_search_l52_s N (fX3_search_l30 N 121 (10 + 4 * r) 2 f1) 121 (10 + 4 * r) 2 (nI i) (fX3_search_l52 N (fX3_search_l30 N 121 (10 + 4 * r) 2 f1) 121 (10 + 4 * r) 2 (nI i) g1) (nI j) A') (fX11_nestPuts_l196_s N (fX11_nestPuts_l186 N 140 (nI r) (nI n) f2) 140 (nI r) (nI n) (nI i) (fX11_nestPuts_l196 N (fX11_nestPuts_l186 N 140 (nI r) (nI n) f2) 140 (nI r) (nI n) (nI i) g2) (nI c') (nI j) B')
          unfold fX3_search_l52_s fX11_nestPuts_l196_s fX3_search_b119 fX11_nestPuts_b314
          rw [hA'.flds.2.2.2.1, hB'.flds.2.2.2.1, Option.bind_some, if_neg (nI_ge hje2 (by omega)), if_neg (nI_ge hje2 (by omega)), if_pos (inB_nI (show i < 16 by omega) (by decide)), if_pos (inB_nI (show i < 16 by omega) (by decide)), if_pos (inB_nI (show i < 16 by omega) (by decide)), if_pos (inB_nI (show i < 16 by omega) (by decide)), nI_clamp (show i < 2 ^ 31 by omega), hq, hq2, guest_c hA' v1 hje2, guest_r hB' v1 hje2, Option.bind_some, Option.bind_some, w2, nI_1]
          obtain ⟨x, x1, x2, x3⟩ := c_other hN hA' v1 hgq
          obtain ⟨y, y1, y2, y3⟩ := r_other (q := gq) hN hB' v1
          have hAx := hA'.mv8 x3
          have hBy := hB'.mv7 y3
          have hSCx := SC_mv hSC' x3
          have hSXy := SX_mv hSX' y3
          have hFx : smF [8, 121, 122, 123, 124] M0 x.2 := hFA'.trans (x3.mono (by decide))
          have hFy : smF [141, 147, 148, 149, 150] M1 y.2 := hFB'.trans (y3.mono (by decide))
          have hqx : rI x.2 (121 + 1) i = nI (q' i) := hSCx.2.2.1 i hic'
          rw [x1, y1, Option.bind_some, Option.bind_some, x2, y2, if_pos (inB_nI (show i < 16 by omega) (by decide)), hqx]
          rcases ot_two (T := T) (nest := q' i) (q := gq) hsz with z | ⟨o, ho, z⟩
          · rw [z, c_reach_m, Option.bind_some, if_neg (show ¬ (false = true) by decide), if_pos rfl]
            exact ihe (j + 1) c' g1 g2 q' come' fr' pos' x.2 y.2 (by omega) hic' (by omega) (by omega) hP' hAx hFx hSCx hBy hFy hSXy
          · have ho16 : o < 16 := by omega
            have hcomeO : rI y.2 (140 + 10) o = if come' o = true then 1 else 0 := hSXy.2.1 o ho16
            rw [z, if_neg (show ¬ nI o = -1 by rw [li_1]; exact fun z => (nI_ng (by omega) (by omega) (by omega)).mp z), if_pos (inB_nI ho16 (by decide)), nI_clamp (by omega), hcomeO]
            cases hco : come' o with
            | true =>
              rw [c_reach_no hSCx ho16 hco, Option.bind_some, if_neg (show ¬ (false = true) by decide), if_neg (by rw [if_pos rfl]; decide)]
              exact ihe (j + 1) c' g1 g2 q' come' fr' pos' x.2 y.2 (by omega) hic' (by omega) (by omega) hP' hAx hFx hSCx hBy hFy hSXy
            | false =>
              have hcl := SP_c hP' ho16 hco
              have hfo : ∀ a s, some (q' i, j) = some (a, s) → come' a = true ∧ pos' a < c' ∧ s < ex := by
                intro a s h
                cases h
                exact ⟨u2, by rw [u3]; exact hic', hje2⟩
              obtain ⟨p, p1, p2, p3, p4⟩ := c_reach hSCx hcl ho16 hco (some (q' i, j))
              have hAp : cX p.2 T r W g m 2 sz mk ex ly := hAx.mv (fun a h1 h2 => p4 a (by simp; omega))
              have hFp : smF [8, 121, 122, 123, 124] M0 p.2 := hFx.trans (p4.mono (by decide))
              have p1' : fX3_reach 121 (nI o) (nI (q' i)) (nI j) x.2 = some p := p1
              rw [p1', Option.bind_some, p2, if_pos rfl, c_fs hN hAp ho, Option.bind_some, if_pos (show (if false = true then (1 : Int32) else 0) = 0 by decide), if_pos (inB_nI ho16 (by decide)), if_pos (inB_nI (show i < 16 by omega) (by decide)), if_pos (inB_nI ho16 (by decide))]
              have hline : rI (wI y.2 (140 + 10) o (vp_nar FieldType.boolean 1)) (140 + 8) i = nI (q' i) := by rw [rI_wI, if_neg (by omega)]; exact hSXy.1 i hic'
              have e4 : (4 : Int32) * nI (q' i) + nI j = nI (4 * q' i + j) := by rw [li_4, pk_mul, nI_add]
              rw [hline, e4]
              generalize hM2 : wI (wI y.2 (140 + 10) o (vp_nar FieldType.boolean 1)) (140 + 9) o (nI (4 * q' i + j)) = M2
              have F2 : smF [149, 150] y.2 M2 := by rw [← hM2]; exact (smF.refl.pI_ (by simp) _ _).pI_ (by simp) _ _
              have hB2 : rX M2 T r W g m 2 sz mk ex ly := hBy.mv (F2 141 (by decide))
              have hF2 : smF [141, 147, 148, 149, 150] M1 M2 := hFy.trans (F2.mono (by decide))
              have e149 : ∀ k, rI M2 149 k = if k = o then nI (4 * q' i + j) else rI y.2 149 k := fun k => by
                rw [← hM2, rI_wI]
                by_cases e : k = o
                · rw [if_pos ⟨rfl, e⟩, if_pos e]
                · rw [if_neg (fun z => e z.2), if_neg e, rI_wI, if_neg (by omega)]
              have e150 : ∀ k, rI M2 150 k = if k = o then 1 else rI y.2 150 k := fun k => by
                rw [← hM2, rI_wI, if_neg (by omega), rI_wI]
                by_cases e : k = o
                · rw [if_pos ⟨rfl, e⟩, if_pos e]; rfl
                · rw [if_neg (fun z => e z.2), if_neg e]
              rw [r_fs hN hB2 ho, Option.bind_some]
              rcases fs_two T r ex o with ⟨t1, t2⟩ | ⟨s, t1, t2, t3⟩
              · rw [t1, if_pos rfl, if_pos rfl, if_pos (inB_nI hcl (by decide)), nI_clamp (by omega), nI_1]
                refine ihe (j + 1) (c' + 1) g1 g2 (uq q' c' o) (uc come' o) (uf fr' o (some (q' i, j))) (uq pos' o c') p.2 _ (by omega) (by omega) (by omega) (by omega) (SP_add hP' ho ho16 hco t2 hfo) hAp hFp p3 ?_ ?_ ?_
                · exact hB2.mv ((smF.refl (S := [148])).pI_ (by simp) _ _ 141 (by simp))
                · exact hF2.pI_ (by simp) _ _
                · refine SX_add hSXy ?_ (fun k hk => ?_) ?_ (fun k hk => ?_) ?_ (fun k hk => ?_)
                  · rw [rI_wI, if_pos ⟨rfl, rfl⟩]
                  · rw [rI_wI, if_neg (fun z => hk z.2), F2.I_ (by decide)]
                  · rw [rI_wI, if_neg (by omega), e150, if_pos rfl]
                  · rw [rI_wI, if_neg (by omega), e150, if_neg hk]
                  · rw [rI_wI, if_neg (by omega), e149, if_pos rfl]; rfl
                  · rw [rI_wI, if_neg (by omega), e149, if_neg hk]
              · have hs1 : ¬ nI s = -1 := by rw [li_1]; exact fun z => (nI_ng (by omega) (by omega) (by omega)).mp z
                rw [t3, if_neg hs1, if_neg hs1]
                have hfr := frOk_add hP'.2.2.2 ho hco hcl hfo
                refine Or.inr ⟨o, s, uf fr' o (some (q' i, j)), uc come' o, uq pos' o c', ho, t1, by unfold uc; rw [if_pos rfl], hfr, t3, ?_, ?_⟩
                · rw [yo_s]
                  exact ⟨rfl, hAp, hFp, p3.2.2.2.1, p3.2.2.2.2⟩
                · unfold fX11_pushes
                  rw [r_fs hN hB2 ho, Option.bind_some, t3]
                  have h149 : ∀ k, uc come' o k = true → rI M2 149 k = frP (uf fr' o (some (q' i, j)) k) := fun k hk => by
                    rw [e149]
                    unfold uf
                    unfold uc at hk
                    by_cases e : k = o
                    · rw [if_pos e, if_pos e]; rfl
                    · rw [if_neg e] at hk
                      rw [if_neg e, if_neg e, hSXy.2.2 k hk]
                  refine (r_along hN hB2 hn hfr h149 16 o s 0 N T M2 (by unfold uq; rw [if_pos rfl]; omega) (by omega) (by unfold uc; rw [if_pos rfl]) t1 (by omega) hB2 smF.refl).bi (fun w hw => ?_)
                  rw [yo_s]
                  exact ⟨rfl, hw.1, hw.2.1, hF2.trans (hw.2.2.mono (by decide))⟩
      exact inner ex 0 c N N q come fr pos A B (by omega) hlt (by omega) (by omega) hP hA hFA hSC hB hFB hSX
    · have e : i = c := by omega
      subst e
      rw [if_pos (nI_le (Nat.le_refl i) (by omega)), if_pos (nI_le (Nat.le_refl i) (by omega))]
      refine Or.inl ⟨?_, ?_⟩
      · rw [yo_s]; exact ⟨rfl, hA, hFA⟩
      · rw [yo_s]; exact ⟨rfl, hB, hFB⟩
