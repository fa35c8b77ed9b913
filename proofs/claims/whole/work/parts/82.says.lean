/-! SEMANTICS, WHAT A ROW SAYS -/
noncomputable def bo (P : Prop) : Bool := @decide P (Classical.propDecidable P)
theorem bo_iff {P : Prop} : bo P = true ↔ P := by
  unfold bo
  exact @decide_eq_true_iff P (Classical.propDecidable P)
theorem bo_t {P : Prop} (h : P) : bo P = true := bo_iff.mpr h
theorem bo_f {P : Prop} (h : ¬ P) : bo P = false := by
  cases hb : bo P
  · rfl
  · exact absurd (bo_iff.mp hb) h
def cX (M : Mem) (T : Nat → Int32) (r W g m kd sz mk ex ly : Nat) : Prop := r < 4 ∧ cRu M 2 T W g m ∧ cRo M (10 + 4 * r) T r ∧ roT T r W m kd sz mk ex ly
def rX (M : Mem) (T : Nat → Int32) (r W g m kd sz mk ex ly : Nat) : Prop := r < 4 ∧ (M 141).1 = T ∧ ruT T W g m ∧ roT T r W m kd sz mk ex ly
theorem cX.mv {M M' : Mem} {T : Nat → Int32} {r W g m kd sz mk ex ly : Nat} (h : cX M T r W g m kd sz mk ex ly) (hF : ∀ a, a < 26 → a ≠ 8 → M' a = M a) : cX M' T r W g m kd sz mk ex ly :=
  ⟨h.1, h.2.1.moved (fun a h1 h2 => hF a (by omega) (by omega)), h.2.2.1.moved (fun a h1 h2 => hF a (by have := h.1; omega) (by omega)), h.2.2.2⟩
theorem cX.mv8 {M M' : Mem} {T : Nat → Int32} {r W g m kd sz mk ex ly : Nat} (h : cX M T r W g m kd sz mk ex ly) (hF : smF [8] M M') : cX M' T r W g m kd sz mk ex ly := h.mv (fun a _ h8 => hF a (by simp; exact h8))
theorem rX.mv {M M' : Mem} {T : Nat → Int32} {r W g m kd sz mk ex ly : Nat} (h : rX M T r W g m kd sz mk ex ly) (hF : M' 141 = M 141) : rX M' T r W g m kd sz mk ex ly := ⟨h.1, by rw [hF]; exact h.2.1, h.2.2⟩
theorem rX.mv7 {M M' : Mem} {T : Nat → Int32} {r W g m kd sz mk ex ly : Nat} (h : rX M T r W g m kd sz mk ex ly) (hF : smF [147] M M') : rX M' T r W g m kd sz mk ex ly := h.mv (hF 141 (by decide))
theorem cX.flds {M : Mem} {T : Nat → Int32} {r W g m kd sz mk ex ly : Nat} (h : cX M T r W g m kd sz mk ex ly) : rI M (10 + 4 * r) 1 = nI kd ∧ rI M (10 + 4 * r) 2 = nI sz ∧ rI M (10 + 4 * r) 3 = nI mk ∧ rI M (10 + 4 * r) 4 = nI ex ∧ rI M (10 + 4 * r) 5 = nI ly := by
  obtain ⟨_, _, ⟨⟨h1, h2, h3, h4, h5, _⟩, _⟩, ⟨q0, q1, q2, q3, q4⟩, _⟩ := h
  exact ⟨by rw [h1, q0], by rw [h2, q1], by rw [h3, q2], by rw [h4, q3], by rw [h5, q4]⟩
theorem rX.flds {M : Mem} {T : Nat → Int32} {r W g m kd sz mk ex ly : Nat} (h : rX M T r W g m kd sz mk ex ly) : fX11_get 140 (nI r) 0 M = some (nI kd) ∧ fX11_get 140 (nI r) 1 M = some (nI sz) ∧ fX11_get 140 (nI r) 2 M = some (nI mk) ∧ fX11_get 140 (nI r) 3 M = some (nI ex) ∧ fX11_get 140 (nI r) 4 M = some (nI ly) := by
  obtain ⟨hr, hT, _, ⟨q0, q1, q2, q3, q4⟩, _⟩ := h
  exact ⟨by rw [g0 hr, hT, q0], by rw [g1 hr, hT, q1], by rw [g2 hr, hT, q2], by rw [g3 hr, hT, q3], by rw [g4 hr, hT, q4]⟩
theorem cellAt_ok {b j : Nat} (hj : j < 240) (M : Mem) : fX5_cellAt b (nI j) M = some (rI M (b + 3) j) := by
  unfold fX5_cellAt
  rw [if_neg (nI_pos (by omega)), if_neg (show ¬ (240 : Int32) ≤ nI j from nI_ge (b := 240) hj (by decide)), if_pos (inB_nI hj (by decide)), nI_clamp (by omega)]
theorem cX.cell {M : Mem} {T : Nat → Int32} {r W g m kd sz mk ex ly : Nat} (h : cX M T r W g m kd sz mk ex ly) {j : Nat} (hj : j < 240) : fX5_cellAt (10 + 4 * r) (nI j) M = some (rq T r (10 + j)) := by
  rw [cellAt_ok hj, h.2.2.1.2.2.1 j hj]
theorem rX.cell {M : Mem} {T : Nat → Int32} {r W g m kd sz mk ex ly : Nat} (h : rX M T r W g m kd sz mk ex ly) {j : Nat} (hj : j < 240) : fX11_get 140 (nI r) (nI (10 + j)) M = some (rq T r (10 + j)) := by
  rw [get_ok M (by have := h.1; omega), h.2.1]
def allP (T : Nat → Int32) (r mk s wd n : Nat) : Prop := ∀ w, w < mk → rq T r (10 + (s + plT T w (nI n) wd)) ≠ 0
theorem plT_lt {T : Nat → Int32} {w size : Nat} {name : Int32} (h : 1 ≤ size) : plT T w name size < size := modN_lt h
theorem c_all {N : Nat} {M : Mem} {T : Nat → Int32} {r W g m kd sz mk ex ly n s wd : Nat} (hN : 700 ≤ N) (h : cX M T r W g m kd sz mk ex ly) (hwd : 1 ≤ wd) (hs : s + wd ≤ 240) :
    Yo (fX5_allAbove0 N (10 + 4 * r) 2 (nI n) (nI s) (nI wd) M) (fun x => x.1 = bo (allP T r mk s wd n) ∧ smF [8] M x.2) := by
  have hm : mk ≤ m ∧ m ≤ 6 := ⟨h.2.2.2.2.1.2.2.2.2.2.1, h.2.1.1.2.2.2.2.2.2.1⟩
  unfold fX5_allAbove0
  refine yo_f2 (F := fX5_allAbove0_l3 N (10 + 4 * r) 2 (nI n) (nI s) (nI wd)) mk (fun k v M' => v = nI k ∧ smF [8] M M' ∧ ∀ w, w < k → rq T r (10 + (s + plT T w (nI n) wd)) ≠ 0) ?_ N 0 _ _ (by omega) (by omega) ⟨rfl, smF.refl, fun w hw => absurd hw (Nat.not_lt_zero w)⟩
  intro f k v M' hk ⟨hv, hF, hI⟩ ih
  subst hv
  show Yo (fX5_allAbove0_l3_s N (10 + 4 * r) 2 (nI n) (nI s) (nI wd) (fX5_allAbove0_l3 N (10 + 4 * r) 2 (nI n) (nI s) (nI wd) f) (nI k) M') _
  unfold fX5_allAbove0_l3_s
  have h' := h.mv8 hF
  rw [h'.flds.2.2.1]
  rcases Nat.lt_or_ge k mk with hlt | hge
  · rw [if_neg (nI_ge hlt (by omega))]
    refine (cv_place hN h'.2.1 (show k < m by omega) hwd (by omega)).bi (fun x hx => ?_)
    have hp := plT_lt (T := T) (w := k) (name := nI n) hwd
    rw [hx.1, nI_add, (h'.mv8 hx.2).cell (by omega), Option.bind_some]
    refine yo_i (fun q => ?_) (fun q => ?_)
    · rw [yo_s, bo_f (fun z => z k hlt q)]
      exact ⟨rfl, hF.trans hx.2⟩
    · rw [nI_1]
      refine ih _ _ hlt ⟨rfl, hF.trans hx.2, fun w hw => ?_⟩
      rcases Nat.lt_or_ge w k with hw2 | hw2
      · exact hI w hw2
      · rw [show w = k by omega]; exact q
  · rw [if_pos (nI_le hge (by omega)), yo_s, bo_t (show allP T r mk s wd n from fun w hw => hI w (by omega))]
    exact ⟨rfl, hF⟩
theorem r_all {N : Nat} {M : Mem} {T : Nat → Int32} {r W g m kd sz mk ex ly n s wd : Nat} (hN : 700 ≤ N) (h : rX M T r W g m kd sz mk ex ly) (hwd : 1 ≤ wd) (hs : s + wd ≤ 240) :
    Yo (fX11_areSet N 140 (nI r) (nI (10 + s)) (nI wd) (nI n) M) (fun x => x.1 = bo (allP T r mk s wd n) ∧ smF [147] M x.2) := by
  have hm : mk ≤ m ∧ m ≤ 6 := ⟨h.2.2.2.2.1.2.2.2.2.2.1, h.2.2.1.2.2.2.2.2.2.1⟩
  unfold fX11_areSet
  refine yo_f2 (F := fX11_areSet_l3 N 140 (nI r) (nI (10 + s)) (nI wd) (nI n)) mk (fun k v M' => v = nI k ∧ smF [147] M M' ∧ ∀ w, w < k → rq T r (10 + (s + plT T w (nI n) wd)) ≠ 0) ?_ N 0 _ _ (by omega) (by omega) ⟨rfl, smF.refl, fun w hw => absurd hw (Nat.not_lt_zero w)⟩
  intro f k v M' hk ⟨hv, hF, hI⟩ ih
  subst hv
  show Yo (fX11_areSet_l3_s N 140 (nI r) (nI (10 + s)) (nI wd) (nI n) (fX11_areSet_l3 N 140 (nI r) (nI (10 + s)) (nI wd) (nI n) f) (nI k) M') _
  unfold fX11_areSet_l3_s
  have h' := h.mv7 hF
  rw [h'.flds.2.2.1, Option.bind_some]
  rcases Nat.lt_or_ge k mk with hlt | hge
  · rw [if_neg (nI_ge hlt (by omega))]
    have hseg : segT (M' 141).1 k := by rw [h'.2.1]; exact h.2.2.1.2.2.2.2.2.2.2.2.1 k (by omega)
    refine (rv_place hN (show k ≤ 6 by omega) hseg hwd (by omega)).bi (fun x hx => ?_)
    rw [h'.2.1] at hx
    have hp := plT_lt (T := T) (w := k) (name := nI n) hwd
    rw [hx.1, nI_add, Nat.add_assoc, (h'.mv7 hx.2).cell (by omega), Option.bind_some]
    refine yo_i (fun q => ?_) (fun q => ?_)
    · rw [yo_s, bo_f (fun z => z k hlt q)]
      exact ⟨rfl, hF.trans hx.2⟩
    · rw [nI_1]
      refine ih _ _ hlt ⟨rfl, hF.trans hx.2, fun w hw => ?_⟩
      rcases Nat.lt_or_ge w k with hw2 | hw2
      · exact hI w hw2
      · rw [show w = k by omega]; exact q
  · rw [if_pos (nI_le hge (by omega)), yo_s, bo_t (show allP T r mk s wd n from fun w hw => hI w (by omega))]
    exact ⟨rfl, hF⟩
/-! guests -/
def tgP (T : Nat → Int32) (r W g ex nest n : Nat) : Prop := ∃ slot, slot < ex ∧ ∃ q, q < W ∧ rq T r (10 + (nest * ex + slot)) = nI (q + 1) ∧ tagT T g q = tagT T g n
theorem tagT_lt {T : Nat → Int32} {g n : Nat} (h : 1 ≤ g) : tagT T g n < g := by
  unfold tagT
  split
  · exact Nat.mod_lt _ h
  · exact modN_lt h
theorem nests_ix {sz ex nest slot : Nat} (h1 : sz ≤ 16) (h2 : ex ≤ 4) (h3 : nest < sz) (h4 : slot < ex) : nest * ex + slot < 64 := by
  have : nest * ex + ex ≤ 16 * 4 := by
    calc nest * ex + ex = (nest + 1) * ex := by rw [Nat.add_mul, Nat.one_mul]
      _ ≤ 16 * 4 := Nat.mul_le_mul (by omega) h2
  omega
/-- a guest is one below what the cell says -/
theorem guest_c {M : Mem} {T : Nat → Int32} {r W g m sz mk ex ly nest slot : Nat} (h : cX M T r W g m 2 sz mk ex ly) (hn : nest < sz) (hs : slot < ex) : fX5_guestAt (10 + 4 * r) (nI nest) (nI slot) M = some (rq T r (10 + (nest * ex + slot)) - 1) := by
  have h5 := h.2.2.2.2.1
  unfold fX5_guestAt
  rw [h.flds.2.2.2.1, pk_mul, nI_add, h.cell (by have := nests_ix (h5.2.2.2.1 (by omega)) (h5.2.2.2.2.2.2.2.2.2.1 rfl).2 hn hs; omega), Option.bind_some]
theorem slotAt_ok {M : Mem} {T : Nat → Int32} {r W g m kd sz mk ex ly nest slot : Nat} (h : rX M T r W g m kd sz mk ex ly) : fX11_slotAt 140 (nI r) (nI nest) (nI slot) M = some (nI (10 + (nest * ex + slot))) := by
  unfold fX11_slotAt
  rw [h.flds.2.2.2.1, Option.bind_some, li_10, pk_mul, nI_add, nI_add, Nat.mul_comm, Nat.add_assoc]
theorem guest_r {M : Mem} {T : Nat → Int32} {r W g m sz mk ex ly nest slot : Nat} (h : rX M T r W g m 2 sz mk ex ly) (hn : nest < sz) (hs : slot < ex) : fX11_guestIn 140 (nI r) (nI nest) (nI slot) M = some (rq T r (10 + (nest * ex + slot)) - 1) := by
  have h5 := h.2.2.2.2.1
  unfold fX11_guestIn
  rw [slotAt_ok h, Option.bind_some, h.cell (by have := nests_ix (h5.2.2.2.1 (by omega)) (h5.2.2.2.2.2.2.2.2.2.1 rfl).2 hn hs; omega), Option.bind_some]
theorem guest_is {T : Nat → Int32} {r W m sz mk ex ly j : Nat} (h : roT T r W m 2 sz mk ex ly) (hj : j < 240) : (rq T r (10 + j) = 0 ∧ rq T r (10 + j) - 1 = -1) ∨ ∃ q, q < W ∧ rq T r (10 + j) = nI (q + 1) ∧ rq T r (10 + j) - 1 = nI q := by
  rcases h.2.2.2.1.2.2.1 rfl j hj with e | ⟨q, hq, e⟩
  · exact Or.inl ⟨e, by rw [e]; rfl⟩
  · exact Or.inr ⟨q, hq, e, by rw [e, nI_pred]⟩
theorem c_like {N : Nat} {M : Mem} {T : Nat → Int32} {r W g m sz mk ex ly nest n : Nat} (hN : 700 ≤ N) (h : cX M T r W g m 2 sz mk ex ly) (hn : nest < sz) (hw : n < W) :
    fX5_hasGuestLike N (10 + 4 * r) 2 (nI n) (nI nest) M = some (bo (tgP T r W g ex nest n)) := by
  rw [← yo_eq]
  have h5 := h.2.2.2.2.1
  have hWm : W ≤ 256 ∧ 2 ≤ g ∧ g ≤ 64 := ⟨h.2.1.1.2.1, h.2.1.1.2.2.2.1, h.2.1.1.2.2.2.2.1⟩
  have hex := (h5.2.2.2.2.2.2.2.2.2.1 rfl).2
  unfold fX5_hasGuestLike
  refine yo_f1 (F := fX5_hasGuestLike_l3 N (10 + 4 * r) 2 (nI n) (nI nest) M) ex (fun k v => v = nI k ∧ ∀ slot, slot < k → ∀ q, q < W → rq T r (10 + (nest * ex + slot)) = nI (q + 1) → tagT T g q ≠ tagT T g n) ?_ N 0 _ (by omega) (by omega) ⟨rfl, fun w hw => absurd hw (Nat.not_lt_zero w)⟩
  intro f k v hk ⟨hv, hI⟩ ih
  subst hv
  show Yo (fX5_hasGuestLike_l3_s N (10 + 4 * r) 2 (nI n) (nI nest) M (fX5_hasGuestLike_l3 N (10 + 4 * r) 2 (nI n) (nI nest) M f) (nI k)) _
  unfold fX5_hasGuestLike_l3_s fX5_hasGuestLike_b43
  rw [h.flds.2.2.2.1]
  rcases Nat.lt_or_ge k ex with hlt | hge
  · have hix := nests_ix (h5.2.2.2.1 (by omega)) hex hn hlt
    rw [if_neg (nI_ge hlt (by omega)), guest_c h hn hlt, Option.bind_some, nI_1]
    rcases guest_is h.2.2.2 (show nest * ex + k < 240 by omega) with ⟨e1, e2⟩ | ⟨q, hq, e1, e2⟩
    · rw [if_pos e2]
      refine ih _ hlt ⟨rfl, fun slot hs q hq e => ?_⟩
      rcases Nat.lt_or_ge slot k with hs2 | hs2
      · exact hI slot hs2 q hq e
      · rw [show slot = k by omega, e1] at e
        exact absurd e.symm (nI_ne0 (by omega) (by omega))
    · rw [e2, if_neg (by rw [li_1]; exact fun z => (nI_ng (by omega) (by omega) (by omega)).mp z), cv_tag h.2.1 hq, Option.bind_some, cv_tag h.2.1 hw, Option.bind_some]
      have t1 := tagT_lt (T := T) (n := q) (show 1 ≤ g by omega)
      have t2 := tagT_lt (T := T) (n := n) (show 1 ≤ g by omega)
      refine yo_i (fun z => ?_) (fun z => ?_)
      · rw [nI_eq (by omega) (by omega)] at z
        rw [yo_s, bo_t ⟨k, hlt, q, hq, e1, z⟩]
      · rw [nI_eq (by omega) (by omega)] at z
        refine ih _ hlt ⟨rfl, fun slot hs q' hq' e => ?_⟩
        rcases Nat.lt_or_ge slot k with hs2 | hs2
        · exact hI slot hs2 q' hq' e
        · rw [show slot = k by omega, e1, nI_eq (by omega) (by omega)] at e
          rw [show q' = q by omega]
          exact z
  · rw [if_pos (nI_le hge (by omega)), yo_s, bo_f]
    exact fun ⟨slot, hs, q, hq, e1, e2⟩ => hI slot (by omega) q hq e1 e2
theorem r_like {N : Nat} {M : Mem} {T : Nat → Int32} {r W g m sz mk ex ly nest n : Nat} (hN : 700 ≤ N) (h : rX M T r W g m 2 sz mk ex ly) (hn : nest < sz) (hw : n < W) :
    Yo (fX11_isTagged N 140 (nI r) (nI nest) (nI (tagT T g n)) M) (fun x => x.1 = bo (tgP T r W g ex nest n) ∧ smF [147] M x.2) := by
  have h5 := h.2.2.2.2.1
  have hWm : W ≤ 256 ∧ 2 ≤ g ∧ g ≤ 64 := ⟨h.2.2.1.2.1, h.2.2.1.2.2.2.1, h.2.2.1.2.2.2.2.1⟩
  have hex := (h5.2.2.2.2.2.2.2.2.2.1 rfl).2
  unfold fX11_isTagged
  refine yo_f2 (F := fX11_isTagged_l3 N 140 (nI r) (nI nest) (nI (tagT T g n))) ex (fun k v M' => v = nI k ∧ smF [147] M M' ∧ ∀ slot, slot < k → ∀ q, q < W → rq T r (10 + (nest * ex + slot)) = nI (q + 1) → tagT T g q ≠ tagT T g n) ?_ N 0 _ _ (by omega) (by omega) ⟨rfl, smF.refl, fun w hw => absurd hw (Nat.not_lt_zero w)⟩
  intro f k v M' hk ⟨hv, hF, hI⟩ ih
  subst hv
  show Yo (fX11_isTagged_l3_s N 140 (nI r) (nI nest) (nI (tagT T g n)) (fX11_isTagged_l3 N 140 (nI r) (nI nest) (nI (tagT T g n)) f) (nI k) M') _
  unfold fX11_isTagged_l3_s fX11_isTagged_b44
  have h' := h.mv7 hF
  rw [h'.flds.2.2.2.1, Option.bind_some]
  rcases Nat.lt_or_ge k ex with hlt | hge
  · have hix := nests_ix (h5.2.2.2.1 (by omega)) hex hn hlt
    rw [if_neg (nI_ge hlt (by omega)), guest_r h' hn hlt, Option.bind_some, nI_1]
    rcases guest_is h.2.2.2 (show nest * ex + k < 240 by omega) with ⟨e1, e2⟩ | ⟨q, hq, e1, e2⟩
    · rw [if_pos e2]
      refine ih _ _ hlt ⟨rfl, hF, fun slot hs q hq e => ?_⟩
      rcases Nat.lt_or_ge slot k with hs2 | hs2
      · exact hI slot hs2 q hq e
      · rw [show slot = k by omega, e1] at e
        exact absurd e.symm (nI_ne0 (by omega) (by omega))
    · rw [e2, if_neg (by rw [li_1]; exact fun z => (nI_ng (by omega) (by omega) (by omega)).mp z), Option.bind_some]
      have hru : ruT (M' 141).1 W g m := by rw [h'.2.1]; exact h.2.2.1
      refine (rv_tag hN hru hq).bi (fun x hx => ?_)
      rw [h'.2.1] at hx
      rw [hx.1]
      have t1 := tagT_lt (T := T) (n := q) (show 1 ≤ g by omega)
      have t2 := tagT_lt (T := T) (n := n) (show 1 ≤ g by omega)
      refine yo_i (fun z => ?_) (fun z => ?_)
      · rw [nI_eq (by omega) (by omega)] at z
        rw [yo_s, bo_t ⟨k, hlt, q, hq, e1, z⟩]
        exact ⟨rfl, hF.trans hx.2⟩
      · rw [nI_eq (by omega) (by omega)] at z
        refine ih _ _ hlt ⟨rfl, hF.trans hx.2, fun slot hs q' hq' e => ?_⟩
        rcases Nat.lt_or_ge slot k with hs2 | hs2
        · exact hI slot hs2 q' hq' e
        · rw [show slot = k by omega, e1, nI_eq (by omega) (by omega)] at e
          rw [show q' = q by omega]
          exact z
  · rw [if_pos (nI_le hge (by omega)), yo_s, bo_f]
    · exact ⟨rfl, hF⟩
    · exact fun ⟨slot, hs, q, hq, e1, e2⟩ => hI slot (by omega) q hq e1 e2
theorem ne_l {a b : Nat} (h : a ≠ b) (ha : a < 2 ^ 31) (hb : b < 2 ^ 31) : ¬ nI a = nI b := fun q => h ((nI_eq ha hb).mp q)
theorem shl_sz : ∀ a, a < 65 → ∀ l, l < 4 → shlI (nI a) (nI l) = nI (a * 2 ^ l) := by decide +kernel
theorem shl_one : ∀ l, l < 31 → shlI (1 : Int32) (nI l) = nI (2 ^ l) := by decide +kernel
theorem pow_le {l : Nat} (h : l ≤ 4) : 1 ≤ 2 ^ l ∧ 2 ^ l ≤ 16 := by
  have : l = 0 ∨ l = 1 ∨ l = 2 ∨ l = 3 ∨ l = 4 := by omega
  rcases this with h | h | h | h | h <;> subst h <;> decide
theorem lay_fit {T : Nat → Int32} {r W m kd sz mk ex ly l : Nat} (h : roT T r W m kd sz mk ex ly) (h2 : kd ≠ 2) (hl : l < ly) : sz * (2 ^ l - 1) + sz * 2 ^ l ≤ 240 ∧ 1 ≤ sz * 2 ^ l := by
  obtain ⟨_, ⟨h4, h1, h64, h16, _, _, _, _, _, _, _, _, hly, hl1⟩, _⟩ := h
  by_cases h3 : kd = 3
  · have h16 := h16 (Or.inr h3)
    have : l = 0 ∨ l = 1 ∨ l = 2 ∨ l = 3 := by omega
    rcases this with h | h | h | h <;> subst h <;> simp only [Nat.reducePow, Nat.reduceSub] <;> omega
  · have := hl1 h3
    have : l = 0 := by omega
    subst this
    simp only [Nat.reducePow, Nat.reduceSub]
    omega
theorem layS_ok {M : Mem} {b sz l : Nat} (h : rI M b 2 = nI sz) (hl : l < 31) : fX5_layerStart b (nI l) M = some (nI (sz * (2 ^ l - 1))) := by
  unfold fX5_layerStart
  rw [h, shl_one l hl, li_1, pk_sub (Nat.one_le_two_pow), pk_mul]
theorem layZ_ok {M : Mem} {b sz l : Nat} (h : rI M b 2 = nI sz) (hs : sz ≤ 64) (hl : l < 4) : fX5_layerSize b (nI l) M = some (nI (sz * 2 ^ l)) := by
  unfold fX5_layerSize
  rw [h, shl_sz sz (by omega) l hl]
theorem layA_ok {M : Mem} {T : Nat → Int32} {r W g m kd sz mk ex ly l : Nat} (h : rX M T r W g m kd sz mk ex ly) (hl : l < 31) : fX11_layerAt 140 (nI r) (nI l) M = some (nI (10 + sz * (2 ^ l - 1))) := by
  unfold fX11_layerAt
  rw [h.flds.2.1, Option.bind_some, shl_one l hl, li_1, pk_sub (Nat.one_le_two_pow), pk_mul, li_10, nI_add]
def xoT (T : Nat → Int32) (r n sz : Nat) : Nat → Int32
  | 0 => 0
  | k + 1 => xoT T r n sz k ^^^ rq T r (10 + plT T k (nI n) sz)
def saysP (T : Nat → Int32) (r W g kd sz mk ex ly n : Nat) : Prop :=
  (kd = 2 ∧ (tgP T r W g ex (plT T 0 (nI n) sz) n ∨ tgP T r W g ex (plT T 1 (nI n) sz) n)) ∨ (kd = 4 ∧ xoT T r n sz mk = nI (tagT T g n)) ∨ (kd ≠ 2 ∧ kd ≠ 4 ∧ ∃ l, l < ly ∧ allP T r mk (sz * (2 ^ l - 1)) (sz * 2 ^ l) n)
theorem says2 {T : Nat → Int32} {r W g sz mk ex ly n : Nat} : saysP T r W g 2 sz mk ex ly n ↔ (tgP T r W g ex (plT T 0 (nI n) sz) n ∨ tgP T r W g ex (plT T 1 (nI n) sz) n) := by
  unfold saysP
  simp
theorem says4 {T : Nat → Int32} {r W g sz mk ex ly n : Nat} : saysP T r W g 4 sz mk ex ly n ↔ xoT T r n sz mk = nI (tagT T g n) := by
  unfold saysP
  simp
theorem saysO {T : Nat → Int32} {r W g kd sz mk ex ly n : Nat} (h2 : kd ≠ 2) (h4 : kd ≠ 4) : saysP T r W g kd sz mk ex ly n ↔ ∃ l, l < ly ∧ allP T r mk (sz * (2 ^ l - 1)) (sz * 2 ^ l) n := by
  unfold saysP
  simp [h2, h4]
theorem c_says {N : Nat} {M : Mem} {T : Nat → Int32} {r W g m kd sz mk ex ly n : Nat} (hN : 700 ≤ N) (h : cX M T r W g m kd sz mk ex ly) (hn : n < W) :
    Yo (fX5_says N (10 + 4 * r) 2 (nI n) M) (fun x => x.1 = bo (saysP T r W g kd sz mk ex ly n) ∧ smF [8] M x.2) := by
  obtain ⟨h4, h1, h64, _, hmk, hmm, hm2, hm3, _, _, _, hly1, hly, _⟩ := h.2.2.2.2.1
  have hWm : W ≤ 256 ∧ m ≤ 6 ∧ 2 ≤ g ∧ g ≤ 64 := ⟨h.2.1.1.2.1, h.2.1.1.2.2.2.2.2.2.1, h.2.1.1.2.2.2.1, h.2.1.1.2.2.2.2.1⟩
  unfold fX5_says fX5_says_b46
  rw [h.flds.1, h.flds.2.1]
  by_cases k2 : kd = 2
  · subst k2
    have hmk2 := hm2 rfl
    rw [if_pos (show nI 2 = (2 : Int32) from rfl)]
    refine (cv_place (w := 0) hN h.2.1 (by omega) h1 (by omega)).bi (fun x hx => ?_)
    have hx1 := h.mv8 hx.2
    rw [hx.1, c_like hN hx1 (plT_lt h1) hn, Option.bind_some]
    refine yo_i (fun q => ?_) (fun q => ?_)
    · rw [yo_s, bo_t (says2.mpr (Or.inl (bo_iff.mp q)))]
      exact ⟨rfl, hx.2⟩
    · rw [hx1.flds.2.1]
      refine (cv_place (w := 1) hN hx1.2.1 (by omega) h1 (by omega)).bi (fun y hy => ?_)
      have hy1 := hx1.mv8 hy.2
      rw [hy.1, c_like hN hy1 (plT_lt h1) hn, Option.bind_some]
      refine yo_i (fun q2 => ?_) (fun q2 => ?_)
      · rw [yo_s, bo_t (says2.mpr (Or.inr (bo_iff.mp q2)))]
        exact ⟨rfl, hx.2.trans hy.2⟩
      · rw [yo_s, bo_f (fun z => (says2.mp z).elim (fun z => q (bo_t z)) (fun z => q2 (bo_t z)))]
        exact ⟨rfl, hx.2.trans hy.2⟩
  · rw [if_neg (show ¬ nI kd = (2 : Int32) from ne_l (b := 2) k2 (by omega) (by omega))]
    by_cases k4 : kd = 4
    · subst k4
      rw [if_pos (show nI 4 = (4 : Int32) from rfl)]
      have ht : Yo (fX5_together N (10 + 4 * r) 2 (nI n) M) (fun x => x.1 = xoT T r n sz mk ∧ smF [8] M x.2) := by
        unfold fX5_together
        refine yo_f3 (F := fX5_together_l5 N (10 + 4 * r) 2 (nI n)) mk (fun k a v M' => v = nI k ∧ a = xoT T r n sz k ∧ smF [8] M M') ?_ N 0 _ _ _ (by omega) (by omega) ⟨rfl, rfl, smF.refl⟩
        intro f k a v M' hk ⟨hv, ha, hF⟩ ih
        subst hv ha
        show Yo (fX5_together_l5_s N (10 + 4 * r) 2 (nI n) (fX5_together_l5 N (10 + 4 * r) 2 (nI n) f) (xoT T r n sz k) (nI k) M') _
        unfold fX5_together_l5_s
        have h' := h.mv8 hF
        rw [h'.flds.2.2.1, h'.flds.2.1]
        rcases Nat.lt_or_ge k mk with hlt | hge
        · rw [if_neg (nI_ge hlt (by omega))]
          refine (cv_place hN h'.2.1 (show k < m by omega) h1 (by omega)).bi (fun x hx => ?_)
          have hp := plT_lt (T := T) (w := k) (name := nI n) h1
          rw [hx.1, (h'.mv8 hx.2).cell (by omega), Option.bind_some, nI_1]
          exact ih _ _ _ hlt ⟨rfl, rfl, hF.trans hx.2⟩
        · rw [if_pos (nI_le hge (by omega)), yo_s, show k = mk by omega]
          exact ⟨rfl, hF⟩
      refine ht.bi (fun x hx => ?_)
      have hx1 := h.mv8 hx.2
      rw [cv_tag hx1.2.1 hn, Option.bind_some, hx.1]
      refine yo_i (fun q => ?_) (fun q => ?_)
      · rw [yo_s, bo_t (says4.mpr q)]
        exact ⟨rfl, hx.2⟩
      · rw [yo_s, bo_f (fun z => q (says4.mp z))]
        exact ⟨rfl, hx.2⟩
    · rw [if_neg (show ¬ nI kd = (4 : Int32) from ne_l (b := 4) k4 (by omega) (by omega))]
      refine yo_f2 (F := fX5_says_l82 N (10 + 4 * r) 2 (nI n)) ly (fun k v M' => v = nI k ∧ smF [8] M M' ∧ ∀ l, l < k → ¬ allP T r mk (sz * (2 ^ l - 1)) (sz * 2 ^ l) n) ?_ N 0 _ _ (by omega) (by omega) ⟨rfl, smF.refl, fun w hw => absurd hw (Nat.not_lt_zero w)⟩
      intro f k v M' hk ⟨hv, hF, hI⟩ ih
      subst hv
      show Yo (fX5_says_l82_s N (10 + 4 * r) 2 (nI n) (fX5_says_l82 N (10 + 4 * r) 2 (nI n) f) (nI k) M') _
      unfold fX5_says_l82_s
      have h' := h.mv8 hF
      rw [h'.flds.2.2.2.2]
      rcases Nat.lt_or_ge k ly with hlt | hge
      · rw [if_neg (nI_ge hlt (by omega)), layS_ok h'.flds.2.1 (by omega), Option.bind_some, layZ_ok h'.flds.2.1 h64 (by omega), Option.bind_some]
        obtain ⟨f1, f2⟩ := lay_fit h.2.2.2 k2 hlt
        refine (c_all hN h' f2 f1).bi (fun x hx => ?_)
        rw [hx.1]
        refine yo_i (fun q => ?_) (fun q => ?_)
        · rw [yo_s, bo_t ((saysO k2 k4).mpr ⟨k, hlt, bo_iff.mp q⟩)]
          exact ⟨rfl, hF.trans hx.2⟩
        · rw [nI_1]
          refine ih _ _ hlt ⟨rfl, hF.trans hx.2, fun l hl => ?_⟩
          rcases Nat.lt_or_ge l k with hl2 | hl2
          · exact hI l hl2
          · rw [show l = k by omega]; exact fun z => q (bo_t z)
      · rw [if_pos (nI_le hge (by omega)), yo_s, bo_f (fun z => (saysO k2 k4).mp z |>.elim (fun l hl => hI l (by omega) hl.2))]
        exact ⟨rfl, hF⟩
theorem rspot {N : Nat} {M : Mem} {T : Nat → Int32} {r W g m kd sz mk ex ly w : Nat} {name : Int32} (hN : 700 ≤ N) (h : rX M T r W g m kd sz mk ex ly) (hw : w < m) :
    Yo (fX11_spot N 140 (nI r) (nI w) name M) (fun x => x.1 = nI (plT T w name sz) ∧ smF [147] M x.2) := by
  unfold fX11_spot
  rw [h.flds.2.1, Option.bind_some]
  have hseg : segT (M 141).1 w := by rw [h.2.1]; exact h.2.2.1.2.2.2.2.2.2.2.2.1 w hw
  refine (rv_place hN (show w ≤ 6 by have := h.2.2.1.2.2.2.2.2.2.1; omega) hseg h.2.2.2.2.1.2.1 (by have := h.2.2.2.2.1.2.2.1; omega)).bi (fun x hx => ?_)
  rw [h.2.1] at hx
  rw [yo_s]
  exact hx
theorem rtag {N : Nat} {M : Mem} {T : Nat → Int32} {r W g m kd sz mk ex ly n : Nat} (hN : 700 ≤ N) (h : rX M T r W g m kd sz mk ex ly) (hn : n < W) :
    Yo (fX11_tagOf N 140 (nI n) M) (fun x => x.1 = nI (tagT T g n) ∧ smF [147] M x.2) := by
  have hru : ruT (M 141).1 W g m := by rw [h.2.1]; exact h.2.2.1
  refine (rv_tag hN hru hn).to (fun x hx => ?_)
  rw [h.2.1] at hx
  exact hx
theorem r_says {N : Nat} {M : Mem} {T : Nat → Int32} {r W g m kd sz mk ex ly n : Nat} (hN : 700 ≤ N) (h : rX M T r W g m kd sz mk ex ly) (hn : n < W) :
    Yo (fX11_says N 140 (nI r) (nI n) M) (fun x => x.1 = bo (saysP T r W g kd sz mk ex ly n) ∧ smF [147] M x.2) := by
  obtain ⟨h4, h1, h64, _, hmk, hmm, hm2, hm3, _, _, _, hly1, hly, _⟩ := h.2.2.2.2.1
  have hWm : W ≤ 256 ∧ m ≤ 6 ∧ 2 ≤ g ∧ g ≤ 64 := ⟨h.2.2.1.2.1, h.2.2.1.2.2.2.2.2.2.1, h.2.2.1.2.2.2.1, h.2.2.1.2.2.2.2.1⟩
  unfold fX11_says fX11_says_b52
  rw [h.flds.1, Option.bind_some]
  by_cases k2 : kd = 2
  · subst k2
    have hmk2 := hm2 rfl
    rw [if_pos (show nI 2 = (2 : Int32) from rfl)]
    refine (rspot (w := 0) hN h (by omega)).bi (fun x hx => ?_)
    have hx1 := h.mv7 hx.2
    refine (rtag hN hx1 hn).bi (fun t ht => ?_)
    have ht1 := hx1.mv7 ht.2
    rw [hx.1, ht.1]
    refine (r_like hN ht1 (plT_lt h1) hn).bi (fun u hu => ?_)
    have hu1 := ht1.mv7 hu.2
    rw [hu.1]
    refine yo_i (fun q => ?_) (fun q => ?_)
    · rw [yo_s, bo_t (says2.mpr (Or.inl (bo_iff.mp q)))]
      exact ⟨rfl, (hx.2.trans ht.2).trans hu.2⟩
    · refine (rspot (w := 1) hN hu1 (by omega)).bi (fun y hy => ?_)
      have hy1 := hu1.mv7 hy.2
      refine (rtag hN hy1 hn).bi (fun t2 ht2 => ?_)
      have ht21 := hy1.mv7 ht2.2
      rw [hy.1, ht2.1]
      refine (r_like hN ht21 (plT_lt h1) hn).bi (fun z hz => ?_)
      rw [hz.1]
      have hFF := (((((hx.2.trans ht.2).trans hu.2).trans hy.2).trans ht2.2).trans hz.2)
      refine yo_i (fun q2 => ?_) (fun q2 => ?_)
      · rw [yo_s, bo_t (says2.mpr (Or.inr (bo_iff.mp q2)))]
        exact ⟨rfl, hFF⟩
      · rw [yo_s, bo_f (fun z => (says2.mp z).elim (fun z => q (bo_t z)) (fun z => q2 (bo_t z)))]
        exact ⟨rfl, hFF⟩
  · rw [if_neg (show ¬ nI kd = (2 : Int32) from ne_l (b := 2) k2 (by omega) (by omega))]
    by_cases k4 : kd = 4
    · subst k4
      rw [if_pos (show nI 4 = (4 : Int32) from rfl)]
      refine yo_f3 (F := fX11_says_l69 N 140 (nI r) (nI n)) mk (fun k a v M' => v = nI k ∧ a = xoT T r n sz k ∧ smF [147] M M') ?_ N 0 _ _ _ (by omega) (by omega) ⟨rfl, rfl, smF.refl⟩
      intro f k a v M' hk ⟨hv, ha, hF⟩ ih
      subst hv ha
      show Yo (fX11_says_l69_s N 140 (nI r) (nI n) (fX11_says_l69 N 140 (nI r) (nI n) f) (xoT T r n sz k) (nI k) M') _
      unfold fX11_says_l69_s
      have h' := h.mv7 hF
      rw [h'.flds.2.2.1, Option.bind_some]
      rcases Nat.lt_or_ge k mk with hlt | hge
      · rw [if_neg (nI_ge hlt (by omega))]
        refine (rspot hN h' (show k < m by omega)).bi (fun x hx => ?_)
        have hp := plT_lt (T := T) (w := k) (name := nI n) h1
        rw [hx.1, li_10, nI_add, (h'.mv7 hx.2).cell (by omega), Option.bind_some, nI_1]
        exact ih _ _ _ hlt ⟨rfl, rfl, hF.trans hx.2⟩
      · rw [if_pos (nI_le hge (by omega))]
        refine (rtag hN h' hn).bi (fun x hx => ?_)
        rw [hx.1, show k = mk by omega]
        refine yo_i (fun q => ?_) (fun q => ?_)
        · rw [yo_s, bo_t (says4.mpr q)]
          exact ⟨rfl, hF.trans hx.2⟩
        · rw [yo_s, bo_f (fun z => q (says4.mp z))]
          exact ⟨rfl, hF.trans hx.2⟩
    · rw [if_neg (show ¬ nI kd = (4 : Int32) from ne_l (b := 4) k4 (by omega) (by omega))]
      refine yo_f2 (F := fX11_says_l126 N 140 (nI r) (nI n)) ly (fun k v M' => v = nI k ∧ smF [147] M M' ∧ ∀ l, l < k → ¬ allP T r mk (sz * (2 ^ l - 1)) (sz * 2 ^ l) n) ?_ N 0 _ _ (by omega) (by omega) ⟨rfl, smF.refl, fun w hw => absurd hw (Nat.not_lt_zero w)⟩
      intro f k v M' hk ⟨hv, hF, hI⟩ ih
      subst hv
      show Yo (fX11_says_l126_s N 140 (nI r) (nI n) (fX11_says_l126 N 140 (nI r) (nI n) f) (nI k) M') _
      unfold fX11_says_l126_s
      have h' := h.mv7 hF
      rw [h'.flds.2.2.2.2, Option.bind_some]
      rcases Nat.lt_or_ge k ly with hlt | hge
      · rw [if_neg (nI_ge hlt (by omega)), layA_ok h' (by omega), Option.bind_some, h'.flds.2.1, Option.bind_some, shl_sz sz (by omega) k (by omega)]
        obtain ⟨f1, f2⟩ := lay_fit h.2.2.2 k2 hlt
        refine (r_all hN h' f2 f1).bi (fun x hx => ?_)
        rw [hx.1]
        refine yo_i (fun q => ?_) (fun q => ?_)
        · rw [yo_s, bo_t ((saysO k2 k4).mpr ⟨k, hlt, bo_iff.mp q⟩)]
          exact ⟨rfl, hF.trans hx.2⟩
        · rw [nI_1]
          refine ih _ _ hlt ⟨rfl, hF.trans hx.2, fun l hl => ?_⟩
          rcases Nat.lt_or_ge l k with hl2 | hl2
          · exact hI l hl2
          · rw [show l = k by omega]; exact fun z => q (bo_t z)
      · rw [if_pos (nI_le hge (by omega)), yo_s, bo_f (fun z => (saysO k2 k4).mp z |>.elim (fun l hl => hI l (by omega) hl.2))]
        exact ⟨rfl, hF⟩
