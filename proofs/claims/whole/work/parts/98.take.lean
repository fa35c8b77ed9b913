/-! SEMANTICS: take -/
def dnV (c : Int32) : Int32 := if c ≤ 0 then c else if (15 : Int32) ≤ c then c else c - 1
theorem dnV_0 {c : Int32} (h : c ≤ 0) : dnV c = c := if_pos h
theorem dnV_15 {c : Int32} (h : ¬ c ≤ 0) (h2 : (15 : Int32) ≤ c) : dnV c = c := (if_neg h).trans (if_pos h2)
theorem dnV_1 {c : Int32} (h : ¬ c ≤ 0) (h2 : ¬ (15 : Int32) ≤ c) : dnV c = c - 1 := (if_neg h).trans (if_neg h2)
theorem raT_0s (T : Nat → Int32) (r : Nat) (up : Int32 → Int32) (wd n k : Nat) : raT T r up 0 wd n (k + 1) = setT (raT T r up 0 wd n k) r (10 + plT (raT T r up 0 wd n k) k (nI n) wd) (up (rq (raT T r up 0 wd n k) r (10 + plT (raT T r up 0 wd n k) k (nI n) wd))) := by
  show setT (raT T r up 0 wd n k) r (10 + (0 + plT (raT T r up 0 wd n k) k (nI n) wd)) (up (rq (raT T r up 0 wd n k) r (10 + (0 + plT (raT T r up 0 wd n k) k (nI n) wd)))) = _
  rw [Nat.zero_add]
theorem setT_same {T : Nat → Int32} {r k : Nat} {v : Int32} (h : rq T r k = v) : setT T r k v = T := by
  funext z
  unfold setT
  by_cases q : z = 1220 + 512 * r + k
  · rw [if_pos q, ← h, q]; rfl
  · rw [if_neg q]
theorem dn_ok : ∀ c, c ≤ 15 → (nI c ≤ (0 : Int32) ↔ c = 0) ∧ ((15 : Int32) ≤ nI c ↔ c = 15) ∧ (1 ≤ c → nI c - 1 = nI (c - 1)) := by decide +kernel
theorem roT_dn {T : Nat → Int32} {r W m sz mk ex ly j : Nat} (h : roT T r W m 1 sz mk ex ly) (hj : j < 240) : okC 1 W j (dnV (rq T r (10 + j))) := by
  obtain ⟨c, hc, e⟩ := h.2.2.2.1.2.1 rfl j hj
  refine ⟨fun z => by omega, fun _ => ?_, fun z => by omega, fun z => by omega⟩
  obtain ⟨d1, d2, d3⟩ := dn_ok c hc
  unfold dnV
  rw [e]
  by_cases q1 : nI c ≤ (0 : Int32)
  · rw [if_pos q1]; exact ⟨c, hc, rfl⟩
  · rw [if_neg q1]
    by_cases q2 : (15 : Int32) ≤ nI c
    · rw [if_pos q2]; exact ⟨c, hc, rfl⟩
    · rw [if_neg q2]
      exact ⟨c - 1, by omega, d3 (by have := mt d1.mpr q1; omega)⟩
theorem c_unmark {N : Nat} {M : Mem} {T : Nat → Int32} {r W g m sz mk ex ly n : Nat} (hN : 700 ≤ N) (h : cX M T r W g m 1 sz mk ex ly) :
    Yo (fX5_unmark N (10 + 4 * r) 2 (nI n) M) (fun x => cX x (raT T r dnV 0 sz n mk) r W g m 1 sz mk ex ly ∧ smF [8, 13 + 4 * r] M x) := by
  unfold fX5_unmark
  have hm : mk ≤ m ∧ m ≤ 6 := ⟨h.2.2.2.2.1.2.2.2.2.2.1, h.2.1.1.2.2.2.2.2.2.1⟩
  have hsz := h.2.2.2.2.1.2.1
  have hsz2 := h.2.2.2.2.1.2.2.1
  refine yo_f2 (F := fX5_unmark_l2 N (10 + 4 * r) 2 (nI n)) mk (fun k v M' => v = nI k ∧ cX M' (raT T r dnV 0 sz n k) r W g m 1 sz mk ex ly ∧ smF [8, 13 + 4 * r] M M') ?_ N 0 _ _ (by omega) (by omega) ⟨rfl, h, smF.refl⟩
  intro f k v M' hk ⟨hv, h', hF⟩ ih
  subst hv
  show Yo (fX5_unmark_l2_s N (10 + 4 * r) 2 (nI n) (fX5_unmark_l2 N (10 + 4 * r) 2 (nI n) f) (nI k) M') _
  unfold fX5_unmark_l2_s fX5_unmark_b52
  rw [h'.flds.2.2.1]
  rcases Nat.lt_or_ge k mk with hlt | hge
  · rw [if_neg (nI_ge hlt (by omega)), h'.flds.2.1]
    refine (cv_place hN h'.2.1 (show k < m by omega) hsz (by omega)).bi (fun x hx => ?_)
    have hp := plT_lt (T := raT T r dnV 0 sz n k) (w := k) (name := nI n) hsz
    have hx1 := h'.mv8 hx.2
    have u1 := roT_dn hx1.2.2.2 (show plT (raT T r dnV 0 sz n k) k (nI n) sz < 240 by omega)
    obtain ⟨s1, s2⟩ := cX_cell hx1 (show plT (raT T r dnV 0 sz n k) k (nI n) sz < 240 by omega) u1
    have hF2 : smF [8, 13 + 4 * r] M x.2 := hF.trans (hx.2.mono (by simp))
    have same : dnV (rq (raT T r dnV 0 sz n k) r (10 + plT (raT T r dnV 0 sz n k) k (nI n) sz)) = rq (raT T r dnV 0 sz n k) r (10 + plT (raT T r dnV 0 sz n k) k (nI n) sz) → cX x.2 (raT T r dnV 0 sz n (k + 1)) r W g m 1 sz mk ex ly := fun e => by
      rw [raT_0s, setT_same e.symm]
      exact hx1
    rw [hx.1, hx1.cell (by omega), Option.bind_some, nI_1]
    refine yo_i (fun z => ?_) (fun z => ?_)
    · exact ih _ _ hlt ⟨rfl, same (dnV_0 z), hF2⟩
    · refine yo_i (fun y => ?_) (fun y => ?_)
      · exact ih _ _ hlt ⟨rfl, same (dnV_15 z y), hF2⟩
      · have e : rq (raT T r dnV 0 sz n k) r (10 + plT (raT T r dnV 0 sz n k) k (nI n) sz) - 1 = dnV (rq (raT T r dnV 0 sz n k) r (10 + plT (raT T r dnV 0 sz n k) k (nI n) sz)) := (dnV_1 z y).symm
        rw [e, s1, Option.bind_some]
        refine ih _ _ hlt ⟨rfl, ?_, hF2.pI_ (by simp) _ _⟩
        rw [raT_0s]
        exact s2
  · rw [if_pos (nI_le hge (by omega)), yo_s, show mk = k by omega]
    rw [show mk = k by omega] at h'
    exact ⟨h', hF⟩
theorem r_unmark {N : Nat} {M : Mem} {T : Nat → Int32} {r W g m sz mk ex ly n : Nat} (hN : 700 ≤ N) (h : rX M T r W g m 1 sz mk ex ly) :
    Yo (fX11_take_l95 N 140 (nI r) (nI n) N (0 : Int32) M) (fun x => x.1 = true ∧ rX x.2 (raT T r dnV 0 sz n mk) r W g m 1 sz mk ex ly ∧ smF [141, 147] M x.2) := by
  have hm : mk ≤ m ∧ m ≤ 6 := ⟨h.2.2.2.2.1.2.2.2.2.2.1, h.2.2.1.2.2.2.2.2.2.1⟩
  have hsz := h.2.2.2.2.1.2.1
  have hsz2 := h.2.2.2.2.1.2.2.1
  obtain ⟨_, l1, _, _, _, _, l14, _⟩ := lj_toInt
  refine yo_f2 (F := fX11_take_l95 N 140 (nI r) (nI n)) mk (fun k v M' => v = nI k ∧ rX M' (raT T r dnV 0 sz n k) r W g m 1 sz mk ex ly ∧ smF [141, 147] M M') ?_ N 0 _ _ (by omega) (by omega) ⟨rfl, h, smF.refl⟩
  intro f k v M' hk ⟨hv, h', hF⟩ ih
  subst hv
  show Yo (fX11_take_l95_s N 140 (nI r) (nI n) (fX11_take_l95 N 140 (nI r) (nI n) f) (nI k) M') _
  unfold fX11_take_l95_s fX11_take_b151
  rw [h'.flds.2.2.1, Option.bind_some]
  rcases Nat.lt_or_ge k mk with hlt | hge
  · rw [if_neg (nI_ge hlt (by omega))]
    refine (rspot hN h' (show k < m by omega)).bi (fun x hx => ?_)
    have hp := plT_lt (T := raT T r dnV 0 sz n k) (w := k) (name := nI n) hsz
    have hx1 := h'.mv7 hx.2
    have u1 := roT_dn hx1.2.2.2 (show plT (raT T r dnV 0 sz n k) k (nI n) sz < 240 by omega)
    have hF2 : smF [141, 147] M x.2 := hF.trans (hx.2.mono (by simp))
    have same : dnV (rq (raT T r dnV 0 sz n k) r (10 + plT (raT T r dnV 0 sz n k) k (nI n) sz)) = rq (raT T r dnV 0 sz n k) r (10 + plT (raT T r dnV 0 sz n k) k (nI n) sz) → rX x.2 (raT T r dnV 0 sz n (k + 1)) r W g m 1 sz mk ex ly := fun e => by
      rw [raT_0s, setT_same e.symm]
      exact hx1
    obtain ⟨c, hc, e⟩ := hx1.2.2.2.2.2.2.1.2.1 rfl (plT (raT T r dnV 0 sz n k) k (nI n) sz) (by omega)
    obtain ⟨d1, d2, d3⟩ := dn_ok c hc
    have hd : dnV (nI c) = if 1 ≤ c ∧ c ≤ 14 then nI (c - 1) else nI c := by
      unfold dnV
      by_cases q1 : c = 0
      · rw [if_pos (d1.mpr q1), if_neg (by omega)]
      · rw [if_neg (mt d1.mp q1)]
        by_cases q2 : c = 15
        · rw [if_pos (d2.mpr q2), if_neg (by omega)]
        · rw [if_neg (mt d2.mp q2), if_pos (by omega), d3 (by omega)]
    rw [hx.1, li_10, nI_add, hx1.cell (by omega), Option.bind_some, e, within_v (nI c) 1 14 1 14 l1 l14, nI_toInt (by omega), Option.bind_some, nI_1]
    by_cases q : (1 : Int) ≤ (c : Int) ∧ (c : Int) ≤ 14
    · rw [decide_eq_true q, if_pos rfl, Option.bind_some, d3 (by omega), set_ok _ _ (by have := h'.1; omega), Option.bind_some]
      refine ih _ _ hlt ⟨rfl, ?_, hF2.pI_ (by simp) _ _⟩
      have e2 : nI (c - 1) = dnV (rq (raT T r dnV 0 sz n k) r (10 + plT (raT T r dnV 0 sz n k) k (nI n) sz)) := by rw [e, hd, if_pos (by omega)]
      rw [e2, raT_0s]
      exact rX_set hx1 (roT_cell hx1.2.2.2 (by omega) u1)
    · rw [decide_eq_false q, if_neg (by decide)]
      exact ih _ _ hlt ⟨rfl, same (by rw [e, hd, if_neg (by omega)]), hF2⟩
  · rw [if_pos (nI_le hge (by omega)), yo_s, show mk = k by omega]
    rw [show mk = k by omega] at h'
    exact ⟨rfl, h', hF⟩
/-- NESTS: a guest's slots become free -/
def frT (T : Nat → Int32) (r n : Nat) : Nat → Nat → Int32
  | 0 => T
  | k + 1 => if rq (frT T r n k) r (10 + k) = nI (n + 1) then setT (frT T r n k) r (10 + k) 0 else frT T r n k
theorem frT_comm (T : Nat → Int32) {r n i : Nat} {v : Int32} (hi : 250 ≤ i) : ∀ k, k ≤ 240 → frT (setT T r i v) r n k = setT (frT T r n k) r i v
  | 0, _ => rfl
  | k + 1, hk => by
    have ih := frT_comm (r := r) (n := n) T (v := v) hi k (by omega)
    unfold frT
    rw [ih]
    generalize frT T r n k = R
    have e : rq (setT R r i v) r (10 + k) = rq R r (10 + k) := by rw [setT_rq, if_neg (by omega)]
    rw [e]
    by_cases q : rq R r (10 + k) = nI (n + 1)
    · rw [if_pos q, if_pos q]
      funext z
      unfold setT
      by_cases q1 : z = 1220 + 512 * r + (10 + k)
      · rw [if_pos q1, if_neg (by omega), if_pos q1]
      · rw [if_neg q1]
        by_cases q2 : z = 1220 + 512 * r + i
        · rw [if_pos q2, if_pos q2]
        · rw [if_neg q2, if_neg q2, if_neg q1]
    · rw [if_neg q, if_neg q]
theorem okC_0 (kd W j : Nat) : okC kd W j 0 := ⟨fun _ => Or.inl rfl, fun _ => ⟨0, by omega, rfl⟩, fun _ => Or.inl rfl, fun _ _ => rfl⟩
theorem slots_le {T : Nat → Int32} {r W m sz mk ex ly : Nat} (h : roT T r W m 2 sz mk ex ly) : sz * ex ≤ 64 := by
  have h1 := h.2.1.2.2.2.1 (Or.inl rfl)
  have h2 := (h.2.1.2.2.2.2.2.2.2.2.2.1 rfl).2
  calc sz * ex ≤ 16 * 4 := Nat.mul_le_mul h1 h2
    _ = 64 := rfl
theorem c_free {N : Nat} {M : Mem} {T : Nat → Int32} {r W g m sz mk ex ly n : Nat} (hN : 700 ≤ N) (h : cX M T r W g m 2 sz mk ex ly) :
    Yo (fX5_freeGuest N (10 + 4 * r) (nI n) M) (fun x => cX x (frT T r n (sz * ex)) r W g m 2 sz mk ex ly ∧ smF [13 + 4 * r] M x) := by
  have h64 := slots_le h.2.2.2
  unfold fX5_freeGuest
  refine yo_f2 (F := fX5_freeGuest_l2 N (10 + 4 * r) (nI n)) (sz * ex) (fun k v M' => v = nI k ∧ cX M' (frT T r n k) r W g m 2 sz mk ex ly ∧ smF [13 + 4 * r] M M') ?_ N 0 _ _ (by omega) (by omega) ⟨rfl, h, smF.refl⟩
  intro f k v M' hk ⟨hv, h', hF⟩ ih
  subst hv
  show Yo (fX5_freeGuest_l2_s N (10 + 4 * r) (nI n) (fX5_freeGuest_l2 N (10 + 4 * r) (nI n) f) (nI k) M') _
  unfold fX5_freeGuest_l2_s fX5_freeGuest_b32
  rw [h'.flds.2.1, h'.flds.2.2.2.1, pk_mul]
  have st : frT T r n (k + 1) = if rq (frT T r n k) r (10 + k) = nI (n + 1) then setT (frT T r n k) r (10 + k) 0 else frT T r n k := rfl
  rcases Nat.lt_or_ge k (sz * ex) with hlt | hge
  · rw [if_neg (nI_ge hlt (by omega)), h'.cell (by omega), Option.bind_some, nI_1, nI_1]
    refine yo_i (fun q => ?_) (fun q => ?_)
    · obtain ⟨s1, s2⟩ := cX_cell h' (show k < 240 by omega) (okC_0 2 W k)
      rw [s1, Option.bind_some]
      exact ih _ _ hlt ⟨rfl, by rw [st, if_pos q]; exact s2, hF.pI_ (by simp) _ _⟩
    · exact ih _ _ hlt ⟨rfl, by rw [st, if_neg q]; exact h', hF⟩
  · rw [if_pos (nI_le hge (by omega)), yo_s, show sz * ex = k by omega]
    exact ⟨h', hF⟩
theorem r_free {N : Nat} {M : Mem} {T : Nat → Int32} {r W g m sz mk ex ly n : Nat} (hN : 700 ≤ N) (h : rX M T r W g m 2 sz mk ex ly) :
    Yo (fX11_take_l162 N 140 (nI r) (nI n) N (10 : Int32) M) (fun x => x.1 = true ∧ rX x.2 (frT T r n (sz * ex)) r W g m 2 sz mk ex ly ∧ smF [141, 147] M x.2) := by
  have h64 := slots_le h.2.2.2
  refine yo_f2 (F := fX11_take_l162 N 140 (nI r) (nI n)) (sz * ex) (fun k v M' => v = nI (10 + k) ∧ rX M' (frT T r n k) r W g m 2 sz mk ex ly ∧ smF [141, 147] M M') ?_ N 0 _ _ (by omega) (by omega) ⟨rfl, h, smF.refl⟩
  intro f k v M' hk ⟨hv, h', hF⟩ ih
  subst hv
  show Yo (fX11_take_l162_s N 140 (nI r) (nI n) (fX11_take_l162 N 140 (nI r) (nI n) f) (nI (10 + k)) M') _
  unfold fX11_take_l162_s fX11_take_b197
  rw [h'.flds.2.1, Option.bind_some, show (0 : Int32) = nI 0 from rfl, slotAt_ok h', Option.bind_some, Nat.add_zero]
  have st : frT T r n (k + 1) = if rq (frT T r n k) r (10 + k) = nI (n + 1) then setT (frT T r n k) r (10 + k) 0 else frT T r n k := rfl
  rcases Nat.lt_or_ge k (sz * ex) with hlt | hge
  · rw [if_neg (nI_ge (by omega) (by omega)), h'.cell (by omega), Option.bind_some, nI_1 n, nI_1]
    refine yo_i (fun q => ?_) (fun q => ?_)
    · rw [set_ok _ _ (by have := h'.1; omega), Option.bind_some]
      exact ih _ _ hlt ⟨rfl, by rw [st, if_pos q]; exact rX_set h' (roT_cell h'.2.2.2 (by omega) (okC_0 2 W k)), hF.pI_ (by simp) _ _⟩
    · exact ih _ _ hlt ⟨rfl, by rw [st, if_neg q]; exact h', hF⟩
  · rw [if_pos (nI_le (by omega) (by omega)), yo_s, show sz * ex = k by omega]
    exact ⟨rfl, h', hF⟩
/-- a call that changes a row: the class's end and the reference's, put together -/
theorem both_row {M M1 M2 : Mem} {W g m r kd sz mk ex ly : Nat} {T2 : Nat → Int32} (hR : Rel M) (hS : cSh M 1 (M 141).1 W g m) (hr : r < 4) (hh : rI M (10 + 4 * r) 0 = 1)
    (hc : cX M1 T2 r W g m kd sz mk ex ly) (hF : ∀ a, a ∉ scr → (a < 10 + 4 * r ∨ 14 + 4 * r ≤ a) → M1 a = M a) (h0 : rI M1 (10 + 4 * r) 0 = rI M (10 + 4 * r) 0)
    (hx : rX M2 T2 r W g m kd sz mk ex ly) (hF2 : ∀ a, a ∉ scr → a ≠ 140 → a ≠ 141 → M2 a = M1 a) (hk : ∀ k, k ≠ 5 → rI M2 140 k = rI M1 140 k) (hT : ∀ k, (k < 1220 + 512 * r ∨ 1220 + 512 * r + 512 ≤ k) → rI M2 141 k = rI M1 141 k) : Rel M2 := by
  have e140 : M1 140 = M 140 := hF 140 (scr_no (by omega) (by omega)) (by omega)
  have e141 : M1 141 = M 141 := hF 141 (scr_no (by omega) (by omega)) (by omega)
  refine rel_row hR hS hr (fun a h1 h2 h3 h4 => ?_) (fun k h => ?_) (fun k h => ?_) (Or.inr ?_)
  · rw [hF2 a h1 h2 h3, hF a h1 h4]
  · rw [hk k h, eqs_rI e140]
  · rw [hT k h, eqs_rI e141]
  · have e : ∀ a, 10 + 4 * r ≤ a → a < 10 + 4 * r + 4 → M2 a = M1 a := fun a h1 h2 => hF2 a (scr_no (by omega) (by omega)) (by omega) (by omega)
    rw [hx.2.1]
    exact ⟨by rw [eqs_rI (e _ (by omega) (by omega)), h0]; exact hh, ⟨kd, sz, mk, ex, ly, hc.2.2.2⟩, hc.2.2.1.moved (fun a h1 h2 => e a h1 h2)⟩
theorem wJ_165 {M : Mem} {v : Int64} : ∀ a, a ≠ 165 → (wJ M 165 0 v) a = M a := fun a ha => (smF.refl (S := [165])).pJ_ (by simp) _ _ a (by simpa using ha)
theorem not165 {a : Nat} (h : a ∉ scr) : a ≠ 165 := fun z => h (by rw [z]; decide)
/-- all at once, for a call whose class comes to M1 and whose reference goes on from the memory with the answer kept -/
theorem row_end {M M1 M2 : Mem} {W g m r kd sz mk ex ly : Nat} {T2 : Nat → Int32} {ans : Int64} {c : Int32} (hR : Rel M) (hS : cSh M 1 (M 141).1 W g m) (hr : r < 4) (hh : rI M (10 + 4 * r) 0 = 1)
    (hc : cX M1 T2 r W g m kd sz mk ex ly) (hF : smF (scrC ++ [10 + 4 * r, 12 + 4 * r, 13 + 4 * r]) M M1) (h0 : rI M1 (10 + 4 * r) 0 = rI M (10 + 4 * r) 0)
    (hx : rX M2 T2 r W g m kd sz mk ex ly) (hF2 : smF (141 :: scrR) (wI (wJ M1 165 0 ans) 140 5 c) M2) (hT : ∀ k, (k < 1220 + 512 * r ∨ 1220 + 512 * r + 512 ≤ k) → rI M2 141 k = rI M1 141 k) : rI M2 140 5 = c ∧ rJ M2 165 0 = ans ∧ Rel M2 := by
  refine ⟨?_, ?_, ?_⟩
  · rw [hF2.I_ (by decide), w5_5]
  · rw [hF2.J_ (by decide), rJ_wI, rJ_wJ, if_pos ⟨rfl, rfl⟩]
  · refine both_row (M1 := wJ M1 165 0 ans) hR hS hr hh (hc.mv (fun a h1 h2 => wJ_165 a (by omega))) (fun a h1 h2 => ?_) ?_ hx (fun a h1 h2 h3 => ?_) (fun k hk => ?_) (fun k hk => ?_)
    · rw [wJ_165 a (not165 h1)]
      refine hF a (fun z => ?_)
      rw [List.mem_append] at z
      rcases z with z | z
      · exact h1 ((by decide : ∀ a ∈ scrC, a ∈ scr) a z)
      · simp only [List.mem_cons, List.not_mem_nil, or_false] at z
        omega
    · rw [eqs_rI (wJ_165 _ (by omega))]; exact h0
    · rw [hF2 a (fun z => ?_)]
      · exact smF.refl.pI_ (S := [140]) (by simp) 5 c a (by simpa using h2)
      · rcases List.mem_cons.mp z with z | z
        · exact h3 z
        · exact h1 ((by decide : ∀ a ∈ scrR, a ∈ scr) a z)
    · rw [hF2.I_ (by decide), rI_wI, if_neg (by omega)]
    · rw [hT k hk, eqs_rI (wJ_165 141 (by omega))]
