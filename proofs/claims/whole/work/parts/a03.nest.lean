/-! SEMANTICS, NESTS: free slots, other nests, pushing along -/
def fsF (T : Nat → Int32) (r ex nest : Nat) : Nat → Nat → Int32
  | 0, _ => -1
  | k + 1, s => if rq T r (10 + (nest * ex + s)) = 0 then nI s else fsF T r ex nest k (s + 1)
def fullN (T : Nat → Int32) (r ex nest : Nat) : Prop := ∀ s, s < ex → rq T r (10 + (nest * ex + s)) ≠ 0
theorem fsF_cases (T : Nat → Int32) (r ex nest : Nat) : ∀ k s, (fsF T r ex nest k s = -1 ∧ ∀ j, s ≤ j → j < s + k → rq T r (10 + (nest * ex + j)) ≠ 0) ∨ (∃ j, s ≤ j ∧ j < s + k ∧ rq T r (10 + (nest * ex + j)) = 0 ∧ fsF T r ex nest k s = nI j)
  | 0, s => Or.inl ⟨rfl, fun j h1 h2 => by omega⟩
  | k + 1, s => by
    unfold fsF
    by_cases q : rq T r (10 + (nest * ex + s)) = 0
    · rw [if_pos q]; exact Or.inr ⟨s, by omega, by omega, q, rfl⟩
    · rw [if_neg q]
      rcases fsF_cases T r ex nest k (s + 1) with ⟨h1, h2⟩ | ⟨j, h1, h2, h3, h4⟩
      · refine Or.inl ⟨h1, fun j g1 g2 => ?_⟩
        by_cases e : j = s
        · rw [e]; exact q
        · exact h2 j (by omega) (by omega)
      · exact Or.inr ⟨j, by omega, by omega, h3, h4⟩
theorem fs_two (T : Nat → Int32) (r ex nest : Nat) : (fsF T r ex nest ex 0 = -1 ∧ fullN T r ex nest) ∨ (∃ s, s < ex ∧ rq T r (10 + (nest * ex + s)) = 0 ∧ fsF T r ex nest ex 0 = nI s) := by
  rcases fsF_cases T r ex nest ex 0 with ⟨h1, h2⟩ | ⟨j, h1, h2, h3, h4⟩
  · exact Or.inl ⟨h1, fun s hs => h2 s (by omega) (by omega)⟩
  · exact Or.inr ⟨j, by omega, h3, h4⟩
theorem guest_z {T : Nat → Int32} {r W m sz mk ex ly j : Nat} (h : roT T r W m 2 sz mk ex ly) (hj : j < 240) (hW : W ≤ 256) : (rq T r (10 + j) - 1 = -1) ↔ rq T r (10 + j) = 0 := by
  rcases guest_is h hj with ⟨e1, e2⟩ | ⟨q, hq, e1, e2⟩
  · exact ⟨fun _ => e1, fun _ => e2⟩
  · rw [e2, e1]
    exact ⟨fun z => absurd z (by rw [li_1]; exact fun z => (nI_ng (by omega) (by omega) (by omega)).mp z), fun z => absurd z (nI_ne0 (by omega) (by omega))⟩
theorem c_fs {N : Nat} {M : Mem} {T : Nat → Int32} {r W g m sz mk ex ly nest : Nat} (hN : 700 ≤ N) (h : cX M T r W g m 2 sz mk ex ly) (hn : nest < sz) : fX5_freeSlot N (10 + 4 * r) (nI nest) M = some (fsF T r ex nest ex 0) := by
  rw [← yo_eq]
  have h5 := h.2.2.2.2.1
  have hex := (h5.2.2.2.2.2.2.2.2.2.1 rfl).2
  unfold fX5_freeSlot
  refine yo_f1 (F := fX5_freeSlot_l2 N (10 + 4 * r) (nI nest) M) ex (fun k v => v = nI k ∧ fsF T r ex nest (ex - k) k = fsF T r ex nest ex 0) ?_ N 0 _ (by omega) (by omega) ⟨rfl, rfl⟩
  intro f k v hk ⟨hv, hI⟩ ih
  subst hv
  show Yo (fX5_freeSlot_l2_s N (10 + 4 * r) (nI nest) M (fX5_freeSlot_l2 N (10 + 4 * r) (nI nest) M f) (nI k)) _
  unfold fX5_freeSlot_l2_s
  rw [h.flds.2.2.2.1]
  rcases Nat.lt_or_ge k ex with hlt | hge
  · have hix := nests_ix (h5.2.2.2.1 (by omega)) hex hn hlt
    obtain ⟨c, hc⟩ : ∃ c, ex - k = c + 1 := ⟨ex - k - 1, by omega⟩
    rw [hc, fsF] at hI
    rw [if_neg (nI_ge hlt (by omega)), guest_c h hn hlt, Option.bind_some, nI_1]
    refine yo_i (fun z => ?_) (fun z => ?_)
    · rw [guest_z h.2.2.2 (by omega) h.W1.2.2] at z
      rw [if_pos z] at hI
      rw [yo_s, hI]
    · rw [guest_z h.2.2.2 (by omega) h.W1.2.2] at z
      rw [if_neg z] at hI
      exact ih _ hlt ⟨rfl, by rw [show ex - (k + 1) = c by omega]; exact hI⟩
  · rw [show ex - k = 0 by omega] at hI
    rw [if_pos (nI_le hge (by omega)), yo_s, ← hI]
    rfl
theorem r_fs {N : Nat} {M : Mem} {T : Nat → Int32} {r W g m sz mk ex ly nest : Nat} (hN : 700 ≤ N) (h : rX M T r W g m 2 sz mk ex ly) (hn : nest < sz) : fX11_freeSlot N 140 (nI r) (nI nest) M = some (fsF T r ex nest ex 0) := by
  rw [← yo_eq]
  have h5 := h.2.2.2.2.1
  have hex := (h5.2.2.2.2.2.2.2.2.2.1 rfl).2
  unfold fX11_freeSlot
  refine yo_f1 (F := fX11_freeSlot_l2 N 140 (nI r) (nI nest) M) ex (fun k v => v = nI k ∧ fsF T r ex nest (ex - k) k = fsF T r ex nest ex 0) ?_ N 0 _ (by omega) (by omega) ⟨rfl, rfl⟩
  intro f k v hk ⟨hv, hI⟩ ih
  subst hv
  show Yo (fX11_freeSlot_l2_s N 140 (nI r) (nI nest) M (fX11_freeSlot_l2 N 140 (nI r) (nI nest) M f) (nI k)) _
  unfold fX11_freeSlot_l2_s
  rw [h.flds.2.2.2.1, Option.bind_some]
  rcases Nat.lt_or_ge k ex with hlt | hge
  · have hix := nests_ix (h5.2.2.2.1 (by omega)) hex hn hlt
    obtain ⟨c, hc⟩ : ∃ c, ex - k = c + 1 := ⟨ex - k - 1, by omega⟩
    rw [hc, fsF] at hI
    rw [if_neg (nI_ge hlt (by omega)), guest_r h hn hlt, Option.bind_some, nI_1]
    refine yo_i (fun z => ?_) (fun z => ?_)
    · rw [guest_z h.2.2.2 (by omega) h.W1.2.2] at z
      rw [if_pos z] at hI
      rw [yo_s, hI]
    · rw [guest_z h.2.2.2 (by omega) h.W1.2.2] at z
      rw [if_neg z] at hI
      exact ih _ hlt ⟨rfl, by rw [show ex - (k + 1) = c by omega]; exact hI⟩
  · rw [show ex - k = 0 by omega] at hI
    rw [if_pos (nI_le hge (by omega)), yo_s, ← hI]
    rfl
theorem c_setG {M : Mem} {T : Nat → Int32} {r W g m sz mk ex ly nest slot : Nat} {w : Int32} (h : cX M T r W g m 2 sz mk ex ly) (hn : nest < sz) (hs : slot < ex) (hv : w + 1 = 0 ∨ ∃ n : Nat, n < W ∧ w + 1 = nI (n + 1)) :
    fX5_setGuest (10 + 4 * r) (nI nest) (nI slot) w M = some (wI M (13 + 4 * r) (nest * ex + slot) (w + 1)) ∧ cX (wI M (13 + 4 * r) (nest * ex + slot) (w + 1)) (setT T r (10 + (nest * ex + slot)) (w + 1)) r W g m 2 sz mk ex ly := by
  have h5 := h.2.2.2.2.1
  have hix := nests_ix (h5.2.2.2.1 (by omega)) (h5.2.2.2.2.2.2.2.2.2.1 rfl).2 hn hs
  obtain ⟨s1, s2⟩ := cX_cell h (show nest * ex + slot < 240 by omega) (v := w + 1) ⟨fun z => by omega, fun z => by omega, fun _ => hv, fun _ z => by omega⟩
  refine ⟨?_, s2⟩
  unfold fX5_setGuest
  rw [h.flds.2.2.2.1, pk_mul, nI_add, s1, Option.bind_some]
theorem i32_sub_add (x : Int32) : x - 1 + 1 = x := by
  rw [Int32.sub_eq_add_neg, Int32.add_assoc]
  show x + 0 = x
  exact Int32.add_zero x
/-- pushing along: from where each nest was come to -/
def psT (r ex n : Nat) (fr : Nat → Option (Nat × Nat)) : Nat → Nat → Nat → Nat → (Nat → Int32) → (Nat → Int32) × Nat
  | 0, _, _, c, T => (T, c)
  | f + 1, nest, slot, c, T => match fr nest with
    | none => (setT T r (10 + (nest * ex + slot)) (nI (n + 1)), c)
    | some (a, s) => psT r ex n fr f a s (c + 1) (setT T r (10 + (nest * ex + slot)) (rq T r (10 + (a * ex + s))))
theorem ps_none {r ex n : Nat} {fr : Nat → Option (Nat × Nat)} {f nest slot c : Nat} {T : Nat → Int32} (h : fr nest = none) : psT r ex n fr (f + 1) nest slot c T = (setT T r (10 + (nest * ex + slot)) (nI (n + 1)), c) := by
  show (match fr nest with | none => _ | some (a, s) => _) = _
  rw [h]
theorem ps_some {r ex n : Nat} {fr : Nat → Option (Nat × Nat)} {f nest slot c a s : Nat} {T : Nat → Int32} (h : fr nest = some (a, s)) : psT r ex n fr (f + 1) nest slot c T = psT r ex n fr f a s (c + 1) (setT T r (10 + (nest * ex + slot)) (rq T r (10 + (a * ex + s)))) := by
  show (match fr nest with | none => _ | some (a, s) => _) = _
  rw [h]
/-- where a nest was come from: it lies ahead of it -/
def frOk (fr : Nat → Option (Nat × Nat)) (come : Nat → Bool) (pos : Nat → Nat) (sz ex : Nat) : Prop := ∀ n, come n = true → n < sz ∧ pos n < 16 ∧ ∀ a s, fr n = some (a, s) → come a = true ∧ pos a < pos n ∧ s < ex
def frN : Option (Nat × Nat) → Int32
  | none => -1
  | some (a, _) => nI a
def frS : Option (Nat × Nat) → Int32
  | none => -1
  | some (_, s) => nI s
def frP : Option (Nat × Nat) → Int32
  | none => -1
  | some (a, s) => nI (4 * a + s)
theorem c_along {N : Nat} {M : Mem} {T : Nat → Int32} {r W g m sz mk ex ly n : Nat} {fr : Nat → Option (Nat × Nat)} {come : Nat → Bool} {pos : Nat → Nat} (hN : 700 ≤ N) (h : cX M T r W g m 2 sz mk ex ly) (hn : n < W) (hfr : frOk fr come pos sz ex)
    (h3 : ∀ x, come x = true → rI M 123 x = frN (fr x)) (h4 : ∀ x, come x = true → rI M 124 x = frS (fr x)) :
    ∀ (d : Nat) (nest slot c f : Nat) (U : Nat → Int32) (M' : Mem), pos nest ≤ d → d + c ≤ 16 → come nest = true → slot < ex → d + 1 ≤ f → cX M' U r W g m 2 sz mk ex ly → smF [13 + 4 * r] M M' →
    Yo (fX3_pushAlong_l16 N 121 (10 + 4 * r) (nI n) f (nI nest) (nI slot) (nI c) (nI c) M') (fun x => x.1 = nI (psT r ex n fr (d + 1) nest slot c U).2 ∧ (psT r ex n fr (d + 1) nest slot c U).2 ≤ 16 ∧ cX x.2 (psT r ex n fr (d + 1) nest slot c U).1 r W g m 2 sz mk ex ly ∧ smF [13 + 4 * r] M x.2) := by
  intro d
  induction d with
  | zero =>
    intro nest slot c f U M' hp hdc hcm hs hf hx hF
    obtain ⟨f, rfl⟩ : ∃ f', f = f' + 1 := ⟨f - 1, by omega⟩
    obtain ⟨g1, _, g3⟩ := hfr nest hcm
    have h16 := h.2.2.2.2.1.2.2.2.1 (by omega)
    have hnone : fr nest = none := by
      cases e : fr nest with
      | none => rfl
      | some q => have := (g3 q.1 q.2 (by rw [e])).2.1; omega
    have e3 : rI M' (121 + 2) nest = -1 := by rw [show 121 + 2 = 123 from rfl, hF.I_ (by simp; omega), h3 nest hcm, hnone]; rfl
    show Yo (fX3_pushAlong_l16_s N 121 (10 + 4 * r) (nI n) (fX3_pushAlong_l16 N 121 (10 + 4 * r) (nI n) f) (nI nest) (nI slot) (nI c) (nI c) M') _
    obtain ⟨s1, s2⟩ := c_setG (w := nI n) hx g1 hs (Or.inr ⟨n, hn, by rw [nI_1]⟩)
    unfold fX3_pushAlong_l16_s fX3_pushAlong_b85
    rw [ps_none hnone, nI_clamp (by omega), e3, if_pos (inB_nI (show nest < 16 by omega) (by decide)), if_pos rfl, s1, Option.bind_some]
    have fin : Yo (some (nI c, wI M' (13 + 4 * r) (nest * ex + slot) (nI n + 1))) (fun x => x.1 = nI (setT U r (10 + (nest * ex + slot)) (nI (n + 1)), c).2 ∧ (setT U r (10 + (nest * ex + slot)) (nI (n + 1)), c).2 ≤ 16 ∧ cX x.2 (setT U r (10 + (nest * ex + slot)) (nI (n + 1)), c).1 r W g m 2 sz mk ex ly ∧ smF [13 + 4 * r] M x.2) := by
      rw [yo_s]
      rw [nI_1] at s2 ⊢
      exact ⟨rfl, by omega, s2, hF.pI_ (by simp) _ _⟩
    exact yo_i (fun _ => fin) (fun _ => fin)
  | succ d ihd =>
    intro nest slot c f U M' hp hdc hcm hs hf hx hF
    obtain ⟨f, rfl⟩ : ∃ f', f = f' + 1 := ⟨f - 1, by omega⟩
    obtain ⟨g1, _, g3⟩ := hfr nest hcm
    have h16 := h.2.2.2.2.1.2.2.2.1 (by omega)
    have e3 : rI M' (121 + 2) nest = frN (fr nest) := by rw [show 121 + 2 = 123 from rfl, hF.I_ (by simp; omega), h3 nest hcm]
    have e4 : rI M' (121 + 3) nest = frS (fr nest) := by rw [show 121 + 3 = 124 from rfl, hF.I_ (by simp; omega), h4 nest hcm]
    show Yo (fX3_pushAlong_l16_s N 121 (10 + 4 * r) (nI n) (fX3_pushAlong_l16 N 121 (10 + 4 * r) (nI n) f) (nI nest) (nI slot) (nI c) (nI c) M') _
    unfold fX3_pushAlong_l16_s fX3_pushAlong_b85
    rw [if_neg (show ¬ (16 : Int32) ≤ nI c from nI_ge (b := 16) (by omega) (by decide)), nI_clamp (by omega), e3, e4, if_pos (inB_nI (show nest < 16 by omega) (by decide)), if_pos (inB_nI (show nest < 16 by omega) (by decide)), if_pos (inB_nI (show nest < 16 by omega) (by decide))]
    cases e : fr nest with
    | none =>
      obtain ⟨s1, s2⟩ := c_setG (w := nI n) hx g1 hs (Or.inr ⟨n, hn, by rw [nI_1]⟩)
      rw [ps_none e, if_pos (show frN none = -1 from rfl), s1, Option.bind_some, yo_s]
      rw [nI_1] at s2 ⊢
      exact ⟨rfl, by show c ≤ 16; omega, s2, hF.pI_ (by simp) _ _⟩
    | some q =>
      obtain ⟨a, s⟩ := q
      obtain ⟨k1, k2, k3⟩ := g3 a s e
      obtain ⟨a1, _, _⟩ := hfr a k1
      have hg := guest_c hx a1 k3
      have hv : rq U r (10 + (a * ex + s)) - 1 + 1 = 0 ∨ ∃ n : Nat, n < W ∧ rq U r (10 + (a * ex + s)) - 1 + 1 = nI (n + 1) := by
        rw [i32_sub_add]
        exact hx.2.2.2.2.2.2.1.2.2.1 rfl _ (by have := nests_ix h16 (h.2.2.2.2.1.2.2.2.2.2.2.2.2.2.1 rfl).2 a1 k3; omega)
      obtain ⟨s1, s2⟩ := c_setG (w := rq U r (10 + (a * ex + s)) - 1) hx g1 hs hv
      rw [ps_some e]
      show Yo (if nI a = -1 then _ else _) _
      rw [if_neg (by rw [li_1]; exact fun z => (nI_ng (by omega) (by omega) (by omega)).mp z)]
      show Yo ((fX5_guestAt (10 + 4 * r) (nI a) (nI s) M').bind _) _
      rw [hg, Option.bind_some, s1, Option.bind_some]
      show Yo (fX3_pushAlong_l16 N 121 (10 + 4 * r) (nI n) f (nI a) (nI s) (nI c + 1) (nI c + 1) _) _
      rw [nI_1]
      rw [i32_sub_add] at s2 ⊢
      exact ihd a s (c + 1) f _ _ (by omega) (by omega) k1 k3 (by omega) s2 (hF.pI_ (by simp) _ _)
theorem roT_push {T : Nat → Int32} {r W m sz mk ex ly p : Nat} (h : roT T r W m 2 sz mk ex ly) (hp : p ≤ 100) : roT (setT T r 5 (nI p)) r W m 2 sz mk ex ly := by
  obtain ⟨⟨q0, q1, q2, q3, q4⟩, k5, ⟨p1, p2⟩, ⟨c1, c2, c3, c4, c5⟩, _⟩ := h
  have o : ∀ k, k ≠ 5 → rq (setT T r 5 (nI p)) r k = rq T r k := fun k hk => by rw [setT_rq, if_neg hk]
  exact ⟨⟨by rw [o 0 (by omega)]; exact q0, by rw [o 1 (by omega)]; exact q1, by rw [o 2 (by omega)]; exact q2, by rw [o 3 (by omega)]; exact q3, by rw [o 4 (by omega)]; exact q4⟩, k5, ⟨fun n hn => by rw [o _ (by omega)]; exact p1 n hn, fun n g1 g2 => by rw [o _ (by omega)]; exact p2 n g1 g2⟩, ⟨fun z j hj => by rw [o _ (by omega)]; exact c1 z j hj, fun z j hj => by rw [o _ (by omega)]; exact c2 z j hj, fun z j hj => by rw [o _ (by omega)]; exact c3 z j hj, fun z j g1 g2 => by rw [o _ (by omega)]; exact c4 z j g1 g2, fun z => by omega⟩, p, hp, by rw [setT_rq, if_pos rfl]⟩
theorem r_along {N : Nat} {M : Mem} {T : Nat → Int32} {r W g m sz mk ex ly n : Nat} {fr : Nat → Option (Nat × Nat)} {come : Nat → Bool} {pos : Nat → Nat} (hN : 700 ≤ N) (h : rX M T r W g m 2 sz mk ex ly) (hn : n < W) (hfr : frOk fr come pos sz ex)
    (h3 : ∀ x, come x = true → rI M 149 x = frP (fr x)) :
    ∀ (d : Nat) (nest slot c f : Nat) (U : Nat → Int32) (M' : Mem), pos nest ≤ d → d + c ≤ 16 → come nest = true → slot < ex → d + 1 ≤ f → rX M' U r W g m 2 sz mk ex ly → smF [141] M M' →
    Yo (fX11_pushes_l14 N 140 (nI r) (nI n) f (nI c) (nI nest) (nI slot) M') (fun x => (psT r ex n fr (d + 1) nest slot c U).2 ≤ 16 ∧ rX x (setT (psT r ex n fr (d + 1) nest slot c U).1 r 5 (nI (psT r ex n fr (d + 1) nest slot c U).2)) r W g m 2 sz mk ex ly ∧ smF [141] M x) := by
  have h16 := h.2.2.2.2.1.2.2.2.1 (by omega)
  have hex := h.2.2.2.2.1.2.2.2.2.2.2.2.2.2.1 rfl
  have hW := h.W1.2.2
  intro d
  induction d with
  | zero =>
    intro nest slot c f U M' hp hdc hcm hs hf hx hF
    obtain ⟨f, rfl⟩ : ∃ f', f = f' + 1 := ⟨f - 1, by omega⟩
    obtain ⟨g1, _, g3⟩ := hfr nest hcm
    have hix := nests_ix h16 hex.2 g1 hs
    have hnone : fr nest = none := by
      cases e : fr nest with
      | none => rfl
      | some q => have := (g3 q.1 q.2 (by rw [e])).2.1; omega
    have e3 : rI M' (140 + 9) nest = -1 := by rw [show 140 + 9 = 149 from rfl, hF.I_ (by simp), h3 nest hcm, hnone]; rfl
    show Yo (fX11_pushes_l14_s N 140 (nI r) (nI n) (fX11_pushes_l14 N 140 (nI r) (nI n) f) (nI c) (nI nest) (nI slot) M') _
    have s2 := rX_set hx (roT_cell hx.2.2.2 (show nest * ex + slot < 240 by omega) (v := nI (n + 1)) ⟨fun z => by omega, fun z => by omega, fun _ => Or.inr ⟨n, hn, rfl⟩, fun _ z => by omega⟩)
    unfold fX11_pushes_l14_s
    rw [ps_none hnone, nI_clamp (by omega), e3, if_pos (inB_nI (show nest < 16 by omega) (by decide)), if_pos rfl, slotAt_ok hx, Option.bind_some, nI_1, set_ok _ _ (by have := h.1; omega), Option.bind_some, show (5 : Int32) = nI 5 from rfl, set_ok _ _ (by have := h.1; omega), Option.bind_some, yo_s]
    exact ⟨by show c ≤ 16; omega, rX_set s2 (roT_push s2.2.2.2 (by omega)), (hF.pI_ (by simp) _ _).pI_ (by simp) _ _⟩
  | succ d ihd =>
    intro nest slot c f U M' hp hdc hcm hs hf hx hF
    obtain ⟨f, rfl⟩ : ∃ f', f = f' + 1 := ⟨f - 1, by omega⟩
    obtain ⟨g1, _, g3⟩ := hfr nest hcm
    have hix := nests_ix h16 hex.2 g1 hs
    have e3 : rI M' (140 + 9) nest = frP (fr nest) := by rw [show 140 + 9 = 149 from rfl, hF.I_ (by simp), h3 nest hcm]
    show Yo (fX11_pushes_l14_s N 140 (nI r) (nI n) (fX11_pushes_l14 N 140 (nI r) (nI n) f) (nI c) (nI nest) (nI slot) M') _
    unfold fX11_pushes_l14_s
    rw [nI_clamp (by omega), e3, if_pos (inB_nI (show nest < 16 by omega) (by decide)), if_pos (inB_nI (show nest < 16 by omega) (by decide)), slotAt_ok hx, Option.bind_some, Option.bind_some]
    cases e : fr nest with
    | none =>
      have s2 := rX_set hx (roT_cell hx.2.2.2 (show nest * ex + slot < 240 by omega) (v := nI (n + 1)) ⟨fun z => by omega, fun z => by omega, fun _ => Or.inr ⟨n, hn, rfl⟩, fun _ z => by omega⟩)
      rw [ps_none e, if_pos (show frP none = -1 from rfl), nI_1, set_ok _ _ (by have := h.1; omega), Option.bind_some, show (5 : Int32) = nI 5 from rfl, set_ok _ _ (by have := h.1; omega), Option.bind_some, yo_s]
      exact ⟨by show c ≤ 16; omega, rX_set s2 (roT_push s2.2.2.2 (by omega)), (hF.pI_ (by simp) _ _).pI_ (by simp) _ _⟩
    | some q =>
      obtain ⟨a, s⟩ := q
      obtain ⟨k1, k2, k3⟩ := g3 a s e
      obtain ⟨a1, _, _⟩ := hfr a k1
      have hix2 := nests_ix h16 hex.2 a1 k3
      have hv := hx.2.2.2.2.2.2.1.2.2.1 rfl (a * ex + s) (by omega)
      have s2 := rX_set hx (roT_cell hx.2.2.2 (show nest * ex + slot < 240 by omega) (v := rq U r (10 + (a * ex + s))) ⟨fun z => by omega, fun z => by omega, fun _ => hv, fun _ z => by omega⟩)
      have hd : nI (4 * a + s) / (4 : Int32) = nI a := by rw [li_4, pk_div (by omega) (by omega) (by omega), show (4 * a + s) / 4 = a by omega]
      have hr : remI (nI (4 * a + s)) (4 : Int32) = nI s := by rw [li_4, rem_nn (by omega) (by omega) (by rw [nI_toInt (by omega)]; omega), modN_nI (by omega), show (4 * a + s) % 4 = s by omega]
      rw [ps_some e]
      show Yo (if nI (4 * a + s) = -1 then _ else (fX11_guestIn 140 (nI r) (nI (4 * a + s) / (4 : Int32)) (remI (nI (4 * a + s)) (4 : Int32)) M').bind _) _
      rw [if_neg (by rw [li_1]; exact fun z => (nI_ng (by omega) (by omega) (by omega)).mp z), hd, hr, guest_r hx a1 k3, Option.bind_some, i32_sub_add, set_ok _ _ (by have := h.1; omega), Option.bind_some]
      show Yo (fX11_pushes_l14 N 140 (nI r) (nI n) f (nI c + 1) (nI (4 * a + s) / (4 : Int32)) (remI (nI (4 * a + s)) (4 : Int32)) _) _
      rw [hd, hr, nI_1]
      exact ihd a s (c + 1) f _ _ (by omega) (by omega) k1 k3 (by omega) s2 (hF.pI_ (by simp) _ _)
