/-! BLAME: one name more, in a table of the fewest -/
theorem nI_or : ∀ a, a < 64 → ∀ b, b < 64 → nI a ||| nI b = nI (a ||| b) := by decide +kernel
theorem nI_63 : ∀ a, a < 64 → nI a &&& ((64 : Int32) - (1 : Int32)) = nI a := by decide +kernel
/-- f' is f with p added to all of D -/
def pst (f f' : Nat → Nat) (p n : Nat) (D : Nat → Prop) : Prop := ∀ t, t < n → f' t ≤ f t ∧ (∀ s, s < n → D s → s ||| p = t → f' t ≤ f s + 1) ∧ (f' t = f t ∨ ∃ s, s < n ∧ D s ∧ s ||| p = t ∧ f' t = f s + 1)
theorem pst_0 {f : Nat → Nat} {p n : Nat} {D : Nat → Prop} (h : ∀ s, s < n → ¬ D s) : pst f f p n D := fun t _ => ⟨Nat.le_refl _, fun s hs hd => absurd hd (h s hs), Or.inl rfl⟩
theorem or_or (s p : Nat) : s ||| p ||| p = s ||| p := by
  refine Nat.eq_of_testBit_eq (fun i => ?_)
  rw [Nat.testBit_or, Nat.testBit_or]
  cases s.testBit i <;> cases p.testBit i <;> rfl
theorem pst_s {f f' : Nat → Nat} {p n s0 : Nat} {D D' : Nat → Prop} (h : pst f f' p n D) (hs0 : s0 < n) (hD : ∀ s, D' s ↔ D s ∨ s = s0) : pst f (fun t => if t = s0 ||| p then min (f' (s0 ||| p)) (f' s0 + 1) else f' t) p n D' := by
  intro t ht
  obtain ⟨h1, h2, h3⟩ := h t ht
  have key : ∀ u, (t = s0 ||| p → u = min (f' (s0 ||| p)) (f' s0 + 1)) → (t ≠ s0 ||| p → u = f' t) → u ≤ f t ∧ (∀ s, s < n → D' s → s ||| p = t → u ≤ f s + 1) ∧ (u = f t ∨ ∃ s, s < n ∧ D' s ∧ s ||| p = t ∧ u = f s + 1) := by
    intro u hu1 hu2
    by_cases q : t = s0 ||| p
    · rw [hu1 q]
      rw [← q]
      obtain ⟨g1, g2, g3⟩ := h s0 hs0
      by_cases e : s0 ||| p = s0
      · have et : t = s0 := q.trans e
        have em : min (f' t) (f' s0 + 1) = f' s0 := by rw [et]; omega
        rw [em]
        refine ⟨by rw [et]; exact g1, fun s hs hd he => ?_, ?_⟩
        · rcases (hD s).mp hd with z | z
          · exact g2 s hs z (by rw [he, et])
          · subst z; omega
        · rcases g3 with z | ⟨s, z1, z2, z3, z4⟩
          · left; rw [et]; exact z
          · exact Or.inr ⟨s, z1, (hD s).mpr (Or.inl z2), by rw [z3, et], z4⟩
      · have es : f' s0 = f s0 := by
          rcases g3 with z | ⟨s, z1, z2, z3, z4⟩
          · exact z
          · exact absurd (by rw [← z3, or_or]) e
        rw [es]
        refine ⟨by omega, fun s hs hd he => ?_, ?_⟩
        · rcases (hD s).mp hd with z | z
          · have := h2 s hs z he; omega
          · subst z; omega
        · rcases Nat.lt_or_ge (f' t) (f s0 + 1) with c | c
          · rw [Nat.min_eq_left (by omega)]
            rcases h3 with z | ⟨s, z1, z2, z3, z4⟩
            · exact Or.inl z
            · exact Or.inr ⟨s, z1, (hD s).mpr (Or.inl z2), z3, z4⟩
          · rw [Nat.min_eq_right c]
            exact Or.inr ⟨s0, hs0, (hD s0).mpr (Or.inr rfl), q.symm, rfl⟩
    · rw [hu2 q]
      refine ⟨h1, fun s hs hd he => ?_, ?_⟩
      · rcases (hD s).mp hd with z | z
        · exact h2 s hs z he
        · subst z; exact absurd he.symm q
      · rcases h3 with z | ⟨s, z1, z2, z3, z4⟩
        · exact Or.inl z
        · exact Or.inr ⟨s, z1, (hD s).mpr (Or.inl z2), z3, z4⟩
  exact key _ (fun q => if_pos q) (fun q => if_neg q)
/-- the set of marks that stands for a set of places -/
def phN (ix : Nat → Nat) (c : Nat) : Nat → Nat
  | 0 => 0
  | w + 1 => phN ix c w ||| (if c.testBit (ix w) = true then 2 ^ w else 0)
theorem phN_bit {ix : Nat → Nat} {c : Nat} : ∀ m1 w, (phN ix c m1).testBit w = (decide (w < m1) && c.testBit (ix w))
  | 0, w => by simp [phN]
  | m1 + 1, w => by
    unfold phN
    rw [Nat.testBit_or, phN_bit m1 w]
    have e : (if c.testBit (ix m1) = true then 2 ^ m1 else 0).testBit w = (decide (m1 = w) && c.testBit (ix m1)) := by
      cases h : c.testBit (ix m1)
      · simp
      · rw [if_pos rfl, Nat.testBit_two_pow]; simp
    rw [e]
    by_cases q : m1 = w
    · subst q
      rw [decide_eq_true rfl, decide_eq_true (show m1 < m1 + 1 by omega), decide_eq_false (show ¬ m1 < m1 by omega)]
      simp
    · rw [decide_eq_false q]
      rcases Nat.lt_or_ge w m1 with c1 | c1
      · rw [decide_eq_true c1, decide_eq_true (show w < m1 + 1 by omega)]; simp
      · rw [decide_eq_false (show ¬ w < m1 by omega), decide_eq_false (show ¬ w < m1 + 1 by omega)]; simp
theorem phN_lt {ix : Nat → Nat} {c : Nat} (mk : Nat) : phN ix c mk < 2 ^ mk := by
  refine Nat.lt_pow_two_of_testBit _ (fun i hi => ?_)
  rw [phN_bit, decide_eq_false (by omega)]
  rfl
theorem phN_or {ix : Nat → Nat} {a b mk : Nat} : phN ix (a ||| b) mk = phN ix a mk ||| phN ix b mk := by
  refine Nat.eq_of_testBit_eq (fun i => ?_)
  rw [Nat.testBit_or, phN_bit, phN_bit, phN_bit, Nat.testBit_or]
  cases decide (i < mk) <;> simp
theorem phN_inj {ix : Nat → Nat} {d mk a b : Nat} (hs : ∀ i, i < d → ∃ w, w < mk ∧ ix w = i) (ha : a < 2 ^ d) (hb : b < 2 ^ d) (h : phN ix a mk = phN ix b mk) : a = b := by
  refine Nat.eq_of_testBit_eq (fun i => ?_)
  rcases Nat.lt_or_ge i d with c | c
  · obtain ⟨w, w1, w2⟩ := hs i c
    have e : (phN ix a mk).testBit w = (phN ix b mk).testBit w := by rw [h]
    rw [phN_bit, phN_bit, decide_eq_true w1, w2] at e
    simpa using e
  · have h1 : 2 ^ d ≤ 2 ^ i := Nat.pow_le_pow_right (by omega) c
    rw [Nat.testBit_lt_two_pow (by omega), Nat.testBit_lt_two_pow (by omega)]
theorem phN_all {ix : Nat → Nat} {d mk : Nat} (hi : ∀ w, w < mk → ix w < d) : phN ix (2 ^ d - 1) mk = 2 ^ mk - 1 := by
  refine Nat.eq_of_testBit_eq (fun i => ?_)
  rw [phN_bit, Nat.testBit_two_pow_sub_one, Nat.testBit_two_pow_sub_one]
  rcases Nat.lt_or_ge i mk with c | c
  · rw [decide_eq_true c, decide_eq_true (hi i c)]; rfl
  · rw [decide_eq_false (show ¬ i < mk by omega)]; rfl
theorem phN_0 {ix : Nat → Nat} (mk : Nat) : phN ix 0 mk = 0 := by
  refine Nat.eq_of_testBit_eq (fun i => ?_)
  rw [phN_bit]
  simp
/-- the class's table tells the reference's -/
def fwR (ix : Nat → Nat) (d mk k : Nat) (C R : Nat → Nat) : Prop := (∀ c, c < 2 ^ d → R (phN ix c mk) = min (C c) 1000 ∧ (C c ≤ k ∨ C c = 1000000)) ∧ (∀ S, S < 2 ^ mk → R S ≤ 1000) ∧ ∀ S, S < 2 ^ mk → (∀ c, c < 2 ^ d → phN ix c mk ≠ S) → R S = 1000
theorem fwR_step {ix : Nat → Nat} {d mk k p : Nat} {C C' R R' : Nat → Nat} (hs : ∀ i, i < d → ∃ w, w < mk ∧ ix w = i) (h : fwR ix d mk k C R) (hp : p < 2 ^ d) (hC : pst C C' p (2 ^ d) (fun _ => True)) (hR : pst R R' (phN ix p mk) (2 ^ mk) (fun _ => True)) : fwR ix d mk (k + 1) C' R' := by
  obtain ⟨h1, h2, h3⟩ := h
  refine ⟨fun c hc => ?_, fun S hS => Nat.le_trans (hR S hS).1 (h2 S hS), fun S hS hno => ?_⟩
  · have hph := phN_lt (ix := ix) (c := c) mk
    obtain ⟨c1, c2, c3⟩ := hC c hc
    obtain ⟨r1, r2, r3⟩ := hR _ hph
    obtain ⟨e1, e2⟩ := h1 c hc
    refine ⟨?_, ?_⟩
    · have le1 : R' (phN ix c mk) ≤ min (C' c) 1000 := by
        rcases c3 with z | ⟨s, z1, _, z3, z4⟩
        · rw [z, ← e1]; exact r1
        · have := r2 (phN ix s mk) (phN_lt mk) trivial (by rw [← phN_or, z3])
          rw [(h1 s z1).1] at this
          have := h2 _ hph
          omega
      have le2 : min (C' c) 1000 ≤ R' (phN ix c mk) := by
        rcases r3 with z | ⟨S, z1, _, z3, z4⟩
        · rw [z, e1]; omega
        · by_cases q : ∃ s, s < 2 ^ d ∧ phN ix s mk = S
          · obtain ⟨s, s1, s2⟩ := q
            have e : s ||| p = c := phN_inj hs (Nat.or_lt_two_pow s1 hp) hc (by rw [phN_or, s2, z3])
            have := c2 s s1 trivial e
            rw [z4, ← s2, (h1 s s1).1]
            omega
          · have := h3 S z1 (fun s s1 s2 => q ⟨s, s1, s2⟩)
            have := h2 _ hph
            omega
      omega
    · rcases c3 with z | ⟨s, z1, _, z3, z4⟩
      · rw [z]; omega
      · have := (h1 s z1).2
        omega
  · obtain ⟨r1, r2, r3⟩ := hR S hS
    rcases r3 with z | ⟨S', z1, _, z3, z4⟩
    · rw [z]; exact h3 S hS hno
    · by_cases q : ∃ s, s < 2 ^ d ∧ phN ix s mk = S'
      · obtain ⟨s, s1, s2⟩ := q
        exact absurd (by rw [phN_or, s2, z3]) (hno (s ||| p) (Nat.or_lt_two_pow s1 hp))
      · have := h3 S' z1 (fun s s1 s2 => q ⟨s, s1, s2⟩)
        have := h2 S hS
        omega
theorem fwR_more {ix : Nat → Nat} {d mk k : Nat} {C R : Nat → Nat} (h : fwR ix d mk k C R) : fwR ix d mk (k + 1) C R := ⟨fun c hc => ⟨(h.1 c hc).1, by have := (h.1 c hc).2; omega⟩, h.2⟩
/-- a table in memory -/
def tbl (M : Mem) (a n : Nat) (f : Nat → Nat) : Prop := ∀ t, t < n → rI M a t = nI (f t) ∧ f t ≤ 1000000
theorem min_nI {a b : Nat} (ha : a ≤ 1000000) (hb : b ≤ 1000001) : minI (nI a) (nI b) = nI (min a b) := by
  unfold minI
  rcases Nat.lt_or_ge b a with c | c
  · rw [Nat.min_eq_right (by omega), if_pos (nI_lt c (by omega))]
  · rw [Nat.min_eq_left c, if_neg (nI_nlt c (by omega))]
theorem tbl_s {M : Mem} {a n s p : Nat} {f' : Nat → Nat} (h : tbl M a n f') (hs : s < n) (hp : s ||| p < n) : tbl (wI M a (s ||| p) (minI (rI M a (s ||| p)) (rI M a s + 1))) a n (fun t => if t = s ||| p then min (f' (s ||| p)) (f' s + 1) else f' t) := by
  intro t ht
  obtain ⟨g1, g2⟩ := h (s ||| p) hp
  obtain ⟨g3, g4⟩ := h s hs
  rw [rI_wI]
  by_cases q : t = s ||| p
  · rw [if_pos ⟨rfl, q⟩, g1, g3, nI_1, min_nI g2 (by omega)]
    simp only [if_pos q]
    exact ⟨trivial, by omega⟩
  · rw [if_neg (fun z => q z.2)]
    simp only [if_neg q]
    exact h t ht
theorem pow_64 {d : Nat} (h : d ≤ 6) : 1 ≤ 2 ^ d ∧ 2 ^ d ≤ 64 := by
  have h1 := Nat.pow_le_pow_right (show 0 < 2 by omega) h
  exact ⟨Nat.two_pow_pos d, h1⟩
/-- the class adds a part -/
theorem c_addPart {N d p : Nat} {M : Mem} {f : Nat → Nat} (hN : 700 ≤ N) (hd : d ≤ 6) (hp : p < 2 ^ d) (h : tbl M 134 (2 ^ d) f) : Yo (fX0_addPart N 130 (nI p) (nI (2 ^ d - 1)) M) (fun x => smF [134] M x ∧ ∃ f', tbl x 134 (2 ^ d) f' ∧ pst f f' p (2 ^ d) (fun _ => True)) := by
  obtain ⟨p1, p2⟩ := pow_64 hd
  unfold fX0_addPart
  refine yo_f2 (F := fX0_addPart_l2 N 130 (nI p) (nI (2 ^ d - 1))) (2 ^ d) (fun s v M' => v = nI s ∧ smF [134] M M' ∧ ∃ f', tbl M' 134 (2 ^ d) f' ∧ pst f f' p (2 ^ d) (fun z => z < s)) ?_ N 0 _ _ (by omega) (by omega) ⟨rfl, smF.refl, f, h, pst_0 (fun s _ => Nat.not_lt_zero s)⟩
  intro fu s v M' hs ⟨hv, hF, f', ht, hst⟩ ih
  subst hv
  show Yo (fX0_addPart_l2_s N 130 (nI p) (nI (2 ^ d - 1)) (fX0_addPart_l2 N 130 (nI p) (nI (2 ^ d - 1)) fu) (nI s) M') _
  unfold fX0_addPart_l2_s
  rcases Nat.lt_or_ge s (2 ^ d) with hlt | hge
  · have ho := Nat.or_lt_two_pow hlt hp
    rw [if_neg (nI_nlt (by omega) (by omega)), if_neg (show ¬ (64 : Int32) ≤ nI s from nI_ge (b := 64) (by omega) (by decide)), nI_or s (by omega) p (by omega), nI_63 _ (by omega), if_pos (inB_nI (by omega) (by decide)), if_pos (inB_nI (by omega) (by decide)), if_pos (inB_nI (by omega) (by decide)), nI_clamp (by omega), nI_clamp (by omega), nI_1]
    refine ih _ _ hlt ⟨rfl, hF.pI_ (by simp) _ _, _, tbl_s ht hlt ho, pst_s hst hlt (fun z => show z < s + 1 ↔ z < s ∨ z = s by omega)⟩
  · have es : s = 2 ^ d := by omega
    rw [if_pos (show nI (2 ^ d - 1) < nI s from nI_lt (by omega) (by omega)), yo_s]
    refine ⟨hF, f', ht, fun t htt => ?_⟩
    obtain ⟨a1, a2, a3⟩ := hst t htt
    refine ⟨a1, fun s' hs' _ he => a2 s' hs' (show s' < s by omega) he, ?_⟩
    rcases a3 with z | ⟨s', z1, z2, z3, z4⟩
    · exact Or.inl z
    · exact Or.inr ⟨s', z1, trivial, z3, z4⟩
/-- the reference adds one -/
theorem r_add {N mk p : Nat} {v1 v2 v4 : Int32} {M : Mem} {f : Nat → Nat} {k98 : Int32 → Mem → Option (Int32 × Mem)} {Q : Int32 × Mem → Prop} (hN : 700 ≤ N) (hd : mk ≤ 6) (hp : p < 2 ^ mk) (h : tbl M 161 (2 ^ mk) f)
    (hk : ∀ x f', smF [161] M x → tbl x 161 (2 ^ mk) f' → pst f f' p (2 ^ mk) (fun _ => True) → Yo (k98 (v4 + 1) x) Q) :
    Yo (fX11_blame_l199 N k98 140 v1 v2 (nI (2 ^ mk - 1)) v4 (nI p) N (nI (2 ^ mk - 1)) M) Q := by
  obtain ⟨p1, p2⟩ := pow_64 hd
  refine yo_f2 (F := fX11_blame_l199 N k98 140 v1 v2 (nI (2 ^ mk - 1)) v4 (nI p)) (2 ^ mk) (fun s v M' => v = nI (2 ^ mk - s) - 1 ∧ smF [161] M M' ∧ ∃ f', tbl M' 161 (2 ^ mk) f' ∧ pst f f' p (2 ^ mk) (fun z => 2 ^ mk - s ≤ z)) ?_ N 0 _ _ (by omega) (by omega) ⟨by rw [Nat.sub_zero]; exact (nI_sub (show 1 ≤ 2 ^ mk by omega)).symm, smF.refl, f, h, pst_0 (fun s hs => show ¬ 2 ^ mk - 0 ≤ s by omega)⟩
  intro fu s v M' hs ⟨hv, hF, f', ht, hst⟩ ih
  show Yo (fX11_blame_l199_s N k98 140 v1 v2 (nI (2 ^ mk - 1)) v4 (nI p) (fX11_blame_l199 N k98 140 v1 v2 (nI (2 ^ mk - 1)) v4 (nI p) fu) v M') _
  unfold fX11_blame_l199_s fX11_blame_b242
  rcases Nat.lt_or_ge s (2 ^ mk) with hlt | hge
  · obtain ⟨j, hj⟩ : ∃ j, 2 ^ mk - s = j + 1 := ⟨2 ^ mk - s - 1, by omega⟩
    have hjn : j < 2 ^ mk := by omega
    have ho := Nat.or_lt_two_pow hjn hp
    rw [hj, nI_pred] at hv
    subst hv
    rw [if_neg (nI_pos (by omega)), nI_or j (by omega) p (by omega), if_pos (inB_nI (by omega) (by decide)), if_pos (inB_nI (by omega) (by decide)), if_pos (inB_nI (by omega) (by decide)), nI_clamp (by omega), nI_clamp (by omega)]
    refine ih _ _ hlt ⟨?_, hF.pI_ (by simp) _ _, _, tbl_s ht hjn ho, pst_s hst hjn (fun z => show 2 ^ mk - (s + 1) ≤ z ↔ 2 ^ mk - s ≤ z ∨ z = j by omega)⟩
    rw [show 2 ^ mk - (s + 1) = j by omega]
    first | exact (Int32.sub_eq_add_neg _ _).symm | (cases j with | zero => decide | succ i => rw [pk_m1, nI_pred])
  · have es : 2 ^ mk - s = 0 := by omega
    rw [es] at hv
    subst hv
    rw [if_pos (by decide)]
    refine hk M' f' hF ht (fun t htt => ?_)
    obtain ⟨a1, a2, a3⟩ := hst t htt
    refine ⟨a1, fun s' hs' _ he => a2 s' hs' (show 2 ^ mk - s ≤ s' by omega) he, ?_⟩
    rcases a3 with z | ⟨s', z1, z2, z3, z4⟩
    · exact Or.inl z
    · exact Or.inr ⟨s', z1, trivial, z3, z4⟩
