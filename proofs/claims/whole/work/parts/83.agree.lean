/-! SEMANTICS, HOW A CALL AGREES -/
def agI (c : Option ((Nat ⊕ Int32) × Mem)) (f : Mem → Option (Int32 × Mem)) (G : Nat → Mem → Option (Int32 × Mem)) (M : Mem) : Prop :=
  (∃ (e : Nat) (d : Int32), c = some (.inl e, M) ∧ G e M = some (d, M) ∧ d ≠ 0 ∧ Yo (f M) (fun x => rI x.2 140 5 = d ∧ Rel x.2)) ∨
  (∃ (v : Int32) (M1 : Mem), c = some (.inr v, M1) ∧ Yo (f (wJ M1 165 0 v.toInt64)) (fun x => x.1 = v ∧ rI x.2 140 5 = 0 ∧ rJ x.2 165 0 = v.toInt64 ∧ Rel x.2))
theorem ca_I {c : Option ((Nat ⊕ Int32) × Mem)} {f : Mem → Option (Int32 × Mem)} {G : Nat → Mem → Option (Int32 × Mem)} {M : Mem} (h : agI c f G M) : ∃ M1, Rel M1 ∧ ∀ k : Mem → Option Mem,
    ((hb c (fun qj1 Mj1 => if inB (0 : Int32) 1 = true then some ((0 : Int32), wJ Mj1 165 ((0 : Int32).toNatClampNeg) qj1.toInt64) else none) G).bind fun qj1 => (f qj1.2).bind fun qj2 => (fX11_thrown 140 qj2.2).bind fun qj3 => if qj3 = qj1.1 then if qj1.1 = 0 then if inB (0 : Int32) 1 = true then if (rJ qj2.2 165 (0 : Int32).toNatClampNeg) = qj2.1.toInt64 then k qj2.2 else none else none else k qj2.2 else none) = k M1 := by
  rcases h with ⟨e, d, h1, h2, h3, ⟨v, M2⟩, h4, h5, h6⟩ | ⟨v, M1, h1, ⟨w, M2⟩, h4, h5, h6, h7, h8⟩
  · refine ⟨M2, h6, fun k => ?_⟩
    rw [h1, hb_l, h2, Option.bind_some, h4, Option.bind_some]
    unfold fX11_thrown
    rw [Option.bind_some, if_pos h5, if_neg h3]
  · refine ⟨M2, h8, fun k => ?_⟩
    subst h5
    rw [h1, hb_r, if_pos (by decide), Option.bind_some]
    show ((f (wJ M1 165 0 w.toInt64)).bind _) = _
    rw [h4, Option.bind_some]
    unfold fX11_thrown
    rw [Option.bind_some, if_pos h6, if_pos rfl, if_pos (by decide)]
    exact if_pos h7
def agJ (c : Option ((Nat ⊕ Int64) × Mem)) (f : Mem → Option (Int64 × Mem)) (G : Nat → Mem → Option (Int32 × Mem)) (M : Mem) : Prop :=
  (∃ (e : Nat) (d : Int32), c = some (.inl e, M) ∧ G e M = some (d, M) ∧ d ≠ 0 ∧ Yo (f M) (fun x => rI x.2 140 5 = d ∧ Rel x.2)) ∨
  (∃ (v : Int64) (M1 : Mem), c = some (.inr v, M1) ∧ Yo (f (wJ M1 165 0 v)) (fun x => x.1 = v ∧ rI x.2 140 5 = 0 ∧ rJ x.2 165 0 = v ∧ Rel x.2))
theorem ca_J {c : Option ((Nat ⊕ Int64) × Mem)} {f : Mem → Option (Int64 × Mem)} {G : Nat → Mem → Option (Int32 × Mem)} {M : Mem} (h : agJ c f G M) : ∃ M1, Rel M1 ∧ ∀ k : Mem → Option Mem,
    ((hb c (fun qj1 Mj1 => if inB (0 : Int32) 1 = true then some ((0 : Int32), wJ Mj1 165 ((0 : Int32).toNatClampNeg) qj1) else none) G).bind fun qj1 => (f qj1.2).bind fun qj2 => (fX11_thrown 140 qj2.2).bind fun qj3 => if qj3 = qj1.1 then if qj1.1 = 0 then if inB (0 : Int32) 1 = true then if (rJ qj2.2 165 (0 : Int32).toNatClampNeg) = qj2.1 then k qj2.2 else none else none else k qj2.2 else none) = k M1 := by
  rcases h with ⟨e, d, h1, h2, h3, ⟨v, M2⟩, h4, h5, h6⟩ | ⟨v, M1, h1, ⟨w, M2⟩, h4, h5, h6, h7, h8⟩
  · refine ⟨M2, h6, fun k => ?_⟩
    rw [h1, hb_l, h2, Option.bind_some, h4, Option.bind_some]
    unfold fX11_thrown
    rw [Option.bind_some, if_pos h5, if_neg h3]
  · refine ⟨M2, h8, fun k => ?_⟩
    subst h5
    rw [h1, hb_r, if_pos (by decide), Option.bind_some]
    show ((f (wJ M1 165 0 w)).bind _) = _
    rw [h4, Option.bind_some]
    unfold fX11_thrown
    rw [Option.bind_some, if_pos h6, if_pos rfl, if_pos (by decide)]
    exact if_pos h7
def agB (c : Option ((Nat ⊕ Bool) × Mem)) (f : Mem → Option (Bool × Mem)) (G : Nat → Mem → Option (Int32 × Mem)) (M : Mem) : Prop :=
  (∃ (e : Nat) (d : Int32), c = some (.inl e, M) ∧ G e M = some (d, M) ∧ d ≠ 0 ∧ Yo (f M) (fun x => rI x.2 140 5 = d ∧ Rel x.2)) ∨
  (∃ (v : Bool) (M1 : Mem), c = some (.inr v, M1) ∧ Yo (f (wJ M1 165 0 (if v = true then 1 else 0))) (fun x => x.1 = v ∧ rI x.2 140 5 = 0 ∧ rJ x.2 165 0 = (if v = true then 1 else 0) ∧ Rel x.2))
/-- how the law keeps a bool -/
def putB (Mj : Mem) (q : Bool) : Option (Int32 × Mem) := if q = true then (if inB (bI false) 1 = true then some ((0 : Int32), wJ Mj 165 ((bI false).toNatClampNeg) 1) else none) else (if inB (bI false) 1 = true then some ((0 : Int32), wJ Mj 165 ((bI false).toNatClampNeg) 0) else none)
theorem ca_B {c : Option ((Nat ⊕ Bool) × Mem)} {f : Mem → Option (Bool × Mem)} {G : Nat → Mem → Option (Int32 × Mem)} {M : Mem} (h : agB c f G M) : ∃ M1, Rel M1 ∧ ∀ k : Mem → Option Mem,
    ((hb c (fun qj1 Mj1 => putB Mj1 qj1) G).bind fun qj1 => (f qj1.2).bind fun qj2 => (fX11_thrown 140 qj2.2).bind fun qj3 => if qj3 = qj1.1 then if qj1.1 = 0 then if inB (0 : Int32) 1 = true then if qj2.1 = true then if (rJ qj2.2 165 (0 : Int32).toNatClampNeg) = (1 : Int64) then k qj2.2 else none else if (rJ qj2.2 165 (0 : Int32).toNatClampNeg) = (0 : Int64) then k qj2.2 else none else none else k qj2.2 else none) = k M1 := by
  rcases h with ⟨e, d, h1, h2, h3, ⟨v, M2⟩, h4, h5, h6⟩ | ⟨v, M1, h1, ⟨w, M2⟩, h4, h5, h6, h7, h8⟩
  · refine ⟨M2, h6, fun k => ?_⟩
    rw [h1, hb_l, h2, Option.bind_some, h4, Option.bind_some]
    unfold fX11_thrown
    rw [Option.bind_some, if_pos h5, if_neg h3]
  · refine ⟨M2, h8, fun k => ?_⟩
    subst h5
    have e1 : putB M1 w = some ((0 : Int32), wJ M1 165 0 (if w = true then 1 else 0)) := by cases w <;> rfl
    rw [h1, hb_r, e1, Option.bind_some, h4, Option.bind_some]
    unfold fX11_thrown
    rw [Option.bind_some, if_pos h6, if_pos rfl, if_pos (by decide)]
    cases w
    · exact (if_neg (fun q : false = true => by cases q)).trans (if_pos h7)
    · exact (if_pos rfl).trans (if_pos h7)
def agV (c : Option ((Nat ⊕ Unit) × Mem)) (f : Mem → Option Mem) (G : Nat → Mem → Option (Int32 × Mem)) (M : Mem) : Prop :=
  (∃ (e : Nat) (d : Int32), c = some (.inl e, M) ∧ G e M = some (d, M) ∧ Yo (f M) (fun x => rI x 140 5 = d ∧ Rel x)) ∨
  (∃ M1 : Mem, c = some (.inr (), M1) ∧ Yo (f M1) (fun x => rI x 140 5 = 0 ∧ Rel x))
theorem ca_V {c : Option ((Nat ⊕ Unit) × Mem)} {f : Mem → Option Mem} {G : Nat → Mem → Option (Int32 × Mem)} {M : Mem} (h : agV c f G M) : ∃ M1, Rel M1 ∧ ∀ k : Mem → Option Mem,
    ((hb c (fun _ Mj1 => some ((0 : Int32), Mj1)) G).bind fun qj1 => (f qj1.2).bind fun qj2 => (fX11_thrown 140 qj2).bind fun qj3 => if qj3 = qj1.1 then k qj2 else none) = k M1 := by
  rcases h with ⟨e, d, h1, h2, M2, h4, h5, h6⟩ | ⟨M1, h1, M2, h4, h5, h6⟩
  · refine ⟨M2, h6, fun k => ?_⟩
    rw [h1, hb_l, h2, Option.bind_some, h4, Option.bind_some]
    unfold fX11_thrown
    rw [Option.bind_some, if_pos h5]
  · refine ⟨M2, h6, fun k => ?_⟩
    rw [h1, hb_r, Option.bind_some, h4, Option.bind_some]
    unfold fX11_thrown
    rw [Option.bind_some, if_pos h5]
def scrR : List Nat := [142, 144, 147, 148, 149, 150, 151, 152, 153, 154, 155, 156, 157, 158, 159, 160, 161]
def scrC : List Nat := [8, 112, 113, 114, 115, 116, 117, 118, 120, 121, 122, 123, 124, 125, 126, 127, 128, 129, 130, 131, 132, 133, 134, 135, 136, 137, 138, 139]
theorem fin_q {M' M2 : Mem} {c : Int32} (hR : Rel M') (hF : smF scrR (wI M' 140 5 c) M2) : rI M2 140 5 = c ∧ rJ M2 165 0 = rJ M' 165 0 ∧ Rel M2 := by
  refine ⟨?_, ?_, ?_⟩
  · rw [hF.I_ (by decide), rI_wI, if_pos ⟨rfl, rfl⟩]
  · rw [hF.J_ (by decide), rJ_wI]
  · exact (hR.calm c).scr (hF.mono (by decide))
/-- the class's end of a call that only asks -/
theorem mid_q {M M1 : Mem} (hR : Rel M) (hF : smF scrC M M1) (v : Int64) : Rel (wJ M1 165 0 v) ∧ (wJ M1 165 0 v) 141 = M 141 ∧ rJ (wJ M1 165 0 v) 165 0 = v := by
  have hF' : smF scr M (wJ M1 165 0 v) := (hF.mono (by decide)).pJ_ (by decide) 0 v
  exact ⟨hR.scr hF', hF' 141 (by decide), by rw [rJ_wJ, if_pos ⟨rfl, rfl⟩]⟩
/-- a call that only asks: the class answers v, so does the reference -/
theorem askI {c : Option ((Nat ⊕ Int32) × Mem)} {f : Mem → Option (Int32 × Mem)} {G : Nat → Mem → Option (Int32 × Mem)} {M : Mem} (hR : Rel M) (v : Int32) (hc : Yo c (fun x => x.1 = .inr v ∧ smF scrC M x.2)) (hf : ∀ M', smF scr M M' → Yo (f M') (fun x => x.1 = v ∧ smF scrR (wI M' 140 5 0) x.2)) : agI c f G M := by
  obtain ⟨⟨w, M1⟩, h1, h2, h3⟩ := hc
  have h2 : w = .inr v := h2
  subst h2
  obtain ⟨q1, q2, q3⟩ := mid_q hR h3 v.toInt64
  have hF' : smF scr M (wJ M1 165 0 v.toInt64) := (h3.mono (by decide)).pJ_ (by decide) 0 _
  refine Or.inr ⟨v, M1, h1, (hf _ hF').to (fun x hx => ?_)⟩
  obtain ⟨r1, r2, r3⟩ := fin_q q1 hx.2
  exact ⟨hx.1, r1, by rw [r2, q3], r3⟩
theorem askB {c : Option ((Nat ⊕ Bool) × Mem)} {f : Mem → Option (Bool × Mem)} {G : Nat → Mem → Option (Int32 × Mem)} {M : Mem} (hR : Rel M) (v : Bool) (hc : Yo c (fun x => x.1 = .inr v ∧ smF scrC M x.2)) (hf : ∀ M', smF scr M M' → Yo (f M') (fun x => x.1 = v ∧ smF scrR (wI M' 140 5 0) x.2)) : agB c f G M := by
  obtain ⟨⟨w, M1⟩, h1, h2, h3⟩ := hc
  have h2 : w = .inr v := h2
  subst h2
  obtain ⟨q1, q2, q3⟩ := mid_q hR h3 (if v = true then 1 else 0)
  have hF' : smF scr M (wJ M1 165 0 (if v = true then 1 else 0)) := (h3.mono (by decide)).pJ_ (by decide) 0 _
  refine Or.inr ⟨v, M1, h1, (hf _ hF').to (fun x hx => ?_)⟩
  obtain ⟨r1, r2, r3⟩ := fin_q q1 hx.2
  exact ⟨hx.1, r1, by rw [r2, q3], r3⟩
/-- a call that both refuse -/
theorem refI {c : Option ((Nat ⊕ Int32) × Mem)} {f : Mem → Option (Int32 × Mem)} {G : Nat → Mem → Option (Int32 × Mem)} {M : Mem} (hR : Rel M) {e : Nat} (d : Int32) (hc : c = some (.inl e, M)) (hG : G e M = some (d, M)) (hd : d ≠ 0) (hf : Yo (f M) (fun x => smF scrR (wI M 140 5 d) x.2)) : agI c f G M :=
  Or.inl ⟨e, d, hc, hG, hd, hf.to (fun _ hx => ⟨(fin_q hR hx).1, (fin_q hR hx).2.2⟩)⟩
theorem refB {c : Option ((Nat ⊕ Bool) × Mem)} {f : Mem → Option (Bool × Mem)} {G : Nat → Mem → Option (Int32 × Mem)} {M : Mem} (hR : Rel M) {e : Nat} (d : Int32) (hc : c = some (.inl e, M)) (hG : G e M = some (d, M)) (hd : d ≠ 0) (hf : Yo (f M) (fun x => smF scrR (wI M 140 5 d) x.2)) : agB c f G M :=
  Or.inl ⟨e, d, hc, hG, hd, hf.to (fun _ hx => ⟨(fin_q hR hx).1, (fin_q hR hx).2.2⟩)⟩
theorem refJ {c : Option ((Nat ⊕ Int64) × Mem)} {f : Mem → Option (Int64 × Mem)} {G : Nat → Mem → Option (Int32 × Mem)} {M : Mem} (hR : Rel M) {e : Nat} (d : Int32) (hc : c = some (.inl e, M)) (hG : G e M = some (d, M)) (hd : d ≠ 0) (hf : Yo (f M) (fun x => smF scrR (wI M 140 5 d) x.2)) : agJ c f G M :=
  Or.inl ⟨e, d, hc, hG, hd, hf.to (fun _ hx => ⟨(fin_q hR hx).1, (fin_q hR hx).2.2⟩)⟩
theorem refV {c : Option ((Nat ⊕ Unit) × Mem)} {f : Mem → Option Mem} {G : Nat → Mem → Option (Int32 × Mem)} {M : Mem} (hR : Rel M) {e : Nat} (d : Int32) (hc : c = some (.inl e, M)) (hG : G e M = some (d, M)) (hf : Yo (f M) (fun x => smF scrR (wI M 140 5 d) x)) : agV c f G M :=
  Or.inl ⟨e, d, hc, hG, hf.to (fun _ hx => ⟨(fin_q hR hx).1, (fin_q hR hx).2.2⟩)⟩
/-- the rows' part, once and for all -/
theorem sX {M : Mem} {W g m r : Nat} (h : cSh M 1 (M 141).1 W g m) (hr : r < 4) (hh : here M (10 + 4 * r) (M 141).1 r W m) : ∃ kd sz mk ex ly, cX M (M 141).1 r W g m kd sz mk ex ly ∧ ∀ M' : Mem, M' 141 = M 141 → rX M' (M 141).1 r W g m kd sz mk ex ly := by
  obtain ⟨_, ⟨kd, sz, mk, ex, ly, hro⟩, hc⟩ := hh
  exact ⟨kd, sz, mk, ex, ly, ⟨hr, h.1, hc, hro⟩, fun M' e => ⟨hr, by rw [e], h.1.1, hro⟩⟩
theorem fails_ok (k : Int32) (M : Mem) : fX11_fails 140 k M = some (0, wI M 140 5 k) := rfl
theorem wI_wI (M : Mem) (a k : Nat) (v w : Int32) : wI (wI M a k v) a k w = wI M a k w := by
  funext b
  unfold wI wIs
  by_cases h : b = a
  · subst h
    rw [va_up_self, va_up_self, va_up_self]
    congr 1
    funext j
    unfold upd
    by_cases hj : j = k <;> simp [hj]
  · rw [va_up_ne _ _ h, va_up_ne _ _ h, va_up_ne _ _ h]
theorem w5_141 (M : Mem) (k : Int32) : (wI M 140 5 k) 141 = M 141 := by
  unfold wI wIs
  exact va_up_ne _ _ (by decide)
theorem w5_5 (M : Mem) (k : Int32) : rI (wI M 140 5 k) 140 5 = k := by rw [rI_wI, if_pos ⟨rfl, rfl⟩]
