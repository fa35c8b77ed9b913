/-! SEMANTICS: PUT but in NESTS -/
theorem raT_lo (T : Nat → Int32) (r : Nat) (up : Int32 → Int32) (s wd n : Nat) : ∀ k z, (z < 1220 + 512 * r + 10 ∨ 1220 + 512 * r + 250 ≤ z) → s + wd ≤ 240 → 1 ≤ wd → raT T r up s wd n k z = T z
  | 0, _, _, _, _ => rfl
  | k + 1, z, hz, hs, hw => by
    have ih := raT_lo T r up s wd n k z hz hs hw
    have hp := plT_lt (T := raT T r up s wd n k) (w := k) (name := nI n) hw
    unfold raT setT
    rw [if_neg (by omega)]
    exact ih
/-- a low place may be written before or behind -/
theorem raT_comm (T : Nat → Int32) {r s wd n i W g m : Nat} {up : Int32 → Int32} {v : Int32} (hi : i < 10 ∨ 250 ≤ i) (hs : s + wd ≤ 240) (hw : 1 ≤ wd) (hru : ruT T W g m) : ∀ k, k ≤ m → raT (setT T r i v) r up s wd n k = setT (raT T r up s wd n k) r i v
  | 0, _ => rfl
  | k + 1, hk => by
    have ih := raT_comm (r := r) (up := up) (n := n) T (v := v) hi hs hw hru k (by omega)
    have hm : m ≤ 6 := hru.2.2.2.2.2.2.1
    have hpe : plT (raT (setT T r i v) r up s wd n k) k (nI n) wd = plT (raT T r up s wd n k) k (nI n) wd := by
      rw [ih]
      have hseg : segT (raT T r up s wd n k) k := segT_cong (fun z hz => raT_lo T r up s wd n k z (by omega) hs hw) (by omega) (hru.2.2.2.2.2.2.2.2.1 k (by omega))
      exact plT_cong (setT_lo _ r i v) (by omega) hseg _ _
    have hp := plT_lt (T := raT T r up s wd n k) (w := k) (name := nI n) hw
    unfold raT
    rw [hpe, ih]
    generalize raT T r up s wd n k = R at *
    generalize plT R k (nI n) wd = p at *
    rw [setT_rq, if_neg (by omega)]
    funext z
    unfold setT
    by_cases q1 : z = 1220 + 512 * r + (10 + (s + p))
    · rw [if_pos q1, if_neg (by omega), if_pos q1]
    · rw [if_neg q1]
      by_cases q2 : z = 1220 + 512 * r + i
      · rw [if_pos q2, if_pos q2]
      · rw [if_neg q2, if_neg q2, if_neg q1]
/-- LAYERS: one more put in the latest layer -/
theorem roT_took {T : Nat → Int32} {r W m sz mk ex ly t : Nat} (h : roT T r W m 3 sz mk ex ly) (ht : rq T r (5 + ly) = nI t) (hlt : t < ex) : roT (setT T r (5 + ly) (nI (t + 1))) r W m 3 sz mk ex ly := by
  obtain ⟨⟨q0, q1, q2, q3, q4⟩, k5, ⟨p1, p2⟩, ⟨c1, c2, c3, c4, c5⟩, p, hp, hp2⟩ := h
  have hly := k5.2.2.2.2.2.2.2.2.2.2.2.1
  have hly4 := k5.2.2.2.2.2.2.2.2.2.2.2.2.1
  have o : ∀ k, k ≠ 5 + ly → rq (setT T r (5 + ly) (nI (t + 1))) r k = rq T r k := fun k hk => by rw [setT_rq, if_neg hk]
  refine ⟨⟨by rw [o 0 (by omega)]; exact q0, by rw [o 1 (by omega)]; exact q1, by rw [o 2 (by omega)]; exact q2, by rw [o 3 (by omega)]; exact q3, by rw [o 4 (by omega)]; exact q4⟩, k5, ⟨fun n hn => by rw [o _ (by omega)]; exact p1 n hn, fun n h1 h2 => by rw [o _ (by omega)]; exact p2 n h1 h2⟩, ⟨fun z j hj => by rw [o _ (by omega)]; exact c1 z j hj, fun z => by omega, fun z => by omega, fun z => by omega, fun z => ⟨⟨t + 1, by omega, by rw [setT_rq, if_pos rfl]⟩, fun l h1 h2 => by rw [o _ (by omega)]; exact (c5 z).2 l h1 h2⟩⟩, p, hp, by rw [o 5 (by omega)]; exact hp2⟩
/-- LAYERS: a new layer -/
theorem roT_more {T : Nat → Int32} {r W m sz mk ex ly : Nat} (h : roT T r W m 3 sz mk ex ly) (h4 : ly < 4) : roT (setT T r 4 (nI (ly + 1))) r W m 3 sz mk ex (ly + 1) := by
  obtain ⟨⟨q0, q1, q2, q3, q4⟩, k5, ⟨p1, p2⟩, ⟨c1, c2, c3, c4, c5⟩, p, hp, hp2⟩ := h
  have o : ∀ k, k ≠ 4 → rq (setT T r 4 (nI (ly + 1))) r k = rq T r k := fun k hk => by rw [setT_rq, if_neg hk]
  refine ⟨⟨by rw [o 0 (by omega)]; exact q0, by rw [o 1 (by omega)]; exact q1, by rw [o 2 (by omega)]; exact q2, by rw [o 3 (by omega)]; exact q3, by rw [setT_rq, if_pos rfl]⟩, (by clear c1 c2 c3 c4 c5 p1 p2; omega), ⟨fun n hn => by rw [o _ (by omega)]; exact p1 n hn, fun n h1 h2 => by rw [o _ (by omega)]; exact p2 n h1 h2⟩, ⟨fun z j hj => by rw [o _ (by omega)]; exact c1 z j hj, fun z => by omega, fun z => by omega, fun z => by omega, fun z => ⟨⟨0, Nat.zero_le _, ?_⟩, fun l h1 h2 => by rw [o _ (by omega)]; exact (c5 z).2 l (by omega) h2⟩⟩, p, hp, by rw [o 5 (by omega)]; exact hp2⟩
  rw [o _ (by omega), show 5 + (ly + 1) = 6 + ly by omega]
  exact (c5 z).2 ly (by omega) h4
/-- the row behind a put: T1 (a new layer, or not), then what the latest layer took, the marks, the name -/
def mkT (T : Nat → Int32) (r kd sz mk n ly : Nat) (t : Nat) : Nat → Int32 :=
  setT (raT (if kd = 3 then setT T r (5 + ly) (nI (t + 1)) else T) r (upV kd) (sz * (2 ^ (ly - 1) - 1)) (sz * 2 ^ (ly - 1)) n mk) r (250 + n) 1
theorem cX_3 {M : Mem} {T : Nat → Int32} {r W g m sz mk ex ly t : Nat} (h : cX M T r W g m 3 sz mk ex ly) (ht : rq T r (5 + ly) = nI t) (hlt : t < ex) : cX (wI M (10 + 4 * r) 7 (nI (t + 1))) (setT T r (5 + ly) (nI (t + 1))) r W g m 3 sz mk ex ly := by
  obtain ⟨hr, hru, ⟨⟨q0, q1, q2, q3, q4, q5⟩, q6, q7, q8⟩, hro⟩ := h
  have hly := hro.2.1.2.2.2.2.2.2.2.2.2.2.2.1
  have F : smF [10 + 4 * r] M (wI M (10 + 4 * r) 7 (nI (t + 1))) := smF.refl.pI_ (by simp) _ _
  have lw : ∀ k, k ≠ 7 → rI (wI M (10 + 4 * r) 7 (nI (t + 1))) (10 + 4 * r) k = rI M (10 + 4 * r) k := fun k hk => by rw [rI_wI, if_neg (by omega)]
  have o : ∀ k, k ≠ 5 + ly → rq (setT T r (5 + ly) (nI (t + 1))) r k = rq T r k := fun k hk => by rw [setT_rq, if_neg hk]
  have hly4 := hro.2.1.2.2.2.2.2.2.2.2.2.2.2.2.1
  refine ⟨hr, cRu_set hru (fun a h1 h2 => F a (by simp; omega)), ⟨⟨by rw [lw 1 (by omega), o 0 (by omega)]; exact q0, by rw [lw 2 (by omega), o 1 (by omega)]; exact q1, by rw [lw 3 (by omega), o 2 (by omega)]; exact q2, by rw [lw 4 (by omega), o 3 (by omega)]; exact q3, by rw [lw 5 (by omega), o 4 (by omega)]; exact q4, by rw [lw 6 (by omega), o 5 (by omega)]; exact q5⟩, fun z l h4 hl => ?_, fun j hj => ?_, fun n hn => ?_⟩, roT_took hro ht hlt⟩
  · rw [o 4 (by omega), hro.1.2.2.2.2, nI_eq (by omega) (by omega)] at hl
    rw [rI_wI, if_pos ⟨rfl, rfl⟩, setT_rq, if_pos (by omega)]
  · rw [F.I_ (by simp), o _ (by omega)]; exact q7 j hj
  · rw [F.J_ (by simp), o _ (by omega)]; exact q8 n hn
theorem cX_4 {M : Mem} {T : Nat → Int32} {r W g m sz mk ex ly : Nat} (h : cX M T r W g m 3 sz mk ex ly) (hl4 : ly < 4) : cX (wI (wI M (10 + 4 * r) 5 (nI (ly + 1))) (10 + 4 * r) 7 0) (setT T r 4 (nI (ly + 1))) r W g m 3 sz mk ex (ly + 1) := by
  obtain ⟨hr, hru, ⟨⟨q0, q1, q2, q3, q4, q5⟩, q6, q7, q8⟩, hro⟩ := h
  have F : smF [10 + 4 * r] M (wI (wI M (10 + 4 * r) 5 (nI (ly + 1))) (10 + 4 * r) 7 0) := (smF.refl.pI_ (by simp) _ _).pI_ (by simp) _ _
  have lw : ∀ k, k ≠ 7 → k ≠ 5 → rI (wI (wI M (10 + 4 * r) 5 (nI (ly + 1))) (10 + 4 * r) 7 0) (10 + 4 * r) k = rI M (10 + 4 * r) k := fun k hk h5 => by rw [rI_wI, if_neg (by omega), rI_wI, if_neg (by omega)]
  have o : ∀ k, k ≠ 4 → rq (setT T r 4 (nI (ly + 1))) r k = rq T r k := fun k hk => by rw [setT_rq, if_neg hk]
  have hnew := roT_more hro hl4
  refine ⟨hr, cRu_set hru (fun a h1 h2 => F a (by simp; omega)), ⟨⟨by rw [lw 1 (by omega) (by omega), o 0 (by omega)]; exact q0, by rw [lw 2 (by omega) (by omega), o 1 (by omega)]; exact q1, by rw [lw 3 (by omega) (by omega), o 2 (by omega)]; exact q2, by rw [lw 4 (by omega) (by omega), o 3 (by omega)]; exact q3, by rw [rI_wI, if_neg (by omega), rI_wI, if_pos ⟨rfl, rfl⟩, setT_rq, if_pos rfl], by rw [lw 6 (by omega) (by omega), o 5 (by omega)]; exact q5⟩, fun z l h4 hl => ?_, fun j hj => ?_, fun n hn => ?_⟩, hnew⟩
  · rw [hnew.1.2.2.2.2, nI_eq (by omega) (by omega)] at hl
    rw [rI_wI, if_pos ⟨rfl, rfl⟩, o _ (by omega), ← hl, show 5 + (ly + 1) = 6 + ly by omega]
    exact ((hro.2.2.2.1.2.2.2.2 rfl).2 ly (by omega) hl4).symm
  · rw [F.I_ (by simp), o _ (by omega)]; exact q7 j hj
  · rw [F.J_ (by simp), o _ (by omega)]; exact q8 n hn
/-- marks in the latest layer -/
theorem c_mark44 {N : Nat} {M : Mem} {T : Nat → Int32} {r W g m kd sz mk ex ly n t : Nat} (hN : 700 ≤ N) (h : cX M T r W g m kd sz mk ex ly) (h2 : kd ≠ 2) (h4 : kd ≠ 4) (ht : kd = 3 → rq T r (5 + ly) = nI t ∧ t < ex) :
    Yo (fX5_mark_b44 N (10 + 4 * r) 2 (nI n) M) (fun x => x.1 = true ∧ cX x.2 (raT (if kd = 3 then setT T r (5 + ly) (nI (t + 1)) else T) r (upV kd) (sz * (2 ^ (ly - 1) - 1)) (sz * 2 ^ (ly - 1)) n mk) r W g m kd sz mk ex ly ∧ smF [8, 10 + 4 * r, 13 + 4 * r] M x.2 ∧ rI x.2 (10 + 4 * r) 0 = rI M (10 + 4 * r) 0) := by
  have k5 := h.2.2.2.2.1
  have hly := k5.2.2.2.2.2.2.2.2.2.2.2.1
  have hly4 := k5.2.2.2.2.2.2.2.2.2.2.2.2.1
  obtain ⟨hs, hwd⟩ := lay_fit h.2.2.2 h2 (show ly - 1 < ly by omega)
  unfold fX5_mark_b44
  rw [h.flds.2.2.2.2, li_1, pk_sub hly, layS_ok h.flds.2.1 (by omega), Option.bind_some, layZ_ok h.flds.2.1 k5.2.2.1 (by omega), Option.bind_some]
  refine (c_raise hN h h2 h4 hwd hs).bi (fun x hx => ?_)
  have hF : smF [8, 10 + 4 * r, 13 + 4 * r] M x := hx.2.mono (fun a ha => by simp at ha ⊢; omega)
  have hcomm := raT_comm T (r := r) (up := upV kd) (n := n) (i := 5 + ly) (v := nI (t + 1)) (by omega) hs hwd h.2.1.1 mk k5.2.2.2.2.2.1
  generalize sz * (2 ^ (ly - 1) - 1) = s at hcomm hx hs ⊢
  generalize sz * 2 ^ (ly - 1) = wd at hcomm hx hs hwd ⊢
  rw [yo_s]
  refine ⟨rfl, ?_, hF.pI_ (by simp) _ _, by rw [rI_wI, if_neg (by omega), hx.2.I_ (by simp; omega)]⟩
  by_cases k3 : kd = 3
  · subst k3
    obtain ⟨t1, t2⟩ := ht rfl
    have hrq : rq (raT T r (upV 3) s wd n mk) r (5 + ly) = nI t := by rw [← t1]; exact raT_lo T r (upV 3) s wd n mk _ (by omega) hs hwd
    have h7 : rI x (10 + 4 * r) 7 = nI t := by
      rw [hx.1.2.2.1.2.1 (by rw [hx.1.2.2.2.1.1]) ly (by omega) hx.1.2.2.2.1.2.2.2.2, hrq]
    rw [if_pos rfl, hcomm, h7, nI_add]
    exact cX_3 hx.1 hrq t2
  · rw [if_neg k3]
    exact cX_7 hx.1 k3
theorem r_puts78 {N : Nat} {M : Mem} {T : Nat → Int32} {r W g m kd sz mk ex ly n t : Nat} (hN : 700 ≤ N) (h : rX M T r W g m kd sz mk ex ly) (h2 : kd ≠ 2) (h4 : kd ≠ 4) (hn : n < W) (ht : kd = 3 → rq T r (5 + ly) = nI t ∧ t < ex) :
    Yo (fX11_puts_b78 N 140 (nI r) (nI n) (nI kd) (nI (ly - 1)) M) (fun x => x.1 = true ∧ rX x.2 (mkT T r kd sz mk n ly t) r W g m kd sz mk ex ly ∧ smF [141, 147] M x.2) := by
  have k5 := h.2.2.2.2.1
  have hly := k5.2.2.2.2.2.2.2.2.2.2.2.1
  have hly4 := k5.2.2.2.2.2.2.2.2.2.2.2.2.1
  unfold fX11_puts_b78 fX11_puts_b105 mkT
  by_cases k3 : kd = 3
  · subst k3
    obtain ⟨t1, t2⟩ := ht rfl
    have e6 : (6 : Int32) + nI (ly - 1) = nI (5 + ly) := by rw [li_6, nI_add]; congr 1; omega
    rw [if_pos (show nI 3 = (3 : Int32) from rfl), e6, get_ok M (by have := h.1; omega), Option.bind_some, h.2.1, t1, set_ok _ _ (by have := h.1; omega), Option.bind_some, nI_1, if_pos rfl]
    have hx := rX_set h (roT_took h.2.2.2 t1 t2)
    refine (r_raise hN hx h2 h4 (show ly - 1 < ly by omega) hn).to (fun x hx => ⟨hx.1, hx.2.1, ?_⟩)
    exact ((smF.refl.pI_ (by simp) _ _).trans hx.2.2)
  · rw [if_neg (show ¬ nI kd = (3 : Int32) from ne_l (b := 3) k3 (by omega) (by omega)), if_neg k3]
    exact r_raise hN h h2 h4 (show ly - 1 < ly by omega) hn
theorem setT_out2 {T : Nat → Int32} {r k : Nat} {v : Int32} (hk : k < 512) : ∀ z, (z < 1220 + 512 * r ∨ 1220 + 512 * r + 512 ≤ z) → setT T r k v z = T z := fun z hz => by
  unfold setT
  rw [if_neg (by omega)]
theorem mkT_out {T : Nat → Int32} {r W m kd sz mk ex ly n t : Nat} (h : roT T r W m kd sz mk ex ly) (h2 : kd ≠ 2) (hn : n < 256) : ∀ z, (z < 1220 + 512 * r ∨ 1220 + 512 * r + 512 ≤ z) → mkT T r kd sz mk n ly t z = T z := by
  intro z hz
  have hly := h.2.1.2.2.2.2.2.2.2.2.2.2.2.1
  have hly4 := h.2.1.2.2.2.2.2.2.2.2.2.2.2.2.1
  obtain ⟨hs, hwd⟩ := lay_fit h h2 (show ly - 1 < ly by omega)
  unfold mkT
  rw [setT_out2 (by omega) z hz, raT_lo _ r _ _ _ n mk z (by omega) hs hwd]
  split
  · exact setT_out2 (by omega) z hz
  · rfl
/-- how PUT ends: nobody is put, or the row is like so -/
theorem put_two {N : Nat} {M M' : Mem} {T : Nat → Int32} {r W g m kd sz mk ex ly n : Nat} (hN : 700 ≤ N) (hc : cX M T r W g m kd sz mk ex ly) (hr : rX M' T r W g m kd sz mk ex ly) (h2 : kd ≠ 2) (h4 : kd ≠ 4) (hn : n < W) :
    (fX5_mark N (10 + 4 * r) 2 (nI n) M = some (false, M) ∧ fX11_puts N 140 (nI r) (nI n) M' = some (false, M')) ∨
    (∃ T2 ly2, (∀ z, (z < 1220 + 512 * r ∨ 1220 + 512 * r + 512 ≤ z) → T2 z = T z) ∧ Yo (fX5_mark N (10 + 4 * r) 2 (nI n) M) (fun x => x.1 = true ∧ Yo (fX2_add (10 + 4 * r + 1) (nI n) x.2) (fun z => cX z T2 r W g m kd sz mk ex ly2 ∧ smF [8, 10 + 4 * r, 12 + 4 * r, 13 + 4 * r] M z ∧ rI z (10 + 4 * r) 0 = rI M (10 + 4 * r) 0)) ∧
      Yo (fX11_puts N 140 (nI r) (nI n) M') (fun x => x.1 = true ∧ rX x.2 T2 r W g m kd sz mk ex ly2 ∧ smF [141, 147] M' x.2)) := by
  have k5 := hc.2.2.2.2.1
  have hly := k5.2.2.2.2.2.2.2.2.2.2.2.1
  have hly4 := k5.2.2.2.2.2.2.2.2.2.2.2.2.1
  have hW := hc.W1.2.2
  have e2 : ¬ nI kd = (2 : Int32) := ne_l (b := 2) h2 (by omega) (by omega)
  have addn : ∀ {M2 : Mem} {T' : Nat → Int32} {l : Nat}, cX M2 T' r W g m kd sz mk ex l → smF [8, 10 + 4 * r, 13 + 4 * r] M M2 → rI M2 (10 + 4 * r) 0 = rI M (10 + 4 * r) 0 → Yo (fX2_add (10 + 4 * r + 1) (nI n) M2) (fun z => cX z (setT T' r (250 + n) 1) r W g m kd sz mk ex l ∧ smF [8, 10 + 4 * r, 12 + 4 * r, 13 + 4 * r] M z ∧ rI z (10 + 4 * r) 0 = rI M (10 + 4 * r) 0) := fun {M2 T' l} hx hF h0 => (cX_add hx hn).to (fun z hz => ⟨hz.1, (hF.mono (fun a ha => by simp at ha ⊢; omega)).trans (hz.2.mono (fun a ha => by simp at ha ⊢; omega)), by rw [hz.2.I_ (by simp)]; exact h0⟩)
  have plain : ∀ t, (kd = 3 → rq T r (5 + ly) = nI t ∧ t < ex) → (fX5_mark N (10 + 4 * r) 2 (nI n) M = fX5_mark_b44 N (10 + 4 * r) 2 (nI n) M) → (fX11_puts N 140 (nI r) (nI n) M' = fX11_puts_b78 N 140 (nI r) (nI n) (nI kd) (nI (ly - 1)) M') →
      ∃ T2 ly2, (∀ z, (z < 1220 + 512 * r ∨ 1220 + 512 * r + 512 ≤ z) → T2 z = T z) ∧ Yo (fX5_mark N (10 + 4 * r) 2 (nI n) M) (fun x => x.1 = true ∧ Yo (fX2_add (10 + 4 * r + 1) (nI n) x.2) (fun z => cX z T2 r W g m kd sz mk ex ly2 ∧ smF [8, 10 + 4 * r, 12 + 4 * r, 13 + 4 * r] M z ∧ rI z (10 + 4 * r) 0 = rI M (10 + 4 * r) 0)) ∧
      Yo (fX11_puts N 140 (nI r) (nI n) M') (fun x => x.1 = true ∧ rX x.2 T2 r W g m kd sz mk ex ly2 ∧ smF [141, 147] M' x.2) := by
    intro t ht e1 e3
    refine ⟨mkT T r kd sz mk n ly t, ly, mkT_out hc.2.2.2 h2 (by omega), ?_, ?_⟩
    · rw [e1]
      exact (c_mark44 hN hc h2 h4 ht).to (fun x hx => ⟨hx.1, addn hx.2.1 hx.2.2.1 hx.2.2.2⟩)
    · rw [e3]
      exact r_puts78 hN hr h2 h4 hn ht
  by_cases k3 : kd = 3
  · subst k3
    obtain ⟨⟨t, ht, ht2⟩, _⟩ := hc.2.2.2.2.2.2.1.2.2.2.2 rfl
    have h7 : rI M (10 + 4 * r) 7 = nI t := by rw [hc.2.2.1.2.1 hc.2.2.2.1.1 ly (by omega) hc.2.2.2.1.2.2.2.2, ht2]
    have e6 : (6 : Int32) + (nI ly - (1 : Int32)) = nI (5 + ly) := by rw [li_1, pk_sub hly, li_6, nI_add]; congr 1; omega
    have hpu : fX11_puts N 140 (nI r) (nI n) M' = if nI t = nI ex then if nI ly - (1 : Int32) = (3 : Int32) then some (false, M') else (fX11_set 140 (nI r) (4 : Int32) (((nI ly - (1 : Int32)) + (1 : Int32)) + (1 : Int32)) M').bind fun qj6 => fX11_puts_b78 N 140 (nI r) (nI n) (nI 3) ((nI ly - (1 : Int32)) + (1 : Int32)) qj6 else fX11_puts_b78 N 140 (nI r) (nI n) (nI 3) (nI ly - (1 : Int32)) M' := by
      unfold fX11_puts
      rw [hr.flds.1, Option.bind_some, if_neg e2, hr.flds.2.2.2.2, Option.bind_some, if_pos (show nI 3 = (3 : Int32) from rfl), e6, get_ok M' (by have := hr.1; omega), Option.bind_some, hr.2.1, ht2, hr.flds.2.2.2.1, Option.bind_some]
    have hmk : fX5_mark N (10 + 4 * r) 2 (nI n) M = if nI t < nI ex then fX5_mark_b44 N (10 + 4 * r) 2 (nI n) M else if nI ly < (4 : Int32) then fX5_mark_b44 N (10 + 4 * r) 2 (nI n) (wI (wI M (10 + 4 * r) 5 (nI ly + (1 : Int32))) (10 + 4 * r) 7 (0 : Int32)) else some (false, M) := by
      unfold fX5_mark
      rw [hc.flds.1, if_pos (show nI 3 = (3 : Int32) from rfl), h7, hc.flds.2.2.2.1, hc.flds.2.2.2.2]
    have hex := k5.2.2.2.2.2.2.2.2.1
    rcases Nat.lt_or_ge t ex with hlt | hge
    · refine Or.inr (plain t (fun _ => ⟨ht2, hlt⟩) ?_ ?_)
      · rw [hmk, if_pos (nI_lt hlt (by omega))]
      · rw [hpu, if_neg (ne_l (by omega) (by omega) (by omega)), li_1, pk_sub hly]
    · have hte : t = ex := by omega
      rcases Nat.lt_or_ge ly 4 with hl4 | hl4
      · refine Or.inr ⟨mkT (setT T r 4 (nI (ly + 1))) r 3 sz mk n (ly + 1) 0, ly + 1, fun z hz => ?_, ?_, ?_⟩
        · rw [mkT_out (roT_more hc.2.2.2 hl4) h2 (by omega) z hz]
          exact setT_out2 (by omega) z hz
        · rw [hmk, if_neg (nI_nlt (by omega) (by omega)), if_pos (show nI ly < (4 : Int32) from nI_lt (b := 4) hl4 (by decide)), nI_1]
          have hx := cX_4 hc hl4
          have h0 : rq (setT T r 4 (nI (ly + 1))) r (5 + (ly + 1)) = nI 0 ∧ 0 < ex := ⟨by rw [setT_rq, if_neg (by omega), show 5 + (ly + 1) = 6 + ly by omega]; exact (hc.2.2.2.2.2.2.1.2.2.2.2 rfl).2 ly (by omega) hl4, by omega⟩
          refine (c_mark44 (t := 0) hN hx h2 h4 (fun _ => h0)).to (fun x hx2 => ⟨hx2.1, addn hx2.2.1 (((smF.refl.pI_ (by simp) _ _).pI_ (by simp) _ _).trans hx2.2.2.1) (by rw [hx2.2.2.2, rI_wI, if_neg (by omega), rI_wI, if_neg (by omega)])⟩)
        · rw [hpu, if_pos (by rw [hte]), li_1, pk_sub hly, if_neg (show ¬ nI (ly - 1) = (3 : Int32) from ne_l (b := 3) (by omega) (by omega) (by omega)), nI_add, nI_add, show ly - 1 + 1 = ly by omega]
          rw [show (4 : Int32) = nI 4 from rfl, set_ok _ _ (by have := hr.1; omega), Option.bind_some]
          have hx := rX_set hr (roT_more hr.2.2.2 hl4)
          have h0 : rq (setT T r 4 (nI (ly + 1))) r (5 + (ly + 1)) = nI 0 ∧ 0 < ex := ⟨by rw [setT_rq, if_neg (by omega), show 5 + (ly + 1) = 6 + ly by omega]; exact (hc.2.2.2.2.2.2.1.2.2.2.2 rfl).2 ly (by omega) hl4, by omega⟩
          refine (r_puts78 (t := 0) hN hx h2 h4 hn (fun _ => h0)).to (fun x hx2 => ⟨hx2.1, hx2.2.1, ?_⟩)
          exact (smF.refl.pI_ (by simp) _ _).trans hx2.2.2
      · refine Or.inl ⟨?_, ?_⟩
        · rw [hmk, if_neg (nI_nlt (by omega) (by omega)), if_neg (show ¬ nI ly < (4 : Int32) from nI_nlt (b := 4) hl4 (by omega))]
        · rw [hpu, if_pos (by rw [hte]), li_1, pk_sub hly, if_pos (show nI (ly - 1) = (3 : Int32) from by rw [show ly - 1 = 3 by omega]; rfl)]
  · have e3 : ¬ nI kd = (3 : Int32) := ne_l (b := 3) k3 (by omega) (by omega)
    refine Or.inr (plain 0 (fun z => absurd z k3) ?_ ?_)
    · unfold fX5_mark
      rw [hc.flds.1, if_neg e3]
    · unfold fX11_puts
      rw [hr.flds.1, Option.bind_some, if_neg e2, hr.flds.2.2.2.2, Option.bind_some, if_neg e3, li_1, pk_sub hly]
