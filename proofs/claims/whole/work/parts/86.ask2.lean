/-! SEMANTICS, CALLS THAT ASK: of, cell, guest, count -/
def put1 (T : Nat → Int32) (r n : Nat) : Bool := decide (rq T r (250 + n) = 1)
def manyT (T : Nat → Int32) (r : Nat) : Nat := cnt (put1 T r) 256
theorem cmany_ok {N : Nat} (hN : 700 ≤ N) {M : Mem} {b : Nat} {p : Nat → Bool} (h : ∀ n, n < 256 → bl (rJ M (b + 1) (n / 64)) (n % 64) = p n) : fX2_many N b M = some (nI (cnt p 256)) := by
  rw [← yo_eq]
  unfold fX2_many
  have word : ∀ w, w < 4 → cnt (fun i => bl (rJ M (b + 1) w) i) 64 = cnt (fun i => p (64 * w + i)) 64 := fun w hw => cnt_cong (fun k hk => by
    rw [← h (64 * w + k) (by omega), show (64 * w + k) / 64 = w by omega, show (64 * w + k) % 64 = k by omega])
  refine yo_f2 (F := fX2_many_l4 N b M) 4 (fun k a v => v = nI k ∧ a = nI (cnt p (64 * k))) ?_ N 0 _ _ (by omega) (by omega) ⟨rfl, rfl⟩
  intro f k a v hk ⟨hv, ha⟩ ih
  subst hv ha
  show Yo (fX2_many_l4_s N b M (fX2_many_l4 N b M f) (nI (cnt p (64 * k))) (nI k)) _
  unfold fX2_many_l4_s
  rcases Nat.lt_or_ge k 4 with hlt | hge
  · rw [if_neg (show ¬ (4 : Int32) ≤ nI k from nI_ge (b := 4) hlt (by decide)), if_pos (inB_nI hlt (by decide)), nI_clamp (by omega), bitCount_ok, Option.bind_some, nI_1, nI_add]
    refine ih _ _ hlt ⟨rfl, ?_⟩
    rw [word k hlt, show 64 * (k + 1) = 64 * k + 64 by omega, cnt_split]
  · rw [if_pos (show (4 : Int32) ≤ nI k from nI_le (a := 4) hge (by omega)), yo_s, show k = 4 by omega]
theorem cX.many {N : Nat} {M : Mem} {T : Nat → Int32} {r W g m kd sz mk ex ly : Nat} (hN : 700 ≤ N) (h : cX M T r W g m kd sz mk ex ly) : fX2_many N (10 + 4 * r + 1) M = some (nI (manyT T r)) :=
  cmany_ok hN (fun n hn => h.2.2.1.2.2.2 n hn)
theorem cnt_tail {p : Nat → Bool} {a : Nat} : ∀ {n : Nat}, (∀ k, a ≤ k → k < a + n → p k = false) → cnt p (a + n) = cnt p a
  | 0, _ => rfl
  | n + 1, h => by
    show cnt p (a + n) + (if p (a + n) = true then 1 else 0) = _
    rw [cnt_tail (fun k h1 h2 => h k h1 (by omega)), h (a + n) (by omega) (by omega)]
    rfl
theorem manyT_W {T : Nat → Int32} {r W m kd sz mk ex ly : Nat} (h : roT T r W m kd sz mk ex ly) (hW : W ≤ 256) : manyT T r = cnt (put1 T r) W := by
  unfold manyT
  have := cnt_tail (p := put1 T r) (a := W) (n := 256 - W) (fun k h1 h2 => by
    unfold put1
    rw [h.2.2.1.2 k h1 (by omega)]
    rfl)
  rw [show W + (256 - W) = 256 by omega] at this
  exact this
theorem rX.many {N : Nat} {M : Mem} {T : Nat → Int32} {r W g m kd sz mk ex ly : Nat} (hN : 700 ≤ N) (h : rX M T r W g m kd sz mk ex ly) : fX11_many N 140 (nI r) M = some (nI (manyT T r)) := by
  have hW : W ≤ 256 := h.2.2.1.2.1
  have hM : rI M (140 + 1) (1 : Int32).toNatClampNeg = nI W := by
    have := h.2.2.1.2.2.1
    rw [← h.2.1] at this
    exact this
  rw [manyT_W h.2.2.2 hW, ← yo_eq]
  unfold fX11_many
  refine yo_f2 (F := fX11_many_l4 N 140 (nI r) M) W (fun k a v => v = nI k ∧ a = nI (cnt (put1 T r) k)) ?_ N 0 _ _ (by omega) (by omega) ⟨rfl, rfl⟩
  intro f k a v hk ⟨hv, ha⟩ ih
  subst hv ha
  show Yo (fX11_many_l4_s N 140 (nI r) M (fX11_many_l4 N 140 (nI r) M f) (nI (cnt (put1 T r) k)) (nI k)) _
  unfold fX11_many_l4_s
  rw [if_pos (by decide), hM]
  rcases Nat.lt_or_ge k W with hlt | hge
  · rw [if_neg (nI_ge hlt (by omega)), gput h.1 (by omega), Option.bind_some, h.2.1, nI_1]
    refine ih _ _ hlt ⟨rfl, ?_⟩
    show nI (cnt (put1 T r) k) + rq T r (250 + k) = nI (cnt (put1 T r) k + (if put1 T r k = true then 1 else 0))
    unfold put1
    rcases h.2.2.2.2.2.1.1 k (by omega) with e | e
    · rw [e]; exact nI_add _ 0
    · rw [e]; exact nI_add _ 1
  · rw [if_pos (nI_le hge (by omega)), yo_s, show k = W by omega]
theorem ag_of {N : Nat} (hN : 700 ≤ N) (a1 a2 : Int32) (M : Mem) (hR : Rel M) : agI (fX10_of N 0 a1 a2 M) (fX11_of N 140 a1 a2) (fun k Mj1 => if k = 1 then some ((1 : Int32), Mj1) else if k = 3 then some ((2 : Int32), Mj1) else none) M := by
  obtain ⟨W, g, m, hS⟩ := hR.1
  obtain ⟨l0, _, _, _, _, l6, _⟩ := lj_toInt
  rcases rowAt_ok hS a1 with ⟨c1, c2⟩ | ⟨r, hr, rfl, hh, c1, c2⟩
  · refine refI hR (e := 1) 1 ?_ rfl (by decide) ?_
    · unfold fX10_of; rw [c1, xb_l]
    · unfold fX11_of
      rw [c2 _ (by rw [w5_141]), Option.bind_some, if_neg (by decide), fails_ok, Option.bind_some, yo_s, wI_wI]
      exact smF.refl
  · obtain ⟨kd, sz, mk, ex, ly, hc, hr'⟩ := sX hS hr hh
    by_cases ho : 0 ≤ a2.toInt ∧ a2.toInt ≤ 6
    · obtain ⟨j, hj, rfl⟩ : ∃ j : Nat, j < 2 ^ 31 ∧ a2 = nI j := by
        rcases int_cases a2 with ⟨t, _⟩ | t
        · omega
        · exact t
      rw [nI_toInt hj] at ho
      have main : ∀ v : Int32, (∀ M' : Mem, M' 141 = M 141 → Yo (if (4 : Int32) ≤ nI j then if nI j = (4 : Int32) then (fX11_many N 140 (nI r) (wI M' 140 5 (0 : Int32))).bind fun qj3 => some (qj3, wI M' 140 5 (0 : Int32)) else (fX11_get 140 (nI r) (nI j - (1 : Int32)) (wI M' 140 5 (0 : Int32))).bind fun qj4 => some (qj4, wI M' 140 5 (0 : Int32)) else (fX11_get 140 (nI r) (nI j) (wI M' 140 5 (0 : Int32))).bind fun qj5 => some (qj5, wI M' 140 5 (0 : Int32))) (fun x => x.1 = v ∧ smF scrR (wI M' 140 5 0) x.2)) → Yo (fX10_of N 0 (nI r) (nI j) M) (fun x => x.1 = .inr v ∧ smF scrC M x.2) → agI (fX10_of N 0 (nI r) (nI j) M) (fX11_of N 140 (nI r) (nI j)) (fun k Mj1 => if k = 1 then some ((1 : Int32), Mj1) else if k = 3 then some ((2 : Int32), Mj1) else none) M := by
        intro v hf hc
        refine askI hR v hc (fun M' hM' => ?_)
        have e : M' 141 = M 141 := hM' 141 (by decide)
        unfold fX11_of
        rw [c2 _ (by rw [w5_141, e]), Option.bind_some, if_pos rfl, within_v (nI j) 0 6 0 6 l0 l6, nI_toInt hj, decide_eq_true ho, Option.bind_some, if_pos rfl]
        exact hf M' e
      have F := hc.flds
      have G : ∀ M' : Mem, M' 141 = M 141 → fX11_get 140 (nI r) 0 (wI M' 140 5 0) = some (nI kd) ∧ fX11_get 140 (nI r) 1 (wI M' 140 5 0) = some (nI sz) ∧ fX11_get 140 (nI r) 2 (wI M' 140 5 0) = some (nI mk) ∧ fX11_get 140 (nI r) 3 (wI M' 140 5 0) = some (nI ex) ∧ fX11_get 140 (nI r) 4 (wI M' 140 5 0) = some (nI ly) := fun M' e => (hr' _ (by rw [w5_141, e])).flds
      have : j = 0 ∨ j = 1 ∨ j = 2 ∨ j = 3 ∨ j = 4 ∨ j = 5 ∨ j = 6 := by omega
      rcases this with h | h | h | h | h | h | h <;> subst h
      · refine main (nI kd) (fun M' e => ?_) ?_
        · rw [if_neg (by decide), show nI 0 = (0 : Int32) from rfl, (G M' e).1, Option.bind_some, yo_s]; exact ⟨rfl, smF.refl⟩
        · unfold fX10_of; rw [c1, xb_r, if_pos (show nI 0 = (0 : Int32) from rfl), F.1, yo_s]; exact ⟨rfl, smF.refl⟩
      · refine main (nI sz) (fun M' e => ?_) ?_
        · rw [if_neg (by decide), show nI 1 = (1 : Int32) from rfl, (G M' e).2.1, Option.bind_some, yo_s]; exact ⟨rfl, smF.refl⟩
        · unfold fX10_of; rw [c1, xb_r, if_neg (by decide), if_pos (show nI 1 = (1 : Int32) from rfl), F.2.1, yo_s]; exact ⟨rfl, smF.refl⟩
      · refine main (nI mk) (fun M' e => ?_) ?_
        · rw [if_neg (by decide), show nI 2 = (2 : Int32) from rfl, (G M' e).2.2.1, Option.bind_some, yo_s]; exact ⟨rfl, smF.refl⟩
        · unfold fX10_of; rw [c1, xb_r, if_neg (by decide), if_neg (by decide), if_pos (show nI 2 = (2 : Int32) from rfl), F.2.2.1, yo_s]; exact ⟨rfl, smF.refl⟩
      · refine main (nI ex) (fun M' e => ?_) ?_
        · rw [if_neg (by decide), show nI 3 = (3 : Int32) from rfl, (G M' e).2.2.2.1, Option.bind_some, yo_s]; exact ⟨rfl, smF.refl⟩
        · unfold fX10_of; rw [c1, xb_r, if_neg (by decide), if_neg (by decide), if_neg (by decide), if_pos (show nI 3 = (3 : Int32) from rfl), F.2.2.2.1, yo_s]; exact ⟨rfl, smF.refl⟩
      · refine main (nI (manyT (M 141).1 r)) (fun M' e => ?_) ?_
        · rw [if_pos (by decide), if_pos (show nI 4 = (4 : Int32) from rfl), (hr' (wI M' 140 5 0) (by rw [w5_141, e])).many hN, Option.bind_some, yo_s]; exact ⟨rfl, smF.refl⟩
        · unfold fX10_of; rw [c1, xb_r, if_neg (by decide), if_neg (by decide), if_neg (by decide), if_neg (by decide), if_pos (show nI 4 = (4 : Int32) from rfl), hc.many hN, Option.bind_some, yo_s]; exact ⟨rfl, smF.refl⟩
      · refine main (nI ly) (fun M' e => ?_) ?_
        · rw [if_pos (by decide), if_neg (by decide), show nI 5 - (1 : Int32) = (4 : Int32) from rfl, (G M' e).2.2.2.2, Option.bind_some, yo_s]; exact ⟨rfl, smF.refl⟩
        · unfold fX10_of; rw [c1, xb_r, if_neg (by decide), if_neg (by decide), if_neg (by decide), if_neg (by decide), if_neg (by decide), if_pos (show nI 5 = (5 : Int32) from rfl), F.2.2.2.2, yo_s]; exact ⟨rfl, smF.refl⟩
      · refine main (rq (M 141).1 r 5) (fun M' e => ?_) ?_
        · rw [if_pos (by decide), if_neg (by decide), show nI 6 - (1 : Int32) = (5 : Int32) from rfl, g5 hr, w5_141, e, Option.bind_some, yo_s]; exact ⟨rfl, smF.refl⟩
        · unfold fX10_of; rw [c1, xb_r, if_neg (by decide), if_neg (by decide), if_neg (by decide), if_neg (by decide), if_neg (by decide), if_neg (by decide), if_pos (show nI 6 = (6 : Int32) from rfl), hc.2.2.1.1.2.2.2.2.2, yo_s]; exact ⟨rfl, smF.refl⟩
    · refine refI hR (e := 3) 2 ?_ rfl (by decide) ?_
      · have ne : ∀ k : Nat, k ≤ 6 → a2 ≠ nI k := fun k hk q => ho (by rw [q, nI_toInt (by omega)]; omega)
        unfold fX10_of
        rw [c1, xb_r, if_neg (show ¬ a2 = (0 : Int32) from ne 0 (by omega)), if_neg (show ¬ a2 = (1 : Int32) from ne 1 (by omega)), if_neg (show ¬ a2 = (2 : Int32) from ne 2 (by omega)), if_neg (show ¬ a2 = (3 : Int32) from ne 3 (by omega)), if_neg (show ¬ a2 = (4 : Int32) from ne 4 (by omega)), if_neg (show ¬ a2 = (5 : Int32) from ne 5 (by omega)), if_neg (show ¬ a2 = (6 : Int32) from ne 6 (by omega))]
      · unfold fX11_of
        rw [c2 _ (by rw [w5_141]), Option.bind_some, if_pos rfl, within_v a2 0 6 0 6 l0 l6, decide_eq_false ho, Option.bind_some, if_neg (by decide), fails_ok, Option.bind_some, yo_s, wI_wI]
        exact smF.refl
def guestsT (T : Nat → Int32) (r ex nest : Nat) : Nat := cnt (fun s => decide (rq T r (10 + (nest * ex + s)) ≠ 0)) ex
theorem c_guests {N : Nat} {M : Mem} {T : Nat → Int32} {r W g m sz mk ex ly nest : Nat} (hN : 700 ≤ N) (h : cX M T r W g m 2 sz mk ex ly) (hn : nest < sz) : fX5_guestsIn N (10 + 4 * r) (nI nest) M = some (nI (guestsT T r ex nest)) := by
  rw [← yo_eq]
  have h5 := h.2.2.2.2.1
  have hex := (h5.2.2.2.2.2.2.2.2.2.1 rfl).2
  have hW := h.2.1.1.2.1
  unfold fX5_guestsIn
  refine yo_f2 (F := fX5_guestsIn_l4 N (10 + 4 * r) (nI nest) M) ex (fun k a v => v = nI k ∧ a = nI (cnt (fun s => decide (rq T r (10 + (nest * ex + s)) ≠ 0)) k)) ?_ N 0 _ _ (by omega) (by omega) ⟨rfl, rfl⟩
  intro f k a v hk ⟨hv, ha⟩ ih
  subst hv ha
  show Yo (fX5_guestsIn_l4_s N (10 + 4 * r) (nI nest) M (fX5_guestsIn_l4 N (10 + 4 * r) (nI nest) M f) (nI (cnt (fun s => decide (rq T r (10 + (nest * ex + s)) ≠ 0)) k)) (nI k)) _
  unfold fX5_guestsIn_l4_s fX5_guestsIn_b25
  rw [h.flds.2.2.2.1]
  rcases Nat.lt_or_ge k ex with hlt | hge
  · have hix := nests_ix (h5.2.2.2.1 (by omega)) hex hn hlt
    rw [if_neg (nI_ge hlt (by omega)), guest_c h hn hlt, Option.bind_some, nI_1, nI_1]
    rcases guest_is h.2.2.2 (show nest * ex + k < 240 by omega) with ⟨e1, e2⟩ | ⟨q, hq, e1, e2⟩
    · rw [if_pos e2]
      refine ih _ _ hlt ⟨rfl, ?_⟩
      show _ = nI (cnt (fun s => decide (rq T r (10 + (nest * ex + s)) ≠ 0)) k + (if decide (rq T r (10 + (nest * ex + k)) ≠ 0) = true then 1 else 0))
      rw [e1]
      rfl
    · rw [e2, if_neg (by rw [li_1]; exact fun z => (nI_ng (by omega) (by omega) (by omega)).mp z)]
      refine ih _ _ hlt ⟨rfl, ?_⟩
      show _ = nI (cnt (fun s => decide (rq T r (10 + (nest * ex + s)) ≠ 0)) k + (if decide (rq T r (10 + (nest * ex + k)) ≠ 0) = true then 1 else 0))
      rw [e1, decide_eq_true (nI_ne0 (by omega) (by omega)), if_pos rfl]
  · rw [if_pos (nI_le hge (by omega)), yo_s, show k = ex by omega]
    rfl
theorem r_guests {N : Nat} {M : Mem} {T : Nat → Int32} {r W g m sz mk ex ly nest : Nat} (hN : 700 ≤ N) (h : rX M T r W g m 2 sz mk ex ly) (hn : nest < sz) : fX11_cell_l98 N 140 (nI r) (nI nest) M N (0 : Int32) (0 : Int32) = some (nI (guestsT T r ex nest), M) := by
  rw [← yo_eq]
  have h5 := h.2.2.2.2.1
  have hex := (h5.2.2.2.2.2.2.2.2.2.1 rfl).2
  have hW := h.2.2.1.2.1
  refine yo_f2 (F := fX11_cell_l98 N 140 (nI r) (nI nest) M) ex (fun k a v => v = nI k ∧ a = nI (cnt (fun s => decide (rq T r (10 + (nest * ex + s)) ≠ 0)) k)) ?_ N 0 _ _ (by omega) (by omega) ⟨rfl, rfl⟩
  intro f k a v hk ⟨hv, ha⟩ ih
  subst hv ha
  show Yo (fX11_cell_l98_s N 140 (nI r) (nI nest) M (fX11_cell_l98 N 140 (nI r) (nI nest) M f) (nI (cnt (fun s => decide (rq T r (10 + (nest * ex + s)) ≠ 0)) k)) (nI k)) _
  unfold fX11_cell_l98_s fX11_cell_b128
  rw [h.flds.2.2.2.1, Option.bind_some]
  rcases Nat.lt_or_ge k ex with hlt | hge
  · have hix := nests_ix (h5.2.2.2.1 (by omega)) hex hn hlt
    rw [if_neg (nI_ge hlt (by omega)), guest_r h hn hlt, Option.bind_some, nI_1]
    rcases guest_is h.2.2.2 (show nest * ex + k < 240 by omega) with ⟨e1, e2⟩ | ⟨q, hq, e1, e2⟩
    · rw [if_pos e2]
      refine ih _ _ hlt ⟨rfl, ?_⟩
      show _ = nI (cnt (fun s => decide (rq T r (10 + (nest * ex + s)) ≠ 0)) k + (if decide (rq T r (10 + (nest * ex + k)) ≠ 0) = true then 1 else 0))
      rw [e1]
      exact nI_add _ 0
    · rw [e2, if_neg (by rw [li_1]; exact fun z => (nI_ng (by omega) (by omega) (by omega)).mp z)]
      refine ih _ _ hlt ⟨rfl, ?_⟩
      show _ = nI (cnt (fun s => decide (rq T r (10 + (nest * ex + s)) ≠ 0)) k + (if decide (rq T r (10 + (nest * ex + k)) ≠ 0) = true then 1 else 0))
      rw [e1, decide_eq_true (nI_ne0 (by omega) (by omega)), if_pos rfl]
      exact nI_add _ 1
  · rw [if_pos (nI_le hge (by omega)), yo_s, show k = ex by omega]
    rfl
/-- how many places a row has -/
def placesT (kd sz ly : Nat) : Nat := if kd = 3 then sz * (2 ^ ly - 1) else sz
theorem placesT_le {T : Nat → Int32} {r W m kd sz mk ex ly : Nat} (h : roT T r W m kd sz mk ex ly) : placesT kd sz ly ≤ 240 := by
  obtain ⟨_, ⟨h4, h1, h64, h16, _, _, _, _, _, _, _, hl1, hly, _⟩, _⟩ := h
  unfold placesT
  by_cases h3 : kd = 3
  · rw [if_pos h3]
    have h16 := h16 (Or.inr h3)
    have : ly = 1 ∨ ly = 2 ∨ ly = 3 ∨ ly = 4 := by omega
    rcases this with h | h | h | h <;> subst h <;> simp only [Nat.reducePow, Nat.reduceSub] <;> omega
  · rw [if_neg h3]; omega
theorem c_places {M : Mem} {T : Nat → Int32} {r W g m kd sz mk ex ly : Nat} (h : cX M T r W g m kd sz mk ex ly) : fX5_places (10 + 4 * r) M = some (nI (placesT kd sz ly)) := by
  have hk := h.2.2.2.2.1
  unfold fX5_places placesT
  rw [h.flds.1]
  by_cases h3 : kd = 3
  · subst h3
    rw [if_pos (show nI 3 = (3 : Int32) from rfl), h.flds.2.2.2.2, layS_ok h.flds.2.1 (by omega), Option.bind_some, if_pos rfl]
  · rw [if_neg (show ¬ nI kd = (3 : Int32) from ne_l (b := 3) h3 (by omega) (by omega)), h.flds.2.1, if_neg h3]
/-- below a bound, or not -/
theorem below (v : Int32) (n : Nat) (hn : n < 2 ^ 31) : (¬ (0 ≤ v.toInt ∧ v.toInt < n) ∧ (v < 0 ∨ (¬ v < 0 ∧ ¬ v < nI n ∧ nI n ≤ v)) ∧ ∀ M : Mem, fX11_within v.toInt64 (0 : Int64) ((nI n - (1 : Int32)).toInt64) M = some false) ∨
    (∃ j, j < n ∧ v = nI j ∧ ¬ v < 0 ∧ v < nI n ∧ ¬ nI n ≤ v ∧ ∀ M : Mem, fX11_within v.toInt64 (0 : Int64) ((nI n - (1 : Int32)).toInt64) M = some true) := by
  have hm1 : (nI n - (1 : Int32)).toInt = (n : Int) - 1 := by
    rw [Int32.toInt_sub, nI_toInt hn, show (1 : Int32).toInt = 1 from rfl, Int.bmod_eq_of_le (by omega) (by omega)]
  by_cases h : 0 ≤ v.toInt ∧ v.toInt < n
  · obtain ⟨j, hj, rfl⟩ : ∃ j : Nat, j < 2 ^ 31 ∧ v = nI j := by
      rcases int_cases v with ⟨t, _⟩ | t
      · omega
      · exact t
    rw [nI_toInt hj] at h
    refine Or.inr ⟨j, by omega, rfl, nI_pos hj, nI_lt (by omega) hn, nI_ge (by omega) hn, fun M => ?_⟩
    rw [within_ok, w_int, w_int, lj_toInt.1, hm1, nI_toInt hj, decide_eq_true (by omega)]
  · refine Or.inl ⟨h, ?_, fun M => ?_⟩
    · by_cases h0 : v < 0
      · exact Or.inl h0
      · refine Or.inr ⟨h0, ?_, ?_⟩
        · rw [Int32.lt_iff_toInt_lt, Int32.toInt_zero] at h0
          rw [Int32.lt_iff_toInt_lt, nI_toInt hn]
          omega
        · rw [Int32.lt_iff_toInt_lt, Int32.toInt_zero] at h0
          rw [Int32.le_iff_toInt_le, nI_toInt hn]
          omega
    · rw [within_ok, w_int, w_int, lj_toInt.1, hm1, decide_eq_false (by omega)]
theorem ag_cell {N : Nat} (hN : 700 ≤ N) (a1 a2 : Int32) (M : Mem) (hR : Rel M) : agI (fX10_cell N 0 a1 a2 M) (fX11_cell N 140 a1 a2) (fun k Mj1 => if k = 1 then some ((1 : Int32), Mj1) else if k = 4 then some ((2 : Int32), Mj1) else none) M := by
  obtain ⟨W, g, m, hS⟩ := hR.1
  rcases rowAt_ok hS a1 with ⟨c1, c2⟩ | ⟨r, hr, rfl, hh, c1, c2⟩
  · refine refI hR (e := 1) 1 ?_ rfl (by decide) ?_
    · unfold fX10_cell; rw [c1, xb_l]
    · unfold fX11_cell
      rw [c2 _ (by rw [w5_141]), Option.bind_some, if_neg (by decide), fails_ok, Option.bind_some, yo_s, wI_wI]
      exact smF.refl
  · obtain ⟨kd, sz, mk, ex, ly, hc, hr'⟩ := sX hS hr hh
    have hp := placesT_le hc.2.2.2
    have hk := hc.2.2.2.2.1
    have hd : ∀ M' : Mem, M' 141 = M 141 → fX11_cell N 140 (nI r) a2 M' = fX11_cell_b52 N 140 (nI r) a2 (nI (placesT kd sz ly)) (wI M' 140 5 (0 : Int32)) := fun M' e => by
      have h' := hr' (wI M' 140 5 0) (by rw [w5_141, e])
      unfold fX11_cell placesT
      rw [c2 _ (by rw [w5_141, e]), Option.bind_some, if_pos rfl, h'.flds.1, Option.bind_some]
      by_cases h3 : kd = 3
      · subst h3
        rw [if_pos (show nI 3 = (3 : Int32) from rfl), h'.flds.2.2.2.2, Option.bind_some, layA_ok h' (by omega), Option.bind_some, li_10, pk_sub (by omega), if_pos rfl, Nat.add_sub_cancel_left]
      · rw [if_neg (show ¬ nI kd = (3 : Int32) from ne_l (b := 3) h3 (by omega) (by omega)), h'.flds.2.1, Option.bind_some, if_neg h3]
    rcases below a2 (placesT kd sz ly) (by omega) with ⟨_, b1, b2⟩ | ⟨j, hj, rfl, b1, b2, _, b3⟩
    · refine refI hR (e := 4) 2 ?_ rfl (by decide) ?_
      · unfold fX10_cell fX10_cell_b18
        rw [c1, xb_r]
        rcases b1 with q | ⟨q1, q2, _⟩
        · rw [if_pos q]
        · rw [if_neg q1, c_places hc, Option.bind_some, if_neg q2]
      · rw [hd M rfl]
        unfold fX11_cell_b52
        rw [b2, Option.bind_some, if_neg (by decide), fails_ok, Option.bind_some, yo_s, wI_wI]
        exact smF.refl
    · by_cases h2 : kd = 2
      · subst h2
        have hj' : j < sz := by unfold placesT at hj; rw [if_neg (by decide)] at hj; exact hj
        refine askI hR (nI (guestsT (M 141).1 r ex j)) ?_ (fun M' hM' => ?_)
        · unfold fX10_cell
          rw [c1, xb_r, if_neg b1, c_places hc, Option.bind_some, if_pos b2, hc.flds.1, if_pos (show nI 2 = (2 : Int32) from rfl), c_guests hN hc hj', Option.bind_some, yo_s]
          exact ⟨rfl, smF.refl⟩
        · have e : M' 141 = M 141 := hM' 141 (by decide)
          have h' := hr' (wI M' 140 5 0) (by rw [w5_141, e])
          rw [hd M' e]
          unfold fX11_cell_b52
          rw [b3, Option.bind_some, if_pos rfl, h'.flds.1, Option.bind_some, if_pos (show nI 2 = (2 : Int32) from rfl), r_guests hN h' hj', yo_s]
          exact ⟨rfl, smF.refl⟩
      · refine askI hR (rq (M 141).1 r (10 + j)) ?_ (fun M' hM' => ?_)
        · unfold fX10_cell
          rw [c1, xb_r, if_neg b1, c_places hc, Option.bind_some, if_pos b2, hc.flds.1, if_neg (show ¬ nI kd = (2 : Int32) from ne_l (b := 2) h2 (by omega) (by omega)), hc.cell (by omega), Option.bind_some, yo_s]
          exact ⟨rfl, smF.refl⟩
        · have e : M' 141 = M 141 := hM' 141 (by decide)
          have h' := hr' (wI M' 140 5 0) (by rw [w5_141, e])
          rw [hd M' e]
          unfold fX11_cell_b52
          rw [b3, Option.bind_some, if_pos rfl, h'.flds.1, Option.bind_some, if_neg (show ¬ nI kd = (2 : Int32) from ne_l (b := 2) h2 (by omega) (by omega)), li_10, nI_add, h'.cell (by omega), Option.bind_some, yo_s]
          exact ⟨rfl, smF.refl⟩
theorem ag_guest (a1 a2 a3 : Int32) (M : Mem) (hR : Rel M) : agI (fX10_guest 0 a1 a2 a3 M) (fX11_guest 140 a1 a2 a3) (fun k Mj1 => if k = 1 then some ((1 : Int32), Mj1) else if k = 2 then some ((2 : Int32), Mj1) else if k = 4 then some ((3 : Int32), Mj1) else none) M := by
  obtain ⟨W, g, m, hS⟩ := hR.1
  rcases rowAt_ok hS a1 with ⟨c1, c2⟩ | ⟨r, hr, rfl, hh, c1, c2⟩
  · refine refI hR (e := 1) 1 ?_ rfl (by decide) ?_
    · unfold fX10_guest; rw [c1, xb_l]
    · unfold fX11_guest
      rw [c2 _ (by rw [w5_141]), Option.bind_some, if_neg (by decide), fails_ok, Option.bind_some, yo_s, wI_wI]
      exact smF.refl
  · obtain ⟨kd, sz, mk, ex, ly, hc, hr'⟩ := sX hS hr hh
    have hk := hc.2.2.2.2.1
    by_cases h2 : kd = 2
    · subst h2
      have k1 : fX10_needKind (10 + 4 * r) (2 : Int32) M = some (.inr (), M) := by
        unfold fX10_needKind
        rw [hc.flds.1, if_pos (show nI 2 = (2 : Int32) from rfl)]
      rcases below a2 sz (by omega) with ⟨_, b1, b2⟩ | ⟨j, hj, rfl, b1, _, b2, b3⟩
      · refine refI hR (e := 4) 3 ?_ rfl (by decide) ?_
        · unfold fX10_guest fX10_guest_b39
          rw [c1, xb_r, k1, xb_r]
          rcases b1 with q | ⟨q1, q2, q3⟩
          · rw [if_pos q]
          · rw [if_neg q1, hc.flds.2.1, if_pos q3]
        · have h' := hr' (wI M 140 5 0) (by rw [w5_141])
          unfold fX11_guest fX11_guest_b71
          rw [c2 _ (by rw [w5_141]), Option.bind_some, if_pos rfl, h'.flds.1, Option.bind_some, if_pos (show nI 2 = (2 : Int32) from rfl), h'.flds.2.1, Option.bind_some, b2, Option.bind_some, if_neg (by decide), fails_ok, Option.bind_some, yo_s, wI_wI]
          exact smF.refl
      · rcases below a3 ex (by omega) with ⟨_, d1, d2⟩ | ⟨s, hs, rfl, d1, d2, _, d3⟩
        · refine refI hR (e := 4) 3 ?_ rfl (by decide) ?_
          · unfold fX10_guest fX10_guest_b39
            rw [c1, xb_r, k1, xb_r, if_neg b1, hc.flds.2.1, if_neg b2]
            rcases d1 with q | ⟨q1, q2, q3⟩
            · rw [if_pos q]
            · rw [if_neg q1, hc.flds.2.2.2.1, if_neg q2]
          · have h' := hr' (wI M 140 5 0) (by rw [w5_141])
            unfold fX11_guest fX11_guest_b71
            rw [c2 _ (by rw [w5_141]), Option.bind_some, if_pos rfl, h'.flds.1, Option.bind_some, if_pos (show nI 2 = (2 : Int32) from rfl), h'.flds.2.1, Option.bind_some, b3, Option.bind_some, if_pos rfl, h'.flds.2.2.2.1, Option.bind_some, d2, Option.bind_some, if_neg (by decide), fails_ok, Option.bind_some, yo_s, wI_wI]
            exact smF.refl
        · refine askI hR (rq (M 141).1 r (10 + (j * ex + s)) - 1) ?_ (fun M' hM' => ?_)
          · unfold fX10_guest
            rw [c1, xb_r, k1, xb_r, if_neg b1, hc.flds.2.1, if_neg b2, if_neg d1, hc.flds.2.2.2.1, if_pos d2, guest_c hc hj hs, Option.bind_some, yo_s]
            exact ⟨rfl, smF.refl⟩
          · have e : M' 141 = M 141 := hM' 141 (by decide)
            have h' := hr' (wI M' 140 5 0) (by rw [w5_141, e])
            unfold fX11_guest
            rw [c2 _ (by rw [w5_141, e]), Option.bind_some, if_pos rfl, h'.flds.1, Option.bind_some, if_pos (show nI 2 = (2 : Int32) from rfl), h'.flds.2.1, Option.bind_some, b3, Option.bind_some, if_pos rfl, h'.flds.2.2.2.1, Option.bind_some, d3, Option.bind_some, if_pos rfl, guest_r h' hj hs, Option.bind_some, yo_s]
            exact ⟨rfl, smF.refl⟩
    · have n2 : ¬ nI kd = (2 : Int32) := ne_l (b := 2) h2 (by omega) (by omega)
      refine refI hR (e := 2) 2 ?_ rfl (by decide) ?_
      · unfold fX10_guest fX10_needKind
        rw [c1, xb_r, hc.flds.1, if_neg n2, xb_l]
      · have h' := hr' (wI M 140 5 0) (by rw [w5_141])
        unfold fX11_guest
        rw [c2 _ (by rw [w5_141]), Option.bind_some, if_pos rfl, h'.flds.1, Option.bind_some, if_neg n2, fails_ok, Option.bind_some, yo_s, wI_wI]
        exact smF.refl
