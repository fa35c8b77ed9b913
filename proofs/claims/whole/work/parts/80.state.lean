/-! SEMANTICS, THE STATE. What the reference is told, and the class's shelves that tell the same. -/
def rq (T : Nat → Int32) (r k : Nat) : Int32 := T (1220 + 512 * r + k)
/-- row r is there: kind, size, marks, extra, layers -/
def roT (T : Nat → Int32) (r W m kd sz mk ex ly : Nat) : Prop :=
  (rq T r 0 = nI kd ∧ rq T r 1 = nI sz ∧ rq T r 2 = nI mk ∧ rq T r 3 = nI ex ∧ rq T r 4 = nI ly) ∧
  (kd ≤ 4 ∧ 1 ≤ sz ∧ sz ≤ 64 ∧ (kd = 2 ∨ kd = 3 → sz ≤ 16) ∧ 1 ≤ mk ∧ mk ≤ m ∧ (kd = 2 → mk = 2) ∧ (kd = 4 → mk ≤ 3) ∧ ex ≤ 20 ∧ (kd = 2 → 1 ≤ ex ∧ ex ≤ 4) ∧ (kd = 3 → 1 ≤ ex) ∧ 1 ≤ ly ∧ ly ≤ 4 ∧ (kd ≠ 3 → ly = 1)) ∧
  ((∀ n, n < 256 → rq T r (250 + n) = 0 ∨ rq T r (250 + n) = 1) ∧ (∀ n, W ≤ n → n < 256 → rq T r (250 + n) = 0)) ∧
  ((kd = 0 ∨ kd = 3 → ∀ j, j < 240 → rq T r (10 + j) = 0 ∨ rq T r (10 + j) = 1) ∧
   (kd = 1 → ∀ j, j < 240 → ∃ c : Nat, c ≤ 15 ∧ rq T r (10 + j) = nI c) ∧
   (kd = 2 → ∀ j, j < 240 → rq T r (10 + j) = 0 ∨ ∃ n : Nat, n < W ∧ rq T r (10 + j) = nI (n + 1)) ∧
   (kd = 2 → ∀ j, 64 ≤ j → j < 240 → rq T r (10 + j) = 0) ∧
   (kd = 3 → (∃ t : Nat, t ≤ ex ∧ rq T r (5 + ly) = nI t) ∧ ∀ l, ly ≤ l → l < 4 → rq T r (6 + l) = 0)) ∧
  (∃ p : Nat, p ≤ 100 ∧ rq T r 5 = nI p)
/-- the class's row at b is row r of T -/
def cRo (M : Mem) (b : Nat) (T : Nat → Int32) (r : Nat) : Prop :=
  (rI M b 1 = rq T r 0 ∧ rI M b 2 = rq T r 1 ∧ rI M b 3 = rq T r 2 ∧ rI M b 4 = rq T r 3 ∧ rI M b 5 = rq T r 4 ∧ rI M b 6 = rq T r 5) ∧
  (rq T r 0 = nI 3 → ∀ ly : Nat, ly ≤ 4 → rq T r 4 = nI ly → rI M b 7 = rq T r (5 + ly)) ∧
  (∀ j, j < 240 → rI M (b + 3) j = rq T r (10 + j)) ∧
  (∀ n, n < 256 → bl (rJ M (b + 2) (n / 64)) (n % 64) = decide (rq T r (250 + n) = 1))
def gone (M : Mem) (b : Nat) (T : Nat → Int32) (r : Nat) : Prop := rI M b 0 = 0 ∧ rq T r 0 = -1
def here (M : Mem) (b : Nat) (T : Nat → Int32) (r W m : Nat) : Prop := rI M b 0 = 1 ∧ (∃ kd sz mk ex ly : Nat, roT T r W m kd sz mk ex ly) ∧ cRo M b T r
/-- the class's shelf at s tells T -/
def cSh (M : Mem) (s : Nat) (T : Nat → Int32) (W g m : Nat) : Prop := cRu M (s + 1) T W g m ∧ ∀ r, r < 4 → gone M (s + 9 + 4 * r) T r ∨ here M (s + 9 + 4 * r) T r W m
theorem eqs_rI {M M' : Mem} {a : Nat} (h : M' a = M a) (k : Nat) : rI M' a k = rI M a k := by unfold rI; rw [h]
theorem eqs_rJ {M M' : Mem} {a : Nat} (h : M' a = M a) (k : Nat) : rJ M' a k = rJ M a k := by unfold rJ; rw [h]
theorem cRo.moved {M M' : Mem} {b : Nat} {T : Nat → Int32} {r : Nat} (h : cRo M b T r) (hq : ∀ a, b ≤ a → a < b + 4 → M' a = M a) : cRo M' b T r := by
  obtain ⟨⟨h1, h2, h3, h4, h5, h6⟩, h7, h8, h9⟩ := h
  have e := hq b (by omega) (by omega)
  refine ⟨⟨?_, ?_, ?_, ?_, ?_, ?_⟩, fun q ly h4 hl => ?_, fun j hj => ?_, fun n hn => ?_⟩
  · rw [eqs_rI e]; exact h1
  · rw [eqs_rI e]; exact h2
  · rw [eqs_rI e]; exact h3
  · rw [eqs_rI e]; exact h4
  · rw [eqs_rI e]; exact h5
  · rw [eqs_rI e]; exact h6
  · rw [eqs_rI e]; exact h7 q ly h4 hl
  · rw [eqs_rI (hq (b + 3) (by omega) (by omega))]; exact h8 j hj
  · rw [eqs_rJ (hq (b + 2) (by omega) (by omega))]; exact h9 n hn
theorem row.moved {M M' : Mem} {b : Nat} {T : Nat → Int32} {r W m : Nat} (h : gone M b T r ∨ here M b T r W m) (hq : ∀ a, b ≤ a → a < b + 4 → M' a = M a) : gone M' b T r ∨ here M' b T r W m := by
  have e := hq b (by omega) (by omega)
  rcases h with ⟨h1, h2⟩ | ⟨h1, h2, h3⟩
  · exact Or.inl ⟨by rw [eqs_rI e]; exact h1, h2⟩
  · exact Or.inr ⟨by rw [eqs_rI e]; exact h1, h2, h3.moved hq⟩
theorem cSh.moved {M M' : Mem} {s : Nat} {T : Nat → Int32} {W g m : Nat} (h : cSh M s T W g m) (hq : ∀ a, s ≤ a → a < s + 25 → a ≠ s + 7 → M' a = M a) : cSh M' s T W g m :=
  ⟨h.1.moved (fun a h1 h2 => hq a (by omega) (by omega) (by omega)), fun r hr => row.moved (h.2 r hr) (fun a h1 h2 => hq a (by omega) (by omega) (by omega))⟩
/-- the rows' part of the state: W names, g tags, m marks -/
def relS (M : Mem) : Prop := ∃ W g m : Nat, cSh M 1 (M 141).1 W g m
/-- images -/
def imT (M : Mem) (i : Nat) : Nat → Int32 := fun k => rI M 143 (3268 * i + k)
def relI (M : Mem) : Prop := ∀ i, i < 3 → (bt (rI M 0 6) i = false ∧ rI M 145 i = 0) ∨ (bt (rI M 0 6) i = true ∧ rI M 145 i = 1 ∧ ∃ W g m : Nat, cSh M (27 + 25 * i) (imT M i) W g m)
/-- trays -/
def relT (M : Mem) : Prop := ∀ t, t < 4 → (rI M (103 + 2 * t) 0 = 0 ∧ rI M 162 t = -1) ∨ (rI M (103 + 2 * t) 0 = 1 ∧ ∃ so ma : Nat, so ≤ 3 ∧ ma ≤ 40 ∧ rI M 162 t = nI so ∧ rI M (103 + 2 * t) 2 = nI so ∧ rI M 163 t = nI ma ∧ rI M (103 + 2 * t) 1 = nI ma ∧ ∀ j, j < 40 → rJ M (104 + 2 * t) j = rJ M 164 (40 * t + j))
/-- the tape: how much is on it, and its bytes -/
def relP (M : Mem) : Prop := ∃ n : Nat, n ≤ 600 ∧ rI M 111 1 = nI n ∧ rI M 140 7 = nI n ∧ ∀ j, j < n → ∃ c : Nat, c < 256 ∧ rI M 146 j = nI c ∧ rI M 119 j &&& 255 = nI c
def Rel (M : Mem) : Prop := relS M ∧ relI M ∧ relT M ∧ relP M ∧ relA M
/-- what may be written without harm: scratch of both, and the law's answer -/
def scr : List Nat := [8, 112, 113, 114, 115, 116, 117, 118, 120, 121, 122, 123, 124, 125, 126, 127, 128, 129, 130, 131, 132, 133, 134, 135, 136, 137, 138, 139, 142, 144, 147, 148, 149, 150, 151, 152, 153, 154, 155, 156, 157, 158, 159, 160, 161, 165]
theorem scr_no {a : Nat} (h : a ≤ 111 ∨ a = 119 ∨ a = 140 ∨ a = 141 ∨ a = 143 ∨ a = 145 ∨ a = 146 ∨ 162 ≤ a ∧ a ≤ 164) (h8 : a ≠ 8) : a ∉ scr := by
  intro q
  simp only [scr, List.mem_cons, List.not_mem_nil, or_false] at q
  omega
/-- the same but for scratch, and for some fields of the reference that no state rests on -/
theorem Rel.quiet {M M' : Mem} (h : Rel M) (hq : ∀ a, a ∉ scr → a ≠ 140 → M' a = M a) (h7 : rI M' 140 7 = rI M 140 7) (h16 : rI M' 140 16 = rI M 140 16) (h17 : rI M' 140 17 = rI M 140 17) (h26 : rI M' 140 26 = rI M 140 26) (h27 : rI M' 140 27 = rI M 140 27) : Rel M' := by
  obtain ⟨⟨W, g, m, hS⟩, hI, hT, ⟨n, hn, p1, p2, p3⟩, hA⟩ := h
  have e141 := hq 141 (scr_no (by omega) (by omega)) (by omega)
  have e0 := hq 0 (scr_no (by omega) (by omega)) (by omega)
  have e143 := hq 143 (scr_no (by omega) (by omega)) (by omega)
  have e145 := hq 145 (scr_no (by omega) (by omega)) (by omega)
  have e162 := hq 162 (scr_no (by omega) (by omega)) (by omega)
  have e163 := hq 163 (scr_no (by omega) (by omega)) (by omega)
  have e164 := hq 164 (scr_no (by omega) (by omega)) (by omega)
  have e146 := hq 146 (scr_no (by omega) (by omega)) (by omega)
  have e119 := hq 119 (scr_no (by omega) (by omega)) (by omega)
  have e111 := hq 111 (scr_no (by omega) (by omega)) (by omega)
  refine ⟨⟨W, g, m, ?_⟩, fun i hi => ?_, fun t ht => ?_, ⟨n, hn, ?_, ?_, fun j hj => ?_⟩, ?_⟩
  · rw [e141]
    exact hS.moved (fun a h1 h2 h3 => hq a (scr_no (by omega) (by omega)) (by omega))
  · have e : imT M' i = imT M i := by unfold imT; funext k; rw [eqs_rI e143]
    rw [eqs_rI e0, eqs_rI e145, e]
    rcases hI i hi with q | ⟨q1, q2, W', g', m', q3⟩
    · exact Or.inl q
    · exact Or.inr ⟨q1, q2, W', g', m', q3.moved (fun a h1 h2 h3 => hq a (scr_no (by omega) (by omega)) (by omega))⟩
  · have ea := hq (103 + 2 * t) (scr_no (by omega) (by omega)) (by omega)
    have eb := hq (104 + 2 * t) (scr_no (by omega) (by omega)) (by omega)
    rw [eqs_rI ea, eqs_rI ea, eqs_rI ea, eqs_rI e162, eqs_rI e163]
    rcases hT t ht with q | ⟨q1, so, ma, q2, q3, q4, q5, q6, q7, q8⟩
    · exact Or.inl q
    · exact Or.inr ⟨q1, so, ma, q2, q3, q4, q5, q6, q7, fun j hj => by rw [eqs_rJ eb, eqs_rJ e164]; exact q8 j hj⟩
  · rw [eqs_rI e111]; exact p1
  · rw [h7]; exact p2
  · rw [eqs_rI e146, eqs_rI e119]; exact p3 j hj
  · unfold relA at hA ⊢
    rw [eqs_rI e0, eqs_rI e0, eqs_rI e0, eqs_rI e0, h16, h17, h26, h27]
    exact hA
theorem Rel.calm {M : Mem} (h : Rel M) (k : Int32) : Rel (wI M 140 5 k) := by
  refine h.quiet (fun a _ ha => ?_) ?_ ?_ ?_ ?_ ?_
  · exact (smF.refl (S := [140])).pI_ (by simp) 5 k a (by simpa using ha)
  all_goals rw [rI_wI, if_neg (by omega)]
theorem Rel.scr {M M' : Mem} (h : Rel M) (hF : smF scr M M') : Rel M' := by
  have e := hF 140 (scr_no (by omega) (by omega))
  exact h.quiet (fun a ha _ => hF a ha) (eqs_rI e _) (eqs_rI e _) (eqs_rI e _) (eqs_rI e _) (eqs_rI e _)
