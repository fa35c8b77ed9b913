/-! SEMANTICS: solve, its two eliminations -/
def xrM (T : Nat → Int32) (name sz : Nat) : Nat → Int64
  | 0 => 0
  | w + 1 => xrM T name sz w ^^^ shlJ 1 (nI (plT T w (nI name) sz))
theorem xrM_s (T : Nat → Int32) (name sz w : Nat) : xrM T name sz (w + 1) = xrM T name sz w ^^^ shlJ 1 (nI (plT T w (nI name) sz)) := rfl
def uv {α : Type} (f : Nat → α) (k : Nat) (v : α) : Nat → α := fun i => if i = k then v else f i
theorem uv_eq {α : Type} {f : Nat → α} {k : Nat} {v : α} : uv f k v k = v := by unfold uv; rw [if_pos rfl]
theorem uv_ne {α : Type} {f : Nat → α} {k i : Nat} {v : α} (h : i ≠ k) : uv f k v i = f i := by unfold uv; rw [if_neg h]
def chs (H : Nat → Int64) (tk : Nat → Bool) (cell : Nat) : Nat → Nat → Option Nat
  | 0, _ => none
  | d + 1, i => if tk i = false ∧ bl (H i) cell = true then some i else chs H tk cell d (i + 1)
theorem chs_s (H : Nat → Int64) (tk : Nat → Bool) (cell d i : Nat) : chs H tk cell (d + 1) i = if tk i = false ∧ bl (H i) cell = true then some i else chs H tk cell d (i + 1) := rfl
theorem chs_lt {H : Nat → Int64} {tk : Nat → Bool} {cell : Nat} : ∀ (d i j : Nat), chs H tk cell d i = some j → i ≤ j ∧ j < i + d
  | 0, _, _, h => by cases h
  | d + 1, i, j, h => by
    rw [chs_s] at h
    by_cases q : tk i = false ∧ bl (H i) cell = true
    · rw [if_pos q] at h
      cases h
      omega
    · rw [if_neg q] at h
      have := chs_lt d (i + 1) j h
      omega
def jH (H : Nat → Int64) (b cell : Nat) : Nat → Int64 := fun i => if i ≠ b ∧ bl (H i) cell = true then H i ^^^ H b else H i
def jA (H : Nat → Int64) (A : Nat → Int32) (b cell : Nat) : Nat → Int32 := fun i => if i ≠ b ∧ bl (H i) cell = true then A i ^^^ A b else A i
def SLV : Type := (Nat → Int64) × (Nat → Int32) × (Nat → Bool) × (Nat → Int32)
def slS (s : SLV) (c : Nat) : Option Nat → SLV
  | none => (s.1, s.2.1, s.2.2.1, uv s.2.2.2 c (-1))
  | some i => (jH s.1 i c, jA s.1 s.2.1 i c, uv s.2.2.1 i true, uv s.2.2.2 c (nI i))
def slv (n : Nat) (H0 : Nat → Int64) (A0 : Nat → Int32) : Nat → SLV
  | 0 => (H0, A0, fun _ => false, fun _ => -1)
  | c + 1 => slS (slv n H0 A0 c) c (chs (slv n H0 A0 c).1 (slv n H0 A0 c).2.2.1 c n 0)
theorem slv_s (n : Nat) (H0 : Nat → Int64) (A0 : Nat → Int32) (c : Nat) : slv n H0 A0 (c + 1) = slS (slv n H0 A0 c) c (chs (slv n H0 A0 c).1 (slv n H0 A0 c).2.2.1 c n 0) := rfl
theorem slv_by {n : Nat} {H0 : Nat → Int64} {A0 : Nat → Int32} : ∀ (c j : Nat), (slv n H0 A0 c).2.2.2 j = -1 ∨ ∃ i, i < n ∧ (slv n H0 A0 c).2.2.2 j = nI i
  | 0, _ => Or.inl rfl
  | c + 1, j => by
    have ih := slv_by (n := n) (H0 := H0) (A0 := A0) c j
    rw [slv_s]
    cases h : chs (slv n H0 A0 c).1 (slv n H0 A0 c).2.2.1 c n 0 with
    | none =>
      show uv (slv n H0 A0 c).2.2.2 c (-1) j = -1 ∨ _
      by_cases q : j = c
      · rw [q, uv_eq]; exact Or.inl rfl
      · show uv (slv n H0 A0 c).2.2.2 c (-1) j = -1 ∨ ∃ i, i < n ∧ uv (slv n H0 A0 c).2.2.2 c (-1) j = nI i
        rw [uv_ne q]; exact ih
    | some i =>
      show uv (slv n H0 A0 c).2.2.2 c (nI i) j = -1 ∨ ∃ i', i' < n ∧ uv (slv n H0 A0 c).2.2.2 c (nI i) j = nI i'
      have := chs_lt _ _ _ h
      by_cases q : j = c
      · rw [q, uv_eq]; exact Or.inr ⟨i, by omega, rfl⟩
      · rw [uv_ne q]; exact ih
def cSV (M : Mem) (H : Nat → Int64) (A : Nat → Int32) (tk : Nat → Bool) (n : Nat) : Prop := ∀ i, i < n → rJ M 127 i = H i ∧ rI M 128 i = A i ∧ bl (rJ M 126 3) i = tk i
def rSV (M : Mem) (H : Nat → Int64) (A : Nat → Int32) (tk : Nat → Bool) (n : Nat) : Prop := ∀ i, i < n → rJ M 151 i = H i ∧ rI M 152 i = A i ∧ rI M 154 i = (if tk i = true then 1 else 0)
theorem c_choose {N n cell : Nat} {M : Mem} {H : Nat → Int64} {A : Nat → Int32} {tk : Nat → Bool} (h : cSV M H A tk n) (hn : n ≤ 40) (hc : cell < 64) : ∀ (d f k : Nat), k + d = n → d < f →
    fX8_chooseFor_l2 N 126 (nI cell) (nI n) M f (nI k) = some (match chs H tk cell d k with | none => (-1, M) | some i => (nI i, wJ M 126 3 (rJ M 126 3 ||| shlJ 1 (nI i)))) := by
  intro d
  induction d with
  | zero =>
    intro f k hk hf
    obtain ⟨f, rfl⟩ : ∃ f', f = f' + 1 := ⟨f - 1, by omega⟩
    show fX8_chooseFor_l2_s N 126 (nI cell) (nI n) M (fX8_chooseFor_l2 N 126 (nI cell) (nI n) M f) (nI k) = _
    unfold fX8_chooseFor_l2_s
    rw [if_pos (nI_le (by omega) (by omega))]
    rfl
  | succ d ih =>
    intro f k hk hf
    obtain ⟨f, rfl⟩ : ∃ f', f = f' + 1 := ⟨f - 1, by omega⟩
    obtain ⟨h1, h2, h3⟩ := h k (by omega)
    have ih := ih f (k + 1) (by omega) (by omega)
    show fX8_chooseFor_l2_s N 126 (nI cell) (nI n) M (fX8_chooseFor_l2 N 126 (nI cell) (nI n) M f) (nI k) = _
    unfold fX8_chooseFor_l2_s fX8_chooseFor_b49
    rw [if_neg (nI_ge (show k < n by omega) (by omega)), nI_1, ih, chs_s, show (126 + 1 : Nat) = 127 from rfl]
    cases e : tk k with
    | true =>
      rw [if_neg (fun z => by rw [(bl_test _ (by omega)).mp z] at h3; rw [e] at h3; cases h3), if_neg (fun z => by cases z.1)]
    | false =>
      rw [if_pos ((bl_test _ (by omega)).mpr (by rw [h3, e])), if_pos (inB_nI (by omega) (by decide)), nI_clamp (by omega), h1]
      cases e2 : bl (H k) cell with
      | true => rw [if_neg (fun z => by rw [(bl_test _ hc).mp z] at e2; cases e2), if_pos ⟨rfl, rfl⟩]
      | false => rw [if_pos ((bl_test _ hc).mpr e2), if_neg (fun z => by cases z.2)]
theorem c_joinTo {N n cell b : Nat} {M : Mem} {H : Nat → Int64} {A : Nat → Int32} {tk : Nat → Bool} (hN : 700 ≤ N) (h : cSV M H A tk n) (hn : n ≤ 40) (hc : cell < 64) (hb : b < n) :
    Yo (fX8_joinTo N 126 (nI b) (nI cell) (nI n) M) (fun x => smF [127, 128] M x ∧ ∀ j, j < n → rJ x 127 j = jH H b cell j ∧ rI x 128 j = jA H A b cell j) := by
  unfold fX8_joinTo
  refine yo_f2 (F := fX8_joinTo_l3 N 126 (nI b) (nI cell) (nI n)) n (fun k v M2 => v = nI k ∧ smF [127, 128] M M2 ∧ (∀ j, j < k → rJ M2 127 j = jH H b cell j ∧ rI M2 128 j = jA H A b cell j) ∧ (∀ j, j < n → (k ≤ j ∨ j = b) → rJ M2 127 j = H j ∧ rI M2 128 j = A j)) ?_ N 0 _ _ (by omega) (by omega) ⟨rfl, smF.refl, fun j hj => absurd hj (Nat.not_lt_zero j), fun j hj _ => ⟨(h j hj).1, (h j hj).2.1⟩⟩
  intro f k v M2 hk ⟨hv, g1, g2, g3⟩ ih
  subst hv
  show Yo (fX8_joinTo_l3_s N 126 (nI b) (nI cell) (nI n) (fX8_joinTo_l3 N 126 (nI b) (nI cell) (nI n) f) (nI k) M2) _
  unfold fX8_joinTo_l3_s fX8_joinTo_b63
  rcases Nat.lt_or_ge k n with hlt | hge
  · rw [if_neg (nI_ge hlt (by omega)), nI_1]
    have same : ∀ (hs : jH H b cell k = H k ∧ jA H A b cell k = A k), Yo (fX8_joinTo_l3 N 126 (nI b) (nI cell) (nI n) f (nI (k + 1)) M2) (fun x => smF [127, 128] M x ∧ ∀ j, j < n → rJ x 127 j = jH H b cell j ∧ rI x 128 j = jA H A b cell j) := by
      intro hs
      refine ih _ _ hlt ⟨rfl, g1, fun j hj => ?_, fun j hj hq => g3 j hj (by omega)⟩
      by_cases e : j = k
      · subst e
        obtain ⟨w1, w2⟩ := g3 j (by omega) (Or.inl (Nat.le_refl j))
        exact ⟨by rw [w1, hs.1], by rw [w2, hs.2]⟩
      · exact g2 j (by omega)
    by_cases ekb : k = b
    · rw [if_pos (by rw [ekb])]
      refine same ⟨?_, ?_⟩
      · unfold jH; rw [if_neg (fun z => z.1 ekb)]
      · unfold jA; rw [if_neg (fun z => z.1 ekb)]
    · rw [if_neg (fun z => ekb ((nI_eq (by omega) (by omega)).mp z)), if_pos (inB_nI (by omega) (by decide)), nI_clamp (by omega), show (126 + 1 : Nat) = 127 from rfl, (g3 k hlt (Or.inl (Nat.le_refl k))).1]
      cases e2 : bl (H k) cell with
      | false =>
        rw [if_pos ((bl_test _ hc).mpr e2)]
        refine same ⟨?_, ?_⟩
        · unfold jH; rw [if_neg (fun z => by rw [e2] at z; cases z.2)]
        · unfold jA; rw [if_neg (fun z => by rw [e2] at z; cases z.2)]
      | true =>
        have eb := g3 b hb (Or.inr rfl)
        have ek := g3 k hlt (Or.inl (Nat.le_refl k))
        rw [if_neg (fun z => by rw [(bl_test _ hc).mp z] at e2; cases e2), if_pos (inB_nI (show k < 40 by omega) (by decide)), if_pos (inB_nI (show b < 40 by omega) (by decide)), if_pos (inB_nI (show k < 40 by omega) (by decide)), if_pos (inB_nI (show k < 40 by omega) (by decide)), if_pos (inB_nI (show b < 40 by omega) (by decide)), if_pos (inB_nI (show k < 40 by omega) (by decide)), nI_clamp (show b < 2147483648 by omega), eb.1, rI_wJ, rI_wJ, show (126 + 2 : Nat) = 128 from rfl, eb.2, ek.2]
        have hj1 : jH H b cell k = H k ^^^ H b := by unfold jH; rw [if_pos ⟨ekb, e2⟩]
        have hj2 : jA H A b cell k = A k ^^^ A b := by unfold jA; rw [if_pos ⟨ekb, e2⟩]
        refine ih _ _ hlt ⟨rfl, (g1.pJ_ (by simp) _ _).pI_ (by simp) _ _, fun j hj => ?_, fun j hj hq => ?_⟩
        · rw [rJ_wI, rJ_wJ, rI_wI, rI_wJ]
          by_cases e : j = k
          · rw [if_pos ⟨rfl, e⟩, if_pos ⟨rfl, e⟩, e, hj1, hj2]; exact ⟨rfl, rfl⟩
          · rw [if_neg (fun z => e z.2), if_neg (fun z => e z.2)]; exact g2 j (by omega)
        · rw [rJ_wI, rJ_wJ, rI_wI, rI_wJ, if_neg (by omega), if_neg (by omega)]
          exact g3 j hj (by omega)
  · rw [if_pos (nI_le hge (by omega)), yo_s]
    exact ⟨g1, fun j hj => g2 j (by omega)⟩
theorem r_choose {N n cell : Nat} {M : Mem} {H : Nat → Int64} {A : Nat → Int32} {tk : Nat → Bool} {v1 : Int32} {k2 : Int32 → Mem → Option (Bool × Mem)} (h : rSV M H A tk n) (hn : n ≤ 40) (hc : cell < 64) (h0 : rI M 153 cell = -1) : ∀ (d f k : Nat), k + d = n → d < f →
    fX11_canSolve_l22 N k2 140 v1 (nI n) (nI cell) f (nI k) M = (match chs H tk cell d k with | none => fX11_canSolve_b78 N k2 140 v1 (nI n) (nI cell) M | some i => fX11_canSolve_b78 N k2 140 v1 (nI n) (nI cell) (wI M 153 cell (nI i))) := by
  intro d
  induction d with
  | zero =>
    intro f k hk hf
    obtain ⟨f, rfl⟩ : ∃ f', f = f' + 1 := ⟨f - 1, by omega⟩
    show fX11_canSolve_l22_s N k2 140 v1 (nI n) (nI cell) (fX11_canSolve_l22 N k2 140 v1 (nI n) (nI cell) f) (nI k) M = _
    unfold fX11_canSolve_l22_s
    rw [if_pos (nI_le (by omega) (by omega))]
    rfl
  | succ d ih =>
    intro f k hk hf
    obtain ⟨f, rfl⟩ : ∃ f', f = f' + 1 := ⟨f - 1, by omega⟩
    obtain ⟨h1, h2, h3⟩ := h k (by omega)
    have ih := ih f (k + 1) (by omega) (by omega)
    show fX11_canSolve_l22_s N k2 140 v1 (nI n) (nI cell) (fX11_canSolve_l22 N k2 140 v1 (nI n) (nI cell) f) (nI k) M = _
    unfold fX11_canSolve_l22_s fX11_canSolve_b72
    rw [if_neg (nI_ge (show k < n by omega) (by omega)), nI_1, ih, chs_s, if_pos (inB_nI hc (by decide)), nI_clamp (show cell < 2147483648 by omega), show (140 + 13 : Nat) = 153 from rfl, h0, if_pos rfl, if_pos (inB_nI (show k < 40 by omega) (by decide)), nI_clamp (show k < 2147483648 by omega), show (140 + 14 : Nat) = 154 from rfl, show (140 + 11 : Nat) = 151 from rfl, h3, h1]
    cases e : tk k with
    | true =>
      rw [if_neg (by decide), if_neg (fun z => by cases z.1)]
    | false =>
      rw [if_pos (by decide), if_pos (inB_nI (show k < 40 by omega) (by decide))]
      cases e2 : bl (H k) cell with
      | false => rw [if_neg (fun z => by rw [(bl_testS1 _ hc).mp z] at e2; cases e2), if_neg (fun z => by cases z.2)]
      | true =>
        rw [if_pos ((bl_testS1 _ hc).mpr e2), if_pos (inB_nI hc (by decide)), if_pos ⟨rfl, rfl⟩]
        obtain ⟨f, rfl⟩ : ∃ f', f = f' + 1 := ⟨f - 1, by omega⟩
        show fX11_canSolve_l22_s N k2 140 v1 (nI n) (nI cell) (fX11_canSolve_l22 N k2 140 v1 (nI n) (nI cell) f) (nI (k + 1)) (wI M 153 cell (nI k)) = _
        unfold fX11_canSolve_l22_s
        have hv : rI (wI M 153 cell (nI k)) 153 cell = nI k := by rw [rI_wI, if_pos ⟨rfl, rfl⟩]
        by_cases hle : nI n ≤ nI (k + 1)
        · rw [if_pos hle]
        · rw [if_neg hle, if_pos (inB_nI hc (by decide)), nI_clamp (show cell < 2147483648 by omega), show (140 + 13 : Nat) = 153 from rfl, hv, if_neg (show ¬ nI k = (-1 : Int32) from by rw [li_1]; exact fun z => (nI_ng (by omega) (by omega) (by omega)).mp z)]
theorem r_joinTo {N n cell b : Nat} {M : Mem} {H : Nat → Int64} {A : Nat → Int32} {v1 : Int32} {k2 : Int32 → Mem → Option (Bool × Mem)} (hN : 700 ≤ N) (h : ∀ i, i < n → rJ M 151 i = H i ∧ rI M 152 i = A i) (hn : n ≤ 40) (hc : cell < 64) (hb : b < n) :
    ∃ M1, smF [151, 152] M M1 ∧ (∀ j, j < n → rJ M1 151 j = jH H b cell j ∧ rI M1 152 j = jA H A b cell j) ∧ fX11_canSolve_l106 N k2 140 v1 (nI n) (nI cell) (nI b) N (0 : Int32) M = k2 (nI cell + 1) M1 := by
  obtain ⟨v, M1, ⟨hv, g1, g2, g3⟩, e⟩ := ex_f2 (F := fX11_canSolve_l106 N k2 140 v1 (nI n) (nI cell) (nI b)) n (fun k v M2 => v = nI k ∧ smF [151, 152] M M2 ∧ (∀ j, j < k → rJ M2 151 j = jH H b cell j ∧ rI M2 152 j = jA H A b cell j) ∧ (∀ j, j < n → (k ≤ j ∨ j = b) → rJ M2 151 j = H j ∧ rI M2 152 j = A j)) (by
    intro f k v M2 hlt ⟨hv, g1, g2, g3⟩
    subst hv
    have same : ∀ (hs : jH H b cell k = H k ∧ jA H A b cell k = A k), ((nI (k + 1) = nI (k + 1)) ∧ smF [151, 152] M M2 ∧ (∀ j, j < k + 1 → rJ M2 151 j = jH H b cell j ∧ rI M2 152 j = jA H A b cell j) ∧ (∀ j, j < n → (k + 1 ≤ j ∨ j = b) → rJ M2 151 j = H j ∧ rI M2 152 j = A j)) := by
      intro hs
      refine ⟨rfl, g1, fun j hj => ?_, fun j hj hq => g3 j hj (by omega)⟩
      by_cases e : j = k
      · subst e
        obtain ⟨w1, w2⟩ := g3 j (by omega) (Or.inl (Nat.le_refl j))
        exact ⟨by rw [w1, hs.1], by rw [w2, hs.2]⟩
      · exact g2 j (by omega)
    by_cases ekb : k = b
    · refine ⟨_, _, same ⟨?_, ?_⟩, ?_⟩
      · unfold jH; rw [if_neg (fun z => z.1 ekb)]
      · unfold jA; rw [if_neg (fun z => z.1 ekb)]
      · show fX11_canSolve_l106_s N k2 140 v1 (nI n) (nI cell) (nI b) (fX11_canSolve_l106 N k2 140 v1 (nI n) (nI cell) (nI b) f) (nI k) M2 = _
        unfold fX11_canSolve_l106_s fX11_canSolve_b172
        rw [if_neg (nI_ge hlt (by omega)), nI_1, if_pos (by rw [ekb])]
    · have ek := g3 k hlt (Or.inl (Nat.le_refl k))
      have eb := g3 b hb (Or.inr rfl)
      have hun : fX11_canSolve_l106 N k2 140 v1 (nI n) (nI cell) (nI b) (f + 1) (nI k) M2 = if bl (H k) cell = true then fX11_canSolve_l106 N k2 140 v1 (nI n) (nI cell) (nI b) f (nI (k + 1)) (wI (wJ M2 151 k (H k ^^^ H b)) 152 k (A k ^^^ A b)) else fX11_canSolve_l106 N k2 140 v1 (nI n) (nI cell) (nI b) f (nI (k + 1)) M2 := by
        show fX11_canSolve_l106_s N k2 140 v1 (nI n) (nI cell) (nI b) (fX11_canSolve_l106 N k2 140 v1 (nI n) (nI cell) (nI b) f) (nI k) M2 = _
        unfold fX11_canSolve_l106_s fX11_canSolve_b172
        rw [if_neg (nI_ge hlt (by omega)), nI_1, if_neg (fun z => ekb ((nI_eq (by omega) (by omega)).mp z)), if_pos (inB_nI (show k < 40 by omega) (by decide)), nI_clamp (show k < 2147483648 by omega), show (140 + 11 : Nat) = 151 from rfl, show (140 + 12 : Nat) = 152 from rfl, ek.1]
        cases e2 : bl (H k) cell with
        | false => rw [if_pos ((bl_testS _ hc).mpr e2), if_neg (by decide)]
        | true => rw [if_neg (fun z => by rw [(bl_testS _ hc).mp z] at e2; cases e2), if_pos (inB_nI (show k < 40 by omega) (by decide)), if_pos (inB_nI (show b < 40 by omega) (by decide)), if_pos (inB_nI (show k < 40 by omega) (by decide)), if_pos (inB_nI (show k < 40 by omega) (by decide)), if_pos (inB_nI (show b < 40 by omega) (by decide)), if_pos (inB_nI (show k < 40 by omega) (by decide)), nI_clamp (show b < 2147483648 by omega), eb.1, rI_wJ, rI_wJ, eb.2, ek.2, if_pos rfl]
      rw [hun]
      cases e2 : bl (H k) cell with
      | false =>
        refine ⟨_, _, same ⟨?_, ?_⟩, by rw [if_neg (by decide)]⟩
        · unfold jH; rw [if_neg (fun z => by rw [e2] at z; cases z.2)]
        · unfold jA; rw [if_neg (fun z => by rw [e2] at z; cases z.2)]
      | true =>
        have hj1 : jH H b cell k = H k ^^^ H b := by unfold jH; rw [if_pos ⟨ekb, e2⟩]
        have hj2 : jA H A b cell k = A k ^^^ A b := by unfold jA; rw [if_pos ⟨ekb, e2⟩]
        refine ⟨_, _, ⟨rfl, (g1.pJ_ (a := 151) (by simp) k (H k ^^^ H b)).pI_ (a := 152) (by simp) k (A k ^^^ A b), fun j hj => ?_, fun j hj hq => ?_⟩, by rw [if_pos rfl]⟩
        · rw [rJ_wI, rJ_wJ, rI_wI, rI_wJ]
          by_cases e : j = k
          · rw [if_pos ⟨rfl, e⟩, if_pos ⟨rfl, e⟩, e, hj1, hj2]; exact ⟨rfl, rfl⟩
          · rw [if_neg (fun z => e z.2), if_neg (fun z => e z.2)]; exact g2 j (by omega)
        · rw [rJ_wI, rJ_wJ, rI_wI, rI_wJ, if_neg (by omega), if_neg (by omega)]
          exact g3 j hj (by omega))
    n N 0 (0 : Int32) M (by omega) (by omega) ⟨rfl, smF.refl, fun j hj => absurd hj (Nat.not_lt_zero j), fun j hj _ => h j hj⟩
  refine ⟨M1, g1, g2, ?_⟩
  rw [e]
  obtain ⟨f, hf⟩ : ∃ f, N - n = f + 1 := ⟨N - n - 1, by omega⟩
  rw [hf, hv]
  show fX11_canSolve_l106_s N k2 140 v1 (nI n) (nI cell) (nI b) (fX11_canSolve_l106 N k2 140 v1 (nI n) (nI cell) (nI b) f) (nI n) M1 = _
  unfold fX11_canSolve_l106_s fX11_canSolve_b178
  rw [if_pos (nI_le (Nat.le_refl n) (by omega))]
