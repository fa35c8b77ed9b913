/-! RULES, THE TOKENS: what both readers see in the text t of n bytes -/
def runE (P : Nat → Bool) (n : Nat) : Nat → Nat → Nat
  | 0, p => p
  | f + 1, p => if p < n ∧ P p = true then runE P n f (p + 1) else p
def lxE (P : Nat → Bool) (n p : Nat) : Nat := runE P n (n - p) p
theorem lxE_s {P : Nat → Bool} {n p : Nat} (h : p < n ∧ P p = true) : lxE P n p = lxE P n (p + 1) := by
  have h1 := h.1
  unfold lxE
  obtain ⟨f, hf⟩ : ∃ f, n - p = f + 1 := ⟨n - p - 1, by omega⟩
  rw [hf, show n - (p + 1) = f by omega]
  show (if p < n ∧ P p = true then runE P n f (p + 1) else p) = _
  rw [if_pos h]
theorem lxE_e {P : Nat → Bool} {n p : Nat} (h : ¬ (p < n ∧ P p = true)) : lxE P n p = p := by
  unfold lxE
  cases n - p with
  | zero => rfl
  | succ f =>
    show (if p < n ∧ P p = true then runE P n f (p + 1) else p) = p
    rw [if_neg h]
theorem runE_b (P : Nat → Bool) (n : Nat) : ∀ f p, p ≤ runE P n f p ∧ (p ≤ n → runE P n f p ≤ n) := by
  intro f
  induction f with
  | zero => intro p; exact ⟨Nat.le_refl p, id⟩
  | succ f ih =>
    intro p
    show p ≤ (if p < n ∧ P p = true then runE P n f (p + 1) else p) ∧ (p ≤ n → (if p < n ∧ P p = true then runE P n f (p + 1) else p) ≤ n)
    by_cases c : p < n ∧ P p = true
    · rw [if_pos c]
      have := ih (p + 1)
      exact ⟨by omega, fun _ => this.2 (by omega)⟩
    · rw [if_neg c]; exact ⟨Nat.le_refl p, id⟩
theorem lxE_ge (P : Nat → Bool) (n p : Nat) : p ≤ lxE P n p := (runE_b P n _ p).1
theorem lxE_le {P : Nat → Bool} {n p : Nat} (h : p ≤ n) : lxE P n p ≤ n := (runE_b P n _ p).2 h
def uB (c : Nat) : Bool := decide (c = 10 ∨ c = 32)
def uL (c : Nat) : Bool := decide (97 ≤ c ∧ c ≤ 122)
def uD (c : Nat) : Bool := decide (48 ≤ c ∧ c ≤ 57)
def uS (c : Nat) : Bool := decide (c = 59 ∨ c = 40 ∨ c = 41 ∨ c = 43 ∨ c = 45 ∨ c = 42 ∨ c = 47 ∨ c = 37)
/-- what lies from b to e is the text s -/
def spW (t : Nat → Nat) (b e s : Nat) : Bool := decide (e = b + lenS s ∧ ∀ j, j < lenS s → nI (t (b + j)) = (bytS s).getD j 0)
def wdC (t : Nat → Nat) (b e : Nat) : Nat := if spW t b e 1 = true then 3 else if spW t b e 2 = true then 4 else if spW t b e 3 = true then 5 else if spW t b e 4 = true then 6 else if spW t b e 5 = true then 7 else if spW t b e 6 = true then 8 else 9
/-- where the token that begins at b ends, which it is, and what a number tells -/
def tkE (t : Nat → Nat) (n b : Nat) : Nat := if b < n then (if uL (t b) = true then lxE (fun j => uL (t j)) n b else if uD (t b) = true then lxE (fun j => uD (t j)) n b else b + 1) else b
def tkC (t : Nat → Nat) (n b : Nat) : Nat := if b < n then (if uL (t b) = true then wdC t b (tkE t n b) else if uD (t b) = true then (if tkE t n b - b ≤ 5 then 2 else 1) else if uS (t b) = true then t b else 1) else 0
def uV (t : Nat → Nat) (b : Nat) : Nat → Nat
  | 0 => 0
  | k + 1 => if k < 5 then uV t b k * 10 + t (b + k) - 48 else uV t b k
def tkV (t : Nat → Nat) (n b : Nat) : Nat := uV t b (tkE t n b - b)
/-- where the token behind e begins -/
def tkN (t : Nat → Nat) (n e : Nat) : Nat := lxE (fun j => uB (t j)) n e
theorem tkE_le {t : Nat → Nat} {n b : Nat} (h : b ≤ n) : tkE t n b ≤ n := by
  unfold tkE
  split
  · split
    · exact lxE_le h
    · split
      · exact lxE_le h
      · omega
  · exact h
theorem tkE_gt {t : Nat → Nat} {n b : Nat} (h : b < n) : b < tkE t n b := by
  unfold tkE
  rw [if_pos h]
  split
  · rename_i q
    rw [lxE_s (P := fun j => uL (t j)) ⟨h, q⟩]
    exact lxE_ge _ _ _
  · split
    · rename_i q
      rw [lxE_s (P := fun j => uD (t j)) ⟨h, q⟩]
      exact lxE_ge _ _ _
    · omega
theorem tkN_le {t : Nat → Nat} {n e : Nat} (h : e ≤ n) : tkN t n e ≤ n := lxE_le h
theorem tkN_ge (t : Nat → Nat) (n e : Nat) : e ≤ tkN t n e := lxE_ge _ _ _
theorem tkC_0 {t : Nat → Nat} {n b : Nat} (h : tkC t n b = 0) (ht : ∀ j, j < n → t j < 256) : n ≤ b := by
  rcases Nat.lt_or_ge b n with c | c
  · unfold tkC at h
    rw [if_pos c] at h
    split at h
    · unfold wdC at h
      repeat' split at h
      all_goals omega
    · split at h
      · split at h <;> omega
      · split at h
        · rename_i q
          unfold uS at q
          have := of_decide_eq_true q
          omega
        · omega
  · exact c
theorem uV_lt {t : Nat → Nat} {b : Nat} : ∀ k, (∀ j, j < k → uD (t (b + j)) = true) → (k ≤ 5 → uV t b k + 1 ≤ 10 ^ k) ∧ uV t b k ≤ 99999
  | 0, _ => ⟨fun _ => Nat.le_refl 1, Nat.zero_le _⟩
  | k + 1, h => by
    have ih := uV_lt (t := t) (b := b) k (fun j hj => h j (by omega))
    have hd := of_decide_eq_true (h k (by omega))
    unfold uV
    rcases Nat.lt_or_ge k 5 with c | c
    · rw [if_pos c]
      have h1 := ih.1 (by omega)
      have h2 : uV t b k * 10 + t (b + k) - 48 + 1 ≤ 10 ^ (k + 1) := by rw [Nat.pow_succ]; omega
      refine ⟨fun _ => h2, ?_⟩
      have h3 : 10 ^ (k + 1) ≤ 10 ^ 5 := Nat.pow_le_pow_right (by omega) (by omega)
      omega
    · rw [if_neg (by omega)]
      exact ⟨fun q => by omega, ih.2⟩
theorem nI_sub {a b : Nat} (h : b ≤ a) : nI a - nI b = nI (a - b) := by
  obtain ⟨c, rfl⟩ : ∃ c, a = c + b := ⟨a - b, by omega⟩
  rw [← nI_add, Int32.add_sub_cancel, Nat.add_sub_cancel]
theorem k_blank (c : Nat) (hc : c < 256) (M : Mem) : fX4_isBlank (nI c) M = some (uB c) := (show fX4_isBlank (nI c) M = fX4_isBlank (nI c) zM from rfl).trans ((by decide +kernel : ∀ c, c < 256 → fX4_isBlank (nI c) zM = some (uB c)) c hc)
theorem k_letter (c : Nat) (hc : c < 256) (M : Mem) : fX4_isLetter (nI c) M = some (uL c) := (show fX4_isLetter (nI c) M = fX4_isLetter (nI c) zM from rfl).trans ((by decide +kernel : ∀ c, c < 256 → fX4_isLetter (nI c) zM = some (uL c)) c hc)
theorem k_digit (c : Nat) (hc : c < 256) (M : Mem) : fX4_isDigit (nI c) M = some (uD c) := (show fX4_isDigit (nI c) M = fX4_isDigit (nI c) zM from rfl).trans ((by decide +kernel : ∀ c, c < 256 → fX4_isDigit (nI c) zM = some (uD c)) c hc)
theorem k_len (s : Nat) (hs : s < 40) (M : Mem) : fJ0_length_8abf5 s M = some (nI (lenS s)) := (show fJ0_length_8abf5 s M = fJ0_length_8abf5 s zM from rfl).trans ((by decide +kernel : ∀ s, s < 40 → fJ0_length_8abf5 s zM = some (nI (lenS s))) s hs)
def wdS : List Nat := [1, 2, 3, 4, 5, 6, 34, 35, 36, 37, 38, 39]
theorem k_char (s : Nat) (hs : s ∈ wdS) (j : Nat) (hj : j < lenS s) (M : Mem) : fJ0_charAt_5068e s (nI j) M = some ((bytS s).getD j 0) := (show fJ0_charAt_5068e s (nI j) M = fJ0_charAt_5068e s (nI j) zM from rfl).trans ((by decide +kernel : ∀ s ∈ wdS, ∀ j, j < lenS s → fJ0_charAt_5068e s (nI j) zM = some ((bytS s).getD j 0)) s hs j hj)
theorem wdS_lt : ∀ s ∈ wdS, s < 40 ∧ lenS s ≤ 5 := by decide +kernel
/-- the class's text -/
def lxT (M : Mem) (n : Nat) (t : Nat → Nat) : Prop := n ≤ 600 ∧ rI M 111 7 = nI n ∧ ∀ j, j < n → t j < 256 ∧ rI M 119 j &&& 255 = nI (t j)
theorem lxT.mv {M M' : Mem} {n : Nat} {t : Nat → Nat} (h : lxT M n t) (h7 : rI M' 111 7 = rI M 111 7) (h9 : M' 119 = M 119) : lxT M' n t :=
  ⟨h.1, h7.trans h.2.1, fun j hj => ⟨(h.2.2 j hj).1, by rw [eqs_rI h9]; exact (h.2.2 j hj).2⟩⟩
theorem byteAt_ok {M : Mem} {n q : Nat} {t : Nat → Nat} (h : lxT M n t) (hq : q ≤ n) : fX4_byteAt 111 (nI q) M = some (if q < n then nI (t q) else -1) := by
  obtain ⟨h1, h2, h3⟩ := h
  unfold fX4_byteAt
  rw [if_neg (nI_pos (by omega)), h2]
  by_cases c : q < n
  · rw [if_neg (nI_ge c (by omega)), if_neg (show ¬ (600 : Int32) ≤ nI q from nI_ge (b := 600) (by omega) (by decide)), if_pos (inB_nI (by omega) (by decide)), nI_clamp (by omega), if_pos c]
    show some (rI M 119 q &&& 255) = _
    rw [(h3 q c).2]
  · rw [if_pos (nI_le (by omega) (by omega)), if_neg c]
    rfl
theorem at_blank {α : Type} {M : Mem} {n q : Nat} {t : Nat → Nat} (h : lxT M n t) (hq : q ≤ n) (f : Bool → Option α) : ((fX4_byteAt 111 (nI q) M).bind fun x => (fX4_isBlank x M).bind f) = f (decide (q < n ∧ uB (t q) = true)) := by
  rw [byteAt_ok h hq, Option.bind_some]
  by_cases c : q < n
  · rw [if_pos c, k_blank _ (h.2.2 q c).1, Option.bind_some]
    congr 1
    cases e : uB (t q)
    · exact (decide_eq_false (fun z => by cases z.2)).symm
    · exact (decide_eq_true ⟨c, rfl⟩).symm
  · rw [if_neg c, show fX4_isBlank (-1) M = some false from rfl, Option.bind_some]
    congr 1
    exact (decide_eq_false (fun z => c z.1)).symm
theorem at_letter {α : Type} {M : Mem} {n q : Nat} {t : Nat → Nat} (h : lxT M n t) (hq : q ≤ n) (f : Bool → Option α) : ((fX4_byteAt 111 (nI q) M).bind fun x => (fX4_isLetter x M).bind f) = f (decide (q < n ∧ uL (t q) = true)) := by
  rw [byteAt_ok h hq, Option.bind_some]
  by_cases c : q < n
  · rw [if_pos c, k_letter _ (h.2.2 q c).1, Option.bind_some]
    congr 1
    cases e : uL (t q)
    · exact (decide_eq_false (fun z => by cases z.2)).symm
    · exact (decide_eq_true ⟨c, rfl⟩).symm
  · rw [if_neg c, show fX4_isLetter (-1) M = some false from rfl, Option.bind_some]
    congr 1
    exact (decide_eq_false (fun z => c z.1)).symm
theorem at_digit {α : Type} {M : Mem} {n q : Nat} {t : Nat → Nat} (h : lxT M n t) (hq : q ≤ n) (f : Bool → Option α) : ((fX4_byteAt 111 (nI q) M).bind fun x => (fX4_isDigit x M).bind f) = f (decide (q < n ∧ uD (t q) = true)) := by
  rw [byteAt_ok h hq, Option.bind_some]
  by_cases c : q < n
  · rw [if_pos c, k_digit _ (h.2.2 q c).1, Option.bind_some]
    congr 1
    cases e : uD (t q)
    · exact (decide_eq_false (fun z => by cases z.2)).symm
    · exact (decide_eq_true ⟨c, rfl⟩).symm
  · rw [if_neg c, show fX4_isDigit (-1) M = some false from rfl, Option.bind_some]
    congr 1
    exact (decide_eq_false (fun z => c z.1)).symm
theorem c_spells {N s n b e : Nat} {t : Nat → Nat} {M : Mem} (hN : 700 ≤ N) (hs : s ∈ wdS) (h : lxT M n t) (h8 : rI M 111 8 = nI b) (h9 : rI M 111 9 = nI e) (hbe : b ≤ e) (he : e ≤ n) : fX4_spells N 111 s M = some (spW t b e s) := by
  have hn := h.1
  obtain ⟨s40, s5⟩ := wdS_lt s hs
  unfold fX4_spells
  rw [k_len s s40, Option.bind_some, h8, h9, nI_sub hbe]
  by_cases c : e = b + lenS s
  · rw [if_pos (by congr 1; omega)]
    rw [← yo_eq]
    refine yo_f1 (F := fX4_spells_l20 N 111 s M) (lenS s) (fun j v => v = nI j ∧ ∀ i, i < j → nI (t (b + i)) = (bytS s).getD i 0) ?_ N 0 _ (by omega) (by omega) ⟨rfl, fun i hi => absurd hi (Nat.not_lt_zero i)⟩
    intro f j v hj ⟨hv, hi⟩ ih
    subst hv
    show Yo (fX4_spells_l20_s N 111 s M (fX4_spells_l20 N 111 s M f) (nI j)) _
    unfold fX4_spells_l20_s
    rw [k_len s s40, Option.bind_some]
    rcases Nat.lt_or_ge j (lenS s) with hlt | hge
    · rw [if_neg (nI_ge hlt (by omega)), h8, nI_add, byteAt_ok h (by omega), Option.bind_some, if_pos (by omega), k_char s hs j hlt, Option.bind_some, nI_1]
      by_cases q : nI (t (b + j)) = (bytS s).getD j 0
      · rw [if_pos q]
        refine ih _ hlt ⟨rfl, fun i hi' => ?_⟩
        by_cases z : i = j
        · rw [z]; exact q
        · exact hi i (by omega)
      · rw [if_neg q, yo_s]
        exact (decide_eq_false (fun z => q (z.2 j hlt))).symm
    · have ej : j = lenS s := by omega
      subst ej
      rw [if_pos (nI_le hge (by omega)), yo_s]
      exact (decide_eq_true ⟨c, hi⟩).symm
  · rw [if_neg (fun z => c (by rw [nI_eq (by omega) (by omega)] at z; omega))]
    congr 1
    exact (decide_eq_false (fun z => c z.1)).symm
/-- what the class's reader holds of the token that begins at b -/
def lxC (M : Mem) (t : Nat → Nat) (n b : Nat) : Prop := rI M 111 8 = nI b ∧ rI M 111 9 = nI (tkE t n b) ∧ rI M 111 10 = nI (tkC t n b) ∧ (tkC t n b = 2 → rI M 111 11 = nI (tkV t n b))
theorem scanWord_ok {N n b : Nat} {t : Nat → Nat} {M : Mem} (hN : 700 ≤ N) (h : lxT M n t) (h8 : rI M 111 8 = nI b) (h9 : rI M 111 9 = nI b) (hb : b < n) : Yo (fX4_scanWord N 111 M) (fun x => x.1 = nI (wdC t b (lxE (fun j => uL (t j)) n b)) ∧ smF [111] M x.2 ∧ rI x.2 111 9 = nI (lxE (fun j => uL (t j)) n b) ∧ ∀ k, k ≠ 9 → rI x.2 111 k = rI M 111 k) := by
  have hn := h.1
  unfold fX4_scanWord
  refine yo_f2 (F := fX4_scanWord_l2 N 111) n (fun q v M' => b ≤ q ∧ v = nI (q - b) ∧ smF [111] M M' ∧ rI M' 111 9 = nI q ∧ (∀ k, k ≠ 9 → rI M' 111 k = rI M 111 k) ∧ lxE (fun j => uL (t j)) n q = lxE (fun j => uL (t j)) n b) ?_ N b _ _ (by omega) (by omega) ⟨Nat.le_refl b, by rw [Nat.sub_self]; rfl, smF.refl, h9, fun k _ => rfl, rfl⟩
  intro f q v M' hq ⟨hbq, hv, hF, g9, gk, hE⟩ ih
  subst hv
  show Yo (fX4_scanWord_l2_s N 111 (fX4_scanWord_l2 N 111 f) (nI (q - b)) M') _
  unfold fX4_scanWord_l2_s
  have hT : lxT M' n t := h.mv (gk 7 (by decide)) (hF 119 (by decide))
  rw [hT.2.1, if_neg (nI_nlt (by omega) (by omega)), g9, at_letter hT hq, nI_1, nI_1]
  by_cases c : q < n ∧ uL (t q) = true
  · rw [if_pos (decide_eq_true c)]
    refine ih _ _ c.1 ⟨by omega, by congr 1; omega, hF.pI_ (by simp) _ _, ?_, fun k hk => ?_, ?_⟩
    · rw [rI_wI, if_pos ⟨rfl, rfl⟩]
    · rw [rI_wI, if_neg (fun z => hk z.2)]; exact gk k hk
    · rw [← hE]; exact (lxE_s (P := fun j => uL (t j)) c).symm
  · have eq : q = lxE (fun j => uL (t j)) n b := by rw [← hE]; exact (lxE_e (P := fun j => uL (t j)) c).symm
    rw [if_neg (fun z => c (of_decide_eq_true z))]
    unfold fX4_scanWord_b40
    have h8' : rI M' 111 8 = nI b := (gk 8 (by decide)).trans h8
    rw [c_spells hN (by decide) hT h8' g9 hbq hq, c_spells hN (by decide) hT h8' g9 hbq hq, c_spells hN (by decide) hT h8' g9 hbq hq, c_spells hN (by decide) hT h8' g9 hbq hq, c_spells hN (by decide) hT h8' g9 hbq hq, c_spells hN (by decide) hT h8' g9 hbq hq]
    simp only [Option.bind_some]
    have fin : ∀ c : Int32, c = nI (wdC t b q) → Yo (some (c, M')) (fun x => x.1 = nI (wdC t b (lxE (fun j => uL (t j)) n b)) ∧ smF [111] M x.2 ∧ rI x.2 111 9 = nI (lxE (fun j => uL (t j)) n b) ∧ ∀ k, k ≠ 9 → rI x.2 111 k = rI M 111 k) := fun c hc => yo_s.mpr ⟨by rw [← eq]; exact hc, hF, by rw [← eq]; exact g9, gk⟩
    unfold wdC at fin
    by_cases c1 : spW t b q 1 = true
    · rw [if_pos c1] at fin ⊢; exact fin _ rfl
    · rw [if_neg c1] at fin ⊢
      by_cases c2 : spW t b q 2 = true
      · rw [if_pos c2] at fin ⊢; exact fin _ rfl
      · rw [if_neg c2] at fin ⊢
        by_cases c3 : spW t b q 3 = true
        · rw [if_pos c3] at fin ⊢; exact fin _ rfl
        · rw [if_neg c3] at fin ⊢
          by_cases c4 : spW t b q 4 = true
          · rw [if_pos c4] at fin ⊢; exact fin _ rfl
          · rw [if_neg c4] at fin ⊢
            by_cases c5 : spW t b q 5 = true
            · rw [if_pos c5] at fin ⊢; exact fin _ rfl
            · rw [if_neg c5] at fin ⊢
              by_cases c6 : spW t b q 6 = true
              · rw [if_pos c6] at fin ⊢; exact fin _ rfl
              · rw [if_neg c6] at fin ⊢; exact fin _ rfl
theorem scanNumber_ok {N n b : Nat} {t : Nat → Nat} {M : Mem} (hN : 700 ≤ N) (h : lxT M n t) (h8 : rI M 111 8 = nI b) (h9 : rI M 111 9 = nI b) (hb : b < n) : Yo (fX4_scanNumber N 111 M) (fun x => x.1 = nI (if lxE (fun j => uD (t j)) n b - b ≤ 5 then 2 else 1) ∧ smF [111] M x.2 ∧ rI x.2 111 9 = nI (lxE (fun j => uD (t j)) n b) ∧ rI x.2 111 11 = nI (uV t b (lxE (fun j => uD (t j)) n b - b)) ∧ ∀ k, k ≠ 9 → k ≠ 11 → rI x.2 111 k = rI M 111 k) := by
  have hn := h.1
  unfold fX4_scanNumber
  refine yo_f2 (F := fX4_scanNumber_l7 N 111) n (fun q v M' => b ≤ q ∧ v = nI (q - b) ∧ smF [111] M M' ∧ rI M' 111 9 = nI q ∧ rI M' 111 11 = nI (uV t b (q - b)) ∧ (∀ k, k ≠ 9 → k ≠ 11 → rI M' 111 k = rI M 111 k) ∧ lxE (fun j => uD (t j)) n q = lxE (fun j => uD (t j)) n b) ?_ N b _ _ (by omega) (by omega) ⟨Nat.le_refl b, by rw [Nat.sub_self]; rfl, smF.refl.pI_ (by simp) _ _, ?_, ?_, fun k h1 h2 => ?_, rfl⟩
  · intro f q v M' hq ⟨hbq, hv, hF, g9, g11, gk, hE⟩ ih
    subst hv
    show Yo (fX4_scanNumber_l7_s N 111 (fX4_scanNumber_l7 N 111 f) (nI (q - b)) M') _
    unfold fX4_scanNumber_l7_s
    have hT : lxT M' n t := h.mv (gk 7 (by decide) (by decide)) (hF 119 (by decide))
    rw [hT.2.1, if_neg (nI_nlt (by omega) (by omega)), g9, at_digit hT hq]
    by_cases c : q < n ∧ uD (t q) = true
    · rw [if_pos (decide_eq_true c)]
      have go : ∀ v : Int32, v = nI (uV t b (q + 1 - b)) → Yo (fX4_scanNumber_b61 N (fX4_scanNumber_l7 N 111 f) 111 (nI (q - b)) v 111 M') (fun x => x.1 = nI (if lxE (fun j => uD (t j)) n b - b ≤ 5 then 2 else 1) ∧ smF [111] M x.2 ∧ rI x.2 111 9 = nI (lxE (fun j => uD (t j)) n b) ∧ rI x.2 111 11 = nI (uV t b (lxE (fun j => uD (t j)) n b - b)) ∧ ∀ k, k ≠ 9 → k ≠ 11 → rI x.2 111 k = rI M 111 k) := by
        intro v hv
        unfold fX4_scanNumber_b61
        have e9 : rI (wI M' 111 11 v) 111 9 = nI q := by rw [rI_wI, if_neg (by omega)]; exact g9
        rw [e9, nI_1, nI_1]
        refine ih _ _ c.1 ⟨by omega, by congr 1; omega, (hF.pI_ (by simp) _ _).pI_ (by simp) _ _, ?_, ?_, fun k h1 h2 => ?_, ?_⟩
        · rw [rI_wI, if_pos ⟨rfl, rfl⟩]
        · rw [rI_wI, if_neg (by omega), rI_wI, if_pos ⟨rfl, rfl⟩]; exact hv
        · rw [rI_wI, if_neg (fun z => h1 z.2), rI_wI, if_neg (fun z => h2 z.2)]; exact gk k h1 h2
        · rw [← hE]; exact (lxE_s (P := fun j => uD (t j)) c).symm
      have e1 : q + 1 - b = (q - b) + 1 := by omega
      have hd := of_decide_eq_true c.2
      rcases Nat.lt_or_ge (q - b) 5 with c5 | c5
      · rw [if_neg (show ¬ (5 : Int32) ≤ nI (q - b) from nI_ge (b := 5) c5 (by decide)), byteAt_ok hT hq, Option.bind_some, if_pos c.1, g11]
        refine go _ ?_
        rw [e1]
        show _ = nI (if q - b < 5 then uV t b (q - b) * 10 + t (b + (q - b)) - 48 else uV t b (q - b))
        rw [if_pos c5, show b + (q - b) = q by omega, li_10, pk_mul, nI_add, li_48, nI_sub (by omega)]
      · rw [if_pos (show (5 : Int32) ≤ nI (q - b) from nI_le (a := 5) c5 (by omega)), g11]
        refine go _ ?_
        rw [e1]
        show _ = nI (if q - b < 5 then _ else uV t b (q - b))
        rw [if_neg (by omega)]
    · have eq : q = lxE (fun j => uD (t j)) n b := by rw [← hE]; exact (lxE_e (P := fun j => uD (t j)) c).symm
      rw [if_neg (fun z => c (of_decide_eq_true z))]
      unfold fX4_scanNumber_b80
      rw [g9, (gk 8 (by decide) (by decide)).trans h8, nI_sub hbq]
      rcases Nat.lt_or_ge 5 (q - b) with c5 | c5
      · rw [if_neg (show ¬ nI (q - b) ≤ (5 : Int32) from nI_ge (a := 5) c5 (by omega)), yo_s, ← eq, if_neg (by omega)]
        exact ⟨rfl, hF, g9, g11, gk⟩
      · rw [if_pos (show nI (q - b) ≤ (5 : Int32) from nI_le (b := 5) c5 (by decide)), yo_s, ← eq, if_pos c5]
        exact ⟨rfl, hF, g9, g11, gk⟩
  · rw [rI_wI, if_neg (by omega)]; exact h9
  · rw [rI_wI, if_pos ⟨rfl, rfl⟩, Nat.sub_self]; rfl
  · rw [rI_wI, if_neg (fun z => h2 z.2)]
theorem k_sign {N c : Nat} (hN : 700 ≤ N) (hc : c < 256) (M : Mem) : Yo (fJ0_indexOf_0f7a4 N 7 (i2c (nI c)) M) (fun x => x < 0 ↔ uS c = false) := by
  have e1 : fJ1_canEncode_9a6ad (i2c (nI c)) M = some true := (show fJ1_canEncode_9a6ad (i2c (nI c)) M = fJ1_canEncode_9a6ad (i2c (nI c)) zM from rfl).trans ((by decide +kernel : ∀ c, c < 256 → fJ1_canEncode_9a6ad (i2c (nI c)) zM = some true) c hc)
  have e2 : ∀ c, c < 256 → (uS c = true ↔ ∃ j, j < 8 ∧ (bytS 7).getD j 0 = (i2c (nI c)).toInt8.toInt32) := by decide +kernel
  have e3 := e2 c hc
  unfold fJ0_indexOf_0f7a4 fJ0_indexOf_7cf53
  rw [show fJ0_isLatin1_aae02 7 M = some true from rfl, Option.bind_some, if_pos rfl, k_len 7 (by decide), Option.bind_some]
  unfold fJ1_indexOf_4cfef
  rw [e1, Option.bind_some, if_pos rfl, if_pos (by decide +kernel)]
  unfold fJ1_indexOfChar_4cfef
  generalize hch : (i2c (nI c)).toInt8.toInt32 = ch at e3 ⊢
  have e0 : maxI (0 : Int32) (0 : Int32) = nI 0 := by decide +kernel
  have e8 : minI (nI (lenS 7)) (nI (lenS 7)) = nI 8 := by decide +kernel
  have l8 : lenS 7 = 8 := by decide +kernel
  rw [e0, e8]
  have main : Yo (fJ1_indexOfChar_4cfef_l7 N 7 (nI 8) ch M N (nI 0)) (fun x => x < 0 ↔ uS c = false) := by
    refine yo_f1 (F := fJ1_indexOfChar_4cfef_l7 N 7 (nI 8) ch M) 8 (fun j v => v = nI j ∧ ∀ i, i < j → (bytS 7).getD i 0 ≠ ch) ?_ N 0 _ (by omega) (by omega) ⟨rfl, fun i hi => absurd hi (Nat.not_lt_zero i)⟩
    intro f j v hj ⟨hv, hi⟩ ih
    subst hv
    show Yo (fJ1_indexOfChar_4cfef_l7_s N 7 (nI 8) ch M (fJ1_indexOfChar_4cfef_l7 N 7 (nI 8) ch M f) (nI j)) _
    unfold fJ1_indexOfChar_4cfef_l7_s
    rcases Nat.lt_or_ge j 8 with hlt | hge
    · rw [if_neg (nI_ge hlt (by omega)), if_pos (inB_nI (by omega) (by omega)), nI_clamp (by omega), nI_1]
      by_cases q : (bytS 7).getD j 0 = ch
      · rw [if_pos q, yo_s]
        have : uS c = true := e3.mpr ⟨j, hlt, q⟩
        exact ⟨fun z => absurd z (nI_pos (by omega)), fun z => by rw [this] at z; cases z⟩
      · rw [if_neg q]
        refine ih _ hlt ⟨rfl, fun i hi' => ?_⟩
        by_cases z : i = j
        · rw [z]; exact q
        · exact hi i (by omega)
    · rw [if_pos (nI_le hge (by omega)), yo_s]
      refine ⟨fun _ => ?_, fun _ => by decide⟩
      cases e : uS c
      · rfl
      · obtain ⟨i, h1, h2⟩ := e3.mp e
        exact absurd h2 (hi i (by omega))
  exact ((main.bi (fun x hx => yo_s.mpr hx)).bi (fun x hx => yo_s.mpr hx)).bi (fun x hx => yo_s.mpr hx)
theorem tkE_L {t : Nat → Nat} {n b : Nat} (c : b < n) (cl : uL (t b) = true) : tkE t n b = lxE (fun j => uL (t j)) n b := by
  unfold tkE
  rw [if_pos c, if_pos cl]
theorem tkC_L {t : Nat → Nat} {n b : Nat} (c : b < n) (cl : uL (t b) = true) : tkC t n b = wdC t b (lxE (fun j => uL (t j)) n b) := by
  unfold tkC
  rw [if_pos c, if_pos cl, tkE_L c cl]
theorem tkE_D {t : Nat → Nat} {n b : Nat} (c : b < n) (cl : ¬ uL (t b) = true) (cd : uD (t b) = true) : tkE t n b = lxE (fun j => uD (t j)) n b := by
  unfold tkE
  rw [if_pos c, if_neg cl, if_pos cd]
theorem tkC_D {t : Nat → Nat} {n b : Nat} (c : b < n) (cl : ¬ uL (t b) = true) (cd : uD (t b) = true) : tkC t n b = if lxE (fun j => uD (t j)) n b - b ≤ 5 then 2 else 1 := by
  unfold tkC
  rw [if_pos c, if_neg cl, if_pos cd, tkE_D c cl cd]
theorem tkE_S {t : Nat → Nat} {n b : Nat} (c : b < n) (cl : ¬ uL (t b) = true) (cd : ¬ uD (t b) = true) : tkE t n b = b + 1 := by
  unfold tkE
  rw [if_pos c, if_neg cl, if_neg cd]
theorem tkC_S {t : Nat → Nat} {n b : Nat} (c : b < n) (cl : ¬ uL (t b) = true) (cd : ¬ uD (t b) = true) : tkC t n b = if uS (t b) = true then t b else 1 := by
  unfold tkC
  rw [if_pos c, if_neg cl, if_neg cd]
theorem tkE_N {t : Nat → Nat} {n b : Nat} (c : ¬ b < n) : tkE t n b = b := by
  unfold tkE
  rw [if_neg c]
theorem tkC_N {t : Nat → Nat} {n b : Nat} (c : ¬ b < n) : tkC t n b = 0 := by
  unfold tkC
  rw [if_neg c]
theorem wdC_b (t : Nat → Nat) (b e : Nat) : 3 ≤ wdC t b e ∧ wdC t b e ≤ 9 := by
  unfold wdC
  repeat' split
  all_goals omega
theorem uS_b {c : Nat} (h : uS c = true) : 37 ≤ c ∧ c ≤ 59 := by
  have := of_decide_eq_true h
  omega
theorem adv48 {N n b : Nat} {t : Nat → Nat} {M : Mem} (hN : 700 ≤ N) (h : lxT M n t) (h8 : rI M 111 8 = nI b) (hb : b ≤ n) : Yo (fX4_advance_b48 N 111 M) (fun x => smF [111] M x ∧ (∀ k, k < 8 ∨ 12 ≤ k → rI x 111 k = rI M 111 k) ∧ lxC x t n b) := by
  have hn := h.1
  unfold fX4_advance_b48
  rw [h8]
  have f1 : lxT (wI M 111 9 (nI b)) n t := h.mv (by rw [rI_wI, if_neg (by omega)]) ((smF.refl (S := [111])).pI_ (by simp) _ _ 119 (by decide))
  have f2 : smF [111] M (wI M 111 9 (nI b)) := smF.refl.pI_ (by simp) _ _
  have f3 : rI (wI M 111 9 (nI b)) 111 9 = nI b := by rw [rI_wI, if_pos ⟨rfl, rfl⟩]
  have f4 : ∀ k, k ≠ 9 → rI (wI M 111 9 (nI b)) 111 k = rI M 111 k := fun k hk => by rw [rI_wI, if_neg (fun z => hk z.2)]
  generalize wI M 111 9 (nI b) = M1 at f1 f2 f3 f4 ⊢
  have f8 : rI M1 111 8 = nI b := (f4 8 (by decide)).trans h8
  rw [f8, byteAt_ok f1 hb, Option.bind_some]
  by_cases c : b < n
  · have hc := (h.2.2 b c).1
    have hne : ¬ nI (t b) = -1 := fun z => by
      have := nI_toInt (n := t b) (by omega)
      rw [z] at this
      have e : (-1 : Int32).toInt = -1 := by decide
      omega
    rw [if_pos c, if_neg hne, k_letter _ hc, Option.bind_some]
    by_cases cl : uL (t b) = true
    · rw [if_pos cl]
      have w := wdC_b t b (lxE (fun j => uL (t j)) n b)
      refine (scanWord_ok hN f1 f8 f3 c).bi (fun x hx => ?_)
      obtain ⟨x1, x2, x3, x4⟩ := hx
      rw [yo_s]
      refine ⟨(f2.trans x2).pI_ (by simp) _ _, fun k hk => ?_, ?_, ?_, ?_, fun z => ?_⟩
      · rw [rI_wI, if_neg (by omega), x4 k (by omega), f4 k (by omega)]
      · rw [rI_wI, if_neg (by omega), x4 8 (by omega)]; exact f8
      · rw [rI_wI, if_neg (by omega), tkE_L c cl]; exact x3
      · rw [rI_wI, if_pos ⟨rfl, rfl⟩, tkC_L c cl]; exact x1
      · rw [tkC_L c cl] at z; omega
    · rw [if_neg cl, k_digit _ hc, Option.bind_some]
      by_cases cd : uD (t b) = true
      · rw [if_pos cd]
        refine (scanNumber_ok hN f1 f8 f3 c).bi (fun x hx => ?_)
        obtain ⟨x1, x2, x3, x4, x5⟩ := hx
        rw [yo_s]
        refine ⟨(f2.trans x2).pI_ (by simp) _ _, fun k hk => ?_, ?_, ?_, ?_, fun _ => ?_⟩
        · rw [rI_wI, if_neg (by omega), x5 k (by omega) (by omega), f4 k (by omega)]
        · rw [rI_wI, if_neg (by omega), x5 8 (by omega) (by omega)]; exact f8
        · rw [rI_wI, if_neg (by omega), tkE_D c cl cd]; exact x3
        · rw [rI_wI, if_pos ⟨rfl, rfl⟩, tkC_D c cl cd]; exact x1
        · unfold tkV
          rw [rI_wI, if_neg (by omega), tkE_D c cl cd]; exact x4
      · rw [if_neg cd, f3, nI_1]
        have f5 : ∀ M2 : Mem, M2 = wI M1 111 9 (nI (b + 1)) → ∀ v : Int32, v = nI (tkC t n b) → Yo (fX4_advance_b140 N v 111 M2) (fun x => smF [111] M x ∧ (∀ k, k < 8 ∨ 12 ≤ k → rI x 111 k = rI M 111 k) ∧ lxC x t n b) := by
          intro M2 h2 v hv
          subst h2
          unfold fX4_advance_b140
          rw [yo_s]
          refine ⟨(f2.pI_ (by simp) _ _).pI_ (by simp) _ _, fun k hk => ?_, ?_, ?_, ?_, fun z => ?_⟩
          · rw [rI_wI, if_neg (by omega), rI_wI, if_neg (by omega), f4 k (by omega)]
          · rw [rI_wI, if_neg (by omega), rI_wI, if_neg (by omega)]; exact f8
          · rw [rI_wI, if_neg (by omega), rI_wI, if_pos ⟨rfl, rfl⟩, tkE_S c cl cd]
          · rw [rI_wI, if_pos ⟨rfl, rfl⟩]; exact hv
          · exfalso
            rw [tkC_S c cl cd] at z
            by_cases cs : uS (t b) = true
            · rw [if_pos cs] at z
              have := uS_b cs
              omega
            · rw [if_neg cs] at z
              omega
        refine (k_sign hN hc _).bi (fun x hx => ?_)
        by_cases cs : uS (t b) = true
        · rw [if_neg (fun z => by rw [hx.mp z] at cs; cases cs)]
          exact f5 _ rfl _ (by rw [tkC_S c cl cd, if_pos cs])
        · have cs' : uS (t b) = false := by
            cases e : uS (t b) with
            | false => rfl
            | true => exact absurd e cs
          rw [if_pos (hx.mpr cs')]
          exact f5 _ rfl _ (by rw [tkC_S c cl cd, if_neg cs]; rfl)
  · rw [if_neg c, if_pos rfl, yo_s]
    refine ⟨f2.pI_ (by simp) _ _, fun k hk => ?_, ?_, ?_, ?_, fun z => ?_⟩
    · rw [rI_wI, if_neg (by omega), f4 k (by omega)]
    · rw [rI_wI, if_neg (by omega)]; exact f8
    · rw [rI_wI, if_neg (by omega), tkE_N c]; exact f3
    · rw [rI_wI, if_pos ⟨rfl, rfl⟩, tkC_N c]; rfl
    · rw [tkC_N c] at z; omega
/-- the class goes on to the next token -/
theorem adv_ok {N n e : Nat} {t : Nat → Nat} {M : Mem} (hN : 700 ≤ N) (h : lxT M n t) (h9 : rI M 111 9 = nI e) (he : e ≤ n) : Yo (fX4_advance N 111 M) (fun x => smF [111] M x ∧ (∀ k, k < 8 ∨ 12 ≤ k → rI x 111 k = rI M 111 k) ∧ lxC x t n (tkN t n e)) := by
  have hn := h.1
  unfold fX4_advance
  rw [h9]
  refine yo_f2 (F := fX4_advance_l10 N 111) n (fun q v M' => e ≤ q ∧ v = nI (q - e) ∧ smF [111] M M' ∧ rI M' 111 8 = nI q ∧ (∀ k, k ≠ 8 → rI M' 111 k = rI M 111 k) ∧ lxE (fun j => uB (t j)) n q = tkN t n e) ?_ N e _ _ (by omega) (by omega) ⟨Nat.le_refl e, by rw [Nat.sub_self]; rfl, smF.refl.pI_ (by simp) _ _, ?_, fun k hk => ?_, rfl⟩
  · intro f q v M' hq ⟨hbq, hv, hF, g8, gk, hE⟩ ih
    subst hv
    show Yo (fX4_advance_l10_s N 111 (fX4_advance_l10 N 111 f) (nI (q - e)) M') _
    unfold fX4_advance_l10_s
    have hT : lxT M' n t := h.mv (gk 7 (by decide)) (hF 119 (by decide))
    rw [hT.2.1, if_neg (nI_nlt (by omega) (by omega)), g8, at_blank hT hq, nI_1, nI_1]
    by_cases c : q < n ∧ uB (t q) = true
    · rw [if_pos (decide_eq_true c)]
      refine ih _ _ c.1 ⟨by omega, by congr 1; omega, hF.pI_ (by simp) _ _, ?_, fun k hk => ?_, ?_⟩
      · rw [rI_wI, if_pos ⟨rfl, rfl⟩]
      · rw [rI_wI, if_neg (fun z => hk z.2)]; exact gk k hk
      · rw [← hE]; exact (lxE_s (P := fun j => uB (t j)) c).symm
    · have eq : q = tkN t n e := by rw [← hE]; exact (lxE_e (P := fun j => uB (t j)) c).symm
      rw [if_neg (fun z => c (of_decide_eq_true z))]
      refine (adv48 hN hT g8 hq).to (fun x hx => ?_)
      obtain ⟨x1, x2, x3⟩ := hx
      exact ⟨hF.trans x1, fun k hk => by rw [x2 k hk]; exact gk k (by omega), by rw [← eq]; exact x3⟩
  · rw [rI_wI, if_pos ⟨rfl, rfl⟩]
  · rw [rI_wI, if_neg (fun z => hk z.2)]
