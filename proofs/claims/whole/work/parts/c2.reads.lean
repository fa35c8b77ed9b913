/-! RULES, THE TOKENS: the reference's -/
theorem r_letter (c : Nat) (hc : c < 256) (M : Mem) : fX11_isLetter (nI c) M = some (uL c) := (show fX11_isLetter (nI c) M = fX11_isLetter (nI c) zM from rfl).trans ((by decide +kernel : ∀ c, c < 256 → fX11_isLetter (nI c) zM = some (uL c)) c hc)
theorem r_digit (c : Nat) (hc : c < 256) (M : Mem) : fX11_isDigit (nI c) M = some (uD c) := (show fX11_isDigit (nI c) M = fX11_isDigit (nI c) zM from rfl).trans ((by decide +kernel : ∀ c, c < 256 → fX11_isDigit (nI c) zM = some (uD c)) c hc)
theorem r_sign (c : Nat) (hc : c < 256) (M : Mem) : fX11_isMark (nI c) M = some (uS c) := (show fX11_isMark (nI c) M = fX11_isMark (nI c) zM from rfl).trans ((by decide +kernel : ∀ c, c < 256 → fX11_isMark (nI c) zM = some (uS c)) c hc)
theorem uB_nI {c : Nat} (hc : c < 256) : (uB c = true ↔ nI c = 32 ∨ nI c = 10) := (by decide +kernel : ∀ c, c < 256 → (uB c = true ↔ nI c = 32 ∨ nI c = 10)) c hc
/-- the reference's text -/
def lxU (M : Mem) (n : Nat) (t : Nat → Nat) : Prop := n ≤ 600 ∧ rI M 140 8 = nI n ∧ ∀ j, j < n → t j < 256 ∧ rI M 146 j = nI (t j)
theorem lxU.mv {M M' : Mem} {n : Nat} {t : Nat → Nat} (h : lxU M n t) (h7 : rI M' 140 8 = rI M 140 8) (h9 : M' 146 = M 146) : lxU M' n t :=
  ⟨h.1, h7.trans h.2.1, fun j hj => ⟨(h.2.2 j hj).1, by rw [eqs_rI h9]; exact (h.2.2 j hj).2⟩⟩
theorem see_ok {M : Mem} {n q : Nat} {t : Nat → Nat} (h : lxU M n t) (hq : q ≤ n) : fX11_see 140 (nI q) M = some (if q < n then nI (t q) else 0) := by
  obtain ⟨h1, h2, h3⟩ := h
  unfold fX11_see
  rw [h2]
  by_cases c : q < n
  · rw [if_neg (nI_ge c (by omega)), if_pos (inB_nI (by omega) (by decide)), nI_clamp (by omega), if_pos c]
    show some (rI M 146 q) = _
    rw [(h3 q c).2]
  · rw [if_pos (nI_le (by omega) (by omega)), if_neg c]
theorem see_letter {α : Type} {M : Mem} {n q : Nat} {t : Nat → Nat} (h : lxU M n t) (hq : q ≤ n) (f : Bool → Option α) : ((fX11_see 140 (nI q) M).bind fun x => (fX11_isLetter x M).bind f) = f (decide (q < n ∧ uL (t q) = true)) := by
  rw [see_ok h hq, Option.bind_some]
  by_cases c : q < n
  · rw [if_pos c, r_letter _ (h.2.2 q c).1, Option.bind_some]
    congr 1
    cases e : uL (t q)
    · exact (decide_eq_false (fun z => by cases z.2)).symm
    · exact (decide_eq_true ⟨c, rfl⟩).symm
  · rw [if_neg c, show fX11_isLetter 0 M = some false from rfl, Option.bind_some]
    congr 1
    exact (decide_eq_false (fun z => c z.1)).symm
theorem see_digit {α : Type} {M : Mem} {n q : Nat} {t : Nat → Nat} (h : lxU M n t) (hq : q ≤ n) (f : Bool → Option α) : ((fX11_see 140 (nI q) M).bind fun x => (fX11_isDigit x M).bind f) = f (decide (q < n ∧ uD (t q) = true)) := by
  rw [see_ok h hq, Option.bind_some]
  by_cases c : q < n
  · rw [if_pos c, r_digit _ (h.2.2 q c).1, Option.bind_some]
    congr 1
    cases e : uD (t q)
    · exact (decide_eq_false (fun z => by cases z.2)).symm
    · exact (decide_eq_true ⟨c, rfl⟩).symm
  · rw [if_neg c, show fX11_isDigit 0 M = some false from rfl, Option.bind_some]
    congr 1
    exact (decide_eq_false (fun z => c z.1)).symm
/-- the reference's kind of token -/
def rkC (c : Nat) : Nat := if c = 0 then 0 else if c = 1 then 4 else if c = 2 then 2 else if c ≤ 9 then 1 else 3
def lxR (M : Mem) (t : Nat → Nat) (n b : Nat) : Prop := rI M 140 10 = nI b ∧ rI M 140 9 = nI (tkE t n b) ∧ rI M 140 11 = nI (rkC (tkC t n b)) ∧ (tkC t n b = 2 → rI M 140 12 = nI (tkV t n b)) ∧ (10 ≤ tkC t n b → rI M 140 12 = nI (tkC t n b))
theorem r94_ok {N n b : Nat} {t : Nat → Nat} {M : Mem} (hN : 700 ≤ N) (h : lxU M n t) (h9 : rI M 140 9 = nI b) (hb : b ≤ n) : Yo (fX11_reads_l94 N 140 N M) (fun x => smF [140] M x ∧ rI x 140 9 = nI (lxE (fun j => uL (t j)) n b) ∧ rI x 140 11 = 1 ∧ ∀ k, k ≠ 9 → k ≠ 11 → rI x 140 k = rI M 140 k) := by
  have hn := h.1
  refine yo_f1 (F := fX11_reads_l94 N 140) n (fun q M' => b ≤ q ∧ smF [140] M M' ∧ rI M' 140 9 = nI q ∧ (∀ k, k ≠ 9 → rI M' 140 k = rI M 140 k) ∧ lxE (fun j => uL (t j)) n q = lxE (fun j => uL (t j)) n b) ?_ N b _ (by omega) (by omega) ⟨Nat.le_refl b, smF.refl, h9, fun k _ => rfl, rfl⟩
  intro f q M' hq ⟨hbq, hF, g9, gk, hE⟩ ih
  show Yo (fX11_reads_l94_s N 140 (fX11_reads_l94 N 140 f) M') _
  unfold fX11_reads_l94_s
  have hT : lxU M' n t := h.mv (gk 8 (by decide)) (hF 146 (by decide))
  rw [g9, see_letter hT hq, nI_1]
  by_cases c : q < n ∧ uL (t q) = true
  · rw [if_pos (decide_eq_true c)]
    refine ih _ c.1 ⟨by omega, hF.pI_ (by simp) _ _, ?_, fun k hk => ?_, ?_⟩
    · rw [rI_wI, if_pos ⟨rfl, rfl⟩]
    · rw [rI_wI, if_neg (fun z => hk z.2)]; exact gk k hk
    · rw [← hE]; exact (lxE_s (P := fun j => uL (t j)) c).symm
  · have eq : q = lxE (fun j => uL (t j)) n b := by rw [← hE]; exact (lxE_e (P := fun j => uL (t j)) c).symm
    rw [if_neg (fun z => c (of_decide_eq_true z)), yo_s]
    refine ⟨hF.pI_ (by simp) _ _, ?_, ?_, fun k h1 h2 => ?_⟩
    · rw [rI_wI, if_neg (by omega), ← eq]; exact g9
    · rw [rI_wI, if_pos ⟨rfl, rfl⟩]
    · rw [rI_wI, if_neg (fun z => h2 z.2)]; exact gk k h1
theorem r141_ok {N n b : Nat} {t : Nat → Nat} {M : Mem} (hN : 700 ≤ N) (h : lxU M n t) (h9 : rI M 140 9 = nI b) (h10 : rI M 140 10 = nI b) (h12 : rI M 140 12 = 0) (hb : b ≤ n) : Yo (fX11_reads_l141 N 140 N M) (fun x => smF [140] M x ∧ rI x 140 9 = nI (lxE (fun j => uD (t j)) n b) ∧ rI x 140 12 = nI (uV t b (lxE (fun j => uD (t j)) n b - b)) ∧ rI x 140 11 = nI (if lxE (fun j => uD (t j)) n b - b ≤ 5 then 2 else 4) ∧ ∀ k, k ≠ 9 → k ≠ 11 → k ≠ 12 → rI x 140 k = rI M 140 k) := by
  have hn := h.1
  refine yo_f1 (F := fX11_reads_l141 N 140) n (fun q M' => b ≤ q ∧ smF [140] M M' ∧ rI M' 140 9 = nI q ∧ rI M' 140 12 = nI (uV t b (q - b)) ∧ (∀ k, k ≠ 9 → k ≠ 12 → rI M' 140 k = rI M 140 k) ∧ lxE (fun j => uD (t j)) n q = lxE (fun j => uD (t j)) n b) ?_ N b _ (by omega) (by omega) ⟨Nat.le_refl b, smF.refl, h9, by rw [Nat.sub_self]; exact h12, fun k _ _ => rfl, rfl⟩
  intro f q M' hq ⟨hbq, hF, g9, g12, gk, hE⟩ ih
  show Yo (fX11_reads_l141_s N 140 (fX11_reads_l141 N 140 f) M') _
  unfold fX11_reads_l141_s
  have hT : lxU M' n t := h.mv (gk 8 (by decide) (by decide)) (hF 146 (by decide))
  have g10 : rI M' 140 10 = nI b := (gk 10 (by decide) (by decide)).trans h10
  rw [g9, see_digit hT hq, g10, nI_sub hbq]
  by_cases c : q < n ∧ uD (t q) = true
  · rw [if_pos (decide_eq_true c)]
    have go : ∀ v : Int32, v = nI (uV t b (q + 1 - b)) → Yo (fX11_reads_b196 N (fX11_reads_l141 N 140 f) 140 v 140 M') (fun x => smF [140] M x ∧ rI x 140 9 = nI (lxE (fun j => uD (t j)) n b) ∧ rI x 140 12 = nI (uV t b (lxE (fun j => uD (t j)) n b - b)) ∧ rI x 140 11 = nI (if lxE (fun j => uD (t j)) n b - b ≤ 5 then 2 else 4) ∧ ∀ k, k ≠ 9 → k ≠ 11 → k ≠ 12 → rI x 140 k = rI M 140 k) := by
      intro v hv
      unfold fX11_reads_b196
      have e9 : rI (wI M' 140 12 v) 140 9 = nI q := by rw [rI_wI, if_neg (by omega)]; exact g9
      rw [e9, nI_1]
      refine ih _ c.1 ⟨by omega, (hF.pI_ (by simp) _ _).pI_ (by simp) _ _, ?_, ?_, fun k h1 h2 => ?_, ?_⟩
      · rw [rI_wI, if_pos ⟨rfl, rfl⟩]
      · rw [rI_wI, if_neg (by omega), rI_wI, if_pos ⟨rfl, rfl⟩]; exact hv
      · rw [rI_wI, if_neg (fun z => h1 z.2), rI_wI, if_neg (fun z => h2 z.2)]; exact gk k h1 h2
      · rw [← hE]; exact (lxE_s (P := fun j => uD (t j)) c).symm
    have e1 : q + 1 - b = (q - b) + 1 := by omega
    have hd := of_decide_eq_true c.2
    rcases Nat.lt_or_ge (q - b) 5 with c5 | c5
    · have e6 : rI M' (140 + 6) q = nI (t q) := (hT.2.2 q c.1).2
      rw [if_neg (show ¬ (5 : Int32) ≤ nI (q - b) from nI_ge (b := 5) c5 (by decide)), if_pos (inB_nI (by omega) (by decide)), nI_clamp (by omega), g12, e6]
      refine go _ ?_
      rw [e1]
      show _ = nI (if q - b < 5 then uV t b (q - b) * 10 + t (b + (q - b)) - 48 else uV t b (q - b))
      rw [if_pos c5, show b + (q - b) = q by omega, li_10, pk_mul, nI_add, li_48, nI_sub (by omega), Nat.mul_comm]
    · rw [if_pos (show (5 : Int32) ≤ nI (q - b) from nI_le (a := 5) c5 (by omega)), g12]
      refine go _ ?_
      rw [e1]
      show _ = nI (if q - b < 5 then _ else uV t b (q - b))
      rw [if_neg (by omega)]
  · have eq : q = lxE (fun j => uD (t j)) n b := by rw [← hE]; exact (lxE_e (P := fun j => uD (t j)) c).symm
    rw [if_neg (fun z => c (of_decide_eq_true z))]
    unfold fX11_reads_b231
    have fin : ∀ v : Int32, v = nI (if q - b ≤ 5 then 2 else 4) → Yo (some (wI M' 140 11 v)) (fun x => smF [140] M x ∧ rI x 140 9 = nI (lxE (fun j => uD (t j)) n b) ∧ rI x 140 12 = nI (uV t b (lxE (fun j => uD (t j)) n b - b)) ∧ rI x 140 11 = nI (if lxE (fun j => uD (t j)) n b - b ≤ 5 then 2 else 4) ∧ ∀ k, k ≠ 9 → k ≠ 11 → k ≠ 12 → rI x 140 k = rI M 140 k) := by
      intro v hv
      rw [yo_s, ← eq]
      refine ⟨hF.pI_ (by simp) _ _, ?_, ?_, ?_, fun k h1 h2 h3 => ?_⟩
      · rw [rI_wI, if_neg (by omega)]; exact g9
      · rw [rI_wI, if_neg (by omega)]; exact g12
      · rw [rI_wI, if_pos ⟨rfl, rfl⟩]; exact hv
      · rw [rI_wI, if_neg (fun z => h2 z.2)]; exact gk k h1 h3
    rcases Nat.lt_or_ge 5 (q - b) with c5 | c5
    · rw [if_neg (show ¬ nI (q - b) ≤ (5 : Int32) from nI_ge (a := 5) c5 (by omega))]
      exact fin _ (by rw [if_neg (by omega)]; rfl)
    · rw [if_pos (show nI (q - b) ≤ (5 : Int32) from nI_le (b := 5) c5 (by decide))]
      exact fin _ (by rw [if_pos c5]; rfl)
theorem rds52 {N n b : Nat} {t : Nat → Nat} {M : Mem} (hN : 700 ≤ N) (h : lxU M n t) (h9 : rI M 140 9 = nI b) (hb : b ≤ n) : Yo (fX11_reads_b52 N 140 M) (fun x => smF [140] M x ∧ (∀ k, k < 9 ∨ 13 ≤ k → rI x 140 k = rI M 140 k) ∧ lxR x t n b) := by
  have hn := h.1
  unfold fX11_reads_b52
  rw [h9]
  have f1 : lxU (wI M 140 10 (nI b)) n t := h.mv (by rw [rI_wI, if_neg (by omega)]) ((smF.refl (S := [140])).pI_ (by simp) _ _ 146 (by decide))
  have f2 : smF [140] M (wI M 140 10 (nI b)) := smF.refl.pI_ (by simp) _ _
  have f3 : rI (wI M 140 10 (nI b)) 140 10 = nI b := by rw [rI_wI, if_pos ⟨rfl, rfl⟩]
  have f4 : ∀ k, k ≠ 10 → rI (wI M 140 10 (nI b)) 140 k = rI M 140 k := fun k hk => by rw [rI_wI, if_neg (fun z => hk z.2)]
  generalize wI M 140 10 (nI b) = M1 at f1 f2 f3 f4 ⊢
  have f9 : rI M1 140 9 = nI b := (f4 9 (by decide)).trans h9
  rw [f9, f1.2.1]
  by_cases c : b < n
  · have hc := (h.2.2 b c).1
    have e6 : rI M1 (140 + 6) b = nI (t b) := (f1.2.2 b c).2
    rw [if_pos (nI_lt c (by omega)), if_pos (inB_nI (by omega) (by decide)), nI_clamp (by omega), e6, r_letter _ hc, Option.bind_some]
    by_cases cl : uL (t b) = true
    · rw [if_pos cl]
      have w := wdC_b t b (lxE (fun j => uL (t j)) n b)
      refine (r94_ok hN f1 f9 hb).to (fun x hx => ?_)
      obtain ⟨x1, x2, x3, x4⟩ := hx
      refine ⟨f2.trans x1, fun k hk => ?_, ?_, ?_, ?_, fun z => ?_, fun z => ?_⟩
      · rw [x4 k (by omega) (by omega), f4 k (by omega)]
      · rw [x4 10 (by omega) (by omega)]; exact f3
      · rw [tkE_L c cl]; exact x2
      · rw [x3, tkC_L c cl]
        unfold rkC
        rw [if_neg (by omega), if_neg (by omega), if_neg (by omega), if_pos (by omega)]
        rfl
      · rw [tkC_L c cl] at z; omega
      · rw [tkC_L c cl] at z; omega
    · rw [if_neg cl, r_digit _ hc, Option.bind_some]
      by_cases cd : uD (t b) = true
      · rw [if_pos cd]
        have i1 : smF [140] M1 (wI M1 140 12 0) := smF.refl.pI_ (by simp) _ _
        have i2 : ∀ k, k ≠ 12 → rI (wI M1 140 12 0) 140 k = rI M1 140 k := fun k hk => by rw [rI_wI, if_neg (fun z => hk z.2)]
        refine (r141_ok hN (f1.mv (i2 8 (by decide)) (i1 146 (by decide))) ((i2 9 (by decide)).trans f9) ((i2 10 (by decide)).trans f3) (by rw [rI_wI, if_pos ⟨rfl, rfl⟩]) hb).to (fun x hx => ?_)
        obtain ⟨x1, x2, x3, x4, x5⟩ := hx
        refine ⟨(f2.trans i1).trans x1, fun k hk => ?_, ?_, ?_, ?_, fun _ => ?_, fun z => ?_⟩
        · rw [x5 k (by omega) (by omega) (by omega), i2 k (by omega), f4 k (by omega)]
        · rw [x5 10 (by omega) (by omega) (by omega), i2 10 (by omega)]; exact f3
        · rw [tkE_D c cl cd]; exact x2
        · rw [x4, tkC_D c cl cd]
          unfold rkC
          by_cases c5 : lxE (fun j => uD (t j)) n b - b ≤ 5
          · rw [if_pos c5, if_pos c5]; rfl
          · rw [if_neg c5, if_neg c5]; rfl
        · unfold tkV
          rw [tkE_D c cl cd]; exact x3
        · exfalso
          rw [tkC_D c cl cd] at z
          split at z <;> omega
      · rw [if_neg cd, r_sign _ hc, Option.bind_some]
        have f5 : ∀ (k : Nat), k = rkC (tkC t n b) → Yo (fX11_reads_b250 N 140 (nI (t b)) (nI k) 140 M1) (fun x => smF [140] M x ∧ (∀ k, k < 9 ∨ 13 ≤ k → rI x 140 k = rI M 140 k) ∧ lxR x t n b) := by
          intro k hk
          unfold fX11_reads_b250
          have e9 : rI (wI (wI M1 140 11 (nI k)) 140 12 (nI (t b))) 140 9 = nI b := by rw [rI_wI, if_neg (by omega), rI_wI, if_neg (by omega)]; exact f9
          rw [e9, nI_1, yo_s]
          refine ⟨((f2.pI_ (by simp) _ _).pI_ (by simp) _ _).pI_ (by simp) _ _, fun k hk => ?_, ?_, ?_, ?_, fun z => ?_, fun z => ?_⟩
          · rw [rI_wI, if_neg (by omega), rI_wI, if_neg (by omega), rI_wI, if_neg (by omega), f4 k (by omega)]
          · rw [rI_wI, if_neg (by omega), rI_wI, if_neg (by omega), rI_wI, if_neg (by omega)]; exact f3
          · rw [rI_wI, if_pos ⟨rfl, rfl⟩, tkE_S c cl cd]
          · rw [rI_wI, if_neg (by omega), rI_wI, if_neg (by omega), rI_wI, if_pos ⟨rfl, rfl⟩, hk]
          · exfalso
            rw [tkC_S c cl cd] at z
            by_cases cs : uS (t b) = true
            · rw [if_pos cs] at z
              have := uS_b cs
              omega
            · rw [if_neg cs] at z
              omega
          · rw [tkC_S c cl cd] at z ⊢
            rw [rI_wI, if_neg (by omega), rI_wI, if_pos ⟨rfl, rfl⟩]
            by_cases cs : uS (t b) = true
            · rw [if_pos cs]
            · rw [if_neg cs] at z
              omega
        by_cases cs : uS (t b) = true
        · have := uS_b cs
          rw [if_pos cs]
          refine f5 3 ?_
          rw [tkC_S c cl cd, if_pos cs]
          unfold rkC
          rw [if_neg (by omega), if_neg (by omega), if_neg (by omega), if_neg (by omega)]
        · rw [if_neg cs]
          refine f5 4 ?_
          rw [tkC_S c cl cd, if_neg cs]
          rfl
  · rw [if_neg (nI_nlt (by omega) (by omega)), yo_s]
    refine ⟨f2.pI_ (by simp) _ _, fun k hk => ?_, ?_, ?_, ?_, fun z => ?_, fun z => ?_⟩
    · rw [rI_wI, if_neg (by omega), f4 k (by omega)]
    · rw [rI_wI, if_neg (by omega)]; exact f3
    · rw [rI_wI, if_neg (by omega), tkE_N c]; exact f9
    · rw [rI_wI, if_pos ⟨rfl, rfl⟩, tkC_N c]; rfl
    · rw [tkC_N c] at z; omega
    · rw [tkC_N c] at z; omega
/-- the reference goes on to the next token -/
theorem reads_ok {N n e : Nat} {t : Nat → Nat} {M : Mem} (hN : 700 ≤ N) (h : lxU M n t) (h9 : rI M 140 9 = nI e) (he : e ≤ n) : Yo (fX11_reads N 140 M) (fun x => smF [140] M x ∧ (∀ k, k < 9 ∨ 13 ≤ k → rI x 140 k = rI M 140 k) ∧ lxR x t n (tkN t n e)) := by
  have hn := h.1
  unfold fX11_reads
  refine yo_f1 (F := fX11_reads_l0 N 140) n (fun q M' => e ≤ q ∧ smF [140] M M' ∧ rI M' 140 9 = nI q ∧ (∀ k, k ≠ 9 → rI M' 140 k = rI M 140 k) ∧ lxE (fun j => uB (t j)) n q = tkN t n e) ?_ N e _ (by omega) (by omega) ⟨Nat.le_refl e, smF.refl, h9, fun k _ => rfl, rfl⟩
  intro f q M' hq ⟨hbq, hF, g9, gk, hE⟩ ih
  show Yo (fX11_reads_l0_s N 140 (fX11_reads_l0 N 140 f) M') _
  unfold fX11_reads_l0_s
  have hT : lxU M' n t := h.mv (gk 8 (by decide)) (hF 146 (by decide))
  have stop : ¬ (q < n ∧ uB (t q) = true) → Yo (fX11_reads_b52 N 140 M') (fun x => smF [140] M x ∧ (∀ k, k < 9 ∨ 13 ≤ k → rI x 140 k = rI M 140 k) ∧ lxR x t n (tkN t n e)) := by
    intro c
    have eq : q = tkN t n e := by rw [← hE]; exact (lxE_e (P := fun j => uB (t j)) c).symm
    refine (rds52 hN hT g9 hq).to (fun x hx => ?_)
    obtain ⟨x1, x2, x3⟩ := hx
    exact ⟨hF.trans x1, fun k hk => by rw [x2 k hk]; exact gk k (by omega), by rw [← eq]; exact x3⟩
  have step : q < n ∧ uB (t q) = true → Yo (fX11_reads_b39 N (fX11_reads_l0 N 140 f) 140 M') (fun x => smF [140] M x ∧ (∀ k, k < 9 ∨ 13 ≤ k → rI x 140 k = rI M 140 k) ∧ lxR x t n (tkN t n e)) := by
    intro c
    unfold fX11_reads_b39
    rw [g9, nI_1]
    refine ih _ c.1 ⟨by omega, hF.pI_ (by simp) _ _, ?_, fun k hk => ?_, ?_⟩
    · rw [rI_wI, if_pos ⟨rfl, rfl⟩]
    · rw [rI_wI, if_neg (fun z => hk z.2)]; exact gk k hk
    · rw [← hE]; exact (lxE_s (P := fun j => uB (t j)) c).symm
  rw [hT.2.1, g9]
  rcases Nat.lt_or_ge q n with hlt | hge
  · have hb := uB_nI (hT.2.2 q hlt).1
    have e6 : rI M' (140 + 6) q = nI (t q) := (hT.2.2 q hlt).2
    rw [if_neg (nI_ge hlt (by omega)), if_pos (inB_nI (by omega) (by decide)), nI_clamp (by omega), e6]
    by_cases c1 : nI (t q) = 32
    · rw [if_pos c1]; exact step ⟨hlt, hb.mpr (Or.inl c1)⟩
    · rw [if_neg c1, if_pos (inB_nI (by omega) (by decide))]
      by_cases c2 : nI (t q) = 10
      · rw [if_pos c2]; exact step ⟨hlt, hb.mpr (Or.inr c2)⟩
      · rw [if_neg c2]
        refine stop (fun z => ?_)
        rcases hb.mp z.2 with q1 | q1
        · exact c1 q1
        · exact c2 q1
  · rw [if_pos (nI_le hge (by omega))]
    exact stop (fun z => by omega)
