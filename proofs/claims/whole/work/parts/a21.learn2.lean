/-! SEMANTICS: learn, ask: names known -/
theorem cnt_zero {p : Nat → Bool} : ∀ {n : Nat}, cnt p n = 0 ↔ ∀ k, k < n → p k = false
  | 0 => ⟨fun _ k hk => absurd hk (Nat.not_lt_zero k), fun _ => rfl⟩
  | n + 1 => by
    have ih := cnt_zero (p := p) (n := n)
    have e : cnt p (n + 1) = cnt p n + if p n = true then 1 else 0 := rfl
    rw [e]
    constructor
    · intro h k hk
      by_cases q : k = n
      · subst q
        cases e2 : p k with
        | false => rfl
        | true => rw [e2, if_pos rfl] at h; omega
      · exact ih.mp (by omega) k (by omega)
    · intro h
      rw [ih.mpr (fun k hk => h k (by omega)), h n (by omega)]
      rfl
theorem unk_0 {T : Nat → Int32} {mk sz n : Nat} {K : Nat → Bool} : unkC T mk sz K n = 0 ↔ ∀ q, q < 64 → plcB T mk sz n q = true → K q = true := by
  unfold unkC
  rw [cnt_zero]
  constructor
  · intro h q hq hp
    have := h q hq
    rw [hp, Bool.true_and] at this
    cases e : K q with
    | true => rfl
    | false => rw [e] at this; cases this
  · intro h q hq
    cases e : plcB T mk sz n q with
    | false => rfl
    | true => rw [h q hq e]; rfl
noncomputable def kwnB (T : Nat → Int32) (mk sz : Nat) (K A : Nat → Bool) (v : Bool) (n : Nat) : Bool := decide (unkC T mk sz K n = 0) && !(v && A n)
/-- what class and reference hold after hearing -/
def cHr (M : Mem) (T : Nat → Int32) (mk sz W : Nat) (K A : Nat → Bool) : Prop := cPl M T mk sz W ∧ (∀ q, bl (rJ M 130 6) q = K q) ∧ cN M 131 A
theorem c_unk {M : Mem} {T : Nat → Int32} {mk sz W n : Nat} {K A : Nat → Bool} (h : cHr M T mk sz W K A) (hn : n < W) : (∀ q, q < 64 → bl (rJ M 133 n &&& (rJ M 130 6 ^^^ (-1 : Int64))) q = (plcB T mk sz n q && !K q)) := fun q hq => by
  rw [bl_and, bl_not hq, h.1.2 n hn, h.2.1]
theorem c_kwn {N : Nat} (hN : 700 ≤ N) {M : Mem} {T : Nat → Int32} {mk sz W : Nat} {K A : Nat → Bool} (hW : W ≤ 256) (h : cHr M T mk sz W K A) (v : Bool) : fX0_knownNames N 130 v M = some (nI (cnt (kwnB T mk sz K A v) W)) := by
  rw [← yo_eq]
  unfold fX0_knownNames
  refine yo_f2 (F := fX0_knownNames_l4 N 130 v M) W (fun k a b => b = nI k ∧ a = nI (cnt (kwnB T mk sz K A v) k)) ?_ N 0 _ _ (by omega) (by omega) ⟨rfl, rfl⟩
  intro f k a b hk ⟨hb, ha⟩ ih
  subst hb ha
  show Yo (fX0_knownNames_l4_s N 130 v M (fX0_knownNames_l4 N 130 v M f) (nI (cnt (kwnB T mk sz K A v) k)) (nI k)) _
  unfold fX0_knownNames_l4_s fX0_knownNames_b47 fX0_knownNames_b50
  rw [h.1.1]
  have hs : cnt (kwnB T mk sz K A v) (k + 1) = cnt (kwnB T mk sz K A v) k + if kwnB T mk sz K A v k = true then 1 else 0 := rfl
  rcases Nat.lt_or_ge k W with hlt | hge
  · have h0 : (rJ M 133 k &&& (rJ M 130 6 ^^^ (-1 : Int64)) = 0) ↔ unkC T mk sz K k = 0 := by
      rw [bl_eq0]
      unfold unkC
      rw [cnt_zero]
      exact ⟨fun z q hq => by rw [← c_unk h hlt q hq]; exact z q hq, fun z q hq => by rw [c_unk h hlt q hq]; exact z q hq⟩
    have yes : kwnB T mk sz K A v k = true → Yo (fX0_knownNames_l4 N 130 v M f (nI (cnt (kwnB T mk sz K A v) k + 1)) (nI (k + 1))) (fun x => x = nI (cnt (kwnB T mk sz K A v) W)) := fun z => ih _ _ hlt ⟨rfl, by rw [hs, if_pos z]⟩
    have no : ¬ kwnB T mk sz K A v k = true → Yo (fX0_knownNames_l4 N 130 v M f (nI (cnt (kwnB T mk sz K A v) k)) (nI (k + 1))) (fun x => x = nI (cnt (kwnB T mk sz K A v) W)) := fun z => ih _ _ hlt ⟨rfl, by rw [hs, if_neg z, Nat.add_zero]⟩
    rw [if_neg (nI_ge hlt (by omega)), if_pos (inB_nI (show k < 256 by omega) (by decide)), nI_clamp (by omega), show (130 + 3 : Nat) = 133 from rfl, nI_1, nI_1]
    by_cases q : unkC T mk sz K k = 0
    · rw [if_pos (h0.mpr q)]
      cases v with
      | false =>
        rw [if_neg (by decide)]
        exact yes (by unfold kwnB; rw [decide_eq_true q]; rfl)
      | true =>
        rw [if_pos rfl, has_ok (by omega), Option.bind_some, show (130 + 1 + 1 : Nat) = 131 + 1 from rfl, h.2.2 k (by omega)]
        cases e : A k with
        | true =>
          rw [if_pos rfl]
          exact no (by unfold kwnB; rw [e]; simp)
        | false =>
          rw [if_neg (by decide)]
          exact yes (by unfold kwnB; rw [e, decide_eq_true q]; rfl)
    · rw [if_neg (fun z => q (h0.mp z))]
      exact no (by unfold kwnB; rw [decide_eq_false q, Bool.false_and]; decide)
  · have e : k = W := by omega
    subst e
    rw [if_pos (nI_le hge (by omega)), yo_s]
/-- the question that would tell most -/
noncomputable def bqF (U : Nat → Nat) (A : Nat → Bool) : Nat → Option Nat
  | 0 => none
  | n + 1 => if A n = true then bqF U A n else match bqF U A n with | none => some n | some b => if U n ≤ U b then some b else some n
def bqI : Option Nat → Int32
  | none => -1
  | some b => nI b
def bqU (U : Nat → Nat) : Option Nat → Int32
  | none => -1
  | some b => nI (U b)
theorem bqF_lt {U : Nat → Nat} {A : Nat → Bool} : ∀ (n b : Nat), bqF U A n = some b → b < n
  | 0, b, h => by cases h
  | n + 1, b, h => by
    have ih := bqF_lt (U := U) (A := A) n
    unfold bqF at h
    by_cases q : A n = true
    · rw [if_pos q] at h
      have := ih b h
      omega
    · rw [if_neg q] at h
      cases e : bqF U A n with
      | none =>
        rw [e] at h
        cases h
        omega
      | some c =>
        rw [e] at h
        have h : (if U n ≤ U c then some c else some n) = some b := h
        have := ih c e
        by_cases q2 : U n ≤ U c
        · rw [if_pos q2] at h; cases h; omega
        · rw [if_neg q2] at h; cases h; omega
theorem unk_le {T : Nat → Int32} {mk sz n : Nat} {K : Nat → Bool} : unkC T mk sz K n ≤ 64 := cnt_le _ _
theorem c_best {N : Nat} (hN : 700 ≤ N) {M : Mem} {T : Nat → Int32} {mk sz W : Nat} {K A : Nat → Bool} (hW : W ≤ 256) (h : cHr M T mk sz W K A) : fX0_bestQuestion N 130 M = some (bqI (bqF (unkC T mk sz K) A W)) := by
  rw [← yo_eq]
  unfold fX0_bestQuestion
  refine yo_f3 (F := fX0_bestQuestion_l6 N 130 M) W (fun k a b c => c = nI k ∧ a = bqI (bqF (unkC T mk sz K) A k) ∧ b = bqU (unkC T mk sz K) (bqF (unkC T mk sz K) A k)) ?_ N 0 _ _ _ (by omega) (by omega) ⟨rfl, rfl, rfl⟩
  intro f k a b c hk ⟨hc, ha, hb⟩ ih
  subst ha hb hc
  show Yo (fX0_bestQuestion_l6_s N 130 M (fX0_bestQuestion_l6 N 130 M f) _ _ (nI k)) _
  unfold fX0_bestQuestion_l6_s fX0_bestQuestion_b56
  rw [h.1.1]
  rcases Nat.lt_or_ge k W with hlt | hge
  · have hbc : fJ13_bitCount_95d88 (rJ M 133 k &&& (rJ M 130 6 ^^^ (-1 : Int64))) M = some (nI (unkC T mk sz K k)) := by
      rw [bitCount_ok]
      unfold unkC
      congr 2
      exact cnt_cong (n := 64) (fun q hq => c_unk h hlt q hq)
    have hst : bqF (unkC T mk sz K) A (k + 1) = if A k = true then bqF (unkC T mk sz K) A k else match bqF (unkC T mk sz K) A k with | none => some k | some b => if unkC T mk sz K k ≤ unkC T mk sz K b then some b else some k := rfl
    rw [if_neg (nI_ge hlt (by omega)), if_pos (inB_nI (show k < 256 by omega) (by decide)), nI_clamp (by omega), show (130 + 3 : Nat) = 133 from rfl, hbc, Option.bind_some, has_ok (by omega), Option.bind_some, show (130 + 1 + 1 : Nat) = 131 + 1 from rfl, h.2.2 k (by omega), nI_1]
    have uk := unk_le (T := T) (mk := mk) (sz := sz) (n := k) (K := K)
    cases e : A k with
    | true =>
      rw [if_pos rfl]
      rw [e, if_pos rfl] at hst
      exact ih _ _ _ hlt ⟨rfl, by rw [hst], by rw [hst]⟩
    | false =>
      rw [if_neg (by decide)]
      rw [e, if_neg (by decide)] at hst
      cases e2 : bqF (unkC T mk sz K) A k with
      | none =>
        rw [e2] at hst
        have hst : bqF (unkC T mk sz K) A (k + 1) = some k := hst
        have : ¬ nI (unkC T mk sz K k) ≤ bqU (unkC T mk sz K) none := by
          show ¬ nI (unkC T mk sz K k) ≤ (-1 : Int32)
          rw [Int32.le_iff_toInt_le, nI_toInt (by omega), show (-1 : Int32).toInt = -1 from by decide]
          omega
        rw [if_neg this]
        exact ih _ _ _ hlt ⟨rfl, by rw [hst]; rfl, by rw [hst]; rfl⟩
      | some b =>
        rw [e2] at hst
        have hst : bqF (unkC T mk sz K) A (k + 1) = if unkC T mk sz K k ≤ unkC T mk sz K b then some b else some k := hst
        have ub := unk_le (T := T) (mk := mk) (sz := sz) (n := b) (K := K)
        by_cases q : unkC T mk sz K k ≤ unkC T mk sz K b
        · rw [if_pos (show nI (unkC T mk sz K k) ≤ bqU (unkC T mk sz K) (some b) from nI_le q (by omega))]
          rw [if_pos q] at hst
          exact ih _ _ _ hlt ⟨rfl, by rw [hst], by rw [hst]⟩
        · rw [if_neg (show ¬ nI (unkC T mk sz K k) ≤ bqU (unkC T mk sz K) (some b) from nI_ge (by omega) (by omega))]
          rw [if_neg q] at hst
          exact ih _ _ _ hlt ⟨rfl, by rw [hst]; rfl, by rw [hst]; rfl⟩
  · have e : k = W := by omega
    subst e
    rw [if_pos (nI_le hge (by omega)), yo_s]
theorem r_best {N : Nat} (hN : 700 ≤ N) {M : Mem} {T : Nat → Int32} {r W g m kd sz mk ex ly : Nat} {K A : Nat → Bool} (hx : rX M T r W g m kd sz mk ex ly) (hK : ∀ q, q < 64 → rI M 159 q = (if K q = true then 1 else 0)) (hA : rN M 160 W A) :
    Yo (fX11_ask_l51 N 140 (nI r) N (-1 : Int32) (0 : Int32) M) (fun x => x.1 = bqI (bqF (unkC T mk sz K) A W) ∧ smF [147] M x.2) := by
  have hW : W ≤ 256 := hx.2.2.1.2.1
  refine yo_f3 (F := fX11_ask_l51 N 140 (nI r)) W (fun k a c M2 => c = nI k ∧ a = bqI (bqF (unkC T mk sz K) A k) ∧ smF [147] M M2) ?_ N 0 _ _ _ (by omega) (by omega) ⟨rfl, rfl, smF.refl⟩
  intro f k a c M2 hk ⟨hc, ha, g1⟩ ih
  subst ha hc
  show Yo (fX11_ask_l51_s N 140 (nI r) (fX11_ask_l51 N 140 (nI r) f) _ (nI k) M2) _
  unfold fX11_ask_l51_s fX11_ask_b93 fX11_ask_b96
  have hx2 : rX M2 T r W g m kd sz mk ex ly := hx.mv (g1 141 (by decide))
  rw [if_pos (by decide), rworld hx2]
  rcases Nat.lt_or_ge k W with hlt | hge
  · have hst : bqF (unkC T mk sz K) A (k + 1) = if A k = true then bqF (unkC T mk sz K) A k else match bqF (unkC T mk sz K) A k with | none => some k | some b => if unkC T mk sz K k ≤ unkC T mk sz K b then some b else some k := rfl
    rw [if_neg (nI_ge hlt (by omega)), if_pos (inB_nI (show k < 256 by omega) (by decide)), nI_clamp (by omega), show (140 + 20 : Nat) = 160 from rfl, g1.I_ (by decide), hA k hlt, nI_1]
    cases e : A k with
    | true =>
      rw [if_neg (by decide)]
      rw [e, if_pos rfl] at hst
      exact ih _ _ _ hlt ⟨rfl, by rw [hst], g1⟩
    | false =>
      rw [if_pos (by decide)]
      rw [e, if_neg (by decide)] at hst
      cases e2 : bqF (unkC T mk sz K) A k with
      | none =>
        rw [e2] at hst
        have hst : bqF (unkC T mk sz K) A (k + 1) = some k := hst
        rw [if_pos (show bqI none = (-1 : Int32) from rfl)]
        exact ih _ _ _ hlt ⟨rfl, by rw [hst]; rfl, g1⟩
      | some b =>
        rw [e2] at hst
        have hst : bqF (unkC T mk sz K) A (k + 1) = if unkC T mk sz K k ≤ unkC T mk sz K b then some b else some k := hst
        have hb := bqF_lt k b e2
        have uk := unk_le (T := T) (mk := mk) (sz := sz) (n := k) (K := K)
        have ub := unk_le (T := T) (mk := mk) (sz := sz) (n := b) (K := K)
        rw [if_neg (show ¬ bqI (some b) = (-1 : Int32) from by show ¬ nI b = -1; rw [li_1]; exact fun z => (nI_ng (by omega) (by omega) (by omega)).mp z)]
        refine (r_unknown (n := k) hN hx2 (fun q hq => by rw [g1.I_ (by decide)]; exact hK q hq)).bi (fun x hx4 => ?_)
        have hF : smF [147] M x.2 := g1.trans hx4.2
        show Yo ((fX11_unknown N 140 (nI r) (nI b) x.2).bind _) _
        refine (r_unknown (n := b) hN (hx.mv (hF 141 (by decide))) (fun q hq => by rw [hF.I_ (by decide)]; exact hK q hq)).bi (fun y hy => ?_)
        rw [hx4.1, hy.1]
        by_cases q : unkC T mk sz K k ≤ unkC T mk sz K b
        · rw [if_pos (nI_le q (by omega))]
          rw [if_pos q] at hst
          exact ih _ _ _ hlt ⟨rfl, by rw [hst], hF.trans hy.2⟩
        · rw [if_neg (nI_ge (by omega) (by omega))]
          rw [if_neg q] at hst
          exact ih _ _ _ hlt ⟨rfl, by rw [hst]; rfl, hF.trans hy.2⟩
  · have e : k = W := by omega
    subst e
    rw [if_pos (nI_le hge (by omega)), yo_s]
    exact ⟨rfl, g1⟩
