/-! SEMANTICS: choose, what the best is -/
noncomputable def chL (T : Nat → Int32) (r W b k : Nat) : Nat := cnt (lwB T k b (seeB T k b W (setS T r W)) (fun _ => false) (setS T r W)) W
theorem chL_le {T : Nat → Int32} {r W b k : Nat} : chL T r W b k ≤ W := cnt_le _ _
/-- (b, k) before (b', k'): fewer lies, then less money, then the smaller -/
def kLt (L : Nat → Nat → Nat) (b k b' k' : Nat) : Prop := L b k < L b' k' ∨ (L b k = L b' k' ∧ (b + 4 * k < b' + 4 * k' ∨ (b + 4 * k = b' + 4 * k' ∧ b < b')))
def bst (L : Nat → Nat → Nat) (Q : Nat → Nat → Prop) : Option (Nat × Nat) → Prop
  | none => ∀ b k, ¬ Q b k
  | some x => Q x.1 x.2 ∧ ∀ b k, Q b k → ¬ kLt L b k x.1 x.2
theorem bst_uniq {L : Nat → Nat → Nat} {Q : Nat → Nat → Prop} : ∀ {o o' : Option (Nat × Nat)}, bst L Q o → bst L Q o' → o = o'
  | none, none, _, _ => rfl
  | none, some x, h, h' => absurd h'.1 (h _ _)
  | some x, none, h, h' => absurd h.1 (h' _ _)
  | some (b, k), some (b', k'), h, h' => by
    have h1 := h.2 b' k' h'.1
    have h2 := h'.2 b k h.1
    unfold kLt at h1 h2
    dsimp only at h1 h2
    have e1 : b = b' := by omega
    subst e1
    have e2 : k = k' := by omega
    subst e2
    rfl
theorem bst_cong {L : Nat → Nat → Nat} {Q Q' : Nat → Nat → Prop} (h : ∀ b k, Q b k ↔ Q' b k) {o : Option (Nat × Nat)} (hb : bst L Q o) : bst L Q' o := by
  have e : Q = Q' := by funext b k; exact propext (h b k)
  rw [← e]; exact hb
theorem bst_add {L : Nat → Nat → Nat} {Q : Nat → Nat → Prop} {b k : Nat} {x : Nat × Nat} (h : bst L Q (some x)) :
    (kLt L b k x.1 x.2 → bst L (fun b' k' => Q b' k' ∨ (b' = b ∧ k' = k)) (some (b, k))) ∧ (¬ kLt L b k x.1 x.2 → bst L (fun b' k' => Q b' k' ∨ (b' = b ∧ k' = k)) (some x)) := by
  constructor
  · intro hk
    refine ⟨Or.inr ⟨rfl, rfl⟩, fun b' k' hq => ?_⟩
    rcases hq with q | ⟨rfl, rfl⟩
    · have := h.2 b' k' q
      unfold kLt at hk this ⊢
      dsimp only
      omega
    · unfold kLt
      dsimp only
      omega
  · intro hk
    refine ⟨Or.inl h.1, fun b' k' hq => ?_⟩
    rcases hq with q | ⟨rfl, rfl⟩
    · exact h.2 b' k' q
    · exact hk
theorem bst_new {L : Nat → Nat → Nat} {Q : Nat → Nat → Prop} {b k : Nat} (h : bst L Q none) : bst L (fun b' k' => Q b' k' ∨ (b' = b ∧ k' = k)) (some (b, k)) := by
  refine ⟨Or.inr ⟨rfl, rfl⟩, fun b' k' hq => ?_⟩
  rcases hq with q | ⟨rfl, rfl⟩
  · exact absurd q (h _ _)
  · unfold kLt
    dsimp only
    omega
/-- what the class has found: size, marks, lies, cost -/
def cFd (M : Mem) (L : Nat → Nat → Nat) : Option (Nat × Nat) → Prop
  | none => rI M 130 2 = -1
  | some x => rI M 130 2 = nI x.1 ∧ rI M 130 3 = nI x.2 ∧ rI M 130 1 = nI (L x.1 x.2) ∧ rI M 130 4 = nI (x.1 + 4 * x.2)
theorem c_weigh {N : Nat} (hN : 700 ≤ N) {M : Mem} {T : Nat → Int32} {r W g m kd sz0 mk0 ex ly b k : Nat} {o : Option (Nat × Nat)} {Q : Nat → Nat → Prop} (hc : cX M T r W g m kd sz0 mk0 ex ly) (hk : k < m) (h1 : 1 ≤ b) (h2 : b ≤ 64) (hp : cPl M T k b W) (ho : cFd M (chL T r W) o) (hbs : bst (chL T r W) Q o) (hx64 : ∀ x, o = some x → x.1 ≤ 64 ∧ x.2 ≤ 6) :
    Yo (fX0_weigh N 130 (10 + 4 * r) 2 (nI b) (nI (k + 1)) M) (fun x => smF [8, 130, 133] M x ∧ cPl x T (k + 1) b W ∧ ∃ o', cFd x (chL T r W) o' ∧ bst (chL T r W) (fun b' k' => Q b' k' ∨ (b' = b ∧ k' = k + 1)) o' ∧ ∀ y, o' = some y → y.1 ≤ 64 ∧ y.2 ≤ 6) := by
  have hr := hc.1
  have hW : W ≤ 256 := hc.W1.2.2
  have hm6 : m ≤ 6 := hc.2.1.1.2.2.2.2.2.2.1
  have hpc : ∀ n q, plcB T (k + 1) b n q = (plcB T k b n q || bo (plT T k (nI n) b = q)) := fun n q => bo_s (P := fun w => plT T w (nI n) b = q)
  unfold fX0_weigh
  refine yo_f3 (F := fX0_weigh_l6 N 130 (10 + 4 * r) 2 (nI b) (nI (k + 1))) W (fun j a v M2 => v = nI j ∧ smF [8, 133] M M2 ∧ (∀ q, bl a q = seeB T (k + 1) b j (setS T r W) q) ∧ (∀ n, n < j → ∀ q, bl (rJ M2 133 n) q = plcB T (k + 1) b n q) ∧ ∀ n, j ≤ n → n < W → ∀ q, bl (rJ M2 133 n) q = plcB T k b n q) ?_ N 0 _ _ _ (by omega) (by omega) ⟨rfl, smF.refl, fun q => by rw [bl_0]; exact (bo_f (fun ⟨n, hn, _⟩ => absurd hn (Nat.not_lt_zero n))).symm, fun n hn => absurd hn (Nat.not_lt_zero n), fun n _ hn q => hp.2 n hn q⟩
  intro f j a v M2 hj ⟨hv, g1, g2, g3, g4⟩ ih
  subst hv
  show Yo (fX0_weigh_l6_s N 130 (10 + 4 * r) 2 (nI b) (nI (k + 1)) (fX0_weigh_l6 N 130 (10 + 4 * r) 2 (nI b) (nI (k + 1)) f) a (nI j) M2) _
  unfold fX0_weigh_l6_s fX0_weigh_b63
  have hc2 : cX M2 T r W g m kd sz0 mk0 ex ly := hc.mv (fun a h1 h2 => g1 a (by simp; omega))
  rw [g1.I_ (by decide) 5, hp.1]
  rcases Nat.lt_or_ge j W with hlt | hge
  · have hk1 : nI (k + 1) - (1 : Int32) = nI k := by rw [li_1, pk_sub (by omega)]; rfl
    rw [if_neg (nI_ge hlt (by omega)), if_pos (inB_nI (show j < 256 by omega) (by decide)), nI_clamp (by omega), hk1, show (130 + 3 : Nat) = 133 from rfl]
    refine (cv_place (w := k) (name := nI j) hN hc2.2.1 hk h1 (by omega)).bi (fun x hx => ?_)
    have hpl := plT_lt (T := T) (w := k) (name := nI j) h1
    have i256 : inB (nI j) 256 = true := inB_nI (by omega) (by decide)
    rw [hx.1, if_pos i256]
    have hw : ∀ q, bl (rJ M2 133 j ||| shlJ 1 (nI (plT T k (nI j) b))) q = plcB T (k + 1) b j q := fun q => by
      rw [bl_or, g4 j (Nat.le_refl j) hlt, bl_one (by omega), hpc]
      by_cases e : q = plT T k (nI j) b
      · rw [decide_eq_true e, bo_t e.symm]
      · rw [decide_eq_false e, bo_f (fun z => e z.symm)]
    generalize hw' : rJ M2 133 j ||| shlJ 1 (nI (plT T k (nI j) b)) = w at *
    have hF3 : smF [8, 133] M (wJ x.2 133 j w) := (g1.trans (hx.2.mono (by simp))).pJ_ (by simp) _ _
    have hc3 : cX (wJ x.2 133 j w) T r W g m kd sz0 mk0 ex ly := hc.mv (fun a h1 h2 => hF3 a (by simp; omega))
    have e3 : rJ (wJ x.2 133 j w) 133 j = w := by rw [rJ_wJ, if_pos ⟨rfl, rfl⟩]
    have step : ∀ a', (∀ q, bl a' q = seeB T (k + 1) b (j + 1) (setS T r W) q) → Yo (fX0_weigh_l6 N 130 (10 + 4 * r) 2 (nI b) (nI (k + 1)) f a' (nI (j + 1)) (wJ x.2 133 j w)) (fun x => smF [8, 130, 133] M x ∧ cPl x T (k + 1) b W ∧ ∃ o', cFd x (chL T r W) o' ∧ bst (chL T r W) (fun b' k' => Q b' k' ∨ (b' = b ∧ k' = k + 1)) o' ∧ ∀ y, o' = some y → y.1 ≤ 64 ∧ y.2 ≤ 6) := by
      intro a' ha'
      refine ih _ _ _ hlt ⟨rfl, hF3, ha', fun n hn q => ?_, fun n hn hn2 q => ?_⟩
      · rw [rJ_wJ]
        by_cases e : n = j
        · rw [if_pos ⟨rfl, e⟩, e]; exact hw q
        · rw [if_neg (fun z => e z.2), hx.2.J_ (by decide)]; exact g3 n (by omega) q
      · rw [rJ_wJ, if_neg (by omega), hx.2.J_ (by decide)]; exact g4 n (by omega) hn2 q
    rw [has_ok (by omega), Option.bind_some, show 10 + 4 * r + 1 + 1 = 10 + 4 * r + 2 by omega, hc3.2.2.1.2.2.2 j (by omega), setS_put hc3.2.2.2 (by omega), nI_1]
    cases e : setS T r W j with
    | true =>
      rw [if_pos rfl, if_pos i256, e3]
      refine step _ (fun q => ?_)
      rw [bl_or, g2, hw, seeB_s, e, Bool.true_and]
    | false =>
      rw [if_neg (by decide)]
      refine step _ (fun q => ?_)
      rw [bl_or, g2, bl_0, seeB_s, e, Bool.false_and]
  · have e : j = W := by omega
    subst e
    rw [if_pos (nI_le hge (by omega))]
    have hpM : cPl M2 T (k + 1) b j := ⟨by rw [g1.I_ (by decide)]; exact hp.1, fun n hn q => g3 n hn q⟩
    have hSM : cN M2 (10 + 4 * r + 1) (setS T r j) := fun n hn => by
      rw [show 10 + 4 * r + 1 + 1 = 10 + 4 * r + 2 by omega, hc2.2.2.1.2.2.2 n hn]
      exact setS_put hc2.2.2.2 hn
    have hll := c_liesW (N := N) (V := seeB T (k + 1) b j (setS T r j)) (eB := fun _ => false) (B := a) (v4 := -1) hN hW h1 h2 hpM hSM (fun q _ => g2 q) (fun i hi => by rw [li_1]; exact ⟨fun z => absurd ((nI_ng (by omega) (by omega) (by omega)).mp z) (fun h => h), fun z => by cases z⟩)
    have hll : fX0_liesWithin N 130 (10 + 4 * r + 1) a (-1) M2 = some (nI (chL T r j b (k + 1))) := hll
    have hcost : nI b + (4 : Int32) * nI (k + 1) = nI (b + 4 * (k + 1)) := by rw [show (4 : Int32) = nI 4 from rfl, pk_mul, nI_add]
    have hL : chL T r j b (k + 1) ≤ 256 := Nat.le_trans chL_le hW
    have hF2 : smF [8, 130, 133] M M2 := g1.mono (by decide)
    rw [hll, Option.bind_some, hcost]
    generalize hv : chL T r j b (k + 1) = v at *
    have yes : bst (chL T r j) (fun b' k' => Q b' k' ∨ (b' = b ∧ k' = k + 1)) (some (b, k + 1)) → Yo (fX0_weigh_b145 N 130 (nI b) (nI (k + 1)) (nI v) (nI (b + 4 * (k + 1))) M2) (fun x => smF [8, 130, 133] M x ∧ cPl x T (k + 1) b j ∧ ∃ o', cFd x (chL T r j) o' ∧ bst (chL T r j) (fun b' k' => Q b' k' ∨ (b' = b ∧ k' = k + 1)) o' ∧ ∀ y, o' = some y → y.1 ≤ 64 ∧ y.2 ≤ 6) := fun hq => by
      unfold fX0_weigh_b145 fX0_weigh_b150
      rw [if_pos rfl, yo_s]
      refine ⟨(((hF2.pI_ (by simp) _ _).pI_ (by simp) _ _).pI_ (by simp) _ _).pI_ (by simp) _ _, ⟨?_, fun n hn q => ?_⟩, some (b, k + 1), ⟨?_, ?_, ?_, ?_⟩, hq, fun y hy => by cases hy; exact ⟨h2, by omega⟩⟩
      · rw [rI_wI, if_neg (by omega), rI_wI, if_neg (by omega), rI_wI, if_neg (by omega), rI_wI, if_neg (by omega)]; exact hpM.1
      · rw [rJ_wI, rJ_wI, rJ_wI, rJ_wI]; exact hpM.2 n hn q
      · rw [rI_wI, if_neg (by omega), rI_wI, if_neg (by omega), rI_wI, if_neg (by omega), rI_wI, if_pos ⟨rfl, rfl⟩]
      · rw [rI_wI, if_neg (by omega), rI_wI, if_neg (by omega), rI_wI, if_pos ⟨rfl, rfl⟩]
      · rw [rI_wI, if_neg (by omega), rI_wI, if_pos ⟨rfl, rfl⟩]
        show nI v = nI (chL T r j b (k + 1))
        rw [hv]
      · rw [rI_wI, if_pos ⟨rfl, rfl⟩]
    cases o with
    | none =>
      have ho2 : rI M2 130 2 = -1 := by rw [g1.I_ (by decide)]; exact ho
      rw [ho2, if_pos rfl]
      exact yes (bst_new hbs)
    | some x =>
      obtain ⟨o1, o2, o3, o4⟩ := ho
      obtain ⟨x1, x2⟩ := hx64 x rfl
      have hLx : chL T r j x.1 x.2 ≤ 256 := Nat.le_trans chL_le hW
      have no : bst (chL T r j) (fun b' k' => Q b' k' ∨ (b' = b ∧ k' = k + 1)) (some x) → Yo (fX0_weigh_b149 N 130 (nI b) (nI (k + 1)) (nI v) (nI (b + 4 * (k + 1))) M2) (fun x => smF [8, 130, 133] M x ∧ cPl x T (k + 1) b j ∧ ∃ o', cFd x (chL T r j) o' ∧ bst (chL T r j) (fun b' k' => Q b' k' ∨ (b' = b ∧ k' = k + 1)) o' ∧ ∀ y, o' = some y → y.1 ≤ 64 ∧ y.2 ≤ 6) := fun hq => by
        unfold fX0_weigh_b149 fX0_weigh_b150
        rw [if_neg (by decide), yo_s]
        exact ⟨hF2, hpM, some x, ⟨by rw [g1.I_ (by decide)]; exact o1, by rw [g1.I_ (by decide)]; exact o2, by rw [g1.I_ (by decide)]; exact o3, by rw [g1.I_ (by decide)]; exact o4⟩, hq, fun y hy => by cases hy; exact ⟨x1, x2⟩⟩
      obtain ⟨ad1, ad2⟩ := bst_add (b := b) (k := k + 1) hbs
      rw [g1.I_ (by decide) 2, g1.I_ (by decide) 1, g1.I_ (by decide) 4, o1, o3, o4, if_neg (show ¬ nI x.1 = (-1 : Int32) from by rw [li_1]; exact fun z => (nI_ng (by omega) (by omega) (by omega)).mp z)]
      have lt_nI : ∀ a c : Nat, a < 1000 → c < 1000 → (nI a < nI c ↔ a < c) := fun a c ha hc => by
        rw [Int32.lt_iff_toInt_lt, nI_toInt (by omega), nI_toInt (by omega)]
        omega
      unfold kLt at ad1 ad2
      rw [hv] at ad1 ad2
      by_cases z1 : v < chL T r j x.1 x.2
      · rw [if_pos ((lt_nI _ _ (by omega) (by omega)).mpr z1)]
        exact yes (ad1 (Or.inl z1))
      · rw [if_neg (fun z => z1 ((lt_nI _ _ (by omega) (by omega)).mp z))]
        by_cases z2 : v = chL T r j x.1 x.2
        · rw [if_pos (by rw [z2])]
          by_cases z3 : b + 4 * (k + 1) < x.1 + 4 * x.2
          · rw [if_pos ((lt_nI _ _ (by omega) (by omega)).mpr z3)]
            exact yes (ad1 (Or.inr ⟨z2, Or.inl z3⟩))
          · rw [if_neg (fun z => z3 ((lt_nI _ _ (by omega) (by omega)).mp z))]
            by_cases z4 : b + 4 * (k + 1) = x.1 + 4 * x.2
            · rw [if_pos (by rw [z4])]
              by_cases z5 : x.1 ≤ b
              · rw [if_pos (nI_le z5 (by omega))]
                exact no (ad2 (by omega))
              · rw [if_neg (nI_ge (by omega) (by omega))]
                exact yes (ad1 (Or.inr ⟨z2, Or.inr ⟨z4, by omega⟩⟩))
            · rw [if_neg (fun z => z4 ((nI_eq (by omega) (by omega)).mp z))]
              exact no (ad2 (by omega))
        · rw [if_neg (fun z => z2 ((nI_eq (by omega) (by omega)).mp z))]
          exact no (ad2 (by omega))
