/-! SEMANTICS: worst -/
noncomputable def sayV (T : Nat → Int32) (mk sz : Nat) (V : Nat → Bool) (n : Nat) : Bool := bo (∀ w, w < mk → V (plT T w (nI n) sz) = true)
noncomputable def lwB (T : Nat → Int32) (mk sz : Nat) (V eB S : Nat → Bool) (n : Nat) : Bool := sayV T mk sz V n && !(eB n || S n)
theorem c_liesW {N : Nat} (hN : 700 ≤ N) {M : Mem} {T : Nat → Int32} {mk sz W b : Nat} {V eB S : Nat → Bool} {B : Int64} {v4 : Int32} (hW : W ≤ 256) (h1 : 1 ≤ sz) (h2 : sz ≤ 64) (h : cPl M T mk sz W) (hS : cN M b S) (hB : ∀ q, q < 64 → bl B q = V q) (he : ∀ k, k < W → (nI k = v4 ↔ eB k = true)) :
    fX0_liesWithin N 130 b B v4 M = some (nI (cnt (lwB T mk sz V eB S) W)) := by
  rw [← yo_eq]
  unfold fX0_liesWithin
  refine yo_f2 (F := fX0_liesWithin_l6 N 130 b B v4 M) W (fun k a c => c = nI k ∧ a = nI (cnt (lwB T mk sz V eB S) k)) ?_ N 0 _ _ (by omega) (by omega) ⟨rfl, rfl⟩
  intro f k a c hk ⟨hc, ha⟩ ih
  subst hc ha
  show Yo (fX0_liesWithin_l6_s N 130 b B v4 M (fX0_liesWithin_l6 N 130 b B v4 M f) _ (nI k)) _
  unfold fX0_liesWithin_l6_s fX0_liesWithin_b52
  rw [h.1]
  rcases Nat.lt_or_ge k W with hlt | hge
  · have hs : cnt (lwB T mk sz V eB S) (k + 1) = cnt (lwB T mk sz V eB S) k + if lwB T mk sz V eB S k = true then 1 else 0 := rfl
    have yes : lwB T mk sz V eB S k = true → Yo (fX0_liesWithin_l6 N 130 b B v4 M f (nI (cnt (lwB T mk sz V eB S) k + 1)) (nI (k + 1))) (fun x => x = nI (cnt (lwB T mk sz V eB S) W)) := fun z => ih _ _ hlt ⟨rfl, by rw [hs, if_pos z]⟩
    have no : lwB T mk sz V eB S k = false → Yo (fX0_liesWithin_l6 N 130 b B v4 M f (nI (cnt (lwB T mk sz V eB S) k)) (nI (k + 1))) (fun x => x = nI (cnt (lwB T mk sz V eB S) W)) := fun z => ih _ _ hlt ⟨rfl, by rw [hs, z, if_neg (by decide), Nat.add_zero]⟩
    have hin : (rJ M 133 k &&& (B ^^^ (-1 : Int64)) = 0) ↔ sayV T mk sz V k = true := by
      rw [bl_in]
      unfold sayV
      rw [bo_iff, ← pl_in (V := V) h1 h2]
      refine ⟨fun h' q hq hp => ?_, fun h' q hq hp => ?_⟩
      · rw [← hB q hq]; exact h' q hq (by rw [h.2 k hlt]; exact hp)
      · rw [hB q hq]; exact h' q hq (by rw [← h.2 k hlt]; exact hp)
    rw [if_neg (nI_ge hlt (by omega)), if_pos (inB_nI (show k < 256 by omega) (by decide)), nI_clamp (by omega), show (130 + 3 : Nat) = 133 from rfl, nI_1, nI_1]
    by_cases q : rJ M 133 k &&& (B ^^^ (-1 : Int64)) = 0
    · rw [if_pos q]
      have hsay := hin.mp q
      by_cases q2 : nI k = v4
      · rw [if_pos q2]
        exact no (by unfold lwB; rw [(he k hlt).mp q2]; simp)
      · have he0 : eB k = false := by
          cases e : eB k with
          | false => rfl
          | true => exact absurd ((he k hlt).mpr e) q2
        rw [if_neg q2, has_ok (by omega), Option.bind_some, hS k (by omega)]
        cases e : S k with
        | true => rw [if_pos rfl]; exact no (by unfold lwB; rw [e]; simp)
        | false => rw [if_neg (by decide)]; exact yes (by unfold lwB; rw [e, he0, hsay]; rfl)
    · rw [if_neg q]
      have hsay : sayV T mk sz V k = false := by
        cases e : sayV T mk sz V k with
        | false => rfl
        | true => exact absurd (hin.mpr e) q
      exact no (by unfold lwB; rw [hsay]; rfl)
  · have e : k = W := by omega
    subst e
    rw [if_pos (nI_le hge (by omega)), yo_s]
/-- the lies with a name put -/
noncomputable def lwU (T : Nat → Int32) (r mk sz W n : Nat) : Nat := cnt (lwB T mk sz (fun q => rowV T r sz q || plcB T mk sz n q) (fun k => decide (k = n)) (setS T r W)) W
theorem c_worst {N : Nat} (hN : 700 ≤ N) {M : Mem} {T : Nat → Int32} {r W g m kd sz mk ex ly : Nat} (hc : cX M T r W g m kd sz mk ex ly) :
    Yo (fX0_findWorst N 130 (10 + 4 * r) 2 M) (fun x => x.1 = (bqF (lwU T r mk sz W) (setS T r W) W).isSome ∧ rI x.2 130 0 = bqI (bqF (lwU T r mk sz W) (setS T r W) W) ∧ rI x.2 130 1 = bqU (lwU T r mk sz W) (bqF (lwU T r mk sz W) (setS T r W) W) ∧ smF [8, 130, 133] M x.2) := by
  have hr := hc.1
  have hW : W ≤ 256 := hc.W1.2.2
  have hs := hc.2.2.2.2.1.2.1
  have hs2 := hc.2.2.2.2.1.2.2.1
  unfold fX0_findWorst
  refine (c_lay hN hc).bi (fun y hy => ?_)
  obtain ⟨y1, y2⟩ := hy
  have hcy : cX y T r W g m kd sz mk ex ly := hc.mv (fun a h1 h2 => y2 a (by simp; omega))
  refine (c_bits hN hcy).bi (fun B hB => ?_)
  refine yo_f2 (F := fX0_findWorst_l24 N 130 (10 + 4 * r) B) W (fun k v M2 => v = nI k ∧ smF [130] y M2 ∧ rI M2 130 5 = nI W ∧ rI M2 130 0 = bqI (bqF (lwU T r mk sz W) (setS T r W) k) ∧ rI M2 130 1 = bqU (lwU T r mk sz W) (bqF (lwU T r mk sz W) (setS T r W) k)) ?_ N 0 _ _ (by omega) (by omega) ⟨rfl, (smF.refl.pI_ (by simp) _ _).pI_ (by simp) _ _, by rw [rI_wI, if_neg (by omega), rI_wI, if_neg (by omega)]; exact y1.1, by rw [rI_wI, if_neg (by omega), rI_wI, if_pos ⟨rfl, rfl⟩]; rfl, by rw [rI_wI, if_pos ⟨rfl, rfl⟩]; rfl⟩
  intro f k v M2 hk ⟨hv, g1, g2, g3, g4⟩ ih
  subst hv
  show Yo (fX0_findWorst_l24_s N 130 (10 + 4 * r) B (fX0_findWorst_l24 N 130 (10 + 4 * r) B f) (nI k) M2) _
  unfold fX0_findWorst_l24_s fX0_findWorst_b87
  rw [g2]
  have hcM : cX M2 T r W g m kd sz mk ex ly := hcy.mv (fun a h1 h2 => g1 a (by simp; omega))
  have hSM : cN M2 (10 + 4 * r + 1) (setS T r W) := fun n hn => by
    rw [show 10 + 4 * r + 1 + 1 = 10 + 4 * r + 2 by omega, hcM.2.2.1.2.2.2 n hn]
    exact setS_put hcM.2.2.2 hn
  rcases Nat.lt_or_ge k W with hlt | hge
  · have hst : bqF (lwU T r mk sz W) (setS T r W) (k + 1) = if setS T r W k = true then bqF (lwU T r mk sz W) (setS T r W) k else match bqF (lwU T r mk sz W) (setS T r W) k with | none => some k | some b => if lwU T r mk sz W k ≤ lwU T r mk sz W b then some b else some k := rfl
    have hpM : cPl M2 T mk sz W := ⟨g2, fun n hn q => by rw [g1.J_ (by simp)]; exact y1.2 n hn q⟩
    have hll := c_liesW (N := N) (V := fun q => rowV T r sz q || plcB T mk sz k q) (eB := fun j => decide (j = k)) (B := B ||| rJ M2 133 k) (v4 := nI k) hN hW hs hs2 hpM hSM (fun q _ => by rw [bl_or, hB, hpM.2 k hlt]) (fun j hj => by rw [nI_eq (by omega) (by omega)]; simp)
    have hll : fX0_liesWithin N 130 (10 + 4 * r + 1) (B ||| rJ M2 133 k) (nI k) M2 = some (nI (lwU T r mk sz W k)) := hll
    have hle : ∀ n, lwU T r mk sz W n ≤ 256 := fun n => Nat.le_trans (cnt_le _ _) hW
    have step : ∀ M3 : Mem, smF [130] y M3 → rI M3 130 5 = nI W → bqF (lwU T r mk sz W) (setS T r W) (k + 1) = some k → rI M3 130 0 = nI k → rI M3 130 1 = nI (lwU T r mk sz W k) → Yo (fX0_findWorst_l24 N 130 (10 + 4 * r) B f (nI (k + 1)) M3) (fun x => x.1 = (bqF (lwU T r mk sz W) (setS T r W) W).isSome ∧ rI x.2 130 0 = bqI (bqF (lwU T r mk sz W) (setS T r W) W) ∧ rI x.2 130 1 = bqU (lwU T r mk sz W) (bqF (lwU T r mk sz W) (setS T r W) W) ∧ smF [8, 130, 133] M x.2) := fun M3 q1 q2 q3 q4 q5 => ih _ _ hlt ⟨rfl, q1, q2, by rw [q3]; exact q4, by rw [q3]; exact q5⟩
    rw [if_neg (nI_ge hlt (by omega)), has_ok (by omega), Option.bind_some, hSM k (by omega), nI_1]
    cases e : setS T r W k with
    | true =>
      rw [if_pos rfl]
      rw [e, if_pos rfl] at hst
      exact ih _ _ hlt ⟨rfl, g1, g2, by rw [hst]; exact g3, by rw [hst]; exact g4⟩
    | false =>
      rw [e, if_neg (by decide)] at hst
      rw [if_neg (by decide), if_pos (inB_nI (show k < 256 by omega) (by decide)), nI_clamp (by omega), show (130 + 3 : Nat) = 133 from rfl, hll, Option.bind_some, g4]
      have hup : Yo (fX0_findWorst_l24 N 130 (10 + 4 * r) B f (nI (k + 1)) (wI (wI M2 130 1 (nI (lwU T r mk sz W k))) 130 0 (nI k))) (fun x => x.1 = (bqF (lwU T r mk sz W) (setS T r W) W).isSome ∧ rI x.2 130 0 = bqI (bqF (lwU T r mk sz W) (setS T r W) W) ∧ rI x.2 130 1 = bqU (lwU T r mk sz W) (bqF (lwU T r mk sz W) (setS T r W) W) ∧ smF [8, 130, 133] M x.2) ∨ bqF (lwU T r mk sz W) (setS T r W) (k + 1) ≠ some k := by
        by_cases q : bqF (lwU T r mk sz W) (setS T r W) (k + 1) = some k
        · exact Or.inl (step _ ((g1.pI_ (by simp) _ _).pI_ (by simp) _ _) (by rw [rI_wI, if_neg (by omega), rI_wI, if_neg (by omega)]; exact g2) q (by rw [rI_wI, if_pos ⟨rfl, rfl⟩]) (by rw [rI_wI, if_neg (by omega), rI_wI, if_pos ⟨rfl, rfl⟩]))
        · exact Or.inr q
      cases e2 : bqF (lwU T r mk sz W) (setS T r W) k with
      | none =>
        rw [e2] at hst
        have hst : bqF (lwU T r mk sz W) (setS T r W) (k + 1) = some k := hst
        have : ¬ nI (lwU T r mk sz W k) ≤ bqU (lwU T r mk sz W) none := by
          show ¬ nI (lwU T r mk sz W k) ≤ (-1 : Int32)
          rw [Int32.le_iff_toInt_le, nI_toInt (by have := hle k; omega), show (-1 : Int32).toInt = -1 from by decide]
          omega
        rw [if_neg this]
        rcases hup with h | h
        · exact h
        · exact absurd hst h
      | some b =>
        rw [e2] at hst
        have hst : bqF (lwU T r mk sz W) (setS T r W) (k + 1) = if lwU T r mk sz W k ≤ lwU T r mk sz W b then some b else some k := hst
        by_cases q : lwU T r mk sz W k ≤ lwU T r mk sz W b
        · rw [if_pos (show nI (lwU T r mk sz W k) ≤ bqU (lwU T r mk sz W) (some b) from nI_le q (by have := hle b; omega))]
          rw [if_pos q] at hst
          exact ih _ _ hlt ⟨rfl, g1, g2, by rw [hst, ← e2]; exact g3, by rw [hst, ← e2]; exact g4⟩
        · rw [if_neg (show ¬ nI (lwU T r mk sz W k) ≤ bqU (lwU T r mk sz W) (some b) from nI_ge (by omega) (by have := hle k; omega))]
          rw [if_neg q] at hst
          rcases hup with h | h
          · exact h
          · exact absurd hst h
  · have e : k = W := by omega
    subst e
    rw [if_pos (nI_le hge (by omega)), g3]
    have hF : smF [8, 130, 133] M M2 := y2.trans (g1.mono (by simp))
    cases e2 : bqF (lwU T r mk sz k) (setS T r k) k with
    | none =>
      rw [if_pos (show bqI none = (-1 : Int32) from rfl), yo_s]
      exact ⟨rfl, by rw [g3, e2], by rw [g4, e2], hF⟩
    | some b =>
      have hb := bqF_lt k b e2
      rw [if_neg (show ¬ bqI (some b) = (-1 : Int32) from by show ¬ nI b = -1; rw [li_1]; exact fun z => (nI_ng (by omega) (by omega) (by omega)).mp z), yo_s]
      exact ⟨rfl, by rw [g3, e2], by rw [g4, e2], hF⟩
