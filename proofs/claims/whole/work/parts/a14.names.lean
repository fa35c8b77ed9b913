/-! SEMANTICS: sets of names, and the places that they hold -/
def cN (M : Mem) (b : Nat) (S : Nat → Bool) : Prop := ∀ n, n < 256 → bl (rJ M (b + 1) (n / 64)) (n % 64) = S n
theorem cN.mv {M M' : Mem} {b : Nat} {S : Nat → Bool} (h : cN M b S) (e : M' (b + 1) = M (b + 1)) : cN M' b S := fun n hn => by rw [eqs_rJ e]; exact h n hn
theorem cN_word {M : Mem} {b n : Nat} {S : Nat → Bool} {v : Bool} {w : Int64} (h : cN M b S) (hn : n < 256) (hw : ∀ i, i < 64 → bl w i = if i = n % 64 then v else bl (rJ M (b + 1) (n / 64)) i) : cN (wJ M (b + 1) (n / 64) w) b (uv S n v) := by
  intro i hi
  rw [rJ_wJ]
  by_cases q : i / 64 = n / 64
  · rw [if_pos ⟨rfl, q⟩, hw _ (by omega)]
    by_cases q2 : i = n
    · rw [if_pos (by rw [q2]), q2, uv_eq]
    · rw [if_neg (by omega), uv_ne q2, ← q]
      exact h i hi
  · rw [if_neg (fun z => q z.2), uv_ne (fun z => q (by rw [z]))]
    exact h i hi
theorem cN_add {M : Mem} {b n : Nat} {S : Nat → Bool} (h : cN M b S) (hn : n < 256) : Yo (fX2_add b (nI n) M) (fun x => cN x b (uv S n true) ∧ smF [b + 1] M x) := by
  unfold fX2_add
  rw [if_neg (nI_pos (by omega)), if_neg (show ¬ (256 : Int32) ≤ nI n from nI_ge (b := 256) hn (by decide)), shr6 n hn, and63 n hn, if_pos (inB_nI (by omega) (by decide)), if_pos (inB_nI (by omega) (by decide)), nI_clamp (by omega), yo_s]
  refine ⟨cN_word h hn (fun i hi => ?_), smF.refl.pJ_ (by simp) _ _⟩
  rw [bl_or, bl_one (by omega)]
  by_cases q : i = n % 64
  · rw [decide_eq_true q, if_pos q, Bool.or_true]
  · rw [decide_eq_false q, if_neg q, Bool.or_false]
theorem cN_remove {M : Mem} {b n : Nat} {S : Nat → Bool} (h : cN M b S) (hn : n < 256) : Yo (fX2_remove b (nI n) M) (fun x => cN x b (uv S n false) ∧ smF [b + 1] M x) := by
  unfold fX2_remove
  rw [if_neg (nI_pos (by omega)), if_neg (show ¬ (256 : Int32) ≤ nI n from nI_ge (b := 256) hn (by decide)), shr6 n hn, and63 n hn, if_pos (inB_nI (by omega) (by decide)), if_pos (inB_nI (by omega) (by decide)), nI_clamp (by omega), yo_s]
  refine ⟨cN_word h hn (fun i hi => ?_), smF.refl.pJ_ (by simp) _ _⟩
  rw [bl_and, bl_not hi, bl_one (by omega)]
  by_cases q : i = n % 64
  · rw [decide_eq_true q, if_pos q]; exact Bool.and_false _
  · rw [decide_eq_false q, if_neg q]; exact Bool.and_true _
theorem cN_clear {N : Nat} {M : Mem} {b : Nat} : Yo (fX2_clear N b M) (fun x => cN x b (fun _ => false) ∧ smF [b + 1] M x) := by
  unfold fX2_clear
  rw [Option.bind_some, yo_s]
  refine ⟨fun n hn => by rw [rJ_fillJ, if_pos ⟨rfl, by omega⟩, bl_0], fun a ha => ?_⟩
  simp at ha
  unfold fillJ wJs
  exact va_up_ne _ _ ha
/-- the places of a name -/
noncomputable def plcB (T : Nat → Int32) (mk sz n q : Nat) : Bool := bo (∃ w, w < mk ∧ plT T w (nI n) sz = q)
theorem c_plcs {N : Nat} (hN : 700 ≤ N) {M : Mem} {T : Nat → Int32} {W g m n sz mk : Nat} (h : cRu M 2 T W g m) (hm : mk ≤ m) (h1 : 1 ≤ sz) (h2 : sz ≤ 64) :
    Yo (fX6_placesOf N 2 (nI n) (nI sz) (nI mk) M) (fun x => (∀ q, bl x.1 q = plcB T mk sz n q) ∧ smF [8] M x.2) := by
  have hm6 : m ≤ 6 := h.1.2.2.2.2.2.2.1
  unfold fX6_placesOf
  refine yo_f3 (F := fX6_placesOf_l6 N 2 (nI n) (nI sz) (nI mk)) mk (fun k a v M2 => v = nI k ∧ smF [8] M M2 ∧ ∀ q, bl a q = plcB T k sz n q) ?_ N 0 _ _ _ (by omega) (by omega) ⟨rfl, smF.refl, fun q => ?_⟩
  · intro f k a v M2 hk ⟨hv, g1, g2⟩ ih
    subst hv
    show Yo (fX6_placesOf_l6_s N 2 (nI n) (nI sz) (nI mk) (fX6_placesOf_l6 N 2 (nI n) (nI sz) (nI mk) f) a (nI k) M2) _
    unfold fX6_placesOf_l6_s
    rcases Nat.lt_or_ge k mk with hlt | hge
    · rw [if_neg (nI_ge hlt (by omega))]
      refine (cv_place (w := k) (name := nI n) hN (h.moved (fun a h1 h2 => g1 a (by simp; omega))) (by omega) h1 (by omega)).bi (fun x hx => ?_)
      rw [hx.1, nI_1]
      refine ih _ _ _ hlt ⟨rfl, g1.trans hx.2, fun q => ?_⟩
      have hpl := plT_lt (T := T) (w := k) (name := nI n) h1
      rw [bl_or, g2, bl_one (by omega)]
      unfold plcB
      by_cases q1 : ∃ w, w < k ∧ plT T w (nI n) sz = q
      · obtain ⟨w, hw, hw2⟩ := q1
        rw [bo_t (show ∃ w, w < k ∧ plT T w (nI n) sz = q from ⟨w, hw, hw2⟩), bo_t (show ∃ w, w < k + 1 ∧ plT T w (nI n) sz = q from ⟨w, by omega, hw2⟩)]
        rfl
      · rw [bo_f q1, Bool.false_or]
        by_cases q2 : q = plT T k (nI n) sz
        · rw [decide_eq_true q2, bo_t ⟨k, by omega, q2.symm⟩]
        · rw [decide_eq_false q2, bo_f]
          rintro ⟨w, hw, hw2⟩
          by_cases e : w = k
          · subst e; exact q2 hw2.symm
          · exact q1 ⟨w, by omega, hw2⟩
    · have e : k = mk := by omega
      subst e
      rw [if_pos (nI_le hge (by omega)), yo_s]
      exact ⟨g2, g1⟩
  · unfold plcB
    rw [bl_0, bo_f]
    rintro ⟨w, hw, _⟩
    exact absurd hw (Nat.not_lt_zero w)
/-- the places of all names of a set -/
noncomputable def seeB (T : Nat → Int32) (mk sz W : Nat) (S : Nat → Bool) (q : Nat) : Bool := bo (∃ n, n < W ∧ S n = true ∧ plcB T mk sz n q = true)
theorem seeB_s {T : Nat → Int32} {mk sz k q : Nat} {S : Nat → Bool} : seeB T mk sz (k + 1) S q = (seeB T mk sz k S q || (S k && plcB T mk sz k q)) := by
  unfold seeB
  by_cases q1 : ∃ n, n < k ∧ S n = true ∧ plcB T mk sz n q = true
  · obtain ⟨n, h1, h2⟩ := q1
    rw [bo_t (show ∃ n, n < k ∧ S n = true ∧ plcB T mk sz n q = true from ⟨n, h1, h2⟩), bo_t (show ∃ n, n < k + 1 ∧ S n = true ∧ plcB T mk sz n q = true from ⟨n, by omega, h2⟩)]
    rfl
  · rw [bo_f q1, Bool.false_or]
    by_cases q2 : S k = true ∧ plcB T mk sz k q = true
    · rw [q2.1, q2.2, bo_t ⟨k, by omega, q2⟩]
      rfl
    · rw [bo_f]
      · cases e1 : S k with
        | false => rfl
        | true => cases e2 : plcB T mk sz k q with
          | false => rfl
          | true => exact absurd ⟨e1, e2⟩ q2
      · rintro ⟨n, h1, h2⟩
        by_cases e : n = k
        · subst e; exact q2 h2
        · exact q1 ⟨n, by omega, h2⟩
noncomputable def keepB (T : Nat → Int32) (mk sz W : Nat) (S A : Nat → Bool) (n : Nat) : Bool := bo (A n = true ∧ ∀ w, w < mk → seeB T mk sz W S (plT T w (nI n) sz) = true)
theorem pl_in {T : Nat → Int32} {mk sz n : Nat} {V : Nat → Bool} (h1 : 1 ≤ sz) (h2 : sz ≤ 64) : (∀ q, q < 64 → plcB T mk sz n q = true → V q = true) ↔ ∀ w, w < mk → V (plT T w (nI n) sz) = true := by
  constructor
  · intro h w hw
    have hpl := plT_lt (T := T) (w := w) (name := nI n) h1
    exact h _ (by omega) (bo_t ⟨w, hw, rfl⟩)
  · intro h q hq hp
    obtain ⟨w, hw, rfl⟩ := bo_iff.mp hp
    exact h w hw
def selB (j : Nat) (K A : Nat → Bool) : Nat → Bool := fun n => if n < j then K n else A n
theorem selB_lt {j n : Nat} {K A : Nat → Bool} (h : n < j) : selB j K A n = K n := by unfold selB; rw [if_pos h]
theorem selB_ge {j n : Nat} {K A : Nat → Bool} (h : ¬ n < j) : selB j K A n = A n := by unfold selB; rw [if_neg h]
theorem c_keep {N : Nat} (hN : 700 ≤ N) {M : Mem} {T : Nat → Int32} {W g m sz mk v1 v2 : Nat} {S A : Nat → Bool} (h : cRu M 2 T W g m) (hm : mk ≤ m) (h1 : 1 ≤ sz) (h2 : sz ≤ 64) (hv1 : 10 ≤ v1) (hv2 : 10 ≤ v2) (hv : v1 ≠ v2) (hS : cN M v1 S) (hA : cN M v2 A) (hA0 : ∀ n, W ≤ n → A n = false) :
    Yo (fX1_keepWronged N 2 v1 v2 (nI sz) (nI mk) M) (fun x => smF [8, v2 + 1] M x ∧ cN x v2 (keepB T mk sz W S A)) := by
  have hW : W ≤ 256 := h.1.2.1
  unfold fX1_keepWronged
  refine yo_f3 (F := fX1_keepWronged_l6 N 2 v1 v2 (nI sz) (nI mk)) W (fun k a v M2 => v = nI k ∧ smF [8] M M2 ∧ ∀ q, bl a q = seeB T mk sz k S q) ?_ N 0 _ _ _ (by omega) (by omega) ⟨rfl, smF.refl, fun q => ?_⟩
  · intro f k a v M2 hk ⟨hv, g1, g2⟩ ih
    subst hv
    show Yo (fX1_keepWronged_l6_s N 2 v1 v2 (nI sz) (nI mk) (fX1_keepWronged_l6 N 2 v1 v2 (nI sz) (nI mk) f) a (nI k) M2) _
    unfold fX1_keepWronged_l6_s fX1_keepWronged_b38
    have hr2 := h.moved (M' := M2) (fun a h1 h2 => g1 a (by simp; omega))
    rw [show rI M2 2 1 = nI W from hr2.2.2.1]
    rcases Nat.lt_or_ge k W with hlt | hge
    · rw [if_neg (nI_ge hlt (by omega)), has_ok (by omega), Option.bind_some, hS.mv (g1 (v1 + 1) (by simp; omega)) k (by omega), nI_1]
      cases e : S k with
      | true =>
        rw [if_pos rfl]
        refine (c_plcs (n := k) hN hr2 hm h1 h2).bi (fun x hx => ?_)
        refine ih _ _ _ hlt ⟨rfl, g1.trans hx.2, fun q => ?_⟩
        rw [bl_or, g2, hx.1, seeB_s, e]
        rfl
      | false =>
        rw [if_neg (by decide)]
        refine ih _ _ _ hlt ⟨rfl, g1, fun q => ?_⟩
        rw [g2, seeB_s, e]
        simp
    · have e : k = W := by omega
      subst e
      rw [if_pos (nI_le hge (by omega))]
      refine yo_f2 (F := fX1_keepWronged_l47 N 2 v2 (nI sz) (nI mk) a) k (fun j v M3 => v = nI j ∧ smF [8, v2 + 1] M M3 ∧ cN M3 v2 (selB j (keepB T mk sz k S A) A)) ?_ N 0 _ _ (by omega) (by omega) ⟨rfl, g1.mono (by simp), fun n hn => ?_⟩
      · intro f2 j v M3 hj ⟨hv, j1, j2⟩ ih2
        subst hv
        show Yo (fX1_keepWronged_l47_s N 2 v2 (nI sz) (nI mk) a (fX1_keepWronged_l47 N 2 v2 (nI sz) (nI mk) a f2) (nI j) M3) _
        unfold fX1_keepWronged_l47_s fX1_keepWronged_b92
        have hr3 := h.moved (M' := M3) (fun a h1 h2 => j1 a (by simp; omega))
        rw [show rI M3 2 1 = nI k from hr3.2.2.1]
        rcases Nat.lt_or_ge j k with hlt | hge2
        · have ea : bl (rJ M3 (v2 + 1) (j / 64)) (j % 64) = A j := by rw [j2 j (by omega), selB_ge (by omega)]
          rw [if_neg (nI_ge hlt (by omega)), has_ok (by omega), Option.bind_some, ea, nI_1]
          -- a step that keeps what was
          have keep : ∀ M4 : Mem, smF [8] M3 M4 → keepB T mk sz k S A j = A j → Yo (fX1_keepWronged_l47 N 2 v2 (nI sz) (nI mk) a f2 (nI (j + 1)) M4) (fun x => smF [8, v2 + 1] M x ∧ cN x v2 (keepB T mk sz k S A)) := by
            intro M4 hF hk2
            refine ih2 _ _ hlt ⟨rfl, j1.trans (hF.mono (by simp)), fun n hn => ?_⟩
            rw [hF.J_ (by simp; omega), j2 n hn]
            by_cases q : n = j
            · subst q; rw [selB_ge (by omega), selB_lt (by omega), hk2]
            · by_cases q2 : n < j
              · rw [selB_lt q2, selB_lt (by omega)]
              · rw [selB_ge q2, selB_ge (by omega)]
          cases e : A j with
          | false =>
            rw [if_neg (by decide)]
            refine keep M3 smF.refl ?_
            unfold keepB
            rw [bo_f (fun z => by rw [e] at z; cases z.1), e]
          | true =>
            rw [if_pos rfl]
            refine (c_plcs (n := j) hN hr3 hm h1 h2).bi (fun x hx => ?_)
            have hin : (x.1 &&& (a ^^^ (-1 : Int64)) = 0) ↔ ∀ w, w < mk → seeB T mk sz k S (plT T w (nI j) sz) = true := by
              rw [bl_in, ← pl_in (V := fun q => seeB T mk sz k S q) h1 h2]
              refine ⟨fun z q hq hp => ?_, fun z q hq hp => ?_⟩
              · rw [← g2]; exact z q hq (by rw [hx.1]; exact hp)
              · rw [g2]; exact z q hq (by rw [← hx.1]; exact hp)
            by_cases q : x.1 &&& (a ^^^ (-1 : Int64)) = 0
            · rw [if_pos q]
              refine keep x.2 hx.2 ?_
              unfold keepB
              rw [e, bo_t ⟨rfl, hin.mp q⟩]
            · rw [if_neg q]
              have j3 : cN x.2 v2 (selB j (keepB T mk sz k S A) A) := cN.mv j2 (hx.2 (v2 + 1) (by simp; omega))
              refine (cN_remove j3 (show j < 256 by omega)).bi (fun y hy => ?_)
              refine ih2 _ _ hlt ⟨rfl, (j1.trans (hx.2.mono (by simp))).trans (hy.2.mono (by simp)), fun n hn => ?_⟩
              rw [hy.1 n hn]
              by_cases q5 : n = j
              · subst q5
                rw [uv_eq, selB_lt (by omega)]
                unfold keepB
                rw [bo_f (fun z => q (hin.mpr z.2))]
              · rw [uv_ne q5]
                by_cases q2 : n < j
                · rw [selB_lt q2, selB_lt (by omega)]
                · rw [selB_ge q2, selB_ge (by omega)]
        · have e : j = k := by omega
          subst e
          rw [if_pos (nI_le hge2 (by omega)), yo_s]
          refine ⟨j1, fun n hn => ?_⟩
          rw [j2 n hn]
          by_cases q : n < j
          · rw [selB_lt q]
          · rw [selB_ge q, hA0 n (by omega)]
            unfold keepB
            rw [bo_f (fun z => by rw [hA0 n (by omega)] at z; cases z.1)]
      · rw [selB_ge (Nat.not_lt_zero n)]
        exact hA.mv (g1 (v2 + 1) (by simp; omega)) n hn
  · unfold seeB
    rw [bl_0, bo_f]
    rintro ⟨n, hn, _⟩
    exact absurd hn (Nat.not_lt_zero n)
