/-! SEMANTICS: wronged, count -/
noncomputable def wrF (W : Nat) (x : Nat → Int64) (p : Nat → Bool) (k : Int32) : Nat → Nat → Nat → Int32
  | 0, _, s => if k = -1 then nI s else -1
  | r + 1, i, s => if bo (isNm W (x i)) = true then (if p (x i).toInt.toNat = true then (if nI s = k then (x i).toInt32 else wrF W x p k r (i + 1) (s + 1)) else wrF W x p k r (i + 1) s) else wrF W x p k r (i + 1) s
theorem wrF_s {W : Nat} {x : Nat → Int64} {p : Nat → Bool} {k : Int32} {r i s : Nat} : wrF W x p k (r + 1) i s = if bo (isNm W (x i)) = true then (if p (x i).toInt.toNat = true then (if nI s = k then (x i).toInt32 else wrF W x p k r (i + 1) (s + 1)) else wrF W x p k r (i + 1) s) else wrF W x p k r (i + 1) s := rfl
theorem nm_nat {W : Nat} (hW : W ≤ 256) {x : Int64} (h : isNm W x) : x.toInt32 = nI x.toInt.toNat ∧ x.toInt.toNat < W := by
  obtain ⟨n, hn, hx, hy⟩ := name_of hW h
  have e : x.toInt.toNat = n := by rw [hx, lN_toInt (by omega)]; rfl
  rw [e]
  exact ⟨hy, hn⟩
theorem inTray_ok {t j : Nat} (ht : t < 4) (hj : j < 40) (M : Mem) : fX11_inTray 140 (nI t) (nI j) M = some (rJ M 164 (40 * t + j)).toInt32 := by
  obtain ⟨n1, n2⟩ := rnum_ok ht hj M
  unfold fX11_inTray
  rw [if_pos n1, n2]
theorem ag_wronged {N : Nat} (hN : 700 ≤ N) (a1 a2 a3 : Int32) (M : Mem) (hR : Rel M) : agI (fX10_wronged N 0 a1 a2 a3 M) (fX11_wronged N 140 a1 a2 a3) (fun k Mj1 => if k = 1 then some ((1 : Int32), Mj1) else if k = 2 then some ((2 : Int32), Mj1) else none) M := by
  obtain ⟨W, g, m, hS⟩ := hR.1
  rcases rowTray_ok hS a1 a2 with ⟨c1, c2⟩ | ⟨r, t, hr, ht, rfl, rfl, hh, c1, d1, c2⟩
  · refine refI hR (e := 1) 1 ?_ rfl (by decide) ?_
    · unfold fX10_wronged
      rcases c1 with q | ⟨r, q1, q2⟩
      · rw [q, xb_l]
      · rw [q1, xb_r, q2, xb_l]
    · unfold fX11_wronged fX11_wronged_b32
      rw [c2 M rfl, Option.bind_some, w5_5, if_neg (by decide), if_neg (by decide), yo_s]
      exact smF.refl
  · rcases filled_ok (relT_iff.mp hR.2.2.1 t ht) with ⟨f1, f2⟩ | ⟨so, ma, tr, f1, f2⟩
    · refine refI hR (e := 2) 2 ?_ rfl (by decide) ?_
      · unfold fX10_wronged; rw [c1, xb_r, d1, xb_r, f1, xb_l]
      · unfold fX11_wronged fX11_wronged_b32
        rw [c2 M rfl, Option.bind_some, w5_5, if_pos rfl, if_pos (inB_nI ht (by decide)), nI_clamp (by omega), w5_162, f2, if_pos rfl, w5_5, if_neg (by decide), yo_s, wI_wI]
        exact smF.refl
    · obtain ⟨kd, sz, mk, ex, ly, hc, hr'⟩ := sX hS hr hh
      have hW := hc.W1.2.2
      obtain ⟨t1, t2, t3, t4, t5, t6, t7, t8⟩ := tr
      refine askI hR (wrF W (fun i => rJ M 164 (40 * t + i)) (lieB (M 141).1 r W g kd sz mk ex ly) a3 ma 0 0) ?_ (fun M' hM' => ?_)
      · unfold fX10_wronged
        rw [c1, xb_r, d1, xb_r, f1, xb_r]
        refine yo_f3 (F := fX10_wronged_l25 N 0 a3 (10 + 4 * r) (103 + 2 * t)) ma (fun k a v M2 => v = nI k ∧ smF [8] M M2 ∧ ∃ s, a = nI s ∧ wrF W (fun i => rJ M 164 (40 * t + i)) (lieB (M 141).1 r W g kd sz mk ex ly) a3 (ma - k) k s = wrF W (fun i => rJ M 164 (40 * t + i)) (lieB (M 141).1 r W g kd sz mk ex ly) a3 ma 0 0) ?_ N 0 _ _ _ (by omega) (by omega) ⟨rfl, smF.refl, 0, rfl, rfl⟩
        intro f k a v M2 hk ⟨hv, hF, s, ha, hI⟩ ih
        subst hv ha
        show Yo (fX10_wronged_l25_s N 0 a3 (10 + 4 * r) (103 + 2 * t) (fX10_wronged_l25 N 0 a3 (10 + 4 * r) (103 + 2 * t) f) (nI s) (nI k) M2) _
        unfold fX10_wronged_l25_s fX10_wronged_b84
        have e7 : rI M2 (103 + 2 * t) 1 = nI ma := by rw [hF.I_ (by simp; omega), t7]
        have h2 := hc.mv8 hF
        rw [e7]
        rcases Nat.lt_or_ge k ma with hlt | hge
        · obtain ⟨c, hc1⟩ : ∃ c, ma - k = c + 1 := ⟨ma - k - 1, by omega⟩
          have hc2 : ma - (k + 1) = c := by omega
          rw [hc1, wrF_s] at hI
          have e8 : rJ M2 (103 + 2 * t + 1) k = rJ M 164 (40 * t + k) := by rw [show 103 + 2 * t + 1 = 104 + 2 * t by omega, hF.J_ (by simp; omega), t8 k (by omega)]
          have hS2 : cSh M2 1 (M 141).1 W g m := hS.moved (fun a _ _ h8 => hF a (by simp; omega))
          rw [if_neg (nI_ge hlt (by omega)), num_ok (by omega), Option.bind_some, e8, (isName_ok hS2 _).1, Option.bind_some, nI_1 k, nI_1 s]
          by_cases q : 0 ≤ (rJ M 164 (40 * t + k)).toInt ∧ (rJ M 164 (40 * t + k)).toInt < W
          · rw [bo_t (show isNm W (rJ M 164 (40 * t + k)) from q), if_pos rfl] at hI
            obtain ⟨y1, y2⟩ := nm_nat hW (show isNm W (rJ M 164 (40 * t + k)) from q)
            rw [decide_eq_true q, if_pos rfl, Option.bind_some, y1]
            refine (c_isLie hN h2 y2).bi (fun x hx => ?_)
            rw [hx.1]
            refine yo_i (fun z => ?_) (fun z => ?_)
            · rw [if_pos z] at hI
              refine yo_i (fun y => ?_) (fun y => ?_)
              · rw [if_pos y] at hI
                have e9 : rJ x.2 (103 + 2 * t + 1) k = rJ M 164 (40 * t + k) := by rw [← e8]; exact hx.2.J_ (by simp; omega) _
                rw [num_ok (by omega), Option.bind_some, e9, yo_s]
                exact ⟨congrArg Sum.inr hI, (hF.trans hx.2).mono (by decide)⟩
              · rw [if_neg y] at hI
                exact ih _ _ _ hlt ⟨rfl, hF.trans hx.2, s + 1, rfl, by rw [hc2]; exact hI⟩
            · rw [if_neg z] at hI
              exact ih _ _ _ hlt ⟨rfl, hF.trans hx.2, s, rfl, by rw [hc2]; exact hI⟩
          · rw [bo_f (show ¬ isNm W (rJ M 164 (40 * t + k)) from q), if_neg (by decide)] at hI
            rw [decide_eq_false q, if_neg (by decide)]
            exact ih _ _ _ hlt ⟨rfl, hF, s, rfl, by rw [hc2]; exact hI⟩
        · rw [show ma - k = 0 by omega] at hI
          have hI : (if a3 = -1 then nI s else -1) = wrF W (fun i => rJ M 164 (40 * t + i)) (lieB (M 141).1 r W g kd sz mk ex ly) a3 ma 0 0 := hI
          rw [if_pos (nI_le hge (by omega)), ← hI]
          by_cases q : a3 = -1
          · rw [if_pos q, if_pos q, yo_s]; exact ⟨rfl, hF.mono (by decide)⟩
          · rw [if_neg q, if_neg q, yo_s]; exact ⟨rfl, hF.mono (by decide)⟩
      · have e : M' 141 = M 141 := hM' 141 (by decide)
        have f2' : rI M' 162 t ≠ -1 := by rw [hM'.I_ (by decide)]; exact f2
        unfold fX11_wronged fX11_wronged_b32
        rw [c2 M' e, Option.bind_some, w5_5, if_pos rfl, if_pos (inB_nI ht (by decide)), nI_clamp (by omega), w5_162, if_neg f2', if_pos (by decide)]
        have h' := hr' (wI M' 140 5 0) (by rw [w5_141, e])
        have F0 : ∀ a, a ≠ 140 → a ∉ scr → wI M' 140 5 0 a = M a := fun a h1 h2 => by
          rw [(smF.refl (S := [140])).pI_ (by simp) 5 0 a (by simpa using h1)]
          exact hM' a h2
        refine yo_f3 (F := fX11_wronged_l47 N 140 (nI r) (nI t) a3) ma (fun k a v M2 => v = nI k ∧ smF [147] (wI M' 140 5 0) M2 ∧ ∃ s, a = nI s ∧ wrF W (fun i => rJ M 164 (40 * t + i)) (lieB (M 141).1 r W g kd sz mk ex ly) a3 (ma - k) k s = wrF W (fun i => rJ M 164 (40 * t + i)) (lieB (M 141).1 r W g kd sz mk ex ly) a3 ma 0 0) ?_ N 0 _ _ _ (by omega) (by omega) ⟨rfl, smF.refl, 0, rfl, rfl⟩
        intro f k a v M2 hk ⟨hv, hF, s, ha, hI⟩ ih
        subst hv ha
        show Yo (fX11_wronged_l47_s N 140 (nI r) (nI t) a3 (fX11_wronged_l47 N 140 (nI r) (nI t) a3 f) (nI s) (nI k) M2) _
        unfold fX11_wronged_l47_s fX11_wronged_b112
        have e7 : rI M2 (140 + 23) t = nI ma := by rw [show 140 + 23 = 163 from rfl, hF.I_ (by decide), eqs_rI (F0 163 (by decide) (by decide)), t6]
        have h2 := h'.mv7 hF
        rw [if_pos (inB_nI ht (by decide)), nI_clamp (by omega), e7]
        rcases Nat.lt_or_ge k ma with hlt | hge
        · obtain ⟨c, hc1⟩ : ∃ c, ma - k = c + 1 := ⟨ma - k - 1, by omega⟩
          have hc2 : ma - (k + 1) = c := by omega
          rw [hc1, wrF_s] at hI
          have r8 : ∀ M3, smF [147] (wI M' 140 5 0) M3 → rJ M3 164 (40 * t + k) = rJ M 164 (40 * t + k) := fun M3 h3 => by rw [h3.J_ (by decide), eqs_rJ (F0 164 (by decide) (by decide))]
          obtain ⟨n1, n2⟩ := rnum_ok ht (show k < 40 by omega) M2
          rw [if_neg (nI_ge hlt (by omega)), if_pos n1, n2, r8 M2 hF, (isName_ok hS _).2 M2 (by rw [h2.2.1]), Option.bind_some, nI_1 k, nI_1 s]
          by_cases q : 0 ≤ (rJ M 164 (40 * t + k)).toInt ∧ (rJ M 164 (40 * t + k)).toInt < W
          · rw [bo_t (show isNm W (rJ M 164 (40 * t + k)) from q), if_pos rfl] at hI
            obtain ⟨y1, y2⟩ := nm_nat hW (show isNm W (rJ M 164 (40 * t + k)) from q)
            rw [decide_eq_true q, if_pos rfl, inTray_ok ht (by omega), Option.bind_some, r8 M2 hF, y1]
            refine (r_isLie hN h2 y2).bi (fun x hx => ?_)
            rw [hx.1]
            refine yo_i (fun z => ?_) (fun z => ?_)
            · rw [if_pos z] at hI
              refine yo_i (fun y => ?_) (fun y => ?_)
              · rw [if_pos y] at hI
                rw [inTray_ok ht (by omega), Option.bind_some, r8 x.2 (hF.trans hx.2), yo_s]
                exact ⟨hI, (hF.trans hx.2).mono (by decide)⟩
              · rw [if_neg y] at hI
                exact ih _ _ _ hlt ⟨rfl, hF.trans hx.2, s + 1, rfl, by rw [hc2]; exact hI⟩
            · rw [if_neg z] at hI
              exact ih _ _ _ hlt ⟨rfl, hF.trans hx.2, s, rfl, by rw [hc2]; exact hI⟩
          · rw [bo_f (show ¬ isNm W (rJ M 164 (40 * t + k)) from q), if_neg (by decide)] at hI
            rw [decide_eq_false q, if_neg (by decide)]
            exact ih _ _ _ hlt ⟨rfl, hF, s, rfl, by rw [hc2]; exact hI⟩
        · rw [show ma - k = 0 by omega] at hI
          have hI : (if a3 = -1 then nI s else -1) = wrF W (fun i => rJ M 164 (40 * t + i)) (lieB (M 141).1 r W g kd sz mk ex ly) a3 ma 0 0 := hI
          rw [if_pos (nI_le hge (by omega)), ← hI]
          by_cases q : a3 = -1
          · rw [if_pos q, if_pos q, yo_s]; exact ⟨rfl, hF.mono (by decide)⟩
          · rw [if_neg q, if_neg q, yo_s]; exact ⟨rfl, hF.mono (by decide)⟩
def thF (T : Nat → Int32) : Nat → Int32
  | 0 => 0
  | k + 1 => thF T k ||| (if rq T k 0 = -1 then 0 else shlI 1 (nI k))
theorem shl_0 : ∀ k, k < 4 → shlI (bI false) (nI k) = 0 := by decide
theorem c_there {N : Nat} (hN : 700 ≤ N) {M : Mem} {T : Nat → Int32} {W g m : Nat} (h : cSh M 1 T W g m) : fX7_rowsThere N 1 M = some (thF T 4) := by
  rw [← yo_eq]
  unfold fX7_rowsThere
  refine yo_f2 (F := fX7_rowsThere_l4 N 1 M) 4 (fun k a v => v = nI k ∧ a = thF T k) ?_ N 0 _ _ (by omega) (by omega) ⟨rfl, rfl⟩
  intro f k a v hk ⟨hv, ha⟩ ih
  subst hv ha
  show Yo (fX7_rowsThere_l4_s N 1 M (fX7_rowsThere_l4 N 1 M f) (thF T k) (nI k)) _
  unfold fX7_rowsThere_l4_s fX7_rowsThere_b27
  rcases Nat.lt_or_ge k 4 with hlt | hge
  · rw [if_neg (show ¬ (4 : Int32) ≤ nI k from nI_ge (b := 4) hlt (by decide)), if_pos (inB_nI hlt (by decide)), nI_clamp (by omega), nI_1]
    have st : thF T (k + 1) = thF T k ||| (if rq T k 0 = -1 then 0 else shlI 1 (nI k)) := rfl
    rcases h.2 k hlt with ⟨q1, q2⟩ | ⟨q1, ⟨kd, _, _, _, _, ⟨q2, _⟩, ⟨q3, _⟩, _⟩, _⟩
    · rw [if_pos q1, shl_0 k hlt]
      exact ih _ _ hlt ⟨rfl, by rw [st, q2, if_pos rfl]⟩
    · have q1 : rI M (1 + 8 + 1 + 4 * k) 0 = 1 := q1
      rw [q1, if_neg (by decide)]
      refine ih _ _ hlt ⟨rfl, ?_⟩
      rw [st, q2, if_neg]
      · rfl
      · intro z
        have t1 := nI_toInt (n := kd) (by omega)
        rw [z, show (-1 : Int32).toInt = -1 from by decide] at t1
        omega
  · rw [if_pos (show (4 : Int32) ≤ nI k from nI_le (a := 4) hge (by omega)), yo_s, show k = 4 by omega]
theorem isRow_k {M : Mem} {k : Nat} (hk : k < 4) : fX11_isRow 140 (nI k) M = some (decide (rq (M 141).1 k 0 ≠ -1)) := by
  obtain ⟨l0, _, _, l3, _⟩ := lj_toInt
  unfold fX11_isRow fX11_isRow_b26
  rw [within_v (nI k) 0 3 0 3 l0 l3, nI_toInt (by omega), decide_eq_true (by omega), Option.bind_some, if_pos rfl, g0 hk, Option.bind_some]
  by_cases q : rq (M 141).1 k 0 = -1
  · rw [if_pos q, decide_eq_false (fun z => z q)]
  · rw [if_neg q, decide_eq_true q]
theorem lc35_ok {N : Nat} (hN : 700 ≤ N) (a1 : Int32) (M : Mem) (hR : Rel M) : ∃ M1, Rel M1 ∧ ∀ k : Mem → Option Mem, fLc35 N a1 M k = k M1 := by
  obtain ⟨W, g, m, hS⟩ := hR.1
  obtain ⟨n, hn, p1, p2, p3⟩ := hR.2.2.2.1
  obtain ⟨l0, _, _, l3, _⟩ := lj_toInt
  refine ⟨wI M 140 5 0, hR.calm 0, fun k => ?_⟩
  have hl : ∀ Q, Yo (if fX11_within a1.toInt64 (0 : Int64) (3 : Int64) (wI M 140 5 0) = some true then (if inB a1 3268 = true then some ((rI M 141 a1.toNatClampNeg), wI M 140 5 0) else none) else if a1 = (4 : Int32) then some (thF (M 141).1 4, wI M 140 5 0) else if a1 = (5 : Int32) then some ((rI M 140 7), wI M 140 5 0) else some ((-1 : Int32), wI M 140 5 0)) Q → Yo (fX11_count N 140 a1 M) Q := by
    intro Q hQ
    unfold fX11_count
    refine yo_f2 (F := fX11_count_l9 N 140 a1 (wI M 140 5 0)) 4 (fun k a v => v = nI k ∧ a = thF (M 141).1 k) ?_ N 0 _ _ (by omega) (by omega) ⟨rfl, rfl⟩
    intro f k a v hk ⟨hv, ha⟩ ih
    subst hv ha
    show Yo (fX11_count_l9_s N 140 a1 (wI M 140 5 0) (fX11_count_l9 N 140 a1 (wI M 140 5 0) f) (thF (M 141).1 k) (nI k)) _
    unfold fX11_count_l9_s fX11_count_b30
    rcases Nat.lt_or_ge k 4 with hlt | hge
    · rw [if_neg (show ¬ (4 : Int32) ≤ nI k from nI_ge (b := 4) hlt (by decide)), isRow_k hlt, Option.bind_some, w5_141, nI_1]
      have st : thF (M 141).1 (k + 1) = thF (M 141).1 k ||| (if rq (M 141).1 k 0 = -1 then 0 else shlI 1 (nI k)) := rfl
      by_cases q : rq (M 141).1 k 0 = -1
      · rw [decide_eq_false (fun z => z q), if_neg (by decide)]
        exact ih _ _ hlt ⟨rfl, by rw [st, if_pos q]⟩
      · rw [decide_eq_true q, if_pos rfl]
        exact ih _ _ hlt ⟨rfl, by rw [st, if_neg q]⟩
    · rw [if_pos (show (4 : Int32) ≤ nI k from nI_le (a := 4) hge (by omega)), show k = 4 by omega]
      rw [within_v a1 0 3 0 3 l0 l3] at hQ ⊢
      rw [Option.bind_some]
      have e1 : rI (wI M 140 5 0) 140 7 = rI M 140 7 := by rw [rI_wI, if_neg (by omega)]
      have e2 : ∀ j, rI (wI M 140 5 0) (140 + 1) j = rI M 141 j := fun j => by rw [rI_wI, if_neg (by omega)]
      rw [e1, e2]
      by_cases q : 0 ≤ a1.toInt ∧ a1.toInt ≤ 3
      · rw [decide_eq_true q] at hQ ⊢
        rw [if_pos rfl] at hQ ⊢
        exact hQ
      · rw [decide_eq_false q] at hQ ⊢
        rw [if_neg (by decide)] at hQ ⊢
        exact hQ
  have key : ∀ v : Int32, fX10_count N 0 a1 M = some v → Yo (fX11_count N 140 a1 M) (fun x => x = (v, wI M 140 5 0)) → fLc35 N a1 M k = k (wI M 140 5 0) := by
    intro v h1 h2
    rw [yo_eq] at h2
    unfold fLc35
    rw [h1, Option.bind_some, h2, Option.bind_some, if_pos rfl]
  have hT : ∀ j, rI M 141 j = (M 141).1 j := fun _ => rfl
  have F := hS.1
  by_cases q : 0 ≤ a1.toInt ∧ a1.toInt ≤ 3
  · obtain ⟨j, hj, rfl⟩ : ∃ j : Nat, j < 2 ^ 31 ∧ a1 = nI j := by
      rcases int_cases a1 with ⟨z, _⟩ | z
      · omega
      · exact z
    rw [nI_toInt hj] at q
    refine key ((M 141).1 j) ?_ (hl _ ?_)
    · unfold fX10_count
      have : j = 0 ∨ j = 1 ∨ j = 2 ∨ j = 3 := by omega
      rcases this with z | z | z | z <;> subst z
      · rw [if_pos (show nI 0 = (0 : Int32) from rfl)]; exact congrArg some F.2.1
      · rw [if_neg (show ¬ nI 1 = (0 : Int32) by decide), if_pos (show nI 1 = (1 : Int32) from rfl)]; exact congrArg some (F.2.2.1.trans F.1.2.2.1.symm)
      · rw [if_neg (show ¬ nI 2 = (0 : Int32) by decide), if_neg (show ¬ nI 2 = (1 : Int32) by decide), if_pos (show nI 2 = (2 : Int32) from rfl)]; exact congrArg some (F.2.2.2.1.trans F.1.2.2.2.2.2.1.symm)
      · rw [if_neg (show ¬ nI 3 = (0 : Int32) by decide), if_neg (show ¬ nI 3 = (1 : Int32) by decide), if_neg (show ¬ nI 3 = (2 : Int32) by decide), if_pos (show nI 3 = (3 : Int32) from rfl)]; exact congrArg some (F.2.2.2.2.1.trans F.1.2.2.2.2.2.2.2.1.symm)
    · rw [within_v (nI j) 0 3 0 3 l0 l3, nI_toInt hj, decide_eq_true (by omega), if_pos rfl, if_pos (inB_nI (by omega) (by decide)), nI_clamp hj, yo_s]
      rfl
  · have ne : ∀ i : Nat, i ≤ 3 → a1 ≠ nI i := fun i hi z => q (by rw [z, nI_toInt (by omega)]; omega)
    have h3 : ∀ x y : Option (Int32 × Mem), (if fX11_within a1.toInt64 (0 : Int64) (3 : Int64) (wI M 140 5 0) = some true then x else y) = y := fun x y => by
      rw [within_v a1 0 3 0 3 l0 l3, decide_eq_false q, if_neg (by decide)]
    have hcl : fX10_count N 0 a1 M = if a1 = (4 : Int32) then (fX7_rowsThere N (0 + 1) M).bind fun qj20 => some qj20 else if a1 = (5 : Int32) then some (rI M (0 + 111) 1) else some (-1 : Int32) := by
      unfold fX10_count
      rw [if_neg (show ¬ a1 = (0 : Int32) from ne 0 (by omega)), if_neg (show ¬ a1 = (1 : Int32) from ne 1 (by omega)), if_neg (show ¬ a1 = (2 : Int32) from ne 2 (by omega)), if_neg (show ¬ a1 = (3 : Int32) from ne 3 (by omega))]
    by_cases q4 : a1 = (4 : Int32)
    · refine key (thF (M 141).1 4) ?_ (hl _ ?_)
      · rw [hcl, if_pos q4, c_there hN hS, Option.bind_some]
      · rw [h3, if_pos q4, yo_s]
    · by_cases q5 : a1 = (5 : Int32)
      · refine key (nI n) ?_ (hl _ ?_)
        · rw [hcl, if_neg q4, if_pos q5]; exact congrArg some p1
        · rw [h3, if_neg q4, if_pos q5, yo_s, p2]
      · refine key (-1) ?_ (hl _ ?_)
        · rw [hcl, if_neg q4, if_neg q5]
        · rw [h3, if_neg q4, if_neg q5, yo_s]
