/-! SEMANTICS: choose, the reference (any number of marks) -/
theorem r_layBitsG {N : Nat} (hN : 700 ≤ N) {M : Mem} {T : Nat → Int32} {r W g m kd sz0 mk0 mk ex ly sz : Nat} {S : Nat → Bool} (hx : rX M T r W g m kd sz0 mk0 ex ly) (hm : mk ≤ m) (h1 : 1 ≤ sz) (h2 : sz ≤ 64) (hS : rN M 156 W S) :
    Yo (fX11_layBits N 140 (nI sz) (nI mk) M) (fun x => (∀ q, q < 64 → rI x 155 q = (if seeB T mk sz W S q = true then 1 else 0)) ∧ smF [147, 155] M x) := by
  have hW : W ≤ 256 := hx.2.2.1.2.1
  have hm6 : m ≤ 6 := hx.2.2.1.2.2.2.2.2.2.1
  unfold fX11_layBits
  refine yo_f2 (F := fX11_layBits_l2 N 140 (nI sz) (nI mk)) 64 (fun k v M2 => v = nI k ∧ smF [155] M M2 ∧ ∀ q, q < k → rI M2 155 q = 0) ?_ N 0 _ _ (by omega) (by omega) ⟨rfl, smF.refl, fun q hq => absurd hq (Nat.not_lt_zero q)⟩
  intro f k v M2 hk ⟨hv, g1, g2⟩ ih
  subst hv
  show Yo (fX11_layBits_l2_s N 140 (nI sz) (nI mk) (fX11_layBits_l2 N 140 (nI sz) (nI mk) f) (nI k) M2) _
  unfold fX11_layBits_l2_s
  rcases Nat.lt_or_ge k 64 with hlt | hge
  · rw [if_neg (show ¬ (64 : Int32) ≤ nI k from nI_ge (b := 64) hlt (by decide)), if_pos (inB_nI hlt (by decide)), nI_clamp (by omega), nI_1]
    refine ih _ _ hlt ⟨rfl, g1.pI_ (by simp) _ _, fun q hq => ?_⟩
    rw [rI_wI]
    by_cases e : q = k
    · rw [if_pos ⟨rfl, e⟩]; rfl
    · rw [if_neg (fun z => e z.2)]; exact g2 q (by omega)
  · rw [if_pos (show (64 : Int32) ≤ nI k from nI_le (a := 64) hge (by omega))]
    refine yo_f2 (F := fX11_layBits_l23 N 140 (nI sz) (nI mk)) W (fun n v M3 => v = nI n ∧ smF [147, 155] M M3 ∧ ∀ q, q < 64 → rI M3 155 q = (if seeB T mk sz n S q = true then 1 else 0)) ?_ N 0 _ _ (by omega) (by omega) ⟨rfl, g1.mono (by simp), fun q hq => ?_⟩
    · intro f2 n v M3 hn ⟨hv, j1, j2⟩ ih2
      subst hv
      show Yo (fX11_layBits_l23_s N 140 (nI sz) (nI mk) (fX11_layBits_l23 N 140 (nI sz) (nI mk) f2) (nI n) M3) _
      unfold fX11_layBits_l23_s
      have hx3 : rX M3 T r W g m kd sz0 mk0 ex ly := hx.mv (j1 141 (by decide))
      rw [if_pos (by decide), rworld hx3]
      rcases Nat.lt_or_ge n W with hlt | hge2
      · rw [if_neg (nI_ge hlt (by omega))]
        cases e : S n with
        | false =>
          obtain ⟨N', rfl⟩ : ∃ N', N = N' + 1 := ⟨N - 1, by omega⟩
          have hgo : fX11_layBits_l36 (N' + 1) (fX11_layBits_l23 (N' + 1) 140 (nI sz) (nI mk) f2) 140 (nI sz) (nI mk) (nI n) (N' + 1) (0 : Int32) M3 = fX11_layBits_l23 (N' + 1) 140 (nI sz) (nI mk) f2 (nI (n + 1)) M3 := by
            show fX11_layBits_l36_s (N' + 1) (fX11_layBits_l23 (N' + 1) 140 (nI sz) (nI mk) f2) 140 (nI sz) (nI mk) (nI n) (fX11_layBits_l36 (N' + 1) (fX11_layBits_l23 (N' + 1) 140 (nI sz) (nI mk) f2) 140 (nI sz) (nI mk) (nI n) N') (0 : Int32) M3 = _
            unfold fX11_layBits_l36_s fX11_layBits_b71
            have en : rI M3 (140 + 16) n = 0 := by rw [show (140 + 16 : Nat) = 156 from rfl, j1.I_ (by decide), hS n hlt, e]; rfl
            by_cases hm0 : nI mk ≤ (0 : Int32)
            · rw [if_pos hm0, nI_1]
            · rw [if_neg hm0, if_pos (inB_nI (show n < 256 by omega) (by decide)), nI_clamp (by omega), en, if_pos rfl, nI_1]
          rw [hgo]
          refine ih2 _ _ hlt ⟨rfl, j1, fun q hq => ?_⟩
          rw [j2 q hq, seeB_s, e]
          simp
        | true =>
          refine yo_f2 (F := fX11_layBits_l36 N (fX11_layBits_l23 N 140 (nI sz) (nI mk) f2) 140 (nI sz) (nI mk) (nI n)) mk (fun w v M4 => v = nI w ∧ smF [147, 155] M M4 ∧ ∀ q, q < 64 → rI M4 155 q = (if (seeB T mk sz n S q || plcB T w sz n q) = true then 1 else 0)) ?_ N 0 _ _ (by omega) (by omega) ⟨rfl, j1, fun q hq => ?_⟩
          · intro f3 w v M4 hw ⟨hv, i1, i2⟩ ih3
            subst hv
            show Yo (fX11_layBits_l36_s N (fX11_layBits_l23 N 140 (nI sz) (nI mk) f2) 140 (nI sz) (nI mk) (nI n) (fX11_layBits_l36 N (fX11_layBits_l23 N 140 (nI sz) (nI mk) f2) 140 (nI sz) (nI mk) (nI n) f3) (nI w) M4) _
            unfold fX11_layBits_l36_s fX11_layBits_b71
            rcases Nat.lt_or_ge w mk with hwl | hwg
            · have en : rI M4 (140 + 16) n = 1 := by rw [show (140 + 16 : Nat) = 156 from rfl, i1.I_ (by decide), hS n hlt, e]; rfl
              rw [if_neg (nI_ge hwl (by omega)), if_pos (inB_nI (show n < 256 by omega) (by decide)), nI_clamp (by omega), en, if_neg (by decide)]
              refine (rplace (w := w) (name := nI n) (sz := sz) hN (hx.mv (i1 141 (by decide))) (by omega) h1 (by omega)).bi (fun x hx4 => ?_)
              have hpl := plT_lt (T := T) (w := w) (name := nI n) h1
              rw [hx4.1, if_pos (inB_nI (by omega) (by decide)), nI_clamp (by omega), nI_1, show (140 + 15 : Nat) = 155 from rfl]
              refine ih3 _ _ hwl ⟨rfl, (i1.trans (hx4.2.mono (by decide))).pI_ (by decide) _ _, fun q hq => ?_⟩
              rw [rI_wI, hx4.2.I_ (by decide), i2 q hq]
              have hpc : plcB T (w + 1) sz n q = (plcB T w sz n q || decide (q = plT T w (nI n) sz)) := by
                unfold plcB
                by_cases q1 : ∃ w', w' < w ∧ plT T w' (nI n) sz = q
                · obtain ⟨w', hw', hw2⟩ := q1
                  rw [bo_t (show ∃ w', w' < w ∧ plT T w' (nI n) sz = q from ⟨w', hw', hw2⟩), bo_t (show ∃ w', w' < w + 1 ∧ plT T w' (nI n) sz = q from ⟨w', by omega, hw2⟩)]
                  rfl
                · rw [bo_f q1, Bool.false_or]
                  by_cases q2 : q = plT T w (nI n) sz
                  · rw [decide_eq_true q2, bo_t ⟨w, by omega, q2.symm⟩]
                  · rw [decide_eq_false q2, bo_f]
                    rintro ⟨w', hw', hw2⟩
                    by_cases e' : w' = w
                    · subst e'; exact q2 hw2.symm
                    · exact q1 ⟨w', by omega, hw2⟩
              rw [hpc]
              by_cases q2 : q = plT T w (nI n) sz
              · rw [if_pos ⟨rfl, q2⟩, decide_eq_true q2]
                simp
                rfl
              · rw [if_neg (fun z => q2 z.2), decide_eq_false q2, Bool.or_false]
            · have ew : w = mk := by omega
              subst ew
              rw [if_pos (nI_le hwg (by omega)), nI_1]
              refine ih2 _ _ hlt ⟨rfl, i1, fun q hq => ?_⟩
              rw [i2 q hq, seeB_s, e, Bool.true_and]
          · rw [j2 q hq]
            have : plcB T 0 sz n q = false := bo_f (fun ⟨w, hw, _⟩ => absurd hw (Nat.not_lt_zero w))
            rw [this, Bool.or_false]
      · have e : n = W := by omega
        subst e
        rw [if_pos (nI_le hge2 (by omega)), yo_s]
        exact ⟨j2, j1⟩
    · have : seeB T mk sz 0 S q = false := bo_f (fun ⟨n, hn, _⟩ => absurd hn (Nat.not_lt_zero n))
      rw [this, g2 q (by omega)]
      rfl
theorem r_isSaidG {N : Nat} (hN : 700 ≤ N) {M : Mem} {T : Nat → Int32} {r W g m kd sz0 mk0 mk ex ly sz n : Nat} {V : Nat → Bool} (hx : rX M T r W g m kd sz0 mk0 ex ly) (hm : mk ≤ m) (h1 : 1 ≤ sz) (h2 : sz ≤ 64) (hV : ∀ q, q < 64 → rI M 155 q = (if V q = true then 1 else 0)) :
    Yo (fX11_isSaid N 140 (nI sz) (nI mk) (nI n) M) (fun x => x.1 = bo (∀ w, w < mk → V (plT T w (nI n) sz) = true) ∧ smF [147] M x.2) := by
  have hm6 : m ≤ 6 := hx.2.2.1.2.2.2.2.2.2.1
  unfold fX11_isSaid
  refine yo_f2 (F := fX11_isSaid_l3 N 140 (nI sz) (nI mk) (nI n)) mk (fun k v M2 => v = nI k ∧ smF [147] M M2 ∧ ∀ w, w < k → V (plT T w (nI n) sz) = true) ?_ N 0 _ _ (by omega) (by omega) ⟨rfl, smF.refl, fun w hw => absurd hw (Nat.not_lt_zero w)⟩
  intro f k v M2 hk ⟨hv, g1, g2⟩ ih
  subst hv
  show Yo (fX11_isSaid_l3_s N 140 (nI sz) (nI mk) (nI n) (fX11_isSaid_l3 N 140 (nI sz) (nI mk) (nI n) f) (nI k) M2) _
  unfold fX11_isSaid_l3_s
  rcases Nat.lt_or_ge k mk with hlt | hge
  · rw [if_neg (nI_ge hlt (by omega))]
    refine (rplace (w := k) (name := nI n) (sz := sz) hN (hx.mv (g1 141 (by decide))) (by omega) h1 (by omega)).bi (fun x hx4 => ?_)
    have hpl := plT_lt (T := T) (w := k) (name := nI n) h1
    rw [hx4.1, if_pos (inB_nI (by omega) (by decide)), nI_clamp (by omega), nI_1, show (140 + 15 : Nat) = 155 from rfl, hx4.2.I_ (by decide), g1.I_ (by decide), hV _ (by omega)]
    cases e : V (plT T k (nI n) sz) with
    | true =>
      rw [if_neg (by decide)]
      refine ih _ _ hlt ⟨rfl, g1.trans hx4.2, fun w hw => ?_⟩
      by_cases q : w = k
      · subst q; exact e
      · exact g2 w (by omega)
    | false =>
      rw [if_pos (by decide), yo_s]
      refine ⟨(bo_f (fun z => ?_)).symm, g1.trans hx4.2⟩
      rw [z k hlt] at e
      cases e
  · rw [if_pos (nI_le hge (by omega)), yo_s]
    exact ⟨(bo_t (fun w hw => g2 w (by omega))).symm, g1⟩
theorem r_liesBy {N : Nat} (hN : 700 ≤ N) {M : Mem} {T : Nat → Int32} {r W g m kd sz0 mk0 ex ly b k : Nat} (hx : rX M T r W g m kd sz0 mk0 ex ly) (hk : k ≤ m) (h1 : 1 ≤ b) (h2 : b ≤ 64) (hS : rN M 156 W (setS T r W)) :
    Yo (fX11_liesBy N 140 (nI r) (nI b) (nI k) M) (fun x => x.1 = nI (chL T r W b k) ∧ smF [147, 155] M x.2) := by
  have hr := hx.1
  have hW : W ≤ 256 := hx.2.2.1.2.1
  unfold fX11_liesBy chL
  refine (r_layBitsG hN hx hk h1 h2 hS).bi (fun y hy => ?_)
  obtain ⟨y1, y2⟩ := hy
  generalize hP : lwB T k b (seeB T k b W (setS T r W)) (fun _ => false) (setS T r W) = P
  refine yo_f3 (F := fX11_liesBy_l12 N 140 (nI r) (nI b) (nI k)) W (fun j a v M4 => v = nI j ∧ a = nI (cnt P j) ∧ smF [147] y M4) ?_ N 0 _ _ _ (by omega) (by omega) ⟨rfl, rfl, smF.refl⟩
  intro f3 j a v M4 hj ⟨hv, ha, i1⟩ ih3
  subst hv ha
  show Yo (fX11_liesBy_l12_s N 140 (nI r) (nI b) (nI k) (fX11_liesBy_l12 N 140 (nI r) (nI b) (nI k) f3) (nI (cnt P j)) (nI j) M4) _
  unfold fX11_liesBy_l12_s fX11_liesBy_b50 fX11_liesBy_b51
  have hF4 : smF [147, 155] M M4 := y2.trans (i1.mono (by decide))
  have hx4 : rX M4 T r W g m kd sz0 mk0 ex ly := hx.mv (hF4 141 (by decide))
  rw [if_pos (by decide), rworld hx4]
  rcases Nat.lt_or_ge j W with hjl | hjg
  · have hsj : cnt P (j + 1) = cnt P j + if P j = true then 1 else 0 := rfl
    have hval : nI (cnt P j) + bI (P j) = nI (cnt P (j + 1)) := by rw [hsj]; exact bI_add _ _
    have hPj : P j = (sayV T k b (seeB T k b W (setS T r W)) j && !(false || setS T r W j)) := by rw [← hP]; rfl
    have yes : ∀ M5, smF [147] y M5 → P j = true → Yo (fX11_liesBy_l12 N 140 (nI r) (nI b) (nI k) f3 (nI (cnt P j) + bI true) (nI j + 1) M5) (fun x => x.1 = nI (cnt P W) ∧ smF [147, 155] M x.2) := fun M5 hM5 z => by
      rw [z] at hval
      rw [hval, nI_1]
      exact ih3 _ _ _ hjl ⟨rfl, rfl, hM5⟩
    have no : ∀ M5, smF [147] y M5 → P j = false → Yo (fX11_liesBy_l12 N 140 (nI r) (nI b) (nI k) f3 (nI (cnt P j) + bI false) (nI j + 1) M5) (fun x => x.1 = nI (cnt P W) ∧ smF [147, 155] M x.2) := fun M5 hM5 z => by
      rw [z] at hval
      rw [hval, nI_1]
      exact ih3 _ _ _ hjl ⟨rfl, rfl, hM5⟩
    rw [if_neg (nI_ge hjl (by omega)), isIn_ok hr (by omega), Option.bind_some, hx4.2.1, ← setS_lt hjl]
    cases e : setS T r W j with
    | true =>
      rw [if_pos rfl]
      exact no M4 i1 (by rw [hPj, e]; simp)
    | false =>
      rw [if_neg (by decide)]
      refine (r_isSaidG (n := j) (sz := b) (V := seeB T k b W (setS T r W)) hN hx4 hk h1 h2 (fun q hq => by rw [i1.I_ (by decide)]; exact y1 q hq)).bi (fun x hx5 => ?_)
      have hsay : x.1 = sayV T k b (seeB T k b W (setS T r W)) j := hx5.1
      cases e2 : sayV T k b (seeB T k b W (setS T r W)) j with
      | true =>
        rw [hsay, e2, if_pos rfl]
        exact yes x.2 (i1.trans hx5.2) (by rw [hPj, e2, e]; rfl)
      | false =>
        rw [hsay, e2, if_neg (by decide)]
        exact no x.2 (i1.trans hx5.2) (by rw [hPj, e2]; rfl)
  · have ej : j = W := by omega
    subst ej
    rw [if_pos (nI_le hjg (by omega)), yo_s]
    exact ⟨rfl, hF4⟩
