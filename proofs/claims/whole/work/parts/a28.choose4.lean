/-! SEMANTICS: choose, the reference's order; choose in step -/
def rFd (L : Nat → Nat → Nat) (a b e : Int32) : Option (Nat × Nat) → Prop
  | none => a = -1 ∧ b = -1 ∧ e = -1
  | some x => a = nI x.1 ∧ b = nI x.2 ∧ e = nI (L x.1 x.2)
def chF (L : Nat → Nat → Nat) (what : Int32) : Option (Nat × Nat) → Int32
  | none => -1
  | some x => if what = 0 then nI x.1 else if what = 1 then nI x.2 else nI (L x.1 x.2)
theorem low_div : ∀ i, i < 8 → ∀ c, c < 64 → c < 8 * (i + 1) → ((nI c - nI (8 * (i + 1))) / (4 : Int32)).toInt < 1 := by decide +kernel
theorem r_chosen {N : Nat} (hN : 4000 ≤ N) {M : Mem} {T : Nat → Int32} {r W g m kd sz0 mk0 ex ly mo : Nat} {what : Int32} (hx : rX M T r W g m kd sz0 mk0 ex ly) (hmo : mo ≤ 999) (hS : rN M 156 W (setS T r W)) :
    Yo (fX11_choose_l71 N 140 (nI r) (nI mo) what N (-1 : Int32) (-1 : Int32) (-1 : Int32) (0 : Int32) M) (fun x => smF [147, 155] M x.2 ∧ ∃ o, x.1 = chF (chL T r W) what o ∧ bst (chL T r W) (Qf m mo) o) := by
  have hW : W ≤ 256 := hx.2.2.1.2.1
  have hm6 : m ≤ 6 := hx.2.2.1.2.2.2.2.2.2.1
  refine yo_f5 (F := fX11_choose_l71 N 140 (nI r) (nI mo) what) (mo + 1) (fun c a b e v M2 => v = nI c ∧ smF [147, 155] M M2 ∧ ∃ o, rFd (chL T r W) a b e o ∧ bst (chL T r W) (fun b' k' => Qf m mo b' k' ∧ b' + 4 * k' < c) o) ?_ N 0 _ _ _ _ _ (by omega) (by omega) ⟨rfl, smF.refl, none, ⟨rfl, rfl, rfl⟩, fun b' k' h => absurd h.2 (Nat.not_lt_zero _)⟩
  intro f c a b e v M2 hc ⟨hv, g1, o, g2, g3⟩ ih
  subst hv
  show Yo (fX11_choose_l71_s N 140 (nI r) (nI mo) what (fX11_choose_l71 N 140 (nI r) (nI mo) what f) a b e (nI c) M2) _
  unfold fX11_choose_l71_s
  rcases Nat.lt_or_ge mo c with hge | hlt
  · rw [if_pos ((lt_nI (by omega) (by omega)).mpr hge)]
    have hq : bst (chL T r W) (Qf m mo) o := bst_cong (fun b' k' => ⟨fun h => h.1, fun h => ⟨h, by have := h.2.2.2; omega⟩⟩) g3
    have hval : (if what = 0 then a else if what = 1 then b else e) = chF (chL T r W) what o := by
      cases o with
      | none => rw [g2.1, g2.2.1, g2.2.2]; unfold chF; by_cases z : what = 0 <;> by_cases z2 : what = 1 <;> simp [z, z2]
      | some x => rw [g2.1, g2.2.1, g2.2.2]; rfl
    refine yo_i (fun z => ?_) (fun z => ?_)
    · rw [yo_s]; refine ⟨g1, o, ?_, hq⟩; rw [← hval, if_pos z]
    · refine yo_i (fun z2 => ?_) (fun z2 => ?_)
      · rw [yo_s]; refine ⟨g1, o, ?_, hq⟩; rw [← hval, if_neg z, if_pos z2]
      · rw [yo_s]; refine ⟨g1, o, ?_, hq⟩; rw [← hval, if_neg z, if_neg z2]
  · rw [if_neg (fun z => by have := (lt_nI (by omega) (by omega)).mp z; omega)]
    refine yo_f5 (F := fX11_choose_l81 N (fX11_choose_l71 N 140 (nI r) (nI mo) what f) 140 (nI r) (nI mo) what (nI c)) 8 (fun i a b e v M3 => v = nI (8 * (i + 1)) ∧ smF [147, 155] M M3 ∧ ∃ o, rFd (chL T r W) a b e o ∧ bst (chL T r W) (fun b' k' => Qf m mo b' k' ∧ (b' + 4 * k' < c ∨ (b' + 4 * k' = c ∧ b' < 8 * (i + 1)))) o) ?_ N 0 _ _ _ _ _ (by omega) (by omega) ⟨rfl, g1, o, g2, bst_cong (fun b' k' => ?_) g3⟩
    · intro f2 i a b e v M3 hi ⟨hv, j1, o2, j2, j3⟩ ih2
      subst hv
      show Yo (fX11_choose_l81_s N (fX11_choose_l71 N 140 (nI r) (nI mo) what f) 140 (nI r) (nI mo) what (nI c) (fX11_choose_l81 N (fX11_choose_l71 N 140 (nI r) (nI mo) what f) 140 (nI r) (nI mo) what (nI c) f2) a b e (nI (8 * (i + 1))) M3) _
      unfold fX11_choose_l81_s fX11_choose_b156 fX11_choose_b168
      rw [show (64 : Int32) = nI 64 from rfl, show nI (8 * (i + 1)) + (8 : Int32) = nI (8 * (i + 1 + 1)) from by rw [show (8 : Int32) = nI 8 from rfl, nI_add]; congr 1]
      rcases Nat.lt_or_ge i 8 with hil | hig
      · rw [if_neg (fun z => by have := (lt_nI (by omega) (by omega)).mp z; omega), if_pos (show inB (3 : Int32) 3268 = true from by decide)]
        have hx3 : rX M3 T r W g m kd sz0 mk0 ex ly := hx.mv (j1 141 (by decide))
        have e3 : rI M3 (140 + 1) (3 : Int32).toNatClampNeg = nI m := by rw [← hx3.2.2.1.2.2.2.2.2.2.2.1, ← hx3.2.1]; rfl
        -- a pair that cannot be
        have skip : (∀ k', Qf m mo (8 * (i + 1)) k' → 8 * (i + 1) + 4 * k' ≠ c) → Yo (fX11_choose_l81 N (fX11_choose_l71 N 140 (nI r) (nI mo) what f) 140 (nI r) (nI mo) what (nI c) f2 a b e (nI (8 * (i + 1 + 1))) M3) (fun x => smF [147, 155] M x.2 ∧ ∃ o, x.1 = chF (chL T r W) what o ∧ bst (chL T r W) (Qf m mo) o) := fun hno => by
          refine ih2 _ _ _ _ _ hil ⟨rfl, j1, o2, j2, bst_cong (fun b' k' => ?_) j3⟩
          constructor
          · rintro ⟨h1, h2⟩
            exact ⟨h1, by omega⟩
          · rintro ⟨h1, h2⟩
            refine ⟨h1, ?_⟩
            obtain ⟨⟨i', hi', hb⟩, _⟩ := id h1
            by_cases q : b' = 8 * (i + 1)
            · subst q
              have := hno k' h1
              omega
            · omega
        rw [within_ok, e3, Option.bind_some, w_nI (by omega), lj_toInt.2.1, w_int]
        rcases Nat.lt_or_ge c (8 * (i + 1)) with hlow | hhigh
        · have hd := low_div i hil c (by omega) hlow
          have hskip := skip (fun k' hk' => by omega)
          refine yo_i (fun z => ?_) (fun z => ?_)
          · rw [decide_eq_false (fun z2 => by omega), if_neg (by decide)]
            exact hskip
          · exact hskip
        · obtain ⟨q, hq⟩ : ∃ q, (c - 8 * (i + 1)) / 4 = q := ⟨_, rfl⟩
          have hdiv : (nI c - nI (8 * (i + 1))) / (4 : Int32) = nI q := by rw [pk_sub hhigh, show (4 : Int32) = nI 4 from rfl, pk_div (by omega) (by omega) (by omega), hq]
          rw [hdiv, show (4 : Int32) = nI 4 from rfl, pk_mul, nI_add, nI_toInt (by omega)]
          by_cases z1 : 8 * (i + 1) + 4 * q = c
          · rw [if_pos (by rw [z1])]
            by_cases z2 : 1 ≤ q ∧ q ≤ m
            · rw [decide_eq_true (show (1 : Int) ≤ (q : Int) ∧ (q : Int) ≤ (m : Int) by omega), if_pos rfl]
              refine (r_liesBy (b := 8 * (i + 1)) (k := q) (by omega) hx3 z2.2 (by omega) (by omega) (hS.mv (j1 156 (by decide)))).bi (fun x hx4 => ?_)
              have hF := j1.trans hx4.2
              have hL : chL T r W (8 * (i + 1)) q ≤ 256 := Nat.le_trans chL_le hW
              have hQ : Qf m mo (8 * (i + 1)) q := ⟨⟨i, hil, rfl⟩, z2.1, z2.2, by omega⟩
              have hset : ∀ b' k', ((Qf m mo b' k' ∧ (b' + 4 * k' < c ∨ (b' + 4 * k' = c ∧ b' < 8 * (i + 1)))) ∨ (b' = 8 * (i + 1) ∧ k' = q)) ↔ (Qf m mo b' k' ∧ (b' + 4 * k' < c ∨ (b' + 4 * k' = c ∧ b' < 8 * (i + 1 + 1)))) := fun b' k' => by
                constructor
                · rintro (⟨h1, h2⟩ | ⟨rfl, rfl⟩)
                  · exact ⟨h1, by omega⟩
                  · exact ⟨hQ, by omega⟩
                · rintro ⟨h1, h2⟩
                  obtain ⟨⟨i', hi', hb⟩, _⟩ := id h1
                  by_cases q5 : b' = 8 * (i + 1)
                  · by_cases q6 : b' + 4 * k' < c
                    · exact Or.inl ⟨h1, Or.inl q6⟩
                    · exact Or.inr ⟨q5, by omega⟩
                  · exact Or.inl ⟨h1, by omega⟩
              rw [hx4.1]
              cases o2 with
              | none =>
                rw [j2.2.2, if_pos rfl]
                exact ih2 _ _ _ _ _ hil ⟨rfl, hF, some (8 * (i + 1), q), ⟨rfl, rfl, rfl⟩, bst_cong hset (bst_new j3)⟩
              | some y =>
                obtain ⟨ad1, ad2⟩ := bst_add (b := 8 * (i + 1)) (k := q) j3
                have hLy : chL T r W y.1 y.2 ≤ 256 := Nat.le_trans chL_le hW
                rw [j2.2.2, if_neg (show ¬ nI (chL T r W y.1 y.2) = (-1 : Int32) from by rw [li_1]; exact fun z => (nI_ng (by omega) (by omega) (by omega)).mp z)]
                have hy := j3.1.2
                by_cases z3 : chL T r W (8 * (i + 1)) q < chL T r W y.1 y.2
                · rw [if_pos ((lt_nI (by omega) (by omega)).mpr z3)]
                  exact ih2 _ _ _ _ _ hil ⟨rfl, hF, some (8 * (i + 1), q), ⟨rfl, rfl, rfl⟩, bst_cong hset (ad1 (Or.inl z3))⟩
                · rw [if_neg (fun z => z3 ((lt_nI (by omega) (by omega)).mp z))]
                  refine ih2 _ _ _ _ _ hil ⟨rfl, hF, some y, ⟨j2.1, j2.2.1, rfl⟩, bst_cong hset (ad2 (fun hk => ?_))⟩
                  unfold kLt at hk
                  omega
            · rw [decide_eq_false (show ¬ ((1 : Int) ≤ (q : Int) ∧ (q : Int) ≤ (m : Int)) by omega), if_neg (by decide)]
              refine skip (fun k' hk' hcc => z2 ?_)
              have h1 := hk'.2.1
              have h2 := hk'.2.2.1
              omega
          · rw [if_neg (fun z => z1 ((nI_eq (by omega) (by omega)).mp z))]
            exact skip (fun k' hk' hcc => z1 (by omega))
      · rw [if_pos ((lt_nI (by omega) (by omega)).mpr (by omega)), nI_1]
        refine ih _ _ _ _ _ (by omega) ⟨rfl, j1, o2, j2, bst_cong (fun b' k' => ?_) j3⟩
        constructor
        · rintro ⟨h1, h2⟩
          exact ⟨h1, by omega⟩
        · rintro ⟨h1, h2⟩
          obtain ⟨⟨i', hi', hb⟩, _⟩ := id h1
          exact ⟨h1, by omega⟩
    · constructor
      · rintro ⟨h1, h2⟩
        exact ⟨h1, by omega⟩
      · rintro ⟨h1, h2⟩
        obtain ⟨⟨i', hi', hb⟩, _⟩ := id h1
        exact ⟨h1, by omega⟩
theorem ag_choose {N : Nat} (hN : 4000 ≤ N) (a1 a2 a3 : Int32) (M : Mem) (hR : Rel M) : agI (fX10_choose N 0 a1 a2 a3 M) (fX11_choose N 140 a1 a2 a3) (fun k Mj1 => if k = 1 then some ((1 : Int32), Mj1) else if k = 3 then some ((2 : Int32), Mj1) else none) M := by
  obtain ⟨W, g, m, hS⟩ := hR.1
  rcases rowAt_ok hS a1 with ⟨c1, c2⟩ | ⟨r, hr, rfl, hh, c1, c2⟩
  · refine refI hR (e := 1) 1 ?_ rfl (by decide) ?_
    · unfold fX10_choose; rw [c1, xb_l]
    · unfold fX11_choose fX11_choose_b42
      rw [c2 M rfl, Option.bind_some, if_neg (by decide), w5_5, if_neg (by decide), yo_s]
      exact smF.refl
  · obtain ⟨kd, sz, mk, ex, ly, hc, hr'⟩ := sX hS hr hh
    have t999 : (999 : Int64).toInt = 999 := by decide
    have hcl : fX10_choose N 0 (nI r) a2 a3 M = if 0 ≤ a2.toInt ∧ a2.toInt ≤ 999 then (xb (if 0 ≤ a3.toInt ∧ a3.toInt ≤ 2 then some (.inr (), M) else some (.inl 3, M)) fun qj2 Mj2 => (fX0_findChosen N 130 (10 + 4 * r) 2 a2 Mj2).bind fun qj6 => if qj6.1 = true then if a3 = 0 then some (.inr (rI qj6.2 130 2), qj6.2) else if a3 = (1 : Int32) then some (.inr (rI qj6.2 130 3), qj6.2) else some (.inr (rI qj6.2 130 1), qj6.2) else some (.inr (-1 : Int32), qj6.2)) else some (.inl 3, M) := by
      unfold fX10_choose fX10_choose_b18
      rw [c1, xb_r, c_what]
      have w0 : (0 : Int32).toInt = 0 := rfl
      have w9 : (999 : Int32).toInt = 999 := by decide
      by_cases z : a2 < 0
      · rw [if_pos z, if_neg]
        rw [Int32.lt_iff_toInt_lt, w0] at z
        omega
      · rw [if_neg z]
        rw [Int32.lt_iff_toInt_lt, w0] at z
        by_cases z2 : a2 ≤ 999
        · have z3 := z2
          rw [Int32.le_iff_toInt_le, w9] at z3
          rw [if_pos z2, if_pos (show 0 ≤ a2.toInt ∧ a2.toInt ≤ 999 by omega)]
        · rw [if_neg z2, if_neg]
          rw [Int32.le_iff_toInt_le, w9] at z2
          omega
    have hrf : ∀ M' : Mem, M' 141 = M 141 → fX11_choose N 140 (nI r) a2 a3 M' = if (0 ≤ a2.toInt ∧ a2.toInt ≤ 999) ∧ (0 ≤ a3.toInt ∧ a3.toInt ≤ 2) then (fX11_takesPut N 140 (nI r) (wI M' 140 5 0)).bind fun qj1 => fX11_choose_l71 N 140 (nI r) a2 a3 N (-1 : Int32) (-1 : Int32) (-1 : Int32) (0 : Int32) qj1 else some (0, wI M' 140 5 2) := fun M' e => by
      unfold fX11_choose fX11_choose_b41 fX11_choose_b42
      rw [c2 M' (by rw [e]), Option.bind_some, if_pos rfl, within_v a2 0 999 0 999 lj_toInt.1 t999, Option.bind_some, within_v a3 0 2 0 2 lj_toInt.1 lj_toInt.2.2.1, Option.bind_some, w5_5, w5_5, if_neg (show ¬ (2 : Int32) ≤ 0 by decide), if_pos (show (0 : Int32) ≤ 0 by decide)]
      by_cases z : 0 ≤ a2.toInt ∧ a2.toInt ≤ 999
      · rw [decide_eq_true z, if_pos rfl]
        by_cases z2 : 0 ≤ a3.toInt ∧ a3.toInt ≤ 2
        · rw [decide_eq_true z2, if_pos rfl, if_pos ⟨z, z2⟩]
        · rw [decide_eq_false z2, if_neg (by decide), if_neg (fun y => z2 y.2)]
      · rw [decide_eq_false z, if_neg (by decide), if_neg (fun y => z y.1)]
    by_cases z : 0 ≤ a2.toInt ∧ a2.toInt ≤ 999
    · rw [if_pos z] at hcl
      by_cases z2 : 0 ≤ a3.toInt ∧ a3.toInt ≤ 2
      · rw [if_pos z2, xb_r] at hcl
        obtain ⟨mo, hmo, hmo2⟩ : ∃ mo : Nat, a2 = nI mo ∧ mo ≤ 999 := by
          rcases int_cases a2 with ⟨h0, _⟩ | ⟨k, hk, rfl⟩
          · omega
          · rw [nI_toInt hk] at z
            exact ⟨k, rfl, by omega⟩
        subst hmo
        obtain ⟨x, x1, x2, o, x3, x4, x5⟩ := c_chosen (N := N) (by omega) hc hmo2
        rw [x1, Option.bind_some] at hcl
        refine askI hR (chF (chL (M 141).1 r W) a3 o) ?_ (fun M' hM' => ?_)
        · rw [hcl, x3]
          cases o with
          | none =>
            rw [if_neg (show ¬ ((none : Option (Nat × Nat)).isSome = true) by decide), yo_s]
            exact ⟨rfl, x2.mono (by decide)⟩
          | some y =>
            rw [if_pos (show (some y).isSome = true from rfl), x4.1, x4.2.1, x4.2.2.1]
            rw [show chF (chL (M 141).1 r W) a3 (some y) = if a3 = 0 then nI y.1 else if a3 = 1 then nI y.2 else nI (chL (M 141).1 r W y.1 y.2) from rfl]
            refine yo_i (fun y1 => ?_) (fun y1 => ?_)
            · rw [if_pos y1, yo_s]; exact ⟨rfl, x2.mono (by decide)⟩
            · rw [if_neg y1]
              refine yo_i (fun y2 => ?_) (fun y2 => ?_)
              · rw [if_pos y2, yo_s]; exact ⟨rfl, x2.mono (by decide)⟩
              · rw [if_neg y2, yo_s]; exact ⟨rfl, x2.mono (by decide)⟩
        · rw [hrf M' (hM' 141 (by decide)), if_pos ⟨z, z2⟩]
          have hx0 : rX (wI M' 140 5 0) (M 141).1 r W g m kd sz mk ex ly := hr' _ (by rw [w5_141, hM' 141 (by decide)])
          refine (r_takesPut (by omega) hx0).bi (fun y hy => ?_)
          refine (r_chosen (what := a3) hN (hx0.mv (hy.2 141 (by decide))) hmo2 hy.1).to (fun w hw => ?_)
          obtain ⟨w1, o', w2, w3⟩ := hw
          rw [bst_uniq x5 w3]
          exact ⟨w2, (hy.2.mono (by decide)).trans (w1.mono (by decide))⟩
      · refine refI hR (e := 3) 2 ?_ rfl (by decide) ?_
        · rw [hcl, if_neg z2, xb_l]
        · rw [hrf M rfl, if_neg (fun y => z2 y.2), yo_s]
          exact smF.refl
    · refine refI hR (e := 3) 2 ?_ rfl (by decide) ?_
      · rw [hcl, if_neg z]
      · rw [hrf M rfl, if_neg (fun y => z y.1), yo_s]
        exact smF.refl
