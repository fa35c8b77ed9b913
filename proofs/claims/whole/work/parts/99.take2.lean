/-! SEMANTICS: take, halve -/
theorem row_endT {M M1 M2 : Mem} {W g m r kd sz mk ex ly : Nat} {T2 : Nat → Int32} {ans : Int64} {c : Int32} (hR : Rel M) (hS : cSh M 1 (M 141).1 W g m) (hr : r < 4) (hh : rI M (10 + 4 * r) 0 = 1)
    (hc : cX M1 T2 r W g m kd sz mk ex ly) (hF : smF (scrC ++ [10 + 4 * r, 12 + 4 * r, 13 + 4 * r]) M M1) (h0 : rI M1 (10 + 4 * r) 0 = rI M (10 + 4 * r) 0)
    (hx : rX M2 T2 r W g m kd sz mk ex ly) (hF2 : smF (141 :: scrR) (wI (wJ M1 165 0 ans) 140 5 c) M2) (hT : ∀ k, (k < 1220 + 512 * r ∨ 1220 + 512 * r + 512 ≤ k) → T2 k = (M 141).1 k) : rI M2 140 5 = c ∧ rJ M2 165 0 = ans ∧ Rel M2 := by
  refine row_end hR hS hr hh hc hF h0 hx hF2 (fun k hk => ?_)
  show (M2 141).1 k = _
  rw [hx.2.1, hT k hk, eqs_rI (hF 141 (fun z => ?_))]
  · rfl
  · rw [List.mem_append] at z
    rcases z with z | z
    · exact absurd z (by decide)
    · simp only [List.mem_cons, List.not_mem_nil, or_false] at z
      omega
theorem setT_out {T : Nat → Int32} {r k : Nat} {v : Int32} (hk : k < 512) : ∀ z, (z < 1220 + 512 * r ∨ 1220 + 512 * r + 512 ≤ z) → setT T r k v z = T z := fun z hz => by
  unfold setT
  rw [if_neg (by omega)]
theorem frT_out {T : Nat → Int32} {r n : Nat} : ∀ k, k ≤ 240 → ∀ z, (z < 1220 + 512 * r ∨ 1220 + 512 * r + 512 ≤ z) → frT T r n k z = T z
  | 0, _, _, _ => rfl
  | k + 1, hk, z, hz => by
    have ih := frT_out (T := T) (r := r) (n := n) k (by omega) z hz
    unfold frT
    split
    · rw [setT_out (by omega) z hz]; exact ih
    · exact ih
theorem put_is {T : Nat → Int32} {r n : Nat} (h : decide (rq T r (250 + n) = 1) = true) : rq T r (250 + n) = 1 := of_decide_eq_true h
theorem ag_take {N : Nat} (hN : 700 ≤ N) (a1 a2 : Int32) (M : Mem) (hR : Rel M) : agB (fX10_take N 0 a1 a2 M) (fX11_take N 140 a1 a2) (fun k Mj1 => if k = 1 then some ((1 : Int32), Mj1) else if k = 2 then some ((2 : Int32), Mj1) else if k = 3 then some ((3 : Int32), Mj1) else none) M := by
  obtain ⟨W, g, m, hS⟩ := hR.1
  rcases rowAt_ok hS a1 with ⟨c1, c2⟩ | ⟨r, hr, rfl, hh, c1, c2⟩
  · refine refB hR (e := 1) 1 ?_ rfl (by decide) ?_
    · unfold fX10_take; rw [c1, xb_l]
    · unfold fX11_take fX11_take_b51 fX11_take_b70
      rw [c2 M rfl, Option.bind_some, if_neg (by decide), w5_5, if_pos (by decide), yo_s]
      exact smF.refl
  · obtain ⟨kd, sz, mk, ex, ly, hc, hr'⟩ := sX hS hr hh
    have hk4 := hc.2.2.2.2.1.1
    have hW := hc.W1.2.2
    by_cases hk : kd = 1 ∨ kd = 2
    · have hcl : fX10_take N 0 (nI r) a2 M = fX10_take_b32 N 0 a2 (10 + 4 * r) M := by
        unfold fX10_take
        rw [c1, xb_r, hc.flds.1]
        rcases hk with q | q
        · rw [if_pos (show nI kd = (1 : Int32) from by rw [q]; rfl)]
        · rw [if_neg (show ¬ nI kd = (1 : Int32) from ne_l (b := 1) (by omega) (by omega) (by omega)), if_pos (show nI kd = (2 : Int32) from by rw [q]; rfl)]
      have hrf : ∀ M' : Mem, M' 141 = M 141 → fX11_take N 140 (nI r) a2 M' = fX11_take_b37 N 140 (nI r) a2 140 M' := fun M' e => by
        have h' := hr' M' e
        unfold fX11_take
        rw [c2 M' (by rw [e]), Option.bind_some, if_pos rfl, h'.flds.1, Option.bind_some, Option.bind_some]
        rcases hk with q | q
        · rw [if_pos (show nI kd = (1 : Int32) from by rw [q]; rfl)]
        · rw [if_neg (show ¬ nI kd = (1 : Int32) from ne_l (b := 1) (by omega) (by omega) (by omega)), if_pos (show nI kd = (2 : Int32) from by rw [q]; rfl)]
      rw [hcl]
      rcases needName_ok hS a2 with ⟨d1, d2⟩ | ⟨n, hn, rfl, d1, d2⟩
      · refine refB hR (e := 3) 3 ?_ rfl (by decide) ?_
        · unfold fX10_take_b32; rw [d1, xb_l]
        · rw [hrf M rfl]
          unfold fX11_take_b37 fX11_take_b51 fX11_take_b70
          rw [d2 M rfl, Option.bind_some, if_neg (by decide), w5_5, if_pos (by decide), yo_s]
          exact smF.refl
      · have hn' : n < 256 := by omega
        have hrf2 : ∀ M' : Mem, M' 141 = M 141 → fX11_take N 140 (nI r) (nI n) M' = if decide (rq (M 141).1 r (250 + n) = 1) = true then (fX11_set 140 (nI r) ((250 : Int32) + nI n) (0 : Int32) (wI M' 140 5 0)).bind fun qj2 => (fX11_get 140 (nI r) (0 : Int32) qj2).bind fun qj3 => if qj3 = (1 : Int32) then fX11_take_l95 N 140 (nI r) (nI n) N (0 : Int32) qj2 else fX11_take_l162 N 140 (nI r) (nI n) N (10 : Int32) qj2 else some (false, wI M' 140 5 0) := fun M' e => by
          rw [hrf M' e]
          unfold fX11_take_b37 fX11_take_b51 fX11_take_b70
          rw [d2 M' (by rw [e]), Option.bind_some, if_pos rfl, w5_5, if_neg (by decide), isIn_ok hr hn', Option.bind_some, w5_141, e]
        by_cases hp : decide (rq (M 141).1 r (250 + n) = 1) = true
        · have hx0 : ∀ M' : Mem, M' 141 = M 141 → rX (wI (wI M' 140 5 0) 141 (1220 + 512 * r + (250 + n)) 0) (setT (M 141).1 r (250 + n) 0) r W g m kd sz mk ex ly := fun M' e => rX_set (hr' (wI M' 140 5 0) (by rw [w5_141, e])) (roT_put hc.2.2.2 hn' (Or.inl rfl))
          have main : ∀ (T2 : Nat → Int32) (M1 : Mem), fX10_take_b32 N 0 (nI n) (10 + 4 * r) M = some (.inr true, M1) → cX M1 T2 r W g m kd sz mk ex ly → smF (scrC ++ [10 + 4 * r, 12 + 4 * r, 13 + 4 * r]) M M1 → rI M1 (10 + 4 * r) 0 = rI M (10 + 4 * r) 0 → (∀ k, (k < 1220 + 512 * r ∨ 1220 + 512 * r + 512 ≤ k) → T2 k = (M 141).1 k) →
              (∀ M' : Mem, M' 141 = M 141 → Yo (fX11_take N 140 (nI r) (nI n) M') (fun x => x.1 = true ∧ rX x.2 T2 r W g m kd sz mk ex ly ∧ smF (141 :: scrR) (wI M' 140 5 0) x.2)) → agB (fX10_take_b32 N 0 (nI n) (10 + 4 * r) M) (fX11_take N 140 (nI r) (nI n)) (fun k Mj1 => if k = 1 then some ((1 : Int32), Mj1) else if k = 2 then some ((2 : Int32), Mj1) else if k = 3 then some ((3 : Int32), Mj1) else none) M := by
            intro T2 M1 e1 e2 e3 e4 e5 e6
            refine Or.inr ⟨true, M1, e1, ?_⟩
            have e141 : M1 141 = M 141 := e3 141 (fun z => by
              rw [List.mem_append] at z
              rcases z with z | z
              · exact absurd z (by decide)
              · simp only [List.mem_cons, List.not_mem_nil, or_false] at z; omega)
            refine (e6 (wJ M1 165 0 (if true = true then 1 else 0)) (by rw [wJ_165 141 (by omega), e141])).to (fun x hx => ?_)
            obtain ⟨z1, z2, z3⟩ := row_endT hR hS hr hh.1 e2 e3 e4 hx.2.1 hx.2.2 e5
            exact ⟨hx.1, z1, z2, z3⟩
          have hcb : fX10_take_b32 N 0 (nI n) (10 + 4 * r) M = if nI kd = (2 : Int32) then (fX5_freeGuest N (10 + 4 * r) (nI n) M).bind fun qj4 => fX10_take_b79 N (nI n) (10 + 4 * r) qj4 else (fX5_unmark N (10 + 4 * r) 2 (nI n) M).bind fun qj7 => fX10_take_b79 N (nI n) (10 + 4 * r) qj7 := by
            unfold fX10_take_b32
            rw [d1, xb_r, has_ok hn', Option.bind_some, hc.2.2.1.2.2.2 n hn', if_pos hp, hc.flds.1]
          rcases hk with q | q
          · subst q
            obtain ⟨x, x1, x2, x3⟩ := c_unmark (n := n) hN hc
            obtain ⟨y, y1, y2, y3⟩ := cX_remove x2 hn
            have hcm := raT_comm (M 141).1 (r := r) (up := dnV) (s := 0) (wd := sz) (n := n) (i := 250 + n) (v := 0) (by omega) (by have := hc.2.2.2.2.1.2.2.1; omega) hc.2.2.2.2.1.2.1 hc.2.1.1 mk hc.2.2.2.2.1.2.2.2.2.2.1
            refine main (setT (raT (M 141).1 r dnV 0 sz n mk) r (250 + n) 0) y ?_ y2 ?_ ?_ (fun k hk => ?_) (fun M' e => ?_)
            · rw [hcb, if_neg (by decide), x1, Option.bind_some]
              unfold fX10_take_b79
              rw [y1, Option.bind_some]
            · exact (x3.mono (fun a ha => by simp at ha ⊢; rcases ha with h | h <;> simp [h, scrC])).trans (y3.mono (fun a ha => by simp at ha ⊢; simp [ha]))
            · rw [y3.I_ (by simp), x3.I_ (by simp; omega)]
            · rw [setT_out (by omega) k hk]
              exact raT_lo _ r dnV 0 sz n mk k (by omega) (by have := hc.2.2.2.2.1.2.2.1; omega) hc.2.2.2.2.1.2.1
            · rw [hrf2 M' e, if_pos hp, li_250, nI_add, set_ok _ _ (by omega), Option.bind_some, (hx0 M' e).flds.1, Option.bind_some, if_pos (show nI 1 = (1 : Int32) from rfl)]
              refine (r_unmark hN (hx0 M' e)).to (fun z hz => ⟨hz.1, ?_, ?_⟩)
              · rw [← hcm]; exact hz.2.1
              · exact (smF.refl.pI_ (by simp) _ _).trans (hz.2.2.mono (by decide))
          · subst q
            obtain ⟨x, x1, x2, x3⟩ := c_free (n := n) hN hc
            obtain ⟨y, y1, y2, y3⟩ := cX_remove x2 hn
            have h64 := slots_le hc.2.2.2
            have hcm := frT_comm (M 141).1 (r := r) (n := n) (i := 250 + n) (v := 0) (by omega) (sz * ex) (by omega)
            refine main (setT (frT (M 141).1 r n (sz * ex)) r (250 + n) 0) y ?_ y2 ?_ ?_ (fun k hk => ?_) (fun M' e => ?_)
            · rw [hcb, if_pos (show nI 2 = (2 : Int32) from rfl), x1, Option.bind_some]
              unfold fX10_take_b79
              rw [y1, Option.bind_some]
            · exact (x3.mono (fun a ha => by simp at ha ⊢; simp [ha])).trans (y3.mono (fun a ha => by simp at ha ⊢; simp [ha]))
            · rw [y3.I_ (by simp), x3.I_ (by simp)]
            · rw [setT_out (by omega) k hk]
              exact frT_out _ (by omega) k hk
            · rw [hrf2 M' e, if_pos hp, li_250, nI_add, set_ok _ _ (by omega), Option.bind_some, (hx0 M' e).flds.1, Option.bind_some, if_neg (show ¬ nI 2 = (1 : Int32) by decide)]
              refine (r_free hN (hx0 M' e)).to (fun z hz => ⟨hz.1, ?_, ?_⟩)
              · rw [← hcm]; exact hz.2.1
              · exact (smF.refl.pI_ (by simp) _ _).trans (hz.2.2.mono (by decide))
        · refine askB hR false ?_ (fun M' hM' => ?_)
          · unfold fX10_take_b32
            rw [d1, xb_r, has_ok hn', Option.bind_some, hc.2.2.1.2.2.2 n hn', if_neg hp, yo_s]
            exact ⟨rfl, smF.refl⟩
          · rw [hrf2 M' (hM' 141 (by decide)), if_neg hp, yo_s]
            exact ⟨rfl, smF.refl⟩
    · have n1 : ¬ nI kd = (1 : Int32) := ne_l (b := 1) (by omega) (by omega) (by omega)
      have n2 : ¬ nI kd = (2 : Int32) := ne_l (b := 2) (by omega) (by omega) (by omega)
      refine refB hR (e := 2) 2 ?_ rfl (by decide) ?_
      · unfold fX10_take
        rw [c1, xb_r, hc.flds.1, if_neg n1, if_neg n2]
      · have h' := hr' M rfl
        unfold fX11_take fX11_take_b51 fX11_take_b70
        rw [c2 M rfl, Option.bind_some, if_pos rfl, h'.flds.1, Option.bind_some, Option.bind_some, if_neg n1, if_neg n2, w5_5, if_pos (by decide), yo_s]
        exact smF.refl
