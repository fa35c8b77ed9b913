/-! SEMANTICS: put, pour -/
theorem admit_two {N : Nat} {M M' : Mem} {T : Nat → Int32} {r W g m kd sz mk ex ly n : Nat} (hN : 700 ≤ N) (hc : cX M T r W g m kd sz mk ex ly) (hx : rX M' T r W g m kd sz mk ex ly) (h4 : kd ≠ 4) (hn : n < W) :
    ∃ (v : Int32) (T2 : Nat → Int32) (ly2 : Nat), (∀ z, (z < 1220 + 512 * r ∨ 1220 + 512 * r + 512 ≤ z) → T2 z = T z) ∧
      Yo (fX10_admit N 0 (10 + 4 * r) (nI n) M) (fun x => x.1 = v ∧ cX x.2 T2 r W g m kd sz mk ex ly2 ∧ smF (scrC ++ [10 + 4 * r, 12 + 4 * r, 13 + 4 * r]) M x.2 ∧ rI x.2 (10 + 4 * r) 0 = rI M (10 + 4 * r) 0) ∧
      Yo (fX11_putsOr N 140 (nI r) (nI n) M') (fun x => x.1 = v ∧ rX x.2 T2 r W g m kd sz mk ex ly2 ∧ smF (141 :: scrR) M' x.2) := by
  have hW := hc.W1.2.2
  have hn' : n < 256 := by omega
  have hk := hc.2.2.2.2.1.1
  have hr4 := hc.1
  have hcl : fX10_admit N 0 (10 + 4 * r) (nI n) M = if decide (rq T r (250 + n) = 1) = true then some ((1 : Int32), M) else if nI kd = (2 : Int32) then (fX3_settle N 121 (10 + 4 * r) 2 (nI n) M).bind fun qj6 => fX10_admit_b52 N (10 + 4 * r) (nI n) qj6.1 qj6.2 else (fX5_mark N (10 + 4 * r) 2 (nI n) M).bind fun qj9 => fX10_admit_b52 N (10 + 4 * r) (nI n) qj9.1 qj9.2 := by
    unfold fX10_admit
    rw [has_ok hn', Option.bind_some, hc.2.2.1.2.2.2 n hn', hc.flds.1]
  have hrf : fX11_putsOr N 140 (nI r) (nI n) M' = if decide (rq T r (250 + n) = 1) = true then some ((1 : Int32), M') else (fX11_puts N 140 (nI r) (nI n) M').bind fun qj2 => if qj2.1 = true then some ((0 : Int32), qj2.2) else some ((-1 : Int32), qj2.2) := by
    unfold fX11_putsOr
    rw [isIn_ok hr4 hn', Option.bind_some, hx.2.1]
  by_cases hp : decide (rq T r (250 + n) = 1) = true
  · refine ⟨1, T, ly, fun _ _ => rfl, ?_, ?_⟩
    · rw [hcl, if_pos hp, yo_s]; exact ⟨rfl, hc, smF.refl, rfl⟩
    · rw [hrf, if_pos hp, yo_s]; exact ⟨rfl, hx, smF.refl⟩
  · rw [if_neg hp] at hcl hrf
    by_cases k2 : kd = 2
    · subst k2
      rw [if_pos (show nI 2 = (2 : Int32) from rfl)] at hcl
      have hpu : fX11_puts N 140 (nI r) (nI n) M' = (fX11_nestPuts N 140 (nI r) (nI n) M').bind fun qj2 => if qj2.1 = true then fX11_puts_b181 N 140 (nI r) (nI n) qj2.2 else some (false, qj2.2) := by
        unfold fX11_puts
        rw [hx.flds.1, Option.bind_some, if_pos (show nI 2 = (2 : Int32) from rfl)]
      rcases nest_two hN hc hx hn with ⟨⟨x, x1, x2, x3, x4⟩, ⟨y, y1, y2, y3, y4⟩⟩ | ⟨T2, hT2, ⟨x, x1, x2, x3, x4, x5⟩, ⟨y, y1, y2, y3, y4⟩⟩
      · refine ⟨-1, T, ly, fun _ _ => rfl, ?_, ?_⟩
        · rw [hcl, x1, Option.bind_some, x2]
          unfold fX10_admit_b52
          rw [if_neg (by decide), yo_s]
          exact ⟨rfl, x3, x4.mono (fun a ha => List.mem_append_left _ ((by decide : ∀ a ∈ [8, 121, 122, 123, 124], a ∈ scrC) a ha)), x4.I_ (by simp; omega) 0⟩
        · rw [hrf, hpu, y1, Option.bind_some, y2, if_neg (by decide), Option.bind_some, if_neg (show ¬ (false = true) by decide), yo_s]
          exact ⟨rfl, y3, y4.mono (by decide)⟩
      · obtain ⟨z, z1, z2, z3⟩ := cX_add x3 hn
        refine ⟨0, setT T2 r (250 + n) 1, ly, fun w hw => by rw [setT_out (by omega) w hw]; exact hT2 w (by omega), ?_, ?_⟩
        · rw [hcl, x1, Option.bind_some, x2]
          unfold fX10_admit_b52
          rw [if_pos rfl, z1, Option.bind_some, yo_s]
          refine ⟨rfl, z2, (x4.mono (fun a ha => ?_)).trans (z3.mono (fun a ha => by simp at ha; simp [ha])), by rw [z3.I_ (by simp)]; exact x5⟩
          rw [List.mem_append]
          simp only [List.mem_cons, List.not_mem_nil, or_false] at ha ⊢
          rcases ha with h | h | h | h | h | h | h
          · exact Or.inl (by rw [h]; decide)
          · exact Or.inl (by rw [h]; decide)
          · exact Or.inl (by rw [h]; decide)
          · exact Or.inl (by rw [h]; decide)
          · exact Or.inl (by rw [h]; decide)
          · exact Or.inr (Or.inl h)
          · exact Or.inr (Or.inr (Or.inr h))
        · rw [hrf, hpu, y1, Option.bind_some, y2, if_pos rfl]
          unfold fX11_puts_b181
          rw [li_250, nI_add, set_ok _ _ (by omega), Option.bind_some, Option.bind_some, if_pos (show (true = true) from rfl), yo_s]
          exact ⟨rfl, rX_set y3 (roT_put y3.2.2.2 hn' (Or.inr ⟨rfl, hn⟩)), (y4.mono (by decide)).pI_ (by decide) _ _⟩
    · rw [if_neg (show ¬ nI kd = (2 : Int32) from ne_l (b := 2) k2 (by omega) (by omega))] at hcl
      rcases put_two hN hc hx k2 h4 hn with ⟨x1, y1⟩ | ⟨T2, ly2, hT2, ⟨x, x1, x2, z, z1, z2, z3, z4⟩, ⟨y, y1, y2, y3, y4⟩⟩
      · refine ⟨-1, T, ly, fun _ _ => rfl, ?_, ?_⟩
        · rw [hcl, x1, Option.bind_some]
          unfold fX10_admit_b52
          rw [if_neg (show ¬ (false = true) by decide), yo_s]
          exact ⟨rfl, hc, smF.refl, rfl⟩
        · rw [hrf, y1, Option.bind_some, if_neg (show ¬ (false = true) by decide), yo_s]
          exact ⟨rfl, hx, smF.refl⟩
      · refine ⟨0, T2, ly2, hT2, ?_, ?_⟩
        · rw [hcl, x1, Option.bind_some, x2]
          unfold fX10_admit_b52
          rw [if_pos rfl, z1, Option.bind_some, yo_s]
          refine ⟨rfl, z2, z3.mono (fun a ha => ?_), z4⟩
          rw [List.mem_append]
          simp only [List.mem_cons, List.not_mem_nil, or_false] at ha ⊢
          rcases ha with h | h | h | h
          · exact Or.inl (by rw [h]; decide)
          · exact Or.inr (Or.inl h)
          · exact Or.inr (Or.inr (Or.inl h))
          · exact Or.inr (Or.inr (Or.inr h))
        · rw [hrf, y1, Option.bind_some, y2, if_pos rfl, yo_s]
          exact ⟨rfl, y3, y4.mono (by decide)⟩
theorem unsolved_ok {M : Mem} {T : Nat → Int32} {r W g m kd sz mk ex ly : Nat} (h : cX M T r W g m kd sz mk ex ly) : fX10_needUnsolved (10 + 4 * r) M = if kd = 4 then some (.inl 2, M) else some (.inr (), M) := by
  unfold fX10_needUnsolved
  rw [h.flds.1]
  by_cases q : kd = 4
  · rw [if_pos (show nI kd = (4 : Int32) from by rw [q]; rfl), if_pos q]
  · rw [if_neg (show ¬ nI kd = (4 : Int32) from ne_l (b := 4) q (by have := h.2.2.2.2.1.1; omega) (by omega)), if_neg q]
theorem eq141 {M M1 : Mem} {r : Nat} (hr : r < 4) (hF : smF (scrC ++ [10 + 4 * r, 12 + 4 * r, 13 + 4 * r]) M M1) : M1 141 = M 141 := hF 141 (fun z => by
  rw [List.mem_append] at z
  rcases z with z | z
  · exact absurd z (by decide)
  · simp only [List.mem_cons, List.not_mem_nil, or_false] at z; omega)
theorem ag_put {N : Nat} (hN : 700 ≤ N) (a1 a2 : Int32) (M : Mem) (hR : Rel M) : agI (fX10_put N 0 a1 a2 M) (fX11_put N 140 a1 a2) (fun k Mj1 => if k = 1 then some ((1 : Int32), Mj1) else if k = 2 then some ((2 : Int32), Mj1) else if k = 3 then some ((3 : Int32), Mj1) else none) M := by
  obtain ⟨W, g, m, hS⟩ := hR.1
  rcases rowAt_ok hS a1 with ⟨c1, c2⟩ | ⟨r, hr, rfl, hh, c1, c2⟩
  · refine refI hR (e := 1) 1 ?_ rfl (by decide) ?_
    · unfold fX10_put; rw [c1, xb_l]
    · unfold fX11_put fX11_put_b41
      rw [c2 M rfl, Option.bind_some, if_neg (by decide), w5_5, if_neg (by decide), yo_s]
      exact smF.refl
  · obtain ⟨kd, sz, mk, ex, ly, hc, hr'⟩ := sX hS hr hh
    have hcl : fX10_put N 0 (nI r) a2 M = xb (if kd = 4 then some (.inl 2, M) else some (.inr (), M)) fun qj2 Mj2 => xb (fX10_needName 0 a2.toInt64 Mj2) fun qj3 Mj3 => (fX10_admit N 0 (10 + 4 * r) a2 Mj3).bind fun qj4 => some (.inr qj4.1, qj4.2) := by
      unfold fX10_put
      rw [c1, xb_r, unsolved_ok hc]
    by_cases k4 : kd = 4
    · refine refI hR (e := 2) 2 ?_ rfl (by decide) ?_
      · rw [hcl, if_pos k4, xb_l]
      · unfold fX11_put fX11_put_b41
        rw [c2 M rfl, Option.bind_some, if_pos rfl, (hr' M rfl).flds.1, Option.bind_some, if_pos (show nI kd = (4 : Int32) from by rw [k4]; rfl), w5_5, if_neg (by decide), yo_s]
        exact smF.refl
    · rw [if_neg k4, xb_r] at hcl
      have hk4 := hc.2.2.2.2.1.1
      have hrf : ∀ M' : Mem, M' 141 = M 141 → fX11_put N 140 (nI r) a2 M' = (fX11_isName 140 a2.toInt64 M').bind fun qj3 => if qj3 = true then fX11_put_b41 N 140 (nI r) a2 (0 : Int32) 140 M' else fX11_put_b41 N 140 (nI r) a2 (3 : Int32) 140 M' := fun M' e => by
        unfold fX11_put
        rw [c2 M' (by rw [e]), Option.bind_some, if_pos rfl, (hr' M' e).flds.1, Option.bind_some, if_neg (show ¬ nI kd = (4 : Int32) from ne_l (b := 4) k4 (by omega) (by omega))]
      rcases needName_ok hS a2 with ⟨d1, d2⟩ | ⟨n, hn, rfl, d1, d2⟩
      · refine refI hR (e := 3) 3 ?_ rfl (by decide) ?_
        · rw [hcl, d1, xb_l]
        · rw [hrf M rfl, d2 M rfl, Option.bind_some, if_neg (by decide)]
          unfold fX11_put_b41
          rw [w5_5, if_neg (by decide), yo_s]
          exact smF.refl
      · rw [hcl, d1, xb_r]
        have key : ∀ M' : Mem, M' 141 = M 141 → rX (wI M' 140 5 0) (M 141).1 r W g m kd sz mk ex ly := fun M' e => hr' _ (by rw [w5_141, e])
        have hx1 : ∀ (v : Int64) (M1 : Mem), M1 141 = M 141 → (wJ M1 165 0 v) 141 = M 141 := fun v M1 e => by rw [wJ_165 141 (by omega), e]
        obtain ⟨v, T2, ly2, hT, ⟨x, x1, x2, x3, x4, x5⟩, _⟩ := admit_two hN hc (key M rfl) k4 hn
        refine Or.inr ⟨v, x.2, by rw [x1, Option.bind_some, x2], ?_⟩
        have e141 := eq141 hr x4
        obtain ⟨v', T2', ly2', hT', ⟨y, y1, y2, y3, y4, y5⟩, hy⟩ := admit_two hN hc (key _ (hx1 v.toInt64 x.2 e141)) k4 hn
        have exy : x = y := Option.some.inj (x1.symm.trans y1)
        subst exy
        have ev : v = v' := x2.symm.trans y2
        subst ev
        have hcall : fX11_put N 140 (nI r) (nI n) (wJ x.2 165 0 v.toInt64) = (fX11_putsOr N 140 (nI r) (nI n) (wI (wJ x.2 165 0 v.toInt64) 140 5 0)).bind fun qj1 => some (qj1.1, qj1.2) := by
          rw [hrf _ (hx1 v.toInt64 x.2 e141), d2 _ (by rw [hx1 v.toInt64 x.2 e141]), Option.bind_some, if_pos rfl]
          unfold fX11_put_b41
          rw [w5_5, if_pos (by decide)]
        obtain ⟨w, w1, w2, w3, w4⟩ := hy
        obtain ⟨z1, z2, z3⟩ := row_endT hR hS hr hh.1 y3 y4 y5 w3 w4 hT'
        exact ⟨w, by rw [hcall, w1, Option.bind_some], w2, z1, z2, z3⟩
