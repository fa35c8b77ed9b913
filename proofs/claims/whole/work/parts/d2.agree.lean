/-! RULES: both agree -/
def ruS : List Nat := [0, 2, 3, 4, 5, 6, 7, 10, 14, 18, 22, 111, 112, 113, 114, 115, 116, 117, 118, 120]
def ruP (M M1 M' : Mem) (x : Int32 × Mem) : Prop :=
  smF ruS M M1 ∧ rI M1 111 1 = 0 ∧ rI M1 0 0 = rI x.2 140 16 ∧ rI M1 0 1 = rI x.2 140 17 ∧ (∀ k, 2 ≤ k → rI M1 0 k = rI M 0 k) ∧
  ((∃ W g m : Nat, cRu M1 2 (x.2 141).1 W g m ∧ ∀ r, r < 4 → rI M1 (10 + 4 * r) 0 = 0 ∧ rI x.2 141 (1220 + 512 * r) = -1) ∨ (x.2 141 = M' 141 ∧ ∀ a, 1 ≤ a → a < 26 → M1 a = M a))
theorem ru_c {N n n0 : Nat} {t : Nat → Nat} {M M' : Mem} {x : Int32 × Mem} (hN : 4000 ≤ N) (hn0 : n0 ≤ 600) (hn : n ≤ n0) (h1 : rI M 111 1 = nI n0) (ht : ∀ j, j < n → t j < 256 ∧ rI M 119 j &&& 255 = nI (t j)) (hx : ruGood N n t x ∨ ruBad N n t M' x) :
    ∃ M1, fX10_rules N 0 (nI n) M = some (.inr x.1, M1) ∧ ruP M M1 M' x := by
  have hN7 : 700 ≤ N := by omega
  obtain ⟨M3, c1, c2, c3, c4⟩ := readAll_eq hN7 (show n ≤ 600 by omega) ht
  unfold fX10_rules
  have e1 : rI M (0 + 111) 1 = nI n0 := h1
  rw [if_neg (nI_pos (by omega)), e1, if_pos (nI_le hn (by omega))]
  have c4' : fX4_readAll N (0 + 111) (nI n) M = fX4_readAll_l30 N 111 (N - 0) 0 (nI 0) M3 := c4
  rw [c4']
  have g4 : ∀ (Mx : Mem) (k v : Int32), rI Mx 111 2 = k → rI Mx 111 3 = v → wI (wI (wI Mx (0 + 111) 1 0) 0 0 (rI (wI Mx (0 + 111) 1 0) (0 + 111) 2)) 0 1 (rI (wI (wI Mx (0 + 111) 1 0) 0 0 (rI (wI Mx (0 + 111) 1 0) (0 + 111) 2)) (0 + 111) 3) = wI (wI (wI Mx 111 1 0) 0 0 k) 0 1 v := by
    intro Mx k v h2 h3
    have q2 : rI (wI Mx (0 + 111) 1 0) (0 + 111) 2 = k := by rw [rI_wI, if_neg (by omega)]; exact h2
    have q3 : rI (wI (wI Mx (0 + 111) 1 0) 0 0 k) (0 + 111) 3 = v := by rw [rI_wI, if_neg (by omega), rI_wI, if_neg (by omega)]; exact h3
    rw [q2, q3]
  have gA : ∀ (Mx : Mem) (k v : Int32), smF rdC M3 Mx → smF [0, 111, 112, 113, 114, 115, 116, 117, 118, 120] M (wI (wI (wI Mx 111 1 0) 0 0 k) 0 1 v) ∧ rI (wI (wI (wI Mx 111 1 0) 0 0 k) 0 1 v) 111 1 = 0 ∧ (∀ j, rI (wI (wI (wI Mx 111 1 0) 0 0 k) 0 1 v) 0 j = if j = 1 then v else if j = 0 then k else rI M 0 j) ∧ smF [0, 111] Mx (wI (wI (wI Mx 111 1 0) 0 0 k) 0 1 v) := by
    intro Mx k v hx
    have s : smF [0, 111] Mx (wI (wI (wI Mx 111 1 0) 0 0 k) 0 1 v) := ((smF.refl.pI_ (by simp) _ _).pI_ (by simp) _ _).pI_ (by simp) _ _
    refine ⟨(c3.mono (by decide)).trans ((hx.mono (by decide)).trans (s.mono (by decide))), ?_, fun j => ?_, s⟩
    · rw [rI_wI, if_neg (by omega), rI_wI, if_neg (by omega), rI_wI, if_pos ⟨rfl, rfl⟩]
    · rw [rI_wI, rI_wI, rI_wI, hx.I_ (by decide), c3.I_ (by decide)]
      simp
  rcases hx with ⟨T, x1, x2, x3, x4, x5, x6⟩ | ⟨kd, pl, v1, v2, v3, v4, v5, v6, v7⟩
  · obtain ⟨Mc', L, W, g, m, l1, l2, l3, l4⟩ := x6 M3 c1 c2
    obtain ⟨i', i1, i2⟩ := l1.2 0 (by omega)
    rw [i2]
    obtain ⟨⟨q, Mx⟩, y1, y2, y3, y4, y5, y6⟩ := end_fine hN7 i1 l2 l3 l4
    have y2 : q = true := y2
    subst y2
    dsimp only at y3 y4 y5 y6
    rw [y1, Option.bind_some, if_pos rfl, g4 Mx 0 (-1) y5 y6]
    obtain ⟨a1, a2, a3, a4⟩ := gA Mx 0 (-1) (l1.1.trans y4)
    generalize wI (wI (wI Mx 111 1 0) 0 0 0) 0 1 (-1) = A at a1 a2 a3 a4 ⊢
    have hA : cRu A 112 T W g m := y3.moved (fun a h1 h2 => a4 a (by simp; omega))
    obtain ⟨B, b1, b2, b3⟩ := ruCopy (v0 := 2) (v1 := 112) A (by omega)
    have hB : cRu B 2 T W g m := cRu_like hA b2
    have b1' : fX6_copyFrom (0 + 1 + 1) (0 + 111 + 1) A = some B := b1
    rw [b1', Option.bind_some]
    obtain ⟨C, d1, d2, d3⟩ := rm_rows (M := B) hN7
    have d1' : fX7_removeRows N (0 + 1) B = some C := d1
    rw [d1', Option.bind_some]
    have hC : cRu C 2 T W g m := hB.moved (fun a h1 h2 => d2 a (by simp; omega))
    refine ⟨C, ?_, ?_, ?_, ?_, ?_, fun k hk => ?_, Or.inl ⟨W, g, m, cRu_cong (fun k hk => x2 k (by omega)) hC, fun r hr => ⟨d3 r hr, (x2 _ (by omega)).trans (x5 r hr)⟩⟩⟩
    · have e : rI C (0 + 1 + 1) 0 = x.1 := hC.2.1.trans x1.symm
      rw [e]
    · exact (a1.mono (by decide)).trans ((b3.mono (by decide)).trans (d2.mono (by decide)))
    · rw [d2.I_ (by decide), b3.I_ (by decide)]; exact a2
    · rw [d2.I_ (by decide), b3.I_ (by decide), a3, x3]; rfl
    · rw [d2.I_ (by decide), b3.I_ (by decide), a3, x4]; rfl
    · rw [d2.I_ (by decide), b3.I_ (by decide), a3, if_neg (by omega), if_neg (by omega)]
  · obtain ⟨Mx, y1, y2, y3, y4⟩ := v7 M3 c1 c2 0 (by omega)
    rw [y1, Option.bind_some, if_neg Bool.false_ne_true, g4 Mx (nI kd) (nI pl) y2 y3]
    obtain ⟨a1, a2, a3, a4⟩ := gA Mx (nI kd) (nI pl) y4
    generalize wI (wI (wI Mx 111 1 0) 0 0 (nI kd)) 0 1 (nI pl) = A at a1 a2 a3 a4 ⊢
    refine ⟨A, ?_, a1.mono (by decide), a2, ?_, ?_, fun k hk => ?_, Or.inr ⟨v4, fun a h1 h2 => a1 a (by simp; omega)⟩⟩
    · rw [a3, if_neg (by omega), if_pos rfl, v3]
    · rw [a3, v5]; rfl
    · rw [a3, v6]; rfl
    · rw [a3, if_neg (by omega), if_neg (by omega)]
theorem ag_rules {N : Nat} (hN : 4000 ≤ N) (a : Int32) (M : Mem) (hR : Rel M) : agI (fX10_rules N 0 a M) (fX11_rules N 140 a) (fun k Mj1 => if k = 3 then some ((1 : Int32), Mj1) else none) M := by
  have hR' := hR
  obtain ⟨hS, hI, hT, ⟨n0, hn0, p1, p2, p3⟩, hA⟩ := hR
  by_cases hin : 0 ≤ a.toInt ∧ a.toInt ≤ n0
  · obtain ⟨n, hn, rfl⟩ : ∃ n : Nat, n ≤ n0 ∧ a = nI n := by
      rcases int_cases a with ⟨h, _⟩ | ⟨k, hk, rfl⟩
      · omega
      · rw [nI_toInt hk] at hin
        exact ⟨k, by omega, rfl⟩
    have hb : ∀ j, j < n → (rI M 146 j).toNatClampNeg < 256 ∧ rI M 146 j = nI ((rI M 146 j).toNatClampNeg) ∧ rI M 119 j &&& 255 = nI ((rI M 146 j).toNatClampNeg) := fun j hj => by
      obtain ⟨c, c1, c2, c3⟩ := p3 j (by omega)
      rw [c2, nI_clamp (by omega)]
      exact ⟨c1, rfl, c3⟩
    have hcl : ∀ j, j < n → (rI M 146 j).toNatClampNeg < 256 ∧ rI M 119 j &&& 255 = nI ((rI M 146 j).toNatClampNeg) := fun j hj => ⟨(hb j hj).1, (hb j hj).2.2⟩
    obtain ⟨x0, _, _, _, _, _, _, g0⟩ := ru_ref (t := fun j => (rI M 146 j).toNatClampNeg) hN hn0 hn p2 (fun j hj => ⟨(hb j hj).1, (hb j hj).2.1⟩)
    obtain ⟨M1, e1, P1⟩ := ru_c (M := M) hN hn0 hn p1 hcl g0
    have sv : smF (165 :: ruS) M (wJ M1 165 0 x0.1.toInt64) := (P1.1.mono (by decide)).pJ_ (by decide) 0 _
    refine Or.inr ⟨x0.1, M1, e1, (ru_ref (t := fun j => (rI M 146 j).toNatClampNeg) (M := wJ M1 165 0 x0.1.toInt64) hN hn0 hn (by rw [sv.I_ (by decide)]; exact p2) (fun j hj => ⟨(hb j hj).1, by rw [sv.I_ (by decide)]; exact (hb j hj).2.1⟩)).to (fun x hx => ?_)⟩
    obtain ⟨s1, h5, h7, h26, h27, g⟩ := hx
    obtain ⟨M1', e1', q1, q2, q3, q4, q5, q6⟩ := ru_c (M := M) hN hn0 hn p1 hcl g
    rw [e1] at e1'
    have e2 := Prod.mk.inj (Option.some.inj e1')
    have e3 : x0.1 = x.1 := Sum.inr.inj e2.1
    have e4 : M1 = M1' := e2.2
    subst e4
    have X : ∀ b, b ∉ ruS → b ≠ 140 → b ≠ 141 → b ≠ 142 → b ≠ 165 → x.2 b = M b := fun b h1 h2 h3 h4 h5 => by rw [s1 b (by simp; omega), sv b (by simp only [List.mem_cons]; exact fun z => z.elim h5 h1)]
    have Y : ∀ b, b ≠ 140 → b ≠ 141 → b ≠ 142 → b ≠ 165 → x.2 b = M1 b := fun b h2 h3 h4 h5 => by
      rw [s1 b (by simp; omega)]
      exact (smF.refl (S := [165])).pJ_ (by decide) 0 _ b (by simpa using h5)
    have no : ∀ b, (26 ≤ b ∧ b < 111) ∨ b = 119 ∨ 143 ≤ b → b ∉ ruS := fun b hb q => by
      simp only [ruS, List.mem_cons, List.not_mem_nil, or_false] at q
      omega
    refine ⟨e3.symm, h5, ?_, ?_, relI_mv hI (fun b h1 h2 => X b (no b (by omega)) (by omega) (by omega) (by omega) (by omega)) ?_ (X 143 (no _ (by omega)) (by omega) (by omega) (by omega) (by omega)) (X 145 (no _ (by omega)) (by omega) (by omega) (by omega) (by omega)), relT_iff.mpr (fun t ht => trS_mv (relT_iff.mp hT t ht) (X _ (no _ (by omega)) (by omega) (by omega) (by omega) (by omega)) (X _ (no _ (by omega)) (by omega) (by omega) (by omega) (by omega)) (eqs_rI (X 162 (no _ (by omega)) (by omega) (by omega) (by omega) (by omega)) _) (eqs_rI (X 163 (no _ (by omega)) (by omega) (by omega) (by omega) (by omega)) _) (fun j _ => eqs_rJ (X 164 (no _ (by omega)) (by omega) (by omega) (by omega) (by omega)) _)), ⟨0, by omega, ?_, h7, fun j hj => absurd hj (Nat.not_lt_zero j)⟩, ?_⟩
    · rw [s1.J_ (by decide), rJ_wJ, if_pos ⟨rfl, rfl⟩]
    · rcases q6 with ⟨W, g, m, r1, r2⟩ | ⟨r1, r2⟩
      · refine ⟨W, g, m, r1.moved (fun b h1 h2 => Y b (by omega) (by omega) (by omega) (by omega)), fun r hr => Or.inl ⟨?_, (r2 r hr).2⟩⟩
        show rI x.2 (1 + 9 + 4 * r) 0 = 0
        rw [eqs_rI (Y _ (by omega) (by omega) (by omega) (by omega)), show 1 + 9 + 4 * r = 10 + 4 * r by omega]
        exact (r2 r hr).1
      · refine relS_mv hS (fun b h1 h2 h3 => (Y b (by omega) (by omega) (by omega) (by omega)).trans (r2 b (by omega) (by omega))) ?_
        rw [r1]
        exact sv 141 (by decide)
    · rw [eqs_rI (Y 0 (by omega) (by omega) (by omega) (by omega))]; exact q5 6 (by omega)
    · rw [eqs_rI (Y 111 (by omega) (by omega) (by omega) (by omega))]; exact q2
    · obtain ⟨_, _, a3, a4⟩ := hA
      unfold relA
      rw [eqs_rI (Y 0 (by omega) (by omega) (by omega) (by omega)), eqs_rI (Y 0 (by omega) (by omega) (by omega) (by omega)), eqs_rI (Y 0 (by omega) (by omega) (by omega) (by omega)), eqs_rI (Y 0 (by omega) (by omega) (by omega) (by omega)), h26, h27, sv.I_ (by decide), sv.I_ (by decide)]
      exact ⟨q3, q4, (q5 2 (by omega)).trans a3, (q5 3 (by omega)).trans a4⟩
  · refine refI (e := 3) hR' 1 ?_ rfl (by decide) ?_
    · unfold fX10_rules fX10_rules_b15
      have e1 : rI M (0 + 111) 1 = nI n0 := p1
      by_cases h0 : a < 0
      · rw [if_pos h0]
      · rw [if_neg h0, e1]
        obtain ⟨k, hk, rfl⟩ := nI_of h0
        rw [nI_toInt hk] at hin
        rw [if_neg (nI_ge (by omega) hk)]
    · unfold fX11_rules
      have e7 : rI (wI M 140 5 0) 140 7 = nI n0 := by rw [rI_wI, if_neg (by omega)]; exact p2
      rw [e7, within_v _ _ _ 0 n0 (by decide) (by rw [nI_l (by omega), lN_toInt (by omega)]), decide_eq_false hin, Option.bind_some, if_neg (by decide), fails_ok, Option.bind_some, yo_s, wI_wI]
      exact smF.refl
theorem cs1 {N : Nat} (hN : 4000 ≤ N) (a1 : Int32) (M : Mem) (hR : Rel M) : ∃ M1, Rel M1 ∧ ∀ (k : Mem → Option Mem), fLc1 N a1 M k = k M1 := ca_I (ag_rules hN a1 M hR)
