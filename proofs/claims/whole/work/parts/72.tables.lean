theorem modulo_some (a : Int32) (M : Mem) : ∃ q, fX10_modulo a 16 M = some q := by
  unfold fX10_modulo
  rw [if_pos (by decide), if_neg (by decide)]
  by_cases h : 0 ≤ remI a 16
  · exact ⟨_, by rw [if_pos h]⟩
  · exact ⟨_, by rw [if_neg h]⟩
theorem fill_l66 (N f v0 : Nat) (k2 : Int32 → Mem → Option Mem) (v1 : Int32) (M : Mem) (h : rI M v0 3 = 0) : fX6_fillTables_l66 N k2 v0 v1 (f + 1) 0 M = k2 (v1 + 1) M := by
  show fX6_fillTables_l66_s N k2 v0 v1 (fX6_fillTables_l66 N k2 v0 v1 f) 0 M = _
  unfold fX6_fillTables_l66_s fX6_fillTables_b127
  rw [h, if_pos (by decide)]
theorem fill_l66g (N g v0 : Nat) (hg : 1 ≤ g) (k2 : Int32 → Mem → Option Mem) (v1 : Int32) (M : Mem) (h : rI M v0 3 = 0) : fX6_fillTables_l66 N k2 v0 v1 g 0 M = k2 (v1 + 1) M := by
  obtain ⟨f, rfl⟩ : ∃ f, g = f + 1 := ⟨g - 1, by omega⟩
  exact fill_l66 N f v0 k2 v1 M h
theorem fill_l2 (N v0 : Nat) (hN : 1 ≤ N) : ∀ (f j : Nat) (M : Mem), atFirst v0 M → j ≤ 64 → 65 ≤ f + j → ∃ M1, fX6_fillTables_l2 N v0 f (nI j) M = some M1 := by
  intro f
  induction f with
  | zero => intro j M h h1 h2; omega
  | succ f ih =>
    intro j M h h1 h2
    show ∃ M1, fX6_fillTables_l2_s N v0 (fX6_fillTables_l2 N v0 f) (nI j) M = some M1
    unfold fX6_fillTables_l2_s
    rw [h.1]
    by_cases h4 : 64 ≤ j
    · rw [if_pos (show (64 : Int32) ≤ nI j from nI_le (a := 64) (b := j) h4 (by omega))]
      exact ⟨M, rfl⟩
    · rw [if_neg (show ¬ (64 : Int32) ≤ nI j from nI_ge (a := j) (b := 64) (by omega) (by decide)), if_neg (show ¬ (256 : Int32) ≤ nI j from nI_ge (a := j) (b := 256) (by omega) (by decide)), if_pos h.2.2.2]
      unfold fX6_fillTables_b49
      obtain ⟨q, hq⟩ := modulo_some (nI j) M
      rw [h.2.1, hq, Option.bind_some, if_pos (inB_nI (by omega) (by decide))]
      have hf := atFirst_put (i := (nI j).toNatClampNeg) (v := q) h (show v0 ≠ v0 + 4 by omega)
      rw [fill_l66g N N v0 hN _ _ _ hf.2.2.1, nI_1]
      exact ih (j + 1) _ hf (by omega) (by omega)
theorem fillTables_some (N v0 : Nat) (hN : 65 ≤ N) {M : Mem} (h : atFirst v0 M) : ∃ M1, fX6_fillTables N v0 M = some M1 := fill_l2 N v0 (by omega) N 0 M h (by omega) (by omega)
