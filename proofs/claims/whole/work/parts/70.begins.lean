/-! SEMANTICS. The reference's beginning comes to an end. -/
theorem beg_l31 (N v0 : Nat) : ∀ (f j : Nat) (M : Mem), j ≤ 4 → 5 ≤ f + j → ∃ M1, fX11_begins_l31 N v0 f (nI j) M = some M1 := by
  intro f
  induction f with
  | zero => intro j M h1 h2; omega
  | succ f ih =>
    intro j M h1 h2
    show ∃ M1, fX11_begins_l31_s N v0 (fX11_begins_l31 N v0 f) (nI j) M = some M1
    unfold fX11_begins_l31_s
    by_cases h4 : j = 4
    · subst h4
      rw [if_pos (by decide)]
      exact ⟨M, rfl⟩
    · rw [if_neg (show ¬ (4 : Int32) ≤ nI j from nI_ge (a := j) (b := 4) (by omega) (by decide))]
      have hin : ∀ j : Nat, j < 4 → inB (((1220 : Int32) + ((512 : Int32) * nI j)) + (0 : Int32)) 3268 = true := by decide
      rw [if_pos (hin j (by omega)), nI_1]
      exact ih (j + 1) _ (by omega) (by omega)
theorem beg_l2 (N v0 : Nat) (hN : 5 ≤ N) : ∀ (f j : Nat) (M : Mem), j ≤ 3268 → 3269 ≤ f + j → ∃ M1, fX11_begins_l2 N v0 f (nI j) M = some M1 := by
  intro f
  induction f with
  | zero => intro j M h1 h2; omega
  | succ f ih =>
    intro j M h1 h2
    show ∃ M1, fX11_begins_l2_s N v0 (fX11_begins_l2 N v0 f) (nI j) M = some M1
    unfold fX11_begins_l2_s
    by_cases h4 : 3268 ≤ j
    · rw [if_pos (show (3268 : Int32) ≤ nI j from nI_le (a := 3268) (b := j) h4 (by omega)), if_pos (by decide), if_pos (by decide)]
      exact beg_l31 N v0 N 0 _ (by omega) (by omega)
    · rw [if_neg (show ¬ (3268 : Int32) ≤ nI j from nI_ge (a := j) (b := 3268) (by omega) (by decide)), if_pos (inB_nI (by omega) (by decide)), nI_1]
      exact ih (j + 1) _ (by omega) (by omega)
theorem begins_some (N v0 : Nat) (hN : 3269 ≤ N) (M : Mem) : ∃ M1, fX11_begins N v0 M = some M1 := beg_l2 N v0 (by omega) N 0 M (by omega) (by omega)
theorem clear_some : ∃ M1, fX6_clear 2 zM = some M1 := ⟨_, rfl⟩
