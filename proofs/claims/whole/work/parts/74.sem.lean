/-- a call is well answered: whatever comes after goes on from a memory that keeps the relation -/
def stepOk (N : Nat) (Rel : Mem → Prop) : Prop := ∀ (a0 a1 a2 a3 a4 a5 : Int32) (M : Mem), Rel M → ∃ M1, Rel M1 ∧ ∀ (k : Mem → Option Mem), fLstep N a0 a1 a2 a3 a4 a5 M k = k M1
theorem sem_of {N : Nat} {Rel : Mem → Prop} (h : stepOk N Rel) (xs : Nat → Int32) : ∀ (r i : Nat) (M : Mem), Rel M → ∃ M4, fLaw N xs r i M = some M4 := by
  intro r
  induction r with
  | zero => intro i M _; exact ⟨M, rfl⟩
  | succ r ih =>
    intro i M hM
    obtain ⟨M1, h1, h2⟩ := h (xs i) (xs (i + 1)) (xs (i + 2)) (xs (i + 3)) (xs (i + 4)) (xs (i + 5)) M hM
    obtain ⟨M4, h4⟩ := ih (i + 6) M1 h1
    refine ⟨M4, ?_⟩
    show fLstep N (xs i) (xs (i + 1)) (xs (i + 2)) (xs (i + 3)) (xs (i + 4)) (xs (i + 5)) M (fun M => fLaw N xs r (i + 6) M) = some M4
    rw [h2]
    exact h4
