theorem rI_wI_ne {M : Mem} {a b i k : Nat} {v : Int32} (h : b ≠ a) : rI (wI M a i v) b k = rI M b k := by
  unfold rI wI wIs
  rw [va_up_ne _ _ h]
/-- the rules as they are at first: 64 names, 16 tags, no marks, no code -/
def atFirst (v0 : Nat) (M : Mem) : Prop := rI M v0 1 = 64 ∧ rI M v0 2 = 16 ∧ rI M v0 3 = 0 ∧ rI M v0 5 = rI M v0 6
theorem atFirst_put {v0 a i : Nat} {v : Int32} {M : Mem} (h : atFirst v0 M) (ha : v0 ≠ a) : atFirst v0 (wI M a i v) := by
  unfold atFirst at h ⊢
  rw [rI_wI_ne ha, rI_wI_ne ha, rI_wI_ne ha, rI_wI_ne ha, rI_wI_ne ha]
  exact h
theorem clear_first (v0 : Nat) (M M1 : Mem) (h : fX6_clear v0 M = some M1) : atFirst v0 M1 := by
  unfold fX6_clear at h
  cases h
  unfold atFirst rI wI wIs
  simp [va_up_self, upd]
