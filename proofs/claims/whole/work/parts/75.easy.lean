theorem rI_wI_at {M : Mem} {a i k : Nat} {v : Int32} (h : k ≠ i) : rI (wI M a i v) a k = rI M a k := by
  unfold rI wI wIs
  rw [va_up_self]
  simp [upd, h]
/-- faults and bounds are told alike -/
def relA (M : Mem) : Prop := rI M 0 0 = rI M 140 16 ∧ rI M 0 1 = rI M 140 17 ∧ rI M 0 2 = rI M 140 26 ∧ rI M 0 3 = rI M 140 27
/-- the reference has thrown nothing -/
def calm (M : Mem) : Mem := wI M 140 5 (0 : Int32)
theorem c0 (M : Mem) (k : Nat) : rI (wI M 140 5 (0 : Int32)) 0 k = rI M 0 k := rI_wI_ne (by decide)
theorem c1 (M : Mem) {k : Nat} (h : k ≠ 5) : rI (wI M 140 5 (0 : Int32)) 140 k = rI M 140 k := rI_wI_at h
theorem relA_calm {M : Mem} (h : relA M) : relA (calm M) := by
  unfold relA calm
  rw [c0, c0, c0, c0, c1 M (k := 16) (by decide), c1 M (k := 17) (by decide), c1 M (k := 26) (by decide), c1 M (k := 27) (by decide)]
  exact h
theorem lc2_ok {β : Type} (N : Nat) (a1 : Int32) (M : Mem) (h : relA M) (k : Mem → Option β) : fLc2 N a1 M k = k (calm M) := by
  have h1 := relA_calm h
  unfold calm relA at h1
  rw [c0, c0, c0, c0] at h1
  unfold fLc2 fX10_fault fX11_fault calm
  by_cases e0 : a1 = 0
  · rw [if_pos e0, if_pos e0, Option.bind_some, Option.bind_some, if_pos h1.1]
  · rw [if_neg e0, if_neg e0]
    by_cases e1 : a1 = 1
    · rw [if_pos e1, if_pos e1, Option.bind_some, Option.bind_some, if_pos h1.2.1]
    · rw [if_neg e1, if_neg e1, Option.bind_some, Option.bind_some, if_pos rfl]
theorem lc19_ok {β : Type} (N : Nat) (M : Mem) (h : relA M) (k : Mem → Option β) : fLc19 N M k = k (calm M) := by
  have h1 := relA_calm h
  unfold calm relA at h1
  rw [c0, c0, c0, c0] at h1
  unfold fLc19 fX10_upper fX11_upper calm
  rw [Option.bind_some, Option.bind_some, if_pos h1.2.2.1]
theorem lc20_ok {β : Type} (N : Nat) (M : Mem) (h : relA M) (k : Mem → Option β) : fLc20 N M k = k (calm M) := by
  have h1 := relA_calm h
  unfold calm relA at h1
  rw [c0, c0, c0, c0] at h1
  unfold fLc20 fX10_lower fX11_lower calm
  rw [Option.bind_some, Option.bind_some, if_pos h1.2.2.2]
