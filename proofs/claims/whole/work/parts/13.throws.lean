theorem in_GN {L : List Cond} (h : (L.all fun w => decide (w ∈ GW ∨ w ∈ NW)) = true) : ∀ w ∈ L, w ∈ GW ∨ w ∈ NW := fun w hw => of_decide_eq_true (List.all_eq_true.mp h w hw)
theorem ex1_a : ∀ w ∈ (Bundle.throwableAtoms ++ Bundle.throwableSAtoms ++ zx_chainAtoms (exN 1) ["java/lang/RuntimeException", "java/lang/Exception"]).filter vx_no, w ∈ GW ∨ w ∈ NW := in_GN (by decide +kernel)
theorem ex1_b : ∀ w ∈ ((zx_tl "" 0 (exN 1)).drop 1).filter vx_no, w ∈ GW ∨ w ∈ NW := in_GN (by decide +kernel)
theorem ex2_a : ∀ w ∈ (Bundle.throwableAtoms ++ Bundle.throwableSAtoms ++ Bundle.chainSAtoms (exN 2) ["java/lang/RuntimeException", "java/lang/Exception"]).filter vx_no, w ∈ GW ∨ w ∈ NW := in_GN (by decide +kernel)
theorem ex2_b : ∀ w ∈ ((Bundle.ownAtoms "" 0 (exN 2) ["java/lang/RuntimeException", "java/lang/Exception"]).drop ((Bundle.throwableAtoms ++ Bundle.throwableSAtoms ++ Bundle.chainSAtoms (exN 2) ["java/lang/RuntimeException", "java/lang/Exception"]).length + 1)).filter vx_no, w ∈ GW ∨ w ∈ NW := in_GN (by decide +kernel)
theorem ex3_a : ∀ w ∈ (Bundle.throwableAtoms ++ Bundle.throwableSAtoms ++ Bundle.chainSAtoms (exN 3) ["java/lang/RuntimeException", "java/lang/Exception"]).filter vx_no, w ∈ GW ∨ w ∈ NW := in_GN (by decide +kernel)
theorem ex3_b : ∀ w ∈ ((Bundle.ownAtoms "" 0 (exN 3) ["java/lang/RuntimeException", "java/lang/Exception"]).drop ((Bundle.throwableAtoms ++ Bundle.throwableSAtoms ++ Bundle.chainSAtoms (exN 3) ["java/lang/RuntimeException", "java/lang/Exception"]).length + 1)).filter vx_no, w ∈ GW ∨ w ∈ NW := in_GN (by decide +kernel)
theorem ex4_a : ∀ w ∈ (Bundle.throwableAtoms ++ Bundle.throwableSAtoms ++ Bundle.chainSAtoms (exN 4) ["java/lang/RuntimeException", "java/lang/Exception"]).filter vx_no, w ∈ GW ∨ w ∈ NW := in_GN (by decide +kernel)
theorem ex4_b : ∀ w ∈ ((Bundle.ownAtoms "" 0 (exN 4) ["java/lang/RuntimeException", "java/lang/Exception"]).drop ((Bundle.throwableAtoms ++ Bundle.throwableSAtoms ++ Bundle.chainSAtoms (exN 4) ["java/lang/RuntimeException", "java/lang/Exception"]).length + 1)).filter vx_no, w ∈ GW ∨ w ∈ NW := in_GN (by decide +kernel)
theorem ex1 : exOkX 1 ["java/lang/RuntimeException", "java/lang/Exception"] := by
  refine ⟨by decide +kernel, by decide +kernel, rfl, gw_1_24, fun own ic w hw => ?_⟩
  have h1 := (List.mem_filter.mp hw)
  obtain ⟨h2, h3⟩ := h1
  unfold zx_own at h2
  rcases List.mem_append.mp h2 with h2 | h2
  · exact Or.inr (ex1_a w (List.mem_filter.mpr ⟨h2, h3⟩))
  · rcases List.mem_cons.mp h2 with h2 | h2
    · exact Or.inl h2
    · exact Or.inr (ex1_b w (List.mem_filter.mpr ⟨h2, h3⟩))


theorem ex2 : exOk 2 ["java/lang/RuntimeException", "java/lang/Exception"] := by
  refine ⟨by decide +kernel, by decide +kernel, rfl, gw_1_28, fun own ic w hw => ?_⟩
  have h1 := (List.mem_filter.mp hw)
  obtain ⟨h2, h3⟩ := h1
  unfold Bundle.ownAtoms at h2
  rcases List.mem_append.mp h2 with h2 | h2
  · exact Or.inr (ex2_a w (List.mem_filter.mpr ⟨h2, h3⟩))
  · rcases List.mem_cons.mp h2 with h2 | h2
    · exact Or.inl h2
    · exact Or.inr (ex2_b w (List.mem_filter.mpr ⟨h2, h3⟩))

theorem ex3 : exOk 3 ["java/lang/RuntimeException", "java/lang/Exception"] := by
  refine ⟨by decide +kernel, by decide +kernel, rfl, gw_1_16, fun own ic w hw => ?_⟩
  have h1 := (List.mem_filter.mp hw)
  obtain ⟨h2, h3⟩ := h1
  unfold Bundle.ownAtoms at h2
  rcases List.mem_append.mp h2 with h2 | h2
  · exact Or.inr (ex3_a w (List.mem_filter.mpr ⟨h2, h3⟩))
  · rcases List.mem_cons.mp h2 with h2 | h2
    · exact Or.inl h2
    · exact Or.inr (ex3_b w (List.mem_filter.mpr ⟨h2, h3⟩))

theorem ex4 : exOk 4 ["java/lang/RuntimeException", "java/lang/Exception"] := by
  refine ⟨by decide +kernel, by decide +kernel, rfl, gw_1_27, fun own ic w hw => ?_⟩
  have h1 := (List.mem_filter.mp hw)
  obtain ⟨h2, h3⟩ := h1
  unfold Bundle.ownAtoms at h2
  rcases List.mem_append.mp h2 with h2 | h2
  · exact Or.inr (ex4_a w (List.mem_filter.mpr ⟨h2, h3⟩))
  · rcases List.mem_cons.mp h2 with h2 | h2
    · exact Or.inl h2
    · exact Or.inr (ex4_b w (List.mem_filter.mpr ⟨h2, h3⟩))

