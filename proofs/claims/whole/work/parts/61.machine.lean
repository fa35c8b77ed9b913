section LW9
/-- THE MACHINE IS LEFT BEHIND: if the functions say that all calls agree, the law answers true -/
theorem law_machine {p : Program} {e : Env} {s : State} {m : MethodId} {below : List Frame} {meth : Method} {c : Code} (l : Launch) (hflags : l.flags = flags0) {b L : Nat} {xs : Nat → Int32} (hL : L ≤ 3072) (C0 : lw_At p s m meth c b L xs) (N : Nat) {M1 M2 M3 M4 : Mem} (h1 : fX6_clear 2 zM = some M1) (h2 : fX6_fillTables N 2 M1 = some M2) (h3 : fX11_begins N 1 mX11 = some M3)
    (h4 : fLaw N xs (L / 6) 0 (mAll (mmX10 M2) (mmX11 M3)) = some M4) : W p l e room_1 s m #[Value.ref b] below meth c s.heap [] 0 0 (lw_Z below #[Value.ref b] s) (entryFrame m ([Value.ref b] : List Value).toArray 8) := by
  obtain ⟨hx, hc, hr, hml, hown, hts, hX, hbl, hlk, hgv⟩ := C0
  obtain ⟨D, cy, sa, sv, hKX⟩ := world_of hts hgv
  have hst : l.stackTraces = false := by
    unfold Launch.stackTraces
    rw [hflags]
    decide +kernel
  have C : kC p l s m #[Value.ref b] meth c D cy s.heap.size sa sv RL cL_law 8 := ⟨hx, hc, hml, hown, fun w hw => hts w (List.mem_filter.mp hw).1, hKX, hst, hlk⟩
  have CZ := kz_C C kd0_ok
  have hl6 : 6 * (L / 6) ≤ L := Nat.mul_div_le L 6
  have hl7 : L < 6 * (L / 6) + 6 := by omega
  have key := law_start (below := below) (e := e) (Q := lw_Z below #[Value.ref b] s) C rfl N h1 h2 h3 h4 (z_lawloop CZ ⟨hX, hbl, rfl, hL⟩ hr N (L / 6) 0 7000 _ (by omega) (by omega) (by omega))
  have hv : va_P D vwCl (wd s.heap.size [] 0) s.heap := fun k q h => by simp [wd] at h
  have h9 := key s.heap [] _ hv va_S.rf (lv_entry [.ref b] (n := 8) (by show 1 ≤ 8; decide))
  rw [lg_entry_eq]
  exact h9
end LW9
