/-- whole_start, but for one sentence about functions: all calls of every script agree -/
theorem whole_open (N : Nat) (hN : 3269 ≤ N) (sem : ∀ (xs : Nat → Int32) (r : Nat) (M1 M2 M3 : Mem), r ≤ 512 → fX6_clear 2 zM = some M1 → fX6_fillTables N 2 M1 = some M2 → fX11_begins N 1 mX11 = some M3 → ∃ M4, fLaw N xs r 0 (mAll (mmX10 M2) (mmX11 M3)) = some M4)
    {p : Program} {e : Env} {s : State} {m : MethodId} {below : List Frame} {meth : Method} {c : Code} (l : Launch) (hflags : l.flags = flags0) {b L : Nat} {xs : Nat → Int32} (hL : L ≤ 3072) (C0 : lw_At p s m meth c b L xs) : W p l e room_1 s m #[Value.ref b] below meth c s.heap [] 0 0 (lw_Z below #[Value.ref b] s) (entryFrame m ([Value.ref b] : List Value).toArray 8) := by
  obtain ⟨M1, h1⟩ := clear_some
  obtain ⟨M2, h2⟩ := fillTables_some N 2 (by omega) (clear_first 2 zM M1 h1)
  obtain ⟨M3, h3⟩ := begins_some N 1 hN mX11
  obtain ⟨M4, h4⟩ := sem xs (L / 6) M1 M2 M3 (by omega) h1 h2 h3
  exact law_machine l hflags hL C0 N h1 h2 h3 h4
