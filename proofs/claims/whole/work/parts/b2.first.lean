/-! SEMANTICS: the first memory -/
def bgT (r k : Nat) : Int32 := if k = 1 then 64 else if k = 2 then 16 else if 1220 ≤ k ∧ k < 1220 + 512 * r ∧ (k - 1220) % 512 = 0 then -1 else 0
theorem bg_ok {N v0 : Nat} {M : Mem} (hN : 3269 ≤ N) : Yo (fX11_begins N v0 M) (fun x => smF [v0] M x ∧ ∀ k, k < 3268 → rI x v0 k = bgT 4 k) := by
  unfold fX11_begins
  refine yo_f2 (F := fX11_begins_l2 N v0) 3268 (fun j v M' => v = nI j ∧ smF [v0] M M' ∧ ∀ k, k < j → rI M' v0 k = 0) ?_ N 0 _ _ (by omega) (by omega) ⟨rfl, smF.refl, fun k hk => absurd hk (Nat.not_lt_zero k)⟩
  intro n j v M' hj ⟨hv, hF, hz⟩ ih
  subst hv
  show Yo (fX11_begins_l2_s N v0 (fX11_begins_l2 N v0 n) (nI j) M') _
  unfold fX11_begins_l2_s
  rcases Nat.lt_or_ge j 3268 with hlt | hge
  · rw [if_neg (show ¬ (3268 : Int32) ≤ nI j from nI_ge (b := 3268) hlt (by decide)), if_pos (inB_nI hlt (by decide)), nI_1, nI_clamp (by omega)]
    refine ih _ _ hlt ⟨rfl, hF.pI_ (by simp) _ _, fun k hk => ?_⟩
    rw [rI_wI]
    by_cases q : k = j
    · rw [if_pos ⟨rfl, q⟩]
    · rw [if_neg (fun z => q z.2)]; exact hz k (by omega)
  · have e : j = 3268 := by omega
    subst e
    rw [if_pos (show (3268 : Int32) ≤ nI 3268 by decide), if_pos (by decide), if_pos (by decide)]
    refine yo_f2 (F := fX11_begins_l31 N v0) 4 (fun r v M2 => v = nI r ∧ smF [v0] M M2 ∧ ∀ k, k < 3268 → rI M2 v0 k = bgT r k) ?_ N 0 _ _ (by omega) (by omega) ⟨rfl, (hF.pI_ (by simp) _ _).pI_ (by simp) _ _, fun k hk => ?_⟩
    · intro n2 r v M2 hr ⟨hv, hF2, hT⟩ ih2
      subst hv
      show Yo (fX11_begins_l31_s N v0 (fX11_begins_l31 N v0 n2) (nI r) M2) _
      unfold fX11_begins_l31_s
      rcases Nat.lt_or_ge r 4 with hlt | hge
      · have e : (1220 : Int32) + (512 : Int32) * nI r + (0 : Int32) = nI (1220 + 512 * r) := by
          rw [li_1220, li_512, pk_mul, nI_add]
          exact Int32.add_zero _
        rw [if_neg (show ¬ (4 : Int32) ≤ nI r from nI_ge (b := 4) hlt (by decide)), e, if_pos (inB_nI (by omega) (by decide)), nI_1, nI_clamp (by omega)]
        refine ih2 _ _ hlt ⟨rfl, hF2.pI_ (by simp) _ _, fun k hk => ?_⟩
        rw [rI_wI]
        by_cases q : k = 1220 + 512 * r
        · rw [if_pos ⟨rfl, q⟩]
          unfold bgT
          rw [if_neg (by omega), if_neg (by omega), if_pos (by omega)]
        · rw [if_neg (fun z => q z.2), hT k hk]
          unfold bgT
          by_cases q1 : k = 1
          · rw [if_pos q1, if_pos q1]
          · rw [if_neg q1, if_neg q1]
            by_cases q2 : k = 2
            · rw [if_pos q2, if_pos q2]
            · rw [if_neg q2, if_neg q2]
              by_cases q3 : 1220 ≤ k ∧ k < 1220 + 512 * r ∧ (k - 1220) % 512 = 0
              · rw [if_pos q3, if_pos (by omega)]
              · rw [if_neg q3, if_neg (by omega)]
      · have e : r = 4 := by omega
        subst e
        rw [if_pos (show (4 : Int32) ≤ nI 4 by decide), yo_s]
        exact ⟨hF2, hT⟩
    · rw [rI_wI, rI_wI]
      show (if v0 = v0 ∧ k = 2 then (16 : Int32) else if v0 = v0 ∧ k = 1 then 64 else rI M' v0 k) = bgT 0 k
      unfold bgT
      by_cases q1 : k = 1
      · rw [if_neg (by omega), if_pos ⟨rfl, q1⟩, if_pos q1]
      · by_cases q2 : k = 2
        · rw [if_pos ⟨rfl, q2⟩, if_neg q1, if_pos q2]
        · rw [if_neg (fun z => q2 z.2), if_neg (fun z => q1 z.2), if_neg q1, if_neg q2, if_neg (by omega)]
          exact hz k hk
theorem mA_lo (A B : Mem) {i : Nat} (h0 : i ≠ 0) (h : i < 26) : mAll (mmX10 A) (mmX11 B) i = A i := by
  unfold mAll mmX10
  rw [if_pos (by omega), if_neg h0, if_pos h]
theorem mA_mid (A B : Mem) {i : Nat} (h0 : 26 ≤ i) (h : i < 140) : mAll (mmX10 A) (mmX11 B) i = zq := by
  unfold mAll mmX10
  rw [if_pos h, if_neg (by omega), if_neg (by omega)]
theorem mA_hi (A B : Mem) {i : Nat} (h0 : 141 ≤ i) (h : i < 165) : mAll (mmX10 A) (mmX11 B) i = B (i - 140) := by
  unfold mAll mmX11
  rw [if_neg (by omega), if_pos h, if_neg (by omega)]
theorem mA_0 (A B : Mem) (k : Nat) : rI (mAll (mmX10 A) (mmX11 B)) 0 k = if k = 1 then (-1) else 0 := rfl
theorem mA_140 (A B : Mem) (k : Nat) : rI (mAll (mmX10 A) (mmX11 B)) 140 k = if k = 17 then (-1) else 0 := rfl
theorem clear_is {M1 : Mem} (h : fX6_clear 2 zM = some M1) : (∀ k, k < 8 → rI M1 2 k = if k = 1 then 64 else if k = 2 then 16 else 0) ∧ ∀ a, a ≠ 2 → M1 a = zM a := by
  unfold fX6_clear at h
  cases h
  refine ⟨fun k hk => ?_, fun a ha => ?_⟩
  · rw [rI_wI, rI_wI, rI_wI, rI_wI, rI_wI, rI_wI, rI_wI, rI_wI]
    match k, hk with
    | 0, _ => rfl
    | 1, _ => rfl
    | 2, _ => rfl
    | 3, _ => rfl
    | 4, _ => rfl
    | 5, _ => rfl
    | 6, _ => rfl
    | 7, _ => rfl
  · exact ((((((((smF.refl (S := [2])).pI_ (by simp) _ _).pI_ (by simp) _ _).pI_ (by simp) _ _).pI_ (by simp) _ _).pI_ (by simp) _ _).pI_ (by simp) _ _).pI_ (by simp) _ _).pI_ (by simp) _ _ a (by simpa using ha)
theorem cR0_first {M1 : Mem} {T : Nat → Int32} (hT : ∀ k, k < 20 → T k = bgT 4 k) (h : fX6_clear 2 zM = some M1) : cR0 M1 2 T 64 16 0 := by
  obtain ⟨c, _⟩ := clear_is h
  have t : ∀ k, k < 20 → k ≠ 1 → k ≠ 2 → T k = 0 := fun k hk h1 h2 => by
    rw [hT k hk]
    unfold bgT
    rw [if_neg h1, if_neg h2, if_neg (by omega)]
  have t1 : T 1 = nI 64 := hT 1 (by omega)
  have t2 : T 2 = nI 16 := hT 2 (by omega)
  refine ⟨⟨by omega, by omega, t1, by omega, by omega, t2, by omega, t 3 (by omega) (by omega) (by omega), fun w hw => absurd hw (Nat.not_lt_zero w), Or.inl ?_⟩, ?_, c 1 (by omega), c 2 (by omega), c 3 (by omega), fun w hw => absurd hw (Nat.not_lt_zero w), ⟨?_, ?_, fun k _ h2 => ?_⟩, fun w hw => absurd hw (Nat.not_lt_zero w)⟩
  · rw [t 16 (by omega) (by omega) (by omega), t 17 (by omega) (by omega) (by omega)]
  · rw [t 0 (by omega) (by omega) (by omega)]; exact c 0 (by omega)
  · rw [t 16 (by omega) (by omega) (by omega)]; exact c 5 (by omega)
  · rw [t 17 (by omega) (by omega) (by omega)]; exact c 6 (by omega)
  · unfold tn at h2
    rw [t 17 (by omega) (by omega) (by omega)] at h2
    exact absurd h2 (Nat.not_lt_zero k)
theorem rel_first {N : Nat} {M1 M2 M3 : Mem} (hN : 4000 ≤ N) (h1 : fX6_clear 2 zM = some M1) (h2 : fX6_fillTables N 2 M1 = some M2) (h3 : fX11_begins N 1 mX11 = some M3) : Rel (mAll (mmX10 M2) (mmX11 M3)) := by
  obtain ⟨x, hx, hF3, hT⟩ := bg_ok (N := N) (v0 := 1) (M := mX11) (by omega)
  rw [h3] at hx
  cases hx
  have hc := cR0_first (T := (M3 1).1) (fun k hk => hT k (by omega)) h1
  obtain ⟨y, hy, hr, hF2⟩ := c_fill (N := N) (by omega) hc
  rw [h2] at hy
  cases hy
  have e141 : mAll (mmX10 M2) (mmX11 M3) 141 = M3 1 := mA_hi M2 M3 (i := 141) (by omega) (by omega)
  have zz : ∀ a, 9 ≤ a → a < 140 → mAll (mmX10 M2) (mmX11 M3) a = zq := fun a ha hb => by
    rcases Nat.lt_or_ge a 26 with hlt | hge
    · rw [mA_lo M2 M3 (by omega) hlt, hF2 a (by simp; omega), (clear_is h1).2 a (by omega)]
      rfl
    · exact mA_mid M2 M3 hge hb
  refine ⟨⟨64, 16, 0, ?_⟩, fun i hi => ?_, fun t ht => ?_, ⟨0, by omega, ?_, ?_, fun j hj => absurd hj (Nat.not_lt_zero j)⟩, ?_⟩
  · rw [e141]
    refine ⟨hr.moved (fun a ha hb => mA_lo M2 M3 (by omega) (by omega)), fun r hr => Or.inl ⟨?_, ?_⟩⟩
    · show rI _ (1 + 9 + 4 * r) 0 = 0
      unfold rI
      rw [zz _ (by omega) (by omega)]
      rfl
    · show rI M3 1 (1220 + 512 * r + 0) = -1
      rw [hT _ (by omega)]
      unfold bgT
      rw [if_neg (by omega), if_neg (by omega), if_pos (by omega)]
  · refine Or.inl ⟨?_, ?_⟩
    · rw [mA_0, if_neg (by decide)]; exact bt_0 i
    · unfold rI
      rw [mA_hi M2 M3 (i := 145) (by omega) (by omega), hF3 5 (by simp)]
      rfl
  · refine Or.inl ⟨?_, ?_⟩
    · unfold rI
      rw [zz _ (by omega) (by omega)]
      rfl
    · unfold rI
      rw [mA_hi M2 M3 (i := 162) (by omega) (by omega), hF3 22 (by simp)]
      rfl
  · unfold rI
    rw [zz 111 (by omega) (by omega)]
    rfl
  · rw [mA_140]; rfl
  · unfold relA
    rw [mA_0, mA_0, mA_0, mA_0, mA_140, mA_140, mA_140, mA_140]
    exact ⟨rfl, rfl, rfl, rfl⟩
