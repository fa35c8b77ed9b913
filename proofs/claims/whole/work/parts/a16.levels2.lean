/-! SEMANTICS: cascade, the reference's levels -/
theorem bI_nar (b : Bool) : vp_nar FieldType.boolean (bI b) = if b = true then 1 else 0 := nar_b b
theorem bI_add (a : Nat) : ∀ b : Bool, nI a + bI b = nI (a + if b = true then 1 else 0)
  | true => by rw [if_pos rfl, show bI true = nI 1 from rfl, nI_add]
  | false => by rw [if_neg (by decide), show bI false = nI 0 from rfl, nI_add]
theorem r_levels {N : Nat} (hN : 700 ≤ N) {T : Nat → Int32} {r W g m kd sz0 mk ex ly u ms : Nat} {sz : Nat → Nat} {what : Int32} (hu : u < 4) (hms : ms ≤ 40) (hsz : ∀ i, i < ms → 1 ≤ sz i ∧ sz i ≤ 64) : ∀ (d n i tk wd : Nat) (M : Mem) (S A : Nat → Bool), d < n → i + d = ms → rX M T r W g m kd sz0 mk ex ly →
    rI M 163 u = nI ms → (∀ i, i < ms → (rJ M 164 (40 * u + i)).toInt32 = nI (sz i)) → rN M 156 W S → rN M 157 W A →
    Yo (fX11_cascade_l282 N 140 (nI u) what (nI mk) n (nI tk) (nI wd) (nI i) M) (fun x => x.1 = lvF T mk W sz what d i S A tk wd ∧ smF [147, 155, 156, 157, 158] M x.2) := by
  intro d
  induction d with
  | zero =>
    intro n i tk wd M S A hn hi hx e1 e2 hS hA
    obtain ⟨f, rfl⟩ : ∃ f, n = f + 1 := ⟨n - 1, by omega⟩
    show Yo (fX11_cascade_l282_s N 140 (nI u) what (nI mk) (fX11_cascade_l282 N 140 (nI u) what (nI mk) f) (nI tk) (nI wd) (nI i) M) _
    unfold fX11_cascade_l282_s
    rw [if_pos (inB_nI hu (by decide)), nI_clamp (by omega), show (140 + 23 : Nat) = 163 from rfl, e1, if_pos (nI_le (by omega) (by omega)), yo_s]
    exact ⟨rfl, smF.refl⟩
  | succ d ih =>
    intro n i tk wd M S A hn hi hx e1 e2 hS hA
    obtain ⟨f, rfl⟩ : ∃ f, n = f + 1 := ⟨n - 1, by omega⟩
    have hW : W ≤ 256 := hx.2.2.1.2.1
    have him : i < ms := by omega
    obtain ⟨s1, s2⟩ := hsz i him
    show Yo (fX11_cascade_l282_s N 140 (nI u) what (nI mk) (fX11_cascade_l282 N 140 (nI u) what (nI mk) f) (nI tk) (nI wd) (nI i) M) _
    unfold fX11_cascade_l282_s
    rw [if_pos (inB_nI hu (by decide)), nI_clamp (by omega), show (140 + 23 : Nat) = 163 from rfl, e1, if_neg (nI_ge him (by omega)), inTray_ok hu (by omega), Option.bind_some, e2 i him, nI_add]
    refine (r_layBits hN hx s1 s2 hS).bi (fun y hy => ?_)
    obtain ⟨y1, y2⟩ := hy
    rw [lvF_s]
    generalize hK : keepB T mk (sz i) W S A = K
    refine yo_f4 (F := fX11_cascade_l323 N (fX11_cascade_l282 N 140 (nI u) what (nI mk) f) 140 (nI u) what (nI mk) (nI (wd + sz i)) (nI i) (nI (sz i))) W (fun k a b v M2 => a = nI (tk + cnt S k) ∧ b = nI (cnt K k) ∧ v = nI k ∧ smF [147, 158] y M2 ∧ ∀ j, j < k → rI M2 158 j = (if K j = true then 1 else 0)) ?_ N 0 _ _ _ _ (by omega) (by omega) ⟨rfl, rfl, rfl, smF.refl, fun j hj => absurd hj (Nat.not_lt_zero j)⟩
    intro f2 k a b v M2 hk ⟨ha, hb, hv, g1, g2⟩ ih2
    subst ha hb hv
    show Yo (fX11_cascade_l323_s N (fX11_cascade_l282 N 140 (nI u) what (nI mk) f) 140 (nI u) what (nI mk) (nI (wd + sz i)) (nI i) (nI (sz i)) (fX11_cascade_l323 N (fX11_cascade_l282 N 140 (nI u) what (nI mk) f) 140 (nI u) what (nI mk) (nI (wd + sz i)) (nI i) (nI (sz i)) f2) (nI (tk + cnt S k)) (nI (cnt K k)) (nI k) M2) _
    unfold fX11_cascade_l323_s
    have hF : smF [147, 155, 158] M M2 := (y2.mono (by decide)).trans (g1.mono (by decide))
    have hx2 : rX M2 T r W g m kd sz0 mk ex ly := hx.mv (hF 141 (by decide))
    rw [if_pos (by decide), rworld hx2]
    rcases Nat.lt_or_ge k W with hlt | hge
    · have k256 : inB (nI k) 256 = true := inB_nI (by omega) (by decide)
      have e16 : rI M2 (140 + 16) k = (if S k = true then 1 else 0) := by rw [show (140 + 16 : Nat) = 156 from rfl, hF.I_ (by decide)]; exact hS k hlt
      rw [if_neg (nI_ge hlt (by omega)), if_pos k256, nI_clamp (by omega), e16]
      -- who takes is counted
      have hcs : cnt S (k + 1) = cnt S k + if S k = true then 1 else 0 := rfl
      have hgo : (if (if S k = true then (1 : Int32) else 0) = 0 then fX11_cascade_b351 N (fX11_cascade_l282 N 140 (nI u) what (nI mk) f) (fX11_cascade_l323 N (fX11_cascade_l282 N 140 (nI u) what (nI mk) f) 140 (nI u) what (nI mk) (nI (wd + sz i)) (nI i) (nI (sz i)) f2) 140 (nI u) what (nI mk) (nI (wd + sz i)) (nI i) (nI (sz i)) (nI (cnt K k)) (nI k) false (nI (tk + cnt S k)) M2 else fX11_cascade_b351 N (fX11_cascade_l282 N 140 (nI u) what (nI mk) f) (fX11_cascade_l323 N (fX11_cascade_l282 N 140 (nI u) what (nI mk) f) 140 (nI u) what (nI mk) (nI (wd + sz i)) (nI i) (nI (sz i)) f2) 140 (nI u) what (nI mk) (nI (wd + sz i)) (nI i) (nI (sz i)) (nI (cnt K k)) (nI k) true (nI (tk + cnt S k)) M2) =
          (if rI M2 157 k = 0 then fX11_cascade_b387 N (fX11_cascade_l282 N 140 (nI u) what (nI mk) f) (fX11_cascade_l323 N (fX11_cascade_l282 N 140 (nI u) what (nI mk) f) 140 (nI u) what (nI mk) (nI (wd + sz i)) (nI i) (nI (sz i)) f2) 140 (nI u) what (nI mk) (nI (tk + cnt S (k + 1))) (nI (wd + sz i)) (nI i) (nI (sz i)) (nI (cnt K k)) (nI k) (nI k) 158 M2 else (fX11_isSaid N 140 (nI (sz i)) (nI mk) (nI k) M2).bind fun qj4 => if qj4.1 = true then fX11_cascade_b388 N (fX11_cascade_l282 N 140 (nI u) what (nI mk) f) (fX11_cascade_l323 N (fX11_cascade_l282 N 140 (nI u) what (nI mk) f) 140 (nI u) what (nI mk) (nI (wd + sz i)) (nI i) (nI (sz i)) f2) 140 (nI u) what (nI mk) (nI (tk + cnt S (k + 1))) (nI (wd + sz i)) (nI i) (nI (sz i)) (nI (cnt K k)) (nI k) true (nI k) 158 qj4.2 else fX11_cascade_b387 N (fX11_cascade_l282 N 140 (nI u) what (nI mk) f) (fX11_cascade_l323 N (fX11_cascade_l282 N 140 (nI u) what (nI mk) f) 140 (nI u) what (nI mk) (nI (wd + sz i)) (nI i) (nI (sz i)) f2) 140 (nI u) what (nI mk) (nI (tk + cnt S (k + 1))) (nI (wd + sz i)) (nI i) (nI (sz i)) (nI (cnt K k)) (nI k) (nI k) 158 qj4.2) := by
        unfold fX11_cascade_b351
        have hval : nI (tk + cnt S k) + bI (S k) = nI (tk + cnt S (k + 1)) := by rw [hcs, ← Nat.add_assoc]; exact bI_add _ _
        rw [if_pos k256, nI_clamp (by omega)]
        cases e : S k with
        | true => rw [e] at hval; rw [if_neg (show ¬ ((if true = true then (1 : Int32) else 0) = 0) by decide), if_pos k256, hval]
        | false => rw [e] at hval; rw [if_pos (show (if false = true then (1 : Int32) else 0) = 0 by decide), hval]
      rw [hgo]
      -- the last step
      have last : ∀ (v : Bool) (M3 : Mem), smF [147] M2 M3 → K k = v → Yo (fX11_cascade_b388 N (fX11_cascade_l282 N 140 (nI u) what (nI mk) f) (fX11_cascade_l323 N (fX11_cascade_l282 N 140 (nI u) what (nI mk) f) 140 (nI u) what (nI mk) (nI (wd + sz i)) (nI i) (nI (sz i)) f2) 140 (nI u) what (nI mk) (nI (tk + cnt S (k + 1))) (nI (wd + sz i)) (nI i) (nI (sz i)) (nI (cnt K k)) (nI k) v (nI k) 158 M3) (fun x => x.1 = (if cnt K W = 0 then (if what = 0 then nI (i + 1) else if what = 1 then nI (tk + cnt S W) else nI (wd + sz i)) else lvF T mk W sz what d (i + 1) K S (tk + cnt S W) (wd + sz i)) ∧ smF [147, 155, 156, 157, 158] M x.2) := by
        intro v M3 hF3 hv
        unfold fX11_cascade_b388
        have e8 : rI (wI M3 158 k (if v = true then 1 else 0)) (140 + 18) k = (if v = true then 1 else 0) := by rw [show (140 + 18 : Nat) = 158 from rfl, rI_wI, if_pos ⟨rfl, rfl⟩]
        rw [if_pos k256, if_pos k256, nI_clamp (by omega), bI_nar, e8]
        have hck : cnt K (k + 1) = cnt K k + if K k = true then 1 else 0 := rfl
        have hgo2 : (if (if v = true then (1 : Int32) else 0) = 0 then fX11_cascade_b406 N (fX11_cascade_l282 N 140 (nI u) what (nI mk) f) (fX11_cascade_l323 N (fX11_cascade_l282 N 140 (nI u) what (nI mk) f) 140 (nI u) what (nI mk) (nI (wd + sz i)) (nI i) (nI (sz i)) f2) 140 (nI u) what (nI mk) (nI (tk + cnt S (k + 1))) (nI (wd + sz i)) (nI i) (nI (sz i)) (nI k) false (nI (cnt K k)) (wI M3 158 k (if v = true then 1 else 0)) else fX11_cascade_b406 N (fX11_cascade_l282 N 140 (nI u) what (nI mk) f) (fX11_cascade_l323 N (fX11_cascade_l282 N 140 (nI u) what (nI mk) f) 140 (nI u) what (nI mk) (nI (wd + sz i)) (nI i) (nI (sz i)) f2) 140 (nI u) what (nI mk) (nI (tk + cnt S (k + 1))) (nI (wd + sz i)) (nI i) (nI (sz i)) (nI k) true (nI (cnt K k)) (wI M3 158 k (if v = true then 1 else 0))) = fX11_cascade_l323 N (fX11_cascade_l282 N 140 (nI u) what (nI mk) f) 140 (nI u) what (nI mk) (nI (wd + sz i)) (nI i) (nI (sz i)) f2 (nI (tk + cnt S (k + 1))) (nI (cnt K (k + 1))) (nI (k + 1)) (wI M3 158 k (if v = true then 1 else 0)) := by
          unfold fX11_cascade_b406
          have hval : nI (cnt K k) + bI v = nI (cnt K (k + 1)) := by rw [hck, hv]; exact bI_add _ _
          rw [nI_1]
          cases v with
          | true => rw [if_neg (show ¬ ((if true = true then (1 : Int32) else 0) = 0) by decide), hval]
          | false => rw [if_pos (show (if false = true then (1 : Int32) else 0) = 0 by decide), hval]
        rw [hgo2]
        refine ih2 _ _ _ _ hlt ⟨rfl, rfl, rfl, (g1.trans (hF3.mono (by decide))).pI_ (by decide) _ _, fun j hj => ?_⟩
        rw [rI_wI]
        by_cases q : j = k
        · rw [if_pos ⟨rfl, q⟩, q, hv]
        · rw [if_neg (fun z => q z.2), hF3.I_ (by decide)]; exact g2 j (by omega)
      have eA : rI M2 157 k = (if A k = true then 1 else 0) := by rw [hF.I_ (by decide)]; exact hA k hlt
      have hKk : K k = bo (A k = true ∧ ∀ w, w < mk → seeB T mk (sz i) W S (plT T w (nI k) (sz i)) = true) := by rw [← hK]; rfl
      rw [eA]
      unfold fX11_cascade_b387
      cases e : A k with
      | false =>
        rw [if_pos (by decide)]
        exact last false M2 smF.refl (by rw [hKk, bo_f (fun z => by rw [e] at z; cases z.1)])
      | true =>
        rw [if_neg (by decide)]
        refine (r_isSaid (n := k) (sz := sz i) hN hx2 s1 s2 (V := fun q => seeB T mk (sz i) W S q) (fun q hq => by rw [g1.I_ (by decide)]; exact y1 q hq)).bi (fun x hx4 => ?_)
        by_cases q : ∀ w, w < mk → seeB T mk (sz i) W S (plT T w (nI k) (sz i)) = true
        · rw [hx4.1, bo_t q, if_pos rfl]
          exact last true x.2 hx4.2 (by rw [hKk, bo_t ⟨e, q⟩])
        · rw [hx4.1, bo_f q, if_neg (by decide)]
          exact last false x.2 hx4.2 (by rw [hKk, bo_f (fun z => q z.2)])
    · have ek : k = W := by omega
      subst ek
      rw [if_pos (nI_le hge (by omega))]
      have hkc := cnt_le K k
      by_cases h0 : cnt K k = 0
      · rw [h0, if_pos (show nI 0 = (0 : Int32) from rfl), if_pos rfl, nI_1]
        refine yo_i (fun z => ?_) (fun z => ?_)
        · rw [if_pos z, yo_s]; exact ⟨rfl, hF.mono (by decide)⟩
        · rw [if_neg z]
          refine yo_i (fun z2 => ?_) (fun z2 => ?_)
          · rw [if_pos z2, yo_s]; exact ⟨rfl, hF.mono (by decide)⟩
          · rw [if_neg z2, yo_s]; exact ⟨rfl, hF.mono (by decide)⟩
      · rw [if_neg (nI_ne0 (by omega) (by omega)), if_neg h0]
        refine yo_f2 (F := fX11_cascade_l449 N (fX11_cascade_l282 N 140 (nI u) what (nI mk) f) 140 (nI u) what (nI mk) (nI (tk + cnt S k)) (nI (wd + sz i)) (nI i)) k (fun j v M3 => v = nI j ∧ smF [156, 157] M2 M3 ∧ (∀ n, n < k → rI M3 156 n = (if n < j then (if K n = true then 1 else 0) else (if S n = true then 1 else 0))) ∧ ∀ n, n < j → rI M3 157 n = (if S n = true then 1 else 0)) ?_ N 0 _ _ (by omega) (by omega) ⟨rfl, smF.refl, fun n hn => ?_, fun n hn => absurd hn (Nat.not_lt_zero n)⟩
        · intro f3 j v M3 hj ⟨hv, j1, j2, j3⟩ ih3
          subst hv
          show Yo (fX11_cascade_l449_s N (fX11_cascade_l282 N 140 (nI u) what (nI mk) f) 140 (nI u) what (nI mk) (nI (tk + cnt S k)) (nI (wd + sz i)) (nI i) (fX11_cascade_l449 N (fX11_cascade_l282 N 140 (nI u) what (nI mk) f) 140 (nI u) what (nI mk) (nI (tk + cnt S k)) (nI (wd + sz i)) (nI i) f3) (nI j) M3) _
          unfold fX11_cascade_l449_s
          have hx3 : rX M3 T r k g m kd sz0 mk ex ly := hx2.mv (j1 141 (by decide))
          have hF3 : smF [147, 155, 156, 157, 158] M M3 := (hF.mono (by decide)).trans (j1.mono (by decide))
          rw [if_pos (by decide), rworld hx3]
          rcases Nat.lt_or_ge j k with hlt | hge2
          · have k256 : inB (nI j) 256 = true := inB_nI (by omega) (by decide)
            have e16 : rI M3 156 j = (if S j = true then 1 else 0) := by rw [j2 j hlt, if_neg (by omega)]
            have e18 : ∀ c : Int32, rI (wI M3 157 j c) 158 j = (if K j = true then 1 else 0) := fun c => by rw [rI_wI, if_neg (by omega), j1.I_ (by decide)]; exact g2 j hlt
            have nar1 : ∀ b : Bool, vp_nar FieldType.boolean (if b = true then (1 : Int32) else 0) = (if b = true then 1 else 0) := by decide
            rw [if_neg (nI_ge hlt (by omega)), if_pos k256, if_pos k256, if_pos k256, if_pos k256, nI_clamp (by omega), show (140 + 16 : Nat) = 156 from rfl, show (140 + 17 : Nat) = 157 from rfl, show (140 + 18 : Nat) = 158 from rfl, e16, e18, nar1, nar1, nI_1]
            refine ih3 _ _ hlt ⟨rfl, (j1.pI_ (by decide) _ _).pI_ (by decide) _ _, fun n hn => ?_, fun n hn => ?_⟩
            · rw [rI_wI]
              by_cases q : n = j
              · rw [if_pos ⟨rfl, q⟩, if_pos (show n < j + 1 by omega), q]
              · rw [if_neg (fun z => q z.2), rI_wI, if_neg (by omega), j2 n hn]
                by_cases q2 : n < j
                · rw [if_pos q2, if_pos (show n < j + 1 by omega)]
                · rw [if_neg q2, if_neg (show ¬ n < j + 1 by omega)]
            · rw [rI_wI, if_neg (by omega), rI_wI]
              by_cases q : n = j
              · rw [if_pos ⟨rfl, q⟩, q]
              · rw [if_neg (fun z => q z.2)]; exact j3 n (by omega)
          · have ej : j = k := by omega
            subst ej
            rw [if_pos (nI_le hge2 (by omega)), nI_1]
            refine (ih f (i + 1) (tk + cnt S j) (wd + sz i) M3 K S (by omega) (by omega) hx3 (by rw [hF3.I_ (by decide)]; exact e1) (fun n hn => by rw [hF3.J_ (by decide)]; exact e2 n hn) (fun n hn => by rw [j2 n hn, if_pos hn]) (fun n hn => j3 n hn)).to (fun x hx4 => ⟨hx4.1, hF3.trans hx4.2⟩)
        · rw [if_neg (Nat.not_lt_zero n), hF.I_ (by decide)]
          exact hS n hn
