/-! SEMANTICS: cascade, both levels -/
noncomputable def lvF (T : Nat → Int32) (mk W : Nat) (sz : Nat → Nat) (what : Int32) : Nat → Nat → (Nat → Bool) → (Nat → Bool) → Nat → Nat → Int32
  | 0, _, _, _, _, _ => -1
  | d + 1, i, S, A, tk, wd => if cnt (keepB T mk (sz i) W S A) W = 0 then (if what = 0 then nI (i + 1) else if what = 1 then nI (tk + cnt S W) else nI (wd + sz i)) else lvF T mk W sz what d (i + 1) (keepB T mk (sz i) W S A) S (tk + cnt S W) (wd + sz i)
theorem lvF_s (T : Nat → Int32) (mk W : Nat) (sz : Nat → Nat) (what : Int32) (d i : Nat) (S A : Nat → Bool) (tk wd : Nat) : lvF T mk W sz what (d + 1) i S A tk wd = if cnt (keepB T mk (sz i) W S A) W = 0 then (if what = 0 then nI (i + 1) else if what = 1 then nI (tk + cnt S W) else nI (wd + sz i)) else lvF T mk W sz what d (i + 1) (keepB T mk (sz i) W S A) S (tk + cnt S W) (wd + sz i) := rfl
theorem keepB_W {T : Nat → Int32} {mk sz W : Nat} {S A : Nat → Bool} (hA : ∀ n, W ≤ n → A n = false) : ∀ n, W ≤ n → keepB T mk sz W S A n = false := fun n hn => by
  unfold keepB
  rw [bo_f (fun z => by rw [hA n hn] at z; cases z.1)]
theorem cnt_W {S : Nat → Bool} {W : Nat} (hW : W ≤ 256) (hS : ∀ n, W ≤ n → S n = false) : cnt S 256 = cnt S W := by
  have := cnt_tail (p := S) (a := W) (n := 256 - W) (fun k h1 h2 => hS k h1)
  rw [show W + (256 - W) = 256 by omega] at this
  exact this
theorem c_levels {N : Nat} (hN : 700 ≤ N) {T : Nat → Int32} {r W g m kd sz0 mk ex ly u ms : Nat} {sz : Nat → Nat} (hu : u < 4) (hms : ms ≤ 40) (hsz : ∀ i, i < ms → 1 ≤ sz i ∧ sz i ≤ 64) : ∀ (d n i v5 v6 tk wd : Nat) (M : Mem) (S A : Nat → Bool), d < n → i + d = ms → (v5 = 136 ∧ v6 = 138 ∨ v5 = 138 ∧ v6 = 136) → cX M T r W g m kd sz0 mk ex ly →
    rI M (103 + 2 * u) 1 = nI ms → (∀ i, i < ms → (rJ M (104 + 2 * u) i).toInt32 = nI (sz i)) → cN M v5 S → cN M v6 A → (∀ n, W ≤ n → S n = false) → (∀ n, W ≤ n → A n = false) → rI M 135 0 = nI i → rI M 135 1 = nI tk → rI M 135 2 = nI wd →
    Yo (fX1_build_l46 N 135 (10 + 4 * r) 2 (103 + 2 * u) n v5 v6 (nI i) M) (fun x => (∀ what : Int32, (if x.1 = true then (if what = 0 then rI x.2 135 0 else if what = 1 then rI x.2 135 1 else rI x.2 135 2) else -1) = lvF T mk W sz what d i S A tk wd) ∧ smF [8, 135, 137, 139] M x.2) := by
  intro d
  induction d with
  | zero =>
    intro n i v5 v6 tk wd M S A hn hi hv hc e1 e2 hS hA hS0 hA0 f0 f1 f2
    obtain ⟨f, rfl⟩ : ∃ f, n = f + 1 := ⟨n - 1, by omega⟩
    show Yo (fX1_build_l46_s N 135 (10 + 4 * r) 2 (103 + 2 * u) (fX1_build_l46 N 135 (10 + 4 * r) 2 (103 + 2 * u) f) v5 v6 (nI i) M) _
    unfold fX1_build_l46_s
    rw [e1, if_pos (nI_le (by omega) (by omega)), yo_s]
    exact ⟨fun what => by rw [if_neg (show ¬ (false = true) by decide)]; rfl, smF.refl⟩
  | succ d ih =>
    intro n i v5 v6 tk wd M S A hn hi hv hc e1 e2 hS hA hS0 hA0 f0 f1 f2
    obtain ⟨f, rfl⟩ : ∃ f, n = f + 1 := ⟨n - 1, by omega⟩
    have hr := hc.1
    have hW : W ≤ 256 := hc.W1.2.2
    have him : i < ms := by omega
    obtain ⟨s1, s2⟩ := hsz i him
    show Yo (fX1_build_l46_s N 135 (10 + 4 * r) 2 (103 + 2 * u) (fX1_build_l46 N 135 (10 + 4 * r) 2 (103 + 2 * u) f) v5 v6 (nI i) M) _
    unfold fX1_build_l46_s
    have hF1 : ∀ c : Int32, smF [135] M (wI M 135 0 c) := fun c => smF.refl.pI_ (by simp) _ _
    have hm1 : fX2_many N v5 (wI M 135 0 (nI (i + 1))) = some (nI (cnt S W)) := by
      rw [cmany_ok (p := S) hN (fun n hn => by rw [rJ_wI]; exact hS n hn), cnt_W hW hS0]
    have g1 : rI (wI M 135 0 (nI (i + 1))) 135 1 = nI tk := by rw [rI_wI, if_neg (by omega), f1]
    have g2 : rI (wI (wI M 135 0 (nI (i + 1))) 135 1 (nI (tk + cnt S W))) 135 2 = nI wd := by rw [rI_wI, if_neg (by omega), rI_wI, if_neg (by omega), f2]
    rw [e1, if_neg (nI_ge him (by omega)), num_ok (by omega), Option.bind_some, show 103 + 2 * u + 1 = 104 + 2 * u by omega, e2 i him, f0, nI_1, hm1, Option.bind_some, g1, nI_add, g2, nI_add]
    have hF2 : smF [135] M (wI (wI (wI M 135 0 (nI (i + 1))) 135 1 (nI (tk + cnt S W))) 135 2 (nI (wd + sz i))) := ((hF1 _).pI_ (by simp) _ _).pI_ (by simp) _ _
    have q0 : rI (wI (wI (wI M 135 0 (nI (i + 1))) 135 1 (nI (tk + cnt S W))) 135 2 (nI (wd + sz i))) 135 0 = nI (i + 1) := by rw [rI_wI, if_neg (by omega), rI_wI, if_neg (by omega), rI_wI, if_pos ⟨rfl, rfl⟩]
    have q1 : rI (wI (wI (wI M 135 0 (nI (i + 1))) 135 1 (nI (tk + cnt S W))) 135 2 (nI (wd + sz i))) 135 1 = nI (tk + cnt S W) := by rw [rI_wI, if_neg (by omega), rI_wI, if_pos ⟨rfl, rfl⟩]
    have q2 : rI (wI (wI (wI M 135 0 (nI (i + 1))) 135 1 (nI (tk + cnt S W))) 135 2 (nI (wd + sz i))) 135 2 = nI (wd + sz i) := by rw [rI_wI, if_pos ⟨rfl, rfl⟩]
    generalize wI (wI (wI M 135 0 (nI (i + 1))) 135 1 (nI (tk + cnt S W))) 135 2 (nI (wd + sz i)) = M1 at *
    have hc1 : cX M1 T r W g m kd sz0 mk ex ly := hc.mv (fun a h1 h2 => hF2 a (by simp; omega))
    rw [hc1.flds.2.2.1]
    refine (c_keep hN hc1.2.1 hc.2.2.2.2.1.2.2.2.2.2.1 s1 s2 (show 10 ≤ v5 by omega) (show 10 ≤ v6 by omega) (by omega) (hS.mv (hF2 _ (by simp; omega))) (hA.mv (hF2 _ (by simp; omega))) hA0).bi (fun y hy => ?_)
    obtain ⟨y1, y2⟩ := hy
    have hF3 : smF [8, 135, 137, 139] M y := (hF2.mono (by simp)).trans (y1.mono (fun a ha => by simp at ha ⊢; omega))
    have o135 : ∀ k, rI y 135 k = rI M1 135 k := fun k => y1.I_ (by simp; omega) k
    rw [cmany_ok hN y2, Option.bind_some, cnt_W hW (keepB_W hA0)]
    by_cases h0 : cnt (keepB T mk (sz i) W S A) W = 0
    · rw [h0, if_pos (show nI 0 = (0 : Int32) from rfl), yo_s]
      refine ⟨fun what => ?_, hF3⟩
      rw [lvF_s, if_pos h0, if_pos rfl, o135, o135, o135, q0, q1, q2]
    · have := cnt_le (keepB T mk (sz i) W S A) W
      rw [if_neg (nI_ne0 (by omega) (by omega))]
      refine (ih f (i + 1) v6 v5 (tk + cnt S W) (wd + sz i) y (keepB T mk (sz i) W S A) S (by omega) (by omega) (by omega) (hc.mv (fun a h1 h2 => hF3 a (by simp; omega))) (by rw [hF3.I_ (by simp; omega)]; exact e1) (fun j hj => by rw [hF3.J_ (by simp; omega)]; exact e2 j hj) y2 (hS.mv (by rw [y1 _ (by simp; omega), hF2 _ (by simp; omega)])) (keepB_W hA0) hS0 (by rw [o135, q0]) (by rw [o135, q1]) (by rw [o135, q2])).to (fun x hx => ?_)
      refine ⟨fun what => ?_, hF3.trans hx.2⟩
      rw [lvF_s, if_neg h0]
      exact hx.1 what
/-- the reference's sets -/
def rN (M : Mem) (b W : Nat) (S : Nat → Bool) : Prop := ∀ n, n < W → rI M b n = (if S n = true then 1 else 0)
theorem rN.mv {M M' : Mem} {b W : Nat} {S : Nat → Bool} (h : rN M b W S) (e : M' b = M b) : rN M' b W S := fun n hn => by rw [eqs_rI e]; exact h n hn
theorem rN_set {M : Mem} {b W n : Nat} {S : Nat → Bool} {v : Bool} (h : rN M b W S) : rN (wI M b n (if v = true then 1 else 0)) b W (uv S n v) := fun i hi => by
  rw [rI_wI]
  by_cases q : i = n
  · rw [if_pos ⟨rfl, q⟩, q, uv_eq]
  · rw [if_neg (fun z => q z.2), uv_ne q]
    exact h i hi
theorem nar_b : ∀ v : Bool, vp_nar FieldType.boolean (bI v) = if v = true then 1 else 0 := by decide
theorem rplace {N : Nat} {M : Mem} {T : Nat → Int32} {r W g m kd sz0 mk ex ly w sz : Nat} {name : Int32} (hN : 700 ≤ N) (h : rX M T r W g m kd sz0 mk ex ly) (hw : w < m) (h1 : 1 ≤ sz) (h2 : sz ≤ 1000) :
    Yo (fX11_placeOf N 140 (nI w) name (nI sz) M) (fun x => x.1 = nI (plT T w name sz) ∧ smF [147] M x.2) := by
  have hseg : segT (M 141).1 w := by rw [h.2.1]; exact h.2.2.1.2.2.2.2.2.2.2.2.1 w hw
  refine (rv_place hN (show w ≤ 6 by have := h.2.2.1.2.2.2.2.2.2.1; omega) hseg h1 h2).to (fun x hx => ?_)
  rw [h.2.1] at hx
  exact hx
theorem rworld {M : Mem} {T : Nat → Int32} {r W g m kd sz mk ex ly : Nat} (h : rX M T r W g m kd sz mk ex ly) : rI M (140 + 1) (1 : Int32).toNatClampNeg = nI W := by rw [← h.2.2.1.2.2.1, ← h.2.1]; rfl
theorem r_layBits {N : Nat} (hN : 700 ≤ N) {M : Mem} {T : Nat → Int32} {r W g m kd sz0 mk ex ly sz : Nat} {S : Nat → Bool} (hx : rX M T r W g m kd sz0 mk ex ly) (h1 : 1 ≤ sz) (h2 : sz ≤ 64) (hS : rN M 156 W S) :
    Yo (fX11_layBits N 140 (nI sz) (nI mk) M) (fun x => (∀ q, q < 64 → rI x 155 q = (if seeB T mk sz W S q = true then 1 else 0)) ∧ smF [147, 155] M x) := by
  have hW : W ≤ 256 := hx.2.2.1.2.1
  have hm : mk ≤ m := hx.2.2.2.2.1.2.2.2.2.2.1
  have hm6 : m ≤ 6 := hx.2.2.1.2.2.2.2.2.2.1
  unfold fX11_layBits
  refine yo_f2 (F := fX11_layBits_l2 N 140 (nI sz) (nI mk)) 64 (fun k v M2 => v = nI k ∧ smF [155] M M2 ∧ ∀ q, q < k → rI M2 155 q = 0) ?_ N 0 _ _ (by omega) (by omega) ⟨rfl, smF.refl, fun q hq => absurd hq (Nat.not_lt_zero q)⟩
  intro f k v M2 hk ⟨hv, g1, g2⟩ ih
  subst hv
  show Yo (fX11_layBits_l2_s N 140 (nI sz) (nI mk) (fX11_layBits_l2 N 140 (nI sz) (nI mk) f) (nI k) M2) _
  unfold fX11_layBits_l2_s
  rcases Nat.lt_or_ge k 64 with hlt | hge
  · rw [if_neg (show ¬ (64 : Int32) ≤ nI k from nI_ge (b := 64) hlt (by decide)), if_pos (inB_nI hlt (by decide)), nI_clamp (by omega), nI_1]
    refine ih _ _ hlt ⟨rfl, g1.pI_ (by simp) _ _, fun q hq => ?_⟩
    rw [rI_wI]
    by_cases e : q = k
    · rw [if_pos ⟨rfl, e⟩]; rfl
    · rw [if_neg (fun z => e z.2)]; exact g2 q (by omega)
  · rw [if_pos (show (64 : Int32) ≤ nI k from nI_le (a := 64) hge (by omega))]
    refine yo_f2 (F := fX11_layBits_l23 N 140 (nI sz) (nI mk)) W (fun n v M3 => v = nI n ∧ smF [147, 155] M M3 ∧ ∀ q, q < 64 → rI M3 155 q = (if seeB T mk sz n S q = true then 1 else 0)) ?_ N 0 _ _ (by omega) (by omega) ⟨rfl, g1.mono (by simp), fun q hq => ?_⟩
    · intro f2 n v M3 hn ⟨hv, j1, j2⟩ ih2
      subst hv
      show Yo (fX11_layBits_l23_s N 140 (nI sz) (nI mk) (fX11_layBits_l23 N 140 (nI sz) (nI mk) f2) (nI n) M3) _
      unfold fX11_layBits_l23_s
      have hx3 : rX M3 T r W g m kd sz0 mk ex ly := hx.mv (j1 141 (by decide))
      rw [if_pos (by decide), rworld hx3]
      rcases Nat.lt_or_ge n W with hlt | hge2
      · rw [if_neg (nI_ge hlt (by omega))]
        cases e : S n with
        | false =>
          obtain ⟨N', rfl⟩ : ∃ N', N = N' + 1 := ⟨N - 1, by omega⟩
          have hgo : fX11_layBits_l36 (N' + 1) (fX11_layBits_l23 (N' + 1) 140 (nI sz) (nI mk) f2) 140 (nI sz) (nI mk) (nI n) (N' + 1) (0 : Int32) M3 = fX11_layBits_l23 (N' + 1) 140 (nI sz) (nI mk) f2 (nI (n + 1)) M3 := by
            show fX11_layBits_l36_s (N' + 1) (fX11_layBits_l23 (N' + 1) 140 (nI sz) (nI mk) f2) 140 (nI sz) (nI mk) (nI n) (fX11_layBits_l36 (N' + 1) (fX11_layBits_l23 (N' + 1) 140 (nI sz) (nI mk) f2) 140 (nI sz) (nI mk) (nI n) N') (0 : Int32) M3 = _
            unfold fX11_layBits_l36_s fX11_layBits_b71
            have en : rI M3 (140 + 16) n = 0 := by rw [show (140 + 16 : Nat) = 156 from rfl, j1.I_ (by decide), hS n hlt, e]; rfl
            by_cases hm0 : nI mk ≤ (0 : Int32)
            · rw [if_pos hm0, nI_1]
            · rw [if_neg hm0, if_pos (inB_nI (show n < 256 by omega) (by decide)), nI_clamp (by omega), en, if_pos rfl, nI_1]
          rw [hgo]
          refine ih2 _ _ hlt ⟨rfl, j1, fun q hq => ?_⟩
          rw [j2 q hq, seeB_s, e]
          simp
        | true =>
          refine yo_f2 (F := fX11_layBits_l36 N (fX11_layBits_l23 N 140 (nI sz) (nI mk) f2) 140 (nI sz) (nI mk) (nI n)) mk (fun w v M4 => v = nI w ∧ smF [147, 155] M M4 ∧ ∀ q, q < 64 → rI M4 155 q = (if (seeB T mk sz n S q || plcB T w sz n q) = true then 1 else 0)) ?_ N 0 _ _ (by omega) (by omega) ⟨rfl, j1, fun q hq => ?_⟩
          · intro f3 w v M4 hw ⟨hv, i1, i2⟩ ih3
            subst hv
            show Yo (fX11_layBits_l36_s N (fX11_layBits_l23 N 140 (nI sz) (nI mk) f2) 140 (nI sz) (nI mk) (nI n) (fX11_layBits_l36 N (fX11_layBits_l23 N 140 (nI sz) (nI mk) f2) 140 (nI sz) (nI mk) (nI n) f3) (nI w) M4) _
            unfold fX11_layBits_l36_s fX11_layBits_b71
            rcases Nat.lt_or_ge w mk with hwl | hwg
            · have en : rI M4 (140 + 16) n = 1 := by rw [show (140 + 16 : Nat) = 156 from rfl, i1.I_ (by decide), hS n hlt, e]; rfl
              rw [if_neg (nI_ge hwl (by omega)), if_pos (inB_nI (show n < 256 by omega) (by decide)), nI_clamp (by omega), en, if_neg (by decide)]
              refine (rplace (w := w) (name := nI n) (sz := sz) hN (hx.mv (i1 141 (by decide))) (by omega) h1 (by omega)).bi (fun x hx4 => ?_)
              have hpl := plT_lt (T := T) (w := w) (name := nI n) h1
              rw [hx4.1, if_pos (inB_nI (by omega) (by decide)), nI_clamp (by omega), nI_1, show (140 + 15 : Nat) = 155 from rfl]
              refine ih3 _ _ hwl ⟨rfl, (i1.trans (hx4.2.mono (by decide))).pI_ (by decide) _ _, fun q hq => ?_⟩
              rw [rI_wI, hx4.2.I_ (by decide), i2 q hq]
              have hpc : plcB T (w + 1) sz n q = (plcB T w sz n q || decide (q = plT T w (nI n) sz)) := by
                unfold plcB
                by_cases q1 : ∃ w', w' < w ∧ plT T w' (nI n) sz = q
                · obtain ⟨w', hw', hw2⟩ := q1
                  rw [bo_t (show ∃ w', w' < w ∧ plT T w' (nI n) sz = q from ⟨w', hw', hw2⟩), bo_t (show ∃ w', w' < w + 1 ∧ plT T w' (nI n) sz = q from ⟨w', by omega, hw2⟩)]
                  rfl
                · rw [bo_f q1, Bool.false_or]
                  by_cases q2 : q = plT T w (nI n) sz
                  · rw [decide_eq_true q2, bo_t ⟨w, by omega, q2.symm⟩]
                  · rw [decide_eq_false q2, bo_f]
                    rintro ⟨w', hw', hw2⟩
                    by_cases e' : w' = w
                    · subst e'; exact q2 hw2.symm
                    · exact q1 ⟨w', by omega, hw2⟩
              rw [hpc]
              by_cases q2 : q = plT T w (nI n) sz
              · rw [if_pos ⟨rfl, q2⟩, decide_eq_true q2]
                simp
                rfl
              · rw [if_neg (fun z => q2 z.2), decide_eq_false q2, Bool.or_false]
            · have ew : w = mk := by omega
              subst ew
              rw [if_pos (nI_le hwg (by omega)), nI_1]
              refine ih2 _ _ hlt ⟨rfl, i1, fun q hq => ?_⟩
              rw [i2 q hq, seeB_s, e, Bool.true_and]
          · rw [j2 q hq]
            have : plcB T 0 sz n q = false := bo_f (fun ⟨w, hw, _⟩ => absurd hw (Nat.not_lt_zero w))
            rw [this, Bool.or_false]
      · have e : n = W := by omega
        subst e
        rw [if_pos (nI_le hge2 (by omega)), yo_s]
        exact ⟨j2, j1⟩
    · have : seeB T mk sz 0 S q = false := bo_f (fun ⟨n, hn, _⟩ => absurd hn (Nat.not_lt_zero n))
      rw [this, g2 q (by omega)]
      rfl
theorem r_isSaid {N : Nat} (hN : 700 ≤ N) {M : Mem} {T : Nat → Int32} {r W g m kd sz0 mk ex ly sz n : Nat} {V : Nat → Bool} (hx : rX M T r W g m kd sz0 mk ex ly) (h1 : 1 ≤ sz) (h2 : sz ≤ 64) (hV : ∀ q, q < 64 → rI M 155 q = (if V q = true then 1 else 0)) :
    Yo (fX11_isSaid N 140 (nI sz) (nI mk) (nI n) M) (fun x => x.1 = bo (∀ w, w < mk → V (plT T w (nI n) sz) = true) ∧ smF [147] M x.2) := by
  have hm : mk ≤ m := hx.2.2.2.2.1.2.2.2.2.2.1
  have hm6 : m ≤ 6 := hx.2.2.1.2.2.2.2.2.2.1
  unfold fX11_isSaid
  refine yo_f2 (F := fX11_isSaid_l3 N 140 (nI sz) (nI mk) (nI n)) mk (fun k v M2 => v = nI k ∧ smF [147] M M2 ∧ ∀ w, w < k → V (plT T w (nI n) sz) = true) ?_ N 0 _ _ (by omega) (by omega) ⟨rfl, smF.refl, fun w hw => absurd hw (Nat.not_lt_zero w)⟩
  intro f k v M2 hk ⟨hv, g1, g2⟩ ih
  subst hv
  show Yo (fX11_isSaid_l3_s N 140 (nI sz) (nI mk) (nI n) (fX11_isSaid_l3 N 140 (nI sz) (nI mk) (nI n) f) (nI k) M2) _
  unfold fX11_isSaid_l3_s
  rcases Nat.lt_or_ge k mk with hlt | hge
  · rw [if_neg (nI_ge hlt (by omega))]
    refine (rplace (w := k) (name := nI n) (sz := sz) hN (hx.mv (g1 141 (by decide))) (by omega) h1 (by omega)).bi (fun x hx4 => ?_)
    have hpl := plT_lt (T := T) (w := k) (name := nI n) h1
    rw [hx4.1, if_pos (inB_nI (by omega) (by decide)), nI_clamp (by omega), nI_1, show (140 + 15 : Nat) = 155 from rfl, hx4.2.I_ (by decide), g1.I_ (by decide), hV _ (by omega)]
    cases e : V (plT T k (nI n) sz) with
    | true =>
      rw [if_neg (by decide)]
      refine ih _ _ hlt ⟨rfl, g1.trans hx4.2, fun w hw => ?_⟩
      by_cases q : w = k
      · subst q; exact e
      · exact g2 w (by omega)
    | false =>
      rw [if_pos (by decide), yo_s]
      refine ⟨(bo_f (fun z => ?_)).symm, g1.trans hx4.2⟩
      rw [z k hlt] at e
      cases e
  · rw [if_pos (nI_le hge (by omega)), yo_s]
    exact ⟨(bo_t (fun w hw => g2 w (by omega))).symm, g1⟩
