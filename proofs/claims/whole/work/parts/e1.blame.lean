/-! BLAME: both, in step -/
theorem cnt_mono {p : Nat → Bool} {a : Nat} : ∀ {b : Nat}, a ≤ b → cnt p a ≤ cnt p b
  | 0, h => by rw [show a = 0 by omega]; exact Nat.le_refl _
  | b + 1, h => by
    by_cases q : a = b + 1
    · rw [q]; exact Nat.le_refl _
    · have := cnt_mono (p := p) (show a ≤ b by omega)
      show cnt p a ≤ cnt p b + _
      omega
theorem cnt_at {p : Nat → Bool} {i : Nat} : ∀ {n : Nat}, i < cnt p n → ∃ q, q < n ∧ p q = true ∧ cnt p q = i
  | 0, h => absurd h (Nat.not_lt_zero i)
  | n + 1, h => by
    have h : i < cnt p n + (if p n = true then 1 else 0) := h
    by_cases c : i < cnt p n
    · obtain ⟨q, q1, q2, q3⟩ := cnt_at c
      exact ⟨q, by omega, q2, q3⟩
    · cases e : p n with
      | false => rw [e, if_neg (by decide)] at h; omega
      | true => rw [e, if_pos rfl] at h; exact ⟨n, by omega, e, by omega⟩
theorem cnt_hit {p : Nat → Bool} {q n : Nat} (h : p q = true) (hq : q < n) : cnt p q < cnt p n := by
  have h1 : cnt p (q + 1) = cnt p q + 1 := by
    show cnt p q + (if p q = true then 1 else 0) = _
    rw [if_pos h]
  have := cnt_mono (p := p) (show q + 1 ≤ n by omega)
  omega
theorem plc_mk {T : Nat → Int32} {sz n : Nat} (h1 : 1 ≤ sz) (h2 : sz ≤ 64) : ∀ mk, cnt (plcB T mk sz n) 64 ≤ mk := by
  have e : ∀ mk, unkC T mk sz (fun _ => false) n = cnt (plcB T mk sz n) 64 := fun mk => by
    unfold unkC
    exact cnt_cong (fun k _ => by simp)
  intro mk
  rw [← e]
  induction mk with
  | zero =>
    have : unkC T 0 sz (fun _ => false) n = 0 := by
      rw [e, cnt_zero]
      intro k _
      exact bo_f (fun ⟨w, hw, _⟩ => Nat.not_lt_zero w hw)
    omega
  | succ w ih =>
    rw [unk_s h1 h2]
    split <;> omega
theorem lo_bit {B : Int64} {q : Nat} (hq : q < 64) : ((ushrJ B (nI q)) &&& (1 : Int64)).toInt32 = if bl B q = true then 1 else 0 := by
  cases e : bl B q with
  | false => rw [(bl_test B hq).mpr e]; rfl
  | true =>
    have : (ushrJ B (nI q)) &&& (1 : Int64) = 1 := (bl_is1 _).mpr (by rw [bl_ushr q hq]; exact e)
    rw [this]; rfl
theorem shl_z0 : ∀ l, l < 31 → shlI (0 : Int32) (nI l) = 0 := by decide +kernel
theorem pow_lt6 {i : Nat} (h : i < 6) : 2 ^ i < 64 := by
  have := Nat.pow_lt_pow_right (a := 2) (by omega) h
  omega
theorem c_part {N d : Nat} {B0 B : Int64} {δ : Nat → Bool} (hN : 700 ≤ N) (hB : ∀ q, q < 64 → bl B0 q = δ q) (hd : cnt δ 64 = d) (h6 : d ≤ 6) (M : Mem) :
    Yo (fX0_partOf N B0 B M) (fun x => ∃ p, x = nI p ∧ p < 2 ^ d ∧ ∀ q, q < 64 → δ q = true → p.testBit (cnt δ q) = bl B q) := by
  unfold fX0_partOf
  refine yo_f3 (F := fX0_partOf_l9 N B0 B M) 64 (fun k a b c => c = nI k ∧ b = nI (cnt δ k) ∧ ∃ p, a = nI p ∧ p < 2 ^ (cnt δ k) ∧ ∀ q, q < k → δ q = true → p.testBit (cnt δ q) = bl B q) ?_ N 0 _ _ _ (by omega) (by omega) ⟨rfl, rfl, 0, rfl, Nat.two_pow_pos _, fun q hq => absurd hq (Nat.not_lt_zero q)⟩
  intro f k a b c hk ⟨hc, hb, p, ha, hp, hbits⟩ ih
  subst hc hb ha
  show Yo (fX0_partOf_l9_s N B0 B M (fX0_partOf_l9 N B0 B M f) (nI p) (nI (cnt δ k)) (nI k)) _
  unfold fX0_partOf_l9_s fX0_partOf_b45
  rcases Nat.lt_or_ge k 64 with hlt | hge
  · have hcs : cnt δ (k + 1) = cnt δ k + (if δ k = true then 1 else 0) := rfl
    have hm := cnt_mono (p := δ) (show k + 1 ≤ 64 by omega)
    rw [if_neg (show ¬ (64 : Int32) ≤ nI k from nI_ge (b := 64) hlt (by decide)), nI_1]
    cases e : δ k with
    | false =>
      rw [if_pos (show (ushrJ B0 (nI k)) &&& (1 : Int64) = (0 : Int64) from (bl_test B0 hlt).mpr ((hB k hlt).trans e))]
      rw [e, if_neg (by decide)] at hcs
      have hcs' : cnt δ (k + 1) = cnt δ k := hcs
      refine ih _ _ _ hlt ⟨rfl, by rw [hcs'], p, rfl, by rw [hcs']; exact hp, fun q hq hδ => ?_⟩
      by_cases z : q = k
      · rw [z, e] at hδ; cases hδ
      · exact hbits q (by omega) hδ
    | true =>
      rw [e, if_pos rfl] at hcs
      have hi : cnt δ k < 6 := by omega
      have h2 := pow_lt6 hi
      have hne : ¬ (ushrJ B0 (nI k)) &&& (1 : Int64) = (0 : Int64) := fun z => by
        have := (bl_test B0 hlt).mp z
        rw [hB k hlt, e] at this
        cases this
      have e2 : nI p ||| shlI (((ushrJ B (nI k)) &&& (1 : Int64)).toInt32) (nI (cnt δ k)) = nI (p ||| (if bl B k = true then 2 ^ (cnt δ k) else 0)) := by
        rw [lo_bit hlt]
        cases bl B k with
        | false => rw [if_neg (by decide), if_neg (by decide), shl_z0 _ (by omega), show (0 : Int32) = nI 0 from rfl, nI_or p (by omega) 0 (by omega)]
        | true => rw [if_pos rfl, if_pos rfl, shl_one _ (by omega), nI_or p (by omega) _ h2]
      rw [if_neg hne, e2, nI_1]
      have hpow : 2 ^ (cnt δ k) < 2 ^ (cnt δ k + 1) := Nat.pow_lt_pow_right (by omega) (by omega)
      refine ih _ _ _ hlt ⟨rfl, by rw [hcs], _, rfl, ?_, fun q hq hδ => ?_⟩
      · rw [hcs]
        exact Nat.or_lt_two_pow (by omega) (by split <;> omega)
      · rw [Nat.testBit_or]
        by_cases z : q = k
        · subst z
          rw [Nat.testBit_lt_two_pow hp, Bool.false_or]
          cases bl B q with
          | false => rw [if_neg (by decide), Nat.zero_testBit]
          | true => rw [if_pos rfl, Nat.testBit_two_pow, decide_eq_true rfl]
        · have h3 := hbits q (by omega) hδ
          have h4 := cnt_hit hδ (show q < k by omega)
          have h5 : (if bl B k = true then 2 ^ (cnt δ k) else 0).testBit (cnt δ q) = false := by
            cases bl B k with
            | false => rw [if_neg (by decide), Nat.zero_testBit]
            | true => rw [if_pos rfl, Nat.testBit_two_pow, decide_eq_false (by omega)]
          rw [h3, h5, Bool.or_false]
  · have ek : k = 64 := by omega
    subst ek
    rw [if_pos (show (64 : Int32) ≤ nI 64 by decide), yo_s]
    exact ⟨p, rfl, by rw [← hd]; exact hp, hbits⟩
/-- the reference's mask of a name -/
theorem r_mask {N : Nat} {M : Mem} {T : Nat → Int32} {r W g m kd sz mk ex ly n name : Nat} {v3 : Int32} {k98 : Int32 → Mem → Option (Int32 × Mem)} {Q : Int32 × Mem → Prop} (hN : 700 ≤ N) (hx : rX M T r W g m kd sz mk ex ly)
    (hk : ∀ p M', smF [147] M M' → p < 2 ^ mk → (∀ w, w < mk → p.testBit w = plcB T mk sz n (plT T w (nI name) sz)) → Yo (fX11_blame_l199 N k98 140 (nI r) (nI name) v3 (nI n) (nI p) N v3 M') Q) :
    Yo (fX11_blame_l128 N k98 140 (nI r) (nI name) v3 (nI n) N 0 0 M) Q := by
  have hm6 : m ≤ 6 := hx.2.2.1.2.2.2.2.2.2.1
  have hr := hx.2.2.2
  have hmk1 : 1 ≤ mk := hr.2.1.2.2.2.2.1
  have hmk : mk ≤ m := hr.2.1.2.2.2.2.2.1
  have hs1 := hr.2.1.2.1
  have hs2 := hr.2.1.2.2.1
  refine yo_f3 (F := fX11_blame_l128 N k98 140 (nI r) (nI name) v3 (nI n)) mk (fun w a b M' => b = nI w ∧ smF [147] M M' ∧ ∃ p, a = nI p ∧ p < 2 ^ w ∧ ∀ w', w' < w → p.testBit w' = plcB T mk sz n (plT T w' (nI name) sz)) ?_ N 0 _ _ _ (by omega) (by omega) ⟨rfl, smF.refl, 0, rfl, by decide, fun q hq => absurd hq (Nat.not_lt_zero q)⟩
  intro f w a b M' hw ⟨hb, hF, p, ha, hp, hbits⟩ ih
  subst hb ha
  show Yo (fX11_blame_l128_s N k98 140 (nI r) (nI name) v3 (nI n) (fX11_blame_l128 N k98 140 (nI r) (nI name) v3 (nI n) f) (nI p) (nI w) M') _
  unfold fX11_blame_l128_s
  have hx' := hx.mv7 hF
  rw [hx'.flds.2.2.1, Option.bind_some, show nI mk - (1 : Int32) = nI (mk - 1) from nI_sub (b := 1) hmk1]
  rcases Nat.lt_or_ge w mk with hlt | hge
  · have h2 := pow_lt6 (show w < 6 by omega)
    have hpow : 2 ^ w < 2 ^ (w + 1) := Nat.pow_lt_pow_right (by omega) (by omega)
    have h64 : 2 ^ (w + 1) ≤ 64 := (pow_64 (show w + 1 ≤ 6 by omega)).2
    rw [if_neg (nI_nlt (by omega) (by omega))]
    refine yo_f3 (F := fX11_blame_l144 N k98 (fX11_blame_l128 N k98 140 (nI r) (nI name) v3 (nI n) f) 140 (nI r) (nI name) v3 (nI n) (nI w)) mk (fun j a b M2 => b = nI j ∧ smF [147] M M2 ∧ ∃ p', a = nI p' ∧ p' < 2 ^ (w + 1) ∧ (∀ w', w' < w → p'.testBit w' = p.testBit w') ∧ p'.testBit w = plcB T j sz n (plT T w (nI name) sz)) ?_ N 0 _ _ _ (by omega) (by omega) ⟨rfl, hF, p, rfl, by omega, fun _ _ => rfl, ?_⟩
    · intro f2 j a b M2 hj ⟨hb, hF2, p', ha, hp', hb1, hb2⟩ ih2
      subst hb ha
      show Yo (fX11_blame_l144_s N k98 (fX11_blame_l128 N k98 140 (nI r) (nI name) v3 (nI n) f) 140 (nI r) (nI name) v3 (nI n) (nI w) (fX11_blame_l144 N k98 (fX11_blame_l128 N k98 140 (nI r) (nI name) v3 (nI n) f) 140 (nI r) (nI name) v3 (nI n) (nI w) f2) (nI p') (nI j) M2) _
      unfold fX11_blame_l144_s
      have hx2 := hx.mv7 hF2
      rw [hx2.flds.2.2.1, Option.bind_some]
      rcases Nat.lt_or_ge j mk with jlt | jge
      · rw [if_neg (nI_ge jlt (by omega))]
        refine (rspot (w := j) (name := nI n) hN hx2 (by omega)).bi (fun x hx3 => ?_)
        refine (rspot (w := w) (name := nI name) hN (hx2.mv7 hx3.2) (by omega)).bi (fun y hy => ?_)
        have hl1 := plT_lt (T := T) (w := j) (name := nI n) hs1
        have hl2 := plT_lt (T := T) (w := w) (name := nI name) hs1
        have hplc : plcB T (j + 1) sz n (plT T w (nI name) sz) = (plcB T j sz n (plT T w (nI name) sz) || bo (plT T j (nI n) sz = plT T w (nI name) sz)) := bo_s (P := fun w' => plT T w' (nI n) sz = plT T w (nI name) sz)
        unfold fX11_blame_b184
        rw [hx3.1, hy.1, nI_1, shl_one _ (by omega), nI_or p' (by omega) _ h2]
        by_cases c : plT T j (nI n) sz = plT T w (nI name) sz
        · rw [if_pos (by rw [c])]
          refine ih2 _ _ _ jlt ⟨rfl, (hF2.trans hx3.2).trans hy.2, _, rfl, Nat.or_lt_two_pow hp' hpow, fun w' h' => ?_, ?_⟩
          · rw [Nat.testBit_or, Nat.testBit_two_pow, decide_eq_false (by omega), Bool.or_false]; exact hb1 w' h'
          · rw [Nat.testBit_or, Nat.testBit_two_pow, decide_eq_true rfl, Bool.or_true, hplc, bo_t c, Bool.or_true]
        · rw [if_neg (fun z => c (by rw [nI_eq (by omega) (by omega)] at z; exact z))]
          refine ih2 _ _ _ jlt ⟨rfl, (hF2.trans hx3.2).trans hy.2, p', rfl, hp', hb1, ?_⟩
          rw [hplc, bo_f c, Bool.or_false]; exact hb2
      · have ej : j = mk := by omega
        subst ej
        rw [if_pos (nI_le jge (by omega)), nI_1]
        refine ih _ _ _ hlt ⟨rfl, hF2, p', rfl, hp', fun w' h' => ?_⟩
        by_cases z : w' = w
        · rw [z]; exact hb2
        · rw [hb1 w' (by omega)]; exact hbits w' (by omega)
    · rw [Nat.testBit_lt_two_pow hp]
      exact (bo_f (fun ⟨w', hw', _⟩ => Nat.not_lt_zero w' hw')).symm
  · have ew : w = mk := by omega
    subst ew
    rw [if_pos (nI_lt (by omega) (by omega))]
    exact hk p M' hF hp hbits
/-- tables, name by name -/
def chn (n : Nat) (f0 : Nat → Nat) (S : Nat → Bool) (P : Nat → Nat → Prop) : Nat → (Nat → Nat) → Prop
  | 0, f => ∀ t, t < n → f t = f0 t
  | k + 1, f => ∃ g, chn n f0 S P k g ∧ ((S k = true ∧ ∃ p, P k p ∧ pst g f p n (fun _ => True)) ∨ (S k = false ∧ ∀ t, t < n → f t = g t))
def ptC (T : Nat → Int32) (mk sz name k p : Nat) : Prop := p < 2 ^ cnt (plcB T mk sz name) 64 ∧ ∀ q, q < 64 → plcB T mk sz name q = true → p.testBit (cnt (plcB T mk sz name) q) = plcB T mk sz k q
def ptR (T : Nat → Int32) (mk sz name k p : Nat) : Prop := p < 2 ^ mk ∧ ∀ w, w < mk → p.testBit w = plcB T mk sz k (plT T w (nI name) sz)
def f0C (t : Nat) : Nat := if t = 0 then 0 else 1000000
def f0R (t : Nat) : Nat := if t = 0 then 0 else 1000
theorem chn_two {T : Nat → Int32} {mk sz name : Nat} {S : Nat → Bool} (h1 : 1 ≤ sz) (h2 : sz ≤ 64) : ∀ (k : Nat) (C R : Nat → Nat), chn (2 ^ cnt (plcB T mk sz name) 64) f0C S (ptC T mk sz name) k C → chn (2 ^ mk) f0R S (ptR T mk sz name) k R → fwR (fun w => cnt (plcB T mk sz name) (plT T w (nI name) sz)) (cnt (plcB T mk sz name) 64) mk k C R := by
  have surj : ∀ i, i < cnt (plcB T mk sz name) 64 → ∃ w, w < mk ∧ cnt (plcB T mk sz name) (plT T w (nI name) sz) = i := fun i hi => by
    obtain ⟨q, q1, q2, q3⟩ := cnt_at hi
    obtain ⟨w, w1, w2⟩ := bo_iff.mp q2
    exact ⟨w, w1, by rw [w2]; exact q3⟩
  intro k
  induction k with
  | zero =>
    intro C R hC hR
    refine ⟨fun c hc => ?_, fun s hs => ?_, fun s hs hno => ?_⟩
    · rw [hR _ (phN_lt mk), hC c hc]
      unfold f0R f0C
      by_cases z : c = 0
      · subst z
        rw [phN_0, if_pos rfl, if_pos rfl]
        exact ⟨rfl, Or.inl (Nat.le_refl 0)⟩
      · rw [if_neg z, if_neg (fun q => z (phN_inj surj hc (Nat.two_pow_pos _) (by rw [q, phN_0])))]
        exact ⟨rfl, Or.inr rfl⟩
    · rw [hR s hs]
      unfold f0R
      split <;> omega
    · rw [hR s hs]
      unfold f0R
      rw [if_neg (fun z => hno 0 (Nat.two_pow_pos _) (by rw [phN_0, z]))]
  | succ k ih =>
    intro C R hC hR
    obtain ⟨C1, c1, c2⟩ := hC
    obtain ⟨R1, r1, r2⟩ := hR
    have h := ih C1 R1 c1 r1
    rcases c2 with ⟨s1, p, p1, p2⟩ | ⟨s1, p1⟩
    · rcases r2 with ⟨_, p', p1', p2'⟩ | ⟨s2, _⟩
      · have e : p' = phN (fun w => cnt (plcB T mk sz name) (plT T w (nI name) sz)) p mk := by
          refine Nat.eq_of_testBit_eq (fun i => ?_)
          rw [phN_bit]
          rcases Nat.lt_or_ge i mk with c | c
          · have hl := plT_lt (T := T) (w := i) (name := nI name) h1
            rw [decide_eq_true c, Bool.true_and, p1'.2 i c]
            exact (p1.2 _ (by omega) (bo_t ⟨i, c, rfl⟩)).symm
          · have h1 : 2 ^ mk ≤ 2 ^ i := Nat.pow_le_pow_right (by omega) c
            rw [decide_eq_false (by omega), Nat.testBit_lt_two_pow (by have := p1'.1; omega)]
            rfl
        rw [e] at p2'
        exact fwR_step surj h p1.1 p2 p2'
      · rw [s1] at s2; cases s2
    · rcases r2 with ⟨s2, _⟩ | ⟨_, p1'⟩
      · rw [s1] at s2; cases s2
      · have h' := fwR_more h
        refine ⟨fun c hc => ?_, fun s hs => ?_, fun s hs hno => ?_⟩
        · rw [p1 c hc, p1' _ (phN_lt mk)]; exact h'.1 c hc
        · rw [p1' s hs]; exact h'.2.1 s hs
        · rw [p1' s hs]; exact h'.2.2 s hs hno
def blV (x : Nat) : Int32 := if x < 1000000 then nI x else -1
theorem c_few {N : Nat} (hN : 700 ≤ N) {M : Mem} {T : Nat → Int32} {r W g m kd sz mk ex ly name : Nat} (hc : cX M T r W g m kd sz mk ex ly) (hk2 : kd ≠ 2) :
    Yo (fX0_fewestHolding N 130 (10 + 4 * r) 2 (nI name) M) (fun x => smF [8, 134] M x.2 ∧ ∃ C, chn (2 ^ cnt (plcB T mk sz name) 64) f0C (setS T r W) (ptC T mk sz name) W C ∧ x.1 = blV (C (2 ^ cnt (plcB T mk sz name) 64 - 1))) := by
  have hr := hc.1
  have hru := hc.2.1
  have hro := hc.2.2.2
  have hm6 : m ≤ 6 := hru.1.2.2.2.2.2.2.1
  have hW : W ≤ 256 := hru.1.2.1
  have hmk : mk ≤ m := hro.2.1.2.2.2.2.2.1
  have hs1 := hro.2.1.2.1
  have hs2 := hro.2.1.2.2.1
  have hd6 : cnt (plcB T mk sz name) 64 ≤ 6 := Nat.le_trans (plc_mk hs1 hs2 mk) (by omega)
  unfold fX0_fewestHolding
  rw [hc.flds.2.1, hc.flds.2.2.1]
  refine (c_plcs hN hru hmk hs1 hs2).bi (fun B0 hB0 => ?_)
  have ecnt : cnt (fun i => bl B0.1 i) 64 = cnt (plcB T mk sz name) 64 := cnt_cong (fun k _ => hB0.1 k)
  rw [bitCount_ok, Option.bind_some, Option.bind_some, if_pos (by decide), ecnt, shl_one _ (by omega)]
  obtain ⟨p1, p2⟩ := pow_64 hd6
  rw [show nI (2 ^ cnt (plcB T mk sz name) 64) - (1 : Int32) = nI (2 ^ cnt (plcB T mk sz name) 64 - 1) from nI_sub (b := 1) p1]
  refine yo_f2 (F := fX0_fewestHolding_l45 N 130 (10 + 4 * r) 2 B0.1 (nI (2 ^ cnt (plcB T mk sz name) 64 - 1))) W (fun k v M' => v = nI k ∧ smF [8, 134] M M' ∧ ∃ f, tbl M' 134 (2 ^ cnt (plcB T mk sz name) 64) f ∧ chn (2 ^ cnt (plcB T mk sz name) 64) f0C (setS T r W) (ptC T mk sz name) k f) ?_ N 0 _ _ (by omega) (by omega) ⟨rfl, ((hB0.2.mono (by simp)).pIs_ (by simp) _).pI_ (by simp) _ _, f0C, fun t ht => ⟨?_, ?_⟩, fun _ _ => rfl⟩
  · intro f k v M' hk ⟨hv, hF, C, ht, hch⟩ ih
    subst hv
    show Yo (fX0_fewestHolding_l45_s N 130 (10 + 4 * r) 2 B0.1 (nI (2 ^ cnt (plcB T mk sz name) 64 - 1)) (fX0_fewestHolding_l45 N 130 (10 + 4 * r) 2 B0.1 (nI (2 ^ cnt (plcB T mk sz name) 64 - 1)) f) (nI k) M') _
    unfold fX0_fewestHolding_l45_s fX0_fewestHolding_b133 fX0_fewestHolding_b95
    have hcM : cX M' T r W g m kd sz mk ex ly := hc.mv (fun a h1 h2 => hF a (by simp; omega))
    rw [hcM.2.1.2.2.1]
    rcases Nat.lt_or_ge k W with hlt | hge
    · have hS : bl (rJ M' (10 + 4 * r + 1 + 1) (k / 64)) (k % 64) = setS T r W k := by
        rw [show 10 + 4 * r + 1 + 1 = 10 + 4 * r + 2 by omega, hcM.2.2.1.2.2.2 k (by omega)]
        exact setS_put hro (by omega)
      rw [if_neg (nI_ge hlt (by omega)), has_ok (by omega), Option.bind_some, hS, nI_1]
      cases e : setS T r W k with
      | true =>
        rw [if_pos rfl, hcM.flds.2.1, hcM.flds.2.2.1]
        refine (c_plcs (n := k) hN hcM.2.1 hmk hs1 hs2).bi (fun B hB => ?_)
        refine (c_part hN (fun q _ => hB0.1 q) rfl hd6 B.2).bi (fun x hx => ?_)
        obtain ⟨p, rfl, x2, x3⟩ := hx
        have ht' : tbl B.2 134 (2 ^ cnt (plcB T mk sz name) 64) C := fun t h => by rw [hB.2.I_ (by decide)]; exact ht t h
        refine (c_addPart hN hd6 x2 ht').bi (fun y hy => ?_)
        obtain ⟨y1, C', y2, y3⟩ := hy
        refine ih _ _ hlt ⟨rfl, (hF.trans (hB.2.mono (by simp))).trans (y1.mono (by simp)), C', y2, C, hch, Or.inl ⟨e, p, ⟨x2, fun q hq hδ => by rw [x3 q hq hδ]; exact hB.1 q⟩, y3⟩⟩
      | false =>
        rw [if_neg (by decide)]
        exact ih _ _ hlt ⟨rfl, hF, C, ht, C, hch, Or.inr ⟨e, fun _ _ => rfl⟩⟩
    · have ek : k = W := by omega
      subst ek
      obtain ⟨g1, g2⟩ := ht (2 ^ cnt (plcB T mk sz name) 64 - 1) (by omega)
      have g1' : rI M' (130 + 4) (2 ^ cnt (plcB T mk sz name) 64 - 1) = nI (C (2 ^ cnt (plcB T mk sz name) 64 - 1)) := g1
      rw [if_pos (nI_le hge (by omega)), if_neg (show ¬ (64 : Int32) ≤ nI (2 ^ cnt (plcB T mk sz name) 64 - 1) from nI_ge (b := 64) (by omega) (by decide)), if_pos (inB_nI (by omega) (by decide)), if_pos (inB_nI (by omega) (by decide)), nI_clamp (by omega), g1']
      unfold blV at *
      rcases Nat.lt_or_ge (C (2 ^ cnt (plcB T mk sz name) 64 - 1)) 1000000 with c | c
      · rw [if_neg (show ¬ (1000000 : Int32) ≤ nI (C (2 ^ cnt (plcB T mk sz name) 64 - 1)) from nI_ge (b := 1000000) c (by decide)), yo_s]
        exact ⟨hF, C, hch, by rw [if_pos c]⟩
      · rw [if_pos (show (1000000 : Int32) ≤ nI (C (2 ^ cnt (plcB T mk sz name) 64 - 1)) from nI_le (a := 1000000) c (by omega)), yo_s]
        exact ⟨hF, C, hch, by rw [if_neg (by omega)]⟩
  · rw [rI_wI, rI_fillI]
    unfold f0C
    by_cases z : t = 0
    · rw [if_pos ⟨rfl, z⟩, if_pos z]; rfl
    · rw [if_neg (fun q => z q.2), if_pos ⟨rfl, by omega⟩, if_neg z]; rfl
  · unfold f0C; split <;> omega
theorem r_few {N : Nat} (hN : 700 ≤ N) {M : Mem} {T : Nat → Int32} {r W g m kd sz mk ex ly name : Nat} (hx : rX M T r W g m kd sz mk ex ly) :
    Yo (fX11_blame_l66 N 140 (nI r) (nI name) (nI (2 ^ mk - 1)) N 1 M) (fun x => smF [147, 161] M x.2 ∧ ∃ R, chn (2 ^ mk) f0R (setS T r W) (ptR T mk sz name) W R ∧ x.1 = if R (2 ^ mk - 1) < 1000 then nI (R (2 ^ mk - 1)) else -1) := by
  have hW : W ≤ 256 := hx.2.2.1.2.1
  have hm6 : m ≤ 6 := hx.2.2.1.2.2.2.2.2.2.1
  have hro := hx.2.2.2
  have hmk : mk ≤ m := hro.2.1.2.2.2.2.2.1
  have hmk1 : 1 ≤ mk := hro.2.1.2.2.2.2.1
  obtain ⟨p1, p2⟩ := pow_64 (show mk ≤ 6 by omega)
  have p3 : 2 ^ 1 ≤ 2 ^ mk := Nat.pow_le_pow_right (show 0 < 2 by omega) hmk1
  have p4 : 2 ≤ 2 ^ mk := p3
  refine yo_f2 (F := fX11_blame_l66 N 140 (nI r) (nI name) (nI (2 ^ mk - 1))) (2 ^ mk) (fun k v M' => 1 ≤ k ∧ v = nI k ∧ smF [161] M M' ∧ ∀ t, 1 ≤ t → t < k → rI M' 161 t = 1000) ?_ N 1 _ _ (by omega) (by omega) ⟨Nat.le_refl 1, rfl, smF.refl, fun t h1 h2 => by omega⟩
  intro f k v M' hk ⟨hk1, hv, hF, hfill⟩ ih
  subst hv
  show Yo (fX11_blame_l66_s N 140 (nI r) (nI name) (nI (2 ^ mk - 1)) (fX11_blame_l66 N 140 (nI r) (nI name) (nI (2 ^ mk - 1)) f) (nI k) M') _
  unfold fX11_blame_l66_s
  rcases Nat.lt_or_ge k (2 ^ mk) with hlt | hge
  · rw [if_neg (nI_nlt (by omega) (by omega)), if_pos (inB_nI (by omega) (by decide)), nI_clamp (by omega), nI_1]
    refine ih _ _ hlt ⟨by omega, rfl, hF.pI_ (by simp) _ _, fun t h1 h2 => ?_⟩
    show rI (wI M' 161 k 1000) 161 t = 1000
    rw [rI_wI]
    by_cases z : t = k
    · rw [if_pos ⟨rfl, z⟩]
    · rw [if_neg (fun q => z q.2)]; exact hfill t h1 (by omega)
  · have ek : k = 2 ^ mk := by omega
    subst ek
    rw [if_pos (nI_lt (by omega) (by omega)), if_pos (by decide)]
    refine yo_f2 (F := fX11_blame_l98 N 140 (nI r) (nI name) (nI (2 ^ mk - 1))) W (fun k v M2 => v = nI k ∧ smF [147, 161] M M2 ∧ ∃ f, tbl M2 161 (2 ^ mk) f ∧ chn (2 ^ mk) f0R (setS T r W) (ptR T mk sz name) k f) ?_ N 0 _ _ (by omega) (by omega) ⟨rfl, (hF.mono (by simp)).pI_ (by simp) _ _, f0R, fun t ht => ⟨?_, ?_⟩, fun _ _ => rfl⟩
    · intro f2 k v M2 hk ⟨hv, hF2, R, ht, hch⟩ ih2
      subst hv
      show Yo (fX11_blame_l98_s N 140 (nI r) (nI name) (nI (2 ^ mk - 1)) (fX11_blame_l98 N 140 (nI r) (nI name) (nI (2 ^ mk - 1)) f2) (nI k) M2) _
      unfold fX11_blame_l98_s fX11_blame_b242
      have hx2 := hx.mv (hF2 141 (by decide))
      have e1 : rI M2 (140 + 1) (1 : Int32).toNatClampNeg = nI W := by
        show (M2 141).1 1 = nI W
        rw [hx2.2.1]
        exact hx2.2.2.1.2.2.1
      rw [if_pos (by decide), e1]
      rcases Nat.lt_or_ge k W with klt | kge
      · rw [if_neg (nI_ge klt (by omega)), isIn_ok hx.1 (by omega), Option.bind_some, hx2.2.1, setS_put hro (by omega)]
        cases e : setS T r W k with
        | true =>
          rw [if_pos rfl]
          refine r_mask hN hx2 (fun p M3 q1 q2 q3 => ?_)
          have ht' : tbl M3 161 (2 ^ mk) R := fun t h => by rw [q1.I_ (by decide)]; exact ht t h
          refine r_add hN (by omega) q2 ht' (fun x f' s1 s2 s3 => ?_)
          rw [nI_1]
          exact ih2 _ _ klt ⟨rfl, (hF2.trans (q1.mono (by simp))).trans (s1.mono (by simp)), f', s2, R, hch, Or.inl ⟨e, p, ⟨q2, q3⟩, s3⟩⟩
        | false =>
          rw [if_neg (by decide), nI_1]
          exact ih2 _ _ klt ⟨rfl, hF2, R, ht, R, hch, Or.inr ⟨e, fun _ _ => rfl⟩⟩
      · have ek : k = W := by omega
        subst ek
        obtain ⟨g1, g2⟩ := ht (2 ^ mk - 1) (by omega)
        have g1' : rI M2 (140 + 21) (2 ^ mk - 1) = nI (R (2 ^ mk - 1)) := g1
        rw [if_pos (nI_le kge (by omega)), if_pos (inB_nI (by omega) (by decide)), if_pos (inB_nI (by omega) (by decide)), nI_clamp (by omega), g1']
        rcases Nat.lt_or_ge (R (2 ^ mk - 1)) 1000 with c | c
        · rw [if_pos (show nI (R (2 ^ mk - 1)) < (1000 : Int32) from nI_lt (b := 1000) c (by decide)), yo_s]
          exact ⟨hF2, R, hch, by rw [if_pos c]⟩
        · rw [if_neg (show ¬ nI (R (2 ^ mk - 1)) < (1000 : Int32) from nI_nlt (b := 1000) c (by omega)), yo_s]
          exact ⟨hF2, R, hch, by rw [if_neg (by omega)]⟩
    · show rI (wI M' 161 0 0) 161 t = _
      rw [rI_wI]
      unfold f0R
      by_cases z : t = 0
      · rw [if_pos ⟨rfl, z⟩, if_pos z]; rfl
      · rw [if_neg (fun q => z q.2), if_neg z]; exact hfill t (by omega) ht
    · unfold f0R; split <;> omega
theorem few_eq {T : Nat → Int32} {mk sz name W : Nat} {S : Nat → Bool} {C R : Nat → Nat} (h1 : 1 ≤ sz) (h2 : sz ≤ 64) (hW : W ≤ 256) (hC : chn (2 ^ cnt (plcB T mk sz name) 64) f0C S (ptC T mk sz name) W C) (hR : chn (2 ^ mk) f0R S (ptR T mk sz name) W R) : (if R (2 ^ mk - 1) < 1000 then nI (R (2 ^ mk - 1)) else -1) = blV (C (2 ^ cnt (plcB T mk sz name) 64 - 1)) := by
  have h := (chn_two h1 h2 W C R hC hR).1 (2 ^ cnt (plcB T mk sz name) 64 - 1) (by have := Nat.two_pow_pos (cnt (plcB T mk sz name) 64); omega)
  have hi : ∀ w, w < mk → cnt (plcB T mk sz name) (plT T w (nI name) sz) < cnt (plcB T mk sz name) 64 := fun w hw => by
    have hl := plT_lt (T := T) (w := w) (name := nI name) h1
    exact cnt_hit (bo_t ⟨w, hw, rfl⟩) (by omega)
  rw [phN_all (ix := fun w => cnt (plcB T mk sz name) (plT T w (nI name) sz)) hi] at h
  unfold blV
  rcases h.2 with q | q
  · rw [if_pos (by omega), if_pos (by omega), h.1, Nat.min_eq_left (by omega)]
  · rw [if_neg (by omega), if_neg (by omega)]
theorem ag_blame {N : Nat} (hN : 700 ≤ N) (a1 a2 : Int32) (M : Mem) (hR : Rel M) : agI (fX10_blame N 0 a1 a2 M) (fX11_blame N 140 a1 a2) (fun k Mj1 => if k = 1 then some ((1 : Int32), Mj1) else if k = 2 then some ((2 : Int32), Mj1) else if k = 3 then some ((3 : Int32), Mj1) else none) M := by
  obtain ⟨W, g, m, hS⟩ := hR.1
  rcases rowAt_ok hS a1 with ⟨c1, c2⟩ | ⟨r, hr, rfl, hh, c1, c2⟩
  · refine refI hR (e := 1) 1 ?_ rfl (by decide) ?_
    · unfold fX10_blame; rw [c1, xb_l]
    · unfold fX11_blame fX11_blame_b40
      rw [c2 M rfl, Option.bind_some, if_neg (by decide), w5_5, if_neg (by decide), yo_s]
      exact smF.refl
  · obtain ⟨kd, sz, mk, ex, ly, hc, hr'⟩ := sX hS hr hh
    have hk4 := hc.2.2.2.2.1.1
    by_cases k0 : kd = 0
    · subst k0
      have hro := hc.2.2.2
      have hs1 := hro.2.1.2.1
      have hs2 := hro.2.1.2.2.1
      have hmk : mk ≤ m := hro.2.1.2.2.2.2.2.1
      have hm6 : m ≤ 6 := hc.2.1.1.2.2.2.2.2.2.1
      have hW : W ≤ 256 := hc.2.1.1.2.1
      have hnk : fX10_needKind (10 + 4 * r) (0 : Int32) M = some (.inr (), M) := by
        unfold fX10_needKind
        rw [hc.flds.1, if_pos (show nI 0 = (0 : Int32) from rfl)]
      have hrf : ∀ M' : Mem, M' 141 = M 141 → fX11_blame N 140 (nI r) a2 M' = (fX11_isName 140 a2.toInt64 M').bind fun qj3 => if qj3 = true then fX11_blame_l66 N 140 (nI r) a2 (nI (2 ^ mk - 1)) N 1 (wI M' 140 5 0) else some (0, wI M' 140 5 3) := fun M' e => by
        have hx5 : rX (wI M' 140 5 0) (M 141).1 r W g m 0 sz mk ex ly := hr' _ (by rw [w5_141, e])
        unfold fX11_blame fX11_blame_b40
        rw [c2 M' (by rw [e]), Option.bind_some, if_pos rfl, (hr' M' e).flds.1, Option.bind_some, if_pos (show nI 0 = (0 : Int32) from rfl), w5_5, w5_5, if_pos (show (0 : Int32) ≤ 0 by decide), if_neg (show ¬ (3 : Int32) ≤ 0 by decide), hx5.flds.2.2.1, Option.bind_some, shl_one _ (by omega), show nI (2 ^ mk) - (1 : Int32) = nI (2 ^ mk - 1) from nI_sub (b := 1) (Nat.two_pow_pos mk)]
      rcases needName_ok hS a2 with ⟨d1, d2⟩ | ⟨n, hn, rfl, d1, d2⟩
      · refine refI hR (e := 3) 3 ?_ rfl (by decide) ?_
        · unfold fX10_blame; rw [c1, xb_r, hnk, xb_r, d1, xb_l]
        · rw [hrf M rfl, d2 M rfl, Option.bind_some, if_neg (by decide), yo_s]
          exact smF.refl
      · obtain ⟨x, x1, x2, C, x3, x4⟩ := c_few (name := n) hN hc (by decide)
        refine askI hR (blV (C (2 ^ cnt (plcB (M 141).1 mk sz n) 64 - 1))) ?_ (fun M' hM' => ?_)
        · unfold fX10_blame
          rw [c1, xb_r, hnk, xb_r, d1, xb_r]
          show Yo ((fX0_fewestHolding N 130 (10 + 4 * r) 2 (nI n) M).bind _) _
          rw [x1, Option.bind_some, yo_s]
          exact ⟨by rw [x4], x2.mono (by decide)⟩
        · have e := hM' 141 (by decide)
          rw [hrf M' e, d2 M' (by rw [e]), Option.bind_some, if_pos rfl]
          refine (r_few (name := n) hN (hr' _ (by rw [w5_141, e]))).to (fun y hy => ?_)
          obtain ⟨y1, R, y2, y3⟩ := hy
          exact ⟨by rw [y3]; exact few_eq hs1 hs2 hW x3 y2, y1.mono (by decide)⟩
    · have hnk : fX10_needKind (10 + 4 * r) (0 : Int32) M = some (.inl 2, M) := by
        unfold fX10_needKind
        rw [hc.flds.1, if_neg (show ¬ nI kd = (0 : Int32) from nI_ne0 (by omega) (by omega))]
      refine refI hR (e := 2) 2 ?_ rfl (by decide) ?_
      · unfold fX10_blame; rw [c1, xb_r, hnk, xb_l]
      · unfold fX11_blame fX11_blame_b40
        rw [c2 M rfl, Option.bind_some, if_pos rfl, (hr' M rfl).flds.1, Option.bind_some, if_neg (show ¬ nI kd = (0 : Int32) from nI_ne0 (by omega) (by omega)), w5_5, if_neg (by decide), yo_s]
        exact smF.refl
theorem cs28 {N : Nat} (hN : 700 ≤ N) (a1 a2 : Int32) (M : Mem) (hR : Rel M) : ∃ M1, Rel M1 ∧ ∀ (k : Mem → Option Mem), fLc28 N a1 a2 M k = k M1 := ca_I (ag_blame hN a1 a2 M hR)
