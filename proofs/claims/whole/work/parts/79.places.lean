/-! SEMANTICS, PLACES AND TAGS -/
theorem remI_toInt (x y : Int32) : (remI x y).toInt = x.toInt.tmod y.toInt := by
  have h : x - x / y * y = x % y := by
    apply Int32.toInt_inj.mp
    rw [Int32.toInt_sub, Int32.toInt_mul, Int32.toInt_div, Int.bmod_mul_bmod, Int.sub_bmod_bmod, Int.mul_comm (x.toInt.tdiv y.toInt), ← Int.tmod_def, ← Int32.toInt_mod]
    exact Int.bmod_eq_of_le (by have := (x % y).le_toInt; omega) (by have := (x % y).toInt_lt; omega)
  unfold remI
  rw [h, Int32.toInt_mod]
/-- a value modulo a size -/
def modN (v : Int32) (b : Nat) : Nat := (v.toInt % (b : Int)).toNat
theorem modN_lt {v : Int32} {b : Nat} (h : 1 ≤ b) : modN v b < b := by
  unfold modN
  have h1 := Int.emod_nonneg v.toInt (show (b : Int) ≠ 0 by omega)
  have h2 := Int.emod_lt_of_pos v.toInt (show (0 : Int) < b by omega)
  omega
theorem rem_facts (v : Int32) {b : Nat} (h : 1 ≤ b) (hb : b < 2 ^ 31) : -(b : Int) < (remI v (nI b)).toInt ∧ (remI v (nI b)).toInt < b ∧ ((remI v (nI b)).toInt % (b : Int) = v.toInt % (b : Int)) := by
  rw [remI_toInt, nI_toInt hb]
  have h0 : (0 : Int) < b := by omega
  refine ⟨?_, Int.tmod_lt_of_pos _ h0, ?_⟩
  · have h1 := Int.tmod_lt_of_pos (-v.toInt) h0
    rw [Int.neg_tmod] at h1
    omega
  · rw [Int.tmod_def, Int.sub_mul_emod_self_left]
theorem modulo_c (v : Int32) {b : Nat} (h : 1 ≤ b) (hb : b ≤ 1000) (M : Mem) : fX10_modulo v (nI b) M = some (nI (modN v b)) := by
  obtain ⟨h1, h2, h3⟩ := rem_facts v h (by omega)
  unfold fX10_modulo
  rw [if_pos (show (1 : Int32) ≤ nI b from nI_le (a := 1) h (by omega)), if_neg (nI_ne0 (by omega) (by omega))]
  by_cases hr : (0 : Int32) ≤ remI v (nI b)
  · rw [if_pos hr]
    rw [Int32.le_iff_toInt_le, Int32.toInt_zero] at hr
    congr 1
    apply Int32.toInt_inj.mp
    rw [Int.emod_eq_of_lt hr h2] at h3
    rw [nI_toInt (by have := modN_lt (v := v) h; omega)]
    unfold modN
    rw [← h3]
    omega
  · rw [if_neg hr]
    rw [Int32.le_iff_toInt_le, Int32.toInt_zero] at hr
    congr 1
    apply Int32.toInt_inj.mp
    rw [← Int.add_emod_right, Int.emod_eq_of_lt (by omega) (by omega)] at h3
    rw [Int32.toInt_add, nI_toInt (show b < 2 ^ 31 by omega), nI_toInt (by have := modN_lt (v := v) h; omega)]
    unfold modN
    rw [← h3, Int.bmod_eq_of_le (by omega) (by omega)]
    omega
theorem rem_nn {v : Int32} {b : Nat} (h : 1 ≤ b) (hb : b ≤ 1000) (hv : 0 ≤ v.toInt) : remI v (nI b) = nI (modN v b) := by
  apply Int32.toInt_inj.mp
  rw [remI_toInt, nI_toInt (show b < 2 ^ 31 by omega), nI_toInt (by have := modN_lt (v := v) h; omega), Int.tmod_eq_emod_of_nonneg hv]
  unfold modN
  have h1 := Int.emod_nonneg v.toInt (show (b : Int) ≠ 0 by omega)
  omega
theorem modulo_r (v : Int32) {b : Nat} (h : 1 ≤ b) (hb : b ≤ 1000) (M : Mem) : fX11_modulo v (nI b) M = some (nI (modN v b)) := by
  obtain ⟨h1, h2, h3⟩ := rem_facts v h (by omega)
  unfold fX11_modulo
  rw [if_neg (nI_ne0 (by omega) (by omega)), if_neg (nI_ne0 (by omega) (by omega))]
  have e : (remI v (nI b) + nI b).toInt = (remI v (nI b)).toInt + b := by
    rw [Int32.toInt_add, nI_toInt (show b < 2 ^ 31 by omega), Int.bmod_eq_of_le (by omega) (by omega)]
  rw [rem_nn h hb (by rw [e]; omega)]
  congr 2
  unfold modN
  rw [e, Int.add_emod_right, h3]
theorem modN_nI {a b : Nat} (ha : a < 2 ^ 31) : modN (nI a) b = a % b := by
  unfold modN
  rw [nI_toInt ha]
  omega
/-- a segment of code that is well formed -/
def segT (T : Nat → Int32) (w : Nat) : Prop := ∃ a b : Nat, a ≤ b ∧ b ≤ 600 ∧ T (4 + 2 * w) = nI a ∧ T (5 + 2 * w) = nI b ∧ okV T (b - a) a 0
/-- the rules among what is told -/
def ruT (T : Nat → Int32) (W g m : Nat) : Prop := 2 ≤ W ∧ W ≤ 256 ∧ T 1 = nI W ∧ 2 ≤ g ∧ g ≤ 64 ∧ T 2 = nI g ∧ m ≤ 6 ∧ T 3 = nI m ∧ (∀ w, w < m → segT T w) ∧ (T 16 = T 17 ∨ (segT T 6 ∧ T 16 ≠ T 17))
theorem valT_seg {T : Nat → Int32} {w a b : Nat} {name bound : Int32} (h4 : T (4 + 2 * w) = nI a) (h5 : T (5 + 2 * w) = nI b) (hab : a ≤ b) (hb : b ≤ 600) : valT T w name bound = (evV T name bound (b - a) a []).headD 0 := by
  unfold valT tn
  rw [h4, h5, nI_clamp (by omega), nI_clamp (by omega)]
def plT (T : Nat → Int32) (w : Nat) (name : Int32) (size : Nat) : Nat := modN (valT T w name (nI size)) size
def tagT (T : Nat → Int32) (g : Nat) (n : Nat) : Nat := if T 16 = T 17 then n % g else modN (valT T 6 (nI n) (nI g)) g
/-- the reference's -/
theorem rv_val {N w : Nat} {name bound : Int32} {M : Mem} (hN : 700 ≤ N) (hw : w ≤ 6) (h : segT (M 141).1 w) : Yo (fX11_valueOf N 140 (nI w) name bound M) (fun x => x.1 = valT (M 141).1 w name bound ∧ smF [147] M x.2) := by
  obtain ⟨a, b, hab, hb, h4, h5, hk⟩ := h
  rw [valT_seg h4 h5 hab hb]
  exact rv_ok hN hw h4 h5 hab hb hk
theorem rv_place {N w size : Nat} {name : Int32} {M : Mem} (hN : 700 ≤ N) (hw : w ≤ 6) (h : segT (M 141).1 w) (hs : 1 ≤ size) (hs2 : size ≤ 1000) : Yo (fX11_placeOf N 140 (nI w) name (nI size) M) (fun x => x.1 = nI (plT (M 141).1 w name size) ∧ smF [147] M x.2) := by
  unfold fX11_placeOf
  refine (rv_val hN hw h).bi (fun x hx => ?_)
  rw [hx.1, modulo_r _ hs hs2, Option.bind_some, yo_s]
  exact ⟨rfl, hx.2⟩
theorem rv_tag {N W g m n : Nat} {M : Mem} (hN : 700 ≤ N) (h : ruT (M 141).1 W g m) (hn : n < W) : Yo (fX11_tagOf N 140 (nI n) M) (fun x => x.1 = nI (tagT (M 141).1 g n) ∧ smF [147] M x.2) := by
  obtain ⟨_, hW, _, hg, hg2, h2, _, _, _, h6⟩ := h
  unfold fX11_tagOf fX11_tagOf_b22
  rw [if_pos (by decide), if_pos (by decide)]
  have e2 : rI M (140 + 1) (2 : Int32).toNatClampNeg = nI g := h2
  show Yo (if (M 141).1 16 = (M 141).1 17 then _ else _) _
  unfold tagT
  by_cases hq : (M 141).1 16 = (M 141).1 17
  · rw [if_pos hq, if_pos hq, if_pos rfl, if_pos (by decide), e2, if_neg (nI_ne0 (by omega) (by omega)), yo_s, rem_nn (by omega) (by omega) (by rw [nI_toInt (by omega)]; omega), modN_nI (by omega)]
    exact ⟨rfl, smF.refl⟩
  · rw [if_neg hq, if_neg hq, if_neg (by decide), if_pos (by decide), e2]
    refine (rv_val (w := 6) hN (by omega) (h6.resolve_left hq).1).bi (fun x hx => ?_)
    have e3 : rI x.2 (140 + 1) (2 : Int32).toNatClampNeg = nI g := by rw [← e2]; exact hx.2.I_ (by decide) _
    rw [if_pos (by decide), e3, hx.1, modulo_r _ (by omega) (by omega), Option.bind_some, yo_s]
    exact ⟨rfl, hx.2⟩
/-- the class's rules at b tell T: W names, g tags, m marks; the tables hold for names below W -/
def cRu (M : Mem) (b : Nat) (T : Nat → Int32) (W g m : Nat) : Prop :=
  ruT T W g m ∧ rI M b 0 = T 0 ∧ rI M b 1 = nI W ∧ rI M b 2 = nI g ∧ rI M b 3 = nI m ∧
  (∀ w, w < m → rI M (b + 2) w = T (4 + 2 * w) ∧ rI M (b + 3) w = T (5 + 2 * w) ∧ ∀ k, tn T (4 + 2 * w) ≤ k → k < tn T (5 + 2 * w) → rI M (b + 1) k = encV (T (20 + 2 * k)) (T (21 + 2 * k))) ∧
  (∀ n, n < W → rI M (b + 4) n = nI (tagT T g n)) ∧
  (∀ w, w < m → bt (rI M b 7) w = false → ∀ n, n < W → ∀ bound, rI M (b + 5) (256 * w + n) = valT T w (nI n) bound)
theorem cRu.moved {M M' : Mem} {b : Nat} {T : Nat → Int32} {W g m : Nat} (h : cRu M b T W g m) (hq : ∀ a, b ≤ a → a < b + 6 → M' a = M a) : cRu M' b T W g m := by
  have hr : ∀ a k, b ≤ a → a < b + 6 → rI M' a k = rI M a k := fun a k h1 h2 => by unfold rI; rw [hq a h1 h2]
  obtain ⟨h1, h2, h3, h4, h5, h6, h7, h8⟩ := h
  refine ⟨h1, ?_, ?_, ?_, ?_, ?_, ?_, ?_⟩
  · rw [hr _ _ (by omega) (by omega)]; exact h2
  · rw [hr _ _ (by omega) (by omega)]; exact h3
  · rw [hr _ _ (by omega) (by omega)]; exact h4
  · rw [hr _ _ (by omega) (by omega)]; exact h5
  · intro w hw
    obtain ⟨g1, g2, g3⟩ := h6 w hw
    refine ⟨?_, ?_, fun k hk1 hk2 => ?_⟩
    · rw [hr _ _ (by omega) (by omega)]; exact g1
    · rw [hr _ _ (by omega) (by omega)]; exact g2
    · rw [hr _ _ (by omega) (by omega)]; exact g3 k hk1 hk2
  · intro n hn
    rw [hr _ _ (by omega) (by omega)]; exact h7 n hn
  · intro w hw hb n hn bound
    rw [hr _ _ (by omega) (by omega)] at hb ⊢
    exact h8 w hw hb n hn bound
theorem cv_comp {N b w W g m : Nat} {T : Nat → Int32} {name bound : Int32} {M : Mem} (hN : 700 ≤ N) (h : cRu M b T W g m) (hw : w < m) :
    Yo (fX6_compute N b (rI M (b + 2) w) (rI M (b + 3) w) name bound M) (fun x => x.1 = valT T w name bound ∧ smF [b + 6] M x.2) := by
  obtain ⟨⟨_, _, _, _, _, _, _, _, hs, _⟩, _, _, _, _, h6, _⟩ := h
  obtain ⟨p, q, hpq, hq, h4, h5, hk⟩ := hs w hw
  obtain ⟨g1, g2, g3⟩ := h6 w hw
  rw [g1, g2, h4, h5, valT_seg h4 h5 hpq hq]
  unfold tn at g3
  rw [h4, h5, nI_clamp (by omega), nI_clamp (by omega)] at g3
  exact cp_ok hN hq g3 hpq hk
theorem cv_val {N b w W g m : Nat} {T : Nat → Int32} {name bound : Int32} {M : Mem} (hN : 700 ≤ N) (h : cRu M b T W g m) (hw : w < m) :
    Yo (fX6_valueOf N b (nI w) name bound M) (fun x => x.1 = valT T w name bound ∧ smF [b + 6] M x.2) := by
  have hm : m ≤ 6 := h.1.2.2.2.2.2.2.1
  have h3 : rI M b 3 = nI m := h.2.2.2.2.1
  unfold fX6_valueOf
  rw [if_neg (nI_pos (by omega)), h3, if_neg (nI_ge hw (by omega)), if_pos (inB_nI (by omega) (by decide)), if_pos (inB_nI (by omega) (by decide)), nI_clamp (by omega)]
  refine (cv_comp hN h hw).bi (fun x hx => ?_)
  rw [yo_s]
  exact hx
theorem cv_place {N b w W g m size : Nat} {T : Nat → Int32} {name : Int32} {M : Mem} (hN : 700 ≤ N) (h : cRu M b T W g m) (hw : w < m) (hs : 1 ≤ size) (hs2 : size ≤ 1000) :
    Yo (fX6_placeOf N b (nI w) name (nI size) M) (fun x => x.1 = nI (plT T w name size) ∧ smF [b + 6] M x.2) := by
  have hm : m ≤ 6 := h.1.2.2.2.2.2.2.1
  have hW : W ≤ 256 := h.1.2.1
  have h1 : rI M b 1 = nI W := h.2.2.1
  have h3 : rI M b 3 = nI m := h.2.2.2.2.1
  have slow : Yo (fX6_placeOf_b54 N b (nI w) name (nI size) M) (fun x => x.1 = nI (plT T w name size) ∧ smF [b + 6] M x.2) := by
    unfold fX6_placeOf_b54 fX6_placeOf_b55
    rw [if_neg (by decide), if_pos (inB_nI (by omega) (by decide)), if_pos (inB_nI (by omega) (by decide)), nI_clamp (by omega)]
    refine (cv_comp hN h hw).bi (fun x hx => ?_)
    unfold fX6_placeOf_b95
    rw [hx.1, modulo_c _ hs hs2, Option.bind_some, yo_s]
    exact ⟨rfl, hx.2⟩
  unfold fX6_placeOf
  rw [if_neg (nI_pos (by omega)), h3, if_neg (nI_ge hw (by omega)), if_pos (show nI w < (6 : Int32) from nI_lt (b := 6) (by omega) (by decide))]
  refine yo_i (fun hbit => ?_) (fun _ => slow)
  refine yo_i (fun _ => slow) (fun hn0 => ?_)
  rw [h1]
  refine yo_i (fun _ => slow) (fun hn1 => ?_)
  refine yo_i (fun _ => slow) (fun hn2 => ?_)
  obtain ⟨n, hn, rfl⟩ := nI_of hn0
  rw [nI_leI (by omega) hn] at hn1
  unfold fX6_placeOf_b55 fX6_placeOf_b95
  have e : nI w * (256 : Int32) + nI n = nI (256 * w + n) := by rw [li_256, pk_mul, nI_add, Nat.mul_comm]
  rw [if_pos rfl, e, if_pos (inB_nI (by omega) (by decide)), nI_clamp (by omega), h.2.2.2.2.2.2.2 w hw ((bt_test _ (by omega)).mp hbit) n (by omega) (nI size), modulo_c _ hs hs2, Option.bind_some, yo_s]
  exact ⟨rfl, smF.refl⟩
theorem cv_tag {b W g m n : Nat} {T : Nat → Int32} {M : Mem} (h : cRu M b T W g m) (hn : n < W) : fX6_tagOf b (nI n) M = some (nI (tagT T g n)) := by
  have hW : W ≤ 256 := h.1.2.1
  unfold fX6_tagOf
  rw [if_neg (nI_pos (by omega)), if_neg (show ¬ (256 : Int32) ≤ nI n from nI_ge (b := 256) (by omega) (by decide)), if_pos (inB_nI (by omega) (by decide)), nI_clamp (by omega), h.2.2.2.2.2.2.1 n hn]
