/-! SEMANTICS, VALUES. T is what the reference is told (its array of ints): an expression lies there in pairs, operands first. -/
def opV (w a b : Int32) : Int32 := if w = 43 then a + b else if w = 45 then a - b else if w = 42 then a * b else if b = 0 then 0 else if w = 47 then a / b else remI a b
def stV (w v name bound : Int32) (s : List Int32) : List Int32 := if w = 0 then v :: s else if w = 1 then name :: s else if w = 2 then bound :: s else match s with
  | b :: a :: s' => opV w a b :: s'
  | s' => s'
def evV (T : Nat → Int32) (name bound : Int32) : Nat → Nat → List Int32 → List Int32
  | 0, _, s => s
  | c + 1, k, s => evV T name bound c (k + 1) (stV (T (20 + 2 * k)) (T (21 + 2 * k)) name bound s)
def isOpV (w : Int32) : Prop := w = 43 ∨ w = 45 ∨ w = 42 ∨ w = 47 ∨ w = 37
def isNumV (w v : Int32) : Prop := (w = 0 ∧ ∃ n : Nat, n ≤ 99999 ∧ v = nI n) ∨ w = 1 ∨ w = 2
def okV (T : Nat → Int32) : Nat → Nat → Nat → Prop
  | 0, _, d => d = 1
  | c + 1, k, d => (isNumV (T (20 + 2 * k)) (T (21 + 2 * k)) ∧ d < 16 ∧ okV T c (k + 1) (d + 1)) ∨ (isOpV (T (20 + 2 * k)) ∧ 2 ≤ d ∧ okV T c (k + 1) (d - 1))
/-- how the class keeps such a pair -/
def encV (w v : Int32) : Int32 := if w = 0 then v else if w = 1 then -1 else if w = 2 then -2 else if w = 43 then -3 else if w = 45 then -4 else if w = 42 then -5 else if w = 47 then -6 else -7
def tn (T : Nat → Int32) (k : Nat) : Nat := (T k).toNatClampNeg
def valT (T : Nat → Int32) (w : Nat) (name bound : Int32) : Int32 := (evV T name bound (tn T (5 + 2 * w) - tn T (4 + 2 * w)) (tn T (4 + 2 * w)) []).headD 0
def stk (M : Mem) (a : Nat) (s : List Int32) : Prop := ∀ j, j < s.length → rI M a (s.length - 1 - j) = s.getD j 0
theorem stk_push {M : Mem} {a : Nat} {s : List Int32} (h : stk M a s) (v : Int32) : stk (wI M a s.length v) a (v :: s) := by
  intro j hj
  rw [rI_wI]
  cases j with
  | zero => rw [if_pos ⟨rfl, by simp⟩]; rfl
  | succ j =>
    rw [List.length_cons] at hj ⊢
    rw [if_neg (fun q => by have := q.2; omega), show s.length + 1 - 1 - (j + 1) = s.length - 1 - j by omega]
    exact h j (by omega)
theorem stk_op {M : Mem} {a : Nat} {x y : Int32} {s : List Int32} (h : stk M a (x :: y :: s)) (v : Int32) : stk (wI M a s.length v) a (v :: s) := by
  intro j hj
  rw [rI_wI]
  cases j with
  | zero => rw [if_pos ⟨rfl, by simp⟩]; rfl
  | succ j =>
    rw [List.length_cons] at hj ⊢
    rw [if_neg (fun q => by have := q.2; omega)]
    have h1 := h (j + 2) (by simp only [List.length_cons]; omega)
    simp only [List.length_cons] at h1
    rw [show s.length + 1 - 1 - (j + 1) = s.length + 1 + 1 - 1 - (j + 2) by omega]
    exact h1
theorem stk_two {M : Mem} {a : Nat} {s : List Int32} (h : stk M a s) (h2 : 2 ≤ s.length) : ∃ x y s', s = x :: y :: s' ∧ rI M a (s'.length + 1) = x ∧ rI M a s'.length = y := by
  match s, h, h2 with
  | [], _, h2 => simp at h2
  | [_], _, h2 => simp at h2
  | x :: y :: s', h, _ =>
    refine ⟨x, y, s', rfl, ?_, ?_⟩
    · have h1 := h 0 (by simp)
      simp only [List.length_cons] at h1
      exact h1
    · have h1 := h 1 (by simp)
      simp only [List.length_cons] at h1
      exact h1
theorem stk_one {M : Mem} {a : Nat} {s : List Int32} (h : stk M a s) (h1 : s.length = 1) : rI M a 0 = s.headD 0 := by
  match s, h, h1 with
  | [x], h, _ => exact h 0 (by simp)
theorem evV_s (T : Nat → Int32) (name bound : Int32) (c k : Nat) (s : List Int32) : evV T name bound (c + 1) k s = evV T name bound c (k + 1) (stV (T (20 + 2 * k)) (T (21 + 2 * k)) name bound s) := rfl
theorem evV_0 (T : Nat → Int32) (name bound : Int32) (k : Nat) (s : List Int32) : evV T name bound 0 k s = s := rfl
theorem encs (v : Int32) : encV 43 v = -3 ∧ encV 45 v = -4 ∧ encV 42 v = -5 ∧ encV 47 v = -6 ∧ encV 37 v = -7 ∧ encV 1 v = -1 ∧ encV 2 v = -2 := by
  unfold encV
  refine ⟨?_, ?_, ?_, ?_, ?_, ?_, ?_⟩ <;> simp
theorem op_ne {w : Int32} (h : isOpV w) : w ≠ 0 ∧ w ≠ 1 ∧ w ≠ 2 := by
  rcases h with h | h | h | h | h <;> subst h <;> decide
theorem stV_op {w v name bound x y : Int32} {s : List Int32} (h : isOpV w) : stV w v name bound (x :: y :: s) = opV w y x :: s := by
  obtain ⟨h0, h1, h2⟩ := op_ne h
  unfold stV
  rw [if_neg h0, if_neg h1, if_neg h2]
theorem enc_num {n : Nat} (h : n ≤ 99999) : ¬ nI n ≤ (-3 : Int32) ∧ nI n ≠ -1 ∧ nI n ≠ -2 := by
  have h1 := nI_toInt (n := n) (by omega)
  refine ⟨?_, ?_, ?_⟩
  · rw [Int32.le_iff_toInt_le, h1]
    have : (-3 : Int32).toInt = -3 := by decide
    omega
  · intro q
    rw [q] at h1
    have : (-1 : Int32).toInt = -1 := by decide
    omega
  · intro q
    rw [q] at h1
    have : (-2 : Int32).toInt = -2 := by decide
    omega
/-- the class's stack machine -/
theorem cp_ok {N v0 a b : Nat} {T : Nat → Int32} {name bound : Int32} {M : Mem} (hN : 700 ≤ N) (hb : b ≤ 600) (hc : ∀ k, a ≤ k → k < b → rI M (v0 + 1) k = encV (T (20 + 2 * k)) (T (21 + 2 * k))) (hab : a ≤ b) (hk : okV T (b - a) a 0) :
    Yo (fX6_compute N v0 (nI a) (nI b) name bound M) (fun x => x.1 = (evV T name bound (b - a) a []).headD 0 ∧ smF [v0 + 6] M x.2) := by
  unfold fX6_compute
  refine yo_f3 (F := fX6_compute_l6 N v0 (nI b) name bound) b (fun k v5 v6 M' => a ≤ k ∧ v6 = nI k ∧ smF [v0 + 6] M M' ∧ ∃ s : List Int32, v5 = nI s.length ∧ s.length ≤ 16 ∧ okV T (b - k) k s.length ∧ stk M' (v0 + 6) s ∧ evV T name bound (b - k) k s = evV T name bound (b - a) a []) ?_ N a _ _ _ hab (by omega) ⟨Nat.le_refl a, rfl, smF.refl, [], rfl, by simp, hk, fun j hj => absurd hj (Nat.not_lt_zero j), rfl⟩
  intro n k v5 v6 M' hkb ⟨hak, hv6, hF, s, hv5, h16, hok, hst, hev⟩ ih
  subst hv5 hv6
  show Yo (fX6_compute_l6_s N v0 (nI b) name bound (fX6_compute_l6 N v0 (nI b) name bound n) (nI s.length) (nI k) M') _
  unfold fX6_compute_l6_s fX6_compute_b234
  rcases Nat.lt_or_ge k b with hlt | hge
  · rw [if_neg (nI_ge hlt (by omega)), if_neg (show ¬ (600 : Int32) ≤ nI k from nI_ge (a := k) (b := 600) (by omega) (by decide)), if_pos (inB_nI (by omega) (by decide)), nI_clamp (by omega), hF.I_ (by simp) k, hc k hak hlt]
    obtain ⟨c, hce⟩ : ∃ c, b - k = c + 1 := ⟨b - k - 1, by omega⟩
    have hce' : b - (k + 1) = c := by omega
    rw [hce] at hok hev
    unfold okV at hok
    rw [evV_s] at hev
    have push : ∀ (v : Int32), stV (T (20 + 2 * k)) (T (21 + 2 * k)) name bound s = v :: s → s.length < 16 → okV T c (k + 1) (s.length + 1) → Yo (fX6_compute_b75 N (fX6_compute_l6 N v0 (nI b) name bound n) v0 (nI b) name bound (nI s.length) (nI k) v (nI s.length) (v0 + 6) M') (fun x => x.1 = (evV T name bound (b - a) a []).headD 0 ∧ smF [v0 + 6] M x.2) := by
      intro v hv hd hok'
      unfold fX6_compute_b75 fX6_compute_b228
      rw [if_pos (inB_nI hd (by decide)), nI_clamp (by omega), nI_1, nI_1]
      refine ih _ _ _ hlt ⟨by omega, rfl, hF.pI_ (by simp) _ _, v :: s, rfl, by simp only [List.length_cons]; omega, by rw [hce']; exact hok', stk_push hst v, ?_⟩
      rw [hce', ← hv]
      exact hev
    rcases hok with ⟨hnum, hd, hok⟩ | ⟨hop, hd, hok⟩
    · have h16' : ¬ (16 : Int32) ≤ nI s.length := nI_ge (a := s.length) (b := 16) hd (by decide)
      rcases hnum with ⟨hw, m, hm, hv⟩ | hw | hw
      · obtain ⟨e1, e2, e3⟩ := enc_num hm
        have he : encV (T (20 + 2 * k)) (T (21 + 2 * k)) = nI m := by unfold encV; rw [if_pos hw, hv]
        rw [he, if_neg e1, if_neg h16', if_neg e2, if_neg e3]
        exact push _ (by unfold stV; rw [if_pos hw, hv]) hd hok
      · have he : encV (T (20 + 2 * k)) (T (21 + 2 * k)) = -1 := by rw [hw]; exact (encs _).2.2.2.2.2.1
        rw [he, if_neg (by decide), if_neg h16', if_pos rfl]
        exact push _ (by unfold stV; rw [hw]; rfl) hd hok
      · have he : encV (T (20 + 2 * k)) (T (21 + 2 * k)) = -2 := by rw [hw]; exact (encs _).2.2.2.2.2.2
        rw [he, if_neg (by decide), if_neg h16', if_neg (by decide), if_pos rfl]
        exact push _ (by unfold stV; rw [hw]; rfl) hd hok
    · obtain ⟨x, y, s', rfl, hx, hy⟩ := stk_two hst hd
      rw [stV_op hop] at hev
      simp only [List.length_cons] at hok h16 hd ⊢
      have fin : ∀ v : Int32, v = opV (T (20 + 2 * k)) y x → Yo (fX6_compute_b217 N (fX6_compute_l6 N v0 (nI b) name bound n) v0 (nI b) name bound (nI (s'.length + 1)) (nI k) v M') (fun x => x.1 = (evV T name bound (b - a) a []).headD 0 ∧ smF [v0 + 6] M x.2) := by
        intro v hv
        unfold fX6_compute_b217 fX6_compute_b228
        rw [nI_pred, if_pos (inB_nI (by omega) (by decide)), nI_clamp (by omega), nI_1]
        refine ih _ _ _ hlt ⟨by omega, rfl, hF.pI_ (by simp) _ _, v :: s', rfl, by simp only [List.length_cons]; omega, by rw [hce']; exact hok, stk_op hst v, ?_⟩
        rw [hce', hv]
        exact hev
      have hle : encV (T (20 + 2 * k)) (T (21 + 2 * k)) ≤ (-3 : Int32) := by
        rcases hop with h | h | h | h | h <;> rw [h] <;> simp only [(encs _).1, (encs _).2.1, (encs _).2.2.1, (encs _).2.2.2.1, (encs _).2.2.2.2.1] <;> decide
      rw [if_pos hle]
      unfold fX6_compute_b82 fX6_compute_b196 fX6_compute_b215
      have e1 : nI (s'.length + 1 + 1) + (-1 : Int32) = nI (s'.length + 1) := pk_m1 _
      have e2 : nI (s'.length + 1) - (1 : Int32) = nI s'.length := nI_pred _
      rw [e1, e2, if_neg (show ¬ (-3 : Int32) < encV (T (20 + 2 * k)) (T (21 + 2 * k)) from fun q => by rw [Int32.lt_iff_toInt_lt] at q; rw [Int32.le_iff_toInt_le] at hle; omega), if_neg (show ¬ nI (s'.length + 1 + 1) < (2 : Int32) from nI_nlt (a := s'.length + 1 + 1) (b := 2) (by omega) (by omega)), if_pos (inB_nI (by omega) (by decide)), if_pos (inB_nI (by omega) (by decide)), nI_clamp (show s'.length + 1 < 2 ^ 31 by omega), nI_clamp (show s'.length < 2 ^ 31 by omega), hx, hy]
      rcases hop with h | h | h | h | h
      · have he : encV (T (20 + 2 * k)) (T (21 + 2 * k)) = -3 := by rw [h]; exact (encs _).1
        rw [he, if_neg (by decide), if_neg (by decide), if_neg (by decide), if_pos rfl]
        exact fin _ (by rw [h]; rfl)
      · have he : encV (T (20 + 2 * k)) (T (21 + 2 * k)) = -4 := by rw [h]; exact (encs _).2.1
        rw [he, if_neg (by decide), if_neg (by decide), if_pos rfl]
        exact fin _ (by rw [h]; rfl)
      · have he : encV (T (20 + 2 * k)) (T (21 + 2 * k)) = -5 := by rw [h]; exact (encs _).2.2.1
        rw [he, if_neg (by decide), if_pos rfl]
        exact fin _ (by rw [h]; rfl)
      · have he : encV (T (20 + 2 * k)) (T (21 + 2 * k)) = -6 := by rw [h]; exact (encs _).2.2.2.1
        rw [he, if_pos rfl]
        by_cases hz : x = 0
        · rw [if_pos hz]
          exact fin _ (by rw [h]; unfold opV; rw [if_neg (by decide), if_neg (by decide), if_neg (by decide), if_pos hz])
        · rw [if_neg hz, if_neg hz]
          exact fin _ (by rw [h]; unfold opV; rw [if_neg (by decide), if_neg (by decide), if_neg (by decide), if_neg hz, if_pos rfl])
      · have he : encV (T (20 + 2 * k)) (T (21 + 2 * k)) = -7 := by rw [h]; exact (encs _).2.2.2.2.1
        rw [he, if_neg (by decide), if_neg (by decide), if_neg (by decide), if_neg (by decide)]
        by_cases hz : x = 0
        · rw [if_pos hz]
          exact fin _ (by rw [h]; unfold opV; rw [if_neg (by decide), if_neg (by decide), if_neg (by decide), if_pos hz])
        · rw [if_neg hz, if_neg hz]
          exact fin _ (by rw [h]; unfold opV; rw [if_neg (by decide), if_neg (by decide), if_neg (by decide), if_neg hz, if_neg (by decide)])
  · have hkb' : k = b := by omega
    subst hkb'
    rw [Nat.sub_self] at hok hev
    unfold okV at hok
    rw [evV_0] at hev
    rw [if_pos (nI_le (Nat.le_refl k) (by omega)), if_pos (by decide), yo_s]
    refine ⟨?_, hF⟩
    rw [show ((0 : Int32).toNatClampNeg) = 0 from rfl]
    show rI M' (v0 + 6) 0 = _
    rw [stk_one hst hok, hev]
theorem joins_ok {w a b : Int32} (h : isOpV w) (M : Mem) : fX11_joins w a b M = some (opV w a b) := by
  unfold fX11_joins opV
  rcases h with h | h | h | h | h <;> subst h <;> by_cases hz : b = 0 <;> simp [hz]
/-- the reference's stack machine -/
theorem rv_ok {N w a b : Nat} {name bound : Int32} {M : Mem} (hN : 700 ≤ N) (hw : w ≤ 6) (h4 : rI M 141 (4 + 2 * w) = nI a) (h5 : rI M 141 (5 + 2 * w) = nI b) (hab : a ≤ b) (hb : b ≤ 600) (hk : okV (M 141).1 (b - a) a 0) :
    Yo (fX11_valueOf N 140 (nI w) name bound M) (fun x => x.1 = (evV (M 141).1 name bound (b - a) a []).headD 0 ∧ smF [147] M x.2) := by
  have i4 : (4 : Int32) + ((2 : Int32) * nI w) = nI (4 + 2 * w) := by rw [li_4, li_2, pk_mul, nI_add]
  have i5 : nI (4 + 2 * w) + (1 : Int32) = nI (5 + 2 * w) := by rw [nI_1]; congr 1; omega
  have i20 : ∀ k, (20 : Int32) + ((2 : Int32) * nI k) = nI (20 + 2 * k) := fun k => by rw [li_20, li_2, pk_mul, nI_add]
  unfold fX11_valueOf
  rw [i4, if_pos (inB_nI (by omega) (by decide)), nI_clamp (by omega)]
  show Yo (fX11_valueOf_l20 N 140 (nI w) name bound N 0 ((20 : Int32) + ((2 : Int32) * rI M 141 (4 + 2 * w))) M) _
  rw [h4, i20]
  refine yo_f3 (F := fX11_valueOf_l20 N 140 (nI w) name bound) b (fun k v4 v5 M' => a ≤ k ∧ v5 = nI (20 + 2 * k) ∧ smF [147] M M' ∧ ∃ s : List Int32, v4 = nI s.length ∧ s.length ≤ 16 ∧ okV (M 141).1 (b - k) k s.length ∧ stk M' 147 s ∧ evV (M 141).1 name bound (b - k) k s = evV (M 141).1 name bound (b - a) a []) ?_ N a _ _ _ hab (by omega) ⟨Nat.le_refl a, rfl, smF.refl, [], rfl, by simp, hk, fun j hj => absurd hj (Nat.not_lt_zero j), rfl⟩
  intro n k v4 v5 M' hkb ⟨hak, hv5, hF, s, hv4, h16, hok, hst, hev⟩ ih
  subst hv4 hv5
  show Yo (fX11_valueOf_l20_s N 140 (nI w) name bound (fX11_valueOf_l20 N 140 (nI w) name bound n) (nI s.length) (nI (20 + 2 * k)) M') _
  unfold fX11_valueOf_l20_s
  have hT : ∀ j, rI M' 141 j = (M 141).1 j := fun j => hF.I_ (by decide) j
  have g5 : rI M' (140 + 1) (5 + 2 * w) = nI b := by rw [← h5]; exact hF.I_ (by decide) _
  rw [i4, i5, if_pos (inB_nI (by omega) (by decide)), nI_clamp (by omega), g5, i20]
  rcases Nat.lt_or_ge k b with hlt | hge
  · rw [if_neg (nI_ge (by omega) (by omega)), if_pos (inB_nI (by omega) (by decide)), nI_clamp (by omega)]
    show Yo (if (2 : Int32) < rI M' 141 (20 + 2 * k) then _ else _) _
    rw [hT]
    obtain ⟨c, hce⟩ : ∃ c, b - k = c + 1 := ⟨b - k - 1, by omega⟩
    have hce' : b - (k + 1) = c := by omega
    rw [hce] at hok hev
    unfold okV at hok
    rw [evV_s] at hev
    have i22 : nI (20 + 2 * k) + (2 : Int32) = nI (20 + 2 * (k + 1)) := by rw [li_2, nI_add]; congr 1
    have push : ∀ (v : Int32), stV ((M 141).1 (20 + 2 * k)) ((M 141).1 (21 + 2 * k)) name bound s = v :: s → s.length < 16 → okV (M 141).1 c (k + 1) (s.length + 1) → Yo (fX11_valueOf_b91 N (fX11_valueOf_l20 N 140 (nI w) name bound n) 140 (nI w) name bound (nI s.length) (nI (20 + 2 * k)) v (nI s.length) 147 M') (fun x => x.1 = (evV (M 141).1 name bound (b - a) a []).headD 0 ∧ smF [147] M x.2) := by
      intro v hv hd hok'
      unfold fX11_valueOf_b91 fX11_valueOf_b131
      rw [if_pos (inB_nI (by omega) (by decide)), nI_clamp (by omega), nI_1, i22]
      refine ih _ _ _ hlt ⟨by omega, rfl, hF.pI_ (by simp) _ _, v :: s, rfl, by simp only [List.length_cons]; omega, by rw [hce']; exact hok', stk_push hst v, ?_⟩
      rw [hce', ← hv]
      exact hev
    rcases hok with ⟨hnum, hd, hok⟩ | ⟨hop, hd, hok⟩
    · rcases hnum with ⟨hw0, m, hm, hv⟩ | hw1 | hw1
      · rw [hw0, if_neg (by decide), if_pos rfl]
        have i21 : nI (20 + 2 * k) + (1 : Int32) = nI (21 + 2 * k) := by rw [nI_1]; congr 1; omega
        rw [i21, if_pos (inB_nI (by omega) (by decide)), nI_clamp (by omega)]
        show Yo (fX11_valueOf_b91 N (fX11_valueOf_l20 N 140 (nI w) name bound n) 140 (nI w) name bound (nI s.length) (nI (20 + 2 * k)) (rI M' 141 (21 + 2 * k)) (nI s.length) 147 M') _
        rw [hT]
        exact push _ (by unfold stV; rw [if_pos hw0]) hd hok
      · rw [hw1, if_neg (by decide), if_neg (by decide), if_pos rfl]
        exact push _ (by unfold stV; rw [hw1]; rfl) hd hok
      · rw [hw1, if_neg (by decide), if_neg (by decide), if_neg (by decide)]
        exact push _ (by unfold stV; rw [hw1]; rfl) hd hok
    · obtain ⟨x, y, s', rfl, hx, hy⟩ := stk_two hst hd
      rw [stV_op hop] at hev
      simp only [List.length_cons] at hok h16 hd ⊢
      have hgt : (2 : Int32) < (M 141).1 (20 + 2 * k) := by
        rcases hop with h | h | h | h | h <;> rw [h] <;> decide
      have e1 : nI (s'.length + 1 + 1) + (-1 : Int32) = nI (s'.length + 1) := pk_m1 _
      have e2 : nI (s'.length + 1) - (1 : Int32) = nI s'.length := nI_pred _
      rw [if_pos hgt, e1, e2, if_pos (inB_nI (by omega) (by decide)), if_pos (inB_nI (by omega) (by decide)), nI_clamp (show s'.length + 1 < 2 ^ 31 by omega), nI_clamp (show s'.length < 2 ^ 31 by omega)]
      show Yo ((fX11_joins ((M 141).1 (20 + 2 * k)) (rI M' 147 s'.length) (rI M' 147 (s'.length + 1)) M').bind _) _
      rw [hx, hy, joins_ok hop, Option.bind_some, if_pos (inB_nI (by omega) (by decide))]
      unfold fX11_valueOf_b131
      rw [i22]
      refine ih _ _ _ hlt ⟨by omega, rfl, hF.pI_ (by decide) _ _, opV ((M 141).1 (20 + 2 * k)) y x :: s', rfl, by simp only [List.length_cons]; omega, by rw [hce']; exact hok, stk_op hst _, ?_⟩
      rw [hce']
      exact hev
  · have hkb' : k = b := by omega
    subst hkb'
    rw [Nat.sub_self] at hok hev
    unfold okV at hok
    rw [evV_0] at hev
    rw [if_pos (nI_le (Nat.le_refl _) (by omega)), if_pos (by decide), yo_s]
    refine ⟨?_, hF⟩
    show rI M' 147 0 = _
    rw [stk_one hst hok, hev]
