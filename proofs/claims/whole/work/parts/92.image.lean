/-! SEMANTICS, IMAGES: what is told matters below 3268 alone; shelves are copied -/
theorem evV_cong {T T' : Nat → Int32} (h : ∀ k, k < 1220 → T' k = T k) {name bound : Int32} : ∀ (c k : Nat) (s : List Int32), k + c ≤ 600 → evV T' name bound c k s = evV T name bound c k s
  | 0, _, _, _ => rfl
  | c + 1, k, s, hk => by
    rw [evV_s, evV_s, h (20 + 2 * k) (by omega), h (21 + 2 * k) (by omega)]
    exact evV_cong h c (k + 1) _ (by omega)
theorem okV_cong {T T' : Nat → Int32} (h : ∀ k, k < 1220 → T' k = T k) : ∀ (c k d : Nat), k + c ≤ 600 → okV T c k d → okV T' c k d
  | 0, _, _, _, q => q
  | c + 1, k, d, hk, q => by
    unfold okV at q ⊢
    rw [h (20 + 2 * k) (by omega), h (21 + 2 * k) (by omega)]
    rcases q with ⟨q1, q2, q3⟩ | ⟨q1, q2, q3⟩
    · exact Or.inl ⟨q1, q2, okV_cong h c (k + 1) _ (by omega) q3⟩
    · exact Or.inr ⟨q1, q2, okV_cong h c (k + 1) _ (by omega) q3⟩
theorem segT_cong {T T' : Nat → Int32} (h : ∀ k, k < 1220 → T' k = T k) {w : Nat} (hw : w ≤ 6) (q : segT T w) : segT T' w := by
  obtain ⟨a, b, h1, h2, h3, h4, h5⟩ := q
  exact ⟨a, b, h1, h2, by rw [h _ (by omega)]; exact h3, by rw [h _ (by omega)]; exact h4, okV_cong h _ _ _ (by omega) h5⟩
theorem valT_cong {T T' : Nat → Int32} (h : ∀ k, k < 1220 → T' k = T k) {w : Nat} (hw : w ≤ 6) (q : segT T w) (name bound : Int32) : valT T' w name bound = valT T w name bound := by
  obtain ⟨a, b, h1, h2, h3, h4, h5⟩ := q
  rw [valT_seg h3 h4 h1 h2, valT_seg (T := T') (by rw [h _ (by omega)]; exact h3) (by rw [h _ (by omega)]; exact h4) h1 h2, evV_cong h _ _ _ (by omega)]
theorem ruT_cong {T T' : Nat → Int32} {W g m : Nat} (h : ∀ k, k < 1220 → T' k = T k) (q : ruT T W g m) : ruT T' W g m := by
  obtain ⟨q1, q2, q3, q4, q5, q6, q7, q8, q9, q10⟩ := q
  refine ⟨q1, q2, by rw [h 1 (by omega)]; exact q3, q4, q5, by rw [h 2 (by omega)]; exact q6, q7, by rw [h 3 (by omega)]; exact q8, fun w hw => segT_cong h (by omega) (q9 w hw), ?_⟩
  rw [h 16 (by omega), h 17 (by omega)]
  exact q10.imp id (fun z => ⟨segT_cong h (by omega) z.1, z.2⟩)
theorem tagT_cong {T T' : Nat → Int32} {W g m : Nat} (h : ∀ k, k < 1220 → T' k = T k) (q : ruT T W g m) (n : Nat) : tagT T' g n = tagT T g n := by
  unfold tagT
  rw [h 16 (by omega), h 17 (by omega)]
  by_cases e : T 16 = T 17
  · rw [if_pos e, if_pos e]
  · rw [if_neg e, if_neg e, valT_cong h (by omega) (q.2.2.2.2.2.2.2.2.2.resolve_left e).1]
theorem cRu_cong {M : Mem} {b : Nat} {T T' : Nat → Int32} {W g m : Nat} (h : ∀ k, k < 1220 → T' k = T k) (q : cRu M b T W g m) : cRu M b T' W g m := by
  obtain ⟨q1, q2, q3, q4, q5, q6, q7, q8⟩ := q
  have hm : m ≤ 6 := q1.2.2.2.2.2.2.1
  refine ⟨ruT_cong h q1, by rw [h 0 (by omega)]; exact q2, q3, q4, q5, fun w hw => ?_, fun n hn => ?_, fun w hw hb n hn bound => ?_⟩
  · obtain ⟨a, b', h1, h2, h3, h4, h5⟩ := q1.2.2.2.2.2.2.2.2.1 w hw
    obtain ⟨g1, g2, g3⟩ := q6 w hw
    unfold tn at g3 ⊢
    rw [h _ (show 4 + 2 * w < 1220 by omega), h _ (show 5 + 2 * w < 1220 by omega)]
    refine ⟨g1, g2, fun k hk1 hk2 => ?_⟩
    have hb : k < b' := by rw [h4, nI_clamp (by omega)] at hk2; exact hk2
    rw [h _ (show 20 + 2 * k < 1220 by omega), h _ (show 21 + 2 * k < 1220 by omega)]
    exact g3 k hk1 hk2
  · rw [tagT_cong h q1]; exact q7 n hn
  · rw [valT_cong h (by omega) (q1.2.2.2.2.2.2.2.2.1 w hw)]; exact q8 w hw hb n hn bound
theorem rq_cong {T T' : Nat → Int32} (h : ∀ k, k < 3268 → T' k = T k) {r k : Nat} (hr : r < 4) (hk : k < 512) : rq T' r k = rq T r k := h _ (by omega)
theorem roT_congR {T T' : Nat → Int32} {r W m kd sz mk ex ly : Nat} (e : ∀ k, k < 512 → rq T' r k = rq T r k) (q : roT T r W m kd sz mk ex ly) : roT T' r W m kd sz mk ex ly := by
  obtain ⟨⟨q0, q1, q2, q3, q4⟩, k5, ⟨p1, p2⟩, ⟨c1, c2, c3, c4, c5⟩, p, hp, hp2⟩ := q
  refine ⟨⟨by rw [e 0 (by omega)]; exact q0, by rw [e 1 (by omega)]; exact q1, by rw [e 2 (by omega)]; exact q2, by rw [e 3 (by omega)]; exact q3, by rw [e 4 (by omega)]; exact q4⟩, k5, ⟨fun n hn => ?_, fun n h1 h2 => ?_⟩, ⟨fun z j hj => ?_, fun z j hj => ?_, fun z j hj => ?_, fun z j h1 h2 => ?_, fun z => ?_⟩, p, hp, by rw [e 5 (by omega)]; exact hp2⟩
  · rw [e _ (by omega)]; exact p1 n hn
  · rw [e _ (by omega)]; exact p2 n h1 h2
  · rw [e _ (by omega)]; exact c1 z j hj
  · rw [e _ (by omega)]; exact c2 z j hj
  · rw [e _ (by omega)]; exact c3 z j hj
  · rw [e _ (by omega)]; exact c4 z j h1 h2
  · obtain ⟨⟨t, ht, ht2⟩, l1⟩ := c5 z
    exact ⟨⟨t, ht, by rw [e _ (by have := k5.2.2.2.2.2.2.2.2.2.2.2.2.1; omega)]; exact ht2⟩, fun l h1 h2 => by rw [e _ (by omega)]; exact l1 l h1 h2⟩
theorem cRo_congR {T T' : Nat → Int32} {M : Mem} {b r : Nat} (e : ∀ k, k < 512 → rq T' r k = rq T r k) (q : cRo M b T r) : cRo M b T' r := by
  obtain ⟨⟨q0, q1, q2, q3, q4, q5⟩, q6, q7, q8⟩ := q
  refine ⟨⟨by rw [e 0 (by omega)]; exact q0, by rw [e 1 (by omega)]; exact q1, by rw [e 2 (by omega)]; exact q2, by rw [e 3 (by omega)]; exact q3, by rw [e 4 (by omega)]; exact q4, by rw [e 5 (by omega)]; exact q5⟩, fun z l h4 hl => ?_, fun j hj => ?_, fun n hn => ?_⟩
  · rw [e 0 (by omega)] at z
    rw [e 4 (by omega)] at hl
    rw [e _ (by omega)]
    exact q6 z l h4 hl
  · rw [e _ (by omega)]; exact q7 j hj
  · rw [e _ (by omega)]; exact q8 n hn
theorem cSh_cong {T T' : Nat → Int32} (h : ∀ k, k < 3268 → T' k = T k) {M : Mem} {s W g m : Nat} (q : cSh M s T W g m) : cSh M s T' W g m := by
  refine ⟨cRu_cong (fun k hk => h k (by omega)) q.1, fun r hr => ?_⟩
  rcases q.2 r hr with ⟨q1, q2⟩ | ⟨q1, ⟨kd, sz, mk, ex, ly, q2⟩, q3⟩
  · exact Or.inl ⟨q1, by rw [rq_cong h hr (by omega)]; exact q2⟩
  · exact Or.inr ⟨q1, ⟨kd, sz, mk, ex, ly, roT_congR (fun k hk => rq_cong h hr hk) q2⟩, cRo_congR (fun k hk => rq_cong h hr hk) q3⟩
/-- a shelf like another -/
def likeRu (M M' : Mem) (a b : Nat) : Prop := (∀ k, k < 8 → rI M' b k = rI M a k) ∧ (∀ k, k < 600 → rI M' (b + 1) k = rI M (a + 1) k) ∧ (∀ k, k < 6 → rI M' (b + 2) k = rI M (a + 2) k) ∧ (∀ k, k < 6 → rI M' (b + 3) k = rI M (a + 3) k) ∧ (∀ k, k < 256 → rI M' (b + 4) k = rI M (a + 4) k) ∧ (∀ k, k < 1536 → rI M' (b + 5) k = rI M (a + 5) k)
def likeRo (M M' : Mem) (a b : Nat) : Prop := (∀ k, k < 8 → rI M' b k = rI M a k) ∧ (∀ k, k < 4 → rJ M' (b + 2) k = rJ M (a + 2) k) ∧ (∀ k, k < 240 → rI M' (b + 3) k = rI M (a + 3) k)
theorem cRu_like {M M' : Mem} {a b : Nat} {T : Nat → Int32} {W g m : Nat} (h : cRu M a T W g m) (l : likeRu M M' a b) : cRu M' b T W g m := by
  obtain ⟨q1, q2, q3, q4, q5, q6, q7, q8⟩ := h
  obtain ⟨l1, l2, l3, l4, l5, l6⟩ := l
  have hm : m ≤ 6 := q1.2.2.2.2.2.2.1
  have hW : W ≤ 256 := q1.2.1
  refine ⟨q1, by rw [l1 0 (by omega)]; exact q2, by rw [l1 1 (by omega)]; exact q3, by rw [l1 2 (by omega)]; exact q4, by rw [l1 3 (by omega)]; exact q5, fun w hw => ?_, fun n hn => ?_, fun w hw hb n hn bound => ?_⟩
  · obtain ⟨x, y, h1, h2, h3, h4, h5⟩ := q1.2.2.2.2.2.2.2.2.1 w hw
    obtain ⟨g1, g2, g3⟩ := q6 w hw
    refine ⟨by rw [l3 w (by omega)]; exact g1, by rw [l4 w (by omega)]; exact g2, fun k hk1 hk2 => ?_⟩
    have hb : k < y := by unfold tn at hk2; rw [h4, nI_clamp (by omega)] at hk2; exact hk2
    rw [l2 k (by omega)]
    exact g3 k hk1 hk2
  · rw [l5 n (by omega)]; exact q7 n hn
  · rw [l1 7 (by omega)] at hb
    rw [l6 _ (by omega)]
    exact q8 w hw hb n hn bound
theorem cRo_like {M M' : Mem} {a b : Nat} {T : Nat → Int32} {r : Nat} (h : cRo M a T r) (l : likeRo M M' a b) : cRo M' b T r := by
  obtain ⟨⟨q0, q1, q2, q3, q4, q5⟩, q6, q7, q8⟩ := h
  obtain ⟨l1, l2, l3⟩ := l
  refine ⟨⟨by rw [l1 1 (by omega)]; exact q0, by rw [l1 2 (by omega)]; exact q1, by rw [l1 3 (by omega)]; exact q2, by rw [l1 4 (by omega)]; exact q3, by rw [l1 5 (by omega)]; exact q4, by rw [l1 6 (by omega)]; exact q5⟩, fun z l h4 hl => ?_, fun j hj => ?_, fun n hn => ?_⟩
  · rw [l1 7 (by omega)]; exact q6 z l h4 hl
  · rw [l3 j hj]; exact q7 j hj
  · rw [l2 _ (by omega)]; exact q8 n hn
theorem ruCopy {v0 v1 : Nat} (M : Mem) (hne : v0 + 6 ≤ v1 ∨ v1 + 6 ≤ v0) : Yo (fX6_copyFrom v0 v1 M) (fun x => likeRu M x v1 v0 ∧ smF [v0, v0 + 1, v0 + 2, v0 + 3, v0 + 4, v0 + 5] M x) := by
  have hv : v1 ≠ v0 := by omega
  have e : fX6_copyFrom v0 v1 M = some (cpI (cpI (cpI (cpI (cpI (wI (wI (wI (wI (wI (wI (wI (wI M v0 0 (rI M v1 0)) v0 1 (rI M v1 1)) v0 2 (rI M v1 2)) v0 3 (rI M v1 3)) v0 4 (rI M v1 4)) v0 5 (rI M v1 5)) v0 6 (rI M v1 6)) v0 7 (rI M v1 7)) (v1 + 1) (v0 + 1) 600) (v1 + 2) (v0 + 2) 6) (v1 + 3) (v0 + 3) 6) (v1 + 4) (v0 + 4) 256) (v1 + 5) (v0 + 5) 1536) := by
    unfold fX6_copyFrom
    simp only [rI_wI_ne hv]
  rw [e, yo_s]
  generalize hB : wI (wI (wI (wI (wI (wI (wI (wI M v0 0 (rI M v1 0)) v0 1 (rI M v1 1)) v0 2 (rI M v1 2)) v0 3 (rI M v1 3)) v0 4 (rI M v1 4)) v0 5 (rI M v1 5)) v0 6 (rI M v1 6)) v0 7 (rI M v1 7) = B
  have F : smF [v0] M B := by
    rw [← hB]
    exact (((((((smF.refl.pI_ (by simp) _ _).pI_ (by simp) _ _).pI_ (by simp) _ _).pI_ (by simp) _ _).pI_ (by simp) _ _).pI_ (by simp) _ _).pI_ (by simp) _ _).pI_ (by simp) _ _
  have hb : ∀ k, k < 8 → rI B v0 k = rI M v1 k := by
    intro k hk
    rw [← hB]
    have : k = 0 ∨ k = 1 ∨ k = 2 ∨ k = 3 ∨ k = 4 ∨ k = 5 ∨ k = 6 ∨ k = 7 := by omega
    rcases this with h | h | h | h | h | h | h | h <;> subst h <;> simp [rI_wI]
  have g : ∀ a k, a ≠ v0 → rI B a k = rI M a k := fun a k ha => F.I_ (by simpa using ha) k
  refine ⟨⟨fun k hk => ?_, fun k hk => ?_, fun k hk => ?_, fun k hk => ?_, fun k hk => ?_, fun k hk => ?_⟩, ?_⟩
  · rw [rI_cpI, if_neg (by omega), rI_cpI, if_neg (by omega), rI_cpI, if_neg (by omega), rI_cpI, if_neg (by omega), rI_cpI, if_neg (by omega), hb k hk]
  · rw [rI_cpI, if_neg (by omega), rI_cpI, if_neg (by omega), rI_cpI, if_neg (by omega), rI_cpI, if_neg (by omega), rI_cpI, if_pos ⟨rfl, hk⟩, g _ _ (by omega)]
  · rw [rI_cpI, if_neg (by omega), rI_cpI, if_neg (by omega), rI_cpI, if_neg (by omega), rI_cpI, if_pos ⟨rfl, hk⟩, rI_cpI, if_neg (by omega), g _ _ (by omega)]
  · rw [rI_cpI, if_neg (by omega), rI_cpI, if_neg (by omega), rI_cpI, if_pos ⟨rfl, hk⟩, rI_cpI, if_neg (by omega), rI_cpI, if_neg (by omega), g _ _ (by omega)]
  · rw [rI_cpI, if_neg (by omega), rI_cpI, if_pos ⟨rfl, hk⟩, rI_cpI, if_neg (by omega), rI_cpI, if_neg (by omega), rI_cpI, if_neg (by omega), g _ _ (by omega)]
  · rw [rI_cpI, if_pos ⟨rfl, hk⟩, rI_cpI, if_neg (by omega), rI_cpI, if_neg (by omega), rI_cpI, if_neg (by omega), rI_cpI, if_neg (by omega), g _ _ (by omega)]
  · exact (((((F.mono (by simp)).pIs_ (by simp) _).pIs_ (by simp) _).pIs_ (by simp) _).pIs_ (by simp) _).pIs_ (by simp) _
theorem roCopy {v0 v1 : Nat} (M : Mem) (hne : v0 + 4 ≤ v1 ∨ v1 + 4 ≤ v0) (h : rI M v1 0 = 0 ∨ rI M v1 0 = 1) : Yo (fX5_copyFrom v0 v1 M) (fun x => likeRo M x v1 v0 ∧ smF [v0, v0 + 2, v0 + 3] M x) := by
  have hv : v1 ≠ v0 := by omega
  have e : fX5_copyFrom v0 v1 M = some (cpI (cpJ (wI (wI (wI (wI (wI (wI (wI (wI M v0 0 (rI M v1 0)) v0 1 (rI M v1 1)) v0 2 (rI M v1 2)) v0 3 (rI M v1 3)) v0 4 (rI M v1 4)) v0 5 (rI M v1 5)) v0 6 (rI M v1 6)) v0 7 (rI M v1 7)) (v1 + 2) (v0 + 2) 4) (v1 + 3) (v0 + 3) 240) := by
    unfold fX5_copyFrom fX2_copyFrom
    rw [if_pos h]
    simp only [rI_wI_ne hv, Option.bind_some]
  rw [e, yo_s]
  generalize hB : wI (wI (wI (wI (wI (wI (wI (wI M v0 0 (rI M v1 0)) v0 1 (rI M v1 1)) v0 2 (rI M v1 2)) v0 3 (rI M v1 3)) v0 4 (rI M v1 4)) v0 5 (rI M v1 5)) v0 6 (rI M v1 6)) v0 7 (rI M v1 7) = B
  have F : smF [v0] M B := by
    rw [← hB]
    exact (((((((smF.refl.pI_ (by simp) _ _).pI_ (by simp) _ _).pI_ (by simp) _ _).pI_ (by simp) _ _).pI_ (by simp) _ _).pI_ (by simp) _ _).pI_ (by simp) _ _).pI_ (by simp) _ _
  have hb : ∀ k, k < 8 → rI B v0 k = rI M v1 k := by
    intro k hk
    rw [← hB]
    have : k = 0 ∨ k = 1 ∨ k = 2 ∨ k = 3 ∨ k = 4 ∨ k = 5 ∨ k = 6 ∨ k = 7 := by omega
    rcases this with h | h | h | h | h | h | h | h <;> subst h <;> simp [rI_wI]
  refine ⟨⟨fun k hk => ?_, fun k hk => ?_, fun k hk => ?_⟩, ?_⟩
  · rw [rI_cpI, if_neg (by omega), rI_cpJ, hb k hk]
  · rw [rJ_cpI, rJ_cpJ, if_pos ⟨rfl, hk⟩, F.J_ (by simp; omega)]
  · rw [rI_cpI, if_pos ⟨rfl, hk⟩, rI_cpJ, F.I_ (by simp; omega)]
  · exact ((F.mono (by simp)).pJs_ (by simp) _).pIs_ (by simp) _
theorem shCopy {N : Nat} (hN : 700 ≤ N) {v0 v1 : Nat} {M : Mem} {T : Nat → Int32} {W g m : Nat} (hne : v0 + 25 ≤ v1 ∨ v1 + 25 ≤ v0) (h : cSh M v1 T W g m) : Yo (fX7_copyFrom N v0 v1 M) (fun x => cSh x v0 T W g m ∧ ∀ a, ¬ (v0 ≤ a ∧ a < v0 + 25) → x a = M a) := by
  unfold fX7_copyFrom
  refine (ruCopy (v0 := v0 + 1) (v1 := v1 + 1) M (by omega)).bi (fun y hy => ?_)
  refine yo_f2 (F := fX7_copyFrom_l13 N v0 v1) 4 (fun k v M' => v = nI k ∧ (∀ a, ¬ (v0 ≤ a ∧ a < v0 + 25) → M' a = M a) ∧ cRu M' (v0 + 1) T W g m ∧ ∀ r, r < k → gone M' (v0 + 9 + 4 * r) T r ∨ here M' (v0 + 9 + 4 * r) T r W m) ?_ N 0 _ _ (by omega) (by omega) ⟨rfl, fun a ha => hy.2 a (by simp; omega), cRu_like h.1 hy.1, fun r hr => absurd hr (Nat.not_lt_zero r)⟩
  intro f k v M' hk ⟨hv, hF, hru, hro⟩ ih
  subst hv
  show Yo (fX7_copyFrom_l13_s N v0 v1 (fX7_copyFrom_l13 N v0 v1 f) (nI k) M') _
  unfold fX7_copyFrom_l13_s
  rcases Nat.lt_or_ge k 4 with hlt | hge
  · rw [if_neg (show ¬ (4 : Int32) ≤ nI k from nI_ge (b := 4) hlt (by decide)), if_pos (inB_nI hlt (by decide)), if_pos (inB_nI hlt (by decide)), nI_clamp (by omega), nI_1]
    have hrow : gone M' (v1 + 9 + 4 * k) T k ∨ here M' (v1 + 9 + 4 * k) T k W m := row.moved (h.2 k hlt) (fun a h1 h2 => hF a (by omega))
    have e0 : v0 + 8 + 1 + 4 * k = v0 + 9 + 4 * k := by omega
    have e1 : v1 + 8 + 1 + 4 * k = v1 + 9 + 4 * k := by omega
    rw [e0, e1]
    have h01 : rI M' (v1 + 9 + 4 * k) 0 = 0 ∨ rI M' (v1 + 9 + 4 * k) 0 = 1 := hrow.elim (fun z => Or.inl z.1) (fun z => Or.inr z.1)
    refine (roCopy (v0 := v0 + 9 + 4 * k) M' (by omega) h01).bi (fun x hx => ?_)
    refine ih _ _ hlt ⟨rfl, fun a ha => ?_, ?_, fun r hr => ?_⟩
    · rw [hx.2 a (by simp; omega)]; exact hF a ha
    · exact hru.moved (fun a h1 h2 => hx.2 a (by simp; omega))
    · rcases Nat.lt_or_ge r k with h1 | h1
      · exact row.moved (hro r h1) (fun a h2 h3 => hx.2 a (by simp; omega))
      · have : r = k := by omega
        subst this
        rcases hrow with ⟨z1, z2⟩ | ⟨z1, z2, z3⟩
        · exact Or.inl ⟨by rw [hx.1.1 0 (by omega)]; exact z1, z2⟩
        · exact Or.inr ⟨by rw [hx.1.1 0 (by omega)]; exact z1, z2, cRo_like z3 hx.1⟩
  · rw [if_pos (show (4 : Int32) ≤ nI k from nI_le (a := 4) hge (by omega)), yo_s]
    exact ⟨⟨hru, fun r hr => hro r (by omega)⟩, hF⟩
