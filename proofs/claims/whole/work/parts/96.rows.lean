/-! SEMANTICS: a row's cell, field, name changes in step -/
def setT (T : Nat → Int32) (r k : Nat) (v : Int32) : Nat → Int32 := fun z => if z = 1220 + 512 * r + k then v else T z
theorem setT_rq (T : Nat → Int32) (r k j : Nat) (v : Int32) : rq (setT T r k v) r j = if j = k then v else rq T r j := by
  unfold rq setT
  by_cases h : j = k
  · rw [if_pos (by omega), if_pos h]
  · rw [if_neg (by omega), if_neg h]
theorem setT_lo (T : Nat → Int32) (r k : Nat) (v : Int32) : ∀ z, z < 1220 → setT T r k v z = T z := fun z hz => by
  unfold setT
  rw [if_neg (by omega)]
theorem setT_mem {M : Mem} {T : Nat → Int32} (h : (M 141).1 = T) (r k : Nat) (v : Int32) : ((wI M 141 (1220 + 512 * r + k) v) 141).1 = setT T r k v := by
  funext z
  show rI (wI M 141 (1220 + 512 * r + k) v) 141 z = _
  rw [rI_wI]
  unfold setT
  by_cases q : z = 1220 + 512 * r + k
  · rw [if_pos ⟨rfl, q⟩, if_pos q]
  · rw [if_neg (fun y => q y.2), if_neg q, ← h]
    rfl
theorem rX_set {M : Mem} {T : Nat → Int32} {r W g m kd sz mk ex ly kd' sz' mk' ex' ly' k : Nat} {v : Int32} (h : rX M T r W g m kd sz mk ex ly) (hn : roT (setT T r k v) r W m kd' sz' mk' ex' ly') : rX (wI M 141 (1220 + 512 * r + k) v) (setT T r k v) r W g m kd' sz' mk' ex' ly' :=
  ⟨h.1, setT_mem h.2.1 r k v, ruT_cong (setT_lo T r k v) h.2.2.1, hn⟩
/-- a cell's new value -/
def okC (kd W j : Nat) (v : Int32) : Prop := (kd = 0 ∨ kd = 3 → v = 0 ∨ v = 1) ∧ (kd = 1 → ∃ c : Nat, c ≤ 15 ∧ v = nI c) ∧ (kd = 2 → v = 0 ∨ ∃ n : Nat, n < W ∧ v = nI (n + 1)) ∧ (kd = 2 → 64 ≤ j → v = 0)
theorem roT_cell {T : Nat → Int32} {r W m kd sz mk ex ly j : Nat} {v : Int32} (h : roT T r W m kd sz mk ex ly) (hj : j < 240) (hv : okC kd W j v) : roT (setT T r (10 + j) v) r W m kd sz mk ex ly := by
  obtain ⟨⟨q0, q1, q2, q3, q4⟩, k5, ⟨p1, p2⟩, ⟨c1, c2, c3, c4, c5⟩, p, hp, hp2⟩ := h
  obtain ⟨v1, v2, v3, v4⟩ := hv
  have low : ∀ k, k < 10 → rq (setT T r (10 + j) v) r k = rq T r k := fun k hk => by rw [setT_rq, if_neg (by omega)]
  have high : ∀ n, rq (setT T r (10 + j) v) r (250 + n) = rq T r (250 + n) := fun n => by rw [setT_rq, if_neg (by omega)]
  have hly := k5.2.2.2.2.2.2.2.2.2.2.2.2.1
  refine ⟨⟨by rw [low 0 (by omega)]; exact q0, by rw [low 1 (by omega)]; exact q1, by rw [low 2 (by omega)]; exact q2, by rw [low 3 (by omega)]; exact q3, by rw [low 4 (by omega)]; exact q4⟩, k5, ⟨fun n hn => by rw [high]; exact p1 n hn, fun n h1 h2 => by rw [high]; exact p2 n h1 h2⟩, ⟨fun z i hi => ?_, fun z i hi => ?_, fun z i hi => ?_, fun z i h1 h2 => ?_, fun z => ?_⟩, p, hp, by rw [low 5 (by omega)]; exact hp2⟩
  · rw [setT_rq]
    by_cases q : 10 + i = 10 + j
    · rw [if_pos q]; exact v1 z
    · rw [if_neg q]; exact c1 z i hi
  · rw [setT_rq]
    by_cases q : 10 + i = 10 + j
    · rw [if_pos q]; exact v2 z
    · rw [if_neg q]; exact c2 z i hi
  · rw [setT_rq]
    by_cases q : 10 + i = 10 + j
    · rw [if_pos q]; exact v3 z
    · rw [if_neg q]; exact c3 z i hi
  · rw [setT_rq]
    by_cases q : 10 + i = 10 + j
    · rw [if_pos q]; exact v4 z (by omega)
    · rw [if_neg q]; exact c4 z i h1 h2
  · obtain ⟨⟨t, ht, ht2⟩, l1⟩ := c5 z
    exact ⟨⟨t, ht, by rw [low _ (by omega)]; exact ht2⟩, fun l h1 h2 => by rw [low _ (by omega)]; exact l1 l h1 h2⟩
theorem cRu_set {M M' : Mem} {T : Nat → Int32} {W g m r k : Nat} {v : Int32} (h : cRu M 2 T W g m) (hq : ∀ a, 2 ≤ a → a < 8 → M' a = M a) : cRu M' 2 (setT T r k v) W g m :=
  cRu_cong (setT_lo T r k v) (h.moved (fun a h1 h2 => hq a h1 (by omega)))
theorem cX_cell {M : Mem} {T : Nat → Int32} {r W g m kd sz mk ex ly j : Nat} {v : Int32} (h : cX M T r W g m kd sz mk ex ly) (hj : j < 240) (hv : okC kd W j v) : fX5_setCell (10 + 4 * r) (nI j) v M = some (wI M (13 + 4 * r) j v) ∧ cX (wI M (13 + 4 * r) j v) (setT T r (10 + j) v) r W g m kd sz mk ex ly := by
  obtain ⟨hr, hru, ⟨⟨q0, q1, q2, q3, q4, q5⟩, q6, q7, q8⟩, hro⟩ := h
  have F : smF [13 + 4 * r] M (wI M (13 + 4 * r) j v) := smF.refl.pI_ (by simp) _ _
  have low : ∀ k, k < 10 → rq (setT T r (10 + j) v) r k = rq T r k := fun k hk => by rw [setT_rq, if_neg (by omega)]
  have lw : ∀ k, rI (wI M (13 + 4 * r) j v) (10 + 4 * r) k = rI M (10 + 4 * r) k := fun k => F.I_ (by simp) k
  constructor
  · unfold fX5_setCell
    rw [if_neg (nI_pos (by omega)), if_neg (show ¬ (240 : Int32) ≤ nI j from nI_ge (b := 240) hj (by decide)), if_pos (inB_nI hj (by decide)), nI_clamp (by omega), show 10 + 4 * r + 3 = 13 + 4 * r by omega]
  · refine ⟨hr, cRu_set hru (fun a h1 h2 => F a (by simp; omega)), ⟨⟨by rw [lw, low 0 (by omega)]; exact q0, by rw [lw, low 1 (by omega)]; exact q1, by rw [lw, low 2 (by omega)]; exact q2, by rw [lw, low 3 (by omega)]; exact q3, by rw [lw, low 4 (by omega)]; exact q4, by rw [lw, low 5 (by omega)]; exact q5⟩, fun z l h4 hl => ?_, fun i hi => ?_, fun n hn => ?_⟩, roT_cell hro hj hv⟩
    · rw [low 0 (by omega)] at z
      rw [low 4 (by omega)] at hl
      rw [lw, low _ (by omega)]
      exact q6 z l h4 hl
    · rw [show 10 + 4 * r + 3 = 13 + 4 * r by omega, rI_wI, setT_rq]
      by_cases q : i = j
      · rw [if_pos ⟨rfl, q⟩, if_pos (by omega)]
      · rw [if_neg (fun y => q y.2), if_neg (by omega), ← q7 i hi, show 10 + 4 * r + 3 = 13 + 4 * r by omega]
    · rw [rJ_wI, setT_rq, if_neg (by omega)]
      exact q8 n hn
/-- who is put -/
theorem roT_put {T : Nat → Int32} {r W m kd sz mk ex ly n : Nat} {v : Int32} (h : roT T r W m kd sz mk ex ly) (hn : n < 256) (hv : v = 0 ∨ (v = 1 ∧ n < W)) : roT (setT T r (250 + n) v) r W m kd sz mk ex ly := by
  obtain ⟨⟨q0, q1, q2, q3, q4⟩, k5, ⟨p1, p2⟩, ⟨c1, c2, c3, c4, c5⟩, p, hp, hp2⟩ := h
  have low : ∀ k, k < 250 → rq (setT T r (250 + n) v) r k = rq T r k := fun k hk => by rw [setT_rq, if_neg (by omega)]
  have hly := k5.2.2.2.2.2.2.2.2.2.2.2.2.1
  refine ⟨⟨by rw [low 0 (by omega)]; exact q0, by rw [low 1 (by omega)]; exact q1, by rw [low 2 (by omega)]; exact q2, by rw [low 3 (by omega)]; exact q3, by rw [low 4 (by omega)]; exact q4⟩, k5, ⟨fun i hi => ?_, fun i h1 h2 => ?_⟩, ⟨fun z i hi => by rw [low _ (by omega)]; exact c1 z i hi, fun z i hi => by rw [low _ (by omega)]; exact c2 z i hi, fun z i hi => by rw [low _ (by omega)]; exact c3 z i hi, fun z i h1 h2 => by rw [low _ (by omega)]; exact c4 z i h1 h2, fun z => ?_⟩, p, hp, by rw [low 5 (by omega)]; exact hp2⟩
  · rw [setT_rq]
    by_cases q : 250 + i = 250 + n
    · rw [if_pos q]; exact hv.imp id And.left
    · rw [if_neg q]; exact p1 i hi
  · rw [setT_rq]
    by_cases q : 250 + i = 250 + n
    · rw [if_pos q]
      rcases hv with z | ⟨_, z⟩
      · exact z
      · omega
    · rw [if_neg q]; exact p2 i h1 h2
  · obtain ⟨⟨t, ht, ht2⟩, l1⟩ := c5 z
    exact ⟨⟨t, ht, by rw [low _ (by omega)]; exact ht2⟩, fun l h1 h2 => by rw [low _ (by omega)]; exact l1 l h1 h2⟩
theorem cX_word {M : Mem} {T : Nat → Int32} {r W g m kd sz mk ex ly n : Nat} {v : Int32} {w : Int64} (h : cX M T r W g m kd sz mk ex ly) (hn : n < 256) (hv : v = 0 ∨ (v = 1 ∧ n < W)) (hw : ∀ i, i < 64 → bl w i = if i = n % 64 then decide (v = 1) else bl (rJ M (12 + 4 * r) (n / 64)) i) : cX (wJ M (12 + 4 * r) (n / 64) w) (setT T r (250 + n) v) r W g m kd sz mk ex ly := by
  obtain ⟨hr, hru, ⟨⟨q0, q1, q2, q3, q4, q5⟩, q6, q7, q8⟩, hro⟩ := h
  have F : smF [12 + 4 * r] M (wJ M (12 + 4 * r) (n / 64) w) := smF.refl.pJ_ (by simp) _ _
  have low : ∀ k, k < 250 → rq (setT T r (250 + n) v) r k = rq T r k := fun k hk => by rw [setT_rq, if_neg (by omega)]
  have lw : ∀ a k, rI (wJ M (12 + 4 * r) (n / 64) w) a k = rI M a k := fun a k => by rw [rI_wJ]
  refine ⟨hr, cRu_set hru (fun a h1 h2 => F a (by simp; omega)), ⟨⟨by rw [lw, low 0 (by omega)]; exact q0, by rw [lw, low 1 (by omega)]; exact q1, by rw [lw, low 2 (by omega)]; exact q2, by rw [lw, low 3 (by omega)]; exact q3, by rw [lw, low 4 (by omega)]; exact q4, by rw [lw, low 5 (by omega)]; exact q5⟩, fun z l h4 hl => ?_, fun i hi => ?_, fun i hi => ?_⟩, roT_put hro hn hv⟩
  · rw [low 0 (by omega)] at z
    rw [low 4 (by omega)] at hl
    rw [lw, low _ (by omega)]
    exact q6 z l h4 hl
  · rw [lw, low _ (by omega)]
    exact q7 i hi
  · rw [show 10 + 4 * r + 2 = 12 + 4 * r by omega, rJ_wJ, setT_rq]
    have hold := q8 i hi
    rw [show 10 + 4 * r + 2 = 12 + 4 * r by omega] at hold
    by_cases q : i / 64 = n / 64
    · rw [if_pos ⟨rfl, q⟩, hw _ (by omega)]
      by_cases q2 : i % 64 = n % 64
      · rw [if_pos q2, if_pos (by omega)]
      · rw [if_neg q2, if_neg (by omega), ← q]
        exact hold
    · rw [if_neg (fun y => q y.2), if_neg (by omega)]
      exact hold
theorem cX_add {M : Mem} {T : Nat → Int32} {r W g m kd sz mk ex ly n : Nat} (h : cX M T r W g m kd sz mk ex ly) (hn : n < W) : Yo (fX2_add (10 + 4 * r + 1) (nI n) M) (fun x => cX x (setT T r (250 + n) 1) r W g m kd sz mk ex ly ∧ smF [12 + 4 * r] M x) := by
  have hn' : n < 256 := by have := h.W1.2.2; omega
  unfold fX2_add
  rw [if_neg (nI_pos (by omega)), if_neg (show ¬ (256 : Int32) ≤ nI n from nI_ge (b := 256) hn' (by decide)), shr6 n hn', and63 n hn', if_pos (inB_nI (by omega) (by decide)), if_pos (inB_nI (by omega) (by decide)), nI_clamp (by omega), show 10 + 4 * r + 1 + 1 = 12 + 4 * r by omega, yo_s]
  refine ⟨cX_word h hn' (Or.inr ⟨rfl, hn⟩) (fun i hi => ?_), smF.refl.pJ_ (by simp) _ _⟩
  rw [bl_or, bl_one (by omega)]
  by_cases q : i = n % 64
  · rw [if_pos q, decide_eq_true q]
    simp
  · rw [if_neg q, decide_eq_false q, Bool.or_false]
theorem cX_remove {M : Mem} {T : Nat → Int32} {r W g m kd sz mk ex ly n : Nat} (h : cX M T r W g m kd sz mk ex ly) (hn : n < W) : Yo (fX2_remove (10 + 4 * r + 1) (nI n) M) (fun x => cX x (setT T r (250 + n) 0) r W g m kd sz mk ex ly ∧ smF [12 + 4 * r] M x) := by
  have hn' : n < 256 := by have := h.W1.2.2; omega
  unfold fX2_remove
  rw [if_neg (nI_pos (by omega)), if_neg (show ¬ (256 : Int32) ≤ nI n from nI_ge (b := 256) hn' (by decide)), shr6 n hn', and63 n hn', if_pos (inB_nI (by omega) (by decide)), if_pos (inB_nI (by omega) (by decide)), nI_clamp (by omega), show 10 + 4 * r + 1 + 1 = 12 + 4 * r by omega, yo_s]
  refine ⟨cX_word h hn' (Or.inl rfl) (fun i hi => ?_), smF.refl.pJ_ (by simp) _ _⟩
  rw [bl_and, bl_not hi, bl_one (by omega)]
  by_cases q : i = n % 64
  · rw [if_pos q, decide_eq_true q]
    simp
  · rw [if_neg q, decide_eq_false q]
    simp
/-- the class's field i + 1 is the row's number i: size 1, pushes 5 -/
theorem cRo_fld {M : Mem} {T : Nat → Int32} {r i : Nat} {v : Int32} (hi : i = 1 ∨ i = 5) (h3 : rq T r 0 ≠ nI 3) (h : cRo M (10 + 4 * r) T r) : cRo (wI M (10 + 4 * r) (i + 1) v) (10 + 4 * r) (setT T r i v) r := by
  obtain ⟨⟨q0, q1, q2, q3, q4, q5⟩, q6, q7, q8⟩ := h
  have f : ∀ k : Nat, rI M (10 + 4 * r) (k + 1) = rq T r k → rI (wI M (10 + 4 * r) (i + 1) v) (10 + 4 * r) (k + 1) = rq (setT T r i v) r k := fun k hk => by
    rw [rI_wI, setT_rq]
    by_cases q : k = i
    · rw [if_pos ⟨rfl, by omega⟩, if_pos q]
    · rw [if_neg (fun y => q (by have := y.2; omega)), if_neg q]
      exact hk
  have o : ∀ k, k ≠ i → rq (setT T r i v) r k = rq T r k := fun k hk => by rw [setT_rq, if_neg hk]
  refine ⟨⟨f 0 q0, f 1 q1, f 2 q2, f 3 q3, f 4 q4, f 5 q5⟩, fun z l h4 hl => ?_, fun j hj => ?_, fun n hn => ?_⟩
  · rw [o 0 (by omega)] at z
    exact absurd z h3
  · rw [rI_wI, if_neg (by omega), o _ (by omega)]; exact q7 j hj
  · rw [rJ_wI, o _ (by omega)]; exact q8 n hn
theorem kd3 {T : Nat → Int32} {r W m kd sz mk ex ly : Nat} (h : roT T r W m kd sz mk ex ly) : rq T r 0 = nI 3 ↔ kd = 3 := by
  rw [h.1.1, nI_eq (by have := h.2.1.1; omega) (by omega)]
theorem cX_fld {M : Mem} {T : Nat → Int32} {r W g m kd sz mk ex ly i sz' : Nat} {v : Int32} (h : cX M T r W g m kd sz mk ex ly) (hi : i = 1 ∨ i = 5) (h3 : kd ≠ 3) (hn : roT (setT T r i v) r W m kd sz' mk ex ly) : cX (wI M (10 + 4 * r) (i + 1) v) (setT T r i v) r W g m kd sz' mk ex ly :=
  ⟨h.1, cRu_set h.2.1 (fun a h1 h2 => (smF.refl (S := [10 + 4 * r])).pI_ (by simp) _ _ a (by simp; omega)), cRo_fld hi (fun z => h3 ((kd3 h.2.2.2).mp z)) h.2.2.1, hn⟩
/-- the class's count of the latest layer's puts matters in LAYERS alone -/
theorem cX_7 {M : Mem} {T : Nat → Int32} {r W g m kd sz mk ex ly : Nat} {v : Int32} (h : cX M T r W g m kd sz mk ex ly) (h3 : kd ≠ 3) : cX (wI M (10 + 4 * r) 7 v) T r W g m kd sz mk ex ly := by
  obtain ⟨hr, hru, ⟨⟨q0, q1, q2, q3, q4, q5⟩, q6, q7, q8⟩, hro⟩ := h
  have F : smF [10 + 4 * r] M (wI M (10 + 4 * r) 7 v) := smF.refl.pI_ (by simp) _ _
  have lw : ∀ k, k ≠ 7 → rI (wI M (10 + 4 * r) 7 v) (10 + 4 * r) k = rI M (10 + 4 * r) k := fun k hk => by rw [rI_wI, if_neg (by omega)]
  refine ⟨hr, hru.moved (fun a h1 h2 => F a (by simp; omega)), ⟨⟨by rw [lw 1 (by omega)]; exact q0, by rw [lw 2 (by omega)]; exact q1, by rw [lw 3 (by omega)]; exact q2, by rw [lw 4 (by omega)]; exact q3, by rw [lw 5 (by omega)]; exact q4, by rw [lw 6 (by omega)]; exact q5⟩, fun z => absurd ((kd3 hro).mp z) h3, fun j hj => ?_, fun n hn => ?_⟩, hro⟩
  · rw [F.I_ (by simp)]; exact q7 j hj
  · rw [F.J_ (by simp)]; exact q8 n hn
theorem plT_cong {T T' : Nat → Int32} (h : ∀ k, k < 1220 → T' k = T k) {w : Nat} (hw : w ≤ 6) (q : segT T w) (name : Int32) (size : Nat) : plT T' w name size = plT T w name size := by
  unfold plT
  rw [valT_cong h hw q]
/-- PUT's marks: mark by mark -/
def upV (kd : Nat) (c : Int32) : Int32 := if kd = 1 then minI 15 (c + 1) else 1
def raT (T : Nat → Int32) (r : Nat) (up : Int32 → Int32) (s wd n : Nat) : Nat → Nat → Int32
  | 0 => T
  | k + 1 => setT (raT T r up s wd n k) r (10 + (s + plT (raT T r up s wd n k) k (nI n) wd)) (up (rq (raT T r up s wd n k) r (10 + (s + plT (raT T r up s wd n k) k (nI n) wd))))
theorem min15 : ∀ c, c ≤ 15 → minI (nI c + 1) 15 = minI 15 (nI c + 1) ∧ ∃ d, d ≤ 15 ∧ minI 15 (nI c + 1) = nI d := by
  intro c hc
  have h : ∀ c, c ≤ 15 → minI (nI c + 1) 15 = minI 15 (nI c + 1) ∧ minI 15 (nI c + 1) = nI (min 15 (c + 1)) := by decide +kernel
  exact ⟨(h c hc).1, min 15 (c + 1), by omega, (h c hc).2⟩
theorem up_ok {T : Nat → Int32} {r W m kd sz mk ex ly j : Nat} (h : roT T r W m kd sz mk ex ly) (h2 : kd ≠ 2) (h4 : kd ≠ 4) (hj : j < 240) : okC kd W j (upV kd (rq T r (10 + j))) ∧ minI (rq T r (10 + j) + 1) (if kd = 1 then 15 else 1) = upV kd (rq T r (10 + j)) := by
  have hk := h.2.1.1
  unfold upV okC
  by_cases h1 : kd = 1
  · obtain ⟨c, hc, e⟩ := h.2.2.2.1.2.1 h1 j hj
    rw [if_pos h1, if_pos h1, e]
    obtain ⟨m1, d, hd, m2⟩ := min15 c hc
    exact ⟨⟨fun z => by omega, fun _ => ⟨d, hd, m2⟩, fun z => by omega, fun z => by omega⟩, m1⟩
  · rw [if_neg h1, if_neg h1]
    refine ⟨⟨fun _ => Or.inr rfl, fun z => absurd z h1, fun z => absurd z h2, fun z => absurd z h2⟩, ?_⟩
    rcases h.2.2.2.1.1 (by omega) j hj with e | e <;> rw [e] <;> rfl
theorem full_ok {M : Mem} {T : Nat → Int32} {r W g m kd sz mk ex ly : Nat} (h : cX M T r W g m kd sz mk ex ly) : fX5_fullCell (10 + 4 * r) M = some (if kd = 1 then 15 else 1) := by
  unfold fX5_fullCell
  rw [h.flds.1]
  by_cases q : kd = 1
  · rw [if_pos (show nI kd = (1 : Int32) from by rw [q]; rfl), if_pos q]
  · rw [if_neg (show ¬ nI kd = (1 : Int32) from ne_l (b := 1) q (by have := h.2.2.2.2.1.1; omega) (by omega)), if_neg q]
theorem c_raise {N : Nat} {M : Mem} {T : Nat → Int32} {r W g m kd sz mk ex ly n s wd : Nat} (hN : 700 ≤ N) (h : cX M T r W g m kd sz mk ex ly) (h2 : kd ≠ 2) (h4 : kd ≠ 4) (hwd : 1 ≤ wd) (hs : s + wd ≤ 240) :
    Yo (fX5_raise N (10 + 4 * r) 2 (nI n) (nI s) (nI wd) M) (fun x => cX x (raT T r (upV kd) s wd n mk) r W g m kd sz mk ex ly ∧ smF [8, 13 + 4 * r] M x) := by
  unfold fX5_raise
  have hm : mk ≤ m ∧ m ≤ 6 := ⟨h.2.2.2.2.1.2.2.2.2.2.1, h.2.1.1.2.2.2.2.2.2.1⟩
  refine yo_f2 (F := fX5_raise_l3 N (10 + 4 * r) 2 (nI n) (nI s) (nI wd)) mk (fun k v M' => v = nI k ∧ cX M' (raT T r (upV kd) s wd n k) r W g m kd sz mk ex ly ∧ smF [8, 13 + 4 * r] M M') ?_ N 0 _ _ (by omega) (by omega) ⟨rfl, h, smF.refl⟩
  intro f k v M' hk ⟨hv, h', hF⟩ ih
  subst hv
  show Yo (fX5_raise_l3_s N (10 + 4 * r) 2 (nI n) (nI s) (nI wd) (fX5_raise_l3 N (10 + 4 * r) 2 (nI n) (nI s) (nI wd) f) (nI k) M') _
  unfold fX5_raise_l3_s
  rw [h'.flds.2.2.1]
  rcases Nat.lt_or_ge k mk with hlt | hge
  · rw [if_neg (nI_ge hlt (by omega))]
    refine (cv_place hN h'.2.1 (show k < m by omega) hwd (by omega)).bi (fun x hx => ?_)
    have hp := plT_lt (T := raT T r (upV kd) s wd n k) (w := k) (name := nI n) hwd
    have hx1 := h'.mv8 hx.2
    obtain ⟨u1, u2⟩ := up_ok hx1.2.2.2 h2 h4 (show s + plT (raT T r (upV kd) s wd n k) k (nI n) wd < 240 by omega)
    obtain ⟨s1, s2⟩ := cX_cell hx1 (show s + plT (raT T r (upV kd) s wd n k) k (nI n) wd < 240 by omega) u1
    rw [hx.1, nI_add, hx1.cell (by omega), Option.bind_some, full_ok hx1, Option.bind_some, u2, s1, Option.bind_some, nI_1]
    exact ih _ _ hlt ⟨rfl, s2, (hF.trans (hx.2.mono (by simp))).pI_ (by simp) _ _⟩
  · rw [if_pos (nI_le hge (by omega)), yo_s, show mk = k by omega]
    rw [show mk = k by omega] at h'
    exact ⟨h', hF⟩
theorem r_raise {N : Nat} {M : Mem} {T : Nat → Int32} {r W g m kd sz mk ex ly n l : Nat} (hN : 700 ≤ N) (h : rX M T r W g m kd sz mk ex ly) (h2 : kd ≠ 2) (h4 : kd ≠ 4) (hl : l < ly) (hn : n < W) :
    Yo (fX11_puts_l108 N 140 (nI r) (nI n) (nI kd) (nI l) N (0 : Int32) M) (fun x => x.1 = true ∧ rX x.2 (setT (raT T r (upV kd) (sz * (2 ^ l - 1)) (sz * 2 ^ l) n mk) r (250 + n) 1) r W g m kd sz mk ex ly ∧ smF [141, 147] M x.2) := by
  have hm : mk ≤ m ∧ m ≤ 6 := ⟨h.2.2.2.2.1.2.2.2.2.2.1, h.2.2.1.2.2.2.2.2.2.1⟩
  obtain ⟨hs, hwd⟩ := lay_fit h.2.2.2 h2 hl
  have h64 := h.2.2.2.2.1.2.2.1
  have hly4 := h.2.2.2.2.1.2.2.2.2.2.2.2.2.2.2.2.2.1
  have hW := h.W1.2.2
  generalize hse : sz * (2 ^ l - 1) = s at hs
  generalize hwe : sz * 2 ^ l = wd at hs hwd
  refine yo_f2 (F := fX11_puts_l108 N 140 (nI r) (nI n) (nI kd) (nI l)) mk (fun k v M' => v = nI k ∧ rX M' (raT T r (upV kd) s wd n k) r W g m kd sz mk ex ly ∧ smF [141, 147] M M') ?_ N 0 _ _ (by omega) (by omega) ⟨rfl, h, smF.refl⟩
  intro f k v M' hk ⟨hv, h', hF⟩ ih
  subst hv
  show Yo (fX11_puts_l108_s N 140 (nI r) (nI n) (nI kd) (nI l) (fX11_puts_l108 N 140 (nI r) (nI n) (nI kd) (nI l) f) (nI k) M') _
  unfold fX11_puts_l108_s fX11_puts_b172 fX11_puts_b181
  rw [h'.flds.2.2.1, Option.bind_some]
  rcases Nat.lt_or_ge k mk with hlt | hge
  · rw [if_neg (nI_ge hlt (by omega)), layA_ok h' (by omega), Option.bind_some, h'.flds.2.1, Option.bind_some, shl_sz sz (by omega) l (by omega), hse, hwe]
    have hseg : segT (M' 141).1 k := by rw [h'.2.1]; exact h'.2.2.1.2.2.2.2.2.2.2.2.1 k (by omega)
    refine (rv_place hN (show k ≤ 6 by omega) hseg hwd (by omega)).bi (fun x hx => ?_)
    rw [h'.2.1] at hx
    have hp := plT_lt (T := raT T r (upV kd) s wd n k) (w := k) (name := nI n) hwd
    have hx1 := h'.mv7 hx.2
    obtain ⟨u1, _⟩ := up_ok hx1.2.2.2 h2 h4 (show s + plT (raT T r (upV kd) s wd n k) k (nI n) wd < 240 by omega)
    have hF2 : smF [141, 147] M x.2 := hF.trans (hx.2.mono (by simp))
    have fin : ∀ v : Int32, v = upV kd (rq (raT T r (upV kd) s wd n k) r (10 + (s + plT (raT T r (upV kd) s wd n k) k (nI n) wd))) → Yo ((fX11_set 140 (nI r) (nI (10 + s) + nI (plT (raT T r (upV kd) s wd n k) k (nI n) wd)) v x.2).bind fun qj1 => fX11_puts_l108 N 140 (nI r) (nI n) (nI kd) (nI l) f (nI k + 1) qj1) (fun x => x.1 = true ∧ rX x.2 (setT (raT T r (upV kd) s wd n mk) r (250 + n) 1) r W g m kd sz mk ex ly ∧ smF [141, 147] M x.2) := by
      intro v hv
      rw [nI_add, Nat.add_assoc, set_ok _ _ (by have := h'.1; omega), Option.bind_some, nI_1, hv]
      exact ih _ _ hlt ⟨rfl, rX_set hx1 (roT_cell hx1.2.2.2 (by omega) u1), hF2.pI_ (by simp) _ _⟩
    rw [hx.1]
    by_cases q : kd = 1
    · rw [if_pos (show nI kd = (1 : Int32) from by rw [q]; rfl), nI_add, Nat.add_assoc, hx1.cell (by omega), Option.bind_some, ← Nat.add_assoc, ← nI_add]
      exact fin _ (by unfold upV; rw [if_pos q, ← Nat.add_assoc 10 s])
    · rw [if_neg (show ¬ nI kd = (1 : Int32) from ne_l (b := 1) q (by have := h.2.2.2.2.1.1; omega) (by omega))]
      exact fin _ (by unfold upV; rw [if_neg q])
  · rw [if_pos (nI_le hge (by omega)), li_250, nI_add, set_ok _ _ (by have := h'.1; omega), Option.bind_some, yo_s, show mk = k by omega]
    rw [show mk = k by omega] at h'
    exact ⟨rfl, rX_set h' (roT_put h'.2.2.2 (by omega) (Or.inr ⟨rfl, hn⟩)), hF.pI_ (by simp) _ _⟩
