section ZZ
variable {p : Program} {l : Launch} {e : Env} {R : Room} {s : State} {m : MethodId} {args : Array Value} {below : List Frame} {meth : Method} {c : Code} {Q : State → Prop}
variable {D : va_G} {cy : Nat → ClassId} {B : Nat} {kd : Nat → Nat} {n : Nat} {sa sv : Nat → Nat} {own : String} {cc : ByteArray} {nL : Nat}
variable {β : Type} {b0 : β} {cu pc : Nat} {ls : List (Nat × Value)} {st : List Value} {M : Mem} {x : Option β}
theorem z_iald (C : zC p l s m args meth c D cy B kd n sa sv own cc nL) {K ln sd ek : Nat} {a : Nat} {i : Int32} (hk : kd a = K) (har : arr K = (0, ln, sd, ek)) (h20 : 20 ≤ K ∧ K < 48) (d : decode cc pc = .ok (.iaload, 1)) (kk : inB i ln = true → Z p l e R s m args below meth c Q D cy B kd n nL b0 (cu) (pc + 1) ls (.int (rI M a i.toNatClampNeg) :: st) (M) (x)) : Z p l e R s m args below meth c Q D cy B kd n nL b0 (cu) (pc) ls (.int i :: .ref (B + a) :: st) (M) (if inB i ln = true then x else none) := by
  intro hx H locs lsA cells slots hc hs hH hS hl
  cases hi : inB i ln
  · rw [hi] at hx; cases hx
  rw [hi, if_pos rfl] at hx
  have ha : kd a < 48 := by omega
  have hn9 := (C.2.2.2.2.2.1 a).1 ha
  obtain ⟨q0, hq⟩ := sat_get (D := D) (cy := cy) (B := B) M hn9 ha
  have hq9 := hq
  rw [hk, celE, if_neg (by omega), har] at hq
  exact va_iald C.1 C.2.1 C.2.2.2.2.2.2.1.1 hH q0 0 hq rfl (inB_vp hi) d (kk hi hx H locs lsA cells slots hc hs hH hS hl)
theorem z_bald (C : zC p l s m args meth c D cy B kd n sa sv own cc nL) {K ln sd ek : Nat} {a : Nat} {i : Int32} (hk : kd a = K) (har : arr K = (1, ln, sd, ek)) (h20 : 20 ≤ K ∧ K < 48) (d : decode cc pc = .ok (.baload, 1)) (kk : inB i ln = true → Z p l e R s m args below meth c Q D cy B kd n nL b0 (cu) (pc + 1) ls (.int (rI M a i.toNatClampNeg) :: st) (M) (x)) : Z p l e R s m args below meth c Q D cy B kd n nL b0 (cu) (pc) ls (.int i :: .ref (B + a) :: st) (M) (if inB i ln = true then x else none) := by
  intro hx H locs lsA cells slots hc hs hH hS hl
  cases hi : inB i ln
  · rw [hi] at hx; cases hx
  rw [hi, if_pos rfl] at hx
  have ha : kd a < 48 := by omega
  have hn9 := (C.2.2.2.2.2.1 a).1 ha
  obtain ⟨q0, hq⟩ := sat_get (D := D) (cy := cy) (B := B) M hn9 ha
  have hq9 := hq
  rw [hk, celE, if_neg (by omega), har] at hq
  exact va_bald C.1 C.2.1 C.2.2.2.2.2.2.1.1 hH q0 1 hq rfl (inB_vp hi) d (kk hi hx H locs lsA cells slots hc hs hH hS hl)
theorem z_zald (C : zC p l s m args meth c D cy B kd n sa sv own cc nL) {K ln sd ek : Nat} {a : Nat} {i : Int32} (hk : kd a = K) (har : arr K = (2, ln, sd, ek)) (h20 : 20 ≤ K ∧ K < 48) (d : decode cc pc = .ok (.baload, 1)) (kk : inB i ln = true → Z p l e R s m args below meth c Q D cy B kd n nL b0 (cu) (pc + 1) ls (.int (rI M a i.toNatClampNeg) :: st) (M) (x)) : Z p l e R s m args below meth c Q D cy B kd n nL b0 (cu) (pc) ls (.int i :: .ref (B + a) :: st) (M) (if inB i ln = true then x else none) := by
  intro hx H locs lsA cells slots hc hs hH hS hl
  cases hi : inB i ln
  · rw [hi] at hx; cases hx
  rw [hi, if_pos rfl] at hx
  have ha : kd a < 48 := by omega
  have hn9 := (C.2.2.2.2.2.1 a).1 ha
  obtain ⟨q0, hq⟩ := sat_get (D := D) (cy := cy) (B := B) M hn9 ha
  have hq9 := hq
  rw [hk, celE, if_neg (by omega), har] at hq
  exact va_zald C.1 C.2.1 C.2.2.2.2.2.2.1.1 hH q0 2 hq rfl (inB_vp hi) d (kk hi hx H locs lsA cells slots hc hs hH hS hl)
theorem z_lald (C : zC p l s m args meth c D cy B kd n sa sv own cc nL) {K ln sd ek : Nat} {a : Nat} {i : Int32} (hk : kd a = K) (har : arr K = (3, ln, sd, ek)) (h20 : 20 ≤ K ∧ K < 48) (d : decode cc pc = .ok (.laload, 1)) (kk : inB i ln = true → Z p l e R s m args below meth c Q D cy B kd n nL b0 (cu) (pc + 1) ls (.long (rJ M a i.toNatClampNeg) :: st) (M) (x)) : Z p l e R s m args below meth c Q D cy B kd n nL b0 (cu) (pc) ls (.int i :: .ref (B + a) :: st) (M) (if inB i ln = true then x else none) := by
  intro hx H locs lsA cells slots hc hs hH hS hl
  cases hi : inB i ln
  · rw [hi] at hx; cases hx
  rw [hi, if_pos rfl] at hx
  have ha : kd a < 48 := by omega
  have hn9 := (C.2.2.2.2.2.1 a).1 ha
  obtain ⟨q0, hq⟩ := sat_get (D := D) (cy := cy) (B := B) M hn9 ha
  have hq9 := hq
  rw [hk, celE, if_neg (by omega), har] at hq
  exact va_lald C.1 C.2.1 C.2.2.2.2.2.2.1.1 hH q0 3 hq rfl (inB_vp hi) d (kk hi hx H locs lsA cells slots hc hs hH hS hl)
theorem z_aald4 (C : zC p l s m args meth c D cy B kd n sa sv own cc nL) {K ln sd ek : Nat} {a : Nat} {i : Int32} (hk : kd a = K) (har : arr K = (4, ln, sd, ek)) (h20 : 20 ≤ K ∧ K < 48) (d : decode cc pc = .ok (.aaload, 1)) (kk : inB i ln = true → Z p l e R s m args below meth c Q D cy B kd n nL b0 (cu) (pc + 1) ls (.ref (B + (a + 1 + sd * i.toNatClampNeg)) :: st) (M) (x)) : Z p l e R s m args below meth c Q D cy B kd n nL b0 (cu) (pc) ls (.int i :: .ref (B + a) :: st) (M) (if inB i ln = true then x else none) := by
  intro hx H locs lsA cells slots hc hs hH hS hl
  cases hi : inB i ln
  · rw [hi] at hx; cases hx
  rw [hi, if_pos rfl] at hx
  have ha : kd a < 48 := by omega
  have hn9 := (C.2.2.2.2.2.1 a).1 ha
  obtain ⟨q0, hq⟩ := sat_get (D := D) (cy := cy) (B := B) M hn9 ha
  have hq9 := hq
  rw [hk, celE, if_neg (by omega), har] at hq
  exact va_aldq C.1 C.2.1 C.2.2.2.2.2.2.1.1 hH q0 4 hq rfl (inB_vp hi) d (kk hi hx H locs lsA cells slots hc hs hH hS hl)
theorem z_aald5 (C : zC p l s m args meth c D cy B kd n sa sv own cc nL) {K ln sd ek : Nat} {a : Nat} {i : Int32} (hk : kd a = K) (har : arr K = (5, ln, sd, ek)) (h20 : 20 ≤ K ∧ K < 48) (d : decode cc pc = .ok (.aaload, 1)) (kk : inB i ln = true → Z p l e R s m args below meth c Q D cy B kd n nL b0 (cu) (pc + 1) ls (.ref (B + (a + 1 + sd * i.toNatClampNeg)) :: st) (M) (x)) : Z p l e R s m args below meth c Q D cy B kd n nL b0 (cu) (pc) ls (.int i :: .ref (B + a) :: st) (M) (if inB i ln = true then x else none) := by
  intro hx H locs lsA cells slots hc hs hH hS hl
  cases hi : inB i ln
  · rw [hi] at hx; cases hx
  rw [hi, if_pos rfl] at hx
  have ha : kd a < 48 := by omega
  have hn9 := (C.2.2.2.2.2.1 a).1 ha
  obtain ⟨q0, hq⟩ := sat_get (D := D) (cy := cy) (B := B) M hn9 ha
  have hq9 := hq
  rw [hk, celE, if_neg (by omega), har] at hq
  exact va_aldq C.1 C.2.1 C.2.2.2.2.2.2.1.1 hH q0 5 hq rfl (inB_vp hi) d (kk hi hx H locs lsA cells slots hc hs hH hS hl)
theorem z_aald6 (C : zC p l s m args meth c D cy B kd n sa sv own cc nL) {K ln sd ek : Nat} {a : Nat} {i : Int32} (hk : kd a = K) (har : arr K = (6, ln, sd, ek)) (h20 : 20 ≤ K ∧ K < 48) (d : decode cc pc = .ok (.aaload, 1)) (kk : inB i ln = true → Z p l e R s m args below meth c Q D cy B kd n nL b0 (cu) (pc + 1) ls (.ref (B + (a + 1 + sd * i.toNatClampNeg)) :: st) (M) (x)) : Z p l e R s m args below meth c Q D cy B kd n nL b0 (cu) (pc) ls (.int i :: .ref (B + a) :: st) (M) (if inB i ln = true then x else none) := by
  intro hx H locs lsA cells slots hc hs hH hS hl
  cases hi : inB i ln
  · rw [hi] at hx; cases hx
  rw [hi, if_pos rfl] at hx
  have ha : kd a < 48 := by omega
  have hn9 := (C.2.2.2.2.2.1 a).1 ha
  obtain ⟨q0, hq⟩ := sat_get (D := D) (cy := cy) (B := B) M hn9 ha
  have hq9 := hq
  rw [hk, celE, if_neg (by omega), har] at hq
  exact va_aldq C.1 C.2.1 C.2.2.2.2.2.2.1.1 hH q0 6 hq rfl (inB_vp hi) d (kk hi hx H locs lsA cells slots hc hs hH hS hl)
theorem z_iast (C : zC p l s m args meth c D cy B kd n sa sv own cc nL) {K ln sd ek : Nat} {a : Nat} {i : Int32} (hk : kd a = K) (har : arr K = (0, ln, sd, ek)) (h20 : 20 ≤ K ∧ K < 48) {v : Int32} (d : decode cc pc = .ok (.iastore, 1)) (kk : inB i ln = true → Z p l e R s m args below meth c Q D cy B kd n nL b0 (cu) (pc + 1) ls (st) (wI M a i.toNatClampNeg (v)) (x)) : Z p l e R s m args below meth c Q D cy B kd n nL b0 (cu) (pc) ls (.int v :: .int i :: .ref (B + a) :: st) (M) (if inB i ln = true then x else none) := by
  intro hx H locs lsA cells slots hc hs hH hS hl
  cases hi : inB i ln
  · rw [hi] at hx; cases hx
  rw [hi, if_pos rfl] at hx
  have ha : kd a < 48 := by omega
  have hn9 := (C.2.2.2.2.2.1 a).1 ha
  obtain ⟨q0, hq⟩ := sat_get (D := D) (cy := cy) (B := B) M hn9 ha
  have hq9 := hq
  rw [hk, celE, if_neg (by omega), har] at hq
  refine va_iast C.1 C.2.1 C.2.2.2.2.2.2.1.1 hH (LL_D _) hS q0 0 hq rfl (inB_vp hi) d (fun H1 locs1 hP1 hD1 hS1 => ?_)
  refine kk hi hx H1 locs1 lsA cells slots hc hs ?_ hS1 hl
  rw [sat_set hn9 ha hq9 (v := (upd (M a).1 i.toNatClampNeg (v), (M a).2)) (by rw [hk, celE, if_neg (by omega), har]; rfl)] at hP1
  exact hP1
theorem z_bast (C : zC p l s m args meth c D cy B kd n sa sv own cc nL) {K ln sd ek : Nat} {a : Nat} {i : Int32} (hk : kd a = K) (har : arr K = (1, ln, sd, ek)) (h20 : 20 ≤ K ∧ K < 48) {v : Int32} (d : decode cc pc = .ok (.bastore, 1)) (kk : inB i ln = true → Z p l e R s m args below meth c Q D cy B kd n nL b0 (cu) (pc + 1) ls (st) (wI M a i.toNatClampNeg (vp_nar .byte v)) (x)) : Z p l e R s m args below meth c Q D cy B kd n nL b0 (cu) (pc) ls (.int v :: .int i :: .ref (B + a) :: st) (M) (if inB i ln = true then x else none) := by
  intro hx H locs lsA cells slots hc hs hH hS hl
  cases hi : inB i ln
  · rw [hi] at hx; cases hx
  rw [hi, if_pos rfl] at hx
  have ha : kd a < 48 := by omega
  have hn9 := (C.2.2.2.2.2.1 a).1 ha
  obtain ⟨q0, hq⟩ := sat_get (D := D) (cy := cy) (B := B) M hn9 ha
  have hq9 := hq
  rw [hk, celE, if_neg (by omega), har] at hq
  refine va_bast C.1 C.2.1 C.2.2.2.2.2.2.1.1 hH (LL_D _) hS q0 1 hq rfl (inB_vp hi) d (fun H1 locs1 hP1 hD1 hS1 => ?_)
  refine kk hi hx H1 locs1 lsA cells slots hc hs ?_ hS1 hl
  rw [sat_set hn9 ha hq9 (v := (upd (M a).1 i.toNatClampNeg (vp_nar .byte v), (M a).2)) (by rw [hk, celE, if_neg (by omega), har]; rfl)] at hP1
  exact hP1
theorem z_zast (C : zC p l s m args meth c D cy B kd n sa sv own cc nL) {K ln sd ek : Nat} {a : Nat} {i : Int32} (hk : kd a = K) (har : arr K = (2, ln, sd, ek)) (h20 : 20 ≤ K ∧ K < 48) {v : Int32} (d : decode cc pc = .ok (.bastore, 1)) (kk : inB i ln = true → Z p l e R s m args below meth c Q D cy B kd n nL b0 (cu) (pc + 1) ls (st) (wI M a i.toNatClampNeg (vp_nar .boolean v)) (x)) : Z p l e R s m args below meth c Q D cy B kd n nL b0 (cu) (pc) ls (.int v :: .int i :: .ref (B + a) :: st) (M) (if inB i ln = true then x else none) := by
  intro hx H locs lsA cells slots hc hs hH hS hl
  cases hi : inB i ln
  · rw [hi] at hx; cases hx
  rw [hi, if_pos rfl] at hx
  have ha : kd a < 48 := by omega
  have hn9 := (C.2.2.2.2.2.1 a).1 ha
  obtain ⟨q0, hq⟩ := sat_get (D := D) (cy := cy) (B := B) M hn9 ha
  have hq9 := hq
  rw [hk, celE, if_neg (by omega), har] at hq
  refine va_zast C.1 C.2.1 C.2.2.2.2.2.2.1.1 hH (LL_D _) hS q0 2 hq rfl (inB_vp hi) d (fun H1 locs1 hP1 hD1 hS1 => ?_)
  refine kk hi hx H1 locs1 lsA cells slots hc hs ?_ hS1 hl
  rw [sat_set hn9 ha hq9 (v := (upd (M a).1 i.toNatClampNeg (vp_nar .boolean v), (M a).2)) (by rw [hk, celE, if_neg (by omega), har]; rfl)] at hP1
  exact hP1
theorem z_last (C : zC p l s m args meth c D cy B kd n sa sv own cc nL) {K ln sd ek : Nat} {a : Nat} {i : Int32} (hk : kd a = K) (har : arr K = (3, ln, sd, ek)) (h20 : 20 ≤ K ∧ K < 48) {v : Int64} (d : decode cc pc = .ok (.lastore, 1)) (kk : inB i ln = true → Z p l e R s m args below meth c Q D cy B kd n nL b0 (cu) (pc + 1) ls (st) (wJ M a i.toNatClampNeg (v)) (x)) : Z p l e R s m args below meth c Q D cy B kd n nL b0 (cu) (pc) ls (.long v :: .int i :: .ref (B + a) :: st) (M) (if inB i ln = true then x else none) := by
  intro hx H locs lsA cells slots hc hs hH hS hl
  cases hi : inB i ln
  · rw [hi] at hx; cases hx
  rw [hi, if_pos rfl] at hx
  have ha : kd a < 48 := by omega
  have hn9 := (C.2.2.2.2.2.1 a).1 ha
  obtain ⟨q0, hq⟩ := sat_get (D := D) (cy := cy) (B := B) M hn9 ha
  have hq9 := hq
  rw [hk, celE, if_neg (by omega), har] at hq
  refine va_last C.1 C.2.1 C.2.2.2.2.2.2.1.1 hH (LL_D _) hS q0 3 hq rfl (inB_vp hi) d (fun H1 locs1 hP1 hD1 hS1 => ?_)
  refine kk hi hx H1 locs1 lsA cells slots hc hs ?_ hS1 hl
  rw [sat_set hn9 ha hq9 (v := ((M a).1, vp_updL (M a).2 i.toNatClampNeg v)) (by rw [hk, celE, if_neg (by omega), har]; rfl)] at hP1
  exact hP1
theorem tys_arr (cy : Nat → ClassId) {K : Nat} (h : 20 ≤ K ∧ K < 48) : ∃ ty, (tysA cy)[(arr K).1]? = some (cy (arr K).1, ty) := by
  have key : ∀ K : Fin 48, 20 ≤ K.val → (arr K.val).1 < 7 := by decide
  have h7 := key ⟨K, h.2⟩ h.1
  revert h7
  generalize (arr K).1 = j
  intro h7
  rcases (show j = 0 ∨ j = 1 ∨ j = 2 ∨ j = 3 ∨ j = 4 ∨ j = 5 ∨ j = 6 by omega) with rfl | rfl | rfl | rfl | rfl | rfl | rfl <;> exact ⟨_, rfl⟩
theorem z_alen (C : zC p l s m args meth c D cy B kd n sa sv own cc nL) {K : Nat} {a : Nat} {v : Int32} (hk : kd a = K) (h20 : 20 ≤ K ∧ K < 48) (hv : Int32.ofNat (arr K).2.1 = v) (d : decode cc pc = .ok (.arraylength, 1)) (kk : Z p l e R s m args below meth c Q D cy B kd n nL b0 (cu) (pc + 1) ls (.int v :: st) (M) (x)) : Z p l e R s m args below meth c Q D cy B kd n nL b0 (cu) (pc) ls (.ref (B + a) :: st) (M) (x) := by
  intro hx H locs lsA cells slots hc hs hH hS hl
  have ha : kd a < 48 := by omega
  have hn9 := (C.2.2.2.2.2.1 a).1 ha
  obtain ⟨q0, hq⟩ := sat_get (D := D) (cy := cy) (B := B) M hn9 ha
  rw [hk, celE, if_neg (by omega)] at hq
  obtain ⟨ty, hty⟩ := tys_arr cy h20
  exact va_alen C.1 C.2.1 C.2.2.2.2.2.2.1.1 hH q0 (arr K).1 hq hty hv d (kk hx H locs lsA cells slots hc hs hH hS hl)
theorem z_iret (C : zC p l s m args meth c D cy B kd n sa sv own cc nL) {cv : β → Res} {b : β} {mc : Nat} {v : Int32} (hr : meth.sig.returnType = some .int) (hcu : cu ≤ mc) (d : decode cc pc = .ok (.ireturn, 1)) (h1 : cv b = (.inr (some (.int v)), M)) : Z p l e R s m args below meth c (vx_MQ below (QcR D cy B kd n (cv b0)) (XcR D cy B kd n (cv b0)) args s mc (6 * mc) (AA B kd n)) D cy B kd n nL b0 (cu) (pc) ls ([.int v]) (M) (some b) := by
  intro hx H locs lsA cells slots hc hs hH hS hl
  cases hx
  refine W.widen (k := mc) (n := 6 * mc) (by omega) (by omega) (vx_ret ?_)
  exact W.iret C.1 C.2.1 hr (fun t ht hw => ⟨_, by rw [h1], rfl, by rw [h1, ht]; exact hH, hS.F ht⟩) hS.2.2 d C.2.2.2.2.2.2.2.2
theorem z_zret (C : zC p l s m args meth c D cy B kd n sa sv own cc nL) {cv : β → Res} {b : β} {mc : Nat} {v : Bool} (hr : meth.sig.returnType = some .boolean) (hcu : cu ≤ mc) (d : decode cc pc = .ok (.ireturn, 1)) (h1 : cv b = (.inr (some (.int (bI v))), M)) : Z p l e R s m args below meth c (vx_MQ below (QcR D cy B kd n (cv b0)) (XcR D cy B kd n (cv b0)) args s mc (6 * mc) (AA B kd n)) D cy B kd n nL b0 (cu) (pc) ls ([.int (bI v)]) (M) (some b) := by
  intro hx H locs lsA cells slots hc hs hH hS hl
  cases hx
  refine W.widen (k := mc) (n := 6 * mc) (by omega) (by omega) (vx_ret ?_)
  exact W.zret C.1 C.2.1 hr (by cases v <;> rfl) (fun t ht hw => ⟨_, by rw [h1], rfl, by rw [h1, ht]; exact hH, hS.F ht⟩) hS.2.2 d C.2.2.2.2.2.2.2.2
theorem z_cret (C : zC p l s m args meth c D cy B kd n sa sv own cc nL) {cv : β → Res} {b : β} {mc : Nat} {v : Int32} (hr : meth.sig.returnType = some .char) (hn : narrow .char (.int v) = .int v) (hcu : cu ≤ mc) (d : decode cc pc = .ok (.ireturn, 1)) (h1 : cv b = (.inr (some (.int v)), M)) : Z p l e R s m args below meth c (vx_MQ below (QcR D cy B kd n (cv b0)) (XcR D cy B kd n (cv b0)) args s mc (6 * mc) (AA B kd n)) D cy B kd n nL b0 (cu) (pc) ls ([.int v]) (M) (some b) := by
  intro hx H locs lsA cells slots hc hs hH hS hl
  cases hx
  refine W.widen (k := mc) (n := 6 * mc) (by omega) (by omega) (vx_ret ?_)
  exact W.zret C.1 C.2.1 hr hn (fun t ht hw => ⟨_, by rw [h1], rfl, by rw [h1, ht]; exact hH, hS.F ht⟩) hS.2.2 d C.2.2.2.2.2.2.2.2
theorem z_lret (C : zC p l s m args meth c D cy B kd n sa sv own cc nL) {cv : β → Res} {b : β} {mc : Nat} {v : Int64} (hr : meth.sig.returnType = some .long) (hcu : cu ≤ mc) (d : decode cc pc = .ok (.lreturn, 1)) (h1 : cv b = (.inr (some (.long v)), M)) : Z p l e R s m args below meth c (vx_MQ below (QcR D cy B kd n (cv b0)) (XcR D cy B kd n (cv b0)) args s mc (6 * mc) (AA B kd n)) D cy B kd n nL b0 (cu) (pc) ls ([.long v]) (M) (some b) := by
  intro hx H locs lsA cells slots hc hs hH hS hl
  cases hx
  refine W.widen (k := mc) (n := 6 * mc) (by omega) (by omega) (vx_ret ?_)
  exact W.lret C.1 C.2.1 hr (fun t ht hw => ⟨_, by rw [h1], rfl, by rw [h1, ht]; exact hH, hS.F ht⟩) hS.2.2 d C.2.2.2.2.2.2.2.2
theorem z_vret (C : zC p l s m args meth c D cy B kd n sa sv own cc nL) {cv : β → Res} {b : β} {mc : Nat}  (hr : meth.sig.returnType = none) (hcu : cu ≤ mc) (d : decode cc pc = .ok (.return_, 1)) (h1 : cv b = (.inr (none), M)) : Z p l e R s m args below meth c (vx_MQ below (QcR D cy B kd n (cv b0)) (XcR D cy B kd n (cv b0)) args s mc (6 * mc) (AA B kd n)) D cy B kd n nL b0 (cu) (pc) ls ([]) (M) (some b) := by
  intro hx H locs lsA cells slots hc hs hH hS hl
  cases hx
  refine W.widen (k := mc) (n := 6 * mc) (by omega) (by omega) (vx_ret ?_)
  exact W.vret C.1 C.2.1 hr (fun t ht hw => ⟨_, by rw [h1], rfl, by rw [h1, ht]; exact hH, hS.F ht⟩) hS.2.2 d C.2.2.2.2.2.2.2.2
theorem z_aret (C : zC p l s m args meth c D cy B kd n sa sv own cc nL) {cv : β → Res} {b : β} {mc : Nat} {v : Nat} {cn : String} (hr : meth.sig.returnType = some (.object cn)) (hcu : cu ≤ mc) (d : decode cc pc = .ok (.areturn, 1)) (h1 : cv b = (.inr (some (.ref (B + v))), M)) : Z p l e R s m args below meth c (vx_MQ below (QcR D cy B kd n (cv b0)) (XcR D cy B kd n (cv b0)) args s mc (6 * mc) (AA B kd n)) D cy B kd n nL b0 (cu) (pc) ls ([.ref (B + v)]) (M) (some b) := by
  intro hx H locs lsA cells slots hc hs hH hS hl
  cases hx
  refine W.widen (k := mc) (n := 6 * mc) (by omega) (by omega) (vx_ret ?_)
  exact W.aret C.1 C.2.1 hr (Or.inl ⟨_, rfl⟩) (Or.inr ⟨_, rfl⟩) (fun t ht hw => ⟨_, by rw [h1], rfl, by rw [h1, ht]; exact hH, hS.F ht⟩) hS.2.2 d C.2.2.2.2.2.2.2.2
theorem ct_of {lv k : Nat} {y : MethodName} {ret : Option FieldType} {cv : β → Res} {av : List Value} (hy : plainName y.cls = true) (hkd : kOk kd n) (hst : l.stackTraces = false) (hle : (lg_sl av).length ≤ nL) (hls : lv_args 0 av = ls)
    (body : ∀ (p : Program) (e : Env) (s : State) (m : MethodId) (args : Array Value) (below : List Frame) (meth : Method) (c : Code) (b : β), zC p l s m args meth c D cy B kd n sa sv y.cls cc nL → (∀ x ∈ c.exceptionTable.toList, False) → meth.sig.returnType = ret → Z p l e (rmz lv k) s m args below meth c (vx_MQ below (QcR D cy B kd n (cv b)) (XcR D cy B kd n (cv b)) args s k (6 * k) (AA B kd n)) D cy B kd n nL b 0 0 ls [] M x) :
    CT l D cy B kd n sa sv lv k y cc nL ret cv av M x := by
  intro b hb
  refine vx_ofW hy rfl ?_
  intro p e s m args below meth c s1 Bd hml ht hP
  obtain ⟨rfl, hSat, hCX⟩ := hP
  have hown : s.vm.findClass y.cls = some m.cls := findClass_of_methodNamed Bd.named
  have hts : ∀ w ∈ GW, w.before av.toArray s = true := fun w hw => atoms_spec (ws := Cond.code y cc nL ret :: GW) Bd.pre w (List.mem_cons_of_mem _ hw)
  have h9 := hCX
  have key := body p e s m av.toArray below meth c b ⟨Bd.exec, Bd.bytes, hml, hown, hts, hkd, hCX, hst, Bd.notSynchronized⟩ ht Bd.returns hb s.heap [] ((lg_sl av ++ List.replicate (nL - (lg_sl av).length) Slot.unset).toArray) 0 0 (Nat.le_refl _) (Nat.zero_le _) hSat va_S.rf (by rw [← hls]; exact lv_entry av hle)
  rw [lg_entry_eq]
  exact key
/-- behind a call: what it gave, or what it threw -/
theorem z_after {H : Heap} {locs : List Loc} {cells slots k : Nat} {lsA : Array Slot} {rest st0 : List Value} {r : Res} {av : Array Value}
    (hr : vx_Run p l e R s m args below meth c H locs cells slots k (6 * k) (F0 m pc lsA st0) rest (QcR D cy B kd n r av) (XcR D cy B kd n r) (AA B kd n)) (hS : va_S (AA B kd n) s.heap H locs)
    (kx : ∀ (code : Nat) (ce : Cell) (q9 : Addr) (H1 : Heap) (locs1 : List Loc), r.1 = .inl code → Sat D cy B kd n r.2 H1 → va_S (AA B kd n) s.heap H1 locs1 → H1[q9]? = some ce → ce.vm = .none → s.vm.findClass (exN code) = some ce.cls → vx_W p l e R s m args below meth c H1 locs1 (cells + k) (slots + 6 * k) Q (F0 m pc lsA rest) q9)
    (kk : ∀ (v : Option Value) (H1 : Heap) (locs1 : List Loc), r.1 = .inr v → Sat D cy B kd n r.2 H1 → va_S (AA B kd n) s.heap H1 locs1 → W p l e R s m args below meth c H1 locs1 (cells + k) (slots + 6 * k) Q (F0 m (pc + 3) lsA (v.toList ++ rest))) : W p l e R s m args below meth c H locs cells slots Q (F0 m pc lsA st0) := by
  intro T hT X
  rcases hr T hT X with ⟨v, st₀, t, T', L, h0, X', hL, e1, e2, ⟨v', hv1, hv, hSat, hF⟩, st⟩ | ⟨q, st₀, t, T', L, E, ce, h0, X', hL, e1, e2, ⟨code, hc1, hE, hSat, hF⟩, hce, hcv, hcl, st⟩
  · cases hv
    obtain ⟨k1, k2, k3⟩ := vx_keep h0 e1 hS (fun q _ h => h) (fun q h => h) hL hF
    obtain ⟨t2, a1, b1⟩ := kk v T'.heap (locs ++ L) hv1 (by rw [e1]; exact hSat) k3 T' rfl X'
    exact ⟨t2, st t2 a1, b1⟩
  · obtain ⟨k1, k2, k3⟩ := vx_keep h0 e1 hS (fun q _ h => h) (fun q h => h) hL hF
    subst hE
    obtain ⟨t2, a1, b1⟩ := kx code ce q T'.heap (locs ++ L) hc1 (by rw [e1]; exact hSat) k3 (by rw [e1]; exact hce) hcv hcl T' rfl X'
    exact ⟨t2, st.trans a1, b1⟩
def wV (own : String) (idx : Nat) (Cn : String) (y : MethodName) (cc : ByteArray) (nL : Nat) (ret : Option FieldType) : List Cond := [.methodLink own idx y, .instanceMethod y, .selects Cn y y, .initialized Cn, .code y cc nL ret]
def wS (own : String) (idx : Nat) (y : MethodName) (cc : ByteArray) (nL : Nat) (ret : Option FieldType) : List Cond := [.methodLink own idx y, .static y, .initialized y.cls, .code y cc nL ret]
def wN (y : MethodName) (Cn : String) (cc : ByteArray) (nL : Nat) (ret : Option FieldType) : List Cond := [.instanceMethod y, .selects Cn y y, .initialized Cn, .code y cc nL ret]
def wSN (y : MethodName) (cc : ByteArray) (nL : Nat) (ret : Option FieldType) : List Cond := [.static y, .initialized y.cls, .code y cc nL ret]
theorem gw_good {ws : List Cond} (h : ∀ w ∈ ws, w ∈ GW) : GoodIn GW ws := fun w hw => ⟨h w hw, good_of_word (GW_good w (h w hw))⟩
theorem gw_callee {y : MethodName} {cc : ByteArray} {nL : Nat} {ret : Option FieldType} (h : Cond.code y cc nL ret ∈ GW) : GoodIn GW (Cond.code y cc nL ret :: GW) := gw_good fun w hw => (List.mem_cons.mp hw).elim (fun q => q ▸ h) (fun q => q)
/-- where the callee stands: its words, its number of arguments, its room -/
def okM (y : MethodName) (nA : Nat) : Prop := y.cls ≠ "java/lang/invoke/MethodHandle" ∧ y.cls ≠ "java/lang/invoke/VarHandle" ∧ (parseMethodDescriptor y.desc).map (fun d => d.parameters.length) = some nA
def okR (R : Room) (lv nL2 cu k : Nat) : Prop := 13 + lv ≤ R.frames ∧ 8 + (nL2 + 11) + (300 + 40 * lv) ≤ R.locals ∧ cu + k ≤ R.cells ∧ 6 * (cu + k) ≤ R.slots
theorem pre_of {H : Heap} {locs : List Loc} {av : List Value} (C : zC p l s m args meth c D cy B kd n sa sv own cc nL) (hH : Sat D cy B kd n M H) (hS : va_S (AA B kd n) s.heap H locs) : PreS s H (fun v U => v = av.toArray ∧ Sat D cy B kd n M U.heap ∧ CX D cy B kd n sa sv U) av :=
  ⟨fun a U g mk h => ⟨h.1, h.2.1, h.2.2.calling g mk a⟩, fun U hU hW => ⟨rfl, by rw [hU]; exact hH, C.2.2.2.2.2.2.1.moved hW (by rw [hU]; exact hS.1) (fun a h1 h2 => by rw [hU]; exact hS.2.1 a h1 h2)⟩⟩
theorem zrecv {H : Heap} {K : Nat} {a : Nat} {Cn : String} {T : u_T} {N : Nat} {ty0 : Nat → FieldType} (C : zC p l s m args meth c D cy B kd n sa sv own cc nL) (hH : Sat D cy B kd n M H) (hcl : clOk K Cn T N ty0) (hk : kd a = K) : ∃ cell : Cell, H[B + a]? = some cell ∧ cell.vm.isStatics = false ∧ s.vm.findClass Cn = some cell.cls := by
  obtain ⟨h1, h2, h3, h4, h5, h6⟩ := hcl
  have ha : kd a < 48 := by omega
  obtain ⟨q0, hq⟩ := sat_get (D := D) (cy := cy) (B := B) M ((C.2.2.2.2.2.1 a).1 ha) ha
  rw [hk, celE, if_pos h5] at hq
  exact va_recv C.2.2.2.2.2.2.1.1 hH h1 hq
theorem run_V (C : zC p l s m args meth c D cy B kd n sa sv own cc nL) {H : Heap} {locs : List Loc} {lsA : Array Slot} {cells slots : Nat} {Cn : String} {idx lv k nL2 nA : Nat} {y : MethodName} {cc2 : ByteArray} {ret2 : Option FieldType} {γ : Type} {cv2 : γ → Res} {y0 : Option γ} {As rest : List Value} {a K : Nat} {T : u_T} {N : Nat} {ty0 : Nat → FieldType} {b : γ} (hct : CT l D cy B kd n sa sv lv k y cc2 nL2 ret2 cv2 (.ref (B + a) :: As) M y0) (hb : y0 = some b) (hw : ∀ w ∈ wV own idx Cn y cc2 nL2 ret2, w ∈ GW) (hy : y.cls = Cn) (hm : okM y nA) (hn : As.length = nA) (hcl : clOk K Cn T N ty0) (hk : kd a = K) (hR : okR R lv nL2 cu k) (hc : cells ≤ cu) (hs : slots ≤ 6 * cu) (hH : Sat D cy B kd n M H) (hS : va_S (AA B kd n) s.heap H locs) (hl : lv_has lsA nL ls) (hw8 : (rest.map fun v => v.category).sum ≤ 8) (d : decode cc pc = .ok (.invokevirtual idx, 3)) :
    vx_Run p l e R s m args below meth c H locs cells slots k (6 * k) (F0 m pc lsA (As.reverse ++ .ref (B + a) :: rest)) rest (QcR D cy B kd n (cv2 b) (Value.ref (B + a) :: As).toArray) (XcR D cy B kd n (cv2 b)) (AA B kd n) := by
  obtain ⟨r1, r2, r3, r4⟩ := hR
  refine vx_runV (Ts := GW) (C := Cn) (ret := ret2) (maxL := nL2) (bytes := cc2) (n := nA) ⟨C.1, C.2.1, C.2.2.1, C.2.2.2.1, C.2.2.2.2.1⟩ (hct b hb) ?_ ⟨(pre_of C hH hS).1, zrecv C hH hcl hk, (pre_of C hH hS).2⟩ rfl hn hl.1 rfl (lv_room hw8) d ⟨by omega, by omega⟩
  refine cwV nA C.2.2.2.2.1 (ws' := GW) ?_ rfl rfl rfl ⟨hy, hm.1, hm.2.1, hm.2.2⟩ ⟨by show 12 + lv + 1 ≤ _; omega, by show 8 + (nL2 + 11) + (300 + 40 * lv) ≤ _; omega⟩
  refine gw_good fun w hw9 => ?_
  rcases List.mem_append.mp hw9 with q | q
  · exact hw w (by simp only [wV, List.mem_cons, List.not_mem_nil, or_false] at q ⊢; rcases q with q | q | q | q <;> simp [q])
  · rcases List.mem_cons.mp q with q | q
    · exact hw w (by rw [q]; simp [wV])
    · exact q
theorem run_S (C : zC p l s m args meth c D cy B kd n sa sv own cc nL) {H : Heap} {locs : List Loc} {lsA : Array Slot} {cells slots : Nat} {Cn : String} {idx lv k nL2 nA : Nat} {y : MethodName} {cc2 : ByteArray} {ret2 : Option FieldType} {γ : Type} {cv2 : γ → Res} {y0 : Option γ} {As rest : List Value} {b : γ} (hct : CT l D cy B kd n sa sv lv k y cc2 nL2 ret2 cv2 As M y0) (hb : y0 = some b) (hw : ∀ w ∈ wS own idx y cc2 nL2 ret2, w ∈ GW) (hm : okM y nA) (hn : As.length = nA) (hR : okR R lv nL2 cu k) (hc : cells ≤ cu) (hs : slots ≤ 6 * cu) (hH : Sat D cy B kd n M H) (hS : va_S (AA B kd n) s.heap H locs) (hl : lv_has lsA nL ls) (hw8 : (rest.map fun v => v.category).sum ≤ 8) (d : decode cc pc = .ok (.invokestatic idx, 3)) :
    vx_Run p l e R s m args below meth c H locs cells slots k (6 * k) (F0 m pc lsA (As.reverse ++ rest)) rest (QcR D cy B kd n (cv2 b) As.toArray) (XcR D cy B kd n (cv2 b)) (AA B kd n) := by
  obtain ⟨r1, r2, r3, r4⟩ := hR
  refine vx_runS (Ts := GW) (ret := ret2) (maxL := nL2) (bytes := cc2) (n := nA) ⟨C.1, C.2.1, C.2.2.1, C.2.2.2.1, C.2.2.2.2.1⟩ (hct b hb) ⟨callB_of nA C.2.2.2.2.1 (ws' := GW) (gw_callee (hw _ (by simp [wS]))) rfl rfl rfl (C.2.2.2.2.1 _ (hw _ (by simp [wS]))) (C.2.2.2.2.1 _ (hw _ (by simp [wS]))) ⟨hm.1, hm.2.1, hm.2.2⟩ ⟨by show 12 + lv + 1 ≤ _; omega, by show 8 + (nL2 + 11) + (300 + 40 * lv) ≤ _; omega⟩, C.2.2.2.2.1 _ (hw _ (by simp [wS]))⟩ (pre_of C hH hS) rfl hn hl.1 rfl (lv_room hw8) d ⟨by omega, by omega⟩
theorem run_VN (C : zC p l s m args meth c D cy B kd n sa sv own cc nL) {H : Heap} {locs : List Loc} {lsA : Array Slot} {cells slots : Nat} {host : String} {Cn : String} {idx lv k nL2 nA : Nat} {y : MethodName} {cc2 : ByteArray} {ret2 : Option FieldType} {γ : Type} {cv2 : γ → Res} {y0 : Option γ} {As rest : List Value} {a K : Nat} {T : u_T} {N : Nat} {ty0 : Nat → FieldType} {b : γ} (hct : CT l D cy B kd n sa sv lv k y cc2 nL2 ret2 cv2 (.ref (B + a) :: As) M y0) (hb : y0 = some b) (hw : ∀ w ∈ wN y Cn cc2 nL2 ret2, w ∈ GW) (hN : Cond.methodLinkNest own idx y host ∈ NW) (hy : y.cls = Cn) (hm : okM y nA) (hn : As.length = nA) (hcl : clOk K Cn T N ty0) (hk : kd a = K) (hR : okR R lv nL2 cu k) (hc : cells ≤ cu) (hs : slots ≤ 6 * cu) (hH : Sat D cy B kd n M H) (hS : va_S (AA B kd n) s.heap H locs) (hl : lv_has lsA nL ls) (hw8 : (rest.map fun v => v.category).sum ≤ 8) (d : decode cc pc = .ok (.invokevirtual idx, 3)) :
    vx_Run p l e R s m args below meth c H locs cells slots k (6 * k) (F0 m pc lsA (As.reverse ++ .ref (B + a) :: rest)) rest (QcR D cy B kd n (cv2 b) (Value.ref (B + a) :: As).toArray) (XcR D cy B kd n (cv2 b)) (AA B kd n) := by
  obtain ⟨r1, r2, r3, r4⟩ := hR
  subst hy
  refine vx_runVN (Ts := GW) (C := y.cls) (host := host) (ret := ret2) (maxL := nL2) (bytes := cc2) (n := nA) ⟨C.1, C.2.1, C.2.2.1, C.2.2.2.1, C.2.2.2.2.1⟩ (hct b hb) ⟨va_cnB nA C.2.2.2.2.1 (ws' := GW) (gw_callee (hw _ (by simp [wN]))) rfl rfl rfl (C.2.2.2.2.2.2.1.2.2.2.1 _ hN) (C.2.2.2.2.1 _ (hw _ (by simp [wN]))) ⟨hm.1, hm.2.1, hm.2.2⟩ ⟨by show 12 + lv + 1 ≤ _; omega, by show 8 + (nL2 + 11) + (300 + 40 * lv) ≤ _; omega⟩, C.2.2.2.2.1 _ (hw _ (by simp [wN])), C.2.2.2.2.1 _ (hw _ (by simp [wN]))⟩ ⟨(pre_of C hH hS).1, zrecv C hH hcl hk, (pre_of C hH hS).2⟩ rfl hn hl.1 rfl (lv_room hw8) d ⟨by omega, by omega⟩
theorem run_SN (C : zC p l s m args meth c D cy B kd n sa sv own cc nL) {H : Heap} {locs : List Loc} {lsA : Array Slot} {cells slots : Nat} {host : String} {Cn : String} {idx lv k nL2 nA : Nat} {y : MethodName} {cc2 : ByteArray} {ret2 : Option FieldType} {γ : Type} {cv2 : γ → Res} {y0 : Option γ} {As rest : List Value} {b : γ} (hct : CT l D cy B kd n sa sv lv k y cc2 nL2 ret2 cv2 As M y0) (hb : y0 = some b) (hw : ∀ w ∈ wSN y cc2 nL2 ret2, w ∈ GW) (hN : Cond.methodLinkNest own idx y host ∈ NW) (hm : okM y nA) (hn : As.length = nA) (hR : okR R lv nL2 cu k) (hc : cells ≤ cu) (hs : slots ≤ 6 * cu) (hH : Sat D cy B kd n M H) (hS : va_S (AA B kd n) s.heap H locs) (hl : lv_has lsA nL ls) (hw8 : (rest.map fun v => v.category).sum ≤ 8) (d : decode cc pc = .ok (.invokestatic idx, 3)) :
    vx_Run p l e R s m args below meth c H locs cells slots k (6 * k) (F0 m pc lsA (As.reverse ++ rest)) rest (QcR D cy B kd n (cv2 b) As.toArray) (XcR D cy B kd n (cv2 b)) (AA B kd n) := by
  obtain ⟨r1, r2, r3, r4⟩ := hR
  refine vx_runSN (Ts := GW) (host := host) (ret := ret2) (maxL := nL2) (bytes := cc2) (n := nA) ⟨C.1, C.2.1, C.2.2.1, C.2.2.2.1, C.2.2.2.2.1⟩ (hct b hb) ⟨va_cnB nA C.2.2.2.2.1 (ws' := GW) (gw_callee (hw _ (by simp [wSN]))) rfl rfl rfl (C.2.2.2.2.2.2.1.2.2.2.1 _ hN) (C.2.2.2.2.1 _ (hw _ (by simp [wSN]))) ⟨hm.1, hm.2.1, hm.2.2⟩ ⟨by show 12 + lv + 1 ≤ _; omega, by show 8 + (nL2 + 11) + (300 + 40 * lv) ≤ _; omega⟩, C.2.2.2.2.1 _ (hw _ (by simp [wSN])), trivial⟩ (pre_of C hH hS) rfl hn hl.1 rfl (lv_room hw8) d ⟨by omega, by omega⟩
end ZZ
