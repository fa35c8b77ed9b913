def zG (l : Launch) (kd : Nat → Nat) (n : Nat) : Prop := kOk kd n ∧ l.stackTraces = false
def fillI (M : Mem) (a ln : Nat) (v : Int32) : Mem := wIs M a (fun j => if j < ln then v else (M a).1 j)
def fillJ (M : Mem) (a ln : Nat) (v : Int64) : Mem := wJs M a (fun j => if j < ln then v else (M a).2 j)
def cpI (M : Mem) (a b ln : Nat) : Mem := wIs M b (va_cpy (M a).1 (M b).1 0 0 ln)
def cpJ (M : Mem) (a b ln : Nat) : Mem := wJs M b (va_cpy (M a).2 (M b).2 0 0 ln)
theorem narB (b : Bool) : narrow .boolean (.int (bI b)) = .int (bI b) := by cases b <;> rfl
theorem fitB (b : Bool) : fits .boolean (.int (bI b)) = true := by cases b <;> rfl
theorem okR_of {R : Room} {lv nL2 cu k : Nat} (h : (Nat.ble (13 + lv) R.frames && Nat.ble (8 + (nL2 + 11) + (300 + 40 * lv)) R.locals && Nat.ble (cu + k) R.cells && Nat.ble (6 * (cu + k)) R.slots) = true) : okR R lv nL2 cu k := by
  simp only [Bool.and_eq_true] at h
  exact ⟨Nat.le_of_ble_eq_true h.1.1.1, Nat.le_of_ble_eq_true h.1.1.2, Nat.le_of_ble_eq_true h.1.2, Nat.le_of_ble_eq_true h.2⟩
def cpW : Prop := Cond.native arraycopyName ∈ GW ∧ Cond.static arraycopyName ∈ GW ∧ Cond.initialized "java/lang/System" ∈ GW
section ZZ
variable {p : Program} {l : Launch} {e : Env} {R : Room} {s : State} {m : MethodId} {args : Array Value} {below : List Frame} {meth : Method} {c : Code} {Q : State → Prop}
variable {D : va_G} {cy : Nat → ClassId} {B : Nat} {kd : Nat → Nat} {n : Nat} {sa sv : Nat → Nat} {own : String} {cc : ByteArray} {nL : Nat}
variable {β : Type} {b0 : β} {cu pc : Nat} {ls : List (Nat × Value)} {st : List Value} {M : Mem} {x : Option β}
theorem zG_of (C : zC p l s m args meth c D cy B kd n sa sv own cc nL) : zG l kd n := ⟨C.2.2.2.2.2.1, C.2.2.2.2.2.2.2.1⟩
theorem zkd (C : zC p l s m args meth c D cy B kd n sa sv own cc nL) {a K k off K2 : Nat} (hk : kd a = K) (h : (lay K)[k]? = some (off + 2, K2)) : kd (a + off) = K2 := (C.2.2.2.2.2.1 a).2.1 k off K2 (by rw [hk]; exact h)
theorem zka (C : zC p l s m args meth c D cy B kd n sa sv own cc nL) {a K el ln sd ek : Nat} {i : Int32} (hk : kd a = K) (har : arr K = (el, ln, sd, ek)) (h4 : 4 ≤ el) (hi : inB i ln = true) : kd (a + 1 + sd * i.toNatClampNeg) = ek := by
  have h := (C.2.2.2.2.2.1 a).2.2
  rw [hk, har] at h
  unfold inB at hi
  simp only [Bool.and_eq_true, decide_eq_true_eq] at hi
  exact h h4 _ hi.2
theorem z_none : Z p l e R s m args below meth c Q D cy B kd n nL b0 (cu) (pc) ls (st) (M) (none) := by intro hx; cases hx
theorem z_jump {ls1 : List (Nat × Value)} {cu1 : Nat} (hcu : cu ≤ cu1) (ks : List Nat) (h : lv_pick ls ks = ls1) (kk : Z p l e R s m args below meth c Q D cy B kd n nL b0 (cu1) (pc) ls1 (st) (M) (x)) : Z p l e R s m args below meth c Q D cy B kd n nL b0 (cu) (pc) ls (st) (M) (x) := by
  intro hx H locs lsA cells slots hc hs hH hS hl
  exact kk hx H locs lsA cells slots (Nat.le_trans hc hcu) (by omega) hH hS (lv_sub hl ks h)
theorem z_idivK (C : zC p l s m args meth c D cy B kd n sa sv own cc nL) {a b : Int32} (d : decode cc pc = .ok (.idiv, 1)) (h : ¬ b = 0) (kk : Z p l e R s m args below meth c Q D cy B kd n nL b0 (cu) (pc + 1) ls (.int (a / b) :: st) (M) (x)) : Z p l e R s m args below meth c Q D cy B kd n nL b0 (cu) (pc) ls (.int b :: .int a :: st) (M) (x) := by
  intro hx H locs lsA cells slots hc hs hH hS hl
  exact lv_idiv C.1 C.2.1 d h (kk hx H locs lsA cells slots hc hs hH hS hl)
theorem z_iremK (C : zC p l s m args meth c D cy B kd n sa sv own cc nL) {a b : Int32} (d : decode cc pc = .ok (.irem, 1)) (h : ¬ b = 0) (kk : Z p l e R s m args below meth c Q D cy B kd n nL b0 (cu) (pc + 1) ls (.int (remI a b) :: st) (M) (x)) : Z p l e R s m args below meth c Q D cy B kd n nL b0 (cu) (pc) ls (.int b :: .int a :: st) (M) (x) := by
  intro hx H locs lsA cells slots hc hs hH hS hl
  exact lv_irem C.1 C.2.1 d h (kk hx H locs lsA cells slots hc hs hH hS hl)
theorem bool01 {v : Int32} (h : v = 0 ∨ v = 1) : narrow .boolean (.int v) = .int v ∧ fits .boolean (.int v) = true := by
  rcases h with rfl | rfl <;> exact ⟨rfl, rfl⟩
theorem z_putZg (C : zC p l s m args meth c D cy B kd n sa sv own cc nL) {K k z : Nat} {Cn ref : String} {T : u_T} {N idx : Nat} {ty0 : Nat → FieldType} {a : Nat} {v : Int32} (hcl : clOk K Cn T N ty0) (hk : kd a = K) (hlay : (lay K)[k]? = some (0, z)) (hlink : Cond.fieldLink own idx ref (T k).2.1 (T k).2.2.1 ∈ GW) (href : (T k).1 = ref) (hty : ty0 k = .boolean) (hfin : (T k).2.2.2 = false) (d : decode cc pc = .ok (.putfield idx, 3)) (kk : Z p l e R s m args below meth c Q D cy B kd n nL b0 (cu) (pc + 3) ls (st) (wI M a k v) (x)) : Z p l e R s m args below meth c Q D cy B kd n nL b0 (cu) (pc) ls (.int v :: .ref (B + a) :: st) (M) (if v = 0 ∨ v = 1 then x else none) := by
  intro hx
  by_cases h : v = 0 ∨ v = 1
  · rw [if_pos h] at hx
    exact z_putZ C hcl hk hlay hlink href hty hfin (bool01 h).1 (bool01 h).2 d kk hx
  · rw [if_neg h] at hx
    cases hx
theorem z_copyI (C : zC p l s m args meth c D cy B kd n sa sv own cc nL) {K ln sd ek : Nat} {a b : Nat} {v : Int32} {idx : Nat} (ha : kd a = K) (hb : kd b = K) (har : arr K = (0, ln, sd, ek)) (hv : Int32.ofNat ln = v) (h20 : 20 ≤ K ∧ K < 48) (hab : ln < 2147483648) (hl9 : Cond.methodLink own idx arraycopyName ∈ GW) (hw : cpW) (hR : 1 ≤ R.frames ∧ 100 ≤ R.locals) (hw8 : (st.map fun v => v.category).sum ≤ 8) (d : decode cc pc = .ok (.invokestatic idx, 3)) (kk : Z p l e R s m args below meth c Q D cy B kd n nL b0 (cu) (pc + 3) ls (st) (cpI M a b ln) (x)) : Z p l e R s m args below meth c Q D cy B kd n nL b0 (cu) (pc) ls (.int v :: .int 0 :: .ref (B + b) :: .int 0 :: .ref (B + a) :: st) (M) (x) := by
  intro hx H locs lsA cells slots hc hs hH hS hl
  have ha9 : kd a < 48 := by omega
  have hb9 : kd b < 48 := by omega
  have na := (C.2.2.2.2.2.1 a).1 ha9
  have nb := (C.2.2.2.2.2.1 b).1 hb9
  obtain ⟨q0, hq⟩ := sat_get (D := D) (cy := cy) (B := B) M na ha9
  obtain ⟨q1, hq1⟩ := sat_get (D := D) (cy := cy) (B := B) M nb hb9
  have hq9 := hq1
  rw [ha, celE, if_neg (by omega), har] at hq
  rw [hb, celE, if_neg (by omega), har] at hq1
  have hG := C.2.2.2.2.1
  have h0 : (0 : Int32).toNatClampNeg = 0 := rfl
  have hvn : v.toNatClampNeg = ln := by rw [← hv]; exact nI_clamp hab
  have e9 : nativeFrameWords "java/lang/System" "arraycopy" 5 + 11 ≤ 92 := by decide +kernel
  have r9 : (st.map fun v => v.category).sum + (nativeFrameWords "java/lang/System" "arraycopy" 5 + 11) ≤ R.locals := by
    have := hR.2
    omega
  have z9 : ¬ (0 : Int32) < 0 := by decide
  have v9 : ¬ v < 0 := by rw [← hv]; exact nI_pos hab
  refine va_copyi C.1 C.2.1 (C.2.2.1.trans hl.1.symm) C.2.2.2.1 (hG _ hl9) (hG _ hw.1) (hG _ hw.2.1) (hG _ hw.2.2) C.2.2.2.2.2.2.1.1 hH (LL_D _) hS q0 q1 0 0 hq hq1 rfl rfl rfl (sp := 0) (dp := 0) (n := v) z9 z9 v9 (by rw [hvn, h0, Nat.zero_add]; exact Nat.le_refl _) (by rw [hvn, h0, Nat.zero_add]; exact Nat.le_refl _) (fun i hi => rfl) hR.1 r9 d (fun H1 locs1 hP1 hD1 hS1 => ?_)
  refine kk hx H1 locs1 lsA cells slots hc hs ?_ hS1 hl
  rw [hvn, h0] at hP1
  rw [sat_set nb hb9 hq9 (v := (va_cpy (M a).1 (M b).1 0 0 ln, (M b).2)) (by rw [hb, celE, if_neg (by omega), har]; rfl)] at hP1
  exact hP1
theorem z_copyJ (C : zC p l s m args meth c D cy B kd n sa sv own cc nL) {K ln sd ek : Nat} {a b : Nat} {v : Int32} {idx : Nat} (ha : kd a = K) (hb : kd b = K) (har : arr K = (3, ln, sd, ek)) (hv : Int32.ofNat ln = v) (h20 : 20 ≤ K ∧ K < 48) (hab : ln < 2147483648) (hl9 : Cond.methodLink own idx arraycopyName ∈ GW) (hw : cpW) (hR : 1 ≤ R.frames ∧ 100 ≤ R.locals) (hw8 : (st.map fun v => v.category).sum ≤ 8) (d : decode cc pc = .ok (.invokestatic idx, 3)) (kk : Z p l e R s m args below meth c Q D cy B kd n nL b0 (cu) (pc + 3) ls (st) (cpJ M a b ln) (x)) : Z p l e R s m args below meth c Q D cy B kd n nL b0 (cu) (pc) ls (.int v :: .int 0 :: .ref (B + b) :: .int 0 :: .ref (B + a) :: st) (M) (x) := by
  intro hx H locs lsA cells slots hc hs hH hS hl
  have ha9 : kd a < 48 := by omega
  have hb9 : kd b < 48 := by omega
  have na := (C.2.2.2.2.2.1 a).1 ha9
  have nb := (C.2.2.2.2.2.1 b).1 hb9
  obtain ⟨q0, hq⟩ := sat_get (D := D) (cy := cy) (B := B) M na ha9
  obtain ⟨q1, hq1⟩ := sat_get (D := D) (cy := cy) (B := B) M nb hb9
  have hq9 := hq1
  rw [ha, celE, if_neg (by omega), har] at hq
  rw [hb, celE, if_neg (by omega), har] at hq1
  have hG := C.2.2.2.2.1
  have h0 : (0 : Int32).toNatClampNeg = 0 := rfl
  have hvn : v.toNatClampNeg = ln := by rw [← hv]; exact nI_clamp hab
  have e9 : nativeFrameWords "java/lang/System" "arraycopy" 5 + 11 ≤ 92 := by decide +kernel
  have r9 : (st.map fun v => v.category).sum + (nativeFrameWords "java/lang/System" "arraycopy" 5 + 11) ≤ R.locals := by
    have := hR.2
    omega
  have z9 : ¬ (0 : Int32) < 0 := by decide
  have v9 : ¬ v < 0 := by rw [← hv]; exact nI_pos hab
  refine va_copyl C.1 C.2.1 (C.2.2.1.trans hl.1.symm) C.2.2.2.1 (hG _ hl9) (hG _ hw.1) (hG _ hw.2.1) (hG _ hw.2.2) C.2.2.2.2.2.2.1.1 hH (LL_D _) hS q0 q1 3 3 hq hq1 rfl rfl rfl (sp := 0) (dp := 0) (n := v) z9 z9 v9 (by rw [hvn, h0, Nat.zero_add]; exact Nat.le_refl _) (by rw [hvn, h0, Nat.zero_add]; exact Nat.le_refl _) (fun i hi => rfl) hR.1 r9 d (fun H1 locs1 hP1 hD1 hS1 => ?_)
  refine kk hx H1 locs1 lsA cells slots hc hs ?_ hS1 hl
  rw [hvn, h0] at hP1
  rw [sat_set nb hb9 hq9 (v := ((M b).1, va_cpy (M a).2 (M b).2 0 0 ln)) (by rw [hb, celE, if_neg (by omega), har]; rfl)] at hP1
  exact hP1
end ZZ
