def minI (x y : Int32) : Int32 := if y < x then y else x
def maxI (x y : Int32) : Int32 := if x < y then y else x
section ZZ
variable {p : Program} {l : Launch} {e : Env} {R : Room} {s : State} {m : MethodId} {args : Array Value} {below : List Frame} {meth : Method} {c : Code} {Q : State → Prop}
variable {D : va_G} {cy : Nat → ClassId} {B : Nat} {kd : Nat → Nat} {n : Nat} {sa sv : Nat → Nat} {own : String} {cc : ByteArray} {nL : Nat}
variable {β : Type} {b0 : β} {cu pc : Nat} {ls : List (Nat × Value)} {st : List Value} {M : Mem} {x : Option β}
theorem z_min (C : zC p l s m args meth c D cy B kd n sa sv own cc nL) {a b : Int32} {idx : Nat} (hw : ∀ w ∈ wS own idx Lib.Math.min.name Lib.Math.min.code 2 (some .int), w ∈ GW) (hR : 1 ≤ R.frames ∧ 100 ≤ R.locals ∧ cu ≤ R.cells ∧ 6 * cu ≤ R.slots) (hw8 : (st.map fun v => v.category).sum ≤ 8) (d : decode cc pc = .ok (.invokestatic idx, 3)) (kk : Z p l e R s m args below meth c Q D cy B kd n nL b0 (cu) (pc + 3) ls (.int (minI a b) :: st) (M) (x)) : Z p l e R s m args below meth c Q D cy B kd n nL b0 (cu) (pc) ls (.int b :: .int a :: st) (M) (x) := by
  intro hx H locs lsA cells slots hc hs hH hS hl
  have hG := C.2.2.2.2.1
  have h2 := hR.2.1
  have h3 := hR.2.2.1
  have h4 := hR.2.2.2
  exact va_mmin C.1 C.2.1 (C.2.2.1.trans hl.1.symm) C.2.2.2.1 (hG _ (hw _ (by simp [wS]))) (hG _ (hw _ (by simp [wS]))) (hG _ (hw _ (by simp [wS, show Lib.Math.min.name.cls = "java/lang/Math" from rfl]))) (hG _ (hw _ (by simp [wS]))) hR.1 (by omega) (by omega) (by omega) d (kk hx H locs lsA cells slots hc hs hH hS hl)
theorem z_max (C : zC p l s m args meth c D cy B kd n sa sv own cc nL) {a b : Int32} {idx : Nat} (hw : ∀ w ∈ wS own idx Lib.Math.max.name Lib.Math.max.code 2 (some .int), w ∈ GW) (hR : 1 ≤ R.frames ∧ 100 ≤ R.locals ∧ cu ≤ R.cells ∧ 6 * cu ≤ R.slots) (hw8 : (st.map fun v => v.category).sum ≤ 8) (d : decode cc pc = .ok (.invokestatic idx, 3)) (kk : Z p l e R s m args below meth c Q D cy B kd n nL b0 (cu) (pc + 3) ls (.int (maxI a b) :: st) (M) (x)) : Z p l e R s m args below meth c Q D cy B kd n nL b0 (cu) (pc) ls (.int b :: .int a :: st) (M) (x) := by
  intro hx H locs lsA cells slots hc hs hH hS hl
  have hG := C.2.2.2.2.1
  have h2 := hR.2.1
  have h3 := hR.2.2.1
  have h4 := hR.2.2.2
  exact va_mmax C.1 C.2.1 (C.2.2.1.trans hl.1.symm) C.2.2.2.1 (hG _ (hw _ (by simp [wS]))) (hG _ (hw _ (by simp [wS]))) (hG _ (hw _ (by simp [wS, show Lib.Math.max.name.cls = "java/lang/Math" from rfl]))) (hG _ (hw _ (by simp [wS]))) hR.1 (by omega) (by omega) (by omega) d (kk hx H locs lsA cells slots hc hs hH hS hl)
theorem z_tableZ (C : zC p l s m args meth c D cy B kd n sa sv own cc nL) {a : Int32} {dflt lo hi : Int} {offs : Array Int} {len : Nat} {off : Int} (tgt : Nat) (v : Int) (d : decode cc pc = .ok (.tableswitch dflt lo hi offs, len)) (hv : a.toInt = v) (h1 : lo ≤ v) (h2 : v ≤ hi) (ho : offs[(v - lo).toNat]? = some off) (ht : (pc : Int) + off = (tgt : Int)) (kk : Z p l e R s m args below meth c Q D cy B kd n nL b0 (cu) (tgt) ls (st) (M) (x)) : Z p l e R s m args below meth c Q D cy B kd n nL b0 (cu) (pc) ls (.int a :: st) (M) (x) := by
  intro hx H locs lsA cells slots hc hs hH hS hl
  exact lv_tableIn C.1 C.2.1 d (by rw [hv]; omega) (by rw [hv]; omega) (by rw [hv]; exact ho) ht (kk hx H locs lsA cells slots hc hs hH hS hl)
end ZZ
theorem zkG {l : Launch} {kd : Nat → Nat} {n : Nat} (G : zG l kd n) {a K k off K2 : Nat} (hk : kd a = K) (h : (lay K)[k]? = some (off + 2, K2)) : kd (a + off) = K2 := (G.1 a).2.1 k off K2 (by rw [hk]; exact h)
theorem zkaG {l : Launch} {kd : Nat → Nat} {n : Nat} (G : zG l kd n) {a K el ln sd ek : Nat} {i : Int32} (hk : kd a = K) (har : arr K = (el, ln, sd, ek)) (h4 : 4 ≤ el) (hi : inB i ln = true) : kd (a + 1 + sd * i.toNatClampNeg) = ek := by
  have h := (G.1 a).2.2
  rw [hk, har] at h
  unfold inB at hi
  simp only [Bool.and_eq_true, decide_eq_true_eq] at hi
  exact h h4 _ hi.2
def pV (M : Mem) (_ : Unit) : Res := (.inr none, M)
def isC (v : Int32) : Bool := decide ((v.toUInt32 % 65536).toInt32 = v)
theorem okR_l {lv2 lv nL2 cu k : Nat} (h : lv2 + 1 ≤ lv) (h2 : nL2 ≤ 21) (h3 : cu + k ≤ 0) : okR (rmz lv 0) lv2 nL2 cu k := by
  refine ⟨?_, ?_, h3, ?_⟩
  · show 13 + lv2 ≤ 12 + lv
    omega
  · show 8 + (nL2 + 11) + (300 + 40 * lv2) ≤ 300 + 40 * lv
    omega
  · show 6 * (cu + k) ≤ 6 * 0
    omega
theorem okR_n {lv nL2 cu k mc lv2 : Nat} (h : (Nat.ble (13 + lv) (12 + lv2) && Nat.ble (8 + (nL2 + 11) + (300 + 40 * lv)) (300 + 40 * lv2)) = true) (h2 : cu + k ≤ mc) : okR (rmz lv2 mc) lv nL2 cu k := by
  simp only [Bool.and_eq_true] at h
  refine ⟨Nat.le_of_ble_eq_true h.1, Nat.le_of_ble_eq_true h.2, h2, ?_⟩
  show 6 * (cu + k) ≤ 6 * mc
  omega
section ZZ
variable {p : Program} {l : Launch} {e : Env} {R : Room} {s : State} {m : MethodId} {args : Array Value} {below : List Frame} {meth : Method} {c : Code} {Q : State → Prop}
variable {D : va_G} {cy : Nat → ClassId} {B : Nat} {kd : Nat → Nat} {n : Nat} {sa sv : Nat → Nat} {own : String} {cc : ByteArray} {nL : Nat}
variable {β : Type} {b0 : β} {cu pc : Nat} {ls : List (Nat × Value)} {st : List Value} {M : Mem} {x : Option β}
theorem z_getTv (C : zC p l s m args meth c D cy B kd n sa sv own cc nL) {i idx : Nat} (hi : i < 40) (hl9 : Cond.fieldLink own idx "java/lang/String" "value" "[B" ∈ GW) (d : decode cc pc = .ok (.getfield idx, 3)) (kk : Z p l e R s m args below meth c Q D cy B kd n nL b0 (cu) (pc + 3) ls (.ref (sv i) :: st) (M) (x)) : Z p l e R s m args below meth c Q D cy B kd n nL b0 (cu) (pc) ls (.ref (sa i) :: st) (M) (x) := by
  intro hx H locs lsA cells slots hc hs hH hS hl
  exact vk_getf C.1 C.2.1 (C.2.2.2.2.2.2.1.2.2.2.2.2.2.1 i hi).2.2.1 hS C.2.2.2.1 (C.2.2.2.2.1 _ hl9) (fun _ h => h) d (kk hx H locs lsA cells slots hc hs hH hS hl)
theorem z_getTc (C : zC p l s m args meth c D cy B kd n sa sv own cc nL) {i idx : Nat} (hi : i < 40) (hl9 : Cond.fieldLink own idx "java/lang/String" "coder" "B" ∈ GW) (d : decode cc pc = .ok (.getfield idx, 3)) (kk : Z p l e R s m args below meth c Q D cy B kd n nL b0 (cu) (pc + 3) ls (.int 0 :: st) (M) (x)) : Z p l e R s m args below meth c Q D cy B kd n nL b0 (cu) (pc) ls (.ref (sa i) :: st) (M) (x) := by
  intro hx H locs lsA cells slots hc hs hH hS hl
  exact vk_getf C.1 C.2.1 (C.2.2.2.2.2.2.1.2.2.2.2.2.2.1 i hi).2.1 hS C.2.2.2.1 (C.2.2.2.2.1 _ hl9) (fun _ h => h) d (kk hx H locs lsA cells slots hc hs hH hS hl)
theorem z_gets1 (C : zC p l s m args meth c D cy B kd n sa sv own cc nL) {idx : Nat} (hl9 : Cond.fieldLink own idx "java/lang/String" "COMPACT_STRINGS" "Z" ∈ GW) (d : decode cc pc = .ok (.getstatic idx, 3)) (kk : Z p l e R s m args below meth c Q D cy B kd n nL b0 (cu) (pc + 3) ls (.int 1 :: st) (M) (x)) : Z p l e R s m args below meth c Q D cy B kd n nL b0 (cu) (pc) ls (st) (M) (x) := by
  intro hx H locs lsA cells slots hc hs hH hS hl
  exact va_gets C.1 C.2.1 C.2.2.2.2.2.2.1.2.2.2.2.2.2.2.1 hS C.2.2.2.1 (C.2.2.2.2.1 _ hl9) (fun _ h => h) d (kk hx H locs lsA cells slots hc hs hH hS hl)
theorem z_getsW (C : zC p l s m args meth c D cy B kd n sa sv own cc nL) {idx : Nat} (hl9 : Cond.fieldLink own idx "jdk/internal/util/Preconditions" "SIOOBE_FORMATTER" "Ljava/util/function/BiFunction;" ∈ GW) (d : decode cc pc = .ok (.getstatic idx, 3)) (kk : ∀ w : Value, (w = .null ∨ ∃ t, w = .ref t) → Z p l e R s m args below meth c Q D cy B kd n nL b0 (cu) (pc + 3) ls (w :: st) (M) (x)) : Z p l e R s m args below meth c Q D cy B kd n nL b0 (cu) (pc) ls (st) (M) (x) := by
  intro hx H locs lsA cells slots hc hs hH hS hl
  rcases C.2.2.2.2.2.2.1.2.2.2.2.2.2.2.2 with h | ⟨t, h⟩
  · exact va_gets C.1 C.2.1 h hS C.2.2.2.1 (C.2.2.2.2.1 _ hl9) (fun _ h => h) d (kk _ (Or.inl rfl) hx H locs lsA cells slots hc hs hH hS hl)
  · exact va_gets C.1 C.2.1 h hS C.2.2.2.1 (C.2.2.2.2.1 _ hl9) (fun _ h => h) d (kk _ (Or.inr ⟨t, rfl⟩) hx H locs lsA cells slots hc hs hH hS hl)
theorem z_lenU (C : zC p l s m args meth c D cy B kd n sa sv own cc nL) {i : Nat} (hi : i < 40) (d : decode cc pc = .ok (.arraylength, 1)) (kk : Z p l e R s m args below meth c Q D cy B kd n nL b0 (cu) (pc + 1) ls (.int (nI (lenS i)) :: st) (M) (x)) : Z p l e R s m args below meth c Q D cy B kd n nL b0 (cu) (pc) ls (.ref (sv i) :: st) (M) (x) := by
  intro hx H locs lsA cells slots hc hs hH hS hl
  exact va_tlen C.1 C.2.1 (C.2.2.2.2.2.2.1.2.2.2.2.2.2.1 i hi).2.2.2 hS rfl d (kk hx H locs lsA cells slots hc hs hH hS hl)
theorem z_baldU (C : zC p l s m args meth c D cy B kd n sa sv own cc nL) {i : Nat} {k : Int32} (hi : i < 40) (d : decode cc pc = .ok (.baload, 1)) (kk : inB k (lenS i) = true → Z p l e R s m args below meth c Q D cy B kd n nL b0 (cu) (pc + 1) ls (.int ((bytS i).getD k.toNatClampNeg 0) :: st) (M) (x)) : Z p l e R s m args below meth c Q D cy B kd n nL b0 (cu) (pc) ls (.int k :: .ref (sv i) :: st) (M) (if inB k (lenS i) = true then x else none) := by
  intro hx H locs lsA cells slots hc hs hH hS hl
  cases hi9 : inB k (lenS i)
  · rw [hi9] at hx; cases hx
  rw [hi9, if_pos rfl] at hx
  exact va_tb C.1 C.2.1 (C.2.2.2.2.2.2.1.2.2.2.2.2.2.1 i hi).2.2.2 hS (inB_vp hi9) rfl d (kk hi9 hx H locs lsA cells slots hc hs hH hS hl)
theorem z_ldcS (C : zC p l s m args meth c D cy B kd n sa sv own cc nL) {i is : Nat} {text : String} (d : decode cc pc = .ok (.ldc is, 2)) (hi : txtS[i]? = some (own, is, text)) (kk : Z p l e R s m args below meth c Q D cy B kd n nL b0 (cu) (pc + 2) ls (.ref (sa i) :: st) (M) (x)) : Z p l e R s m args below meth c Q D cy B kd n nL b0 (cu) (pc) ls (st) (M) (x) := by
  intro hx H locs lsA cells slots hc hs hH hS hl
  intro T hT X
  obtain ⟨t, a1, b1⟩ := kk hx H locs lsA cells slots hc hs hH hS hl T hT X
  have h9 := C.2.2.2.2.2.2.1.2.2.2.2.2.1 i _ hi
  refine ⟨t, ?_, b1⟩
  exact X.ldcString C.1 (own := own) (text := text) (index := is) (a := sa i) C.2.2.2.1 h9.1 h9.2 rfl (by rw [C.2.1]; exact d) _ a1
theorem z_ldcSw (C : zC p l s m args meth c D cy B kd n sa sv own cc nL) {i is : Nat} {text : String} (d : decode cc pc = .ok (.ldc_w is, 3)) (hi : txtS[i]? = some (own, is, text)) (kk : Z p l e R s m args below meth c Q D cy B kd n nL b0 (cu) (pc + 3) ls (.ref (sa i) :: st) (M) (x)) : Z p l e R s m args below meth c Q D cy B kd n nL b0 (cu) (pc) ls (st) (M) (x) := by
  intro hx H locs lsA cells slots hc hs hH hS hl
  intro T hT X
  obtain ⟨t, a1, b1⟩ := kk hx H locs lsA cells slots hc hs hH hS hl T hT X
  have h9 := C.2.2.2.2.2.2.1.2.2.2.2.2.1 i _ hi
  refine ⟨t, ?_, b1⟩
  exact X.ldcStringW C.1 (own := own) (text := text) (index := is) (a := sa i) C.2.2.2.1 h9.1 h9.2 rfl (by rw [C.2.1]; exact d) _ a1
theorem z_bret (C : zC p l s m args meth c D cy B kd n sa sv own cc nL) {cv : β → Res} {b : β} {mc : Nat} {v : Int32} (hr : meth.sig.returnType = some .byte) (hn : narrow .byte (.int v) = .int v) (hcu : cu ≤ mc) (d : decode cc pc = .ok (.ireturn, 1)) (h1 : cv b = (.inr (some (.int v)), M)) : Z p l e R s m args below meth c (vx_MQ below (QcR D cy B kd n (cv b0)) (XcR D cy B kd n (cv b0)) args s mc (6 * mc) (AA B kd n)) D cy B kd n nL b0 (cu) (pc) ls ([.int v]) (M) (some b) := by
  intro hx H locs lsA cells slots hc hs hH hS hl
  cases hx
  refine W.widen (k := mc) (n := 6 * mc) (by omega) (by omega) (vx_ret ?_)
  exact W.zret C.1 C.2.1 hr hn (fun t ht hw => ⟨_, by rw [h1], rfl, by rw [h1, ht]; exact hH, hS.F ht⟩) hS.2.2 d C.2.2.2.2.2.2.2.2
theorem z_cretg (C : zC p l s m args meth c D cy B kd n sa sv own cc nL) {cv : β → Res} {b : β} {mc : Nat} {v : Int32} (hr : meth.sig.returnType = some .char) (hcu : cu ≤ mc) (d : decode cc pc = .ok (.ireturn, 1)) (h1 : cv b = (.inr (some (.int v)), M)) : Z p l e R s m args below meth c (vx_MQ below (QcR D cy B kd n (cv b0)) (XcR D cy B kd n (cv b0)) args s mc (6 * mc) (AA B kd n)) D cy B kd n nL b0 (cu) (pc) ls ([.int v]) (M) (if isC v = true then some b else none) := by
  intro hx
  cases h : isC v
  · rw [h] at hx; cases hx
  rw [h, if_pos rfl] at hx
  have h2 : (v.toUInt32 % 65536).toInt32 = v := of_decide_eq_true h
  exact z_cret C hr (by have h3 := pk_nc v; rw [h2] at h3; exact h3) hcu d h1 hx
theorem run_VT (C : zC p l s m args meth c D cy B kd n sa sv own cc nL) {H : Heap} {locs : List Loc} {lsA : Array Slot} {cells slots : Nat} {idx lv k nL2 nA : Nat} {y : MethodName} {cc2 : ByteArray} {ret2 : Option FieldType} {γ : Type} {cv2 : γ → Res} {y0 : Option γ} {As rest : List Value} {i : Nat} {b : γ} (hct : CT l D cy B kd n sa sv lv k y cc2 nL2 ret2 cv2 (.ref (sa i) :: As) M y0) (hb : y0 = some b) (hw : ∀ w ∈ wV own idx "java/lang/String" y cc2 nL2 ret2, w ∈ GW) (hy : y.cls = "java/lang/String") (hm : okM y nA) (hn : As.length = nA) (hi : i < 40) (hR : okR R lv nL2 cu k) (hc : cells ≤ cu) (hs : slots ≤ 6 * cu) (hH : Sat D cy B kd n M H) (hS : va_S (AA B kd n) s.heap H locs) (hl : lv_has lsA nL ls) (hw8 : (rest.map fun v => v.category).sum ≤ 8) (d : decode cc pc = .ok (.invokevirtual idx, 3)) :
    vx_Run p l e R s m args below meth c H locs cells slots k (6 * k) (F0 m pc lsA (As.reverse ++ .ref (sa i) :: rest)) rest (QcR D cy B kd n (cv2 b) (Value.ref (sa i) :: As).toArray) (XcR D cy B kd n (cv2 b)) (AA B kd n) := by
  obtain ⟨r1, r2, r3, r4⟩ := hR
  have hrec : ∃ cell : Cell, H[sa i]? = some cell ∧ cell.vm.isStatics = false ∧ s.vm.findClass "java/lang/String" = some cell.cls := by
    obtain ⟨cell, h1, h2, h3, h4⟩ := (C.2.2.2.2.2.2.1.2.2.2.2.2.2.1 i hi).1
    exact ⟨cell, by rw [hS.2.1 _ (Array.getElem?_eq_some_iff.mp h1).1 h4]; exact h1, h2, h3⟩
  refine vx_runV (Ts := GW) (C := "java/lang/String") (ret := ret2) (maxL := nL2) (bytes := cc2) (n := nA) ⟨C.1, C.2.1, C.2.2.1, C.2.2.2.1, C.2.2.2.2.1⟩ (hct b hb) ?_ ⟨(pre_of C hH hS).1, hrec, (pre_of C hH hS).2⟩ rfl hn hl.1 rfl (lv_room hw8) d ⟨by omega, by omega⟩
  refine cwV nA C.2.2.2.2.1 (ws' := GW) ?_ rfl rfl rfl ⟨hy, hm.1, hm.2.1, hm.2.2⟩ ⟨by show 12 + lv + 1 ≤ _; omega, by show 8 + (nL2 + 11) + (300 + 40 * lv) ≤ _; omega⟩
  refine gw_good fun w hw9 => ?_
  rcases List.mem_append.mp hw9 with q | q
  · exact hw w (by simp only [wV, List.mem_cons, List.not_mem_nil, or_false] at q ⊢; rcases q with q | q | q | q <;> simp [q])
  · rcases List.mem_cons.mp q with q | q
    · exact hw w (by rw [q]; simp [wV])
    · exact q
theorem z_callVT_pI (C : zC p l s m args meth c D cy B kd n sa sv own cc nL) {idx lv k nL2 nA : Nat} {y : MethodName} {cc2 : ByteArray} {ret2 : Option FieldType} {As rest st0 : List Value} {i : Nat} {y0 : Option Int32} {f : Int32 → Option β} (hst : st0 = As.reverse ++ .ref (sa i) :: rest) (hct : CT l D cy B kd n sa sv lv k y cc2 nL2 ret2 (pI M) (.ref (sa i) :: As) M y0) (hw : ∀ w ∈ wV own idx "java/lang/String" y cc2 nL2 ret2, w ∈ GW) (hy : y.cls = "java/lang/String") (hm : okM y nA) (hn : As.length = nA) (hi : i < 40) (hR : okR R lv nL2 cu k) (hw8 : (rest.map fun v => v.category).sum ≤ 8) (d : decode cc pc = .ok (.invokevirtual idx, 3)) (kk : ∀ b, y0 = some b → Z p l e R s m args below meth c Q D cy B kd n nL b0 (cu + k) (pc + 3) ls (.int b :: rest) (M) (f b)) : Z p l e R s m args below meth c Q D cy B kd n nL b0 (cu) (pc) ls (st0) (M) (y0.bind f) := by
  intro hx H locs lsA cells slots hc hs hH hS hl
  subst hst
  cases hb : y0 with
  | none => rw [hb] at hx; cases hx
  | some b =>
    rw [hb, Option.bind_some] at hx
    refine z_after (run_VT C (As := As) (rest := rest) hct hb hw hy hm hn hi hR hc hs hH hS hl hw8 d) hS (fun code ce q9 H1 locs1 h => by cases h) (fun v H1 locs1 h hH1 hS1 => ?_)
    cases h
    exact kk b hb hx H1 locs1 lsA (cells + k) (slots + 6 * k) (by omega) (by omega) hH1 hS1 hl
theorem z_callVT_pB (C : zC p l s m args meth c D cy B kd n sa sv own cc nL) {idx lv k nL2 nA : Nat} {y : MethodName} {cc2 : ByteArray} {ret2 : Option FieldType} {As rest st0 : List Value} {i : Nat} {y0 : Option Bool} {f : Bool → Option β} (hst : st0 = As.reverse ++ .ref (sa i) :: rest) (hct : CT l D cy B kd n sa sv lv k y cc2 nL2 ret2 (pB M) (.ref (sa i) :: As) M y0) (hw : ∀ w ∈ wV own idx "java/lang/String" y cc2 nL2 ret2, w ∈ GW) (hy : y.cls = "java/lang/String") (hm : okM y nA) (hn : As.length = nA) (hi : i < 40) (hR : okR R lv nL2 cu k) (hw8 : (rest.map fun v => v.category).sum ≤ 8) (d : decode cc pc = .ok (.invokevirtual idx, 3)) (kk : ∀ b, y0 = some b → Z p l e R s m args below meth c Q D cy B kd n nL b0 (cu + k) (pc + 3) ls (.int (bI b) :: rest) (M) (f b)) : Z p l e R s m args below meth c Q D cy B kd n nL b0 (cu) (pc) ls (st0) (M) (y0.bind f) := by
  intro hx H locs lsA cells slots hc hs hH hS hl
  subst hst
  cases hb : y0 with
  | none => rw [hb] at hx; cases hx
  | some b =>
    rw [hb, Option.bind_some] at hx
    refine z_after (run_VT C (As := As) (rest := rest) hct hb hw hy hm hn hi hR hc hs hH hS hl hw8 d) hS (fun code ce q9 H1 locs1 h => by cases h) (fun v H1 locs1 h hH1 hS1 => ?_)
    cases h
    exact kk b hb hx H1 locs1 lsA (cells + k) (slots + 6 * k) (by omega) (by omega) hH1 hS1 hl
theorem z_callS_pV (C : zC p l s m args meth c D cy B kd n sa sv own cc nL) {idx lv k nL2 nA : Nat} {y : MethodName} {cc2 : ByteArray} {ret2 : Option FieldType} {As rest st0 : List Value} {y0 : Option Unit} {f : Unit → Option β} (hst : st0 = As.reverse ++ rest) (hct : CT l D cy B kd n sa sv lv k y cc2 nL2 ret2 (pV M) As M y0) (hw : ∀ w ∈ wS own idx y cc2 nL2 ret2, w ∈ GW) (hm : okM y nA) (hn : As.length = nA) (hR : okR R lv nL2 cu k) (hw8 : (rest.map fun v => v.category).sum ≤ 8) (d : decode cc pc = .ok (.invokestatic idx, 3)) (kk : ∀ b, y0 = some b → Z p l e R s m args below meth c Q D cy B kd n nL b0 (cu + k) (pc + 3) ls (rest) (M) (f b)) : Z p l e R s m args below meth c Q D cy B kd n nL b0 (cu) (pc) ls (st0) (M) (y0.bind f) := by
  intro hx H locs lsA cells slots hc hs hH hS hl
  subst hst
  cases hb : y0 with
  | none => rw [hb] at hx; cases hx
  | some b =>
    rw [hb, Option.bind_some] at hx
    refine z_after (run_S C (Cn := own) (As := As) (rest := rest) hct hb hw hm hn hR hc hs hH hS hl hw8 d) hS (fun code ce q9 H1 locs1 h => by cases h) (fun v H1 locs1 h hH1 hS1 => ?_)
    cases h
    exact kk b hb hx H1 locs1 lsA (cells + k) (slots + 6 * k) (by omega) (by omega) hH1 hS1 hl
end ZZ

theorem fillI_0 (M : Mem) (a : Nat) (v : Int32) : fillI M a 0 v = M := by
  funext b
  unfold fillI wIs va_up
  by_cases h : b = a
  · subst h; simp
  · simp [h]
theorem fillI_s (M : Mem) (a i : Nat) (v : Int32) : wI (fillI M a i v) a i v = fillI M a (i + 1) v := by
  funext b
  unfold wI fillI wIs va_up upd
  by_cases h : b = a
  · subst h
    simp only [if_true]
    refine Prod.ext (funext fun j => ?_) rfl
    by_cases hj : j = i
    · simp [hj]
    · by_cases hl : j < i
      · simp [hj, hl, Nat.lt_succ_of_lt hl]
      · simp [hj, hl, show ¬ j < i + 1 by omega]
  · simp [h]
theorem fillJ_0 (M : Mem) (a : Nat) (v : Int64) : fillJ M a 0 v = M := by
  funext b
  unfold fillJ wJs va_up
  by_cases h : b = a
  · subst h; simp
  · simp [h]
theorem fillJ_s (M : Mem) (a i : Nat) (v : Int64) : wJ (fillJ M a i v) a i v = fillJ M a (i + 1) v := by
  funext b
  unfold wJ fillJ wJs va_up vp_updL
  by_cases h : b = a
  · subst h
    simp only [if_true]
    refine Prod.ext rfl (funext fun j => ?_)
    by_cases hj : j = i
    · simp [hj]
    · by_cases hl : j < i
      · simp [hj, hl, Nat.lt_succ_of_lt hl]
      · simp [hj, hl, show ¬ j < i + 1 by omega]
  · simp [h]
theorem inB_nI {i ln : Nat} (h : i < ln) (hl : ln < 2147483648) : inB (nI i) ln = true := by
  unfold inB
  simp only [Bool.and_eq_true, Bool.not_eq_true', decide_eq_false_iff_not, decide_eq_true_eq]
  exact ⟨nI_pos (by omega), by rw [nI_clamp (by omega)]; exact h⟩
theorem lpJ7_fill_53178 {p : Program} {l : Launch} {e : Env} {s : State} {m : MethodId} {args : Array Value} {below : List Frame} {meth : Method} {c : Code} {D : va_G} {cy : Nat → ClassId} {B : Nat} {kd : Nat → Nat} {n : Nat} {sa sv : Nat → Nat} (C : zC p l s m args meth c D cy B kd n sa sv RJ7 cJ7_fill_53178 4) (hr : meth.sig.returnType = none) {b0 : Mem} {a K ln sd ek : Nat} (hk : kd a = K) (har : arr K = (0, ln, sd, ek)) (h20 : 20 ≤ K ∧ K < 48) (hln : ln < 2147483648) (v : Int32) (M : Mem) : ∀ (r i : Nat), i + r = ln → Z p l e (rmz 0 0) s m args below meth c (vx_MQ below (QcR D cy B kd n (cvV b0)) (XcR D cy B kd n (cvV b0)) args s 0 (6 * 0) (AA B kd n)) D cy B kd n 4 b0 0 5 [(2, .int (nI i)), (3, .int (nI ln)), (0, .ref (B + a)), (1, .int v)] [] (fillI M a i v) (some (fillI M a ln v)) := by
  intro r
  induction r with
  | zero =>
    intro i hi
    have hi : i = ln := by omega
    subst hi
    refine z_iload_n C 2 0 dJ7_fill_53178_5 rfl rfl ?_
    refine z_iload_n C 3 1 dJ7_fill_53178_6 rfl rfl ?_
    intro hx
    refine z_icmp_ge (b0 := b0) (x1 := some (fillI M a i v)) (x2 := none) C 20 dJ7_fill_53178_7 rfl (fun _ => ?_) (fun q => absurd (nI_le (Nat.le_refl i) hln) q) (by rw [if_pos (nI_le (Nat.le_refl i) hln)]; exact hx)
    exact z_vret C hr (Nat.le_of_ble_eq_true rfl) dJ7_fill_53178_20 rfl
  | succ r ih =>
    intro i hi
    refine z_iload_n C 2 0 dJ7_fill_53178_5 rfl rfl ?_
    refine z_iload_n C 3 1 dJ7_fill_53178_6 rfl rfl ?_
    intro hx
    have hlt : ¬ nI ln ≤ nI i := nI_ge (by omega) hln
    refine z_icmp_ge (b0 := b0) (x1 := none) (x2 := some (fillI M a ln v)) C 20 dJ7_fill_53178_7 rfl (fun q => absurd q hlt) (fun _ => ?_) (by rw [if_neg hlt]; exact hx)
    refine z_aload_n C 0 2 dJ7_fill_53178_10 rfl rfl ?_
    refine z_iload_n C 2 0 dJ7_fill_53178_11 rfl rfl ?_
    refine z_iload_n C 1 3 dJ7_fill_53178_12 rfl rfl ?_
    have hin := inB_nI (i := i) (ln := ln) (by omega) hln
    intro hx
    refine z_iast (b0 := b0) (x := some (fillI M a ln v)) C hk har h20 dJ7_fill_53178_13 (fun _ => ?_) (by rw [if_pos hin]; exact hx)
    rw [nI_clamp (by omega), fillI_s]
    refine z_iinc C 2 0 (v := nI i) (v1 := nI (i + 1)) (ls1 := [(2, .int (nI (i + 1))), (3, .int (nI ln)), (0, .ref (B + a)), (1, .int v)]) dJ7_fill_53178_14 rfl (nI_succ i).symm (by decide) rfl ?_
    refine z_goto C 5 dJ7_fill_53178_17 rfl ?_
    exact ih (i + 1) (by omega)
theorem ctJ7_fill_53178 {l : Launch} {D : va_G} {cy : Nat → ClassId} {B : Nat} {kd : Nat → Nat} {n : Nat} {sa sv : Nat → Nat} (G : zG l kd n) {a K ln sd ek : Nat} (hk : kd a = K) (har : arr K = (0, ln, sd, ek)) (h20 : (20 ≤ K ∧ K < 48) ∧ ln < 2147483648) (v : Int32) (M : Mem) : CT l D cy B kd n sa sv 0 0 yJ7_fill_53178 cJ7_fill_53178 4 none cvV [.ref (B + a), .int v] M (some (fillI M a ln v)) := by
  refine ct_of (by decide) G.1 G.2 (Nat.le_of_ble_eq_true rfl) (ls := [(0, .ref (B + a)), (1, .int v)]) rfl ?_
  intro p e s m args below meth c b0 C ht hr
  refine z_iconst (v := 0) C dJ7_fill_53178_0 rfl ?_
  refine z_istore_n C 2 (ls1 := [(2, .int 0), (0, .ref (B + a)), (1, .int v)]) dJ7_fill_53178_1 rfl (by decide) rfl ?_
  refine z_aload_n C 0 1 dJ7_fill_53178_2 rfl rfl ?_
  refine z_alen (v := nI ln) C hk h20.1 (by rw [har]; rfl) dJ7_fill_53178_3 ?_
  refine z_istore_n C 3 (ls1 := [(3, .int (nI ln)), (2, .int 0), (0, .ref (B + a)), (1, .int v)]) dJ7_fill_53178_4 rfl (by decide) rfl ?_
  have h := lpJ7_fill_53178 C hr hk har h20.1 h20.2 v M (b0 := b0) (below := below) (e := e) (sa := sa) (sv := sv) ln 0 (Nat.zero_add ln)
  rw [fillI_0] at h
  exact z_jump (ls1 := [(2, .int (nI 0)), (3, .int (nI ln)), (0, .ref (B + a)), (1, .int v)]) (Nat.le_of_ble_eq_true rfl) [1, 0, 2, 3] rfl h
theorem lpJ7_fill_d0a16 {p : Program} {l : Launch} {e : Env} {s : State} {m : MethodId} {args : Array Value} {below : List Frame} {meth : Method} {c : Code} {D : va_G} {cy : Nat → ClassId} {B : Nat} {kd : Nat → Nat} {n : Nat} {sa sv : Nat → Nat} (C : zC p l s m args meth c D cy B kd n sa sv RJ7 cJ7_fill_d0a16 5) (hr : meth.sig.returnType = none) {b0 : Mem} {a K ln sd ek : Nat} (hk : kd a = K) (har : arr K = (3, ln, sd, ek)) (h20 : 20 ≤ K ∧ K < 48) (hln : ln < 2147483648) (v : Int64) (M : Mem) : ∀ (r i : Nat), i + r = ln → Z p l e (rmz 0 0) s m args below meth c (vx_MQ below (QcR D cy B kd n (cvV b0)) (XcR D cy B kd n (cvV b0)) args s 0 (6 * 0) (AA B kd n)) D cy B kd n 5 b0 0 6 [(3, .int (nI i)), (4, .int (nI ln)), (0, .ref (B + a)), (1, .long v)] [] (fillJ M a i v) (some (fillJ M a ln v)) := by
  intro r
  induction r with
  | zero =>
    intro i hi
    have hi : i = ln := by omega
    subst hi
    refine z_iload_n C 3 0 dJ7_fill_d0a16_6 rfl rfl ?_
    refine z_iload C 1 dJ7_fill_d0a16_7 rfl ?_
    intro hx
    refine z_icmp_ge (b0 := b0) (x1 := some (fillJ M a i v)) (x2 := none) C 22 dJ7_fill_d0a16_9 rfl (fun _ => ?_) (fun q => absurd (nI_le (Nat.le_refl i) hln) q) (by rw [if_pos (nI_le (Nat.le_refl i) hln)]; exact hx)
    exact z_vret C hr (Nat.le_of_ble_eq_true rfl) dJ7_fill_d0a16_22 rfl
  | succ r ih =>
    intro i hi
    refine z_iload_n C 3 0 dJ7_fill_d0a16_6 rfl rfl ?_
    refine z_iload C 1 dJ7_fill_d0a16_7 rfl ?_
    intro hx
    have hlt : ¬ nI ln ≤ nI i := nI_ge (by omega) hln
    refine z_icmp_ge (b0 := b0) (x1 := none) (x2 := some (fillJ M a ln v)) C 22 dJ7_fill_d0a16_9 rfl (fun q => absurd q hlt) (fun _ => ?_) (by rw [if_neg hlt]; exact hx)
    refine z_aload_n C 0 2 dJ7_fill_d0a16_12 rfl rfl ?_
    refine z_iload_n C 3 0 dJ7_fill_d0a16_13 rfl rfl ?_
    refine z_lload_n C 1 3 dJ7_fill_d0a16_14 rfl rfl ?_
    have hin := inB_nI (i := i) (ln := ln) (by omega) hln
    intro hx
    refine z_last (b0 := b0) (x := some (fillJ M a ln v)) C hk har h20 dJ7_fill_d0a16_15 (fun _ => ?_) (by rw [if_pos hin]; exact hx)
    rw [nI_clamp (by omega), fillJ_s]
    refine z_iinc C 3 0 (v := nI i) (v1 := nI (i + 1)) (ls1 := [(3, .int (nI (i + 1))), (4, .int (nI ln)), (0, .ref (B + a)), (1, .long v)]) dJ7_fill_d0a16_16 rfl (nI_succ i).symm (by decide) rfl ?_
    refine z_goto C 6 dJ7_fill_d0a16_19 rfl ?_
    exact ih (i + 1) (by omega)
theorem ctJ7_fill_d0a16 {l : Launch} {D : va_G} {cy : Nat → ClassId} {B : Nat} {kd : Nat → Nat} {n : Nat} {sa sv : Nat → Nat} (G : zG l kd n) {a K ln sd ek : Nat} (hk : kd a = K) (har : arr K = (3, ln, sd, ek)) (h20 : (20 ≤ K ∧ K < 48) ∧ ln < 2147483648) (v : Int64) (M : Mem) : CT l D cy B kd n sa sv 0 0 yJ7_fill_d0a16 cJ7_fill_d0a16 5 none cvV [.ref (B + a), .long v] M (some (fillJ M a ln v)) := by
  refine ct_of (by decide) G.1 G.2 (Nat.le_of_ble_eq_true rfl) (ls := [(0, .ref (B + a)), (1, .long v)]) rfl ?_
  intro p e s m args below meth c b0 C ht hr
  refine z_iconst (v := 0) C dJ7_fill_d0a16_0 rfl ?_
  refine z_istore_n C 3 (ls1 := [(3, .int 0), (0, .ref (B + a)), (1, .long v)]) dJ7_fill_d0a16_1 rfl (by decide) rfl ?_
  refine z_aload_n C 0 1 dJ7_fill_d0a16_2 rfl rfl ?_
  refine z_alen (v := nI ln) C hk h20.1 (by rw [har]; rfl) dJ7_fill_d0a16_3 ?_
  refine z_istore C 4 (ls1 := [(4, .int (nI ln)), (3, .int 0), (0, .ref (B + a)), (1, .long v)]) dJ7_fill_d0a16_4 (by decide) rfl ?_
  have h := lpJ7_fill_d0a16 C hr hk har h20.1 h20.2 v M (b0 := b0) (below := below) (e := e) (sa := sa) (sv := sv) ln 0 (Nat.zero_add ln)
  rw [fillJ_0] at h
  exact z_jump (ls1 := [(3, .int (nI 0)), (4, .int (nI ln)), (0, .ref (B + a)), (1, .long v)]) (Nat.le_of_ble_eq_true rfl) [1, 0, 2, 3] rfl h
def fJ3_checkIndex_8e157 (v0 v1 : Int32) (_ : Mem) : Option Int32 := if v0 < 0 then none else if v0 < v1 then some v0 else none
theorem ctJ3_checkIndex_8e157 {l : Launch} {D : va_G} {cy : Nat → ClassId} {B : Nat} {kd : Nat → Nat} {n : Nat} {sa sv : Nat → Nat} (G : zG l kd n) (v0 v1 : Int32) (w : Value) (hw : w = .null ∨ ∃ t, w = .ref t) (Mo : Mem) : CT l D cy B kd n sa sv 0 0 yJ3_checkIndex_8e157 cJ3_checkIndex_8e157 3 (some .int) (pI Mo) [.int v0, .int v1, w] Mo (fJ3_checkIndex_8e157 v0 v1 Mo) := by
  rcases hw with rfl | ⟨t, rfl⟩ <;>
  · refine ct_of (by decide) G.1 G.2 (Nat.le_of_ble_eq_true rfl) rfl ?_
    intro p e s m args below meth c b0 C ht hr
    unfold fJ3_checkIndex_8e157
    refine z_iload_n C 0 0 dJ3_checkIndex_8e157_0 rfl rfl ?_
    refine z_if_lt C 9 dJ3_checkIndex_8e157_1 rfl (fun _ => z_none) (fun _ => ?_)
    refine z_iload_n C 0 0 dJ3_checkIndex_8e157_4 rfl rfl ?_
    refine z_iload_n C 1 1 dJ3_checkIndex_8e157_5 rfl rfl ?_
    refine z_icmp_lt C 16 dJ3_checkIndex_8e157_6 rfl (fun _ => ?_) (fun _ => z_none)
    refine z_iload_n C 0 0 dJ3_checkIndex_8e157_16 rfl rfl ?_
    exact z_iret C hr (Nat.le_of_ble_eq_true rfl) dJ3_checkIndex_8e157_17 rfl
