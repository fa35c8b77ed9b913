def minI (x y : Int32) : Int32 := if y < x then y else x
def maxI (x y : Int32) : Int32 := if x < y then y else x
section ZZ
variable {p : Program} {l : Launch} {e : Env} {R : Room} {s : State} {m : MethodId} {args : Array Value} {below : List Frame} {meth : Method} {c : Code} {Q : State → Prop}
variable {D : va_G} {cy : Nat → ClassId} {B : Nat} {kd : Nat → Nat} {n : Nat} {sa sv : Nat → Nat} {own : String} {cc : ByteArray} {nL : Nat}
variable {β : Type} {b0 : β} {cu pc : Nat} {ls : List (Nat × Value)} {st : List Value} {M : Mem} {x : Option β}
theorem z_min (C : zC p l s m args meth c D cy B kd n sa sv own cc nL) {a b : Int32} {idx : Nat} (hw : ∀ w ∈ wS own idx Lib.Math.min.name Lib.Math.min.code 2 (some .int), w ∈ GW) (hR : 1 ≤ R.frames ∧ 100 ≤ R.locals ∧ cu ≤ R.cells ∧ 6 * cu ≤ R.slots) (hw8 : (st.map fun v => v.category).sum ≤ 8) (d : decode cc pc = .ok (.invokestatic idx, 3)) (kk : Z p l e R s m args below meth c Q D cy B kd n nL b0 (cu) (pc + 3) ls (.int (minI a b) :: st) (M) (x)) : Z p l e R s m args below meth c Q D cy B kd n nL b0 (cu) (pc) ls (.int b :: .int a :: st) (M) (x) := by
  intro hx H locs lsA cells slots hc hs hH hS hl
  have hG := C.2.2.2.2.1
  have h2 := hR.2.1
  have h3 := hR.2.2.1
  have h4 := hR.2.2.2
  exact va_mmin C.1 C.2.1 (C.2.2.1.trans hl.1.symm) C.2.2.2.1 (hG _ (hw _ (by simp [wS]))) (hG _ (hw _ (by simp [wS]))) (hG _ (hw _ (by simp [wS, show Lib.Math.min.name.cls = "java/lang/Math" from rfl]))) (hG _ (hw _ (by simp [wS]))) hR.1 (by omega) (by omega) (by omega) d (kk hx H locs lsA cells slots hc hs hH hS hl)
theorem z_max (C : zC p l s m args meth c D cy B kd n sa sv own cc nL) {a b : Int32} {idx : Nat} (hw : ∀ w ∈ wS own idx Lib.Math.max.name Lib.Math.max.code 2 (some .int), w ∈ GW) (hR : 1 ≤ R.frames ∧ 100 ≤ R.locals ∧ cu ≤ R.cells ∧ 6 * cu ≤ R.slots) (hw8 : (st.map fun v => v.category).sum ≤ 8) (d : decode cc pc = .ok (.invokestatic idx, 3)) (kk : Z p l e R s m args below meth c Q D cy B kd n nL b0 (cu) (pc + 3) ls (.int (maxI a b) :: st) (M) (x)) : Z p l e R s m args below meth c Q D cy B kd n nL b0 (cu) (pc) ls (.int b :: .int a :: st) (M) (x) := by
  intro hx H locs lsA cells slots hc hs hH hS hl
  have hG := C.2.2.2.2.1
  have h2 := hR.2.1
  have h3 := hR.2.2.1
  have h4 := hR.2.2.2
  exact va_mmax C.1 C.2.1 (C.2.2.1.trans hl.1.symm) C.2.2.2.1 (hG _ (hw _ (by simp [wS]))) (hG _ (hw _ (by simp [wS]))) (hG _ (hw _ (by simp [wS, show Lib.Math.max.name.cls = "java/lang/Math" from rfl]))) (hG _ (hw _ (by simp [wS]))) hR.1 (by omega) (by omega) (by omega) d (kk hx H locs lsA cells slots hc hs hH hS hl)
theorem z_tableZ (C : zC p l s m args meth c D cy B kd n sa sv own cc nL) {a : Int32} {dflt lo hi : Int} {offs : Array Int} {len : Nat} {off : Int} (tgt : Nat) (v : Int) (d : decode cc pc = .ok (.tableswitch dflt lo hi offs, len)) (hv : a.toInt = v) (h1 : lo ≤ v) (h2 : v ≤ hi) (ho : offs[(v - lo).toNat]? = some off) (ht : (pc : Int) + off = (tgt : Int)) (kk : Z p l e R s m args below meth c Q D cy B kd n nL b0 (cu) (tgt) ls (st) (M) (x)) : Z p l e R s m args below meth c Q D cy B kd n nL b0 (cu) (pc) ls (.int a :: st) (M) (x) := by
  intro hx H locs lsA cells slots hc hs hH hS hl
  exact lv_tableIn C.1 C.2.1 d (by rw [hv]; omega) (by rw [hv]; omega) (by rw [hv]; exact ho) ht (kk hx H locs lsA cells slots hc hs hH hS hl)
end ZZ

theorem fillI_0 (M : Mem) (a : Nat) (v : Int32) : fillI M a 0 v = M := by
  funext b
  unfold fillI wIs va_up
  by_cases h : b = a
  · subst h; simp
  · simp [h]
theorem fillI_s (M : Mem) (a i : Nat) (v : Int32) : wI (fillI M a i v) a i v = fillI M a (i + 1) v := by
  funext b
  unfold wI fillI wIs va_up upd
  by_cases h : b = a
  · subst h
    simp only [if_true]
    refine Prod.ext (funext fun j => ?_) rfl
    by_cases hj : j = i
    · simp [hj]
    · by_cases hl : j < i
      · simp [hj, hl, Nat.lt_succ_of_lt hl]
      · simp [hj, hl, show ¬ j < i + 1 by omega]
  · simp [h]
theorem fillJ_0 (M : Mem) (a : Nat) (v : Int64) : fillJ M a 0 v = M := by
  funext b
  unfold fillJ wJs va_up
  by_cases h : b = a
  · subst h; simp
  · simp [h]
theorem fillJ_s (M : Mem) (a i : Nat) (v : Int64) : wJ (fillJ M a i v) a i v = fillJ M a (i + 1) v := by
  funext b
  unfold wJ fillJ wJs va_up vp_updL
  by_cases h : b = a
  · subst h
    simp only [if_true]
    refine Prod.ext rfl (funext fun j => ?_)
    by_cases hj : j = i
    · simp [hj]
    · by_cases hl : j < i
      · simp [hj, hl, Nat.lt_succ_of_lt hl]
      · simp [hj, hl, show ¬ j < i + 1 by omega]
  · simp [h]
theorem inB_nI {i ln : Nat} (h : i < ln) (hl : ln < 2147483648) : inB (nI i) ln = true := by
  unfold inB
  simp only [Bool.and_eq_true, Bool.not_eq_true', decide_eq_false_iff_not, decide_eq_true_eq]
  exact ⟨nI_pos (by omega), by rw [nI_clamp (by omega)]; exact h⟩
theorem lpJ7_fill_53178 {p : Program} {l : Launch} {e : Env} {s : State} {m : MethodId} {args : Array Value} {below : List Frame} {meth : Method} {c : Code} {D : va_G} {cy : Nat → ClassId} {B : Nat} {kd : Nat → Nat} {n : Nat} {sa sv : Nat → Nat} (C : zC p l s m args meth c D cy B kd n sa sv RJ7 cJ7_fill_53178 4) (hr : meth.sig.returnType = none) {b0 : Mem} {a K ln sd ek : Nat} (hk : kd a = K) (har : arr K = (0, ln, sd, ek)) (h20 : 20 ≤ K ∧ K < 48) (hln : ln < 2147483648) (v : Int32) (M : Mem) : ∀ (r i : Nat), i + r = ln → Z p l e (rmz 0 0) s m args below meth c (vx_MQ below (QcR D cy B kd n (cvV b0)) (XcR D cy B kd n (cvV b0)) args s 0 (6 * 0) (AA B kd n)) D cy B kd n 4 b0 0 5 [(2, .int (nI i)), (3, .int (nI ln)), (0, .ref (B + a)), (1, .int v)] [] (fillI M a i v) (some (fillI M a ln v)) := by
  intro r
  induction r with
  | zero =>
    intro i hi
    have hi : i = ln := by omega
    subst hi
    refine z_iload_n C 2 0 dJ7_fill_53178_5 rfl rfl ?_
    refine z_iload_n C 3 1 dJ7_fill_53178_6 rfl rfl ?_
    intro hx
    refine z_icmp_ge (b0 := b0) (x1 := some (fillI M a i v)) (x2 := none) C 20 dJ7_fill_53178_7 rfl (fun _ => ?_) (fun q => absurd (nI_le (Nat.le_refl i) hln) q) (by rw [if_pos (nI_le (Nat.le_refl i) hln)]; exact hx)
    exact z_vret C hr (Nat.le_of_ble_eq_true rfl) dJ7_fill_53178_20 rfl
  | succ r ih =>
    intro i hi
    refine z_iload_n C 2 0 dJ7_fill_53178_5 rfl rfl ?_
    refine z_iload_n C 3 1 dJ7_fill_53178_6 rfl rfl ?_
    intro hx
    have hlt : ¬ nI ln ≤ nI i := nI_ge (by omega) hln
    refine z_icmp_ge (b0 := b0) (x1 := none) (x2 := some (fillI M a ln v)) C 20 dJ7_fill_53178_7 rfl (fun q => absurd q hlt) (fun _ => ?_) (by rw [if_neg hlt]; exact hx)
    refine z_aload_n C 0 2 dJ7_fill_53178_10 rfl rfl ?_
    refine z_iload_n C 2 0 dJ7_fill_53178_11 rfl rfl ?_
    refine z_iload_n C 1 3 dJ7_fill_53178_12 rfl rfl ?_
    have hin := inB_nI (i := i) (ln := ln) (by omega) hln
    intro hx
    refine z_iast (b0 := b0) (x := some (fillI M a ln v)) C hk har h20 dJ7_fill_53178_13 (fun _ => ?_) (by rw [if_pos hin]; exact hx)
    rw [nI_clamp (by omega), fillI_s]
    refine z_iinc C 2 0 (v := nI i) (v1 := nI (i + 1)) (ls1 := [(2, .int (nI (i + 1))), (3, .int (nI ln)), (0, .ref (B + a)), (1, .int v)]) dJ7_fill_53178_14 rfl (nI_succ i).symm (by decide) rfl ?_
    refine z_goto C 5 dJ7_fill_53178_17 rfl ?_
    exact ih (i + 1) (by omega)
theorem ctJ7_fill_53178 {l : Launch} {D : va_G} {cy : Nat → ClassId} {B : Nat} {kd : Nat → Nat} {n : Nat} {sa sv : Nat → Nat} (G : zG l kd n) {a K ln sd ek : Nat} (hk : kd a = K) (har : arr K = (0, ln, sd, ek)) (h20 : (20 ≤ K ∧ K < 48) ∧ ln < 2147483648) (v : Int32) (M : Mem) : CT l D cy B kd n sa sv 0 0 yJ7_fill_53178 cJ7_fill_53178 4 none cvV [.ref (B + a), .int v] M (some (fillI M a ln v)) := by
  refine ct_of (by decide) G.1 G.2 (Nat.le_of_ble_eq_true rfl) (ls := [(0, .ref (B + a)), (1, .int v)]) rfl ?_
  intro p e s m args below meth c b0 C ht hr
  refine z_iconst (v := 0) C dJ7_fill_53178_0 rfl ?_
  refine z_istore_n C 2 (ls1 := [(2, .int 0), (0, .ref (B + a)), (1, .int v)]) dJ7_fill_53178_1 rfl (by decide) rfl ?_
  refine z_aload_n C 0 1 dJ7_fill_53178_2 rfl rfl ?_
  refine z_alen (v := nI ln) C hk h20.1 (by rw [har]; rfl) dJ7_fill_53178_3 ?_
  refine z_istore_n C 3 (ls1 := [(3, .int (nI ln)), (2, .int 0), (0, .ref (B + a)), (1, .int v)]) dJ7_fill_53178_4 rfl (by decide) rfl ?_
  have h := lpJ7_fill_53178 C hr hk har h20.1 h20.2 v M (b0 := b0) (below := below) (e := e) (sa := sa) (sv := sv) ln 0 (Nat.zero_add ln)
  rw [fillI_0] at h
  exact z_jump (ls1 := [(2, .int (nI 0)), (3, .int (nI ln)), (0, .ref (B + a)), (1, .int v)]) (Nat.le_of_ble_eq_true rfl) [1, 0, 2, 3] rfl h
theorem lpJ7_fill_d0a16 {p : Program} {l : Launch} {e : Env} {s : State} {m : MethodId} {args : Array Value} {below : List Frame} {meth : Method} {c : Code} {D : va_G} {cy : Nat → ClassId} {B : Nat} {kd : Nat → Nat} {n : Nat} {sa sv : Nat → Nat} (C : zC p l s m args meth c D cy B kd n sa sv RJ7 cJ7_fill_d0a16 5) (hr : meth.sig.returnType = none) {b0 : Mem} {a K ln sd ek : Nat} (hk : kd a = K) (har : arr K = (3, ln, sd, ek)) (h20 : 20 ≤ K ∧ K < 48) (hln : ln < 2147483648) (v : Int64) (M : Mem) : ∀ (r i : Nat), i + r = ln → Z p l e (rmz 0 0) s m args below meth c (vx_MQ below (QcR D cy B kd n (cvV b0)) (XcR D cy B kd n (cvV b0)) args s 0 (6 * 0) (AA B kd n)) D cy B kd n 5 b0 0 6 [(3, .int (nI i)), (4, .int (nI ln)), (0, .ref (B + a)), (1, .long v)] [] (fillJ M a i v) (some (fillJ M a ln v)) := by
  intro r
  induction r with
  | zero =>
    intro i hi
    have hi : i = ln := by omega
    subst hi
    refine z_iload_n C 3 0 dJ7_fill_d0a16_6 rfl rfl ?_
    refine z_iload C 1 dJ7_fill_d0a16_7 rfl ?_
    intro hx
    refine z_icmp_ge (b0 := b0) (x1 := some (fillJ M a i v)) (x2 := none) C 22 dJ7_fill_d0a16_9 rfl (fun _ => ?_) (fun q => absurd (nI_le (Nat.le_refl i) hln) q) (by rw [if_pos (nI_le (Nat.le_refl i) hln)]; exact hx)
    exact z_vret C hr (Nat.le_of_ble_eq_true rfl) dJ7_fill_d0a16_22 rfl
  | succ r ih =>
    intro i hi
    refine z_iload_n C 3 0 dJ7_fill_d0a16_6 rfl rfl ?_
    refine z_iload C 1 dJ7_fill_d0a16_7 rfl ?_
    intro hx
    have hlt : ¬ nI ln ≤ nI i := nI_ge (by omega) hln
    refine z_icmp_ge (b0 := b0) (x1 := none) (x2 := some (fillJ M a ln v)) C 22 dJ7_fill_d0a16_9 rfl (fun q => absurd q hlt) (fun _ => ?_) (by rw [if_neg hlt]; exact hx)
    refine z_aload_n C 0 2 dJ7_fill_d0a16_12 rfl rfl ?_
    refine z_iload_n C 3 0 dJ7_fill_d0a16_13 rfl rfl ?_
    refine z_lload_n C 1 3 dJ7_fill_d0a16_14 rfl rfl ?_
    have hin := inB_nI (i := i) (ln := ln) (by omega) hln
    intro hx
    refine z_last (b0 := b0) (x := some (fillJ M a ln v)) C hk har h20 dJ7_fill_d0a16_15 (fun _ => ?_) (by rw [if_pos hin]; exact hx)
    rw [nI_clamp (by omega), fillJ_s]
    refine z_iinc C 3 0 (v := nI i) (v1 := nI (i + 1)) (ls1 := [(3, .int (nI (i + 1))), (4, .int (nI ln)), (0, .ref (B + a)), (1, .long v)]) dJ7_fill_d0a16_16 rfl (nI_succ i).symm (by decide) rfl ?_
    refine z_goto C 6 dJ7_fill_d0a16_19 rfl ?_
    exact ih (i + 1) (by omega)
theorem ctJ7_fill_d0a16 {l : Launch} {D : va_G} {cy : Nat → ClassId} {B : Nat} {kd : Nat → Nat} {n : Nat} {sa sv : Nat → Nat} (G : zG l kd n) {a K ln sd ek : Nat} (hk : kd a = K) (har : arr K = (3, ln, sd, ek)) (h20 : (20 ≤ K ∧ K < 48) ∧ ln < 2147483648) (v : Int64) (M : Mem) : CT l D cy B kd n sa sv 0 0 yJ7_fill_d0a16 cJ7_fill_d0a16 5 none cvV [.ref (B + a), .long v] M (some (fillJ M a ln v)) := by
  refine ct_of (by decide) G.1 G.2 (Nat.le_of_ble_eq_true rfl) (ls := [(0, .ref (B + a)), (1, .long v)]) rfl ?_
  intro p e s m args below meth c b0 C ht hr
  refine z_iconst (v := 0) C dJ7_fill_d0a16_0 rfl ?_
  refine z_istore_n C 3 (ls1 := [(3, .int 0), (0, .ref (B + a)), (1, .long v)]) dJ7_fill_d0a16_1 rfl (by decide) rfl ?_
  refine z_aload_n C 0 1 dJ7_fill_d0a16_2 rfl rfl ?_
  refine z_alen (v := nI ln) C hk h20.1 (by rw [har]; rfl) dJ7_fill_d0a16_3 ?_
  refine z_istore C 4 (ls1 := [(4, .int (nI ln)), (3, .int 0), (0, .ref (B + a)), (1, .long v)]) dJ7_fill_d0a16_4 (by decide) rfl ?_
  have h := lpJ7_fill_d0a16 C hr hk har h20.1 h20.2 v M (b0 := b0) (below := below) (e := e) (sa := sa) (sv := sv) ln 0 (Nat.zero_add ln)
  rw [fillJ_0] at h
  exact z_jump (ls1 := [(3, .int (nI 0)), (4, .int (nI ln)), (0, .ref (B + a)), (1, .long v)]) (Nat.le_of_ble_eq_true rfl) [1, 0, 2, 3] rfl h
