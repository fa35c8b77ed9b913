/-! OBJECTS IN THE MAKING. From an address b on, every cell that was made since, in its order. -/
def wd (b : Nat) : List va_E → Nat → va_W
  | [], _ => []
  | e :: es, i => (b + i, e) :: wd b es (i + 1)
theorem wd_get (b : Nat) : ∀ (es : List va_E) (j k : Nat), (wd b es j)[k]? = (es[k]?).map (fun e => (b + (j + k), e))
  | [], j, k => by simp [wd]
  | e :: es, j, 0 => by simp [wd]
  | e :: es, j, k + 1 => by
    simp only [wd, List.getElem?_cons_succ]
    rw [wd_get b es (j + 1) k, show j + 1 + k = j + (k + 1) by omega]
theorem wd_at {b : Nat} {es : List va_E} {k : Nat} {e : va_E} (h : es[k]? = some e) : (wd b es 0)[k]? = some (b + k, e) := by
  rw [wd_get, h, Option.map_some, Nat.zero_add]
theorem wd_of {b j k : Nat} {es : List va_E} {q : Nat × va_E} (h : (wd b es j)[k]? = some q) : ∃ e, es[k]? = some e ∧ q = (b + (j + k), e) := by
  rw [wd_get] at h
  obtain ⟨e, h1, h2⟩ := Option.map_eq_some_iff.mp h
  exact ⟨e, h1, h2.symm⟩
theorem wd_set (b : Nat) : ∀ (es : List va_E) (j k : Nat) (e : va_E), (wd b es j).set k (b + (j + k), e) = wd b (es.set k e) j
  | [], j, k, e => by simp [wd]
  | x :: es, j, 0, e => by simp [wd]
  | x :: es, j, k + 1, e => by
    simp only [wd, List.set_cons_succ]
    rw [show j + (k + 1) = j + 1 + k by omega, wd_set b es (j + 1) k e]
theorem wd_app (b : Nat) : ∀ (es fs : List va_E) (j : Nat), wd b (es ++ fs) j = wd b es j ++ wd b fs (j + es.length)
  | [], fs, j => by simp [wd]
  | x :: es, fs, j => by
    simp only [List.cons_append, wd, List.length_cons]
    rw [wd_app b es fs (j + 1), show j + 1 + es.length = j + (es.length + 1) by omega]
theorem wd_shift (b o : Nat) : ∀ (es : List va_E) (j : Nat), wd (b + o) es j = wd b es (o + j)
  | [], j => rfl
  | x :: es, j => by
    simp only [wd]
    rw [wd_shift b o es (j + 1), show b + o + j = b + (o + j) by omega, show o + (j + 1) = o + j + 1 by omega]
theorem wd_D (b : Nat) (es : List va_E) : va_D (fun q => b ≤ q) (wd b es 0) := by
  refine ⟨fun i j p q hi hj h => ?_, fun k q h => ?_⟩
  · obtain ⟨e1, -, rfl⟩ := wd_of hi
    obtain ⟨e2, -, rfl⟩ := wd_of hj
    have h9 : b + (0 + i) = b + (0 + j) := h
    omega
  · obtain ⟨e1, -, rfl⟩ := wd_of h
    exact Nat.le_add_right _ _
def va_E_r (K : Nat) (fs : List Value) : va_E := .inr (K, fs)
def zq : (Nat → Int32) × (Nat → Int64) := (fun _ => 0, fun _ => 0)
/-- a finished block: things of these kinds, all nought -/
def blk (cy : Nat → ClassId) (b : Nat) : Nat → List Nat → List va_E
  | _, [] => []
  | o, K :: ks => celE cy b o K zq :: blk cy b (o + 1) ks
theorem fL_shift (b o a : Nat) (q : (Nat → Int32) × (Nat → Int64)) : ∀ (l : List (Nat × Nat)) (k : Nat), fL (b + o) a q l k = fL b (o + a) q l k
  | [], k => rfl
  | c :: l, k => by
    simp only [fL]
    rw [fL_shift b o a q l (k + 1)]
    congr 1
    rcases c with ⟨c, z⟩
    match c with
    | 0 => rfl
    | 1 => rfl
    | n + 2 => show Value.ref (b + o + (a + n)) = Value.ref (b + (o + a + n)); rw [show b + o + (a + n) = b + (o + a + n) by omega]
theorem aV_shift (b o a : Nat) (q : (Nat → Int32) × (Nat → Int64)) (el st : Nat) : aV (b + o) a q el st = aV b (o + a) q el st := by
  unfold aV
  by_cases h1 : el < 3
  · rw [if_pos h1, if_pos h1]
  · rw [if_neg h1, if_neg h1]
    by_cases h2 : el = 3
    · rw [if_pos h2, if_pos h2]
    · rw [if_neg h2, if_neg h2]
      congr 4
      funext j
      rw [show b + o + (a + 1 + st * j) = b + (o + a + 1 + st * j) by omega]
theorem celE_shift (cy : Nat → ClassId) (b o a K : Nat) (q : (Nat → Int32) × (Nat → Int64)) : celE cy (b + o) a K q = celE cy b (o + a) K q := by
  unfold celE
  rw [fL_shift, aV_shift]
theorem blk_shift (cy : Nat → ClassId) (b o : Nat) : ∀ (ks : List Nat) (a : Nat), blk cy (b + o) a ks = blk cy b (o + a) ks
  | [], a => rfl
  | K :: ks, a => by
    simp only [blk]
    rw [celE_shift, blk_shift cy b o ks (a + 1), Nat.add_assoc]
theorem blk_len (cy : Nat → ClassId) (b : Nat) : ∀ (ks : List Nat) (a : Nat), (blk cy b a ks).length = ks.length
  | [], a => rfl
  | K :: ks, a => by simp only [blk, List.length_cons, blk_len cy b ks (a + 1)]
def kdN : Nat → Nat := fun _ => 9999
theorem AA_N {b q : Nat} : AA b kdN 0 q ↔ b ≤ q := ⟨fun h => h.1, fun h => ⟨h, fun h1 => absurd h1 (by omega)⟩⟩
/-- what a making needs: the world, none of it old, and the arrays' classes -/
def KX (D : va_G) (cy : Nat → ClassId) (sa sv : Nat → Nat) (b : Nat) (U : State) : Prop := CX D cy b kdN 0 sa sv U ∧ va_AO RX5 U ∧ va_AO RX7 U ∧ va_AO RX9 U
theorem txO_narrow {sa sv : Nat → Nat} {A A' : Nat → Prop} {U : State} {H : Heap} {i : Nat} (h : txO sa sv A U H i) (hA : ∀ q, A' q → A q) : txO sa sv A' U H i := ⟨h.1.narrow hA, h.2.1.narrow hA, h.2.2.1.narrow hA, h.2.2.2.narrow hA⟩
theorem CX.narrow {D : va_G} {cy : Nat → ClassId} {B B' : Nat} {kd kd' : Nat → Nat} {n n' : Nat} {sa sv : Nat → Nat} {U : State} (h : CX D cy B kd n sa sv U) (hA : ∀ q, AA B' kd' n' q → AA B kd n q) : CX D cy B' kd' n' sa sv U := by
  obtain ⟨h1, h2, h3, h4, h5, h6, h7, h8, h9⟩ := h
  exact ⟨h1, h2.narrow hA, h3.narrow hA, h4, h5, h6, fun i hi => txO_narrow (h7 i hi) hA, h8.narrow hA, h9.narrow hA⟩
theorem KX.to {D : va_G} {cy : Nat → ClassId} {sa sv : Nat → Nat} {b b1 : Nat} {s U : State} (h : KX D cy sa sv b s) (hW : s.WarmedH U.vm) {H : Heap} {locs : List Loc} (hS : va_S (fun q => b ≤ q) s.heap H locs) (hU : U.heap = H) (hb : b ≤ b1) : KX D cy sa sv b1 U := by
  obtain ⟨h1, h2, h3, h4⟩ := h
  refine ⟨(h1.moved hW (by rw [hU]; exact hS.1) (fun a h5 h6 => ?_)).narrow (fun q hq => AA_N.mpr (Nat.le_trans hb (AA_N.mp hq))), h2.moved hW.alike, h3.moved hW.alike, h4.moved hW.alike⟩
  rw [hU]
  exact hS.2.1 a h5 (fun q => h6 (AA_N.mpr q))
theorem KX.calling {D : va_G} {cy : Nat → ClassId} {sa sv : Nat → Nat} {b : Nat} {U : State} (g : JFrame) (mk : MethodId) (a : Array Value) (h : KX D cy sa sv b U) : KX D cy sa sv b (U.calling g mk a) := h.to (State.WarmedH.refl _) va_S.rf rfl (Nat.le_refl _)
def rmk (lv k sl : Nat) : Room := { frames := 20 + lv, cells := k, slots := sl, locals := 600 + 40 * lv }
/-- what a constructor says: what is made is nought, and lies as the layout says -/
def KM (l : Launch) (D : va_G) (cy : Nat → ClassId) (sa sv : Nat → Nat) (lv k sl : Nat) (y : MethodName) (cc : ByteArray) (nL K : Nat) (dfl : List Value) (ks : List Nat) : Prop :=
  ∀ b : Nat, Met l y (Cond.code y cc nL none :: GW) (rmk lv k sl) (fun v U => v = #[.ref b] ∧ va_P D vwCl (wd b [.inr (K, dfl)] 0) U.heap ∧ U.heap.size = b + 1 ∧ KX D cy sa sv b U)
    (va_Qv (S := Unit) (fun _ => True) (fun _ t => va_P D vwCl (wd b (blk cy b 0 ks) 0) t.heap) (fun q => b ≤ q)) k sl (fun q => b ≤ q)
section KK
variable {p : Program} {l : Launch} {e : Env} {R : Room} {s : State} {m : MethodId} {args : Array Value} {below : List Frame} {meth : Method} {c : Code} {Q : State → Prop}
variable {D : va_G} {cy : Nat → ClassId} {b : Nat} {sa sv : Nat → Nat} {own : String} {cc : ByteArray} {nL : Nat}
variable {ce sl pc : Nat} {ls : List (Nat × Value)} {st : List Value} {es : List va_E}
def kC (p : Program) (l : Launch) (s : State) (m : MethodId) (args : Array Value) (meth : Method) (c : Code) (D : va_G) (cy : Nat → ClassId) (b : Nat) (sa sv : Nat → Nat) (own : String) (cc : ByteArray) (nL : Nat) : Prop :=
  p.tables.exec = Jvm.exec ∧ c.code = cc ∧ c.maxLocals = nL ∧ s.vm.findClass own = some m.cls ∧ (∀ w ∈ GW, w.before args s = true) ∧ KX D cy sa sv b s ∧ l.stackTraces = false ∧ meth.locks = false
def K (p : Program) (l : Launch) (e : Env) (R : Room) (s : State) (m : MethodId) (args : Array Value) (below : List Frame) (meth : Method) (c : Code) (Q : State → Prop) (D : va_G) (b nL : Nat) (ce sl pc : Nat) (ls : List (Nat × Value)) (st : List Value) (es : List va_E) : Prop :=
  ∀ (H : Heap) (locs : List Loc) (lsA : Array Slot), va_P D vwCl (wd b es 0) H → va_S (fun q => b ≤ q) s.heap H locs → lv_has lsA nL ls → W p l e R s m args below meth c H locs ce sl Q (F0 m pc lsA st)
theorem k_size {H : Heap} {locs : List Loc} {T : State} (hce : s.heap.size + ce = b + es.length) (hne : es ≠ [] ∨ ce = 0) (hP : va_P D vwCl (wd b es 0) H) (hS : va_S (fun q => b ≤ q) s.heap H locs) (X : Stand p l e R s m args below meth c T locs ce sl) (hT : T.heap = H) : H.size = b + es.length := by
  have h1 := X.heapSize
  rw [hT] at h1
  have h2 := hS.1
  rcases hne with h | h
  · have hl : 0 < es.length := List.length_pos_iff.mpr h
    have hk : es[es.length - 1]? = some (es[es.length - 1]'(by omega)) := List.getElem?_eq_getElem _
    have h3 := (hP _ _ (wd_at (b := b) hk)).lt
    have h4 : b + (es.length - 1) < H.size := h3
    omega
  · omega

theorem k_aload_n (C : kC p l s m args meth c D cy b sa sv own cc nL) {k : Fin 4} {v : Nat} (i j : Nat) (d : decode cc pc = .ok (.aload_n k, 1)) (hk : (k : Nat) = i) (h : ls[j]? = some (i, .ref v)) (kk : K p l e R s m args below meth c Q D b nL (ce) (sl) (pc + 1) (ls) (.ref v :: st) (es)) : K p l e R s m args below meth c Q D b nL (ce) (sl) (pc) (ls) (st) (es) := by
  intro H locs lsA hP hS hl
  exact lv_aload_n C.1 C.2.1 d hk (lv_at hl j h) (kk H locs lsA hP hS hl)

theorem k_iload_n (C : kC p l s m args meth c D cy b sa sv own cc nL) {k : Fin 4} {v : Int32} (i j : Nat) (d : decode cc pc = .ok (.iload_n k, 1)) (hk : (k : Nat) = i) (h : ls[j]? = some (i, .int v)) (kk : K p l e R s m args below meth c Q D b nL (ce) (sl) (pc + 1) (ls) (.int v :: st) (es)) : K p l e R s m args below meth c Q D b nL (ce) (sl) (pc) (ls) (st) (es) := by
  intro H locs lsA hP hS hl
  exact lv_iload_n C.1 C.2.1 d hk (lv_at hl j h) (kk H locs lsA hP hS hl)

theorem k_iconst (C : kC p l s m args meth c D cy b sa sv own cc nL) {k : Int} {v : Int32} (d : decode cc pc = .ok (.iconst k, 1)) (hv : Int32.ofInt k = v) (kk : K p l e R s m args below meth c Q D b nL (ce) (sl) (pc + 1) (ls) (.int v :: st) (es)) : K p l e R s m args below meth c Q D b nL (ce) (sl) (pc) (ls) (st) (es) := by
  intro H locs lsA hP hS hl
  exact lv_iconst C.1 C.2.1 d hv (kk H locs lsA hP hS hl)

theorem k_bipush (C : kC p l s m args meth c D cy b sa sv own cc nL) {k : Int} {v : Int32} (d : decode cc pc = .ok (.bipush k, 2)) (hv : (Int8.ofInt k).toInt32 = v) (kk : K p l e R s m args below meth c Q D b nL (ce) (sl) (pc + 2) (ls) (.int v :: st) (es)) : K p l e R s m args below meth c Q D b nL (ce) (sl) (pc) (ls) (st) (es) := by
  intro H locs lsA hP hS hl
  exact lv_bipush C.1 C.2.1 d hv (kk H locs lsA hP hS hl)

theorem k_sipush (C : kC p l s m args meth c D cy b sa sv own cc nL) {k : Int} {v : Int32} (d : decode cc pc = .ok (.sipush k, 3)) (hv : (Int16.ofInt k).toInt32 = v) (kk : K p l e R s m args below meth c Q D b nL (ce) (sl) (pc + 3) (ls) (.int v :: st) (es)) : K p l e R s m args below meth c Q D b nL (ce) (sl) (pc) (ls) (st) (es) := by
  intro H locs lsA hP hS hl
  exact lv_sipush C.1 C.2.1 d hv (kk H locs lsA hP hS hl)

theorem k_dup (C : kC p l s m args meth c D cy b sa sv own cc nL) {v : Value} (d : decode cc pc = .ok (.dup, 1)) (hv : v.category = 1) (kk : K p l e R s m args below meth c Q D b nL (ce) (sl) (pc + 1) (ls) (v :: v :: st) (es)) : K p l e R s m args below meth c Q D b nL (ce) (sl) (pc) (ls) (v :: st) (es) := by
  intro H locs lsA hP hS hl
  exact lv_dup C.1 C.2.1 d hv (kk H locs lsA hP hS hl)

theorem k_istore_n (C : kC p l s m args meth c D cy b sa sv own cc nL) {k : Fin 4} (i : Nat) {v : Int32} {ls1 : List (Nat × Value)} (d : decode cc pc = .ok (.istore_n k, 1)) (hk : (k : Nat) = i) (hn : i < nL) (h : (i, Value.int v) :: ls.filter (fun q => !(q.1 == i) && !(q.1 + 1 == i && q.2.category == 2)) = ls1) (kk : K p l e R s m args below meth c Q D b nL (ce) (sl) (pc + 1) (ls1) (st) (es)) : K p l e R s m args below meth c Q D b nL (ce) (sl) (pc) (ls) (.int v :: st) (es) := by
  intro H locs lsA hP hS hl
  exact lv_istore_n C.1 C.2.1 d hk hl hn h (fun lsA hl => kk H locs lsA hP hS hl)

theorem k_iinc (C : kC p l s m args meth c D cy b sa sv own cc nL) {k : Int} {v v1 : Int32} {ls1 : List (Nat × Value)} (i j : Nat) (d : decode cc pc = .ok (.iinc i k, 3)) (hj : ls[j]? = some (i, .int v)) (hv : v + Int32.ofInt k = v1) (hn : i < nL) (h : (i, Value.int v1) :: ls.filter (fun q => !(q.1 == i) && !(q.1 + 1 == i && q.2.category == 2)) = ls1) (kk : K p l e R s m args below meth c Q D b nL (ce) (sl) (pc + 3) (ls1) (st) (es)) : K p l e R s m args below meth c Q D b nL (ce) (sl) (pc) (ls) (st) (es) := by
  intro H locs lsA hP hS hl
  exact lv_iinc C.1 C.2.1 d hl hj hv hn h (fun lsA hl => kk H locs lsA hP hS hl)

theorem k_goto (C : kC p l s m args meth c D cy b sa sv own cc nL) {off : Int} (tgt : Nat) (d : decode cc pc = .ok (.goto off, 3)) (ht : (pc : Int) + off = (tgt : Int)) (kk : K p l e R s m args below meth c Q D b nL (ce) (sl) (tgt) (ls) (st) (es)) : K p l e R s m args below meth c Q D b nL (ce) (sl) (pc) (ls) (st) (es) := by
  intro H locs lsA hP hS hl
  exact lv_goto C.1 C.2.1 d ht (kk H locs lsA hP hS hl)

theorem k_ge (C : kC p l s m args meth c D cy b sa sv own cc nL) {a v : Int32} {off : Int} (tgt : Nat) (d : decode cc pc = .ok (.if_icmp .ge off, 3)) (ht : (pc : Int) + off = (tgt : Int)) (h : v ≤ a) (kk : K p l e R s m args below meth c Q D b nL (ce) (sl) (tgt) (ls) (st) (es)) : K p l e R s m args below meth c Q D b nL (ce) (sl) (pc) (ls) (.int v :: .int a :: st) (es) := by
  intro H locs lsA hP hS hl
  exact lv_icmp_ge C.1 C.2.1 d ht (fun _ => kk H locs lsA hP hS hl) (fun q => absurd h q)

theorem k_lt (C : kC p l s m args meth c D cy b sa sv own cc nL) {a v : Int32} {off : Int} (tgt : Nat) (d : decode cc pc = .ok (.if_icmp .ge off, 3)) (ht : (pc : Int) + off = (tgt : Int)) (h : ¬ v ≤ a) (kk : K p l e R s m args below meth c Q D b nL (ce) (sl) (pc + 3) (ls) (st) (es)) : K p l e R s m args below meth c Q D b nL (ce) (sl) (pc) (ls) (.int v :: .int a :: st) (es) := by
  intro H locs lsA hP hS hl
  exact lv_icmp_ge C.1 C.2.1 d ht (fun q => absurd q h) (fun _ => kk H locs lsA hP hS hl)

theorem k_es  {es1 : List va_E} (h : es = es1) (kk : K p l e R s m args below meth c Q D b nL (ce) (sl) (pc) (ls) (st) (es1)) : K p l e R s m args below meth c Q D b nL (ce) (sl) (pc) (ls) (st) (es) := by
  rw [h]; exact kk

theorem kH (C : kC p l s m args meth c D cy b sa sv own cc nL) : va_K D vwCl (tysA cy) s := C.2.2.2.2.2.1.1.1
theorem k_objInit (C : kC p l s m args meth c D cy b sa sv own cc nL) {idx : Nat} {a : Nat} (hl9 : Cond.methodLink own idx Lib.objectInit ∈ GW) (hi : Cond.instanceMethod Lib.objectInit ∈ GW) (hc : Cond.code Lib.objectInit ⟨#[0xb1]⟩ 1 none ∈ GW) (hf : 1 ≤ R.frames) (hR : 20 ≤ R.locals) (hw8 : (st.map fun v => v.category).sum ≤ 8) (d : decode cc pc = .ok (.invokespecial idx, 3)) (kk : K p l e R s m args below meth c Q D b nL (ce) (sl) (pc + 3) (ls) (st) (es)) : K p l e R s m args below meth c Q D b nL (ce) (sl) (pc) (ls) (.ref a :: st) (es) := by
  intro H locs lsA hP hS hl
  exact W.objInit C.1 C.2.1 C.2.2.2.1 (C.2.2.2.2.1 _ hl9) (C.2.2.2.2.1 _ hi) (C.2.2.2.2.1 _ hc) rfl (hl.1.trans C.2.2.1.symm) rfl d hf (by have h9 := lv_room (m := m) (pc := pc) (ls := lsA) (rest := .ref a :: st) hw8; omega) (kk H locs lsA hP hS hl)

theorem k_new (C : kC p l s m args meth c D cy b sa sv own cc nL) {K9 : Nat} {Cn : String} {T : u_T} {N idx o : Nat} {ty0 : Nat → FieldType} {fs : List Value} (hcl : clOk K9 Cn T N ty0) (hc : Cond.classLink own idx Cn ∈ GW) (hi : Cond.instantiable Cn N ∈ GW) (hini : Cond.initialized Cn ∈ GW) (hfs : ∀ j, j < N → defaultValue (ty0 j) = vp_V fs j)
    (hce : s.heap.size + ce = b + es.length) (hne : es ≠ [] ∨ ce = 0) (ho : es.length = o) (hcells : ce + 1 ≤ R.cells) (hslots : sl + N ≤ R.slots) (d : decode cc pc = .ok (.new idx, 3)) (kk : K p l e R s m args below meth c Q D b nL (ce + 1) (sl + N) (pc + 3) (ls) (.ref (b + o) :: st) (es ++ [.inr (K9, fs)])) : K p l e R s m args below meth c Q D b nL (ce) (sl) (pc) (ls) (st) (es) := by
  intro H locs lsA hP hS hl
  intro T9 hT X
  have hz := k_size hce hne hP hS X hT
  rw [ho] at hz
  have hKn := (kH C).1 K9 _ hcl.1
  refine (?_ : W p l e R s m args below meth c H locs ce sl Q (F0 m pc lsA _)) T9 hT X
  refine W.newcK C.1 C.2.1 C.2.2.2.1 (C.2.2.2.2.1 _ hc) (C.2.2.2.2.1 _ hi) (C.2.2.2.2.1 _ hini) rfl d hcells hslots hKn.2.1 hz (fun H1 kC hkC e1 z1 o1 => ?_)
  have hk : ∀ (k : Nat) (x : Nat × va_E), (wd b es 0)[k]? = some x → H1[x.1]? = H[x.1]? := fun k x hx => o1 x.1 (by rw [← hz]; exact (hP k x hx).lt)
  refine kk H1 locs lsA ?_ ⟨Nat.le_trans hS.1 (by omega), fun x h1 h2 => (o1 x (by rw [← hz]; exact Nat.lt_of_lt_of_le h1 hS.1)).trans (hS.2.1 x h1 h2), hS.2.2⟩ hl
  rw [wd_app, ho, Nat.zero_add]
  refine (hP.kept hk).app (fun k x hx => ?_)
  obtain ⟨e9, h1, rfl⟩ := wd_of hx
  have hz9 : k < 1 := (List.getElem?_eq_some_iff.mp h1).1
  rw [show k = 0 by omega] at h1 ⊢
  cases h1
  exact ⟨_, hcl.1, (u_born ty0 C.2.2.2.2.1 hcl.2.1 hKn hkC e1 hcl.2.2.1).to hfs⟩

theorem k_newa (C : kC p l s m args meth c D cy b sa sv own cc nL) {atype : ArrayType} {n : Int32} {N' o el : Nat} {a0 : vp_A} (harr : Cond.arrayClass (newarray.typeOf atype) ∈ GW) (hcy : (tysA cy)[el]? = some (cy el, newarray.typeOf atype)) (ha : ∀ cA : ClassId, vp_cell cA a0 = arrV cA N' (fun _ => defaultValue (newarray.typeOf atype))) (hn : ¬ n < 0) (hN : n.toNatClampNeg = N') (hbytes : N' * componentBytes (newarray.typeOf atype) ≤ 536870912)
    (hce : s.heap.size + ce = b + es.length) (hne : es ≠ [] ∨ ce = 0) (ho : es.length = o) (hcells : ce + 1 ≤ R.cells) (hslots : sl + N' ≤ R.slots) (d : decode cc pc = .ok (.newarray atype, 2)) (kk : K p l e R s m args below meth c Q D b nL (ce + 1) (sl + N') (pc + 2) (ls) (.ref (b + o) :: st) (es ++ [.inl (cy el, a0)])) : K p l e R s m args below meth c Q D b nL (ce) (sl) (pc) (ls) (.int n :: st) (es) := by
  intro H locs lsA hP hS hl
  intro T9 hT X
  have hz := k_size hce hne hP hS X hT
  rw [ho] at hz
  refine (?_ : W p l e R s m args below meth c H locs ce sl Q (F0 m pc lsA _)) T9 hT X
  refine va_newaK C.1 C.2.1 (C.2.2.2.2.1 _ harr) rfl d rfl hn hN hbytes hcells hslots hz (fun H1 cA e1 z1 o1 hAr hNm => ?_)
  have hcA : cA = cy el := by
    have h9 := ((kH C).2 el _ hcy).2
    cases atype <;> exact Option.some.inj (hNm.symm.trans h9)
  subst hcA
  have hk : ∀ (k : Nat) (x : Nat × va_E), (wd b es 0)[k]? = some x → H1[x.1]? = H[x.1]? := fun k x hx => o1 x.1 (by rw [← hz]; exact (hP k x hx).lt)
  refine kk H1 locs lsA ?_ ⟨Nat.le_trans hS.1 (by omega), fun x h1 h2 => (o1 x (by rw [← hz]; exact Nat.lt_of_lt_of_le h1 hS.1)).trans (hS.2.1 x h1 h2), hS.2.2⟩ hl
  rw [wd_app, ho, Nat.zero_add]
  refine (hP.kept hk).app (fun k x hx => ?_)
  obtain ⟨e9, h1, rfl⟩ := wd_of hx
  have hz9 : k < 1 := (List.getElem?_eq_some_iff.mp h1).1
  rw [show k = 0 by omega] at h1 ⊢
  cases h1
  show H1[b + o]? = some (vp_cell _ _)
  rw [ha]
  exact e1

theorem k_newq (C : kC p l s m args meth c D cy b sa sv own cc nL) {n : Int32} {N' o el idx : Nat} {Cn : String} (hclink : Cond.classLink own idx Cn ∈ GW) (hover : va_AO Cn s) (hcy : (tysA cy)[el]? = some (cy el, .object Cn)) (hn : ¬ n < 0) (hN : n.toNatClampNeg = N') (hbytes : N' * 4 ≤ 536870912)
    (hce : s.heap.size + ce = b + es.length) (hne : es ≠ [] ∨ ce = 0) (ho : es.length = o) (hcells : ce + 1 ≤ R.cells) (hslots : sl + N' ≤ R.slots) (d : decode cc pc = .ok (.anewarray idx, 3)) (kk : K p l e R s m args below meth c Q D b nL (ce + 1) (sl + N') (pc + 3) (ls) (.ref (b + o) :: st) (es ++ [.inl (cy el, N', .inr (.inr (.inr (.inr (fun _ => none)))))])) : K p l e R s m args below meth c Q D b nL (ce) (sl) (pc) (ls) (.int n :: st) (es) := by
  intro H locs lsA hP hS hl
  intro T9 hT X
  have hz := k_size hce hne hP hS X hT
  rw [ho] at hz
  subst hN
  refine (?_ : W p l e R s m args below meth c H locs ce sl Q (F0 m pc lsA _)) T9 hT X
  refine W.anew C.1 C.2.1 C.2.2.2.1 (C.2.2.2.2.1 _ hclink) (va_AO.use hover) rfl d rfl hn hbytes hcells hslots (fun cA kA comp f1 f2 f3 f4 => ?_)
  generalize hH1 : H.push ({ cls := cA, slots := Array.replicate n.toNatClampNeg .null, vm := .none } : Cell) = H1
  have e1 : H1[b + o]? = some ({ cls := cA, slots := Array.replicate n.toNatClampNeg .null, vm := .none } : Cell) := by rw [← hH1, ← hz]; simp
  have z1 : H1.size = b + o + 1 := by rw [← hH1, ← hz]; simp
  have o1 : ∀ q, q < b + o → H1[q]? = H[q]? := fun q hq => by rw [← hH1, Array.getElem?_push, if_neg (by rw [hz]; exact Nat.ne_of_lt hq)]
  have hcA : cA = cy el := by
    obtain ⟨_, _, _, _, _, h9⟩ := ((kH C).2 el _ hcy).2
    exact Option.some.inj (f1.symm.trans h9)
  subst hcA
  have hk : ∀ (k : Nat) (x : Nat × va_E), (wd b es 0)[k]? = some x → H1[x.1]? = H[x.1]? := fun k x hx => o1 x.1 (by rw [← hz]; exact (hP k x hx).lt)
  rw [hz]
  refine kk H1 locs lsA ?_ ⟨Nat.le_trans hS.1 (by omega), fun x h1 h2 => (o1 x (by rw [← hz]; exact Nat.lt_of_lt_of_le h1 hS.1)).trans (hS.2.1 x h1 h2), hS.2.2⟩ hl
  rw [wd_app, ho, Nat.zero_add]
  refine (hP.kept hk).app (fun k x hx => ?_)
  obtain ⟨e9, h1, rfl⟩ := wd_of hx
  have hz9 : k < 1 := (List.getElem?_eq_some_iff.mp h1).1
  rw [show k = 0 by omega] at h1 ⊢
  cases h1
  show H1[b + o]? = some (vp_cell _ _)
  rw [e1, vp_cell_q]
  congr 1
  unfold arrV va_rf
  congr 1
  apply Array.ext
  · simp
  · intro i h1 h2
    simp

theorem k_putF (C : kC p l s m args meth c D cy b sa sv own cc nL) {K9 i k idx : Nat} {Cn ref : String} {T : u_T} {N : Nat} {ty0 : Nat → FieldType} {fs : List Value} {v : Value} {es1 : List va_E} (hcl : clOk K9 Cn T N ty0) (he : es[i]? = some (.inr (K9, fs))) (hk : k < N) (hlink : Cond.fieldLink own idx ref (T k).2.1 (T k).2.2.1 ∈ GW) (href : (T k).1 = ref) (hfin : (T k).2.2.2 = true) (hin2 : meth.name = "<init>") (hdecl : (T k).1 = own) (hn : narrow (ty0 k) v = v) (hfit : fits (ty0 k) v = true) (hl9 : k < fs.length) (h1 : es.set i (.inr (K9, fs.set k v)) = es1) (d : decode cc pc = .ok (.putfield idx, 3)) (kk : K p l e R s m args below meth c Q D b nL (ce) (sl) (pc + 3) (ls) (st) (es1)) : K p l e R s m args below meth c Q D b nL (ce) (sl) (pc) (ls) (v :: .ref (b + i) :: st) (es) := by
  intro H locs lsA hP hS hl
  have hw := wd_at (b := b) he
  refine va_putF C.1 C.2.1 C.2.2.2.2.1 hcl.2.1 ty0 hcl.2.2.1 hcl.2.2.2.1 C.2.2.2.1 (kH C) hP (wd_D b es) hS i hw hcl.1 k hk (C.2.2.2.2.1 _ hlink) (fun x h => by rw [← href]; exact h) hfin hin2 hdecl (hcl.2.2.1 k hk) hn hfit hl9 d (fun H1 locs1 hP1 hD1 hS1 => kk H1 locs1 lsA ?_ hS1 hl)
  have h2 := wd_set b es 0 i (.inr (K9, fs.set k v))
  rw [Nat.zero_add] at h2
  rw [h2, h1] at hP1
  exact hP1

theorem k_put (C : kC p l s m args meth c D cy b sa sv own cc nL) {K9 i k idx : Nat} {Cn ref : String} {T : u_T} {N : Nat} {ty0 : Nat → FieldType} {fs : List Value} {v : Value} {es1 : List va_E} (hcl : clOk K9 Cn T N ty0) (he : es[i]? = some (.inr (K9, fs))) (hk : k < N) (hlink : Cond.fieldLink own idx ref (T k).2.1 (T k).2.2.1 ∈ GW) (href : (T k).1 = ref) (hfin : (T k).2.2.2 = false) (hn : narrow (ty0 k) v = v) (hfit : fits (ty0 k) v = true) (hl9 : k < fs.length) (h1 : es.set i (.inr (K9, fs.set k v)) = es1) (d : decode cc pc = .ok (.putfield idx, 3)) (kk : K p l e R s m args below meth c Q D b nL (ce) (sl) (pc + 3) (ls) (st) (es1)) : K p l e R s m args below meth c Q D b nL (ce) (sl) (pc) (ls) (v :: .ref (b + i) :: st) (es) := by
  intro H locs lsA hP hS hl
  have hw := wd_at (b := b) he
  refine va_put C.1 C.2.1 C.2.2.2.2.1 hcl.2.1 ty0 hcl.2.2.1 hcl.2.2.2.1 C.2.2.2.1 (kH C) hP (wd_D b es) hS i hw hcl.1 k hk (C.2.2.2.2.1 _ hlink) (fun x h => by rw [← href]; exact h) hfin (hcl.2.2.1 k hk) hn hfit hl9 d (fun H1 locs1 hP1 hD1 hS1 => kk H1 locs1 lsA ?_ hS1 hl)
  have h2 := wd_set b es 0 i (.inr (K9, fs.set k v))
  rw [Nat.zero_add] at h2
  rw [h2, h1] at hP1
  exact hP1

theorem k_get (C : kC p l s m args meth c D cy b sa sv own cc nL) {K9 i k idx : Nat} {Cn ref : String} {T : u_T} {N : Nat} {ty0 : Nat → FieldType} {fs : List Value} {v : Value} (hcl : clOk K9 Cn T N ty0) (he : es[i]? = some (.inr (K9, fs))) (hk : k < N) (hlink : Cond.fieldLink own idx ref (T k).2.1 (T k).2.2.1 ∈ GW) (href : (T k).1 = ref) (hv : fs[k]? = some v) (d : decode cc pc = .ok (.getfield idx, 3)) (kk : K p l e R s m args below meth c Q D b nL (ce) (sl) (pc + 3) (ls) (v :: st) (es)) : K p l e R s m args below meth c Q D b nL (ce) (sl) (pc) (ls) (.ref (b + i) :: st) (es) := by
  intro H locs lsA hP hS hl
  exact va_get C.1 C.2.1 C.2.2.2.2.1 hcl.2.1 C.2.2.2.1 (kH C) hP i (wd_at (b := b) he) hcl.1 k hk (C.2.2.2.2.1 _ hlink) (fun x h => by rw [← href]; exact h) hv d (kk H locs lsA hP hS hl)

theorem k_astq (C : kC p l s m args meth c D cy b sa sv own cc nL) {i i2 N' K9 el : Nat} {Cn : String} {T : u_T} {N : Nat} {ty0 : Nat → FieldType} {vs : List Value} {f : Nat → Option Nat} {j : Int32} {es1 : List va_E} (hcl : clOk K9 Cn T N ty0) (he : es[i]? = some (.inl (cy el, N', .inr (.inr (.inr (.inr f)))))) (hcy : (tysA cy)[el]? = some (cy el, .object Cn)) (hv : es[i2]? = some (.inr (K9, vs))) (hin : vp_in j N') (h1 : es.set i (.inl (cy el, N', .inr (.inr (.inr (.inr (va_up f j.toNatClampNeg (some (b + i2)))))))) = es1) (d : decode cc pc = .ok (.aastore, 1)) (kk : K p l e R s m args below meth c Q D b nL (ce) (sl) (pc + 1) (ls) (st) (es1)) : K p l e R s m args below meth c Q D b nL (ce) (sl) (pc) (ls) (.ref (b + i2) :: .int j :: .ref (b + i) :: st) (es) := by
  intro H locs lsA hP hS hl
  refine va_astq C.1 C.2.1 (kH C) hP (wd_D b es) hS i el i2 K9 (wd_at (b := b) he) hcy (wd_at (b := b) hv) hcl.1 hin d (fun H1 locs1 hP1 hD1 hS1 => kk H1 locs1 lsA ?_ hS1 hl)
  have h2 := wd_set b es 0 i (.inl (cy el, N', .inr (.inr (.inr (.inr (va_up f j.toNatClampNeg (some (b + i2))))))))
  rw [Nat.zero_add] at h2
  rw [h2, h1] at hP1
  exact hP1

theorem arrV_same {cA : ClassId} {n : Nat} {f g : Nat → Value} (h : ∀ j, j < n → f j = g j) : arrV cA n f = arrV cA n g := by
  unfold arrV
  congr 1
  apply Array.ext
  · simp
  · intro i h1 h2
    simp only [Array.getElem_ofFn]
    exact h i (by simpa using h1)
theorem k_fin {i : Nat} {e0 e1 : va_E} {es1 : List va_E} (he : es[i]? = some e0) (h : ∀ (q : Nat) (H : Heap), va_at D vwCl (q, e0) H → va_at D vwCl (q, e1) H) (h1 : es.set i e1 = es1) (kk : K p l e R s m args below meth c Q D b nL (ce) (sl) (pc) (ls) (st) (es1)) : K p l e R s m args below meth c Q D b nL (ce) (sl) (pc) (ls) (st) (es) := by
  intro H locs lsA hP hS hl
  refine kk H locs lsA (fun k x hx => ?_) hS hl
  obtain ⟨e9, h2, rfl⟩ := wd_of hx
  rw [← h1] at h2
  by_cases hk : k = i
  · subst hk
    rw [List.getElem?_set_self (List.getElem?_eq_some_iff.mp he).1] at h2
    cases h2
    have h3 := hP k _ (wd_at (b := b) he)
    rw [Nat.zero_add]
    exact h _ _ h3
  · rw [List.getElem?_set_ne (fun z => hk z.symm)] at h2
    have h3 := hP k _ (wd_at (b := b) h2)
    rw [Nat.zero_add]
    exact h3
theorem q_fin {c9 : ClassId} {n : Nat} {f g : Nat → Option Nat} (h : ∀ j, j < n → f j = g j) : ∀ (q : Nat) (H : Heap), va_at D vwCl (q, .inl (c9, n, .inr (.inr (.inr (.inr f))))) H → va_at D vwCl (q, .inl (c9, n, .inr (.inr (.inr (.inr g))))) H := by
  intro q H h1
  have h2 : H[q]? = some (vp_cell c9 (n, .inr (.inr (.inr (.inr f))))) := h1
  show H[q]? = some (vp_cell c9 (n, .inr (.inr (.inr (.inr g)))))
  rw [h2, vp_cell_q, vp_cell_q, arrV_same (fun j hj => by rw [h j hj])]

theorem wd_len (b : Nat) : ∀ (es : List va_E) (j : Nat), (wd b es j).length = es.length
  | [], j => rfl
  | x :: es, j => by simp only [wd, List.length_cons, wd_len b es (j + 1)]

theorem k_init (C : kC p l s m args meth c D cy b sa sv own cc nL) {K9 o idx lv k2 sl2 nL2 : Nat} {y : MethodName} {cc2 : ByteArray} {dfl : List Value} {ks : List Nat} (hct : KM l D cy sa sv lv k2 sl2 y cc2 nL2 K9 dfl ks) (hN : Cond.methodLink own idx y ∈ GW) (hw1 : Cond.code y cc2 nL2 none ∈ GW) (hw2 : Cond.initialized y.cls ∈ GW) (hw3 : Cond.instanceMethod y ∈ GW) (hm : okM y 0 ∧ y.name = "<init>") (hR : 20 + lv + 1 ≤ R.frames ∧ 8 + (nL2 + 11) + (600 + 40 * lv) ≤ R.locals) (hf : ce + k2 ≤ R.cells ∧ sl + sl2 ≤ R.slots)
    (hce : s.heap.size + ce = b + (es ++ [va_E_r K9 dfl]).length) (ho : es.length = o) (hks : 0 < ks.length) (hw8 : (st.map fun v => v.category).sum ≤ 8) (d : decode cc pc = .ok (.invokespecial idx, 3)) (kk : K p l e R s m args below meth c Q D b nL (ce + k2) (sl + sl2) (pc + 3) (ls) (st) (es ++ blk cy b o ks)) : K p l e R s m args below meth c Q D b nL (ce) (sl) (pc) (ls) (.ref (b + o) :: st) (es ++ [va_E_r K9 dfl]) := by
  intro H locs lsA hP hS hl
  intro T9 hT9 X9
  have hz := k_size (es := es ++ [va_E_r K9 dfl]) hce (Or.inl (by simp)) hP hS X9 hT9
  rw [List.length_append, ho, List.length_singleton] at hz
  have hP1 : va_P D vwCl (wd (b + o) [.inr (K9, dfl)] 0) H := by
    intro k x hx
    obtain ⟨e9, h1, rfl⟩ := wd_of hx
    refine hP (o + k) _ ?_
    rw [wd_app, List.getElem?_append_right (by rw [wd_len, ho]; omega), wd_get, show o + k - (wd b es 0).length = k by rw [wd_len, ho]; omega]
    rw [show ([va_E_r K9 dfl] : List va_E)[k]? = some e9 from h1, Option.map_some, ho]
    congr 2
    omega
  refine va_callv (A1 := fun q => b + o ≤ q) (va_runI (Ts := GW) (As := []) (rest := st) (b := b + o) (maxL := nL2) (bytes := cc2) (n := 0) ⟨C.1, C.2.1, C.2.2.1, C.2.2.2.1, C.2.2.2.2.1⟩ (hct (b + o)) (cwI 0 C.2.2.2.2.1 (ws' := GW) (gw_callee hw1) rfl rfl rfl (C.2.2.2.2.1 _ hw2) (C.2.2.2.2.1 _ hN) (C.2.2.2.2.1 _ hw3) hm.2 ⟨hm.1.1, hm.1.2.1, hm.1.2.2⟩ hR) ⟨fun a U g mk h => ⟨h.1, h.2.1, h.2.2.1, h.2.2.2.calling g mk a⟩, fun U hU hW => ⟨rfl, by rw [hU]; exact hP1, by rw [hU]; exact hz, C.2.2.2.2.2.1.to hW hS hU (Nat.le_add_right _ _)⟩⟩ rfl rfl hl.1 rfl (lv_room hw8) d hf) hS (fun q _ h => Nat.le_trans (Nat.le_add_right _ _) h) (fun q h => Nat.le_trans (Nat.le_add_right _ _) h) (fun u t H1 locs1 ht hal hu hB hsz hk hS1 => ?_) T9 hT9 X9
  refine kk H1 locs1 lsA ?_ hS1 hl
  rw [wd_app, Nat.zero_add, ho]
  have hB' : va_P D vwCl (wd b (blk cy b o ks) o) H1 := by
    rw [ht, wd_shift, blk_shift] at hB
    exact hB
  have hP2 : va_P D vwCl (wd b es 0) H1 := by
    intro k x hx
    obtain ⟨e9, h1, rfl⟩ := wd_of hx
    have hk9 : k < es.length := (List.getElem?_eq_some_iff.mp h1).1
    have h3 := hP k _ (by rw [wd_app, List.getElem?_append_left (by rw [wd_len]; exact hk9)]; exact hx)
    refine h3.kept (hk _ h3.lt (fun z => ?_))
    have z' : b + o ≤ b + (0 + k) := z
    omega
  exact hP2.app hB'

theorem k_initN (C : kC p l s m args meth c D cy b sa sv own cc nL) {K9 o idx lv k2 sl2 nL2 : Nat} {y : MethodName} {cc2 : ByteArray} {dfl : List Value} {ks : List Nat} (hct : KM l D cy sa sv lv k2 sl2 y cc2 nL2 K9 dfl ks) {host : String} (hN : Cond.methodLinkNest own idx y host ∈ NW) (hw1 : Cond.code y cc2 nL2 none ∈ GW) (hw2 : Cond.initialized y.cls ∈ GW) (hw3 : Cond.instanceMethod y ∈ GW) (hm : okM y 0 ∧ y.name = "<init>") (hR : 20 + lv + 1 ≤ R.frames ∧ 8 + (nL2 + 11) + (600 + 40 * lv) ≤ R.locals) (hf : ce + k2 ≤ R.cells ∧ sl + sl2 ≤ R.slots)
    (hce : s.heap.size + ce = b + (es ++ [va_E_r K9 dfl]).length) (ho : es.length = o) (hks : 0 < ks.length) (hw8 : (st.map fun v => v.category).sum ≤ 8) (d : decode cc pc = .ok (.invokespecial idx, 3)) (kk : K p l e R s m args below meth c Q D b nL (ce + k2) (sl + sl2) (pc + 3) (ls) (st) (es ++ blk cy b o ks)) : K p l e R s m args below meth c Q D b nL (ce) (sl) (pc) (ls) (.ref (b + o) :: st) (es ++ [va_E_r K9 dfl]) := by
  intro H locs lsA hP hS hl
  intro T9 hT9 X9
  have hz := k_size (es := es ++ [va_E_r K9 dfl]) hce (Or.inl (by simp)) hP hS X9 hT9
  rw [List.length_append, ho, List.length_singleton] at hz
  have hP1 : va_P D vwCl (wd (b + o) [.inr (K9, dfl)] 0) H := by
    intro k x hx
    obtain ⟨e9, h1, rfl⟩ := wd_of hx
    refine hP (o + k) _ ?_
    rw [wd_app, List.getElem?_append_right (by rw [wd_len, ho]; omega), wd_get, show o + k - (wd b es 0).length = k by rw [wd_len, ho]; omega]
    rw [show ([va_E_r K9 dfl] : List va_E)[k]? = some e9 from h1, Option.map_some, ho]
    congr 2
    omega
  refine va_callv (A1 := fun q => b + o ≤ q) (va_runIN (Ts := GW) (As := []) (rest := st) (b := b + o) (maxL := nL2) (bytes := cc2) (n := 0) ⟨C.1, C.2.1, C.2.2.1, C.2.2.2.1, C.2.2.2.2.1⟩ (hct (b + o)) (⟨va_cnB 0 C.2.2.2.2.1 (ws' := GW) (gw_callee hw1) rfl rfl rfl (C.2.2.2.2.2.1.1.2.2.2.1 _ hN) (C.2.2.2.2.1 _ hw2) ⟨hm.1.1, hm.1.2.1, hm.1.2.2⟩ hR, hm.2, C.2.2.2.2.1 _ hw3⟩) ⟨fun a U g mk h => ⟨h.1, h.2.1, h.2.2.1, h.2.2.2.calling g mk a⟩, fun U hU hW => ⟨rfl, by rw [hU]; exact hP1, by rw [hU]; exact hz, C.2.2.2.2.2.1.to hW hS hU (Nat.le_add_right _ _)⟩⟩ rfl rfl hl.1 rfl (lv_room hw8) d hf) hS (fun q _ h => Nat.le_trans (Nat.le_add_right _ _) h) (fun q h => Nat.le_trans (Nat.le_add_right _ _) h) (fun u t H1 locs1 ht hal hu hB hsz hk hS1 => ?_) T9 hT9 X9
  refine kk H1 locs1 lsA ?_ hS1 hl
  rw [wd_app, Nat.zero_add, ho]
  have hB' : va_P D vwCl (wd b (blk cy b o ks) o) H1 := by
    rw [ht, wd_shift, blk_shift] at hB
    exact hB
  have hP2 : va_P D vwCl (wd b es 0) H1 := by
    intro k x hx
    obtain ⟨e9, h1, rfl⟩ := wd_of hx
    have hk9 : k < es.length := (List.getElem?_eq_some_iff.mp h1).1
    have h3 := hP k _ (by rw [wd_app, List.getElem?_append_left (by rw [wd_len]; exact hk9)]; exact hx)
    refine h3.kept (hk _ h3.lt (fun z => ?_))
    have z' : b + o ≤ b + (0 + k) := z
    omega
  exact hP2.app hB'

theorem k_ret (C : kC p l s m args meth c D cy b sa sv own cc nL) {mc ms : Nat} {ks : List Nat} (hr : meth.sig.returnType = none) (h : es = blk cy b 0 ks) (d : decode cc pc = .ok (.return_, 1)) : K p l e R s m args below meth c (MQ below (va_Qv (S := Unit) (fun _ => True) (fun _ t => va_P D vwCl (wd b (blk cy b 0 ks) 0) t.heap) (fun q => b ≤ q)) args s ce sl (fun q => b ≤ q)) D b nL ce sl pc ls [] es := by
  intro H locs lsA hP hS hl
  have hk9 : ∀ t : State, t.heap = H → va_P D vwCl (wd b (blk cy b 0 ks) 0) t.heap := fun t ht => by rw [ht, ← h]; exact hP
  exact W.vret C.1 C.2.1 hr (fun t ht hw => ⟨⟨(), rfl, trivial, hk9 t ht⟩, hS.F ht⟩) hS.2.2 d C.2.2.2.2.2.2.2
theorem ce_of {n9 : Nat} (h : s.heap.size = b + 1) (h1 : es.length = n9) (h2 : 1 + ce = n9) : s.heap.size + ce = b + es.length := by omega
theorem km_of {lv k sl2 : Nat} {y : MethodName} {K9 : Nat} {dfl : List Value} {ks : List Nat} (hy : plainName y.cls = true) (hst : l.stackTraces = false) (hnL : 1 ≤ nL) (hyn : y.name = "<init>")
    (body : ∀ (b : Nat) (p : Program) (e : Env) (s : State) (m : MethodId) (args : Array Value) (below : List Frame) (meth : Method) (c : Code), kC p l s m args meth c D cy b sa sv y.cls cc nL → meth.sig.returnType = none → meth.name = "<init>" → s.heap.size = b + 1 →
      K p l e (rmk lv k sl2) s m args below meth c (MQ below (va_Qv (S := Unit) (fun _ => True) (fun _ t => va_P D vwCl (wd b (blk cy b 0 ks) 0) t.heap) (fun q => b ≤ q)) args s k sl2 (fun q => b ≤ q)) D b nL 0 0 0 [(0, .ref b)] [] [va_E_r K9 dfl]) :
    KM l D cy sa sv lv k sl2 y cc nL K9 dfl ks := by
  intro b
  refine Met.ofW hy rfl ?_
  intro p e s m args below meth c s1 Bd hml hP
  obtain ⟨rfl, hW, hsz, hKX⟩ := hP
  have hown : s.vm.findClass y.cls = some m.cls := findClass_of_methodNamed Bd.named
  have hts9 := atoms_spec (ws := Cond.code y cc nL none :: GW) Bd.pre
  have hnm : meth.name = "<init>" := by rw [(name_of_methodNamed Bd.named Bd.method).1, hyn]
  have key := body b p e s m #[.ref b] below meth c ⟨Bd.exec, Bd.bytes, hml, hown, fun w hw => hts9 w (List.mem_cons_of_mem _ hw), hKX, hst, Bd.notSynchronized⟩ Bd.returns hnm hsz s.heap [] ((lg_sl [.ref b] ++ List.replicate (nL - (lg_sl [Value.ref b]).length) Slot.unset).toArray) hW va_S.rf (lv_entry [.ref b] hnL)
  have h9 := lg_entry_eq m [.ref b] nL
  rw [show (#[Value.ref b] : Array Value) = [Value.ref b].toArray from rfl, h9]
  exact key
end KK
