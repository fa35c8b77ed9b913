def txtS : List (String × Nat × String) := [("PerhapsRows", 87, "the tape has not so many bytes"), ("PerhapsRows$Reader", 167, "world"), ("PerhapsRows$Reader", 172, "tags"), ("PerhapsRows$Reader", 173, "mark"), ("PerhapsRows$Reader", 175, "tag"), ("PerhapsRows$Reader", 177, "name"), ("PerhapsRows$Reader", 179, "size"), ("PerhapsRows$Reader", 160, ";()+-*/%"), ("PerhapsRows", 132, "no such mark"), ("PerhapsRows", 135, "the size is not 1 to 128"), ("PerhapsRows", 441, "no such name"), ("PerhapsRows", 145, "no such row"), ("PerhapsRows", 155, "no row can be so"), ("PerhapsRows", 426, "no such row is there"), ("PerhapsRows", 197, "a row has no such number"), ("PerhapsRows", 204, "no such place"), ("PerhapsRows", 432, "the row is of another kind"), ("PerhapsRows", 217, "no such nest or slot"), ("PerhapsRows", 434, "the row is solved"), ("PerhapsRows", 250, "nobody is taken out of such a row"), ("PerhapsRows", 267, "these rows can't be joined"), ("PerhapsRows", 269, "both rows are one"), ("PerhapsRows", 274, "this row can't be halved"), ("PerhapsRows", 279, "there are more than 8 nests"), ("PerhapsRows", 428, "no such tray"), ("PerhapsRows", 437, "the tray is missing"), ("PerhapsRows", 299, "two names are alike"), ("PerhapsRows", 439, "no such what"), ("PerhapsRows", 341, "a size is not 1 to 64"), ("PerhapsRows", 383, "money is not 0 to 999"), ("PerhapsRows", 394, "no tray can be so"), ("PerhapsRows", 398, "the tray has no such place"), ("PerhapsRows", 430, "no such image"), ("PerhapsRows", 414, "no such image was made"), ("PerhapsRowsModel", 186, "world"), ("PerhapsRowsModel", 192, "tags"), ("PerhapsRowsModel", 194, "mark"), ("PerhapsRowsModel", 180, "name"), ("PerhapsRowsModel", 185, "size"), ("PerhapsRowsModel", 199, "tag")]
def bytL : List (List Int32) := [[116, 104, 101, 32, 116, 97, 112, 101, 32, 104, 97, 115, 32, 110, 111, 116, 32, 115, 111, 32, 109, 97, 110, 121, 32, 98, 121, 116, 101, 115], [119, 111, 114, 108, 100], [116, 97, 103, 115], [109, 97, 114, 107], [116, 97, 103], [110, 97, 109, 101], [115, 105, 122, 101], [59, 40, 41, 43, 45, 42, 47, 37], [110, 111, 32, 115, 117, 99, 104, 32, 109, 97, 114, 107], [116, 104, 101, 32, 115, 105, 122, 101, 32, 105, 115, 32, 110, 111, 116, 32, 49, 32, 116, 111, 32, 49, 50, 56], [110, 111, 32, 115, 117, 99, 104, 32, 110, 97, 109, 101], [110, 111, 32, 115, 117, 99, 104, 32, 114, 111, 119], [110, 111, 32, 114, 111, 119, 32, 99, 97, 110, 32, 98, 101, 32, 115, 111], [110, 111, 32, 115, 117, 99, 104, 32, 114, 111, 119, 32, 105, 115, 32, 116, 104, 101, 114, 101], [97, 32, 114, 111, 119, 32, 104, 97, 115, 32, 110, 111, 32, 115, 117, 99, 104, 32, 110, 117, 109, 98, 101, 114], [110, 111, 32, 115, 117, 99, 104, 32, 112, 108, 97, 99, 101], [116, 104, 101, 32, 114, 111, 119, 32, 105, 115, 32, 111, 102, 32, 97, 110, 111, 116, 104, 101, 114, 32, 107, 105, 110, 100], [110, 111, 32, 115, 117, 99, 104, 32, 110, 101, 115, 116, 32, 111, 114, 32, 115, 108, 111, 116], [116, 104, 101, 32, 114, 111, 119, 32, 105, 115, 32, 115, 111, 108, 118, 101, 100], [110, 111, 98, 111, 100, 121, 32, 105, 115, 32, 116, 97, 107, 101, 110, 32, 111, 117, 116, 32, 111, 102, 32, 115, 117, 99, 104, 32, 97, 32, 114, 111, 119], [116, 104, 101, 115, 101, 32, 114, 111, 119, 115, 32, 99, 97, 110, 39, 116, 32, 98, 101, 32, 106, 111, 105, 110, 101, 100], [98, 111, 116, 104, 32, 114, 111, 119, 115, 32, 97, 114, 101, 32, 111, 110, 101], [116, 104, 105, 115, 32, 114, 111, 119, 32, 99, 97, 110, 39, 116, 32, 98, 101, 32, 104, 97, 108, 118, 101, 100], [116, 104, 101, 114, 101, 32, 97, 114, 101, 32, 109, 111, 114, 101, 32, 116, 104, 97, 110, 32, 56, 32, 110, 101, 115, 116, 115], [110, 111, 32, 115, 117, 99, 104, 32, 116, 114, 97, 121], [116, 104, 101, 32, 116, 114, 97, 121, 32, 105, 115, 32, 109, 105, 115, 115, 105, 110, 103], [116, 119, 111, 32, 110, 97, 109, 101, 115, 32, 97, 114, 101, 32, 97, 108, 105, 107, 101], [110, 111, 32, 115, 117, 99, 104, 32, 119, 104, 97, 116], [97, 32, 115, 105, 122, 101, 32, 105, 115, 32, 110, 111, 116, 32, 49, 32, 116, 111, 32, 54, 52], [109, 111, 110, 101, 121, 32, 105, 115, 32, 110, 111, 116, 32, 48, 32, 116, 111, 32, 57, 57, 57], [110, 111, 32, 116, 114, 97, 121, 32, 99, 97, 110, 32, 98, 101, 32, 115, 111], [116, 104, 101, 32, 116, 114, 97, 121, 32, 104, 97, 115, 32, 110, 111, 32, 115, 117, 99, 104, 32, 112, 108, 97, 99, 101], [110, 111, 32, 115, 117, 99, 104, 32, 105, 109, 97, 103, 101], [110, 111, 32, 115, 117, 99, 104, 32, 105, 109, 97, 103, 101, 32, 119, 97, 115, 32, 109, 97, 100, 101], [119, 111, 114, 108, 100], [116, 97, 103, 115], [109, 97, 114, 107], [110, 97, 109, 101], [115, 105, 122, 101], [116, 97, 103]]
def bytS (i : Nat) : List Int32 := bytL.getD i []
def lenS (i : Nat) : Nat := (bytS i).length
def txO (sa sv : Nat → Nat) (A : Nat → Prop) (U : State) (H : Heap) (i : Nat) : Prop :=
  va_O "java/lang/String" (sa i) A U H ∧ va_OF "java/lang/String" "coder" "B" (.int 0) (sa i) A U H ∧ va_OF "java/lang/String" "value" "[B" (.ref (sv i)) (sa i) A U H ∧ va_T .byte (sv i) (lenS i) (fun j => .int ((bytS i).getD j 0)) A U H
theorem txO_moved {sa sv : Nat → Nat} {A : Nat → Prop} {u U : State} {H H1 : Heap} {i : Nat} (hvm : u.vm.Alike U.vm) (hq : ∀ a : Nat, a < H.size → ¬ A a → H1[a]? = H[a]?) (h : txO sa sv A u H i) : txO sa sv A U H1 i :=
  ⟨va_O.moved hvm (h.1.kept hq), va_OF.moved hvm (h.2.1.kept hq), va_OF.moved hvm (h.2.2.1.kept hq), va_T.moved hvm (h.2.2.2.kept hq)⟩
/-! THE JUDGEMENT Z: from this frame, with this memory, the method comes to what x says (if x says anything). -/
def exN (k : Nat) : String := match k with
  | 1 => "java/util/NoSuchElementException"
  | 2 => "java/lang/IllegalStateException"
  | 3 => "java/lang/IllegalArgumentException"
  | _ => "java/lang/IndexOutOfBoundsException"
/-- words that no start of a class changes -/
def GW : List Cond := lw_tbl.filter goodWord
def nwF : Cond → Bool
  | .methodLinkNest .. | .fieldLinkNest .. | .declares _ | .castable .. => true
  | _ => false
def NW : List Cond := lw_tbl.filter nwF
theorem nw_warm {x : Cond} (hx : nwF x = true) {s U : State} (hW : s.WarmedH U.vm) (h : va_Nw x s) : va_Nw x U := by
  cases x <;> first | (simp [nwF] at hx; done) | exact va_Nw.warmM hW h | exact va_Nw.warmF hW h | exact va_Nw.warmD hW h | exact va_Nw.warmC hW h
theorem GW_good : ∀ x ∈ GW, goodWord x = true := fun x h => (List.mem_filter.mp h).2
theorem GW_in {x : Cond} (h : x ∈ lw_tbl) (hg : goodWord x = true) : x ∈ GW := List.mem_filter.mpr ⟨h, hg⟩
theorem NW_in {x : Cond} (h : x ∈ lw_tbl) (hg : nwF x = true) : x ∈ NW := List.mem_filter.mpr ⟨h, hg⟩
/-- the classes' names that a handler of the law's lets by: which exceptions aren't which -/
def NCl : List (String × String) := [(exN 2, exN 1), (exN 3, exN 1), (exN 4, exN 1), (exN 3, exN 2), (exN 4, exN 2), (exN 4, exN 3)]
/-- what holds of the world in every state: the classes, the statics that a throw reads, the words, the texts -/
def CX (D : va_G) (cy : Nat → ClassId) (B : Nat) (kd : Nat → Nat) (n : Nat) (sa sv : Nat → Nat) (U : State) : Prop :=
  va_K D vwCl (tysA cy) U ∧ vx_Zq Bundle.tN "UNASSIGNED_STACK" Bundle.steD (AA B kd n) U U.heap ∧ vx_Zq Bundle.tN "SUPPRESSED_SENTINEL" Bundle.listD (AA B kd n) U U.heap ∧ (∀ x ∈ NW, va_Nw x U) ∧ (∀ q ∈ NCl, va_Nc q.1 q.2 U) ∧ (∀ (i : Nat) (q : String × Nat × String), txtS[i]? = some q → vk_R q.1 q.2.1 q.2.2 (sa i) U) ∧ (∀ i : Nat, i < 40 → txO sa sv (AA B kd n) U U.heap i) ∧ va_Z "java/lang/String" "COMPACT_STRINGS" "Z" (.int 1) (AA B kd n) U U.heap ∧ va_Zq "jdk/internal/util/Preconditions" "SIOOBE_FORMATTER" "Ljava/util/function/BiFunction;" (AA B kd n) U U.heap
theorem CX.moved {D : va_G} {cy : Nat → ClassId} {B : Nat} {kd : Nat → Nat} {n : Nat} {sa sv : Nat → Nat} {s U : State} (h : CX D cy B kd n sa sv s) (hW : s.WarmedH U.vm) (hz : s.heap.size ≤ U.heap.size) (hq : ∀ a : Nat, a < s.heap.size → ¬ AA B kd n a → U.heap[a]? = s.heap[a]?) : CX D cy B kd n sa sv U := by
  obtain ⟨h1, h2, h3, h4, h5, h6, h7, h8, h10⟩ := h
  refine ⟨h1.moved hW.alike, vx_Zq.moved hW.alike (h2.kept hq), vx_Zq.moved hW.alike (h3.kept hq), fun x hx => nw_warm (List.mem_filter.mp hx).2 hW (h4 x hx), fun q hq => (h5 q hq).moved hW.alike, fun i q hi => (h6 i q hi).warm hW, fun i hi => txO_moved hW.alike hq (h7 i hi), va_Z.moved hW.alike (h8.kept hq), va_Zq.moved hW.alike (h10.kept hq)⟩
theorem CX.calling {D : va_G} {cy : Nat → ClassId} {B : Nat} {kd : Nat → Nat} {n : Nat} {sa sv : Nat → Nat} {U : State} (g : JFrame) (mk : MethodId) (a : Array Value) (h : CX D cy B kd n sa sv U) : CX D cy B kd n sa sv (U.calling g mk a) := h.moved (State.WarmedH.refl _) (Nat.le_refl _) (fun _ _ _ => rfl)
def QcR (D : va_G) (cy : Nat → ClassId) (B : Nat) (kd : Nat → Nat) (n : Nat) (r : Res) : Array Value → State → Outcome → State → Prop := fun _ st o t => ∃ v, r.1 = .inr v ∧ o = .returned v ∧ Sat D cy B kd n r.2 t.heap ∧ va_F (AA B kd n) st t
def XcR (D : va_G) (cy : Nat → ClassId) (B : Nat) (kd : Nat → Nat) (n : Nat) (r : Res) : String → State → State → Prop := fun E st t => ∃ k, r.1 = .inl k ∧ E = exN k ∧ Sat D cy B kd n r.2 t.heap ∧ va_F (AA B kd n) st t
def rmz (lv k : Nat) : Room := { frames := 12 + lv, cells := k, slots := 6 * k, locals := 300 + 40 * lv }
/-- what a method says: called with these arguments and this memory it comes to x -/
def CT (l : Launch) (D : va_G) (cy : Nat → ClassId) (B : Nat) (kd : Nat → Nat) (n : Nat) (sa sv : Nat → Nat) (lv k : Nat) (y : MethodName) (cc : ByteArray) (nL : Nat) (ret : Option FieldType) {β : Type} (cv : β → Res) (av : List Value) (M : Mem) (x : Option β) : Prop :=
  ∀ b, x = some b → vx_Met l y (Cond.code y cc nL ret :: GW) (rmz lv k) (fun v U => v = av.toArray ∧ Sat D cy B kd n M U.heap ∧ CX D cy B kd n sa sv U) (QcR D cy B kd n (cv b)) (XcR D cy B kd n (cv b)) k (6 * k) (AA B kd n)
theorem AA_up {B : Nat} {kd : Nat → Nat} {n : Nat} {H : Heap} (h : B + n ≤ H.size) : ∀ q, H.size ≤ q → AA B kd n q := fun q hq => ⟨by omega, fun z => by omega⟩
section ZZ
variable {p : Program} {l : Launch} {e : Env} {R : Room} {s : State} {m : MethodId} {args : Array Value} {below : List Frame} {meth : Method} {c : Code} {Q : State → Prop}
variable {D : va_G} {cy : Nat → ClassId} {B : Nat} {kd : Nat → Nat} {n : Nat} {sa sv : Nat → Nat} {own : String} {cc : ByteArray} {nL : Nat}
def zC (p : Program) (l : Launch) (s : State) (m : MethodId) (args : Array Value) (meth : Method) (c : Code) (D : va_G) (cy : Nat → ClassId) (B : Nat) (kd : Nat → Nat) (n : Nat) (sa sv : Nat → Nat) (own : String) (cc : ByteArray) (nL : Nat) : Prop :=
  p.tables.exec = Jvm.exec ∧ c.code = cc ∧ c.maxLocals = nL ∧ s.vm.findClass own = some m.cls ∧ (∀ w ∈ GW, w.before args s = true) ∧ kOk kd n ∧ CX D cy B kd n sa sv s ∧ l.stackTraces = false ∧ meth.locks = false
def Z (p : Program) (l : Launch) (e : Env) (R : Room) (s : State) (m : MethodId) (args : Array Value) (below : List Frame) (meth : Method) (c : Code) (Q : State → Prop) (D : va_G) (cy : Nat → ClassId) (B : Nat) (kd : Nat → Nat) (n : Nat) (nL : Nat) {β : Type} (b0 : β) (cu : Nat) (pc : Nat) (ls : List (Nat × Value)) (st : List Value) (M : Mem) (x : Option β) : Prop :=
  x = some b0 → ∀ (H : Heap) (locs : List Loc) (lsA : Array Slot) (cells slots : Nat), cells ≤ cu → slots ≤ 6 * cu → Sat D cy B kd n M H → va_S (AA B kd n) s.heap H locs → lv_has lsA nL ls → W p l e R s m args below meth c H locs cells slots Q (F0 m pc lsA st)
variable {β : Type} {b0 : β} {cu pc : Nat} {ls : List (Nat × Value)} {st : List Value} {M : Mem} {x : Option β}
theorem z_iconst (C : zC p l s m args meth c D cy B kd n sa sv own cc nL) {k : Int} {v : Int32} (d : decode cc pc = .ok (.iconst k, 1)) (hv : Int32.ofInt k = v) (kk : Z p l e R s m args below meth c Q D cy B kd n nL b0 cu (pc + 1) ls (.int v :: st) M x) : Z p l e R s m args below meth c Q D cy B kd n nL b0 cu (pc) ls (st) M x := by
  intro hx H locs lsA cells slots hc hs hH hS hl
  exact lv_iconst C.1 C.2.1 d hv (kk hx H locs lsA cells slots hc hs hH hS hl)
theorem z_bipush (C : zC p l s m args meth c D cy B kd n sa sv own cc nL) {k : Int} {v : Int32} (d : decode cc pc = .ok (.bipush k, 2)) (hv : (Int8.ofInt k).toInt32 = v) (kk : Z p l e R s m args below meth c Q D cy B kd n nL b0 cu (pc + 2) ls (.int v :: st) M x) : Z p l e R s m args below meth c Q D cy B kd n nL b0 cu (pc) ls (st) M x := by
  intro hx H locs lsA cells slots hc hs hH hS hl
  exact lv_bipush C.1 C.2.1 d hv (kk hx H locs lsA cells slots hc hs hH hS hl)
theorem z_sipush (C : zC p l s m args meth c D cy B kd n sa sv own cc nL) {k : Int} {v : Int32} (d : decode cc pc = .ok (.sipush k, 3)) (hv : (Int16.ofInt k).toInt32 = v) (kk : Z p l e R s m args below meth c Q D cy B kd n nL b0 cu (pc + 3) ls (.int v :: st) M x) : Z p l e R s m args below meth c Q D cy B kd n nL b0 cu (pc) ls (st) M x := by
  intro hx H locs lsA cells slots hc hs hH hS hl
  exact lv_sipush C.1 C.2.1 d hv (kk hx H locs lsA cells slots hc hs hH hS hl)
theorem z_lconst (C : zC p l s m args meth c D cy B kd n sa sv own cc nL) {k : Fin 2} {v : Int64} (d : decode cc pc = .ok (.lconst k, 1)) (hv : Int64.ofNat (k : Nat) = v) (kk : Z p l e R s m args below meth c Q D cy B kd n nL b0 cu (pc + 1) ls (.long v :: st) M x) : Z p l e R s m args below meth c Q D cy B kd n nL b0 cu (pc) ls (st) M x := by
  intro hx H locs lsA cells slots hc hs hH hS hl
  exact lv_lconst C.1 C.2.1 d hv (kk hx H locs lsA cells slots hc hs hH hS hl)
theorem z_ldc (C : zC p l s m args meth c D cy B kd n sa sv own cc nL) {i : Nat} {v : Int32} (d : decode cc pc = .ok (.ldc i, 2)) (hw : Cond.constant own i v ∈ GW) (kk : Z p l e R s m args below meth c Q D cy B kd n nL b0 cu (pc + 2) ls (.int v :: st) M x) : Z p l e R s m args below meth c Q D cy B kd n nL b0 cu (pc) ls (st) M x := by
  intro hx H locs lsA cells slots hc hs hH hS hl
  exact lv_ldc C.1 C.2.1 C.2.2.2.1 (C.2.2.2.2.1 _ hw) d (kk hx H locs lsA cells slots hc hs hH hS hl)
theorem z_ldcw (C : zC p l s m args meth c D cy B kd n sa sv own cc nL) {i : Nat} {v : Int32} (d : decode cc pc = .ok (.ldc_w i, 3)) (hw : Cond.constant own i v ∈ GW) (kk : Z p l e R s m args below meth c Q D cy B kd n nL b0 cu (pc + 3) ls (.int v :: st) M x) : Z p l e R s m args below meth c Q D cy B kd n nL b0 cu (pc) ls (st) M x := by
  intro hx H locs lsA cells slots hc hs hH hS hl
  exact lv_ldcw C.1 C.2.1 C.2.2.2.1 (C.2.2.2.2.1 _ hw) d (kk hx H locs lsA cells slots hc hs hH hS hl)
theorem z_ldc2 (C : zC p l s m args meth c D cy B kd n sa sv own cc nL) {i : Nat} {v : Int64} (d : decode cc pc = .ok (.ldc2_w i, 3)) (hw : Cond.constantLong own i v ∈ GW) (kk : Z p l e R s m args below meth c Q D cy B kd n nL b0 cu (pc + 3) ls (.long v :: st) M x) : Z p l e R s m args below meth c Q D cy B kd n nL b0 cu (pc) ls (st) M x := by
  intro hx H locs lsA cells slots hc hs hH hS hl
  exact lv_ldc2 C.1 C.2.1 C.2.2.2.1 (C.2.2.2.2.1 _ hw) d (kk hx H locs lsA cells slots hc hs hH hS hl)
theorem z_iload_n (C : zC p l s m args meth c D cy B kd n sa sv own cc nL) {k : Fin 4} {v : Int32} (i j : Nat) (d : decode cc pc = .ok (.iload_n k, 1)) (hk : (k : Nat) = i) (h : ls[j]? = some (i, .int v)) (kk : Z p l e R s m args below meth c Q D cy B kd n nL b0 cu (pc + 1) ls (.int v :: st) M x) : Z p l e R s m args below meth c Q D cy B kd n nL b0 cu (pc) ls (st) M x := by
  intro hx H locs lsA cells slots hc hs hH hS hl
  exact lv_iload_n C.1 C.2.1 d hk (lv_at hl j h) (kk hx H locs lsA cells slots hc hs hH hS hl)
theorem z_iload (C : zC p l s m args meth c D cy B kd n sa sv own cc nL) {v : Int32} {i : Nat} (j : Nat) (d : decode cc pc = .ok (.iload i, 2)) (h : ls[j]? = some (i, .int v)) (kk : Z p l e R s m args below meth c Q D cy B kd n nL b0 cu (pc + 2) ls (.int v :: st) M x) : Z p l e R s m args below meth c Q D cy B kd n nL b0 cu (pc) ls (st) M x := by
  intro hx H locs lsA cells slots hc hs hH hS hl
  exact lv_iload C.1 C.2.1 d (lv_at hl j h) (kk hx H locs lsA cells slots hc hs hH hS hl)
theorem z_istore_n (C : zC p l s m args meth c D cy B kd n sa sv own cc nL) {k : Fin 4} (i : Nat) {v : Int32} {ls1 : List (Nat × Value)} (d : decode cc pc = .ok (.istore_n k, 1)) (hk : (k : Nat) = i) (hn : i < nL) (h : (i, Value.int v) :: ls.filter (fun q => !(q.1 == i) && !(q.1 + 1 == i && q.2.category == 2)) = ls1) (kk : Z p l e R s m args below meth c Q D cy B kd n nL b0 cu (pc + 1) ls1 (st) M x) : Z p l e R s m args below meth c Q D cy B kd n nL b0 cu (pc) ls (.int v :: st) M x := by
  intro hx H locs lsA cells slots hc hs hH hS hl
  exact lv_istore_n C.1 C.2.1 d hk hl hn h (fun lsA hl => kk hx H locs lsA cells slots hc hs hH hS hl)
theorem z_istore (C : zC p l s m args meth c D cy B kd n sa sv own cc nL)  (i : Nat) {v : Int32} {ls1 : List (Nat × Value)} (d : decode cc pc = .ok (.istore i, 2))  (hn : i < nL) (h : (i, Value.int v) :: ls.filter (fun q => !(q.1 == i) && !(q.1 + 1 == i && q.2.category == 2)) = ls1) (kk : Z p l e R s m args below meth c Q D cy B kd n nL b0 cu (pc + 2) ls1 (st) M x) : Z p l e R s m args below meth c Q D cy B kd n nL b0 cu (pc) ls (.int v :: st) M x := by
  intro hx H locs lsA cells slots hc hs hH hS hl
  exact lv_istore C.1 C.2.1 d hl hn h (fun lsA hl => kk hx H locs lsA cells slots hc hs hH hS hl)
theorem z_lload_n (C : zC p l s m args meth c D cy B kd n sa sv own cc nL) {k : Fin 4} {v : Int64} (i j : Nat) (d : decode cc pc = .ok (.lload_n k, 1)) (hk : (k : Nat) = i) (h : ls[j]? = some (i, .long v)) (kk : Z p l e R s m args below meth c Q D cy B kd n nL b0 cu (pc + 1) ls (.long v :: st) M x) : Z p l e R s m args below meth c Q D cy B kd n nL b0 cu (pc) ls (st) M x := by
  intro hx H locs lsA cells slots hc hs hH hS hl
  exact lv_lload_n C.1 C.2.1 d hk (lv_at hl j h) (kk hx H locs lsA cells slots hc hs hH hS hl)
theorem z_lload (C : zC p l s m args meth c D cy B kd n sa sv own cc nL) {v : Int64} {i : Nat} (j : Nat) (d : decode cc pc = .ok (.lload i, 2)) (h : ls[j]? = some (i, .long v)) (kk : Z p l e R s m args below meth c Q D cy B kd n nL b0 cu (pc + 2) ls (.long v :: st) M x) : Z p l e R s m args below meth c Q D cy B kd n nL b0 cu (pc) ls (st) M x := by
  intro hx H locs lsA cells slots hc hs hH hS hl
  exact lv_lload C.1 C.2.1 d (lv_at hl j h) (kk hx H locs lsA cells slots hc hs hH hS hl)
theorem z_lstore_n (C : zC p l s m args meth c D cy B kd n sa sv own cc nL) {k : Fin 4} (i : Nat) {v : Int64} {ls1 : List (Nat × Value)} (d : decode cc pc = .ok (.lstore_n k, 1)) (hk : (k : Nat) = i) (hn : i + 1 < nL) (h : (i, Value.long v) :: ls.filter (fun q => !(q.1 == i) && (!(q.1 == i + 1) && !(q.1 + 1 == i && q.2.category == 2))) = ls1) (kk : Z p l e R s m args below meth c Q D cy B kd n nL b0 cu (pc + 1) ls1 (st) M x) : Z p l e R s m args below meth c Q D cy B kd n nL b0 cu (pc) ls (.long v :: st) M x := by
  intro hx H locs lsA cells slots hc hs hH hS hl
  exact lv_lstore_n C.1 C.2.1 d hk hl hn h (fun lsA hl => kk hx H locs lsA cells slots hc hs hH hS hl)
theorem z_lstore (C : zC p l s m args meth c D cy B kd n sa sv own cc nL)  (i : Nat) {v : Int64} {ls1 : List (Nat × Value)} (d : decode cc pc = .ok (.lstore i, 2))  (hn : i + 1 < nL) (h : (i, Value.long v) :: ls.filter (fun q => !(q.1 == i) && (!(q.1 == i + 1) && !(q.1 + 1 == i && q.2.category == 2))) = ls1) (kk : Z p l e R s m args below meth c Q D cy B kd n nL b0 cu (pc + 2) ls1 (st) M x) : Z p l e R s m args below meth c Q D cy B kd n nL b0 cu (pc) ls (.long v :: st) M x := by
  intro hx H locs lsA cells slots hc hs hH hS hl
  exact lv_lstore C.1 C.2.1 d hl hn h (fun lsA hl => kk hx H locs lsA cells slots hc hs hH hS hl)
theorem z_aload_n (C : zC p l s m args meth c D cy B kd n sa sv own cc nL) {k : Fin 4} {v : Nat} (i j : Nat) (d : decode cc pc = .ok (.aload_n k, 1)) (hk : (k : Nat) = i) (h : ls[j]? = some (i, .ref v)) (kk : Z p l e R s m args below meth c Q D cy B kd n nL b0 cu (pc + 1) ls (.ref v :: st) M x) : Z p l e R s m args below meth c Q D cy B kd n nL b0 cu (pc) ls (st) M x := by
  intro hx H locs lsA cells slots hc hs hH hS hl
  exact lv_aload_n C.1 C.2.1 d hk (lv_at hl j h) (kk hx H locs lsA cells slots hc hs hH hS hl)
theorem z_aload (C : zC p l s m args meth c D cy B kd n sa sv own cc nL) {v : Nat} {i : Nat} (j : Nat) (d : decode cc pc = .ok (.aload i, 2)) (h : ls[j]? = some (i, .ref v)) (kk : Z p l e R s m args below meth c Q D cy B kd n nL b0 cu (pc + 2) ls (.ref v :: st) M x) : Z p l e R s m args below meth c Q D cy B kd n nL b0 cu (pc) ls (st) M x := by
  intro hx H locs lsA cells slots hc hs hH hS hl
  exact lv_aload C.1 C.2.1 d (lv_at hl j h) (kk hx H locs lsA cells slots hc hs hH hS hl)
theorem z_astore_n (C : zC p l s m args meth c D cy B kd n sa sv own cc nL) {k : Fin 4} (i : Nat) {v : Nat} {ls1 : List (Nat × Value)} (d : decode cc pc = .ok (.astore_n k, 1)) (hk : (k : Nat) = i) (hn : i < nL) (h : (i, Value.ref v) :: ls.filter (fun q => !(q.1 == i) && !(q.1 + 1 == i && q.2.category == 2)) = ls1) (kk : Z p l e R s m args below meth c Q D cy B kd n nL b0 cu (pc + 1) ls1 (st) M x) : Z p l e R s m args below meth c Q D cy B kd n nL b0 cu (pc) ls (.ref v :: st) M x := by
  intro hx H locs lsA cells slots hc hs hH hS hl
  exact lv_astore_n C.1 C.2.1 d hk hl hn h (fun lsA hl => kk hx H locs lsA cells slots hc hs hH hS hl)
theorem z_astore (C : zC p l s m args meth c D cy B kd n sa sv own cc nL)  (i : Nat) {v : Nat} {ls1 : List (Nat × Value)} (d : decode cc pc = .ok (.astore i, 2))  (hn : i < nL) (h : (i, Value.ref v) :: ls.filter (fun q => !(q.1 == i) && !(q.1 + 1 == i && q.2.category == 2)) = ls1) (kk : Z p l e R s m args below meth c Q D cy B kd n nL b0 cu (pc + 2) ls1 (st) M x) : Z p l e R s m args below meth c Q D cy B kd n nL b0 cu (pc) ls (.ref v :: st) M x := by
  intro hx H locs lsA cells slots hc hs hH hS hl
  exact lv_astore C.1 C.2.1 d hl hn h (fun lsA hl => kk hx H locs lsA cells slots hc hs hH hS hl)
theorem z_iinc (C : zC p l s m args meth c D cy B kd n sa sv own cc nL) {k : Int} {v v1 : Int32} {ls1 : List (Nat × Value)} (i j : Nat) (d : decode cc pc = .ok (.iinc i k, 3)) (hj : ls[j]? = some (i, .int v)) (hv : v + Int32.ofInt k = v1) (hn : i < nL) (h : (i, Value.int v1) :: ls.filter (fun q => !(q.1 == i) && !(q.1 + 1 == i && q.2.category == 2)) = ls1) (kk : Z p l e R s m args below meth c Q D cy B kd n nL b0 cu (pc + 3) ls1 (st) M x) : Z p l e R s m args below meth c Q D cy B kd n nL b0 cu (pc) ls (st) M x := by
  intro hx H locs lsA cells slots hc hs hH hS hl
  exact lv_iinc C.1 C.2.1 d hl hj hv hn h (fun lsA hl => kk hx H locs lsA cells slots hc hs hH hS hl)
theorem z_iadd (C : zC p l s m args meth c D cy B kd n sa sv own cc nL) {a b : Int32} (d : decode cc pc = .ok (.iadd, 1))  (kk : Z p l e R s m args below meth c Q D cy B kd n nL b0 cu (pc + 1) ls (.int (a + b) :: st) M x) : Z p l e R s m args below meth c Q D cy B kd n nL b0 cu (pc) ls (.int b :: .int a :: st) M x := by
  intro hx H locs lsA cells slots hc hs hH hS hl
  exact lv_iadd C.1 C.2.1 d (kk hx H locs lsA cells slots hc hs hH hS hl)
theorem z_isub (C : zC p l s m args meth c D cy B kd n sa sv own cc nL) {a b : Int32} (d : decode cc pc = .ok (.isub, 1))  (kk : Z p l e R s m args below meth c Q D cy B kd n nL b0 cu (pc + 1) ls (.int (a - b) :: st) M x) : Z p l e R s m args below meth c Q D cy B kd n nL b0 cu (pc) ls (.int b :: .int a :: st) M x := by
  intro hx H locs lsA cells slots hc hs hH hS hl
  exact lv_isub C.1 C.2.1 d (kk hx H locs lsA cells slots hc hs hH hS hl)
theorem z_imul (C : zC p l s m args meth c D cy B kd n sa sv own cc nL) {a b : Int32} (d : decode cc pc = .ok (.imul, 1))  (kk : Z p l e R s m args below meth c Q D cy B kd n nL b0 cu (pc + 1) ls (.int (a * b) :: st) M x) : Z p l e R s m args below meth c Q D cy B kd n nL b0 cu (pc) ls (.int b :: .int a :: st) M x := by
  intro hx H locs lsA cells slots hc hs hH hS hl
  exact lv_imul C.1 C.2.1 d (kk hx H locs lsA cells slots hc hs hH hS hl)
theorem z_iand (C : zC p l s m args meth c D cy B kd n sa sv own cc nL) {a b : Int32} (d : decode cc pc = .ok (.iand, 1))  (kk : Z p l e R s m args below meth c Q D cy B kd n nL b0 cu (pc + 1) ls (.int (a &&& b) :: st) M x) : Z p l e R s m args below meth c Q D cy B kd n nL b0 cu (pc) ls (.int b :: .int a :: st) M x := by
  intro hx H locs lsA cells slots hc hs hH hS hl
  exact lv_iand C.1 C.2.1 d (kk hx H locs lsA cells slots hc hs hH hS hl)
theorem z_ior (C : zC p l s m args meth c D cy B kd n sa sv own cc nL) {a b : Int32} (d : decode cc pc = .ok (.ior, 1))  (kk : Z p l e R s m args below meth c Q D cy B kd n nL b0 cu (pc + 1) ls (.int (a ||| b) :: st) M x) : Z p l e R s m args below meth c Q D cy B kd n nL b0 cu (pc) ls (.int b :: .int a :: st) M x := by
  intro hx H locs lsA cells slots hc hs hH hS hl
  exact lv_ior C.1 C.2.1 d (kk hx H locs lsA cells slots hc hs hH hS hl)
theorem z_ixor (C : zC p l s m args meth c D cy B kd n sa sv own cc nL) {a b : Int32} (d : decode cc pc = .ok (.ixor, 1))  (kk : Z p l e R s m args below meth c Q D cy B kd n nL b0 cu (pc + 1) ls (.int (a ^^^ b) :: st) M x) : Z p l e R s m args below meth c Q D cy B kd n nL b0 cu (pc) ls (.int b :: .int a :: st) M x := by
  intro hx H locs lsA cells slots hc hs hH hS hl
  exact lv_ixor C.1 C.2.1 d (kk hx H locs lsA cells slots hc hs hH hS hl)
theorem z_ladd (C : zC p l s m args meth c D cy B kd n sa sv own cc nL) {a b : Int64} (d : decode cc pc = .ok (.ladd, 1))  (kk : Z p l e R s m args below meth c Q D cy B kd n nL b0 cu (pc + 1) ls (.long (a + b) :: st) M x) : Z p l e R s m args below meth c Q D cy B kd n nL b0 cu (pc) ls (.long b :: .long a :: st) M x := by
  intro hx H locs lsA cells slots hc hs hH hS hl
  exact lv_ladd C.1 C.2.1 d (kk hx H locs lsA cells slots hc hs hH hS hl)
theorem z_lsub (C : zC p l s m args meth c D cy B kd n sa sv own cc nL) {a b : Int64} (d : decode cc pc = .ok (.lsub, 1))  (kk : Z p l e R s m args below meth c Q D cy B kd n nL b0 cu (pc + 1) ls (.long (a - b) :: st) M x) : Z p l e R s m args below meth c Q D cy B kd n nL b0 cu (pc) ls (.long b :: .long a :: st) M x := by
  intro hx H locs lsA cells slots hc hs hH hS hl
  exact lv_lsub C.1 C.2.1 d (kk hx H locs lsA cells slots hc hs hH hS hl)
theorem z_lmul (C : zC p l s m args meth c D cy B kd n sa sv own cc nL) {a b : Int64} (d : decode cc pc = .ok (.lmul, 1))  (kk : Z p l e R s m args below meth c Q D cy B kd n nL b0 cu (pc + 1) ls (.long (a * b) :: st) M x) : Z p l e R s m args below meth c Q D cy B kd n nL b0 cu (pc) ls (.long b :: .long a :: st) M x := by
  intro hx H locs lsA cells slots hc hs hH hS hl
  exact lv_lmul C.1 C.2.1 d (kk hx H locs lsA cells slots hc hs hH hS hl)
theorem z_land (C : zC p l s m args meth c D cy B kd n sa sv own cc nL) {a b : Int64} (d : decode cc pc = .ok (.land, 1))  (kk : Z p l e R s m args below meth c Q D cy B kd n nL b0 cu (pc + 1) ls (.long (a &&& b) :: st) M x) : Z p l e R s m args below meth c Q D cy B kd n nL b0 cu (pc) ls (.long b :: .long a :: st) M x := by
  intro hx H locs lsA cells slots hc hs hH hS hl
  exact lv_land C.1 C.2.1 d (kk hx H locs lsA cells slots hc hs hH hS hl)
theorem z_lor (C : zC p l s m args meth c D cy B kd n sa sv own cc nL) {a b : Int64} (d : decode cc pc = .ok (.lor, 1))  (kk : Z p l e R s m args below meth c Q D cy B kd n nL b0 cu (pc + 1) ls (.long (a ||| b) :: st) M x) : Z p l e R s m args below meth c Q D cy B kd n nL b0 cu (pc) ls (.long b :: .long a :: st) M x := by
  intro hx H locs lsA cells slots hc hs hH hS hl
  exact lv_lor C.1 C.2.1 d (kk hx H locs lsA cells slots hc hs hH hS hl)
theorem z_lxor (C : zC p l s m args meth c D cy B kd n sa sv own cc nL) {a b : Int64} (d : decode cc pc = .ok (.lxor, 1))  (kk : Z p l e R s m args below meth c Q D cy B kd n nL b0 cu (pc + 1) ls (.long (a ^^^ b) :: st) M x) : Z p l e R s m args below meth c Q D cy B kd n nL b0 cu (pc) ls (.long b :: .long a :: st) M x := by
  intro hx H locs lsA cells slots hc hs hH hS hl
  exact lv_lxor C.1 C.2.1 d (kk hx H locs lsA cells slots hc hs hH hS hl)
theorem z_ineg (C : zC p l s m args meth c D cy B kd n sa sv own cc nL) {a : Int32} (d : decode cc pc = .ok (.ineg, 1))  (kk : Z p l e R s m args below meth c Q D cy B kd n nL b0 cu (pc + 1) ls (.int (-a) :: st) M x) : Z p l e R s m args below meth c Q D cy B kd n nL b0 cu (pc) ls (.int a :: st) M x := by
  intro hx H locs lsA cells slots hc hs hH hS hl
  exact lv_ineg C.1 C.2.1 d (kk hx H locs lsA cells slots hc hs hH hS hl)
end ZZ
