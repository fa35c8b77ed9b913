def hb {α β : Type} (y : Option ((Nat ⊕ α) × Mem)) (f : α → Mem → Option β) (g : Nat → Mem → Option β) : Option β := y.bind (fun b => match b.1 with | .inl k => g k b.2 | .inr v => f v b.2)
section ZH
variable {p : Program} {l : Launch} {e : Env} {R : Room} {s : State} {m : MethodId} {args : Array Value} {below : List Frame} {meth : Method} {c : Code} {Q : State → Prop}
variable {D : va_G} {cy : Nat → ClassId} {B : Nat} {kd : Nat → Nat} {n : Nat} {sa sv : Nat → Nat} {own : String} {cc : ByteArray} {nL : Nat}
variable {β : Type} {b0 : β} {cu pc : Nat} {ls : List (Nat × Value)} {st : List Value} {M : Mem} {x : Option β}
def ZX (p : Program) (l : Launch) (e : Env) (R : Room) (s : State) (m : MethodId) (args : Array Value) (below : List Frame) (meth : Method) (c : Code) (Q : State → Prop) (D : va_G) (cy : Nat → ClassId) (B : Nat) (kd : Nat → Nat) (n : Nat) (nL : Nat) {β : Type} (b0 : β) (cu code : Nat) (pc : Nat) (ls : List (Nat × Value)) (M : Mem) (x : Option β) : Prop :=
  x = some b0 → ∀ (H : Heap) (locs : List Loc) (lsA : Array Slot) (cells slots : Nat) (rest : List Value) (ce : Cell) (q9 : Addr), cells ≤ cu → slots ≤ 6 * cu → Sat D cy B kd n M H → va_S (AA B kd n) s.heap H locs → lv_has lsA nL ls → H[q9]? = some ce → ce.vm = .none → s.vm.findClass (exN code) = some ce.cls → vx_W p l e R s m args below meth c H locs cells slots Q (F0 m pc lsA rest) q9
theorem zx_ite {q : Prop} [Decidable q] {code : Nat} {x1 x2 : Option β} (k1 : q → ZX p l e R s m args below meth c Q D cy B kd n nL b0 (cu) (code) (pc) ls (M) (x1)) (k2 : ¬ q → ZX p l e R s m args below meth c Q D cy B kd n nL b0 (cu) (code) (pc) ls (M) (x2)) : ZX p l e R s m args below meth c Q D cy B kd n nL b0 (cu) (code) (pc) ls (M) (if q then x1 else x2) := by
  intro hx
  by_cases h : q
  · exact k1 h (by rw [if_pos h] at hx; exact hx)
  · exact k2 h (by rw [if_neg h] at hx; exact hx)
theorem zx_none {code : Nat} : ZX p l e R s m args below meth c Q D cy B kd n nL b0 (cu) (code) (pc) ls (M) (none) := by intro hx; cases hx
theorem zx_catch (C : zC p l s m args meth c D cy B kd n sa sv own cc nL) {hh : List (Nat × Nat × Nat × Nat)} {code : Nat} (htab : c.exceptionTable.toList = tableOf hh) (pre suf : List (Nat × Nat × Nat × Nat)) (x9 : Nat × Nat × Nat × Nat) (hs9 : hh = pre ++ x9 :: suf)
    (hpass : ∀ z ∈ pre, z.2.2.2 ≠ 0 ∧ ∃ code1 : Nat, Cond.classLink own z.2.2.2 (exN code1) ∈ GW ∧ (exN code, exN code1) ∈ NCl) (hcov : covers ⟨x9.1, x9.2.1, x9.2.2.1, x9.2.2.2⟩ pc = true) (h0 : x9.2.2.2 ≠ 0) (hlink : Cond.classLink own x9.2.2.2 (exN code) ∈ GW) (hcast : Cond.castable (exN code) (exN code) ∈ NW)
    (kk : ∀ q9 : Addr, Z p l e R s m args below meth c Q D cy B kd n nL b0 (cu) (x9.2.2.1) ls ([.ref q9]) (M) (x)) : ZX p l e R s m args below meth c Q D cy B kd n nL b0 (cu) (code) (pc) ls (M) (x) := by
  intro hx H locs lsA cells slots rest ce q9 hc hs hH hS hl h1 h2 h3
  have hG := C.2.2.2.2.1
  have hX := C.2.2.2.2.2.2.1
  refine vx_catch (name := exN code) C.2.2.2.1 (pre.map fun q => ⟨q.1, q.2.1, q.2.2.1, q.2.2.2⟩) ⟨x9.1, x9.2.1, x9.2.2.1, x9.2.2.2⟩ (suf.map fun q => ⟨q.1, q.2.1, q.2.2.1, q.2.2.2⟩) (by rw [htab, hs9, tableOf, List.map_append, List.map_cons]) (fun z hz => ?_) hcov h0 (hG _ hlink) (va_Nw.use rfl (hX.2.2.2.1 _ hcast)) h1 h2 h3 (kk q9 hx H locs lsA cells slots hc hs hH hS hl)
  obtain ⟨z9, hz9, rfl⟩ := List.mem_map.mp hz
  obtain ⟨g0, code1, g1, g2⟩ := hpass z9 hz9
  exact Or.inr ⟨g0, exN code1, hG _ g1, hX.2.2.2.2.1 _ g2⟩
theorem z_callC_I (C : zC p l s m args meth c D cy B kd n sa sv own cc nL) {idx lv k nL2 nA : Nat} {y : MethodName} {cc2 : ByteArray} {ret2 : Option FieldType} {As rest st0 : List Value} {Cn : String} {a K : Nat} {T : u_T} {N : Nat} {ty0 : Nat → FieldType} {y0 : Option ((Nat ⊕ Int32) × Mem)} {f : Int32 → Mem → Option β} {g : Nat → Mem → Option β} (hst : st0 = As.reverse ++ .ref (B + a) :: rest) (hct : CT l D cy B kd n sa sv lv k y cc2 nL2 ret2 (xIc) ((.ref (B + a) :: As)) M y0) (hw : ∀ w ∈ wV own idx Cn y cc2 nL2 ret2, w ∈ GW) (hy : y.cls = Cn) (hm : okM y nA) (hn : As.length = nA) (hcl : clOk K Cn T N ty0) (hk : kd a = K) (hR : okR R lv nL2 cu k) (hw8 : (rest.map fun v => v.category).sum ≤ 8) (d : decode cc pc = .ok (.invokevirtual idx, 3)) (kk : ∀ v M1, y0 = some (.inr v, M1) → Z p l e R s m args below meth c Q D cy B kd n nL b0 (cu + k) (pc + 3) ls (.int v :: rest) (M1) (f v M1)) (kx : ∀ code M1, y0 = some (.inl code, M1) → ZX p l e R s m args below meth c Q D cy B kd n nL b0 (cu + k) (code) (pc) ls (M1) (g code M1)) : Z p l e R s m args below meth c Q D cy B kd n nL b0 (cu) (pc) ls (st0) (M) (hb y0 f g) := by
  intro hx H locs lsA cells slots hc hs hH hS hl
  subst hst
  unfold hb at hx
  cases hb9 : y0 with
  | none => rw [hb9] at hx; cases hx
  | some b =>
    have hb := hb9
    rw [hb9, Option.bind_some] at hx
    obtain ⟨r, M1⟩ := b
    cases r with
    | inl kc =>
      refine z_after (run_V C (As := As) (rest := rest) hct hb hw hy hm hn hcl hk hR hc hs hH hS hl hw8 d) hS (fun code ce q9 H1 locs1 h hH1 hS1 hce hcv9 hcl9 => ?_) (fun v H1 locs1 h => by cases h)
      cases h
      exact kx kc M1 hb9 hx H1 locs1 lsA (cells + k) (slots + 6 * k) rest ce q9 (by omega) (by omega) hH1 hS1 hl hce hcv9 hcl9
    | inr v =>
      refine z_after (run_V C (As := As) (rest := rest) hct hb hw hy hm hn hcl hk hR hc hs hH hS hl hw8 d) hS (fun code ce q9 H1 locs1 h => by cases h) (fun v9 H1 locs1 h hH1 hS1 => ?_)
      cases h
      exact kk v M1 hb9 hx H1 locs1 lsA (cells + k) (slots + 6 * k) (by omega) (by omega) hH1 hS1 hl
theorem z_callC_B (C : zC p l s m args meth c D cy B kd n sa sv own cc nL) {idx lv k nL2 nA : Nat} {y : MethodName} {cc2 : ByteArray} {ret2 : Option FieldType} {As rest st0 : List Value} {Cn : String} {a K : Nat} {T : u_T} {N : Nat} {ty0 : Nat → FieldType} {y0 : Option ((Nat ⊕ Bool) × Mem)} {f : Bool → Mem → Option β} {g : Nat → Mem → Option β} (hst : st0 = As.reverse ++ .ref (B + a) :: rest) (hct : CT l D cy B kd n sa sv lv k y cc2 nL2 ret2 (xBc) ((.ref (B + a) :: As)) M y0) (hw : ∀ w ∈ wV own idx Cn y cc2 nL2 ret2, w ∈ GW) (hy : y.cls = Cn) (hm : okM y nA) (hn : As.length = nA) (hcl : clOk K Cn T N ty0) (hk : kd a = K) (hR : okR R lv nL2 cu k) (hw8 : (rest.map fun v => v.category).sum ≤ 8) (d : decode cc pc = .ok (.invokevirtual idx, 3)) (kk : ∀ v M1, y0 = some (.inr v, M1) → Z p l e R s m args below meth c Q D cy B kd n nL b0 (cu + k) (pc + 3) ls (.int (bI v) :: rest) (M1) (f v M1)) (kx : ∀ code M1, y0 = some (.inl code, M1) → ZX p l e R s m args below meth c Q D cy B kd n nL b0 (cu + k) (code) (pc) ls (M1) (g code M1)) : Z p l e R s m args below meth c Q D cy B kd n nL b0 (cu) (pc) ls (st0) (M) (hb y0 f g) := by
  intro hx H locs lsA cells slots hc hs hH hS hl
  subst hst
  unfold hb at hx
  cases hb9 : y0 with
  | none => rw [hb9] at hx; cases hx
  | some b =>
    have hb := hb9
    rw [hb9, Option.bind_some] at hx
    obtain ⟨r, M1⟩ := b
    cases r with
    | inl kc =>
      refine z_after (run_V C (As := As) (rest := rest) hct hb hw hy hm hn hcl hk hR hc hs hH hS hl hw8 d) hS (fun code ce q9 H1 locs1 h hH1 hS1 hce hcv9 hcl9 => ?_) (fun v H1 locs1 h => by cases h)
      cases h
      exact kx kc M1 hb9 hx H1 locs1 lsA (cells + k) (slots + 6 * k) rest ce q9 (by omega) (by omega) hH1 hS1 hl hce hcv9 hcl9
    | inr v =>
      refine z_after (run_V C (As := As) (rest := rest) hct hb hw hy hm hn hcl hk hR hc hs hH hS hl hw8 d) hS (fun code ce q9 H1 locs1 h => by cases h) (fun v9 H1 locs1 h hH1 hS1 => ?_)
      cases h
      exact kk v M1 hb9 hx H1 locs1 lsA (cells + k) (slots + 6 * k) (by omega) (by omega) hH1 hS1 hl
theorem z_callC_J (C : zC p l s m args meth c D cy B kd n sa sv own cc nL) {idx lv k nL2 nA : Nat} {y : MethodName} {cc2 : ByteArray} {ret2 : Option FieldType} {As rest st0 : List Value} {Cn : String} {a K : Nat} {T : u_T} {N : Nat} {ty0 : Nat → FieldType} {y0 : Option ((Nat ⊕ Int64) × Mem)} {f : Int64 → Mem → Option β} {g : Nat → Mem → Option β} (hst : st0 = As.reverse ++ .ref (B + a) :: rest) (hct : CT l D cy B kd n sa sv lv k y cc2 nL2 ret2 (xJc) ((.ref (B + a) :: As)) M y0) (hw : ∀ w ∈ wV own idx Cn y cc2 nL2 ret2, w ∈ GW) (hy : y.cls = Cn) (hm : okM y nA) (hn : As.length = nA) (hcl : clOk K Cn T N ty0) (hk : kd a = K) (hR : okR R lv nL2 cu k) (hw8 : (rest.map fun v => v.category).sum ≤ 8) (d : decode cc pc = .ok (.invokevirtual idx, 3)) (kk : ∀ v M1, y0 = some (.inr v, M1) → Z p l e R s m args below meth c Q D cy B kd n nL b0 (cu + k) (pc + 3) ls (.long v :: rest) (M1) (f v M1)) (kx : ∀ code M1, y0 = some (.inl code, M1) → ZX p l e R s m args below meth c Q D cy B kd n nL b0 (cu + k) (code) (pc) ls (M1) (g code M1)) : Z p l e R s m args below meth c Q D cy B kd n nL b0 (cu) (pc) ls (st0) (M) (hb y0 f g) := by
  intro hx H locs lsA cells slots hc hs hH hS hl
  subst hst
  unfold hb at hx
  cases hb9 : y0 with
  | none => rw [hb9] at hx; cases hx
  | some b =>
    have hb := hb9
    rw [hb9, Option.bind_some] at hx
    obtain ⟨r, M1⟩ := b
    cases r with
    | inl kc =>
      refine z_after (run_V C (As := As) (rest := rest) hct hb hw hy hm hn hcl hk hR hc hs hH hS hl hw8 d) hS (fun code ce q9 H1 locs1 h hH1 hS1 hce hcv9 hcl9 => ?_) (fun v H1 locs1 h => by cases h)
      cases h
      exact kx kc M1 hb9 hx H1 locs1 lsA (cells + k) (slots + 6 * k) rest ce q9 (by omega) (by omega) hH1 hS1 hl hce hcv9 hcl9
    | inr v =>
      refine z_after (run_V C (As := As) (rest := rest) hct hb hw hy hm hn hcl hk hR hc hs hH hS hl hw8 d) hS (fun code ce q9 H1 locs1 h => by cases h) (fun v9 H1 locs1 h hH1 hS1 => ?_)
      cases h
      exact kk v M1 hb9 hx H1 locs1 lsA (cells + k) (slots + 6 * k) (by omega) (by omega) hH1 hS1 hl
theorem z_callC_V (C : zC p l s m args meth c D cy B kd n sa sv own cc nL) {idx lv k nL2 nA : Nat} {y : MethodName} {cc2 : ByteArray} {ret2 : Option FieldType} {As rest st0 : List Value} {Cn : String} {a K : Nat} {T : u_T} {N : Nat} {ty0 : Nat → FieldType} {y0 : Option ((Nat ⊕ Unit) × Mem)} {f : Unit → Mem → Option β} {g : Nat → Mem → Option β} (hst : st0 = As.reverse ++ .ref (B + a) :: rest) (hct : CT l D cy B kd n sa sv lv k y cc2 nL2 ret2 (xVc) ((.ref (B + a) :: As)) M y0) (hw : ∀ w ∈ wV own idx Cn y cc2 nL2 ret2, w ∈ GW) (hy : y.cls = Cn) (hm : okM y nA) (hn : As.length = nA) (hcl : clOk K Cn T N ty0) (hk : kd a = K) (hR : okR R lv nL2 cu k) (hw8 : (rest.map fun v => v.category).sum ≤ 8) (d : decode cc pc = .ok (.invokevirtual idx, 3)) (kk : ∀ v M1, y0 = some (.inr v, M1) → Z p l e R s m args below meth c Q D cy B kd n nL b0 (cu + k) (pc + 3) ls (rest) (M1) (f v M1)) (kx : ∀ code M1, y0 = some (.inl code, M1) → ZX p l e R s m args below meth c Q D cy B kd n nL b0 (cu + k) (code) (pc) ls (M1) (g code M1)) : Z p l e R s m args below meth c Q D cy B kd n nL b0 (cu) (pc) ls (st0) (M) (hb y0 f g) := by
  intro hx H locs lsA cells slots hc hs hH hS hl
  subst hst
  unfold hb at hx
  cases hb9 : y0 with
  | none => rw [hb9] at hx; cases hx
  | some b =>
    have hb := hb9
    rw [hb9, Option.bind_some] at hx
    obtain ⟨r, M1⟩ := b
    cases r with
    | inl kc =>
      refine z_after (run_V C (As := As) (rest := rest) hct hb hw hy hm hn hcl hk hR hc hs hH hS hl hw8 d) hS (fun code ce q9 H1 locs1 h hH1 hS1 hce hcv9 hcl9 => ?_) (fun v H1 locs1 h => by cases h)
      cases h
      exact kx kc M1 hb9 hx H1 locs1 lsA (cells + k) (slots + 6 * k) rest ce q9 (by omega) (by omega) hH1 hS1 hl hce hcv9 hcl9
    | inr v =>
      refine z_after (run_V C (As := As) (rest := rest) hct hb hw hy hm hn hcl hk hR hc hs hH hS hl hw8 d) hS (fun code ce q9 H1 locs1 h => by cases h) (fun v9 H1 locs1 h hH1 hS1 => ?_)
      cases h
      exact kk v M1 hb9 hx H1 locs1 lsA (cells + k) (slots + 6 * k) (by omega) (by omega) hH1 hS1 hl
/-- what a method with a table of its own says -/
def CTH (l : Launch) (D : va_G) (cy : Nat → ClassId) (B : Nat) (kd : Nat → Nat) (n : Nat) (sa sv : Nat → Nat) (lv k : Nat) (y : MethodName) (cc : ByteArray) (nL : Nat) (ret : Option FieldType) (hh : List (Nat × Nat × Nat × Nat)) {β : Type} (cv : β → Res) (av : List Value) (M : Mem) (x : Option β) : Prop :=
  ∀ b, x = some b → vx_Met l y (Cond.codeWith y cc nL ret hh :: GW) (rmz lv k) (fun v U => v = av.toArray ∧ Sat D cy B kd n M U.heap ∧ CX D cy B kd n sa sv U) (QcR D cy B kd n (cv b)) (XcR D cy B kd n (cv b)) k (6 * k) (AA B kd n)
theorem ct_ofH {lv k : Nat} {y : MethodName} {ret : Option FieldType} {cv : β → Res} {av : List Value} {hh : List (Nat × Nat × Nat × Nat)} (hy : plainName y.cls = true) (hkd : kOk kd n) (hst : l.stackTraces = false) (hle : (lg_sl av).length ≤ nL) (hls : lv_args 0 av = ls)
    (body : ∀ (p : Program) (e : Env) (s : State) (m : MethodId) (args : Array Value) (below : List Frame) (meth : Method) (c : Code) (b : β), zC p l s m args meth c D cy B kd n sa sv y.cls cc nL → c.exceptionTable.toList = tableOf hh → meth.sig.returnType = ret → Z p l e (rmz lv k) s m args below meth c (vx_MQ below (QcR D cy B kd n (cv b)) (XcR D cy B kd n (cv b)) args s k (6 * k) (AA B kd n)) D cy B kd n nL b 0 0 ls [] M x) :
    CTH l D cy B kd n sa sv lv k y cc nL ret hh cv av M x := by
  intro b hb
  refine vx_ofWH hy rfl ?_
  intro p e s m args below meth c s1 Bd hml hP
  obtain ⟨rfl, hSat, hCX⟩ := hP
  have hown : s.vm.findClass y.cls = some m.cls := findClass_of_methodNamed Bd.named
  have hts9 := atoms_spec (ws := Cond.codeWith y cc nL ret hh :: GW) Bd.pre
  have hts : ∀ w ∈ GW, w.before av.toArray s = true := fun w hw => hts9 w (List.mem_cons_of_mem _ hw)
  have htab : c.exceptionTable.toList = tableOf hh := vx_table (x := y) Bd (hts9 _ List.mem_cons_self)
  have key := body p e s m av.toArray below meth c b ⟨Bd.exec, Bd.bytes, hml, hown, hts, hkd, hCX, hst, Bd.notSynchronized⟩ htab Bd.returns hb s.heap [] ((lg_sl av ++ List.replicate (nL - (lg_sl av).length) Slot.unset).toArray) 0 0 (Nat.le_refl _) (Nat.zero_le _) hSat va_S.rf (by rw [← hls]; exact lv_entry av hle)
  rw [lg_entry_eq]
  exact key
def wSH (own : String) (idx : Nat) (y : MethodName) (cc : ByteArray) (nL : Nat) (ret : Option FieldType) (hh : List (Nat × Nat × Nat × Nat)) : List Cond := [.methodLink own idx y, .static y, .initialized y.cls, .codeWith y cc nL ret hh]
theorem met_of_vx {y : MethodName} {ws : List Cond} {rm : Room} {Pc : Array Value → State → Prop} {Qc : Array Value → State → Outcome → State → Prop} {XC : String → State → State → Prop} {mc ms : Nat} {free : Addr → Prop} (h : vx_Met l y ws rm Pc Qc XC mc ms free) (hX : ∀ E st t, ¬ XC E st t) : Met l y ws rm Pc Qc mc ms free := by
  intro p e ha hc hk s m args below hf happ hp hK
  obtain ⟨k, o, h1, h2, h3, h4⟩ := h p e ha hc hk s m args below hf happ hp hK
  refine ⟨k, o, h1, h2, h3, ?_⟩
  rcases h4 with h4 | ⟨q, -, E, ce, L, hxc, -⟩
  · exact h4
  · exact absurd hxc (hX _ _ _)
theorem z_callSH_I (C : zC p l s m args meth c D cy B kd n sa sv own cc nL) {idx lv k nL2 nA : Nat} {y : MethodName} {cc2 : ByteArray} {ret2 : Option FieldType} {hh : List (Nat × Nat × Nat × Nat)} {As rest st0 : List Value} {y0 : Option (Int32 × Mem)} {f : Int32 × Mem → Option β} (hst : st0 = As.reverse ++ rest) (hct : CTH l D cy B kd n sa sv lv k y cc2 nL2 ret2 hh cvI As M y0) (hw : ∀ w ∈ wSH own idx y cc2 nL2 ret2 hh, w ∈ GW) (hm : okM y nA) (hn : As.length = nA) (hR : okR R lv nL2 cu k) (hw8 : (rest.map fun v => v.category).sum ≤ 8) (d : decode cc pc = .ok (.invokestatic idx, 3)) (kk : ∀ b, y0 = some b → Z p l e R s m args below meth c Q D cy B kd n nL b0 (cu + k) (pc + 3) ls (.int b.1 :: rest) (b.2) (f b)) : Z p l e R s m args below meth c Q D cy B kd n nL b0 (cu) (pc) ls (st0) (M) (y0.bind f) := by
  intro hx H locs lsA cells slots hc hs hH hS hl
  subst hst
  cases hb : y0 with
  | none => rw [hb] at hx; cases hx
  | some b =>
    rw [hb, Option.bind_some] at hx
    obtain ⟨r1, r2, r3, r4⟩ := hR
    have hM := met_of_vx (hct b hb) (fun E st t h => by obtain ⟨k9, h9, -⟩ := h; cases h9)
    have hr := vx_runSW (H := H) (locs := locs) (cells := cells) (slots := slots) (rest := rest) (g := F0 m pc lsA (As.reverse ++ rest)) (Ts := GW) (hh := hh) (ret := ret2) (maxL := nL2) (bytes := cc2) (n := nA) (nL := nL) (cc := cc) (own := own) (index := idx) (p := p) (c := c) (R := R) (e := e) (below := below) (meth := meth) ⟨C.1, C.2.1, C.2.2.1, C.2.2.2.1, C.2.2.2.2.1⟩ hM (vx_cwSW nA C.2.2.2.2.1 (ws' := GW) (gw_good fun w hw9 => ?_) rfl rfl rfl ⟨hm.1, hm.2.1, hm.2.2⟩ ⟨by show 12 + lv + 1 ≤ _; omega, by show 8 + (nL2 + 11) + (300 + 40 * lv) ≤ _; omega⟩) (pre_of C hH hS) rfl hn hl.1 rfl (lv_room hw8) d ⟨by omega, by omega⟩
    · refine z_after (r := cvI b) (av := As.toArray) (k := k) (fun T hT X => Or.inl (hr T hT X)) hS (fun code ce q9 H1 locs1 h => by cases h) (fun v H1 locs1 h hH1 hS1 => ?_)
      cases h
      exact kk b hb hx H1 locs1 lsA (cells + k) (slots + 6 * k) (by omega) (by omega) hH1 hS1 hl
    · rcases List.mem_append.mp hw9 with q | q
      · exact hw w (by simp only [wSH, List.mem_cons, List.not_mem_nil, or_false] at q ⊢; rcases q with q | q | q <;> simp [q])
      · rcases List.mem_cons.mp q with q | q
        · exact hw w (by rw [q]; simp [wSH])
        · exact q
end ZH
