section Z9A
variable {p : Program} {l : Launch} {e : Env} {R : Room} {s : State} {m : MethodId} {args : Array Value} {below : List Frame} {meth : Method} {c : Code} {H : Heap} {locs : List Loc} {cells slots : Nat}
variable {y : MethodName} {bytes cc : ByteArray} {maxL nL mc ms n index : Nat} {ret : Option FieldType} {ws : List Cond} {rm : Room} {Pc : Array Value → State → Prop} {Qc : Array Value → State → Outcome → State → Prop} {XC : String → State → State → Prop} {free : Addr → Prop} {Ts : List Cond} {own C : String} {b : Addr} {As rest : List Value} {g : JFrame}
theorem vx_runV9 (S : CallFix p m c cc nL s args Ts own) (hM : vx_Met l y ws rm Pc Qc XC mc ms free) (cw : CallW R s args own C index y bytes maxL ret ws rm mc ms n) (hp : PreV s H C b Pc As)
    (hg : g.method = m) (hn : As.length = n) (hsize : g.locals.size = nL) (hstack : g.stack = As.reverse ++ .ref b :: rest) (hW : 2 * g.monitorRoom + (rest.map fun v => v.category).sum ≤ 9) (h9 : 9 + (maxL + 11) + rm.locals ≤ R.locals) (hdg : decode cc g.pc = .ok (.invokevirtual index, 3)) (hf : cells + mc ≤ R.cells ∧ slots + ms ≤ R.slots) :
    vx_Run p l e R s m args below meth c H locs cells slots mc ms g rest (Qc (Value.ref b :: As).toArray) XC free := by
  have hK : vx_Back l R p e below s args y 3 9 (PreOf R mc ms Pc) (PostOf Qc mc ms free) (vx_Post XC mc ms free) := by
    obtain ⟨hrc, hrs, hfr, -, hws, hcw, -, hini, -⟩ := cw.1
    exact vx_back (bytes := bytes) (maxL := maxL) (ret := ret) hM hp.1 hrc hrs hfr h9 hws hcw (fun a' U hW => word_at hW (Or.inl (by first | rfl | simp [Cond.onTables, Cond.keeps, Cond.steady])) hini)
  obtain ⟨⟨-, -, -, -, -, -, hcode, -, hy, hlen, hl⟩, hin, hse⟩ := cw
  obtain ⟨hx, hb, hml, ho, -⟩ := S
  obtain ⟨-, ⟨cellB, hcB, hoB, hclB⟩, hPc⟩ := hp
  intro T hT X
  rcases vx_callV X hx (C := C) (bytes := bytes) (maxL := maxL) (ret := ret) ho hl hin hse hcode hy hK (by rw [hT]; exact hcB) hoB hclB hg (hsize.trans hml.symm) (argsL := As) (rest := rest) (fun sig h => hn.trans (hlen sig h)) hstack hW (by rw [hb]; exact hdg)
    (fun vm₁ hW₁ => ⟨hf.1, hf.2, hPc (T.setVm vm₁) hT hW₁⟩) with ⟨v, vm₁, ⟨U', l2, c2, s2⟩, hW₁, X', ⟨g', mk, t, L, e1, e2, hq, h1, hL, h2, h3⟩, st⟩ | ⟨q, vm₁, ⟨U', l2, c2, s2⟩, hW₁, X', ⟨g', mk, t, L, E, ce, e1, e2, hq, hce, hcv, hcl, h1, hL, h2, h3⟩, st⟩
  · dsimp only [Pt.U, Pt.locs, Pt.cells, Pt.slots] at X' e1 e2 h1 h2 h3 st
    subst h1; subst h2; subst h3
    exact Or.inl ⟨v, (T.setVm vm₁).calling g' mk (Value.ref b :: As).toArray, t, U', L, hT, X', hL, e1, e2, hq, st⟩
  · dsimp only [Pt.U, Pt.locs, Pt.cells, Pt.slots] at X' e1 e2 h1 h2 h3 st hcl
    subst h1; subst h2; subst h3
    exact Or.inr ⟨q, (T.setVm vm₁).calling g' mk (Value.ref b :: As).toArray, t, U', L, E, ce, hT, X', hL, e1, e2, hq, hce, hcv, vx_cls hW₁ hcl, st⟩
end Z9A
section Z9B
variable {p : Program} {l : Launch} {e : Env} {R : Room} {s : State} {m : MethodId} {args : Array Value} {below : List Frame} {meth : Method} {c : Code} {Q : State → Prop}
variable {D : va_G} {cy : Nat → ClassId} {B : Nat} {kd : Nat → Nat} {n : Nat} {sa sv : Nat → Nat} {own : String} {cc : ByteArray} {nL : Nat}
variable {β : Type} {b0 : β} {cu pc : Nat} {ls : List (Nat × Value)} {st : List Value} {M : Mem} {x : Option β}
theorem lv_room9 {m : MethodId} {pc : Nat} {ls : Array Slot} {rest st : List Value} (h : (st.map fun v => v.category).sum ≤ 9) : 2 * (F0 m pc ls rest).monitorRoom + (st.map fun v => v.category).sum ≤ 9 := by
  show 2 * 0 + _ ≤ 9
  omega
theorem run_V9 (C : zC p l s m args meth c D cy B kd n sa sv own cc nL) {H : Heap} {locs : List Loc} {lsA : Array Slot} {cells slots : Nat} {Cn : String} {idx lv k nL2 nA : Nat} {y : MethodName} {cc2 : ByteArray} {ret2 : Option FieldType} {γ : Type} {cv2 : γ → Res} {y0 : Option γ} {As rest : List Value} {a K : Nat} {T : u_T} {N : Nat} {ty0 : Nat → FieldType} {b : γ} (hct : CT l D cy B kd n sa sv lv k y cc2 nL2 ret2 cv2 (.ref (B + a) :: As) M y0) (hb : y0 = some b) (hw : ∀ w ∈ wV own idx Cn y cc2 nL2 ret2, w ∈ GW) (hy : y.cls = Cn) (hm : okM y nA) (hn : As.length = nA) (hcl : clOk K Cn T N ty0) (hk : kd a = K) (hR : okR R lv nL2 cu k) (hc : cells ≤ cu) (hs : slots ≤ 6 * cu) (hH : Sat D cy B kd n M H) (hS : va_S (AA B kd n) s.heap H locs) (hl : lv_has lsA nL ls) (hw8 : (rest.map fun v => v.category).sum ≤ 9) (h9 : 9 + (nL2 + 11) + (300 + 40 * lv) ≤ R.locals) (d : decode cc pc = .ok (.invokevirtual idx, 3)) :
    vx_Run p l e R s m args below meth c H locs cells slots k (6 * k) (F0 m pc lsA (As.reverse ++ .ref (B + a) :: rest)) rest (QcR D cy B kd n (cv2 b) (Value.ref (B + a) :: As).toArray) (XcR D cy B kd n (cv2 b)) (AA B kd n) := by
  obtain ⟨r1, r2, r3, r4⟩ := hR
  refine vx_runV9 (Ts := GW) (C := Cn) (ret := ret2) (maxL := nL2) (bytes := cc2) (n := nA) ⟨C.1, C.2.1, C.2.2.1, C.2.2.2.1, C.2.2.2.2.1⟩ (hct b hb) ?_ ⟨(pre_of C hH hS).1, zrecv C hH hcl hk, (pre_of C hH hS).2⟩ rfl hn hl.1 rfl (lv_room9 hw8) h9 d ⟨by omega, by omega⟩
  refine cwV nA C.2.2.2.2.1 (ws' := GW) ?_ rfl rfl rfl ⟨hy, hm.1, hm.2.1, hm.2.2⟩ ⟨by show 12 + lv + 1 ≤ _; omega, by show 8 + (nL2 + 11) + (300 + 40 * lv) ≤ _; omega⟩
  refine gw_good fun w hw9 => ?_
  rcases List.mem_append.mp hw9 with q | q
  · exact hw w (by simp only [wV, List.mem_cons, List.not_mem_nil, or_false] at q ⊢; rcases q with q | q | q | q <;> simp [q])
  · rcases List.mem_cons.mp q with q | q
    · exact hw w (by rw [q]; simp [wV])
    · exact q
theorem z_callV9_pI (C : zC p l s m args meth c D cy B kd n sa sv own cc nL) {idx lv k nL2 nA : Nat} {y : MethodName} {cc2 : ByteArray} {ret2 : Option FieldType} {As rest st0 : List Value} {Cn : String} {a K : Nat} {T : u_T} {N : Nat} {ty0 : Nat → FieldType} {y0 : Option (Int32)} {f : (Int32) → Option β} (hst : st0 = As.reverse ++ .ref (B + a) :: rest) (hct : CT l D cy B kd n sa sv lv k y cc2 nL2 ret2 (pI M) ((.ref (B + a) :: As)) M y0) (hw : ∀ w ∈ wV own idx Cn y cc2 nL2 ret2, w ∈ GW) (hy : y.cls = Cn) (hm : okM y nA) (hn : As.length = nA) (hcl : clOk K Cn T N ty0) (hk : kd a = K) (hR : okR R lv nL2 cu k) (hw8 : (rest.map fun v => v.category).sum ≤ 9) (h9 : 9 + (nL2 + 11) + (300 + 40 * lv) ≤ R.locals) (d : decode cc pc = .ok (.invokevirtual idx, 3)) (kk : ∀ b, y0 = some b → Z p l e R s m args below meth c Q D cy B kd n nL b0 (cu + k) (pc + 3) ls (.int b :: rest) (M) (f b)) : Z p l e R s m args below meth c Q D cy B kd n nL b0 (cu) (pc) ls (st0) (M) (y0.bind f) := by
  intro hx H locs lsA cells slots hc hs hH hS hl
  subst hst
  cases hb : y0 with
  | none => rw [hb] at hx; cases hx
  | some b =>
    rw [hb, Option.bind_some] at hx
    refine z_after (run_V9 C (As := As) (rest := rest) hct hb hw hy hm hn hcl hk hR hc hs hH hS hl hw8 h9 d) hS (fun code ce q9 H1 locs1 h => by cases h) (fun v H1 locs1 h hH1 hS1 => ?_)
    cases h
    exact kk b hb hx H1 locs1 lsA (cells + k) (slots + 6 * k) (by omega) (by omega) hH1 hS1 hl
end Z9B
