section ZZ
variable {p : Program} {l : Launch} {e : Env} {R : Room} {s : State} {m : MethodId} {args : Array Value} {below : List Frame} {meth : Method} {c : Code} {Q : State → Prop}
variable {D : va_G} {cy : Nat → ClassId} {B : Nat} {kd : Nat → Nat} {n : Nat} {sa sv : Nat → Nat} {own : String} {cc : ByteArray} {nL : Nat}
variable {β : Type} {b0 : β} {cu pc : Nat} {ls : List (Nat × Value)} {st : List Value} {M : Mem} {x : Option β}
theorem z_callV_I (C : zC p l s m args meth c D cy B kd n sa sv own cc nL) {idx lv k nL2 nA : Nat} {y : MethodName} {cc2 : ByteArray} {ret2 : Option FieldType} {As rest st0 : List Value} {Cn : String} {a K : Nat} {T : u_T} {N : Nat} {ty0 : Nat → FieldType} {y0 : Option (Int32 × Mem)} {f : (Int32 × Mem) → Option β} (hst : st0 = As.reverse ++ .ref (B + a) :: rest) (hct : CT l D cy B kd n sa sv lv k y cc2 nL2 ret2 (cvI) ((.ref (B + a) :: As)) M y0) (hw : ∀ w ∈ wV own idx Cn y cc2 nL2 ret2, w ∈ GW) (hy : y.cls = Cn) (hm : okM y nA) (hn : As.length = nA) (hcl : clOk K Cn T N ty0) (hk : kd a = K) (hR : okR R lv nL2 cu k) (hw8 : (rest.map fun v => v.category).sum ≤ 8) (d : decode cc pc = .ok (.invokevirtual idx, 3)) (kk : ∀ b, y0 = some b → Z p l e R s m args below meth c Q D cy B kd n nL b0 (cu + k) (pc + 3) ls (.int b.1 :: rest) (b.2) (f b)) : Z p l e R s m args below meth c Q D cy B kd n nL b0 (cu) (pc) ls (st0) (M) (y0.bind f) := by
  intro hx H locs lsA cells slots hc hs hH hS hl
  subst hst
  cases hb : y0 with
  | none => rw [hb] at hx; cases hx
  | some b =>
    rw [hb, Option.bind_some] at hx
    refine z_after (run_V C (As := As) (rest := rest) hct hb hw hy hm hn hcl hk hR hc hs hH hS hl hw8 d) hS (fun code ce q9 H1 locs1 h => by cases h) (fun v H1 locs1 h hH1 hS1 => ?_)
    cases h
    exact kk b hb hx H1 locs1 lsA (cells + k) (slots + 6 * k) (by omega) (by omega) hH1 hS1 hl
theorem z_callV_B (C : zC p l s m args meth c D cy B kd n sa sv own cc nL) {idx lv k nL2 nA : Nat} {y : MethodName} {cc2 : ByteArray} {ret2 : Option FieldType} {As rest st0 : List Value} {Cn : String} {a K : Nat} {T : u_T} {N : Nat} {ty0 : Nat → FieldType} {y0 : Option (Bool × Mem)} {f : (Bool × Mem) → Option β} (hst : st0 = As.reverse ++ .ref (B + a) :: rest) (hct : CT l D cy B kd n sa sv lv k y cc2 nL2 ret2 (cvB) ((.ref (B + a) :: As)) M y0) (hw : ∀ w ∈ wV own idx Cn y cc2 nL2 ret2, w ∈ GW) (hy : y.cls = Cn) (hm : okM y nA) (hn : As.length = nA) (hcl : clOk K Cn T N ty0) (hk : kd a = K) (hR : okR R lv nL2 cu k) (hw8 : (rest.map fun v => v.category).sum ≤ 8) (d : decode cc pc = .ok (.invokevirtual idx, 3)) (kk : ∀ b, y0 = some b → Z p l e R s m args below meth c Q D cy B kd n nL b0 (cu + k) (pc + 3) ls (.int (bI b.1) :: rest) (b.2) (f b)) : Z p l e R s m args below meth c Q D cy B kd n nL b0 (cu) (pc) ls (st0) (M) (y0.bind f) := by
  intro hx H locs lsA cells slots hc hs hH hS hl
  subst hst
  cases hb : y0 with
  | none => rw [hb] at hx; cases hx
  | some b =>
    rw [hb, Option.bind_some] at hx
    refine z_after (run_V C (As := As) (rest := rest) hct hb hw hy hm hn hcl hk hR hc hs hH hS hl hw8 d) hS (fun code ce q9 H1 locs1 h => by cases h) (fun v H1 locs1 h hH1 hS1 => ?_)
    cases h
    exact kk b hb hx H1 locs1 lsA (cells + k) (slots + 6 * k) (by omega) (by omega) hH1 hS1 hl
theorem z_callV_J (C : zC p l s m args meth c D cy B kd n sa sv own cc nL) {idx lv k nL2 nA : Nat} {y : MethodName} {cc2 : ByteArray} {ret2 : Option FieldType} {As rest st0 : List Value} {Cn : String} {a K : Nat} {T : u_T} {N : Nat} {ty0 : Nat → FieldType} {y0 : Option (Int64 × Mem)} {f : (Int64 × Mem) → Option β} (hst : st0 = As.reverse ++ .ref (B + a) :: rest) (hct : CT l D cy B kd n sa sv lv k y cc2 nL2 ret2 (cvJ) ((.ref (B + a) :: As)) M y0) (hw : ∀ w ∈ wV own idx Cn y cc2 nL2 ret2, w ∈ GW) (hy : y.cls = Cn) (hm : okM y nA) (hn : As.length = nA) (hcl : clOk K Cn T N ty0) (hk : kd a = K) (hR : okR R lv nL2 cu k) (hw8 : (rest.map fun v => v.category).sum ≤ 8) (d : decode cc pc = .ok (.invokevirtual idx, 3)) (kk : ∀ b, y0 = some b → Z p l e R s m args below meth c Q D cy B kd n nL b0 (cu + k) (pc + 3) ls (.long b.1 :: rest) (b.2) (f b)) : Z p l e R s m args below meth c Q D cy B kd n nL b0 (cu) (pc) ls (st0) (M) (y0.bind f) := by
  intro hx H locs lsA cells slots hc hs hH hS hl
  subst hst
  cases hb : y0 with
  | none => rw [hb] at hx; cases hx
  | some b =>
    rw [hb, Option.bind_some] at hx
    refine z_after (run_V C (As := As) (rest := rest) hct hb hw hy hm hn hcl hk hR hc hs hH hS hl hw8 d) hS (fun code ce q9 H1 locs1 h => by cases h) (fun v H1 locs1 h hH1 hS1 => ?_)
    cases h
    exact kk b hb hx H1 locs1 lsA (cells + k) (slots + 6 * k) (by omega) (by omega) hH1 hS1 hl
theorem z_callV_A (C : zC p l s m args meth c D cy B kd n sa sv own cc nL) {idx lv k nL2 nA : Nat} {y : MethodName} {cc2 : ByteArray} {ret2 : Option FieldType} {As rest st0 : List Value} {Cn : String} {a K : Nat} {T : u_T} {N : Nat} {ty0 : Nat → FieldType} {y0 : Option (Nat × Mem)} {f : (Nat × Mem) → Option β} (hst : st0 = As.reverse ++ .ref (B + a) :: rest) (hct : CT l D cy B kd n sa sv lv k y cc2 nL2 ret2 (cvA B) ((.ref (B + a) :: As)) M y0) (hw : ∀ w ∈ wV own idx Cn y cc2 nL2 ret2, w ∈ GW) (hy : y.cls = Cn) (hm : okM y nA) (hn : As.length = nA) (hcl : clOk K Cn T N ty0) (hk : kd a = K) (hR : okR R lv nL2 cu k) (hw8 : (rest.map fun v => v.category).sum ≤ 8) (d : decode cc pc = .ok (.invokevirtual idx, 3)) (kk : ∀ b, y0 = some b → Z p l e R s m args below meth c Q D cy B kd n nL b0 (cu + k) (pc + 3) ls (.ref (B + b.1) :: rest) (b.2) (f b)) : Z p l e R s m args below meth c Q D cy B kd n nL b0 (cu) (pc) ls (st0) (M) (y0.bind f) := by
  intro hx H locs lsA cells slots hc hs hH hS hl
  subst hst
  cases hb : y0 with
  | none => rw [hb] at hx; cases hx
  | some b =>
    rw [hb, Option.bind_some] at hx
    refine z_after (run_V C (As := As) (rest := rest) hct hb hw hy hm hn hcl hk hR hc hs hH hS hl hw8 d) hS (fun code ce q9 H1 locs1 h => by cases h) (fun v H1 locs1 h hH1 hS1 => ?_)
    cases h
    exact kk b hb hx H1 locs1 lsA (cells + k) (slots + 6 * k) (by omega) (by omega) hH1 hS1 hl
theorem z_callV_V (C : zC p l s m args meth c D cy B kd n sa sv own cc nL) {idx lv k nL2 nA : Nat} {y : MethodName} {cc2 : ByteArray} {ret2 : Option FieldType} {As rest st0 : List Value} {Cn : String} {a K : Nat} {T : u_T} {N : Nat} {ty0 : Nat → FieldType} {y0 : Option (Mem)} {f : (Mem) → Option β} (hst : st0 = As.reverse ++ .ref (B + a) :: rest) (hct : CT l D cy B kd n sa sv lv k y cc2 nL2 ret2 (cvV) ((.ref (B + a) :: As)) M y0) (hw : ∀ w ∈ wV own idx Cn y cc2 nL2 ret2, w ∈ GW) (hy : y.cls = Cn) (hm : okM y nA) (hn : As.length = nA) (hcl : clOk K Cn T N ty0) (hk : kd a = K) (hR : okR R lv nL2 cu k) (hw8 : (rest.map fun v => v.category).sum ≤ 8) (d : decode cc pc = .ok (.invokevirtual idx, 3)) (kk : ∀ b, y0 = some b → Z p l e R s m args below meth c Q D cy B kd n nL b0 (cu + k) (pc + 3) ls (rest) (b) (f b)) : Z p l e R s m args below meth c Q D cy B kd n nL b0 (cu) (pc) ls (st0) (M) (y0.bind f) := by
  intro hx H locs lsA cells slots hc hs hH hS hl
  subst hst
  cases hb : y0 with
  | none => rw [hb] at hx; cases hx
  | some b =>
    rw [hb, Option.bind_some] at hx
    refine z_after (run_V C (As := As) (rest := rest) hct hb hw hy hm hn hcl hk hR hc hs hH hS hl hw8 d) hS (fun code ce q9 H1 locs1 h => by cases h) (fun v H1 locs1 h hH1 hS1 => ?_)
    cases h
    exact kk b hb hx H1 locs1 lsA (cells + k) (slots + 6 * k) (by omega) (by omega) hH1 hS1 hl
theorem z_callV_pI (C : zC p l s m args meth c D cy B kd n sa sv own cc nL) {idx lv k nL2 nA : Nat} {y : MethodName} {cc2 : ByteArray} {ret2 : Option FieldType} {As rest st0 : List Value} {Cn : String} {a K : Nat} {T : u_T} {N : Nat} {ty0 : Nat → FieldType} {y0 : Option (Int32)} {f : (Int32) → Option β} (hst : st0 = As.reverse ++ .ref (B + a) :: rest) (hct : CT l D cy B kd n sa sv lv k y cc2 nL2 ret2 (pI M) ((.ref (B + a) :: As)) M y0) (hw : ∀ w ∈ wV own idx Cn y cc2 nL2 ret2, w ∈ GW) (hy : y.cls = Cn) (hm : okM y nA) (hn : As.length = nA) (hcl : clOk K Cn T N ty0) (hk : kd a = K) (hR : okR R lv nL2 cu k) (hw8 : (rest.map fun v => v.category).sum ≤ 8) (d : decode cc pc = .ok (.invokevirtual idx, 3)) (kk : ∀ b, y0 = some b → Z p l e R s m args below meth c Q D cy B kd n nL b0 (cu + k) (pc + 3) ls (.int b :: rest) (M) (f b)) : Z p l e R s m args below meth c Q D cy B kd n nL b0 (cu) (pc) ls (st0) (M) (y0.bind f) := by
  intro hx H locs lsA cells slots hc hs hH hS hl
  subst hst
  cases hb : y0 with
  | none => rw [hb] at hx; cases hx
  | some b =>
    rw [hb, Option.bind_some] at hx
    refine z_after (run_V C (As := As) (rest := rest) hct hb hw hy hm hn hcl hk hR hc hs hH hS hl hw8 d) hS (fun code ce q9 H1 locs1 h => by cases h) (fun v H1 locs1 h hH1 hS1 => ?_)
    cases h
    exact kk b hb hx H1 locs1 lsA (cells + k) (slots + 6 * k) (by omega) (by omega) hH1 hS1 hl
theorem z_callV_pB (C : zC p l s m args meth c D cy B kd n sa sv own cc nL) {idx lv k nL2 nA : Nat} {y : MethodName} {cc2 : ByteArray} {ret2 : Option FieldType} {As rest st0 : List Value} {Cn : String} {a K : Nat} {T : u_T} {N : Nat} {ty0 : Nat → FieldType} {y0 : Option (Bool)} {f : (Bool) → Option β} (hst : st0 = As.reverse ++ .ref (B + a) :: rest) (hct : CT l D cy B kd n sa sv lv k y cc2 nL2 ret2 (pB M) ((.ref (B + a) :: As)) M y0) (hw : ∀ w ∈ wV own idx Cn y cc2 nL2 ret2, w ∈ GW) (hy : y.cls = Cn) (hm : okM y nA) (hn : As.length = nA) (hcl : clOk K Cn T N ty0) (hk : kd a = K) (hR : okR R lv nL2 cu k) (hw8 : (rest.map fun v => v.category).sum ≤ 8) (d : decode cc pc = .ok (.invokevirtual idx, 3)) (kk : ∀ b, y0 = some b → Z p l e R s m args below meth c Q D cy B kd n nL b0 (cu + k) (pc + 3) ls (.int (bI b) :: rest) (M) (f b)) : Z p l e R s m args below meth c Q D cy B kd n nL b0 (cu) (pc) ls (st0) (M) (y0.bind f) := by
  intro hx H locs lsA cells slots hc hs hH hS hl
  subst hst
  cases hb : y0 with
  | none => rw [hb] at hx; cases hx
  | some b =>
    rw [hb, Option.bind_some] at hx
    refine z_after (run_V C (As := As) (rest := rest) hct hb hw hy hm hn hcl hk hR hc hs hH hS hl hw8 d) hS (fun code ce q9 H1 locs1 h => by cases h) (fun v H1 locs1 h hH1 hS1 => ?_)
    cases h
    exact kk b hb hx H1 locs1 lsA (cells + k) (slots + 6 * k) (by omega) (by omega) hH1 hS1 hl
theorem z_callV_pJ (C : zC p l s m args meth c D cy B kd n sa sv own cc nL) {idx lv k nL2 nA : Nat} {y : MethodName} {cc2 : ByteArray} {ret2 : Option FieldType} {As rest st0 : List Value} {Cn : String} {a K : Nat} {T : u_T} {N : Nat} {ty0 : Nat → FieldType} {y0 : Option (Int64)} {f : (Int64) → Option β} (hst : st0 = As.reverse ++ .ref (B + a) :: rest) (hct : CT l D cy B kd n sa sv lv k y cc2 nL2 ret2 (pJ M) ((.ref (B + a) :: As)) M y0) (hw : ∀ w ∈ wV own idx Cn y cc2 nL2 ret2, w ∈ GW) (hy : y.cls = Cn) (hm : okM y nA) (hn : As.length = nA) (hcl : clOk K Cn T N ty0) (hk : kd a = K) (hR : okR R lv nL2 cu k) (hw8 : (rest.map fun v => v.category).sum ≤ 8) (d : decode cc pc = .ok (.invokevirtual idx, 3)) (kk : ∀ b, y0 = some b → Z p l e R s m args below meth c Q D cy B kd n nL b0 (cu + k) (pc + 3) ls (.long b :: rest) (M) (f b)) : Z p l e R s m args below meth c Q D cy B kd n nL b0 (cu) (pc) ls (st0) (M) (y0.bind f) := by
  intro hx H locs lsA cells slots hc hs hH hS hl
  subst hst
  cases hb : y0 with
  | none => rw [hb] at hx; cases hx
  | some b =>
    rw [hb, Option.bind_some] at hx
    refine z_after (run_V C (As := As) (rest := rest) hct hb hw hy hm hn hcl hk hR hc hs hH hS hl hw8 d) hS (fun code ce q9 H1 locs1 h => by cases h) (fun v H1 locs1 h hH1 hS1 => ?_)
    cases h
    exact kk b hb hx H1 locs1 lsA (cells + k) (slots + 6 * k) (by omega) (by omega) hH1 hS1 hl
theorem z_callV_pA (C : zC p l s m args meth c D cy B kd n sa sv own cc nL) {idx lv k nL2 nA : Nat} {y : MethodName} {cc2 : ByteArray} {ret2 : Option FieldType} {As rest st0 : List Value} {Cn : String} {a K : Nat} {T : u_T} {N : Nat} {ty0 : Nat → FieldType} {y0 : Option (Nat)} {f : (Nat) → Option β} (hst : st0 = As.reverse ++ .ref (B + a) :: rest) (hct : CT l D cy B kd n sa sv lv k y cc2 nL2 ret2 (pA B M) ((.ref (B + a) :: As)) M y0) (hw : ∀ w ∈ wV own idx Cn y cc2 nL2 ret2, w ∈ GW) (hy : y.cls = Cn) (hm : okM y nA) (hn : As.length = nA) (hcl : clOk K Cn T N ty0) (hk : kd a = K) (hR : okR R lv nL2 cu k) (hw8 : (rest.map fun v => v.category).sum ≤ 8) (d : decode cc pc = .ok (.invokevirtual idx, 3)) (kk : ∀ b, y0 = some b → Z p l e R s m args below meth c Q D cy B kd n nL b0 (cu + k) (pc + 3) ls (.ref (B + b) :: rest) (M) (f b)) : Z p l e R s m args below meth c Q D cy B kd n nL b0 (cu) (pc) ls (st0) (M) (y0.bind f) := by
  intro hx H locs lsA cells slots hc hs hH hS hl
  subst hst
  cases hb : y0 with
  | none => rw [hb] at hx; cases hx
  | some b =>
    rw [hb, Option.bind_some] at hx
    refine z_after (run_V C (As := As) (rest := rest) hct hb hw hy hm hn hcl hk hR hc hs hH hS hl hw8 d) hS (fun code ce q9 H1 locs1 h => by cases h) (fun v H1 locs1 h hH1 hS1 => ?_)
    cases h
    exact kk b hb hx H1 locs1 lsA (cells + k) (slots + 6 * k) (by omega) (by omega) hH1 hS1 hl
theorem z_callS_I (C : zC p l s m args meth c D cy B kd n sa sv own cc nL) {idx lv k nL2 nA : Nat} {y : MethodName} {cc2 : ByteArray} {ret2 : Option FieldType} {As rest st0 : List Value} {y0 : Option (Int32 × Mem)} {f : (Int32 × Mem) → Option β} (hst : st0 = As.reverse ++ rest) (hct : CT l D cy B kd n sa sv lv k y cc2 nL2 ret2 (cvI) (As) M y0) (hw : ∀ w ∈ wS own idx y cc2 nL2 ret2, w ∈ GW) (hm : okM y nA) (hn : As.length = nA) (hR : okR R lv nL2 cu k) (hw8 : (rest.map fun v => v.category).sum ≤ 8) (d : decode cc pc = .ok (.invokestatic idx, 3)) (kk : ∀ b, y0 = some b → Z p l e R s m args below meth c Q D cy B kd n nL b0 (cu + k) (pc + 3) ls (.int b.1 :: rest) (b.2) (f b)) : Z p l e R s m args below meth c Q D cy B kd n nL b0 (cu) (pc) ls (st0) (M) (y0.bind f) := by
  intro hx H locs lsA cells slots hc hs hH hS hl
  subst hst
  cases hb : y0 with
  | none => rw [hb] at hx; cases hx
  | some b =>
    rw [hb, Option.bind_some] at hx
    refine z_after (run_S C (Cn := own) (As := As) (rest := rest) hct hb hw hm hn hR hc hs hH hS hl hw8 d) hS (fun code ce q9 H1 locs1 h => by cases h) (fun v H1 locs1 h hH1 hS1 => ?_)
    cases h
    exact kk b hb hx H1 locs1 lsA (cells + k) (slots + 6 * k) (by omega) (by omega) hH1 hS1 hl
theorem z_callS_B (C : zC p l s m args meth c D cy B kd n sa sv own cc nL) {idx lv k nL2 nA : Nat} {y : MethodName} {cc2 : ByteArray} {ret2 : Option FieldType} {As rest st0 : List Value} {y0 : Option (Bool × Mem)} {f : (Bool × Mem) → Option β} (hst : st0 = As.reverse ++ rest) (hct : CT l D cy B kd n sa sv lv k y cc2 nL2 ret2 (cvB) (As) M y0) (hw : ∀ w ∈ wS own idx y cc2 nL2 ret2, w ∈ GW) (hm : okM y nA) (hn : As.length = nA) (hR : okR R lv nL2 cu k) (hw8 : (rest.map fun v => v.category).sum ≤ 8) (d : decode cc pc = .ok (.invokestatic idx, 3)) (kk : ∀ b, y0 = some b → Z p l e R s m args below meth c Q D cy B kd n nL b0 (cu + k) (pc + 3) ls (.int (bI b.1) :: rest) (b.2) (f b)) : Z p l e R s m args below meth c Q D cy B kd n nL b0 (cu) (pc) ls (st0) (M) (y0.bind f) := by
  intro hx H locs lsA cells slots hc hs hH hS hl
  subst hst
  cases hb : y0 with
  | none => rw [hb] at hx; cases hx
  | some b =>
    rw [hb, Option.bind_some] at hx
    refine z_after (run_S C (Cn := own) (As := As) (rest := rest) hct hb hw hm hn hR hc hs hH hS hl hw8 d) hS (fun code ce q9 H1 locs1 h => by cases h) (fun v H1 locs1 h hH1 hS1 => ?_)
    cases h
    exact kk b hb hx H1 locs1 lsA (cells + k) (slots + 6 * k) (by omega) (by omega) hH1 hS1 hl
theorem z_callS_J (C : zC p l s m args meth c D cy B kd n sa sv own cc nL) {idx lv k nL2 nA : Nat} {y : MethodName} {cc2 : ByteArray} {ret2 : Option FieldType} {As rest st0 : List Value} {y0 : Option (Int64 × Mem)} {f : (Int64 × Mem) → Option β} (hst : st0 = As.reverse ++ rest) (hct : CT l D cy B kd n sa sv lv k y cc2 nL2 ret2 (cvJ) (As) M y0) (hw : ∀ w ∈ wS own idx y cc2 nL2 ret2, w ∈ GW) (hm : okM y nA) (hn : As.length = nA) (hR : okR R lv nL2 cu k) (hw8 : (rest.map fun v => v.category).sum ≤ 8) (d : decode cc pc = .ok (.invokestatic idx, 3)) (kk : ∀ b, y0 = some b → Z p l e R s m args below meth c Q D cy B kd n nL b0 (cu + k) (pc + 3) ls (.long b.1 :: rest) (b.2) (f b)) : Z p l e R s m args below meth c Q D cy B kd n nL b0 (cu) (pc) ls (st0) (M) (y0.bind f) := by
  intro hx H locs lsA cells slots hc hs hH hS hl
  subst hst
  cases hb : y0 with
  | none => rw [hb] at hx; cases hx
  | some b =>
    rw [hb, Option.bind_some] at hx
    refine z_after (run_S C (Cn := own) (As := As) (rest := rest) hct hb hw hm hn hR hc hs hH hS hl hw8 d) hS (fun code ce q9 H1 locs1 h => by cases h) (fun v H1 locs1 h hH1 hS1 => ?_)
    cases h
    exact kk b hb hx H1 locs1 lsA (cells + k) (slots + 6 * k) (by omega) (by omega) hH1 hS1 hl
theorem z_callS_A (C : zC p l s m args meth c D cy B kd n sa sv own cc nL) {idx lv k nL2 nA : Nat} {y : MethodName} {cc2 : ByteArray} {ret2 : Option FieldType} {As rest st0 : List Value} {y0 : Option (Nat × Mem)} {f : (Nat × Mem) → Option β} (hst : st0 = As.reverse ++ rest) (hct : CT l D cy B kd n sa sv lv k y cc2 nL2 ret2 (cvA B) (As) M y0) (hw : ∀ w ∈ wS own idx y cc2 nL2 ret2, w ∈ GW) (hm : okM y nA) (hn : As.length = nA) (hR : okR R lv nL2 cu k) (hw8 : (rest.map fun v => v.category).sum ≤ 8) (d : decode cc pc = .ok (.invokestatic idx, 3)) (kk : ∀ b, y0 = some b → Z p l e R s m args below meth c Q D cy B kd n nL b0 (cu + k) (pc + 3) ls (.ref (B + b.1) :: rest) (b.2) (f b)) : Z p l e R s m args below meth c Q D cy B kd n nL b0 (cu) (pc) ls (st0) (M) (y0.bind f) := by
  intro hx H locs lsA cells slots hc hs hH hS hl
  subst hst
  cases hb : y0 with
  | none => rw [hb] at hx; cases hx
  | some b =>
    rw [hb, Option.bind_some] at hx
    refine z_after (run_S C (Cn := own) (As := As) (rest := rest) hct hb hw hm hn hR hc hs hH hS hl hw8 d) hS (fun code ce q9 H1 locs1 h => by cases h) (fun v H1 locs1 h hH1 hS1 => ?_)
    cases h
    exact kk b hb hx H1 locs1 lsA (cells + k) (slots + 6 * k) (by omega) (by omega) hH1 hS1 hl
theorem z_callS_V (C : zC p l s m args meth c D cy B kd n sa sv own cc nL) {idx lv k nL2 nA : Nat} {y : MethodName} {cc2 : ByteArray} {ret2 : Option FieldType} {As rest st0 : List Value} {y0 : Option (Mem)} {f : (Mem) → Option β} (hst : st0 = As.reverse ++ rest) (hct : CT l D cy B kd n sa sv lv k y cc2 nL2 ret2 (cvV) (As) M y0) (hw : ∀ w ∈ wS own idx y cc2 nL2 ret2, w ∈ GW) (hm : okM y nA) (hn : As.length = nA) (hR : okR R lv nL2 cu k) (hw8 : (rest.map fun v => v.category).sum ≤ 8) (d : decode cc pc = .ok (.invokestatic idx, 3)) (kk : ∀ b, y0 = some b → Z p l e R s m args below meth c Q D cy B kd n nL b0 (cu + k) (pc + 3) ls (rest) (b) (f b)) : Z p l e R s m args below meth c Q D cy B kd n nL b0 (cu) (pc) ls (st0) (M) (y0.bind f) := by
  intro hx H locs lsA cells slots hc hs hH hS hl
  subst hst
  cases hb : y0 with
  | none => rw [hb] at hx; cases hx
  | some b =>
    rw [hb, Option.bind_some] at hx
    refine z_after (run_S C (Cn := own) (As := As) (rest := rest) hct hb hw hm hn hR hc hs hH hS hl hw8 d) hS (fun code ce q9 H1 locs1 h => by cases h) (fun v H1 locs1 h hH1 hS1 => ?_)
    cases h
    exact kk b hb hx H1 locs1 lsA (cells + k) (slots + 6 * k) (by omega) (by omega) hH1 hS1 hl
theorem z_callS_pI (C : zC p l s m args meth c D cy B kd n sa sv own cc nL) {idx lv k nL2 nA : Nat} {y : MethodName} {cc2 : ByteArray} {ret2 : Option FieldType} {As rest st0 : List Value} {y0 : Option (Int32)} {f : (Int32) → Option β} (hst : st0 = As.reverse ++ rest) (hct : CT l D cy B kd n sa sv lv k y cc2 nL2 ret2 (pI M) (As) M y0) (hw : ∀ w ∈ wS own idx y cc2 nL2 ret2, w ∈ GW) (hm : okM y nA) (hn : As.length = nA) (hR : okR R lv nL2 cu k) (hw8 : (rest.map fun v => v.category).sum ≤ 8) (d : decode cc pc = .ok (.invokestatic idx, 3)) (kk : ∀ b, y0 = some b → Z p l e R s m args below meth c Q D cy B kd n nL b0 (cu + k) (pc + 3) ls (.int b :: rest) (M) (f b)) : Z p l e R s m args below meth c Q D cy B kd n nL b0 (cu) (pc) ls (st0) (M) (y0.bind f) := by
  intro hx H locs lsA cells slots hc hs hH hS hl
  subst hst
  cases hb : y0 with
  | none => rw [hb] at hx; cases hx
  | some b =>
    rw [hb, Option.bind_some] at hx
    refine z_after (run_S C (Cn := own) (As := As) (rest := rest) hct hb hw hm hn hR hc hs hH hS hl hw8 d) hS (fun code ce q9 H1 locs1 h => by cases h) (fun v H1 locs1 h hH1 hS1 => ?_)
    cases h
    exact kk b hb hx H1 locs1 lsA (cells + k) (slots + 6 * k) (by omega) (by omega) hH1 hS1 hl
theorem z_callS_pB (C : zC p l s m args meth c D cy B kd n sa sv own cc nL) {idx lv k nL2 nA : Nat} {y : MethodName} {cc2 : ByteArray} {ret2 : Option FieldType} {As rest st0 : List Value} {y0 : Option (Bool)} {f : (Bool) → Option β} (hst : st0 = As.reverse ++ rest) (hct : CT l D cy B kd n sa sv lv k y cc2 nL2 ret2 (pB M) (As) M y0) (hw : ∀ w ∈ wS own idx y cc2 nL2 ret2, w ∈ GW) (hm : okM y nA) (hn : As.length = nA) (hR : okR R lv nL2 cu k) (hw8 : (rest.map fun v => v.category).sum ≤ 8) (d : decode cc pc = .ok (.invokestatic idx, 3)) (kk : ∀ b, y0 = some b → Z p l e R s m args below meth c Q D cy B kd n nL b0 (cu + k) (pc + 3) ls (.int (bI b) :: rest) (M) (f b)) : Z p l e R s m args below meth c Q D cy B kd n nL b0 (cu) (pc) ls (st0) (M) (y0.bind f) := by
  intro hx H locs lsA cells slots hc hs hH hS hl
  subst hst
  cases hb : y0 with
  | none => rw [hb] at hx; cases hx
  | some b =>
    rw [hb, Option.bind_some] at hx
    refine z_after (run_S C (Cn := own) (As := As) (rest := rest) hct hb hw hm hn hR hc hs hH hS hl hw8 d) hS (fun code ce q9 H1 locs1 h => by cases h) (fun v H1 locs1 h hH1 hS1 => ?_)
    cases h
    exact kk b hb hx H1 locs1 lsA (cells + k) (slots + 6 * k) (by omega) (by omega) hH1 hS1 hl
theorem z_callS_pJ (C : zC p l s m args meth c D cy B kd n sa sv own cc nL) {idx lv k nL2 nA : Nat} {y : MethodName} {cc2 : ByteArray} {ret2 : Option FieldType} {As rest st0 : List Value} {y0 : Option (Int64)} {f : (Int64) → Option β} (hst : st0 = As.reverse ++ rest) (hct : CT l D cy B kd n sa sv lv k y cc2 nL2 ret2 (pJ M) (As) M y0) (hw : ∀ w ∈ wS own idx y cc2 nL2 ret2, w ∈ GW) (hm : okM y nA) (hn : As.length = nA) (hR : okR R lv nL2 cu k) (hw8 : (rest.map fun v => v.category).sum ≤ 8) (d : decode cc pc = .ok (.invokestatic idx, 3)) (kk : ∀ b, y0 = some b → Z p l e R s m args below meth c Q D cy B kd n nL b0 (cu + k) (pc + 3) ls (.long b :: rest) (M) (f b)) : Z p l e R s m args below meth c Q D cy B kd n nL b0 (cu) (pc) ls (st0) (M) (y0.bind f) := by
  intro hx H locs lsA cells slots hc hs hH hS hl
  subst hst
  cases hb : y0 with
  | none => rw [hb] at hx; cases hx
  | some b =>
    rw [hb, Option.bind_some] at hx
    refine z_after (run_S C (Cn := own) (As := As) (rest := rest) hct hb hw hm hn hR hc hs hH hS hl hw8 d) hS (fun code ce q9 H1 locs1 h => by cases h) (fun v H1 locs1 h hH1 hS1 => ?_)
    cases h
    exact kk b hb hx H1 locs1 lsA (cells + k) (slots + 6 * k) (by omega) (by omega) hH1 hS1 hl
theorem z_callS_pA (C : zC p l s m args meth c D cy B kd n sa sv own cc nL) {idx lv k nL2 nA : Nat} {y : MethodName} {cc2 : ByteArray} {ret2 : Option FieldType} {As rest st0 : List Value} {y0 : Option (Nat)} {f : (Nat) → Option β} (hst : st0 = As.reverse ++ rest) (hct : CT l D cy B kd n sa sv lv k y cc2 nL2 ret2 (pA B M) (As) M y0) (hw : ∀ w ∈ wS own idx y cc2 nL2 ret2, w ∈ GW) (hm : okM y nA) (hn : As.length = nA) (hR : okR R lv nL2 cu k) (hw8 : (rest.map fun v => v.category).sum ≤ 8) (d : decode cc pc = .ok (.invokestatic idx, 3)) (kk : ∀ b, y0 = some b → Z p l e R s m args below meth c Q D cy B kd n nL b0 (cu + k) (pc + 3) ls (.ref (B + b) :: rest) (M) (f b)) : Z p l e R s m args below meth c Q D cy B kd n nL b0 (cu) (pc) ls (st0) (M) (y0.bind f) := by
  intro hx H locs lsA cells slots hc hs hH hS hl
  subst hst
  cases hb : y0 with
  | none => rw [hb] at hx; cases hx
  | some b =>
    rw [hb, Option.bind_some] at hx
    refine z_after (run_S C (Cn := own) (As := As) (rest := rest) hct hb hw hm hn hR hc hs hH hS hl hw8 d) hS (fun code ce q9 H1 locs1 h => by cases h) (fun v H1 locs1 h hH1 hS1 => ?_)
    cases h
    exact kk b hb hx H1 locs1 lsA (cells + k) (slots + 6 * k) (by omega) (by omega) hH1 hS1 hl
theorem z_callVN_I (C : zC p l s m args meth c D cy B kd n sa sv own cc nL) {idx lv k nL2 nA : Nat} {y : MethodName} {cc2 : ByteArray} {ret2 : Option FieldType} {As rest st0 : List Value} {Cn : String} {a K : Nat} {T : u_T} {N : Nat} {ty0 : Nat → FieldType} {host : String} {y0 : Option (Int32 × Mem)} {f : (Int32 × Mem) → Option β} (hst : st0 = As.reverse ++ .ref (B + a) :: rest) (hct : CT l D cy B kd n sa sv lv k y cc2 nL2 ret2 (cvI) ((.ref (B + a) :: As)) M y0) (hw : ∀ w ∈ wN y Cn cc2 nL2 ret2, w ∈ GW) (hN : Cond.methodLinkNest own idx y host ∈ NW) (hy : y.cls = Cn) (hm : okM y nA) (hn : As.length = nA) (hcl : clOk K Cn T N ty0) (hk : kd a = K) (hR : okR R lv nL2 cu k) (hw8 : (rest.map fun v => v.category).sum ≤ 8) (d : decode cc pc = .ok (.invokevirtual idx, 3)) (kk : ∀ b, y0 = some b → Z p l e R s m args below meth c Q D cy B kd n nL b0 (cu + k) (pc + 3) ls (.int b.1 :: rest) (b.2) (f b)) : Z p l e R s m args below meth c Q D cy B kd n nL b0 (cu) (pc) ls (st0) (M) (y0.bind f) := by
  intro hx H locs lsA cells slots hc hs hH hS hl
  subst hst
  cases hb : y0 with
  | none => rw [hb] at hx; cases hx
  | some b =>
    rw [hb, Option.bind_some] at hx
    refine z_after (run_VN C (As := As) (rest := rest) hct hb hw hN hy hm hn hcl hk hR hc hs hH hS hl hw8 d) hS (fun code ce q9 H1 locs1 h => by cases h) (fun v H1 locs1 h hH1 hS1 => ?_)
    cases h
    exact kk b hb hx H1 locs1 lsA (cells + k) (slots + 6 * k) (by omega) (by omega) hH1 hS1 hl
theorem z_callVN_B (C : zC p l s m args meth c D cy B kd n sa sv own cc nL) {idx lv k nL2 nA : Nat} {y : MethodName} {cc2 : ByteArray} {ret2 : Option FieldType} {As rest st0 : List Value} {Cn : String} {a K : Nat} {T : u_T} {N : Nat} {ty0 : Nat → FieldType} {host : String} {y0 : Option (Bool × Mem)} {f : (Bool × Mem) → Option β} (hst : st0 = As.reverse ++ .ref (B + a) :: rest) (hct : CT l D cy B kd n sa sv lv k y cc2 nL2 ret2 (cvB) ((.ref (B + a) :: As)) M y0) (hw : ∀ w ∈ wN y Cn cc2 nL2 ret2, w ∈ GW) (hN : Cond.methodLinkNest own idx y host ∈ NW) (hy : y.cls = Cn) (hm : okM y nA) (hn : As.length = nA) (hcl : clOk K Cn T N ty0) (hk : kd a = K) (hR : okR R lv nL2 cu k) (hw8 : (rest.map fun v => v.category).sum ≤ 8) (d : decode cc pc = .ok (.invokevirtual idx, 3)) (kk : ∀ b, y0 = some b → Z p l e R s m args below meth c Q D cy B kd n nL b0 (cu + k) (pc + 3) ls (.int (bI b.1) :: rest) (b.2) (f b)) : Z p l e R s m args below meth c Q D cy B kd n nL b0 (cu) (pc) ls (st0) (M) (y0.bind f) := by
  intro hx H locs lsA cells slots hc hs hH hS hl
  subst hst
  cases hb : y0 with
  | none => rw [hb] at hx; cases hx
  | some b =>
    rw [hb, Option.bind_some] at hx
    refine z_after (run_VN C (As := As) (rest := rest) hct hb hw hN hy hm hn hcl hk hR hc hs hH hS hl hw8 d) hS (fun code ce q9 H1 locs1 h => by cases h) (fun v H1 locs1 h hH1 hS1 => ?_)
    cases h
    exact kk b hb hx H1 locs1 lsA (cells + k) (slots + 6 * k) (by omega) (by omega) hH1 hS1 hl
theorem z_callVN_J (C : zC p l s m args meth c D cy B kd n sa sv own cc nL) {idx lv k nL2 nA : Nat} {y : MethodName} {cc2 : ByteArray} {ret2 : Option FieldType} {As rest st0 : List Value} {Cn : String} {a K : Nat} {T : u_T} {N : Nat} {ty0 : Nat → FieldType} {host : String} {y0 : Option (Int64 × Mem)} {f : (Int64 × Mem) → Option β} (hst : st0 = As.reverse ++ .ref (B + a) :: rest) (hct : CT l D cy B kd n sa sv lv k y cc2 nL2 ret2 (cvJ) ((.ref (B + a) :: As)) M y0) (hw : ∀ w ∈ wN y Cn cc2 nL2 ret2, w ∈ GW) (hN : Cond.methodLinkNest own idx y host ∈ NW) (hy : y.cls = Cn) (hm : okM y nA) (hn : As.length = nA) (hcl : clOk K Cn T N ty0) (hk : kd a = K) (hR : okR R lv nL2 cu k) (hw8 : (rest.map fun v => v.category).sum ≤ 8) (d : decode cc pc = .ok (.invokevirtual idx, 3)) (kk : ∀ b, y0 = some b → Z p l e R s m args below meth c Q D cy B kd n nL b0 (cu + k) (pc + 3) ls (.long b.1 :: rest) (b.2) (f b)) : Z p l e R s m args below meth c Q D cy B kd n nL b0 (cu) (pc) ls (st0) (M) (y0.bind f) := by
  intro hx H locs lsA cells slots hc hs hH hS hl
  subst hst
  cases hb : y0 with
  | none => rw [hb] at hx; cases hx
  | some b =>
    rw [hb, Option.bind_some] at hx
    refine z_after (run_VN C (As := As) (rest := rest) hct hb hw hN hy hm hn hcl hk hR hc hs hH hS hl hw8 d) hS (fun code ce q9 H1 locs1 h => by cases h) (fun v H1 locs1 h hH1 hS1 => ?_)
    cases h
    exact kk b hb hx H1 locs1 lsA (cells + k) (slots + 6 * k) (by omega) (by omega) hH1 hS1 hl
theorem z_callVN_A (C : zC p l s m args meth c D cy B kd n sa sv own cc nL) {idx lv k nL2 nA : Nat} {y : MethodName} {cc2 : ByteArray} {ret2 : Option FieldType} {As rest st0 : List Value} {Cn : String} {a K : Nat} {T : u_T} {N : Nat} {ty0 : Nat → FieldType} {host : String} {y0 : Option (Nat × Mem)} {f : (Nat × Mem) → Option β} (hst : st0 = As.reverse ++ .ref (B + a) :: rest) (hct : CT l D cy B kd n sa sv lv k y cc2 nL2 ret2 (cvA B) ((.ref (B + a) :: As)) M y0) (hw : ∀ w ∈ wN y Cn cc2 nL2 ret2, w ∈ GW) (hN : Cond.methodLinkNest own idx y host ∈ NW) (hy : y.cls = Cn) (hm : okM y nA) (hn : As.length = nA) (hcl : clOk K Cn T N ty0) (hk : kd a = K) (hR : okR R lv nL2 cu k) (hw8 : (rest.map fun v => v.category).sum ≤ 8) (d : decode cc pc = .ok (.invokevirtual idx, 3)) (kk : ∀ b, y0 = some b → Z p l e R s m args below meth c Q D cy B kd n nL b0 (cu + k) (pc + 3) ls (.ref (B + b.1) :: rest) (b.2) (f b)) : Z p l e R s m args below meth c Q D cy B kd n nL b0 (cu) (pc) ls (st0) (M) (y0.bind f) := by
  intro hx H locs lsA cells slots hc hs hH hS hl
  subst hst
  cases hb : y0 with
  | none => rw [hb] at hx; cases hx
  | some b =>
    rw [hb, Option.bind_some] at hx
    refine z_after (run_VN C (As := As) (rest := rest) hct hb hw hN hy hm hn hcl hk hR hc hs hH hS hl hw8 d) hS (fun code ce q9 H1 locs1 h => by cases h) (fun v H1 locs1 h hH1 hS1 => ?_)
    cases h
    exact kk b hb hx H1 locs1 lsA (cells + k) (slots + 6 * k) (by omega) (by omega) hH1 hS1 hl
theorem z_callVN_V (C : zC p l s m args meth c D cy B kd n sa sv own cc nL) {idx lv k nL2 nA : Nat} {y : MethodName} {cc2 : ByteArray} {ret2 : Option FieldType} {As rest st0 : List Value} {Cn : String} {a K : Nat} {T : u_T} {N : Nat} {ty0 : Nat → FieldType} {host : String} {y0 : Option (Mem)} {f : (Mem) → Option β} (hst : st0 = As.reverse ++ .ref (B + a) :: rest) (hct : CT l D cy B kd n sa sv lv k y cc2 nL2 ret2 (cvV) ((.ref (B + a) :: As)) M y0) (hw : ∀ w ∈ wN y Cn cc2 nL2 ret2, w ∈ GW) (hN : Cond.methodLinkNest own idx y host ∈ NW) (hy : y.cls = Cn) (hm : okM y nA) (hn : As.length = nA) (hcl : clOk K Cn T N ty0) (hk : kd a = K) (hR : okR R lv nL2 cu k) (hw8 : (rest.map fun v => v.category).sum ≤ 8) (d : decode cc pc = .ok (.invokevirtual idx, 3)) (kk : ∀ b, y0 = some b → Z p l e R s m args below meth c Q D cy B kd n nL b0 (cu + k) (pc + 3) ls (rest) (b) (f b)) : Z p l e R s m args below meth c Q D cy B kd n nL b0 (cu) (pc) ls (st0) (M) (y0.bind f) := by
  intro hx H locs lsA cells slots hc hs hH hS hl
  subst hst
  cases hb : y0 with
  | none => rw [hb] at hx; cases hx
  | some b =>
    rw [hb, Option.bind_some] at hx
    refine z_after (run_VN C (As := As) (rest := rest) hct hb hw hN hy hm hn hcl hk hR hc hs hH hS hl hw8 d) hS (fun code ce q9 H1 locs1 h => by cases h) (fun v H1 locs1 h hH1 hS1 => ?_)
    cases h
    exact kk b hb hx H1 locs1 lsA (cells + k) (slots + 6 * k) (by omega) (by omega) hH1 hS1 hl
theorem z_callVN_pI (C : zC p l s m args meth c D cy B kd n sa sv own cc nL) {idx lv k nL2 nA : Nat} {y : MethodName} {cc2 : ByteArray} {ret2 : Option FieldType} {As rest st0 : List Value} {Cn : String} {a K : Nat} {T : u_T} {N : Nat} {ty0 : Nat → FieldType} {host : String} {y0 : Option (Int32)} {f : (Int32) → Option β} (hst : st0 = As.reverse ++ .ref (B + a) :: rest) (hct : CT l D cy B kd n sa sv lv k y cc2 nL2 ret2 (pI M) ((.ref (B + a) :: As)) M y0) (hw : ∀ w ∈ wN y Cn cc2 nL2 ret2, w ∈ GW) (hN : Cond.methodLinkNest own idx y host ∈ NW) (hy : y.cls = Cn) (hm : okM y nA) (hn : As.length = nA) (hcl : clOk K Cn T N ty0) (hk : kd a = K) (hR : okR R lv nL2 cu k) (hw8 : (rest.map fun v => v.category).sum ≤ 8) (d : decode cc pc = .ok (.invokevirtual idx, 3)) (kk : ∀ b, y0 = some b → Z p l e R s m args below meth c Q D cy B kd n nL b0 (cu + k) (pc + 3) ls (.int b :: rest) (M) (f b)) : Z p l e R s m args below meth c Q D cy B kd n nL b0 (cu) (pc) ls (st0) (M) (y0.bind f) := by
  intro hx H locs lsA cells slots hc hs hH hS hl
  subst hst
  cases hb : y0 with
  | none => rw [hb] at hx; cases hx
  | some b =>
    rw [hb, Option.bind_some] at hx
    refine z_after (run_VN C (As := As) (rest := rest) hct hb hw hN hy hm hn hcl hk hR hc hs hH hS hl hw8 d) hS (fun code ce q9 H1 locs1 h => by cases h) (fun v H1 locs1 h hH1 hS1 => ?_)
    cases h
    exact kk b hb hx H1 locs1 lsA (cells + k) (slots + 6 * k) (by omega) (by omega) hH1 hS1 hl
theorem z_callVN_pB (C : zC p l s m args meth c D cy B kd n sa sv own cc nL) {idx lv k nL2 nA : Nat} {y : MethodName} {cc2 : ByteArray} {ret2 : Option FieldType} {As rest st0 : List Value} {Cn : String} {a K : Nat} {T : u_T} {N : Nat} {ty0 : Nat → FieldType} {host : String} {y0 : Option (Bool)} {f : (Bool) → Option β} (hst : st0 = As.reverse ++ .ref (B + a) :: rest) (hct : CT l D cy B kd n sa sv lv k y cc2 nL2 ret2 (pB M) ((.ref (B + a) :: As)) M y0) (hw : ∀ w ∈ wN y Cn cc2 nL2 ret2, w ∈ GW) (hN : Cond.methodLinkNest own idx y host ∈ NW) (hy : y.cls = Cn) (hm : okM y nA) (hn : As.length = nA) (hcl : clOk K Cn T N ty0) (hk : kd a = K) (hR : okR R lv nL2 cu k) (hw8 : (rest.map fun v => v.category).sum ≤ 8) (d : decode cc pc = .ok (.invokevirtual idx, 3)) (kk : ∀ b, y0 = some b → Z p l e R s m args below meth c Q D cy B kd n nL b0 (cu + k) (pc + 3) ls (.int (bI b) :: rest) (M) (f b)) : Z p l e R s m args below meth c Q D cy B kd n nL b0 (cu) (pc) ls (st0) (M) (y0.bind f) := by
  intro hx H locs lsA cells slots hc hs hH hS hl
  subst hst
  cases hb : y0 with
  | none => rw [hb] at hx; cases hx
  | some b =>
    rw [hb, Option.bind_some] at hx
    refine z_after (run_VN C (As := As) (rest := rest) hct hb hw hN hy hm hn hcl hk hR hc hs hH hS hl hw8 d) hS (fun code ce q9 H1 locs1 h => by cases h) (fun v H1 locs1 h hH1 hS1 => ?_)
    cases h
    exact kk b hb hx H1 locs1 lsA (cells + k) (slots + 6 * k) (by omega) (by omega) hH1 hS1 hl
theorem z_callVN_pJ (C : zC p l s m args meth c D cy B kd n sa sv own cc nL) {idx lv k nL2 nA : Nat} {y : MethodName} {cc2 : ByteArray} {ret2 : Option FieldType} {As rest st0 : List Value} {Cn : String} {a K : Nat} {T : u_T} {N : Nat} {ty0 : Nat → FieldType} {host : String} {y0 : Option (Int64)} {f : (Int64) → Option β} (hst : st0 = As.reverse ++ .ref (B + a) :: rest) (hct : CT l D cy B kd n sa sv lv k y cc2 nL2 ret2 (pJ M) ((.ref (B + a) :: As)) M y0) (hw : ∀ w ∈ wN y Cn cc2 nL2 ret2, w ∈ GW) (hN : Cond.methodLinkNest own idx y host ∈ NW) (hy : y.cls = Cn) (hm : okM y nA) (hn : As.length = nA) (hcl : clOk K Cn T N ty0) (hk : kd a = K) (hR : okR R lv nL2 cu k) (hw8 : (rest.map fun v => v.category).sum ≤ 8) (d : decode cc pc = .ok (.invokevirtual idx, 3)) (kk : ∀ b, y0 = some b → Z p l e R s m args below meth c Q D cy B kd n nL b0 (cu + k) (pc + 3) ls (.long b :: rest) (M) (f b)) : Z p l e R s m args below meth c Q D cy B kd n nL b0 (cu) (pc) ls (st0) (M) (y0.bind f) := by
  intro hx H locs lsA cells slots hc hs hH hS hl
  subst hst
  cases hb : y0 with
  | none => rw [hb] at hx; cases hx
  | some b =>
    rw [hb, Option.bind_some] at hx
    refine z_after (run_VN C (As := As) (rest := rest) hct hb hw hN hy hm hn hcl hk hR hc hs hH hS hl hw8 d) hS (fun code ce q9 H1 locs1 h => by cases h) (fun v H1 locs1 h hH1 hS1 => ?_)
    cases h
    exact kk b hb hx H1 locs1 lsA (cells + k) (slots + 6 * k) (by omega) (by omega) hH1 hS1 hl
theorem z_callVN_pA (C : zC p l s m args meth c D cy B kd n sa sv own cc nL) {idx lv k nL2 nA : Nat} {y : MethodName} {cc2 : ByteArray} {ret2 : Option FieldType} {As rest st0 : List Value} {Cn : String} {a K : Nat} {T : u_T} {N : Nat} {ty0 : Nat → FieldType} {host : String} {y0 : Option (Nat)} {f : (Nat) → Option β} (hst : st0 = As.reverse ++ .ref (B + a) :: rest) (hct : CT l D cy B kd n sa sv lv k y cc2 nL2 ret2 (pA B M) ((.ref (B + a) :: As)) M y0) (hw : ∀ w ∈ wN y Cn cc2 nL2 ret2, w ∈ GW) (hN : Cond.methodLinkNest own idx y host ∈ NW) (hy : y.cls = Cn) (hm : okM y nA) (hn : As.length = nA) (hcl : clOk K Cn T N ty0) (hk : kd a = K) (hR : okR R lv nL2 cu k) (hw8 : (rest.map fun v => v.category).sum ≤ 8) (d : decode cc pc = .ok (.invokevirtual idx, 3)) (kk : ∀ b, y0 = some b → Z p l e R s m args below meth c Q D cy B kd n nL b0 (cu + k) (pc + 3) ls (.ref (B + b) :: rest) (M) (f b)) : Z p l e R s m args below meth c Q D cy B kd n nL b0 (cu) (pc) ls (st0) (M) (y0.bind f) := by
  intro hx H locs lsA cells slots hc hs hH hS hl
  subst hst
  cases hb : y0 with
  | none => rw [hb] at hx; cases hx
  | some b =>
    rw [hb, Option.bind_some] at hx
    refine z_after (run_VN C (As := As) (rest := rest) hct hb hw hN hy hm hn hcl hk hR hc hs hH hS hl hw8 d) hS (fun code ce q9 H1 locs1 h => by cases h) (fun v H1 locs1 h hH1 hS1 => ?_)
    cases h
    exact kk b hb hx H1 locs1 lsA (cells + k) (slots + 6 * k) (by omega) (by omega) hH1 hS1 hl
theorem z_callSN_I (C : zC p l s m args meth c D cy B kd n sa sv own cc nL) {idx lv k nL2 nA : Nat} {y : MethodName} {cc2 : ByteArray} {ret2 : Option FieldType} {As rest st0 : List Value} {host : String} {y0 : Option (Int32 × Mem)} {f : (Int32 × Mem) → Option β} (hst : st0 = As.reverse ++ rest) (hct : CT l D cy B kd n sa sv lv k y cc2 nL2 ret2 (cvI) (As) M y0) (hw : ∀ w ∈ wSN y cc2 nL2 ret2, w ∈ GW) (hN : Cond.methodLinkNest own idx y host ∈ NW) (hm : okM y nA) (hn : As.length = nA) (hR : okR R lv nL2 cu k) (hw8 : (rest.map fun v => v.category).sum ≤ 8) (d : decode cc pc = .ok (.invokestatic idx, 3)) (kk : ∀ b, y0 = some b → Z p l e R s m args below meth c Q D cy B kd n nL b0 (cu + k) (pc + 3) ls (.int b.1 :: rest) (b.2) (f b)) : Z p l e R s m args below meth c Q D cy B kd n nL b0 (cu) (pc) ls (st0) (M) (y0.bind f) := by
  intro hx H locs lsA cells slots hc hs hH hS hl
  subst hst
  cases hb : y0 with
  | none => rw [hb] at hx; cases hx
  | some b =>
    rw [hb, Option.bind_some] at hx
    refine z_after (run_SN C (Cn := own) (As := As) (rest := rest) hct hb hw hN hm hn hR hc hs hH hS hl hw8 d) hS (fun code ce q9 H1 locs1 h => by cases h) (fun v H1 locs1 h hH1 hS1 => ?_)
    cases h
    exact kk b hb hx H1 locs1 lsA (cells + k) (slots + 6 * k) (by omega) (by omega) hH1 hS1 hl
theorem z_callSN_B (C : zC p l s m args meth c D cy B kd n sa sv own cc nL) {idx lv k nL2 nA : Nat} {y : MethodName} {cc2 : ByteArray} {ret2 : Option FieldType} {As rest st0 : List Value} {host : String} {y0 : Option (Bool × Mem)} {f : (Bool × Mem) → Option β} (hst : st0 = As.reverse ++ rest) (hct : CT l D cy B kd n sa sv lv k y cc2 nL2 ret2 (cvB) (As) M y0) (hw : ∀ w ∈ wSN y cc2 nL2 ret2, w ∈ GW) (hN : Cond.methodLinkNest own idx y host ∈ NW) (hm : okM y nA) (hn : As.length = nA) (hR : okR R lv nL2 cu k) (hw8 : (rest.map fun v => v.category).sum ≤ 8) (d : decode cc pc = .ok (.invokestatic idx, 3)) (kk : ∀ b, y0 = some b → Z p l e R s m args below meth c Q D cy B kd n nL b0 (cu + k) (pc + 3) ls (.int (bI b.1) :: rest) (b.2) (f b)) : Z p l e R s m args below meth c Q D cy B kd n nL b0 (cu) (pc) ls (st0) (M) (y0.bind f) := by
  intro hx H locs lsA cells slots hc hs hH hS hl
  subst hst
  cases hb : y0 with
  | none => rw [hb] at hx; cases hx
  | some b =>
    rw [hb, Option.bind_some] at hx
    refine z_after (run_SN C (Cn := own) (As := As) (rest := rest) hct hb hw hN hm hn hR hc hs hH hS hl hw8 d) hS (fun code ce q9 H1 locs1 h => by cases h) (fun v H1 locs1 h hH1 hS1 => ?_)
    cases h
    exact kk b hb hx H1 locs1 lsA (cells + k) (slots + 6 * k) (by omega) (by omega) hH1 hS1 hl
theorem z_callSN_J (C : zC p l s m args meth c D cy B kd n sa sv own cc nL) {idx lv k nL2 nA : Nat} {y : MethodName} {cc2 : ByteArray} {ret2 : Option FieldType} {As rest st0 : List Value} {host : String} {y0 : Option (Int64 × Mem)} {f : (Int64 × Mem) → Option β} (hst : st0 = As.reverse ++ rest) (hct : CT l D cy B kd n sa sv lv k y cc2 nL2 ret2 (cvJ) (As) M y0) (hw : ∀ w ∈ wSN y cc2 nL2 ret2, w ∈ GW) (hN : Cond.methodLinkNest own idx y host ∈ NW) (hm : okM y nA) (hn : As.length = nA) (hR : okR R lv nL2 cu k) (hw8 : (rest.map fun v => v.category).sum ≤ 8) (d : decode cc pc = .ok (.invokestatic idx, 3)) (kk : ∀ b, y0 = some b → Z p l e R s m args below meth c Q D cy B kd n nL b0 (cu + k) (pc + 3) ls (.long b.1 :: rest) (b.2) (f b)) : Z p l e R s m args below meth c Q D cy B kd n nL b0 (cu) (pc) ls (st0) (M) (y0.bind f) := by
  intro hx H locs lsA cells slots hc hs hH hS hl
  subst hst
  cases hb : y0 with
  | none => rw [hb] at hx; cases hx
  | some b =>
    rw [hb, Option.bind_some] at hx
    refine z_after (run_SN C (Cn := own) (As := As) (rest := rest) hct hb hw hN hm hn hR hc hs hH hS hl hw8 d) hS (fun code ce q9 H1 locs1 h => by cases h) (fun v H1 locs1 h hH1 hS1 => ?_)
    cases h
    exact kk b hb hx H1 locs1 lsA (cells + k) (slots + 6 * k) (by omega) (by omega) hH1 hS1 hl
theorem z_callSN_A (C : zC p l s m args meth c D cy B kd n sa sv own cc nL) {idx lv k nL2 nA : Nat} {y : MethodName} {cc2 : ByteArray} {ret2 : Option FieldType} {As rest st0 : List Value} {host : String} {y0 : Option (Nat × Mem)} {f : (Nat × Mem) → Option β} (hst : st0 = As.reverse ++ rest) (hct : CT l D cy B kd n sa sv lv k y cc2 nL2 ret2 (cvA B) (As) M y0) (hw : ∀ w ∈ wSN y cc2 nL2 ret2, w ∈ GW) (hN : Cond.methodLinkNest own idx y host ∈ NW) (hm : okM y nA) (hn : As.length = nA) (hR : okR R lv nL2 cu k) (hw8 : (rest.map fun v => v.category).sum ≤ 8) (d : decode cc pc = .ok (.invokestatic idx, 3)) (kk : ∀ b, y0 = some b → Z p l e R s m args below meth c Q D cy B kd n nL b0 (cu + k) (pc + 3) ls (.ref (B + b.1) :: rest) (b.2) (f b)) : Z p l e R s m args below meth c Q D cy B kd n nL b0 (cu) (pc) ls (st0) (M) (y0.bind f) := by
  intro hx H locs lsA cells slots hc hs hH hS hl
  subst hst
  cases hb : y0 with
  | none => rw [hb] at hx; cases hx
  | some b =>
    rw [hb, Option.bind_some] at hx
    refine z_after (run_SN C (Cn := own) (As := As) (rest := rest) hct hb hw hN hm hn hR hc hs hH hS hl hw8 d) hS (fun code ce q9 H1 locs1 h => by cases h) (fun v H1 locs1 h hH1 hS1 => ?_)
    cases h
    exact kk b hb hx H1 locs1 lsA (cells + k) (slots + 6 * k) (by omega) (by omega) hH1 hS1 hl
theorem z_callSN_V (C : zC p l s m args meth c D cy B kd n sa sv own cc nL) {idx lv k nL2 nA : Nat} {y : MethodName} {cc2 : ByteArray} {ret2 : Option FieldType} {As rest st0 : List Value} {host : String} {y0 : Option (Mem)} {f : (Mem) → Option β} (hst : st0 = As.reverse ++ rest) (hct : CT l D cy B kd n sa sv lv k y cc2 nL2 ret2 (cvV) (As) M y0) (hw : ∀ w ∈ wSN y cc2 nL2 ret2, w ∈ GW) (hN : Cond.methodLinkNest own idx y host ∈ NW) (hm : okM y nA) (hn : As.length = nA) (hR : okR R lv nL2 cu k) (hw8 : (rest.map fun v => v.category).sum ≤ 8) (d : decode cc pc = .ok (.invokestatic idx, 3)) (kk : ∀ b, y0 = some b → Z p l e R s m args below meth c Q D cy B kd n nL b0 (cu + k) (pc + 3) ls (rest) (b) (f b)) : Z p l e R s m args below meth c Q D cy B kd n nL b0 (cu) (pc) ls (st0) (M) (y0.bind f) := by
  intro hx H locs lsA cells slots hc hs hH hS hl
  subst hst
  cases hb : y0 with
  | none => rw [hb] at hx; cases hx
  | some b =>
    rw [hb, Option.bind_some] at hx
    refine z_after (run_SN C (Cn := own) (As := As) (rest := rest) hct hb hw hN hm hn hR hc hs hH hS hl hw8 d) hS (fun code ce q9 H1 locs1 h => by cases h) (fun v H1 locs1 h hH1 hS1 => ?_)
    cases h
    exact kk b hb hx H1 locs1 lsA (cells + k) (slots + 6 * k) (by omega) (by omega) hH1 hS1 hl
theorem z_callSN_pI (C : zC p l s m args meth c D cy B kd n sa sv own cc nL) {idx lv k nL2 nA : Nat} {y : MethodName} {cc2 : ByteArray} {ret2 : Option FieldType} {As rest st0 : List Value} {host : String} {y0 : Option (Int32)} {f : (Int32) → Option β} (hst : st0 = As.reverse ++ rest) (hct : CT l D cy B kd n sa sv lv k y cc2 nL2 ret2 (pI M) (As) M y0) (hw : ∀ w ∈ wSN y cc2 nL2 ret2, w ∈ GW) (hN : Cond.methodLinkNest own idx y host ∈ NW) (hm : okM y nA) (hn : As.length = nA) (hR : okR R lv nL2 cu k) (hw8 : (rest.map fun v => v.category).sum ≤ 8) (d : decode cc pc = .ok (.invokestatic idx, 3)) (kk : ∀ b, y0 = some b → Z p l e R s m args below meth c Q D cy B kd n nL b0 (cu + k) (pc + 3) ls (.int b :: rest) (M) (f b)) : Z p l e R s m args below meth c Q D cy B kd n nL b0 (cu) (pc) ls (st0) (M) (y0.bind f) := by
  intro hx H locs lsA cells slots hc hs hH hS hl
  subst hst
  cases hb : y0 with
  | none => rw [hb] at hx; cases hx
  | some b =>
    rw [hb, Option.bind_some] at hx
    refine z_after (run_SN C (Cn := own) (As := As) (rest := rest) hct hb hw hN hm hn hR hc hs hH hS hl hw8 d) hS (fun code ce q9 H1 locs1 h => by cases h) (fun v H1 locs1 h hH1 hS1 => ?_)
    cases h
    exact kk b hb hx H1 locs1 lsA (cells + k) (slots + 6 * k) (by omega) (by omega) hH1 hS1 hl
theorem z_callSN_pB (C : zC p l s m args meth c D cy B kd n sa sv own cc nL) {idx lv k nL2 nA : Nat} {y : MethodName} {cc2 : ByteArray} {ret2 : Option FieldType} {As rest st0 : List Value} {host : String} {y0 : Option (Bool)} {f : (Bool) → Option β} (hst : st0 = As.reverse ++ rest) (hct : CT l D cy B kd n sa sv lv k y cc2 nL2 ret2 (pB M) (As) M y0) (hw : ∀ w ∈ wSN y cc2 nL2 ret2, w ∈ GW) (hN : Cond.methodLinkNest own idx y host ∈ NW) (hm : okM y nA) (hn : As.length = nA) (hR : okR R lv nL2 cu k) (hw8 : (rest.map fun v => v.category).sum ≤ 8) (d : decode cc pc = .ok (.invokestatic idx, 3)) (kk : ∀ b, y0 = some b → Z p l e R s m args below meth c Q D cy B kd n nL b0 (cu + k) (pc + 3) ls (.int (bI b) :: rest) (M) (f b)) : Z p l e R s m args below meth c Q D cy B kd n nL b0 (cu) (pc) ls (st0) (M) (y0.bind f) := by
  intro hx H locs lsA cells slots hc hs hH hS hl
  subst hst
  cases hb : y0 with
  | none => rw [hb] at hx; cases hx
  | some b =>
    rw [hb, Option.bind_some] at hx
    refine z_after (run_SN C (Cn := own) (As := As) (rest := rest) hct hb hw hN hm hn hR hc hs hH hS hl hw8 d) hS (fun code ce q9 H1 locs1 h => by cases h) (fun v H1 locs1 h hH1 hS1 => ?_)
    cases h
    exact kk b hb hx H1 locs1 lsA (cells + k) (slots + 6 * k) (by omega) (by omega) hH1 hS1 hl
theorem z_callSN_pJ (C : zC p l s m args meth c D cy B kd n sa sv own cc nL) {idx lv k nL2 nA : Nat} {y : MethodName} {cc2 : ByteArray} {ret2 : Option FieldType} {As rest st0 : List Value} {host : String} {y0 : Option (Int64)} {f : (Int64) → Option β} (hst : st0 = As.reverse ++ rest) (hct : CT l D cy B kd n sa sv lv k y cc2 nL2 ret2 (pJ M) (As) M y0) (hw : ∀ w ∈ wSN y cc2 nL2 ret2, w ∈ GW) (hN : Cond.methodLinkNest own idx y host ∈ NW) (hm : okM y nA) (hn : As.length = nA) (hR : okR R lv nL2 cu k) (hw8 : (rest.map fun v => v.category).sum ≤ 8) (d : decode cc pc = .ok (.invokestatic idx, 3)) (kk : ∀ b, y0 = some b → Z p l e R s m args below meth c Q D cy B kd n nL b0 (cu + k) (pc + 3) ls (.long b :: rest) (M) (f b)) : Z p l e R s m args below meth c Q D cy B kd n nL b0 (cu) (pc) ls (st0) (M) (y0.bind f) := by
  intro hx H locs lsA cells slots hc hs hH hS hl
  subst hst
  cases hb : y0 with
  | none => rw [hb] at hx; cases hx
  | some b =>
    rw [hb, Option.bind_some] at hx
    refine z_after (run_SN C (Cn := own) (As := As) (rest := rest) hct hb hw hN hm hn hR hc hs hH hS hl hw8 d) hS (fun code ce q9 H1 locs1 h => by cases h) (fun v H1 locs1 h hH1 hS1 => ?_)
    cases h
    exact kk b hb hx H1 locs1 lsA (cells + k) (slots + 6 * k) (by omega) (by omega) hH1 hS1 hl
theorem z_callSN_pA (C : zC p l s m args meth c D cy B kd n sa sv own cc nL) {idx lv k nL2 nA : Nat} {y : MethodName} {cc2 : ByteArray} {ret2 : Option FieldType} {As rest st0 : List Value} {host : String} {y0 : Option (Nat)} {f : (Nat) → Option β} (hst : st0 = As.reverse ++ rest) (hct : CT l D cy B kd n sa sv lv k y cc2 nL2 ret2 (pA B M) (As) M y0) (hw : ∀ w ∈ wSN y cc2 nL2 ret2, w ∈ GW) (hN : Cond.methodLinkNest own idx y host ∈ NW) (hm : okM y nA) (hn : As.length = nA) (hR : okR R lv nL2 cu k) (hw8 : (rest.map fun v => v.category).sum ≤ 8) (d : decode cc pc = .ok (.invokestatic idx, 3)) (kk : ∀ b, y0 = some b → Z p l e R s m args below meth c Q D cy B kd n nL b0 (cu + k) (pc + 3) ls (.ref (B + b) :: rest) (M) (f b)) : Z p l e R s m args below meth c Q D cy B kd n nL b0 (cu) (pc) ls (st0) (M) (y0.bind f) := by
  intro hx H locs lsA cells slots hc hs hH hS hl
  subst hst
  cases hb : y0 with
  | none => rw [hb] at hx; cases hx
  | some b =>
    rw [hb, Option.bind_some] at hx
    refine z_after (run_SN C (Cn := own) (As := As) (rest := rest) hct hb hw hN hm hn hR hc hs hH hS hl hw8 d) hS (fun code ce q9 H1 locs1 h => by cases h) (fun v H1 locs1 h hH1 hS1 => ?_)
    cases h
    exact kk b hb hx H1 locs1 lsA (cells + k) (slots + 6 * k) (by omega) (by omega) hH1 hS1 hl
def cvX {α : Type} (cv : (Nat ⊕ α) × Mem → Res) : Prop := ∀ (k : Nat) (M : Mem), cv (.inl k, M) = (.inl k, M)
theorem cvX_I : cvX xIc := fun _ _ => rfl
theorem cvX_B : cvX xBc := fun _ _ => rfl
theorem cvX_J : cvX xJc := fun _ _ => rfl
theorem cvX_A {B : Nat} : cvX (xAc B) := fun _ _ => rfl
theorem cvX_V : cvX xVc := fun _ _ => rfl
end ZZ
section ZX
variable {p : Program} {l : Launch} {e : Env} {R : Room} {s : State} {m : MethodId} {args : Array Value} {below : List Frame} {meth : Method} {c : Code} {Q : State → Prop}
variable {D : va_G} {cy : Nat → ClassId} {B : Nat} {kd : Nat → Nat} {n : Nat} {sa sv : Nat → Nat} {own : String} {cc : ByteArray} {nL : Nat}
variable {α : Type} {b0 : (Nat ⊕ α) × Mem} {cu pc : Nat} {ls : List (Nat × Value)} {st : List Value} {M : Mem} {x : Option ((Nat ⊕ α) × Mem)}
theorem z_callXV_I (C : zC p l s m args meth c D cy B kd n sa sv own cc nL) {idx lv k nL2 nA : Nat} {y : MethodName} {cc2 : ByteArray} {ret2 : Option FieldType} {As rest st0 : List Value} {Cn : String} {a K : Nat} {T : u_T} {N : Nat} {ty0 : Nat → FieldType} {cv : (Nat ⊕ α) × Mem → Res} {mc : Nat} {y0 : Option ((Nat ⊕ Int32) × Mem)} {f : Int32 → Mem → Option ((Nat ⊕ α) × Mem)} (hcv : cvX cv) (ht : ∀ x ∈ c.exceptionTable.toList, False) (hst : st0 = As.reverse ++ .ref (B + a) :: rest) (hct : CT l D cy B kd n sa sv lv k y cc2 nL2 ret2 (xIc) ((.ref (B + a) :: As)) M y0) (hw : ∀ w ∈ wV own idx Cn y cc2 nL2 ret2, w ∈ GW) (hy : y.cls = Cn) (hm : okM y nA) (hn : As.length = nA) (hcl : clOk K Cn T N ty0) (hk : kd a = K) (hR : okR R lv nL2 cu k) (hmc : cu + k ≤ mc) (hw8 : (rest.map fun v => v.category).sum ≤ 8) (d : decode cc pc = .ok (.invokevirtual idx, 3)) (kk : ∀ v M1, y0 = some (.inr v, M1) → Z p l e R s m args below meth c (vx_MQ below (QcR D cy B kd n (cv b0)) (XcR D cy B kd n (cv b0)) args s mc (6 * mc) (AA B kd n)) D cy B kd n nL b0 (cu + k) (pc + 3) ls (.int v :: rest) (M1) (f v M1)) : Z p l e R s m args below meth c (vx_MQ below (QcR D cy B kd n (cv b0)) (XcR D cy B kd n (cv b0)) args s mc (6 * mc) (AA B kd n)) D cy B kd n nL b0 (cu) (pc) ls (st0) (M) (xb y0 f) := by
  intro hx H locs lsA cells slots hc hs hH hS hl
  subst hst
  unfold xb at hx
  cases hb : y0 with
  | none => rw [hb] at hx; cases hx
  | some b =>
    rw [hb, Option.bind_some] at hx
    obtain ⟨r, M1⟩ := b
    cases r with
    | inl kx =>
      refine z_after (run_V C (As := As) (rest := rest) hct hb hw hy hm hn hcl hk hR hc hs hH hS hl hw8 d) hS (fun code ce q9 H1 locs1 h hH1 hS1 hce hcv9 hcl9 => ?_) (fun v H1 locs1 h => by cases h)
      cases h
      cases hx
      exact vx_out (E := exN kx) (fun x hx9 => (ht x hx9).elim) C.2.2.2.2.2.2.2.2 hce hcv9 hcl9 (fun t ht9 _ => ⟨kx, by rw [hcv], rfl, by rw [hcv, ht9]; exact hH1, hS1.F ht9⟩) hS1.2.2 (by omega) (by omega)
    | inr v =>
      refine z_after (run_V C (As := As) (rest := rest) hct hb hw hy hm hn hcl hk hR hc hs hH hS hl hw8 d) hS (fun code ce q9 H1 locs1 h => by cases h) (fun v9 H1 locs1 h hH1 hS1 => ?_)
      cases h
      exact kk v M1 hb hx H1 locs1 lsA (cells + k) (slots + 6 * k) (by omega) (by omega) hH1 hS1 hl
theorem z_callXV_B (C : zC p l s m args meth c D cy B kd n sa sv own cc nL) {idx lv k nL2 nA : Nat} {y : MethodName} {cc2 : ByteArray} {ret2 : Option FieldType} {As rest st0 : List Value} {Cn : String} {a K : Nat} {T : u_T} {N : Nat} {ty0 : Nat → FieldType} {cv : (Nat ⊕ α) × Mem → Res} {mc : Nat} {y0 : Option ((Nat ⊕ Bool) × Mem)} {f : Bool → Mem → Option ((Nat ⊕ α) × Mem)} (hcv : cvX cv) (ht : ∀ x ∈ c.exceptionTable.toList, False) (hst : st0 = As.reverse ++ .ref (B + a) :: rest) (hct : CT l D cy B kd n sa sv lv k y cc2 nL2 ret2 (xBc) ((.ref (B + a) :: As)) M y0) (hw : ∀ w ∈ wV own idx Cn y cc2 nL2 ret2, w ∈ GW) (hy : y.cls = Cn) (hm : okM y nA) (hn : As.length = nA) (hcl : clOk K Cn T N ty0) (hk : kd a = K) (hR : okR R lv nL2 cu k) (hmc : cu + k ≤ mc) (hw8 : (rest.map fun v => v.category).sum ≤ 8) (d : decode cc pc = .ok (.invokevirtual idx, 3)) (kk : ∀ v M1, y0 = some (.inr v, M1) → Z p l e R s m args below meth c (vx_MQ below (QcR D cy B kd n (cv b0)) (XcR D cy B kd n (cv b0)) args s mc (6 * mc) (AA B kd n)) D cy B kd n nL b0 (cu + k) (pc + 3) ls (.int (bI v) :: rest) (M1) (f v M1)) : Z p l e R s m args below meth c (vx_MQ below (QcR D cy B kd n (cv b0)) (XcR D cy B kd n (cv b0)) args s mc (6 * mc) (AA B kd n)) D cy B kd n nL b0 (cu) (pc) ls (st0) (M) (xb y0 f) := by
  intro hx H locs lsA cells slots hc hs hH hS hl
  subst hst
  unfold xb at hx
  cases hb : y0 with
  | none => rw [hb] at hx; cases hx
  | some b =>
    rw [hb, Option.bind_some] at hx
    obtain ⟨r, M1⟩ := b
    cases r with
    | inl kx =>
      refine z_after (run_V C (As := As) (rest := rest) hct hb hw hy hm hn hcl hk hR hc hs hH hS hl hw8 d) hS (fun code ce q9 H1 locs1 h hH1 hS1 hce hcv9 hcl9 => ?_) (fun v H1 locs1 h => by cases h)
      cases h
      cases hx
      exact vx_out (E := exN kx) (fun x hx9 => (ht x hx9).elim) C.2.2.2.2.2.2.2.2 hce hcv9 hcl9 (fun t ht9 _ => ⟨kx, by rw [hcv], rfl, by rw [hcv, ht9]; exact hH1, hS1.F ht9⟩) hS1.2.2 (by omega) (by omega)
    | inr v =>
      refine z_after (run_V C (As := As) (rest := rest) hct hb hw hy hm hn hcl hk hR hc hs hH hS hl hw8 d) hS (fun code ce q9 H1 locs1 h => by cases h) (fun v9 H1 locs1 h hH1 hS1 => ?_)
      cases h
      exact kk v M1 hb hx H1 locs1 lsA (cells + k) (slots + 6 * k) (by omega) (by omega) hH1 hS1 hl
theorem z_callXV_J (C : zC p l s m args meth c D cy B kd n sa sv own cc nL) {idx lv k nL2 nA : Nat} {y : MethodName} {cc2 : ByteArray} {ret2 : Option FieldType} {As rest st0 : List Value} {Cn : String} {a K : Nat} {T : u_T} {N : Nat} {ty0 : Nat → FieldType} {cv : (Nat ⊕ α) × Mem → Res} {mc : Nat} {y0 : Option ((Nat ⊕ Int64) × Mem)} {f : Int64 → Mem → Option ((Nat ⊕ α) × Mem)} (hcv : cvX cv) (ht : ∀ x ∈ c.exceptionTable.toList, False) (hst : st0 = As.reverse ++ .ref (B + a) :: rest) (hct : CT l D cy B kd n sa sv lv k y cc2 nL2 ret2 (xJc) ((.ref (B + a) :: As)) M y0) (hw : ∀ w ∈ wV own idx Cn y cc2 nL2 ret2, w ∈ GW) (hy : y.cls = Cn) (hm : okM y nA) (hn : As.length = nA) (hcl : clOk K Cn T N ty0) (hk : kd a = K) (hR : okR R lv nL2 cu k) (hmc : cu + k ≤ mc) (hw8 : (rest.map fun v => v.category).sum ≤ 8) (d : decode cc pc = .ok (.invokevirtual idx, 3)) (kk : ∀ v M1, y0 = some (.inr v, M1) → Z p l e R s m args below meth c (vx_MQ below (QcR D cy B kd n (cv b0)) (XcR D cy B kd n (cv b0)) args s mc (6 * mc) (AA B kd n)) D cy B kd n nL b0 (cu + k) (pc + 3) ls (.long v :: rest) (M1) (f v M1)) : Z p l e R s m args below meth c (vx_MQ below (QcR D cy B kd n (cv b0)) (XcR D cy B kd n (cv b0)) args s mc (6 * mc) (AA B kd n)) D cy B kd n nL b0 (cu) (pc) ls (st0) (M) (xb y0 f) := by
  intro hx H locs lsA cells slots hc hs hH hS hl
  subst hst
  unfold xb at hx
  cases hb : y0 with
  | none => rw [hb] at hx; cases hx
  | some b =>
    rw [hb, Option.bind_some] at hx
    obtain ⟨r, M1⟩ := b
    cases r with
    | inl kx =>
      refine z_after (run_V C (As := As) (rest := rest) hct hb hw hy hm hn hcl hk hR hc hs hH hS hl hw8 d) hS (fun code ce q9 H1 locs1 h hH1 hS1 hce hcv9 hcl9 => ?_) (fun v H1 locs1 h => by cases h)
      cases h
      cases hx
      exact vx_out (E := exN kx) (fun x hx9 => (ht x hx9).elim) C.2.2.2.2.2.2.2.2 hce hcv9 hcl9 (fun t ht9 _ => ⟨kx, by rw [hcv], rfl, by rw [hcv, ht9]; exact hH1, hS1.F ht9⟩) hS1.2.2 (by omega) (by omega)
    | inr v =>
      refine z_after (run_V C (As := As) (rest := rest) hct hb hw hy hm hn hcl hk hR hc hs hH hS hl hw8 d) hS (fun code ce q9 H1 locs1 h => by cases h) (fun v9 H1 locs1 h hH1 hS1 => ?_)
      cases h
      exact kk v M1 hb hx H1 locs1 lsA (cells + k) (slots + 6 * k) (by omega) (by omega) hH1 hS1 hl
theorem z_callXV_A (C : zC p l s m args meth c D cy B kd n sa sv own cc nL) {idx lv k nL2 nA : Nat} {y : MethodName} {cc2 : ByteArray} {ret2 : Option FieldType} {As rest st0 : List Value} {Cn : String} {a K : Nat} {T : u_T} {N : Nat} {ty0 : Nat → FieldType} {cv : (Nat ⊕ α) × Mem → Res} {mc : Nat} {y0 : Option ((Nat ⊕ Nat) × Mem)} {f : Nat → Mem → Option ((Nat ⊕ α) × Mem)} (hcv : cvX cv) (ht : ∀ x ∈ c.exceptionTable.toList, False) (hst : st0 = As.reverse ++ .ref (B + a) :: rest) (hct : CT l D cy B kd n sa sv lv k y cc2 nL2 ret2 (xAc B) ((.ref (B + a) :: As)) M y0) (hw : ∀ w ∈ wV own idx Cn y cc2 nL2 ret2, w ∈ GW) (hy : y.cls = Cn) (hm : okM y nA) (hn : As.length = nA) (hcl : clOk K Cn T N ty0) (hk : kd a = K) (hR : okR R lv nL2 cu k) (hmc : cu + k ≤ mc) (hw8 : (rest.map fun v => v.category).sum ≤ 8) (d : decode cc pc = .ok (.invokevirtual idx, 3)) (kk : ∀ v M1, y0 = some (.inr v, M1) → Z p l e R s m args below meth c (vx_MQ below (QcR D cy B kd n (cv b0)) (XcR D cy B kd n (cv b0)) args s mc (6 * mc) (AA B kd n)) D cy B kd n nL b0 (cu + k) (pc + 3) ls (.ref (B + v) :: rest) (M1) (f v M1)) : Z p l e R s m args below meth c (vx_MQ below (QcR D cy B kd n (cv b0)) (XcR D cy B kd n (cv b0)) args s mc (6 * mc) (AA B kd n)) D cy B kd n nL b0 (cu) (pc) ls (st0) (M) (xb y0 f) := by
  intro hx H locs lsA cells slots hc hs hH hS hl
  subst hst
  unfold xb at hx
  cases hb : y0 with
  | none => rw [hb] at hx; cases hx
  | some b =>
    rw [hb, Option.bind_some] at hx
    obtain ⟨r, M1⟩ := b
    cases r with
    | inl kx =>
      refine z_after (run_V C (As := As) (rest := rest) hct hb hw hy hm hn hcl hk hR hc hs hH hS hl hw8 d) hS (fun code ce q9 H1 locs1 h hH1 hS1 hce hcv9 hcl9 => ?_) (fun v H1 locs1 h => by cases h)
      cases h
      cases hx
      exact vx_out (E := exN kx) (fun x hx9 => (ht x hx9).elim) C.2.2.2.2.2.2.2.2 hce hcv9 hcl9 (fun t ht9 _ => ⟨kx, by rw [hcv], rfl, by rw [hcv, ht9]; exact hH1, hS1.F ht9⟩) hS1.2.2 (by omega) (by omega)
    | inr v =>
      refine z_after (run_V C (As := As) (rest := rest) hct hb hw hy hm hn hcl hk hR hc hs hH hS hl hw8 d) hS (fun code ce q9 H1 locs1 h => by cases h) (fun v9 H1 locs1 h hH1 hS1 => ?_)
      cases h
      exact kk v M1 hb hx H1 locs1 lsA (cells + k) (slots + 6 * k) (by omega) (by omega) hH1 hS1 hl
theorem z_callXV_V (C : zC p l s m args meth c D cy B kd n sa sv own cc nL) {idx lv k nL2 nA : Nat} {y : MethodName} {cc2 : ByteArray} {ret2 : Option FieldType} {As rest st0 : List Value} {Cn : String} {a K : Nat} {T : u_T} {N : Nat} {ty0 : Nat → FieldType} {cv : (Nat ⊕ α) × Mem → Res} {mc : Nat} {y0 : Option ((Nat ⊕ Unit) × Mem)} {f : Unit → Mem → Option ((Nat ⊕ α) × Mem)} (hcv : cvX cv) (ht : ∀ x ∈ c.exceptionTable.toList, False) (hst : st0 = As.reverse ++ .ref (B + a) :: rest) (hct : CT l D cy B kd n sa sv lv k y cc2 nL2 ret2 (xVc) ((.ref (B + a) :: As)) M y0) (hw : ∀ w ∈ wV own idx Cn y cc2 nL2 ret2, w ∈ GW) (hy : y.cls = Cn) (hm : okM y nA) (hn : As.length = nA) (hcl : clOk K Cn T N ty0) (hk : kd a = K) (hR : okR R lv nL2 cu k) (hmc : cu + k ≤ mc) (hw8 : (rest.map fun v => v.category).sum ≤ 8) (d : decode cc pc = .ok (.invokevirtual idx, 3)) (kk : ∀ v M1, y0 = some (.inr v, M1) → Z p l e R s m args below meth c (vx_MQ below (QcR D cy B kd n (cv b0)) (XcR D cy B kd n (cv b0)) args s mc (6 * mc) (AA B kd n)) D cy B kd n nL b0 (cu + k) (pc + 3) ls (rest) (M1) (f v M1)) : Z p l e R s m args below meth c (vx_MQ below (QcR D cy B kd n (cv b0)) (XcR D cy B kd n (cv b0)) args s mc (6 * mc) (AA B kd n)) D cy B kd n nL b0 (cu) (pc) ls (st0) (M) (xb y0 f) := by
  intro hx H locs lsA cells slots hc hs hH hS hl
  subst hst
  unfold xb at hx
  cases hb : y0 with
  | none => rw [hb] at hx; cases hx
  | some b =>
    rw [hb, Option.bind_some] at hx
    obtain ⟨r, M1⟩ := b
    cases r with
    | inl kx =>
      refine z_after (run_V C (As := As) (rest := rest) hct hb hw hy hm hn hcl hk hR hc hs hH hS hl hw8 d) hS (fun code ce q9 H1 locs1 h hH1 hS1 hce hcv9 hcl9 => ?_) (fun v H1 locs1 h => by cases h)
      cases h
      cases hx
      exact vx_out (E := exN kx) (fun x hx9 => (ht x hx9).elim) C.2.2.2.2.2.2.2.2 hce hcv9 hcl9 (fun t ht9 _ => ⟨kx, by rw [hcv], rfl, by rw [hcv, ht9]; exact hH1, hS1.F ht9⟩) hS1.2.2 (by omega) (by omega)
    | inr v =>
      refine z_after (run_V C (As := As) (rest := rest) hct hb hw hy hm hn hcl hk hR hc hs hH hS hl hw8 d) hS (fun code ce q9 H1 locs1 h => by cases h) (fun v9 H1 locs1 h hH1 hS1 => ?_)
      cases h
      exact kk v M1 hb hx H1 locs1 lsA (cells + k) (slots + 6 * k) (by omega) (by omega) hH1 hS1 hl
theorem z_callXS_I (C : zC p l s m args meth c D cy B kd n sa sv own cc nL) {idx lv k nL2 nA : Nat} {y : MethodName} {cc2 : ByteArray} {ret2 : Option FieldType} {As rest st0 : List Value} {cv : (Nat ⊕ α) × Mem → Res} {mc : Nat} {y0 : Option ((Nat ⊕ Int32) × Mem)} {f : Int32 → Mem → Option ((Nat ⊕ α) × Mem)} (hcv : cvX cv) (ht : ∀ x ∈ c.exceptionTable.toList, False) (hst : st0 = As.reverse ++ rest) (hct : CT l D cy B kd n sa sv lv k y cc2 nL2 ret2 (xIc) (As) M y0) (hw : ∀ w ∈ wS own idx y cc2 nL2 ret2, w ∈ GW) (hm : okM y nA) (hn : As.length = nA) (hR : okR R lv nL2 cu k) (hmc : cu + k ≤ mc) (hw8 : (rest.map fun v => v.category).sum ≤ 8) (d : decode cc pc = .ok (.invokestatic idx, 3)) (kk : ∀ v M1, y0 = some (.inr v, M1) → Z p l e R s m args below meth c (vx_MQ below (QcR D cy B kd n (cv b0)) (XcR D cy B kd n (cv b0)) args s mc (6 * mc) (AA B kd n)) D cy B kd n nL b0 (cu + k) (pc + 3) ls (.int v :: rest) (M1) (f v M1)) : Z p l e R s m args below meth c (vx_MQ below (QcR D cy B kd n (cv b0)) (XcR D cy B kd n (cv b0)) args s mc (6 * mc) (AA B kd n)) D cy B kd n nL b0 (cu) (pc) ls (st0) (M) (xb y0 f) := by
  intro hx H locs lsA cells slots hc hs hH hS hl
  subst hst
  unfold xb at hx
  cases hb : y0 with
  | none => rw [hb] at hx; cases hx
  | some b =>
    rw [hb, Option.bind_some] at hx
    obtain ⟨r, M1⟩ := b
    cases r with
    | inl kx =>
      refine z_after (run_S C (Cn := own) (As := As) (rest := rest) hct hb hw hm hn hR hc hs hH hS hl hw8 d) hS (fun code ce q9 H1 locs1 h hH1 hS1 hce hcv9 hcl9 => ?_) (fun v H1 locs1 h => by cases h)
      cases h
      cases hx
      exact vx_out (E := exN kx) (fun x hx9 => (ht x hx9).elim) C.2.2.2.2.2.2.2.2 hce hcv9 hcl9 (fun t ht9 _ => ⟨kx, by rw [hcv], rfl, by rw [hcv, ht9]; exact hH1, hS1.F ht9⟩) hS1.2.2 (by omega) (by omega)
    | inr v =>
      refine z_after (run_S C (Cn := own) (As := As) (rest := rest) hct hb hw hm hn hR hc hs hH hS hl hw8 d) hS (fun code ce q9 H1 locs1 h => by cases h) (fun v9 H1 locs1 h hH1 hS1 => ?_)
      cases h
      exact kk v M1 hb hx H1 locs1 lsA (cells + k) (slots + 6 * k) (by omega) (by omega) hH1 hS1 hl
theorem z_callXS_B (C : zC p l s m args meth c D cy B kd n sa sv own cc nL) {idx lv k nL2 nA : Nat} {y : MethodName} {cc2 : ByteArray} {ret2 : Option FieldType} {As rest st0 : List Value} {cv : (Nat ⊕ α) × Mem → Res} {mc : Nat} {y0 : Option ((Nat ⊕ Bool) × Mem)} {f : Bool → Mem → Option ((Nat ⊕ α) × Mem)} (hcv : cvX cv) (ht : ∀ x ∈ c.exceptionTable.toList, False) (hst : st0 = As.reverse ++ rest) (hct : CT l D cy B kd n sa sv lv k y cc2 nL2 ret2 (xBc) (As) M y0) (hw : ∀ w ∈ wS own idx y cc2 nL2 ret2, w ∈ GW) (hm : okM y nA) (hn : As.length = nA) (hR : okR R lv nL2 cu k) (hmc : cu + k ≤ mc) (hw8 : (rest.map fun v => v.category).sum ≤ 8) (d : decode cc pc = .ok (.invokestatic idx, 3)) (kk : ∀ v M1, y0 = some (.inr v, M1) → Z p l e R s m args below meth c (vx_MQ below (QcR D cy B kd n (cv b0)) (XcR D cy B kd n (cv b0)) args s mc (6 * mc) (AA B kd n)) D cy B kd n nL b0 (cu + k) (pc + 3) ls (.int (bI v) :: rest) (M1) (f v M1)) : Z p l e R s m args below meth c (vx_MQ below (QcR D cy B kd n (cv b0)) (XcR D cy B kd n (cv b0)) args s mc (6 * mc) (AA B kd n)) D cy B kd n nL b0 (cu) (pc) ls (st0) (M) (xb y0 f) := by
  intro hx H locs lsA cells slots hc hs hH hS hl
  subst hst
  unfold xb at hx
  cases hb : y0 with
  | none => rw [hb] at hx; cases hx
  | some b =>
    rw [hb, Option.bind_some] at hx
    obtain ⟨r, M1⟩ := b
    cases r with
    | inl kx =>
      refine z_after (run_S C (Cn := own) (As := As) (rest := rest) hct hb hw hm hn hR hc hs hH hS hl hw8 d) hS (fun code ce q9 H1 locs1 h hH1 hS1 hce hcv9 hcl9 => ?_) (fun v H1 locs1 h => by cases h)
      cases h
      cases hx
      exact vx_out (E := exN kx) (fun x hx9 => (ht x hx9).elim) C.2.2.2.2.2.2.2.2 hce hcv9 hcl9 (fun t ht9 _ => ⟨kx, by rw [hcv], rfl, by rw [hcv, ht9]; exact hH1, hS1.F ht9⟩) hS1.2.2 (by omega) (by omega)
    | inr v =>
      refine z_after (run_S C (Cn := own) (As := As) (rest := rest) hct hb hw hm hn hR hc hs hH hS hl hw8 d) hS (fun code ce q9 H1 locs1 h => by cases h) (fun v9 H1 locs1 h hH1 hS1 => ?_)
      cases h
      exact kk v M1 hb hx H1 locs1 lsA (cells + k) (slots + 6 * k) (by omega) (by omega) hH1 hS1 hl
theorem z_callXS_J (C : zC p l s m args meth c D cy B kd n sa sv own cc nL) {idx lv k nL2 nA : Nat} {y : MethodName} {cc2 : ByteArray} {ret2 : Option FieldType} {As rest st0 : List Value} {cv : (Nat ⊕ α) × Mem → Res} {mc : Nat} {y0 : Option ((Nat ⊕ Int64) × Mem)} {f : Int64 → Mem → Option ((Nat ⊕ α) × Mem)} (hcv : cvX cv) (ht : ∀ x ∈ c.exceptionTable.toList, False) (hst : st0 = As.reverse ++ rest) (hct : CT l D cy B kd n sa sv lv k y cc2 nL2 ret2 (xJc) (As) M y0) (hw : ∀ w ∈ wS own idx y cc2 nL2 ret2, w ∈ GW) (hm : okM y nA) (hn : As.length = nA) (hR : okR R lv nL2 cu k) (hmc : cu + k ≤ mc) (hw8 : (rest.map fun v => v.category).sum ≤ 8) (d : decode cc pc = .ok (.invokestatic idx, 3)) (kk : ∀ v M1, y0 = some (.inr v, M1) → Z p l e R s m args below meth c (vx_MQ below (QcR D cy B kd n (cv b0)) (XcR D cy B kd n (cv b0)) args s mc (6 * mc) (AA B kd n)) D cy B kd n nL b0 (cu + k) (pc + 3) ls (.long v :: rest) (M1) (f v M1)) : Z p l e R s m args below meth c (vx_MQ below (QcR D cy B kd n (cv b0)) (XcR D cy B kd n (cv b0)) args s mc (6 * mc) (AA B kd n)) D cy B kd n nL b0 (cu) (pc) ls (st0) (M) (xb y0 f) := by
  intro hx H locs lsA cells slots hc hs hH hS hl
  subst hst
  unfold xb at hx
  cases hb : y0 with
  | none => rw [hb] at hx; cases hx
  | some b =>
    rw [hb, Option.bind_some] at hx
    obtain ⟨r, M1⟩ := b
    cases r with
    | inl kx =>
      refine z_after (run_S C (Cn := own) (As := As) (rest := rest) hct hb hw hm hn hR hc hs hH hS hl hw8 d) hS (fun code ce q9 H1 locs1 h hH1 hS1 hce hcv9 hcl9 => ?_) (fun v H1 locs1 h => by cases h)
      cases h
      cases hx
      exact vx_out (E := exN kx) (fun x hx9 => (ht x hx9).elim) C.2.2.2.2.2.2.2.2 hce hcv9 hcl9 (fun t ht9 _ => ⟨kx, by rw [hcv], rfl, by rw [hcv, ht9]; exact hH1, hS1.F ht9⟩) hS1.2.2 (by omega) (by omega)
    | inr v =>
      refine z_after (run_S C (Cn := own) (As := As) (rest := rest) hct hb hw hm hn hR hc hs hH hS hl hw8 d) hS (fun code ce q9 H1 locs1 h => by cases h) (fun v9 H1 locs1 h hH1 hS1 => ?_)
      cases h
      exact kk v M1 hb hx H1 locs1 lsA (cells + k) (slots + 6 * k) (by omega) (by omega) hH1 hS1 hl
theorem z_callXS_A (C : zC p l s m args meth c D cy B kd n sa sv own cc nL) {idx lv k nL2 nA : Nat} {y : MethodName} {cc2 : ByteArray} {ret2 : Option FieldType} {As rest st0 : List Value} {cv : (Nat ⊕ α) × Mem → Res} {mc : Nat} {y0 : Option ((Nat ⊕ Nat) × Mem)} {f : Nat → Mem → Option ((Nat ⊕ α) × Mem)} (hcv : cvX cv) (ht : ∀ x ∈ c.exceptionTable.toList, False) (hst : st0 = As.reverse ++ rest) (hct : CT l D cy B kd n sa sv lv k y cc2 nL2 ret2 (xAc B) (As) M y0) (hw : ∀ w ∈ wS own idx y cc2 nL2 ret2, w ∈ GW) (hm : okM y nA) (hn : As.length = nA) (hR : okR R lv nL2 cu k) (hmc : cu + k ≤ mc) (hw8 : (rest.map fun v => v.category).sum ≤ 8) (d : decode cc pc = .ok (.invokestatic idx, 3)) (kk : ∀ v M1, y0 = some (.inr v, M1) → Z p l e R s m args below meth c (vx_MQ below (QcR D cy B kd n (cv b0)) (XcR D cy B kd n (cv b0)) args s mc (6 * mc) (AA B kd n)) D cy B kd n nL b0 (cu + k) (pc + 3) ls (.ref (B + v) :: rest) (M1) (f v M1)) : Z p l e R s m args below meth c (vx_MQ below (QcR D cy B kd n (cv b0)) (XcR D cy B kd n (cv b0)) args s mc (6 * mc) (AA B kd n)) D cy B kd n nL b0 (cu) (pc) ls (st0) (M) (xb y0 f) := by
  intro hx H locs lsA cells slots hc hs hH hS hl
  subst hst
  unfold xb at hx
  cases hb : y0 with
  | none => rw [hb] at hx; cases hx
  | some b =>
    rw [hb, Option.bind_some] at hx
    obtain ⟨r, M1⟩ := b
    cases r with
    | inl kx =>
      refine z_after (run_S C (Cn := own) (As := As) (rest := rest) hct hb hw hm hn hR hc hs hH hS hl hw8 d) hS (fun code ce q9 H1 locs1 h hH1 hS1 hce hcv9 hcl9 => ?_) (fun v H1 locs1 h => by cases h)
      cases h
      cases hx
      exact vx_out (E := exN kx) (fun x hx9 => (ht x hx9).elim) C.2.2.2.2.2.2.2.2 hce hcv9 hcl9 (fun t ht9 _ => ⟨kx, by rw [hcv], rfl, by rw [hcv, ht9]; exact hH1, hS1.F ht9⟩) hS1.2.2 (by omega) (by omega)
    | inr v =>
      refine z_after (run_S C (Cn := own) (As := As) (rest := rest) hct hb hw hm hn hR hc hs hH hS hl hw8 d) hS (fun code ce q9 H1 locs1 h => by cases h) (fun v9 H1 locs1 h hH1 hS1 => ?_)
      cases h
      exact kk v M1 hb hx H1 locs1 lsA (cells + k) (slots + 6 * k) (by omega) (by omega) hH1 hS1 hl
theorem z_callXS_V (C : zC p l s m args meth c D cy B kd n sa sv own cc nL) {idx lv k nL2 nA : Nat} {y : MethodName} {cc2 : ByteArray} {ret2 : Option FieldType} {As rest st0 : List Value} {cv : (Nat ⊕ α) × Mem → Res} {mc : Nat} {y0 : Option ((Nat ⊕ Unit) × Mem)} {f : Unit → Mem → Option ((Nat ⊕ α) × Mem)} (hcv : cvX cv) (ht : ∀ x ∈ c.exceptionTable.toList, False) (hst : st0 = As.reverse ++ rest) (hct : CT l D cy B kd n sa sv lv k y cc2 nL2 ret2 (xVc) (As) M y0) (hw : ∀ w ∈ wS own idx y cc2 nL2 ret2, w ∈ GW) (hm : okM y nA) (hn : As.length = nA) (hR : okR R lv nL2 cu k) (hmc : cu + k ≤ mc) (hw8 : (rest.map fun v => v.category).sum ≤ 8) (d : decode cc pc = .ok (.invokestatic idx, 3)) (kk : ∀ v M1, y0 = some (.inr v, M1) → Z p l e R s m args below meth c (vx_MQ below (QcR D cy B kd n (cv b0)) (XcR D cy B kd n (cv b0)) args s mc (6 * mc) (AA B kd n)) D cy B kd n nL b0 (cu + k) (pc + 3) ls (rest) (M1) (f v M1)) : Z p l e R s m args below meth c (vx_MQ below (QcR D cy B kd n (cv b0)) (XcR D cy B kd n (cv b0)) args s mc (6 * mc) (AA B kd n)) D cy B kd n nL b0 (cu) (pc) ls (st0) (M) (xb y0 f) := by
  intro hx H locs lsA cells slots hc hs hH hS hl
  subst hst
  unfold xb at hx
  cases hb : y0 with
  | none => rw [hb] at hx; cases hx
  | some b =>
    rw [hb, Option.bind_some] at hx
    obtain ⟨r, M1⟩ := b
    cases r with
    | inl kx =>
      refine z_after (run_S C (Cn := own) (As := As) (rest := rest) hct hb hw hm hn hR hc hs hH hS hl hw8 d) hS (fun code ce q9 H1 locs1 h hH1 hS1 hce hcv9 hcl9 => ?_) (fun v H1 locs1 h => by cases h)
      cases h
      cases hx
      exact vx_out (E := exN kx) (fun x hx9 => (ht x hx9).elim) C.2.2.2.2.2.2.2.2 hce hcv9 hcl9 (fun t ht9 _ => ⟨kx, by rw [hcv], rfl, by rw [hcv, ht9]; exact hH1, hS1.F ht9⟩) hS1.2.2 (by omega) (by omega)
    | inr v =>
      refine z_after (run_S C (Cn := own) (As := As) (rest := rest) hct hb hw hm hn hR hc hs hH hS hl hw8 d) hS (fun code ce q9 H1 locs1 h => by cases h) (fun v9 H1 locs1 h hH1 hS1 => ?_)
      cases h
      exact kk v M1 hb hx H1 locs1 lsA (cells + k) (slots + 6 * k) (by omega) (by omega) hH1 hS1 hl
theorem z_callXVN_I (C : zC p l s m args meth c D cy B kd n sa sv own cc nL) {idx lv k nL2 nA : Nat} {y : MethodName} {cc2 : ByteArray} {ret2 : Option FieldType} {As rest st0 : List Value} {Cn : String} {a K : Nat} {T : u_T} {N : Nat} {ty0 : Nat → FieldType} {host : String} {cv : (Nat ⊕ α) × Mem → Res} {mc : Nat} {y0 : Option ((Nat ⊕ Int32) × Mem)} {f : Int32 → Mem → Option ((Nat ⊕ α) × Mem)} (hcv : cvX cv) (ht : ∀ x ∈ c.exceptionTable.toList, False) (hst : st0 = As.reverse ++ .ref (B + a) :: rest) (hct : CT l D cy B kd n sa sv lv k y cc2 nL2 ret2 (xIc) ((.ref (B + a) :: As)) M y0) (hw : ∀ w ∈ wN y Cn cc2 nL2 ret2, w ∈ GW) (hN : Cond.methodLinkNest own idx y host ∈ NW) (hy : y.cls = Cn) (hm : okM y nA) (hn : As.length = nA) (hcl : clOk K Cn T N ty0) (hk : kd a = K) (hR : okR R lv nL2 cu k) (hmc : cu + k ≤ mc) (hw8 : (rest.map fun v => v.category).sum ≤ 8) (d : decode cc pc = .ok (.invokevirtual idx, 3)) (kk : ∀ v M1, y0 = some (.inr v, M1) → Z p l e R s m args below meth c (vx_MQ below (QcR D cy B kd n (cv b0)) (XcR D cy B kd n (cv b0)) args s mc (6 * mc) (AA B kd n)) D cy B kd n nL b0 (cu + k) (pc + 3) ls (.int v :: rest) (M1) (f v M1)) : Z p l e R s m args below meth c (vx_MQ below (QcR D cy B kd n (cv b0)) (XcR D cy B kd n (cv b0)) args s mc (6 * mc) (AA B kd n)) D cy B kd n nL b0 (cu) (pc) ls (st0) (M) (xb y0 f) := by
  intro hx H locs lsA cells slots hc hs hH hS hl
  subst hst
  unfold xb at hx
  cases hb : y0 with
  | none => rw [hb] at hx; cases hx
  | some b =>
    rw [hb, Option.bind_some] at hx
    obtain ⟨r, M1⟩ := b
    cases r with
    | inl kx =>
      refine z_after (run_VN C (As := As) (rest := rest) hct hb hw hN hy hm hn hcl hk hR hc hs hH hS hl hw8 d) hS (fun code ce q9 H1 locs1 h hH1 hS1 hce hcv9 hcl9 => ?_) (fun v H1 locs1 h => by cases h)
      cases h
      cases hx
      exact vx_out (E := exN kx) (fun x hx9 => (ht x hx9).elim) C.2.2.2.2.2.2.2.2 hce hcv9 hcl9 (fun t ht9 _ => ⟨kx, by rw [hcv], rfl, by rw [hcv, ht9]; exact hH1, hS1.F ht9⟩) hS1.2.2 (by omega) (by omega)
    | inr v =>
      refine z_after (run_VN C (As := As) (rest := rest) hct hb hw hN hy hm hn hcl hk hR hc hs hH hS hl hw8 d) hS (fun code ce q9 H1 locs1 h => by cases h) (fun v9 H1 locs1 h hH1 hS1 => ?_)
      cases h
      exact kk v M1 hb hx H1 locs1 lsA (cells + k) (slots + 6 * k) (by omega) (by omega) hH1 hS1 hl
theorem z_callXVN_B (C : zC p l s m args meth c D cy B kd n sa sv own cc nL) {idx lv k nL2 nA : Nat} {y : MethodName} {cc2 : ByteArray} {ret2 : Option FieldType} {As rest st0 : List Value} {Cn : String} {a K : Nat} {T : u_T} {N : Nat} {ty0 : Nat → FieldType} {host : String} {cv : (Nat ⊕ α) × Mem → Res} {mc : Nat} {y0 : Option ((Nat ⊕ Bool) × Mem)} {f : Bool → Mem → Option ((Nat ⊕ α) × Mem)} (hcv : cvX cv) (ht : ∀ x ∈ c.exceptionTable.toList, False) (hst : st0 = As.reverse ++ .ref (B + a) :: rest) (hct : CT l D cy B kd n sa sv lv k y cc2 nL2 ret2 (xBc) ((.ref (B + a) :: As)) M y0) (hw : ∀ w ∈ wN y Cn cc2 nL2 ret2, w ∈ GW) (hN : Cond.methodLinkNest own idx y host ∈ NW) (hy : y.cls = Cn) (hm : okM y nA) (hn : As.length = nA) (hcl : clOk K Cn T N ty0) (hk : kd a = K) (hR : okR R lv nL2 cu k) (hmc : cu + k ≤ mc) (hw8 : (rest.map fun v => v.category).sum ≤ 8) (d : decode cc pc = .ok (.invokevirtual idx, 3)) (kk : ∀ v M1, y0 = some (.inr v, M1) → Z p l e R s m args below meth c (vx_MQ below (QcR D cy B kd n (cv b0)) (XcR D cy B kd n (cv b0)) args s mc (6 * mc) (AA B kd n)) D cy B kd n nL b0 (cu + k) (pc + 3) ls (.int (bI v) :: rest) (M1) (f v M1)) : Z p l e R s m args below meth c (vx_MQ below (QcR D cy B kd n (cv b0)) (XcR D cy B kd n (cv b0)) args s mc (6 * mc) (AA B kd n)) D cy B kd n nL b0 (cu) (pc) ls (st0) (M) (xb y0 f) := by
  intro hx H locs lsA cells slots hc hs hH hS hl
  subst hst
  unfold xb at hx
  cases hb : y0 with
  | none => rw [hb] at hx; cases hx
  | some b =>
    rw [hb, Option.bind_some] at hx
    obtain ⟨r, M1⟩ := b
    cases r with
    | inl kx =>
      refine z_after (run_VN C (As := As) (rest := rest) hct hb hw hN hy hm hn hcl hk hR hc hs hH hS hl hw8 d) hS (fun code ce q9 H1 locs1 h hH1 hS1 hce hcv9 hcl9 => ?_) (fun v H1 locs1 h => by cases h)
      cases h
      cases hx
      exact vx_out (E := exN kx) (fun x hx9 => (ht x hx9).elim) C.2.2.2.2.2.2.2.2 hce hcv9 hcl9 (fun t ht9 _ => ⟨kx, by rw [hcv], rfl, by rw [hcv, ht9]; exact hH1, hS1.F ht9⟩) hS1.2.2 (by omega) (by omega)
    | inr v =>
      refine z_after (run_VN C (As := As) (rest := rest) hct hb hw hN hy hm hn hcl hk hR hc hs hH hS hl hw8 d) hS (fun code ce q9 H1 locs1 h => by cases h) (fun v9 H1 locs1 h hH1 hS1 => ?_)
      cases h
      exact kk v M1 hb hx H1 locs1 lsA (cells + k) (slots + 6 * k) (by omega) (by omega) hH1 hS1 hl
theorem z_callXVN_J (C : zC p l s m args meth c D cy B kd n sa sv own cc nL) {idx lv k nL2 nA : Nat} {y : MethodName} {cc2 : ByteArray} {ret2 : Option FieldType} {As rest st0 : List Value} {Cn : String} {a K : Nat} {T : u_T} {N : Nat} {ty0 : Nat → FieldType} {host : String} {cv : (Nat ⊕ α) × Mem → Res} {mc : Nat} {y0 : Option ((Nat ⊕ Int64) × Mem)} {f : Int64 → Mem → Option ((Nat ⊕ α) × Mem)} (hcv : cvX cv) (ht : ∀ x ∈ c.exceptionTable.toList, False) (hst : st0 = As.reverse ++ .ref (B + a) :: rest) (hct : CT l D cy B kd n sa sv lv k y cc2 nL2 ret2 (xJc) ((.ref (B + a) :: As)) M y0) (hw : ∀ w ∈ wN y Cn cc2 nL2 ret2, w ∈ GW) (hN : Cond.methodLinkNest own idx y host ∈ NW) (hy : y.cls = Cn) (hm : okM y nA) (hn : As.length = nA) (hcl : clOk K Cn T N ty0) (hk : kd a = K) (hR : okR R lv nL2 cu k) (hmc : cu + k ≤ mc) (hw8 : (rest.map fun v => v.category).sum ≤ 8) (d : decode cc pc = .ok (.invokevirtual idx, 3)) (kk : ∀ v M1, y0 = some (.inr v, M1) → Z p l e R s m args below meth c (vx_MQ below (QcR D cy B kd n (cv b0)) (XcR D cy B kd n (cv b0)) args s mc (6 * mc) (AA B kd n)) D cy B kd n nL b0 (cu + k) (pc + 3) ls (.long v :: rest) (M1) (f v M1)) : Z p l e R s m args below meth c (vx_MQ below (QcR D cy B kd n (cv b0)) (XcR D cy B kd n (cv b0)) args s mc (6 * mc) (AA B kd n)) D cy B kd n nL b0 (cu) (pc) ls (st0) (M) (xb y0 f) := by
  intro hx H locs lsA cells slots hc hs hH hS hl
  subst hst
  unfold xb at hx
  cases hb : y0 with
  | none => rw [hb] at hx; cases hx
  | some b =>
    rw [hb, Option.bind_some] at hx
    obtain ⟨r, M1⟩ := b
    cases r with
    | inl kx =>
      refine z_after (run_VN C (As := As) (rest := rest) hct hb hw hN hy hm hn hcl hk hR hc hs hH hS hl hw8 d) hS (fun code ce q9 H1 locs1 h hH1 hS1 hce hcv9 hcl9 => ?_) (fun v H1 locs1 h => by cases h)
      cases h
      cases hx
      exact vx_out (E := exN kx) (fun x hx9 => (ht x hx9).elim) C.2.2.2.2.2.2.2.2 hce hcv9 hcl9 (fun t ht9 _ => ⟨kx, by rw [hcv], rfl, by rw [hcv, ht9]; exact hH1, hS1.F ht9⟩) hS1.2.2 (by omega) (by omega)
    | inr v =>
      refine z_after (run_VN C (As := As) (rest := rest) hct hb hw hN hy hm hn hcl hk hR hc hs hH hS hl hw8 d) hS (fun code ce q9 H1 locs1 h => by cases h) (fun v9 H1 locs1 h hH1 hS1 => ?_)
      cases h
      exact kk v M1 hb hx H1 locs1 lsA (cells + k) (slots + 6 * k) (by omega) (by omega) hH1 hS1 hl
theorem z_callXVN_A (C : zC p l s m args meth c D cy B kd n sa sv own cc nL) {idx lv k nL2 nA : Nat} {y : MethodName} {cc2 : ByteArray} {ret2 : Option FieldType} {As rest st0 : List Value} {Cn : String} {a K : Nat} {T : u_T} {N : Nat} {ty0 : Nat → FieldType} {host : String} {cv : (Nat ⊕ α) × Mem → Res} {mc : Nat} {y0 : Option ((Nat ⊕ Nat) × Mem)} {f : Nat → Mem → Option ((Nat ⊕ α) × Mem)} (hcv : cvX cv) (ht : ∀ x ∈ c.exceptionTable.toList, False) (hst : st0 = As.reverse ++ .ref (B + a) :: rest) (hct : CT l D cy B kd n sa sv lv k y cc2 nL2 ret2 (xAc B) ((.ref (B + a) :: As)) M y0) (hw : ∀ w ∈ wN y Cn cc2 nL2 ret2, w ∈ GW) (hN : Cond.methodLinkNest own idx y host ∈ NW) (hy : y.cls = Cn) (hm : okM y nA) (hn : As.length = nA) (hcl : clOk K Cn T N ty0) (hk : kd a = K) (hR : okR R lv nL2 cu k) (hmc : cu + k ≤ mc) (hw8 : (rest.map fun v => v.category).sum ≤ 8) (d : decode cc pc = .ok (.invokevirtual idx, 3)) (kk : ∀ v M1, y0 = some (.inr v, M1) → Z p l e R s m args below meth c (vx_MQ below (QcR D cy B kd n (cv b0)) (XcR D cy B kd n (cv b0)) args s mc (6 * mc) (AA B kd n)) D cy B kd n nL b0 (cu + k) (pc + 3) ls (.ref (B + v) :: rest) (M1) (f v M1)) : Z p l e R s m args below meth c (vx_MQ below (QcR D cy B kd n (cv b0)) (XcR D cy B kd n (cv b0)) args s mc (6 * mc) (AA B kd n)) D cy B kd n nL b0 (cu) (pc) ls (st0) (M) (xb y0 f) := by
  intro hx H locs lsA cells slots hc hs hH hS hl
  subst hst
  unfold xb at hx
  cases hb : y0 with
  | none => rw [hb] at hx; cases hx
  | some b =>
    rw [hb, Option.bind_some] at hx
    obtain ⟨r, M1⟩ := b
    cases r with
    | inl kx =>
      refine z_after (run_VN C (As := As) (rest := rest) hct hb hw hN hy hm hn hcl hk hR hc hs hH hS hl hw8 d) hS (fun code ce q9 H1 locs1 h hH1 hS1 hce hcv9 hcl9 => ?_) (fun v H1 locs1 h => by cases h)
      cases h
      cases hx
      exact vx_out (E := exN kx) (fun x hx9 => (ht x hx9).elim) C.2.2.2.2.2.2.2.2 hce hcv9 hcl9 (fun t ht9 _ => ⟨kx, by rw [hcv], rfl, by rw [hcv, ht9]; exact hH1, hS1.F ht9⟩) hS1.2.2 (by omega) (by omega)
    | inr v =>
      refine z_after (run_VN C (As := As) (rest := rest) hct hb hw hN hy hm hn hcl hk hR hc hs hH hS hl hw8 d) hS (fun code ce q9 H1 locs1 h => by cases h) (fun v9 H1 locs1 h hH1 hS1 => ?_)
      cases h
      exact kk v M1 hb hx H1 locs1 lsA (cells + k) (slots + 6 * k) (by omega) (by omega) hH1 hS1 hl
theorem z_callXVN_V (C : zC p l s m args meth c D cy B kd n sa sv own cc nL) {idx lv k nL2 nA : Nat} {y : MethodName} {cc2 : ByteArray} {ret2 : Option FieldType} {As rest st0 : List Value} {Cn : String} {a K : Nat} {T : u_T} {N : Nat} {ty0 : Nat → FieldType} {host : String} {cv : (Nat ⊕ α) × Mem → Res} {mc : Nat} {y0 : Option ((Nat ⊕ Unit) × Mem)} {f : Unit → Mem → Option ((Nat ⊕ α) × Mem)} (hcv : cvX cv) (ht : ∀ x ∈ c.exceptionTable.toList, False) (hst : st0 = As.reverse ++ .ref (B + a) :: rest) (hct : CT l D cy B kd n sa sv lv k y cc2 nL2 ret2 (xVc) ((.ref (B + a) :: As)) M y0) (hw : ∀ w ∈ wN y Cn cc2 nL2 ret2, w ∈ GW) (hN : Cond.methodLinkNest own idx y host ∈ NW) (hy : y.cls = Cn) (hm : okM y nA) (hn : As.length = nA) (hcl : clOk K Cn T N ty0) (hk : kd a = K) (hR : okR R lv nL2 cu k) (hmc : cu + k ≤ mc) (hw8 : (rest.map fun v => v.category).sum ≤ 8) (d : decode cc pc = .ok (.invokevirtual idx, 3)) (kk : ∀ v M1, y0 = some (.inr v, M1) → Z p l e R s m args below meth c (vx_MQ below (QcR D cy B kd n (cv b0)) (XcR D cy B kd n (cv b0)) args s mc (6 * mc) (AA B kd n)) D cy B kd n nL b0 (cu + k) (pc + 3) ls (rest) (M1) (f v M1)) : Z p l e R s m args below meth c (vx_MQ below (QcR D cy B kd n (cv b0)) (XcR D cy B kd n (cv b0)) args s mc (6 * mc) (AA B kd n)) D cy B kd n nL b0 (cu) (pc) ls (st0) (M) (xb y0 f) := by
  intro hx H locs lsA cells slots hc hs hH hS hl
  subst hst
  unfold xb at hx
  cases hb : y0 with
  | none => rw [hb] at hx; cases hx
  | some b =>
    rw [hb, Option.bind_some] at hx
    obtain ⟨r, M1⟩ := b
    cases r with
    | inl kx =>
      refine z_after (run_VN C (As := As) (rest := rest) hct hb hw hN hy hm hn hcl hk hR hc hs hH hS hl hw8 d) hS (fun code ce q9 H1 locs1 h hH1 hS1 hce hcv9 hcl9 => ?_) (fun v H1 locs1 h => by cases h)
      cases h
      cases hx
      exact vx_out (E := exN kx) (fun x hx9 => (ht x hx9).elim) C.2.2.2.2.2.2.2.2 hce hcv9 hcl9 (fun t ht9 _ => ⟨kx, by rw [hcv], rfl, by rw [hcv, ht9]; exact hH1, hS1.F ht9⟩) hS1.2.2 (by omega) (by omega)
    | inr v =>
      refine z_after (run_VN C (As := As) (rest := rest) hct hb hw hN hy hm hn hcl hk hR hc hs hH hS hl hw8 d) hS (fun code ce q9 H1 locs1 h => by cases h) (fun v9 H1 locs1 h hH1 hS1 => ?_)
      cases h
      exact kk v M1 hb hx H1 locs1 lsA (cells + k) (slots + 6 * k) (by omega) (by omega) hH1 hS1 hl
theorem z_callXSN_I (C : zC p l s m args meth c D cy B kd n sa sv own cc nL) {idx lv k nL2 nA : Nat} {y : MethodName} {cc2 : ByteArray} {ret2 : Option FieldType} {As rest st0 : List Value} {host : String} {cv : (Nat ⊕ α) × Mem → Res} {mc : Nat} {y0 : Option ((Nat ⊕ Int32) × Mem)} {f : Int32 → Mem → Option ((Nat ⊕ α) × Mem)} (hcv : cvX cv) (ht : ∀ x ∈ c.exceptionTable.toList, False) (hst : st0 = As.reverse ++ rest) (hct : CT l D cy B kd n sa sv lv k y cc2 nL2 ret2 (xIc) (As) M y0) (hw : ∀ w ∈ wSN y cc2 nL2 ret2, w ∈ GW) (hN : Cond.methodLinkNest own idx y host ∈ NW) (hm : okM y nA) (hn : As.length = nA) (hR : okR R lv nL2 cu k) (hmc : cu + k ≤ mc) (hw8 : (rest.map fun v => v.category).sum ≤ 8) (d : decode cc pc = .ok (.invokestatic idx, 3)) (kk : ∀ v M1, y0 = some (.inr v, M1) → Z p l e R s m args below meth c (vx_MQ below (QcR D cy B kd n (cv b0)) (XcR D cy B kd n (cv b0)) args s mc (6 * mc) (AA B kd n)) D cy B kd n nL b0 (cu + k) (pc + 3) ls (.int v :: rest) (M1) (f v M1)) : Z p l e R s m args below meth c (vx_MQ below (QcR D cy B kd n (cv b0)) (XcR D cy B kd n (cv b0)) args s mc (6 * mc) (AA B kd n)) D cy B kd n nL b0 (cu) (pc) ls (st0) (M) (xb y0 f) := by
  intro hx H locs lsA cells slots hc hs hH hS hl
  subst hst
  unfold xb at hx
  cases hb : y0 with
  | none => rw [hb] at hx; cases hx
  | some b =>
    rw [hb, Option.bind_some] at hx
    obtain ⟨r, M1⟩ := b
    cases r with
    | inl kx =>
      refine z_after (run_SN C (Cn := own) (As := As) (rest := rest) hct hb hw hN hm hn hR hc hs hH hS hl hw8 d) hS (fun code ce q9 H1 locs1 h hH1 hS1 hce hcv9 hcl9 => ?_) (fun v H1 locs1 h => by cases h)
      cases h
      cases hx
      exact vx_out (E := exN kx) (fun x hx9 => (ht x hx9).elim) C.2.2.2.2.2.2.2.2 hce hcv9 hcl9 (fun t ht9 _ => ⟨kx, by rw [hcv], rfl, by rw [hcv, ht9]; exact hH1, hS1.F ht9⟩) hS1.2.2 (by omega) (by omega)
    | inr v =>
      refine z_after (run_SN C (Cn := own) (As := As) (rest := rest) hct hb hw hN hm hn hR hc hs hH hS hl hw8 d) hS (fun code ce q9 H1 locs1 h => by cases h) (fun v9 H1 locs1 h hH1 hS1 => ?_)
      cases h
      exact kk v M1 hb hx H1 locs1 lsA (cells + k) (slots + 6 * k) (by omega) (by omega) hH1 hS1 hl
theorem z_callXSN_B (C : zC p l s m args meth c D cy B kd n sa sv own cc nL) {idx lv k nL2 nA : Nat} {y : MethodName} {cc2 : ByteArray} {ret2 : Option FieldType} {As rest st0 : List Value} {host : String} {cv : (Nat ⊕ α) × Mem → Res} {mc : Nat} {y0 : Option ((Nat ⊕ Bool) × Mem)} {f : Bool → Mem → Option ((Nat ⊕ α) × Mem)} (hcv : cvX cv) (ht : ∀ x ∈ c.exceptionTable.toList, False) (hst : st0 = As.reverse ++ rest) (hct : CT l D cy B kd n sa sv lv k y cc2 nL2 ret2 (xBc) (As) M y0) (hw : ∀ w ∈ wSN y cc2 nL2 ret2, w ∈ GW) (hN : Cond.methodLinkNest own idx y host ∈ NW) (hm : okM y nA) (hn : As.length = nA) (hR : okR R lv nL2 cu k) (hmc : cu + k ≤ mc) (hw8 : (rest.map fun v => v.category).sum ≤ 8) (d : decode cc pc = .ok (.invokestatic idx, 3)) (kk : ∀ v M1, y0 = some (.inr v, M1) → Z p l e R s m args below meth c (vx_MQ below (QcR D cy B kd n (cv b0)) (XcR D cy B kd n (cv b0)) args s mc (6 * mc) (AA B kd n)) D cy B kd n nL b0 (cu + k) (pc + 3) ls (.int (bI v) :: rest) (M1) (f v M1)) : Z p l e R s m args below meth c (vx_MQ below (QcR D cy B kd n (cv b0)) (XcR D cy B kd n (cv b0)) args s mc (6 * mc) (AA B kd n)) D cy B kd n nL b0 (cu) (pc) ls (st0) (M) (xb y0 f) := by
  intro hx H locs lsA cells slots hc hs hH hS hl
  subst hst
  unfold xb at hx
  cases hb : y0 with
  | none => rw [hb] at hx; cases hx
  | some b =>
    rw [hb, Option.bind_some] at hx
    obtain ⟨r, M1⟩ := b
    cases r with
    | inl kx =>
      refine z_after (run_SN C (Cn := own) (As := As) (rest := rest) hct hb hw hN hm hn hR hc hs hH hS hl hw8 d) hS (fun code ce q9 H1 locs1 h hH1 hS1 hce hcv9 hcl9 => ?_) (fun v H1 locs1 h => by cases h)
      cases h
      cases hx
      exact vx_out (E := exN kx) (fun x hx9 => (ht x hx9).elim) C.2.2.2.2.2.2.2.2 hce hcv9 hcl9 (fun t ht9 _ => ⟨kx, by rw [hcv], rfl, by rw [hcv, ht9]; exact hH1, hS1.F ht9⟩) hS1.2.2 (by omega) (by omega)
    | inr v =>
      refine z_after (run_SN C (Cn := own) (As := As) (rest := rest) hct hb hw hN hm hn hR hc hs hH hS hl hw8 d) hS (fun code ce q9 H1 locs1 h => by cases h) (fun v9 H1 locs1 h hH1 hS1 => ?_)
      cases h
      exact kk v M1 hb hx H1 locs1 lsA (cells + k) (slots + 6 * k) (by omega) (by omega) hH1 hS1 hl
theorem z_callXSN_J (C : zC p l s m args meth c D cy B kd n sa sv own cc nL) {idx lv k nL2 nA : Nat} {y : MethodName} {cc2 : ByteArray} {ret2 : Option FieldType} {As rest st0 : List Value} {host : String} {cv : (Nat ⊕ α) × Mem → Res} {mc : Nat} {y0 : Option ((Nat ⊕ Int64) × Mem)} {f : Int64 → Mem → Option ((Nat ⊕ α) × Mem)} (hcv : cvX cv) (ht : ∀ x ∈ c.exceptionTable.toList, False) (hst : st0 = As.reverse ++ rest) (hct : CT l D cy B kd n sa sv lv k y cc2 nL2 ret2 (xJc) (As) M y0) (hw : ∀ w ∈ wSN y cc2 nL2 ret2, w ∈ GW) (hN : Cond.methodLinkNest own idx y host ∈ NW) (hm : okM y nA) (hn : As.length = nA) (hR : okR R lv nL2 cu k) (hmc : cu + k ≤ mc) (hw8 : (rest.map fun v => v.category).sum ≤ 8) (d : decode cc pc = .ok (.invokestatic idx, 3)) (kk : ∀ v M1, y0 = some (.inr v, M1) → Z p l e R s m args below meth c (vx_MQ below (QcR D cy B kd n (cv b0)) (XcR D cy B kd n (cv b0)) args s mc (6 * mc) (AA B kd n)) D cy B kd n nL b0 (cu + k) (pc + 3) ls (.long v :: rest) (M1) (f v M1)) : Z p l e R s m args below meth c (vx_MQ below (QcR D cy B kd n (cv b0)) (XcR D cy B kd n (cv b0)) args s mc (6 * mc) (AA B kd n)) D cy B kd n nL b0 (cu) (pc) ls (st0) (M) (xb y0 f) := by
  intro hx H locs lsA cells slots hc hs hH hS hl
  subst hst
  unfold xb at hx
  cases hb : y0 with
  | none => rw [hb] at hx; cases hx
  | some b =>
    rw [hb, Option.bind_some] at hx
    obtain ⟨r, M1⟩ := b
    cases r with
    | inl kx =>
      refine z_after (run_SN C (Cn := own) (As := As) (rest := rest) hct hb hw hN hm hn hR hc hs hH hS hl hw8 d) hS (fun code ce q9 H1 locs1 h hH1 hS1 hce hcv9 hcl9 => ?_) (fun v H1 locs1 h => by cases h)
      cases h
      cases hx
      exact vx_out (E := exN kx) (fun x hx9 => (ht x hx9).elim) C.2.2.2.2.2.2.2.2 hce hcv9 hcl9 (fun t ht9 _ => ⟨kx, by rw [hcv], rfl, by rw [hcv, ht9]; exact hH1, hS1.F ht9⟩) hS1.2.2 (by omega) (by omega)
    | inr v =>
      refine z_after (run_SN C (Cn := own) (As := As) (rest := rest) hct hb hw hN hm hn hR hc hs hH hS hl hw8 d) hS (fun code ce q9 H1 locs1 h => by cases h) (fun v9 H1 locs1 h hH1 hS1 => ?_)
      cases h
      exact kk v M1 hb hx H1 locs1 lsA (cells + k) (slots + 6 * k) (by omega) (by omega) hH1 hS1 hl
theorem z_callXSN_A (C : zC p l s m args meth c D cy B kd n sa sv own cc nL) {idx lv k nL2 nA : Nat} {y : MethodName} {cc2 : ByteArray} {ret2 : Option FieldType} {As rest st0 : List Value} {host : String} {cv : (Nat ⊕ α) × Mem → Res} {mc : Nat} {y0 : Option ((Nat ⊕ Nat) × Mem)} {f : Nat → Mem → Option ((Nat ⊕ α) × Mem)} (hcv : cvX cv) (ht : ∀ x ∈ c.exceptionTable.toList, False) (hst : st0 = As.reverse ++ rest) (hct : CT l D cy B kd n sa sv lv k y cc2 nL2 ret2 (xAc B) (As) M y0) (hw : ∀ w ∈ wSN y cc2 nL2 ret2, w ∈ GW) (hN : Cond.methodLinkNest own idx y host ∈ NW) (hm : okM y nA) (hn : As.length = nA) (hR : okR R lv nL2 cu k) (hmc : cu + k ≤ mc) (hw8 : (rest.map fun v => v.category).sum ≤ 8) (d : decode cc pc = .ok (.invokestatic idx, 3)) (kk : ∀ v M1, y0 = some (.inr v, M1) → Z p l e R s m args below meth c (vx_MQ below (QcR D cy B kd n (cv b0)) (XcR D cy B kd n (cv b0)) args s mc (6 * mc) (AA B kd n)) D cy B kd n nL b0 (cu + k) (pc + 3) ls (.ref (B + v) :: rest) (M1) (f v M1)) : Z p l e R s m args below meth c (vx_MQ below (QcR D cy B kd n (cv b0)) (XcR D cy B kd n (cv b0)) args s mc (6 * mc) (AA B kd n)) D cy B kd n nL b0 (cu) (pc) ls (st0) (M) (xb y0 f) := by
  intro hx H locs lsA cells slots hc hs hH hS hl
  subst hst
  unfold xb at hx
  cases hb : y0 with
  | none => rw [hb] at hx; cases hx
  | some b =>
    rw [hb, Option.bind_some] at hx
    obtain ⟨r, M1⟩ := b
    cases r with
    | inl kx =>
      refine z_after (run_SN C (Cn := own) (As := As) (rest := rest) hct hb hw hN hm hn hR hc hs hH hS hl hw8 d) hS (fun code ce q9 H1 locs1 h hH1 hS1 hce hcv9 hcl9 => ?_) (fun v H1 locs1 h => by cases h)
      cases h
      cases hx
      exact vx_out (E := exN kx) (fun x hx9 => (ht x hx9).elim) C.2.2.2.2.2.2.2.2 hce hcv9 hcl9 (fun t ht9 _ => ⟨kx, by rw [hcv], rfl, by rw [hcv, ht9]; exact hH1, hS1.F ht9⟩) hS1.2.2 (by omega) (by omega)
    | inr v =>
      refine z_after (run_SN C (Cn := own) (As := As) (rest := rest) hct hb hw hN hm hn hR hc hs hH hS hl hw8 d) hS (fun code ce q9 H1 locs1 h => by cases h) (fun v9 H1 locs1 h hH1 hS1 => ?_)
      cases h
      exact kk v M1 hb hx H1 locs1 lsA (cells + k) (slots + 6 * k) (by omega) (by omega) hH1 hS1 hl
theorem z_callXSN_V (C : zC p l s m args meth c D cy B kd n sa sv own cc nL) {idx lv k nL2 nA : Nat} {y : MethodName} {cc2 : ByteArray} {ret2 : Option FieldType} {As rest st0 : List Value} {host : String} {cv : (Nat ⊕ α) × Mem → Res} {mc : Nat} {y0 : Option ((Nat ⊕ Unit) × Mem)} {f : Unit → Mem → Option ((Nat ⊕ α) × Mem)} (hcv : cvX cv) (ht : ∀ x ∈ c.exceptionTable.toList, False) (hst : st0 = As.reverse ++ rest) (hct : CT l D cy B kd n sa sv lv k y cc2 nL2 ret2 (xVc) (As) M y0) (hw : ∀ w ∈ wSN y cc2 nL2 ret2, w ∈ GW) (hN : Cond.methodLinkNest own idx y host ∈ NW) (hm : okM y nA) (hn : As.length = nA) (hR : okR R lv nL2 cu k) (hmc : cu + k ≤ mc) (hw8 : (rest.map fun v => v.category).sum ≤ 8) (d : decode cc pc = .ok (.invokestatic idx, 3)) (kk : ∀ v M1, y0 = some (.inr v, M1) → Z p l e R s m args below meth c (vx_MQ below (QcR D cy B kd n (cv b0)) (XcR D cy B kd n (cv b0)) args s mc (6 * mc) (AA B kd n)) D cy B kd n nL b0 (cu + k) (pc + 3) ls (rest) (M1) (f v M1)) : Z p l e R s m args below meth c (vx_MQ below (QcR D cy B kd n (cv b0)) (XcR D cy B kd n (cv b0)) args s mc (6 * mc) (AA B kd n)) D cy B kd n nL b0 (cu) (pc) ls (st0) (M) (xb y0 f) := by
  intro hx H locs lsA cells slots hc hs hH hS hl
  subst hst
  unfold xb at hx
  cases hb : y0 with
  | none => rw [hb] at hx; cases hx
  | some b =>
    rw [hb, Option.bind_some] at hx
    obtain ⟨r, M1⟩ := b
    cases r with
    | inl kx =>
      refine z_after (run_SN C (Cn := own) (As := As) (rest := rest) hct hb hw hN hm hn hR hc hs hH hS hl hw8 d) hS (fun code ce q9 H1 locs1 h hH1 hS1 hce hcv9 hcl9 => ?_) (fun v H1 locs1 h => by cases h)
      cases h
      cases hx
      exact vx_out (E := exN kx) (fun x hx9 => (ht x hx9).elim) C.2.2.2.2.2.2.2.2 hce hcv9 hcl9 (fun t ht9 _ => ⟨kx, by rw [hcv], rfl, by rw [hcv, ht9]; exact hH1, hS1.F ht9⟩) hS1.2.2 (by omega) (by omega)
    | inr v =>
      refine z_after (run_SN C (Cn := own) (As := As) (rest := rest) hct hb hw hN hm hn hR hc hs hH hS hl hw8 d) hS (fun code ce q9 H1 locs1 h => by cases h) (fun v9 H1 locs1 h hH1 hS1 => ?_)
      cases h
      exact kk v M1 hb hx H1 locs1 lsA (cells + k) (slots + 6 * k) (by omega) (by omega) hH1 hS1 hl
/-- an exception's class: its chain up to Throwable, its words -/
def exOk (code : Nat) (names : List String) : Prop := Bundle.fit (exN code) = true ∧ (∀ q ∈ names, Bundle.fit q = true) ∧ names.length = 2 ∧ Cond.initialized (exN code) ∈ GW ∧ ∀ (own : String) (ic : Nat), (∀ w ∈ vx_atS own ic (exN code) names, w = Cond.methodLink own ic (Bundle.initS (exN code)) ∨ w ∈ GW ∨ w ∈ NW)
theorem vx_ot_GW {w : Cond} (h : w ∈ GW) : vx_ot w = true := by
  unfold vx_ot
  rw [GW_good w h, Bool.or_true]
theorem vx_ot_NW {w : Cond} (h : w ∈ NW) : vx_ot w = true := by
  have h1 := (List.mem_filter.mp h).2
  cases w <;> first | (simp [nwF] at h1; done) | rfl
theorem z_throw (C : zC p l s m args meth c D cy B kd n sa sv own cc nL) {cv : (Nat ⊕ α) × Mem → Res} {mc code ik is ic i : Nat} {names : List String} {text : String} (hcv : cvX cv) (ht : ∀ x ∈ c.exceptionTable.toList, False) (hex : exOk code names) (hk : Cond.classLink own ik (exN code) ∈ GW) (hl9 : Cond.methodLink own ic (Bundle.initS (exN code)) ∈ GW) (hi : txtS[i]? = some (own, is, text)) (hR : 6 ≤ R.frames ∧ 100 ≤ R.locals ∧ cu + 1 ≤ R.cells ∧ 6 * (cu + 1) ≤ R.slots) (hmc : cu + 1 ≤ mc) (hw8 : (st.map fun v => v.category).sum ≤ 8) (d0 : decode cc pc = .ok (.new ik, 3)) (d3 : decode cc (pc + 3) = .ok (.dup, 1)) (d4 : decode cc (pc + 4) = .ok (.ldc is, 2)) (d6 : decode cc (pc + 6) = .ok (.invokespecial ic, 3)) (d9 : decode cc (pc + 9) = .ok (.athrow, 1)) : Z p l e R s m args below meth c (vx_MQ below (QcR D cy B kd n (cv b0)) (XcR D cy B kd n (cv b0)) args s mc (6 * mc) (AA B kd n)) D cy B kd n nL b0 (cu) (pc) ls (st) (M) (some (.inl code, M)) := by
  intro hx H locs lsA cells slots hc hs hH hS hl
  cases hx
  obtain ⟨e1, e2, e3, e4, e5⟩ := hex
  obtain ⟨r1, r2, r3, r4⟩ := hR
  have hG := C.2.2.2.2.1
  have hX := C.2.2.2.2.2.2.1
  have hin : ∀ w ∈ vx_atS own ic (exN code) names, w ∈ GW ∨ w ∈ NW := fun w hw => by
    rcases e5 own ic w hw with q | q
    · rw [q]; exact Or.inl hl9
    · exact q
  refine vx_throwS C.1 C.2.1 C.2.2.2.2.2.2.2.1 (own := own) (cls := exN code) (text := text) (names := names) (sa := sa i) C.2.2.2.1 e1 e2 (hG _ hk) (hG _ e4) (hX.2.2.2.2.2.1 i _ hi) (fun w hw => ?_) (fun w hw => ?_) hX.2.1 hX.2.2.1 hS (hl.1.trans C.2.2.1.symm) d0 d3 d4 d6 d9 (fun x hx9 => (ht x hx9).elim) (by omega) (by rw [e3]; omega) (by omega) (by omega) C.2.2.2.2.2.2.2.2 (fun t hA h1 h2 => ⟨code, by rw [hcv], rfl, ?_, ?_⟩) hS.2.2 (by omega) (by omega)
  · rcases hin w hw with q | q
    · exact hG w q
    · exact va_Nw.use (by have h1 := (List.mem_filter.mp q).2; cases w <;> first | (simp [nwF] at h1; done) | rfl) (hX.2.2.2.1 w q)
  · rcases List.mem_cons.mp hw with q | q
    · rw [q]; exact vx_ot_GW hk
    · rcases List.mem_cons.mp q with q | q
      · rw [q]; exact vx_ot_GW e4
      · exact (hin w q).elim vx_ot_GW vx_ot_NW
  · rw [hcv]
    exact hH.kept (fun k q hk => h2 q.1 ((hH k q hk).lt))
  · exact ⟨Nat.le_trans hS.1 h1, fun q h3 h4 => by rw [h2 q (Nat.lt_of_lt_of_le h3 hS.1)]; exact hS.2.1 q h3 h4⟩
theorem z_throwW (C : zC p l s m args meth c D cy B kd n sa sv own cc nL) {cv : (Nat ⊕ α) × Mem → Res} {mc code ik is ic i : Nat} {names : List String} {text : String} (hcv : cvX cv) (ht : ∀ x ∈ c.exceptionTable.toList, False) (hex : exOk code names) (hk : Cond.classLink own ik (exN code) ∈ GW) (hl9 : Cond.methodLink own ic (Bundle.initS (exN code)) ∈ GW) (hi : txtS[i]? = some (own, is, text)) (hR : 6 ≤ R.frames ∧ 100 ≤ R.locals ∧ cu + 1 ≤ R.cells ∧ 6 * (cu + 1) ≤ R.slots) (hmc : cu + 1 ≤ mc) (hw8 : (st.map fun v => v.category).sum ≤ 8) (d0 : decode cc pc = .ok (.new ik, 3)) (d3 : decode cc (pc + 3) = .ok (.dup, 1)) (d4 : decode cc (pc + 4) = .ok (.ldc_w is, 3)) (d6 : decode cc (pc + 7) = .ok (.invokespecial ic, 3)) (d9 : decode cc (pc + 10) = .ok (.athrow, 1)) : Z p l e R s m args below meth c (vx_MQ below (QcR D cy B kd n (cv b0)) (XcR D cy B kd n (cv b0)) args s mc (6 * mc) (AA B kd n)) D cy B kd n nL b0 (cu) (pc) ls (st) (M) (some (.inl code, M)) := by
  intro hx H locs lsA cells slots hc hs hH hS hl
  cases hx
  obtain ⟨e1, e2, e3, e4, e5⟩ := hex
  obtain ⟨r1, r2, r3, r4⟩ := hR
  have hG := C.2.2.2.2.1
  have hX := C.2.2.2.2.2.2.1
  have hin : ∀ w ∈ vx_atS own ic (exN code) names, w ∈ GW ∨ w ∈ NW := fun w hw => by
    rcases e5 own ic w hw with q | q
    · rw [q]; exact Or.inl hl9
    · exact q
  refine vx_throwSW C.1 C.2.1 C.2.2.2.2.2.2.2.1 (own := own) (cls := exN code) (text := text) (names := names) (sa := sa i) C.2.2.2.1 e1 e2 (hG _ hk) (hG _ e4) (hX.2.2.2.2.2.1 i _ hi) (fun w hw => ?_) (fun w hw => ?_) hX.2.1 hX.2.2.1 hS (hl.1.trans C.2.2.1.symm) d0 d3 d4 d6 d9 (fun x hx9 => (ht x hx9).elim) (by omega) (by rw [e3]; omega) (by omega) (by omega) C.2.2.2.2.2.2.2.2 (fun t hA h1 h2 => ⟨code, by rw [hcv], rfl, ?_, ?_⟩) hS.2.2 (by omega) (by omega)
  · rcases hin w hw with q | q
    · exact hG w q
    · exact va_Nw.use (by have h1 := (List.mem_filter.mp q).2; cases w <;> first | (simp [nwF] at h1; done) | rfl) (hX.2.2.2.1 w q)
  · rcases List.mem_cons.mp hw with q | q
    · rw [q]; exact vx_ot_GW hk
    · rcases List.mem_cons.mp q with q | q
      · rw [q]; exact vx_ot_GW e4
      · exact (hin w q).elim vx_ot_GW vx_ot_NW
  · rw [hcv]
    exact hH.kept (fun k q hk => h2 q.1 ((hH k q hk).lt))
  · exact ⟨Nat.le_trans hS.1 h1, fun q h3 h4 => by rw [h2 q (Nat.lt_of_lt_of_le h3 hS.1)]; exact hS.2.1 q h3 h4⟩
end ZX
