section ZK1
variable {p : Program} {l : Launch} {e : Env} {R : Room} {s : State} {m : MethodId} {args : Array Value} {below : List Frame} {meth : Method} {c : Code} {Q : State → Prop}
variable {D : va_G} {cy : Nat → ClassId} {B : Nat} {kd : Nat → Nat} {n : Nat} {sa sv : Nat → Nat} {own : String} {cc : ByteArray} {nL : Nat}
variable {β : Type} {b0 : β} {cu pc : Nat} {ls : List (Nat × Value)} {st : List Value} {M : Mem} {x : Option β}

theorem run_VK (C : zC p l s m args meth c D cy B kd n sa sv own cc nL) {H : Heap} {locs : List Loc} {lsA : Array Slot} {cells slots : Nat} {Cn : String} {idx lv k nL2 nA : Nat} {y : MethodName} {cc2 : ByteArray} {ret2 : Option FieldType} {γ : Type} {cv2 : γ → Res} {y0 : Option γ} {As rest : List Value} {a K : Nat} {T : u_T} {N : Nat} {ty0 : Nat → FieldType} {b : γ} (hct : CT l D cy B kd n sa sv lv k y cc2 nL2 ret2 cv2 (.ref (B + a) :: As) M y0) (hb : y0 = some b) (hw : ∀ w ∈ wV own idx Cn y cc2 nL2 ret2, w ∈ GW) (hy : y.cls = Cn) (hm : okM y nA) (hn : As.length = nA) (hcl : clOk K Cn T N ty0) (hk : kd a = K) (hR : (13 + lv ≤ R.frames ∧ 8 + (nL2 + 11) + (300 + 40 * lv) ≤ R.locals) ∧ cells + k ≤ R.cells ∧ slots + 6 * k ≤ R.slots) (hH : Sat D cy B kd n M H) (hpre : PreS s H (fun v U => v = (Value.ref (B + a) :: As).toArray ∧ Sat D cy B kd n M U.heap ∧ CX D cy B kd n sa sv U) (Value.ref (B + a) :: As)) (hl : lv_has lsA nL ls) (hw8 : (rest.map fun v => v.category).sum ≤ 8) (d : decode cc pc = .ok (.invokevirtual idx, 3)) :
    vx_Run p l e R s m args below meth c H locs cells slots k (6 * k) (F0 m pc lsA (As.reverse ++ .ref (B + a) :: rest)) rest (QcR D cy B kd n (cv2 b) (Value.ref (B + a) :: As).toArray) (XcR D cy B kd n (cv2 b)) (AA B kd n) := by
  obtain ⟨⟨r1, r2⟩, r3, r4⟩ := hR
  refine vx_runV (Ts := GW) (C := Cn) (ret := ret2) (maxL := nL2) (bytes := cc2) (n := nA) ⟨C.1, C.2.1, C.2.2.1, C.2.2.2.1, C.2.2.2.2.1⟩ (hct b hb) ?_ ⟨hpre.1, zrecv C hH hcl hk, hpre.2⟩ rfl hn hl.1 rfl (lv_room hw8) d ⟨by omega, by omega⟩
  refine cwV nA C.2.2.2.2.1 (ws' := GW) ?_ rfl rfl rfl ⟨hy, hm.1, hm.2.1, hm.2.2⟩ ⟨by show 12 + lv + 1 ≤ _; omega, by show 8 + (nL2 + 11) + (300 + 40 * lv) ≤ _; omega⟩
  refine gw_good fun w hw9 => ?_
  rcases List.mem_append.mp hw9 with q | q
  · exact hw w (by simp only [wV, List.mem_cons, List.not_mem_nil, or_false] at q ⊢; rcases q with q | q | q | q <;> simp [q])
  · rcases List.mem_cons.mp q with q | q
    · exact hw w (by rw [q]; simp [wV])
    · exact q

theorem run_SK (C : zC p l s m args meth c D cy B kd n sa sv own cc nL) {H : Heap} {locs : List Loc} {lsA : Array Slot} {cells slots : Nat} {Cn : String} {idx lv k nL2 nA : Nat} {y : MethodName} {cc2 : ByteArray} {ret2 : Option FieldType} {γ : Type} {cv2 : γ → Res} {y0 : Option γ} {As rest : List Value} {b : γ} (hct : CT l D cy B kd n sa sv lv k y cc2 nL2 ret2 cv2 As M y0) (hb : y0 = some b) (hw : ∀ w ∈ wS own idx y cc2 nL2 ret2, w ∈ GW) (hm : okM y nA) (hn : As.length = nA) (hR : (13 + lv ≤ R.frames ∧ 8 + (nL2 + 11) + (300 + 40 * lv) ≤ R.locals) ∧ cells + k ≤ R.cells ∧ slots + 6 * k ≤ R.slots) (hH : Sat D cy B kd n M H) (hpre : PreS s H (fun v U => v = As.toArray ∧ Sat D cy B kd n M U.heap ∧ CX D cy B kd n sa sv U) (As)) (hl : lv_has lsA nL ls) (hw8 : (rest.map fun v => v.category).sum ≤ 8) (d : decode cc pc = .ok (.invokestatic idx, 3)) :
    vx_Run p l e R s m args below meth c H locs cells slots k (6 * k) (F0 m pc lsA (As.reverse ++ rest)) rest (QcR D cy B kd n (cv2 b) As.toArray) (XcR D cy B kd n (cv2 b)) (AA B kd n) := by
  obtain ⟨⟨r1, r2⟩, r3, r4⟩ := hR
  refine vx_runS (Ts := GW) (ret := ret2) (maxL := nL2) (bytes := cc2) (n := nA) ⟨C.1, C.2.1, C.2.2.1, C.2.2.2.1, C.2.2.2.2.1⟩ (hct b hb) ⟨callB_of nA C.2.2.2.2.1 (ws' := GW) (gw_callee (hw _ (by simp [wS]))) rfl rfl rfl (C.2.2.2.2.1 _ (hw _ (by simp [wS]))) (C.2.2.2.2.1 _ (hw _ (by simp [wS]))) ⟨hm.1, hm.2.1, hm.2.2⟩ ⟨by show 12 + lv + 1 ≤ _; omega, by show 8 + (nL2 + 11) + (300 + 40 * lv) ≤ _; omega⟩, C.2.2.2.2.1 _ (hw _ (by simp [wS]))⟩ hpre rfl hn hl.1 rfl (lv_room hw8) d ⟨by omega, by omega⟩

end ZK1

def zM : Mem := fun _ => zq
def blm (cy : Nat → ClassId) (b : Nat) (M : Mem) : Nat → List Nat → List va_E
  | _, [] => []
  | o, K :: ks => celE cy b o K (M o) :: blm cy b M (o + 1) ks
theorem blk_blm (cy : Nat → ClassId) (b : Nat) : ∀ (ks : List Nat) (o : Nat), blk cy b o ks = blm cy b zM o ks
  | [], o => rfl
  | K :: ks, o => by simp only [blk, blm, blk_blm cy b ks (o + 1)]; rfl
theorem blm_len (cy : Nat → ClassId) (b : Nat) (M : Mem) : ∀ (ks : List Nat) (o : Nat), (blm cy b M o ks).length = ks.length
  | [], o => rfl
  | K :: ks, o => by simp only [blm, List.length_cons, blm_len cy b M ks (o + 1)]
theorem blm_get (cy : Nat → ClassId) (b : Nat) (M : Mem) : ∀ (ks : List Nat) (o k : Nat), (blm cy b M o ks)[k]? = (ks[k]?).map (fun K => celE cy b (o + k) K (M (o + k)))
  | [], o, k => by simp [blm]
  | K :: ks, o, 0 => by simp [blm]
  | K :: ks, o, k + 1 => by
    simp only [blm, List.getElem?_cons_succ]
    rw [blm_get cy b M ks (o + 1) k, show o + 1 + k = o + (k + 1) by omega]
/-- the kinds behind a thing in the making -/
def kdR (ks : List Nat) : Nat → Nat
  | 0 => 9999
  | i + 1 => ks.getD i 9999
section KZ
variable {p : Program} {l : Launch} {e : Env} {R : Room} {s : State} {m : MethodId} {args : Array Value} {below : List Frame} {meth : Method} {c : Code} {Q : State → Prop}
variable {D : va_G} {cy : Nat → ClassId} {b : Nat} {sa sv : Nat → Nat} {own : String} {cc : ByteArray} {nL : Nat}
variable {ce sl pc : Nat} {ls : List (Nat × Value)} {st : List Value} {es : List va_E}
theorem kz_C (C : kC p l s m args meth c D cy b sa sv own cc nL) {kd : Nat → Nat} {n : Nat} (h : kOk kd n) : zC p l s m args meth c D cy b kd n sa sv own cc nL :=
  ⟨C.1, C.2.1, C.2.2.1, C.2.2.2.1, C.2.2.2.2.1, h, C.2.2.2.2.2.1.1.narrow (fun q hq => AA_N.mpr hq.1), C.2.2.2.2.2.2.1, C.2.2.2.2.2.2.2⟩
theorem kz_sat {ks : List Nat} {x : va_E} {M : Mem} {H : Heap} (hP : va_P D vwCl (wd b (x :: blm cy b M 1 ks) 0) H) : Sat D cy b (kdR ks) (ks.length + 1) M H := by
  intro k q hq
  simp only [va_pl, List.getElem?_map, Option.map_eq_some_iff] at hq
  obtain ⟨a, h1, rfl⟩ := hq
  obtain ⟨i, h2, h3, rfl⟩ := LL_of (List.mem_of_getElem? h1)
  cases i with
  | zero => exact absurd h3 (show ¬ (9999 : Nat) < 48 by decide)
  | succ i =>
    have hi : i < ks.length := by omega
    refine hP (i + 1) _ ?_
    rw [wd_get, List.getElem?_cons_succ, blm_get, List.getElem?_eq_getElem hi, Option.map_some, Option.map_some]
    simp only [cel, Nat.add_sub_cancel_left, Nat.zero_add, kdR, List.getD_eq_getElem?_getD, List.getElem?_eq_getElem hi, Option.getD_some]
    rw [Nat.add_comm 1 i]
theorem kz_back {ks : List Nat} {x : va_E} {M M1 : Mem} {H H1 : Heap} (hP : va_P D vwCl (wd b (x :: blm cy b M 1 ks) 0) H) (hS : Sat D cy b (kdR ks) (ks.length + 1) M1 H1) (hk48 : ∀ K ∈ ks, K < 48) (hk : ∀ q : Nat, q < H.size → ¬ AA b (kdR ks) (ks.length + 1) q → H1[q]? = H[q]?) : va_P D vwCl (wd b (x :: blm cy b M1 1 ks) 0) H1 := by
  intro k q hq
  obtain ⟨e9, h1, rfl⟩ := wd_of hq
  cases k with
  | zero =>
    have h2 := hP 0 (b + 0, x) rfl
    cases h1
    refine h2.kept (hk _ h2.lt (fun z => ?_))
    have z1 := z.2 (by show b + 0 < _; omega)
    rw [show b + 0 - b = 0 by omega] at z1
    exact absurd z1 (show ¬ (9999 : Nat) < 48 by decide)
  | succ i =>
    rw [List.getElem?_cons_succ, blm_get] at h1
    obtain ⟨K, h3, rfl⟩ := Option.map_eq_some_iff.mp h1
    have hi : i < ks.length := (List.getElem?_eq_some_iff.mp h3).1
    have hkd : kdR ks (i + 1) = K := by
      show ks.getD i 9999 = K
      rw [List.getD_eq_getElem?_getD, h3]
      rfl
    obtain ⟨q0, h4⟩ := sat_get (D := D) (cy := cy) (B := b) (kd := kdR ks) (n := ks.length + 1) (a := i + 1) M1 (by omega) (by rw [hkd]; exact hk48 K (List.mem_of_getElem? h3))
    have h5 := hS q0 _ h4
    rw [hkd] at h5
    rw [Nat.zero_add, Nat.add_comm 1 i]
    exact h5
theorem kz_pre (C : kC p l s m args meth c D cy b sa sv own cc nL) {ks : List Nat} {M : Mem} {H : Heap} {locs : List Loc} {av : List Value} (hH : Sat D cy b (kdR ks) (ks.length + 1) M H) (hS : va_S (fun q => b ≤ q) s.heap H locs) : PreS s H (fun v U => v = av.toArray ∧ Sat D cy b (kdR ks) (ks.length + 1) M U.heap ∧ CX D cy b (kdR ks) (ks.length + 1) sa sv U) av :=
  ⟨fun a U g mk h => ⟨h.1, h.2.1, h.2.2.calling g mk a⟩, fun U hU hW => ⟨rfl, by rw [hU]; exact hH, (C.2.2.2.2.2.1.to hW hS hU (Nat.le_refl _)).1.narrow (fun q hq => AA_N.mpr hq.1)⟩⟩
theorem kz_after {ks : List Nat} {x : va_E} {M M1 : Mem} {H : Heap} {locs : List Loc} {lsA : Array Slot} {st0 : List Value} {av : Array Value} (hk48 : ∀ K ∈ ks, K < 48)
    (hr : vx_Run p l e R s m args below meth c H locs ce sl 0 (6 * 0) (F0 m pc lsA st0) st (QcR D cy b (kdR ks) (ks.length + 1) (cvV M1) av) (XcR D cy b (kdR ks) (ks.length + 1) (cvV M1)) (AA b (kdR ks) (ks.length + 1)))
    (hP : va_P D vwCl (wd b (x :: blm cy b M 1 ks) 0) H) (hS : va_S (fun q => b ≤ q) s.heap H locs) (hl : lv_has lsA nL ls)
    (kk : K p l e R s m args below meth c Q D b nL ce sl (pc + 3) ls st (x :: blm cy b M1 1 ks)) : W p l e R s m args below meth c H locs ce sl Q (F0 m pc lsA st0) := by
  intro T hT X
  rcases hr T hT X with ⟨v, s0, t, T', L, h0, X', hL, e1, e2, ⟨v', hv', ho, hSat, hF⟩, st9⟩ | ⟨q, s0, t, T', L, E, ce9, h0, X', hL, e1, e2, ⟨k9, hk9, -⟩, -⟩
  · cases hv'
    cases ho
    have hF2 : ∀ q : Nat, q < H.size → ¬ AA b (kdR ks) (ks.length + 1) q → T'.heap[q]? = H[q]? := fun q h1 h2 => by rw [e1, ← h0]; exact hF.2 q (by rw [h0]; exact h1) h2
    have hz : H.size ≤ T'.heap.size := by rw [e1, ← h0]; exact hF.1
    have hP1 := kz_back hP (by rw [e1]; exact hSat) hk48 hF2
    obtain ⟨t2, a1, b1⟩ := kk T'.heap (locs ++ L) lsA hP1 ⟨Nat.le_trans hS.1 hz, fun q h1 h2 => (hF2 q (Nat.lt_of_lt_of_le h1 hS.1) (fun z => h2 z.1)).trans (hS.2.1 q h1 h2), fun z hz9 => (List.mem_append.mp hz9).elim (hS.2.2 z) (fun h => (hL z h).1)⟩ hl T' rfl X'
    exact ⟨t2, st9 t2 a1, b1⟩
  · cases hk9

theorem k_callV (C : kC p l s m args meth c D cy b sa sv own cc nL) {ks : List Nat} {x : va_E} {M M1 : Mem} {idx lv nL2 a K9 N : Nat} {Cn : String} {T : u_T} {ty0 : Nat → FieldType} {y : MethodName} {cc2 : ByteArray} {y0 : Option Mem} (hct : CT l D cy b (kdR ks) (ks.length + 1) sa sv lv 0 y cc2 nL2 none cvV [.ref (b + a)] M y0) (hb : y0 = some M1) (hw : ∀ w ∈ wV own idx Cn y cc2 nL2 none, w ∈ GW) (hy : y.cls = Cn) (hm : okM y 0) (hcl : clOk K9 Cn T N ty0) (hk : kdR ks a = K9) (hk48 : ∀ K ∈ ks, K < 48) (hkd : kOk (kdR ks) (ks.length + 1)) (hR9 : (13 + lv ≤ R.frames ∧ 8 + (nL2 + 11) + (300 + 40 * lv) ≤ R.locals) ∧ ce + 0 ≤ R.cells ∧ sl + 6 * 0 ≤ R.slots) (hw8 : (st.map fun v => v.category).sum ≤ 8) (d : decode cc pc = .ok (.invokevirtual idx, 3)) (kk : K p l e R s m args below meth c Q D b nL (ce) (sl) (pc + 3) (ls) (st) ((x :: blm cy b M1 1 ks))) : K p l e R s m args below meth c Q D b nL (ce) (sl) (pc) (ls) (.ref (b + a) :: st) ((x :: blm cy b M 1 ks)) := by
  intro H locs lsA hP hS hl
  have hSat := kz_sat hP
  intro T9 hT X
  refine kz_after (nL := nL) hk48 (run_VK (As := []) (rest := st) (kz_C C hkd) hct hb hw hy hm rfl hcl hk hR9 hSat (kz_pre C hSat hS) hl hw8 d) hP hS hl kk T9 hT X

theorem k_callS (C : kC p l s m args meth c D cy b sa sv own cc nL) {ks : List Nat} {x : va_E} {M M1 : Mem} {idx lv nL2 a : Nat} {y : MethodName} {cc2 : ByteArray} {y0 : Option Mem} (hct : CT l D cy b (kdR ks) (ks.length + 1) sa sv lv 0 y cc2 nL2 none cvV [.ref (b + a)] M y0) (hb : y0 = some M1) (hw : ∀ w ∈ wS own idx y cc2 nL2 none, w ∈ GW) (hm : okM y 1) (hk48 : ∀ K ∈ ks, K < 48) (hkd : kOk (kdR ks) (ks.length + 1)) (hR9 : (13 + lv ≤ R.frames ∧ 8 + (nL2 + 11) + (300 + 40 * lv) ≤ R.locals) ∧ ce + 0 ≤ R.cells ∧ sl + 6 * 0 ≤ R.slots) (hw8 : (st.map fun v => v.category).sum ≤ 8) (d : decode cc pc = .ok (.invokestatic idx, 3)) (kk : K p l e R s m args below meth c Q D b nL (ce) (sl) (pc + 3) (ls) (st) ((x :: blm cy b M1 1 ks))) : K p l e R s m args below meth c Q D b nL (ce) (sl) (pc) (ls) (.ref (b + a) :: st) ((x :: blm cy b M 1 ks)) := by
  intro H locs lsA hP hS hl
  have hSat := kz_sat hP
  intro T9 hT X
  refine kz_after (nL := nL) hk48 (run_SK (Cn := own) (As := [.ref (b + a)]) (rest := st) (kz_C C hkd) hct hb hw hm rfl hR9 hSat (kz_pre C hSat hS) hl hw8 d) hP hS hl kk T9 hT X
end KZ
