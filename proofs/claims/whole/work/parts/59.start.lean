section LS
variable {p : Program} {l : Launch} {e : Env} {R : Room} {s : State} {m : MethodId} {args : Array Value} {below : List Frame} {meth : Method} {c : Code} {Q : State → Prop}
variable {D : va_G} {cy : Nat → ClassId} {b : Nat} {sa sv : Nat → Nat} {own : String} {cc : ByteArray} {nL : Nat}
variable {ce sl pc : Nat} {ls : List (Nat × Value)} {st : List Value} {es : List va_E}

theorem k_initM (C : kC p l s m args meth c D cy b sa sv own cc nL) {K9 o idx lv k2 sl2 nL2 : Nat} {y : MethodName} {cc2 : ByteArray} {dfl : List Value} {ks : List Nat} {MM : Mem} (hct : KMM l D cy sa sv lv k2 sl2 y cc2 nL2 K9 dfl ks MM) (hN : Cond.methodLink own idx y ∈ GW) (hw1 : Cond.code y cc2 nL2 none ∈ GW) (hw2 : Cond.initialized y.cls ∈ GW) (hw3 : Cond.instanceMethod y ∈ GW) (hm : okM y 0 ∧ y.name = "<init>") (hR : 20 + lv + 1 ≤ R.frames ∧ 8 + (nL2 + 11) + (600 + 40 * lv) ≤ R.locals) (hf : ce + k2 ≤ R.cells ∧ sl + sl2 ≤ R.slots)
    (hce : s.heap.size + ce = b + (es ++ [va_E_r K9 dfl]).length) (ho : es.length = o) (hks : 0 < ks.length) (hw8 : (st.map fun v => v.category).sum ≤ 8) (d : decode cc pc = .ok (.invokespecial idx, 3)) (kk : K p l e R s m args below meth c Q D b nL (ce + k2) (sl + sl2) (pc + 3) (ls) (st) (es ++ blm cy (b + o) MM 0 ks)) : K p l e R s m args below meth c Q D b nL (ce) (sl) (pc) (ls) (.ref (b + o) :: st) (es ++ [va_E_r K9 dfl]) := by
  intro H locs lsA hP hS hl
  intro T9 hT9 X9
  have hz := k_size (es := es ++ [va_E_r K9 dfl]) hce (Or.inl (by simp)) hP hS X9 hT9
  rw [List.length_append, ho, List.length_singleton] at hz
  have hP1 : va_P D vwCl (wd (b + o) [.inr (K9, dfl)] 0) H := by
    intro k x hx
    obtain ⟨e9, h1, rfl⟩ := wd_of hx
    refine hP (o + k) _ ?_
    rw [wd_app, List.getElem?_append_right (by rw [wd_len, ho]; omega), wd_get, show o + k - (wd b es 0).length = k by rw [wd_len, ho]; omega]
    rw [show ([va_E_r K9 dfl] : List va_E)[k]? = some e9 from h1, Option.map_some, ho]
    congr 2
    omega
  refine va_callv (A1 := fun q => b + o ≤ q) (va_runI (Ts := GW) (As := []) (rest := st) (b := b + o) (maxL := nL2) (bytes := cc2) (n := 0) ⟨C.1, C.2.1, C.2.2.1, C.2.2.2.1, C.2.2.2.2.1⟩ (hct (b + o)) (cwI 0 C.2.2.2.2.1 (ws' := GW) (gw_callee hw1) rfl rfl rfl (C.2.2.2.2.1 _ hw2) (C.2.2.2.2.1 _ hN) (C.2.2.2.2.1 _ hw3) hm.2 ⟨hm.1.1, hm.1.2.1, hm.1.2.2⟩ hR) ⟨fun a U g mk h => ⟨h.1, h.2.1, h.2.2.1, h.2.2.2.calling g mk a⟩, fun U hU hW => ⟨rfl, by rw [hU]; exact hP1, by rw [hU]; exact hz, C.2.2.2.2.2.1.to hW hS hU (Nat.le_add_right _ _)⟩⟩ rfl rfl hl.1 rfl (lv_room hw8) d hf) hS (fun q _ h => Nat.le_trans (Nat.le_add_right _ _) h) (fun q h => Nat.le_trans (Nat.le_add_right _ _) h) (fun u t H1 locs1 ht hal hu hB hsz hk hS1 => ?_) T9 hT9 X9
  refine kk H1 locs1 lsA ?_ hS1 hl
  rw [wd_app, Nat.zero_add, ho]
  have hB' : va_P D vwCl (wd b (blm cy (b + o) MM 0 ks) o) H1 := by
    rw [ht, wd_shift] at hB
    exact hB
  have hP2 : va_P D vwCl (wd b es 0) H1 := by
    intro k x hx
    obtain ⟨e9, h1, rfl⟩ := wd_of hx
    have hk9 : k < es.length := (List.getElem?_eq_some_iff.mp h1).1
    have h3 := hP k _ (by rw [wd_app, List.getElem?_append_left (by rw [wd_len]; exact hk9)]; exact hx)
    refine h3.kept (hk _ h3.lt (fun z => ?_))
    have z' : b + o ≤ b + (0 + k) := z
    omega
  exact hP2.app hB'


theorem k_astore_n (C : kC p l s m args meth c D cy b sa sv own cc nL) {k : Fin 4} (i : Nat) {v : Nat} {ls1 : List (Nat × Value)} (d : decode cc pc = .ok (.astore_n k, 1)) (hk : (k : Nat) = i) (hn : i < nL) (h : (i, Value.ref v) :: ls.filter (fun q => !(q.1 == i) && !(q.1 + 1 == i && q.2.category == 2)) = ls1) (kk : K p l e R s m args below meth c Q D b nL (ce) (sl) (pc + 1) (ls1) (st) (es)) : K p l e R s m args below meth c Q D b nL (ce) (sl) (pc) (ls) (.ref v :: st) (es) := by
  intro H locs lsA hP hS hl
  exact lv_astore_n C.1 C.2.1 d hk hl hn h (fun lsA hl => kk H locs lsA hP hS hl)

theorem k_istore (C : kC p l s m args meth c D cy b sa sv own cc nL) (i : Nat) {v : Int32} {ls1 : List (Nat × Value)} (d : decode cc pc = .ok (.istore i, 2)) (hn : i < nL) (h : (i, Value.int v) :: ls.filter (fun q => !(q.1 == i) && !(q.1 + 1 == i && q.2.category == 2)) = ls1) (kk : K p l e R s m args below meth c Q D b nL (ce) (sl) (pc + 2) (ls1) (st) (es)) : K p l e R s m args below meth c Q D b nL (ce) (sl) (pc) (ls) (.int v :: st) (es) := by
  intro H locs lsA hP hS hl
  exact lv_istore C.1 C.2.1 d hl hn h (fun lsA hl => kk H locs lsA hP hS hl)

theorem kdl_big {a : Nat} (h : 166 ≤ a) : kd0 a = 9999 := kd0_big h
theorem kd0_ok : kOk kd0 166 := kOk_of (fun a h => kd0_big h) (by decide +kernel)
/-- all that was made, as one memory -/
def mAll (MA MB : Mem) : Mem := fun i => if i < 140 then MA i else if i < 165 then MB (i - 140) else zq
theorem ks_eq : ks10 ++ (ks11 ++ [47]) = kdl := by decide +kernel
theorem blm_app (cy : Nat → ClassId) (b : Nat) (M : Mem) : ∀ (k1 k2 : List Nat) (o : Nat), blm cy b M o (k1 ++ k2) = blm cy b M o k1 ++ blm cy b M (o + k1.length) k2
  | [], k2, o => by simp [blm]
  | K :: k1, k2, o => by
    simp only [List.cons_append, blm, List.length_cons]
    rw [blm_app cy b M k1 k2 (o + 1), show o + 1 + k1.length = o + (k1.length + 1) by omega]
theorem blm_congr (cy : Nat → ClassId) (b : Nat) (M M1 : Mem) : ∀ (ks : List Nat) (o : Nat), (∀ i, o ≤ i → i < o + ks.length → M i = M1 i) → blm cy b M o ks = blm cy b M1 o ks
  | [], o, _ => rfl
  | K :: ks, o, h => by
    simp only [blm]
    rw [h o (Nat.le_refl o) (by simp), blm_congr cy b M M1 ks (o + 1) (fun i h1 h2 => h i (by omega) (by simp only [List.length_cons]; omega))]
theorem blm_shift (cy : Nat → ClassId) (b o : Nat) (M : Mem) : ∀ (ks : List Nat) (a : Nat), blm cy (b + o) M a ks = blm cy b (fun i => M (i - o)) (o + a) ks
  | [], a => rfl
  | K :: ks, a => by
    simp only [blm]
    rw [celE_shift, blm_shift cy b o M ks (a + 1), Nat.add_sub_cancel_left, Nat.add_assoc]
theorem all_es (cy : Nat → ClassId) (b : Nat) (MA MB : Mem) : (blm cy b MA 0 ks10 ++ blm cy (b + 140) MB 0 ks11) ++ [celE cy b 165 47 zq] = blm cy b (mAll MA MB) 0 kdl := by
  have h10 : ks10.length = 140 := rfl
  have h11 : ks11.length = 25 := rfl
  have h165 : mAll MA MB 165 = zq := by
    unfold mAll
    rw [if_neg (by decide), if_neg (by decide)]
  have ha := blm_congr cy b MA (mAll MA MB) ks10 0 (fun i _ h => by unfold mAll; rw [if_pos (by omega)])
  have hb := blm_congr cy b (fun i => MB (i - 140)) (mAll MA MB) ks11 140 (fun i h1 h2 => by unfold mAll; rw [if_neg (by omega), if_pos (by omega)])
  have hs := blm_shift cy b 140 MB ks11 0
  have hc : blm cy b (mAll MA MB) 165 [47] = [celE cy b 165 47 zq] := by
    simp only [blm]
    rw [h165]
  rw [ha, hs, Nat.add_zero, hb, ← hc, ← ks_eq, blm_app, blm_app, h10, h11, List.append_assoc, Nat.zero_add]
theorem all_sat {M : Mem} {H : Heap} (hP : va_P D vwCl (wd b (blm cy b M 0 kdl) 0) H) : Sat D cy b kd0 166 M H := by
  intro k q hq
  simp only [va_pl, List.getElem?_map, Option.map_eq_some_iff] at hq
  obtain ⟨a, h1, rfl⟩ := hq
  obtain ⟨i, h2, h3, rfl⟩ := LL_of (List.mem_of_getElem? h1)
  have hi : i < kdl.length := h2
  refine hP i _ ?_
  rw [wd_get, blm_get, List.getElem?_eq_getElem hi, Option.map_some, Option.map_some]
  simp only [cel, Nat.add_sub_cancel_left, Nat.zero_add]
  have h9 : kd0 i = kdl[i] := by
    unfold kd0
    rw [List.getD_eq_getElem?_getD, List.getElem?_eq_getElem hi]
    rfl
  rw [h9]
end LS

theorem gk_1_29 : Cond.classLink RL 8 RX10 ∈ GW := GW_in (tin_1 (k := 29) (by decide +kernel)) rfl
theorem gk_1_30 : Cond.instantiable RX10 13 ∈ GW := GW_in (tin_1 (k := 30) (by decide +kernel)) rfl
theorem gk_1_31 : Cond.methodLink RL 120 yX10_init ∈ GW := GW_in (tin_1 (k := 31) (by decide +kernel)) rfl
theorem gk_1_33 : Cond.code yX10_init cX10_init 2 (none) ∈ GW := GW_in (tin_1 (k := 33) (by decide +kernel)) rfl
theorem gk_1_32 : Cond.instanceMethod yX10_init ∈ GW := GW_in (tin_1 (k := 32) (by decide +kernel)) rfl
theorem gk_7_1 : Cond.classLink RL 121 RX11 ∈ GW := GW_in (tin_7 (k := 1) (by decide +kernel)) rfl
theorem gk_7_2 : Cond.instantiable RX11 38 ∈ GW := GW_in (tin_7 (k := 2) (by decide +kernel)) rfl
theorem gk_7_3 : Cond.methodLink RL 123 yX11_init ∈ GW := GW_in (tin_7 (k := 3) (by decide +kernel)) rfl
theorem gk_7_5 : Cond.code yX11_init cX11_init 1 (none) ∈ GW := GW_in (tin_7 (k := 5) (by decide +kernel)) rfl
theorem gk_7_4 : Cond.instanceMethod yX11_init ∈ GW := GW_in (tin_7 (k := 4) (by decide +kernel)) rfl
section LT
def dflB : List Value := [.null, .null, .null, .null, .null, .int 0, .null, .int 0, .int 0, .int 0, .int 0, .int 0, .int 0, .int 0, .int 0, .int 0, .int 0, .int 0, .null, .null, .null, .null, .null, .null, .null, .null, .int 0, .int 0, .null, .null, .null, .null, .null, .null, .null, .null, .null, .null]
theorem ktB (l : Launch) (D : va_G) (cy : Nat → ClassId) (sa sv : Nat → Nat) (hst : l.stackTraces = false) (N : Nat) {M1 : Mem} (h1 : fX11_begins N 1 mX11 = some M1) : KMM l D cy sa sv 0 24 19371 yX11_init cX11_init 1 11 dflB ks11 (mmX11 M1) := ktX11_init l D cy sa sv hst N h1
theorem all_small : ∀ i : Nat, i < 166 → kd0 i < 48 := by decide +kernel
set_option maxHeartbeats 8000000 in
set_option maxRecDepth 100000 in
theorem law_start {p : Program} {l : Launch} {e : Env} {s : State} {m : MethodId} {args : Array Value} {below : List Frame} {meth : Method} {c : Code} {Q : State → Prop} {D : va_G} {cy : Nat → ClassId} {b : Nat} {sa sv : Nat → Nat} {bs : Nat}
    (C : kC p l s m args meth c D cy b sa sv RL cL_law 8) (hB : s.heap.size = b) (N : Nat) {M1 M2 M3 : Mem} (h1 : fX6_clear 2 zM = some M1) (h2 : fX6_fillTables N 2 M1 = some M2) (h3 : fX11_begins N 1 mX11 = some M3) {b0 : Mem} {x : Option Mem}
    (hx : x = some b0) (kk : Z p l e room_1 s m args below meth c Q D cy b kd0 166 8 b0 7000 23 (lwl b bs 0) [] (mAll (mmX10 M2) (mmX11 M3)) x) :
    K p l e room_1 s m args below meth c Q D b 8 0 0 0 [(0, .ref bs)] [] [] := by
  refine k_new (es := ([] : List va_E)) (fs := [.int 0, .int 0, .int 0, .int 0, .null, .null, .int 0, .null, .null, .null, .null, .null, .null]) (o := 0) C cl10 gk_1_29 gk_1_30 gw_1_1 (by decide) (by rw [hB]; rfl) (Or.inr rfl) (by rfl) (by show _ ≤ 601024; omega) (by show _ ≤ 7293034; omega) dL_law_0 ?_
  refine k_dup C dL_law_3 rfl ?_
  refine k_initM (es := ([] : List va_E)) (st := [.ref (b + 0)]) (o := 0) (dfl := [.int 0, .int 0, .int 0, .int 0, .null, .null, .int 0, .null, .null, .null, .null, .null, .null]) (ks := ks10) (MM := mmX10 M2) C (ktX10_init l D cy sa sv C.2.2.2.2.2.2.1 N h1 h2) gk_1_31 gk_1_33 gw_1_1 gk_1_32 ⟨⟨by decide, by decide, by decide +kernel⟩, rfl⟩ ⟨Nat.le_of_ble_eq_true rfl, Nat.le_of_ble_eq_true rfl⟩ ⟨by show _ ≤ 601024; omega, by show _ ≤ 7293034; omega⟩ (by rw [hB]; rfl) (by rfl) (by decide) (Nat.le_of_ble_eq_true rfl) dL_law_4 ?_
  refine k_es (es1 := (blm cy b (mmX10 M2) 0 ks10)) rfl ?_
  refine k_astore_n (v := b + 0) (ls1 := [(1, .ref (b + 0)), (0, .ref bs)]) C 1 dL_law_7 rfl (by decide) rfl ?_
  refine k_new (es := (blm cy b (mmX10 M2) 0 ks10)) (fs := dflB) (o := 140) C cl11 gk_7_1 gk_7_2 gw_1_12 (by decide) (by rw [hB, blm_len]; rfl) (Or.inl (fun h => by have h9 := congrArg List.length h; rw [blm_len] at h9; exact absurd h9 (by decide))) (by rw [blm_len]; rfl) (by show _ ≤ 601024; omega) (by show _ ≤ 7293034; omega) dL_law_8 ?_
  refine k_dup C dL_law_11 rfl ?_
  refine k_initM (es := (blm cy b (mmX10 M2) 0 ks10)) (st := [.ref (b + 140)]) (o := 140) (dfl := dflB) (ks := ks11) (MM := mmX11 M3) C (ktB l D cy sa sv C.2.2.2.2.2.2.1 N h3) gk_7_3 gk_7_5 gw_1_12 gk_7_4 ⟨⟨by decide, by decide, by decide +kernel⟩, rfl⟩ ⟨Nat.le_of_ble_eq_true rfl, Nat.le_of_ble_eq_true rfl⟩ ⟨by show _ ≤ 601024; omega, by show _ ≤ 7293034; omega⟩ (by rw [hB, List.length_append, blm_len]; rfl) (by rw [blm_len]; rfl) (by decide) (Nat.le_of_ble_eq_true rfl) dL_law_12 ?_
  refine k_astore_n (v := b + 140) (ls1 := [(2, .ref (b + 140)), (1, .ref (b + 0)), (0, .ref bs)]) C 2 dL_law_15 rfl (by decide) rfl ?_
  refine k_iconst (v := 1) C dL_law_16 rfl ?_
  refine k_newa (es := ((blm cy b (mmX10 M2) 0 ks10) ++ blm cy (b + 140) (mmX11 M3) 0 ks11)) (N' := 1) (o := 165) (el := 3) (a0 := (1, .inr (.inl (fun _ => 0)))) (atype := .long) C gk_1_121 rfl (fun _ => rfl) (by decide) (by decide) (Nat.le_of_ble_eq_true rfl) (by rw [hB, List.length_append, blm_len, blm_len]; rfl) (Or.inl (fun h => by have h9 := congrArg List.length h; rw [List.length_append, blm_len] at h9; exact absurd h9 (by rw [show ks10.length = 140 from rfl, List.length_nil]; omega))) (by rw [List.length_append, blm_len, blm_len]; rfl) (by show _ ≤ 601024; omega) (by show _ ≤ 7293034; omega) dL_law_17 ?_
  refine k_es (es1 := blm cy b (mAll (mmX10 M2) (mmX11 M3)) 0 kdl) (all_es cy b (mmX10 M2) (mmX11 M3)) ?_
  refine k_astore_n (v := b + 165) (ls1 := [(3, .ref (b + 165)), (2, .ref (b + 140)), (1, .ref (b + 0)), (0, .ref bs)]) C 3 dL_law_19 rfl (by decide) rfl ?_
  refine k_iconst (v := nI 0) C dL_law_20 rfl ?_
  refine k_istore (v := nI 0) (ls1 := lwl b bs 0) C 4 dL_law_21 (by decide) rfl ?_
  intro H locs lsA hP hS hl
  refine kk hx H locs lsA _ _ ?_ ?_ (all_sat hP) ⟨hS.1, fun q h5 h6 => hS.2.1 q h5 (fun h7 => h6 ⟨h7, fun h8 => by omega⟩), fun z hz => ⟨hS.2.2 z hz, fun h8 => ?_⟩⟩ hl
  · omega
  · omega
  · have h9 := hS.2.2 z hz
    have h10 : b ≤ z.base := h9
    exact all_small _ (Nat.sub_lt_left_of_lt_add h10 h8)
end LT
