section LX
def narrowL : List Cond := flatC (Jvm.Cond.and given_1 narrow_1)
def tmS (q : String × Nat × String) : Term := .string q.1 q.2.1
def strB (q : String × Nat × String) (byt : List Int32) : Bool := decide (Cond.exactly (tmS q) "java/lang/String" ∈ narrowL) && (decide (Cond.eq (.field (tmS q) "java/lang/String" "coder" "B") (.int 0) ∈ narrowL) && (decide (Cond.arrayOf (.field (tmS q) "java/lang/String" "value" "[B") .byte ∈ narrowL) && (decide (Cond.eq (.length (.field (tmS q) "java/lang/String" "value" "[B")) (.int (Int32.ofNat byt.length)) ∈ narrowL) && (List.range byt.length).all fun j => decide (Cond.eq (.elem (.field (tmS q) "java/lang/String" "value" "[B") (.int (Int32.ofNat j))) (.int (byt.getD j 0)) ∈ narrowL))))
theorem strB_0 : ([0, 1, 2, 3, 4].all fun i => strB (txtS.getD i ("", 0, "")) (bytS i)) = true := by decide +kernel
theorem strB_1 : ([5, 6, 7, 8, 9].all fun i => strB (txtS.getD i ("", 0, "")) (bytS i)) = true := by decide +kernel
theorem strB_2 : ([10, 11, 12, 13, 14].all fun i => strB (txtS.getD i ("", 0, "")) (bytS i)) = true := by decide +kernel
theorem strB_3 : ([15, 16, 17, 18, 19].all fun i => strB (txtS.getD i ("", 0, "")) (bytS i)) = true := by decide +kernel
theorem strB_4 : ([20, 21, 22, 23, 24].all fun i => strB (txtS.getD i ("", 0, "")) (bytS i)) = true := by decide +kernel
theorem strB_5 : ([25, 26, 27, 28, 29].all fun i => strB (txtS.getD i ("", 0, "")) (bytS i)) = true := by decide +kernel
theorem strB_6 : ([30, 31, 32, 33, 34].all fun i => strB (txtS.getD i ("", 0, "")) (bytS i)) = true := by decide +kernel
theorem strB_7 : ([35, 36, 37, 38, 39].all fun i => strB (txtS.getD i ("", 0, "")) (bytS i)) = true := by decide +kernel
theorem strB_all : ∀ i : Nat, i < 40 → strB (txtS.getD i ("", 0, "")) (bytS i) = true := by
  intro i hi
  have key : ∀ (l : List Nat), (l.all fun i => strB (txtS.getD i ("", 0, "")) (bytS i)) = true → i ∈ l → strB (txtS.getD i ("", 0, "")) (bytS i) = true := fun l h1 h2 => List.all_eq_true.mp h1 i h2

  by_cases h0 : i < 5
  · exact key _ strB_0 (by simp only [List.mem_cons, List.not_mem_nil, or_false]; omega)
  by_cases h1 : i < 10
  · exact key _ strB_1 (by simp only [List.mem_cons, List.not_mem_nil, or_false]; omega)
  by_cases h2 : i < 15
  · exact key _ strB_2 (by simp only [List.mem_cons, List.not_mem_nil, or_false]; omega)
  by_cases h3 : i < 20
  · exact key _ strB_3 (by simp only [List.mem_cons, List.not_mem_nil, or_false]; omega)
  by_cases h4 : i < 25
  · exact key _ strB_4 (by simp only [List.mem_cons, List.not_mem_nil, or_false]; omega)
  by_cases h5 : i < 30
  · exact key _ strB_5 (by simp only [List.mem_cons, List.not_mem_nil, or_false]; omega)
  by_cases h6 : i < 35
  · exact key _ strB_6 (by simp only [List.mem_cons, List.not_mem_nil, or_false]; omega)
  by_cases h7 : i < 40
  · exact key _ strB_7 (by simp only [List.mem_cons, List.not_mem_nil, or_false]; omega)
  omega
theorem str_mem : ∀ q ∈ txtS, Cond.stringRef q.1 q.2.1 q.2.2 ∈ lw_tbl := by
  unfold txtS
  exact List.forall_mem_cons.mpr ⟨tin_3 (k := 38) (by decide +kernel), List.forall_mem_cons.mpr ⟨tin_3 (k := 87) (by decide +kernel), List.forall_mem_cons.mpr ⟨tin_3 (k := 140) (by decide +kernel), List.forall_mem_cons.mpr ⟨tin_3 (k := 141) (by decide +kernel), List.forall_mem_cons.mpr ⟨tin_3 (k := 142) (by decide +kernel), List.forall_mem_cons.mpr ⟨tin_3 (k := 143) (by decide +kernel), List.forall_mem_cons.mpr ⟨tin_3 (k := 144) (by decide +kernel), List.forall_mem_cons.mpr ⟨tin_3 (k := 152) (by decide +kernel), List.forall_mem_cons.mpr ⟨tin_4 (k := 65) (by decide +kernel), List.forall_mem_cons.mpr ⟨tin_4 (k := 72) (by decide +kernel), List.forall_mem_cons.mpr ⟨tin_4 (k := 103) (by decide +kernel), List.forall_mem_cons.mpr ⟨tin_4 (k := 115) (by decide +kernel), List.forall_mem_cons.mpr ⟨tin_4 (k := 123) (by decide +kernel), List.forall_mem_cons.mpr ⟨tin_4 (k := 153) (by decide +kernel), List.forall_mem_cons.mpr ⟨tin_4 (k := 164) (by decide +kernel), List.forall_mem_cons.mpr ⟨tin_4 (k := 190) (by decide +kernel), List.forall_mem_cons.mpr ⟨tin_4 (k := 230) (by decide +kernel), List.forall_mem_cons.mpr ⟨tin_4 (k := 237) (by decide +kernel), List.forall_mem_cons.mpr ⟨tin_5 (k := 49) (by decide +kernel), List.forall_mem_cons.mpr ⟨tin_5 (k := 111) (by decide +kernel), List.forall_mem_cons.mpr ⟨tin_5 (k := 136) (by decide +kernel), List.forall_mem_cons.mpr ⟨tin_5 (k := 137) (by decide +kernel), List.forall_mem_cons.mpr ⟨tin_5 (k := 153) (by decide +kernel), List.forall_mem_cons.mpr ⟨tin_5 (k := 165) (by decide +kernel), List.forall_mem_cons.mpr ⟨tin_5 (k := 186) (by decide +kernel), List.forall_mem_cons.mpr ⟨tin_5 (k := 190) (by decide +kernel), List.forall_mem_cons.mpr ⟨tin_5 (k := 205) (by decide +kernel), List.forall_mem_cons.mpr ⟨tin_6 (k := 42) (by decide +kernel), List.forall_mem_cons.mpr ⟨tin_6 (k := 47) (by decide +kernel), List.forall_mem_cons.mpr ⟨tin_6 (k := 163) (by decide +kernel), List.forall_mem_cons.mpr ⟨tin_6 (k := 181) (by decide +kernel), List.forall_mem_cons.mpr ⟨tin_6 (k := 194) (by decide +kernel), List.forall_mem_cons.mpr ⟨tin_6 (k := 221) (by decide +kernel), List.forall_mem_cons.mpr ⟨tin_7 (k := 0) (by decide +kernel), List.forall_mem_cons.mpr ⟨tin_7 (k := 166) (by decide +kernel), List.forall_mem_cons.mpr ⟨tin_7 (k := 185) (by decide +kernel), List.forall_mem_cons.mpr ⟨tin_7 (k := 186) (by decide +kernel), List.forall_mem_cons.mpr ⟨tin_7 (k := 215) (by decide +kernel), List.forall_mem_cons.mpr ⟨tin_7 (k := 216) (by decide +kernel), List.forall_mem_cons.mpr ⟨tin_7 (k := 217) (by decide +kernel), fun q h => nomatch h⟩⟩⟩⟩⟩⟩⟩⟩⟩⟩⟩⟩⟩⟩⟩⟩⟩⟩⟩⟩⟩⟩⟩⟩⟩⟩⟩⟩⟩⟩⟩⟩⟩⟩⟩⟩⟩⟩⟩⟩
theorem str_of {args : Array Value} {s : State} {A : Nat → Prop} (h : ∀ x ∈ narrowL, x.before args s = true) {q : String × Nat × String} {byt : List Int32} (hb : strB q byt = true) (hlen : byt.length < 2 ^ 31) (hA : ∀ a : Nat, a < s.heap.size → ¬ A a) :
    ∃ a v : Nat, (tmS q).eval args s none [] s = some (.ref a) ∧ va_O "java/lang/String" a A s s.heap ∧ va_OF "java/lang/String" "coder" "B" (.int 0) a A s s.heap ∧ va_OF "java/lang/String" "value" "[B" (.ref v) a A s s.heap ∧ va_T .byte v byt.length (fun j => .int (byt.getD j 0)) A s s.heap := by
  unfold strB at hb
  simp only [Bool.and_eq_true, decide_eq_true_eq, List.all_eq_true] at hb
  obtain ⟨h1, h2, h3, h4, h5⟩ := hb
  obtain ⟨adK, adV, hS, hE⟩ := vk_Sof (args := args) (s := s) (N := 1) (tm := fun _ => tmS q) (len := [byt.length]) (byt := [byt]) (A := A)
    (fun i hi => by rw [show i = 0 by omega]; exact hlen) (fun i hi => h _ h1) (fun i hi => h _ h2) (fun i hi => h _ h3) (fun i hi => by rw [show i = 0 by omega]; exact h _ h4)
    (fun i hi j hj => by
      have hi0 : i = 0 := by omega
      subst hi0
      exact h _ (h5 j (List.mem_range.mpr hj))) (fun i j hi hj hne => absurd (by omega) hne) hA
  have h6 := hS.1 0 (by decide)
  exact ⟨adK 0, adV 0, hE 0 (by decide), h6.1, h6.2.1, h6.2.2.1, h6.2.2.2⟩
theorem bytS_small : ∀ i : Nat, i < 40 → (bytS i).length < 2 ^ 31 := by decide +kernel
theorem txtS_at {i : Nat} {q : String × Nat × String} (h : txtS[i]? = some q) : i < 40 ∧ txtS.getD i ("", 0, "") = q := by
  refine ⟨(List.getElem?_eq_some_iff.mp h).1, ?_⟩
  rw [List.getD_eq_getElem?_getD, h]
  rfl
theorem arr_of {args : Array Value} {s : State} {ty : FieldType} (hty : ∀ C, ty ≠ .object C) (h : (Cond.arrayClass ty).before args s = true) : ∃ cA : ClassId, ArrOfT s cA ty ∧ va_RA s cA ty := by
  obtain ⟨c, k, comp, h1, h2, h3⟩ := Cond.arrayClass_spec h
  refine ⟨c, fun n z => ⟨fun q h => (by cases h), k, h2, comp, h3⟩, ?_⟩
  cases ty <;> first | exact h1 | exact absurd rfl (hty _)
theorem arro_of {args : Array Value} {s : State} {n : String} (h : (Cond.arrayOver (.object n)).before args s = true) : ∃ cA : ClassId, ArrOfT s cA (.object n) ∧ va_RA s cA (.object n) := by
  obtain ⟨comp, c, k, h1, h2, h3, h4, h5⟩ := Cond.arrayOver_spec h
  exact ⟨c, fun n z => ⟨fun q h => (by cases h), k, h3, comp, h4⟩, k, comp, h3, h4, h1, h5⟩
theorem world_K {args : Array Value} {s : State} (hts : ∀ w ∈ lw_tbl, w.before args s = true) : ∃ (D : va_G) (cy : Nat → ClassId), va_K D vwCl (tysA cy) s := by
  have hG : ∀ w ∈ GW, w.before args s = true := fun w hw => hts w (List.mem_filter.mp hw).1
  have hP : ∀ c : Nat, ∃ (cC : ClassId) (iS : Nat → Nat), ∀ q, vwCl[c]? = some q → u_Kn s q.1 q.2.1 q.2.2 cC iS := by
    intro c
    match c with
    | 0 =>
      obtain ⟨cC, iS, h⟩ := u_known hG cl0.2.1 (hG _ gk_2_91)
      exact ⟨cC, iS, fun q hq => by rw [cl0.1] at hq; cases hq; exact h⟩
    | 1 =>
      obtain ⟨cC, iS, h⟩ := u_known hG cl1.2.1 (hG _ gk_2_134)
      exact ⟨cC, iS, fun q hq => by rw [cl1.1] at hq; cases hq; exact h⟩
    | 2 =>
      obtain ⟨cC, iS, h⟩ := u_known hG cl2.2.1 (hG _ gk_1_112)
      exact ⟨cC, iS, fun q hq => by rw [cl2.1] at hq; cases hq; exact h⟩
    | 3 =>
      obtain ⟨cC, iS, h⟩ := u_known hG cl3.2.1 (hG _ gk_2_47)
      exact ⟨cC, iS, fun q hq => by rw [cl3.1] at hq; cases hq; exact h⟩
    | 4 =>
      obtain ⟨cC, iS, h⟩ := u_known hG cl4.2.1 (hG _ gk_1_225)
      exact ⟨cC, iS, fun q hq => by rw [cl4.1] at hq; cases hq; exact h⟩
    | 5 =>
      obtain ⟨cC, iS, h⟩ := u_known hG cl5.2.1 (hG _ gk_1_106)
      exact ⟨cC, iS, fun q hq => by rw [cl5.1] at hq; cases hq; exact h⟩
    | 6 =>
      obtain ⟨cC, iS, h⟩ := u_known hG cl6.2.1 (hG _ gk_1_44)
      exact ⟨cC, iS, fun q hq => by rw [cl6.1] at hq; cases hq; exact h⟩
    | 7 =>
      obtain ⟨cC, iS, h⟩ := u_known hG cl7.2.1 (hG _ gk_1_38)
      exact ⟨cC, iS, fun q hq => by rw [cl7.1] at hq; cases hq; exact h⟩
    | 8 =>
      obtain ⟨cC, iS, h⟩ := u_known hG cl8.2.1 (hG _ gk_2_72)
      exact ⟨cC, iS, fun q hq => by rw [cl8.1] at hq; cases hq; exact h⟩
    | 9 =>
      obtain ⟨cC, iS, h⟩ := u_known hG cl9.2.1 (hG _ gk_1_201)
      exact ⟨cC, iS, fun q hq => by rw [cl9.1] at hq; cases hq; exact h⟩
    | 10 =>
      obtain ⟨cC, iS, h⟩ := u_known hG cl10.2.1 (hG _ gk_1_30)
      exact ⟨cC, iS, fun q hq => by rw [cl10.1] at hq; cases hq; exact h⟩
    | 11 =>
      obtain ⟨cC, iS, h⟩ := u_known hG cl11.2.1 (hG _ gk_7_2)
      exact ⟨cC, iS, fun q hq => by rw [cl11.1] at hq; cases hq; exact h⟩
    | c + 12 => exact ⟨0, fun _ => 0, fun q hq => by cases hq⟩
  have hY : ∀ k : Nat, ∃ cA : ClassId, k < 7 → ArrOfT s cA ((tysA (fun _ => 0)).getD k (0, .int)).2 ∧ va_RA s cA ((tysA (fun _ => 0)).getD k (0, .int)).2 := by
    intro k
    match k with
    | 0 =>
      obtain ⟨cA, h⟩ := arr_of (ty := .int) (fun C h => by cases h) (hts _ (tin_1 (w := Cond.arrayClass .int) (k := 103) (by decide +kernel)))
      exact ⟨cA, fun _ => h⟩
    | 1 =>
      obtain ⟨cA, h⟩ := arr_of (ty := .byte) (fun C h => by cases h) (hts _ (tin_2 (w := Cond.arrayClass .byte) (k := 45) (by decide +kernel)))
      exact ⟨cA, fun _ => h⟩
    | 2 =>
      obtain ⟨cA, h⟩ := arr_of (ty := .boolean) (fun C h => by cases h) (hts _ (tin_7 (w := Cond.arrayClass .boolean) (k := 125) (by decide +kernel)))
      exact ⟨cA, fun _ => h⟩
    | 3 =>
      obtain ⟨cA, h⟩ := arr_of (ty := .long) (fun C h => by cases h) (hts _ (tin_1 (w := Cond.arrayClass .long) (k := 121) (by decide +kernel)))
      exact ⟨cA, fun _ => h⟩
    | 4 =>
      obtain ⟨cA, h⟩ := arro_of (hts _ (tin_1 (w := Cond.arrayOver (.object RX5)) (k := 105) (by decide +kernel)))
      exact ⟨cA, fun _ => h⟩
    | 5 =>
      obtain ⟨cA, h⟩ := arro_of (hts _ (tin_1 (w := Cond.arrayOver (.object RX7)) (k := 198) (by decide +kernel)))
      exact ⟨cA, fun _ => h⟩
    | 6 =>
      obtain ⟨cA, h⟩ := arro_of (hts _ (tin_1 (w := Cond.arrayOver (.object RX9)) (k := 200) (by decide +kernel)))
      exact ⟨cA, fun _ => h⟩
    | k + 7 => exact ⟨0, fun h => absurd h (by omega)⟩
  refine ⟨(fun c => Classical.choose (hP c), fun c => Classical.choose (Classical.choose_spec (hP c))), fun k => Classical.choose (hY k), fun c q hq => Classical.choose_spec (Classical.choose_spec (hP c)) q hq, fun k q hk => ?_⟩
  have hk7 : k < 7 := (List.getElem?_eq_some_iff.mp hk).1
  have h := Classical.choose_spec (hY k) hk7
  match k, hk7, hk, h with
  | 0, _, hk, h => cases hk; exact h
  | 1, _, hk, h => cases hk; exact h
  | 2, _, hk, h => cases hk; exact h
  | 3, _, hk, h => cases hk; exact h
  | 4, _, hk, h => cases hk; exact h
  | 5, _, hk, h => cases hk; exact h
  | 6, _, hk, h => cases hk; exact h
  | k + 7, h7, _, _ => exact absurd h7 (by omega)
theorem world_of {args : Array Value} {s : State} (hts : ∀ w ∈ lw_tbl, w.before args s = true) (hgv : (Jvm.Cond.and given_1 narrow_1).before args s = true) : ∃ (D : va_G) (cy : Nat → ClassId) (sa sv : Nat → Nat), KX D cy sa sv s.heap.size s := by
  have hs : ∀ x ∈ narrowL, x.before args s = true := flat_of_before _ hgv
  have hA : ∀ a : Nat, a < s.heap.size → ¬ AA s.heap.size kdN 0 a := fun a h1 h2 => by have h3 := h2.1; omega
  obtain ⟨D, cy, hK⟩ := world_K hts
  have hT : ∀ i : Nat, ∃ a v : Nat, i < 40 → (tmS (txtS.getD i ("", 0, ""))).eval args s none [] s = some (.ref a) ∧ txO (fun _ => a) (fun _ => v) (AA s.heap.size kdN 0) s s.heap i := by
    intro i
    by_cases hi : i < 40
    · obtain ⟨a, v, h1, h2, h3, h4, h5⟩ := str_of hs (strB_all i hi) (bytS_small i hi) hA
      exact ⟨a, v, fun _ => ⟨h1, h2, h3, h4, h5⟩⟩
    · exact ⟨0, 0, fun h => absurd h hi⟩
  refine ⟨D, cy, fun i => Classical.choose (hT i), fun i => Classical.choose (Classical.choose_spec (hT i)), ⟨hK, ?_, ?_, fun x hx => ?_, fun q hq => ?_, fun i q hi => ?_, fun i hi => ?_, ?_, ?_⟩, ?_, ?_, ?_⟩
  · exact vx_Zqof (hts _ (tin_3 (w := Cond.laysStatic "java/lang/Throwable" "UNASSIGNED_STACK" "[Ljava/lang/StackTraceElement;") (k := 23) (by decide +kernel))) (hts _ (tin_1 (w := Cond.initialized "java/lang/Throwable") (k := 13) (by decide +kernel))) (hs _ (by decide +kernel)) hA
  · exact vx_Zqof (hts _ (tin_3 (w := Cond.laysStatic "java/lang/Throwable" "SUPPRESSED_SENTINEL" "Ljava/util/List;") (k := 25) (by decide +kernel))) (hts _ (tin_1 (w := Cond.initialized "java/lang/Throwable") (k := 13) (by decide +kernel))) (hs _ (by decide +kernel)) hA
  · have h1 := List.mem_filter.mp hx
    refine va_Nw.of ?_ (hts x h1.1)
    have h2 := h1.2
    cases x <;> first | (simp [nwF] at h2; done) | rfl
  · have h1 : ∀ q ∈ NCl, Cond.not (.castable q.1 q.2) ∈ narrowL := by decide +kernel
    exact va_Nc.of (hs _ (h1 q hq))
  · obtain ⟨h1, h2⟩ := txtS_at hi
    have h3 := (Classical.choose_spec (Classical.choose_spec (hT i)) h1).1
    rw [h2] at h3
    exact vk_R.of (hts _ (str_mem q (List.mem_of_getElem? hi))) h3
  · exact (Classical.choose_spec (Classical.choose_spec (hT i)) hi).2
  · refine va_Zof (hts _ (tin_3 (w := Cond.laysStatic "java/lang/String" "COMPACT_STRINGS" "Z") (k := 101) (by decide +kernel))) (hts _ (tin_1 (w := Cond.initialized "java/lang/String") (k := 17) (by decide +kernel))) ?_ hA
    have h1 : Cond.eq (.static "java/lang/String" "COMPACT_STRINGS" "Z") (.int 1) ∈ narrowL := by decide +kernel
    exact Cond.eq_int (hs _ h1) rfl
  · exact va_Zqof (hts _ (tin_3 (w := Cond.laysStatic "jdk/internal/util/Preconditions" "SIOOBE_FORMATTER" "Ljava/util/function/BiFunction;") (k := 117) (by decide +kernel))) (hts _ (tin_1 (w := Cond.initialized "jdk/internal/util/Preconditions") (k := 19) (by decide +kernel))) (hs _ (by decide +kernel)) hA
  · exact va_AO.of (hts _ (tin_1 (w := Cond.arrayOver (.object RX5)) (k := 105) (by decide +kernel)))
  · exact va_AO.of (hts _ (tin_1 (w := Cond.arrayOver (.object RX7)) (k := 198) (by decide +kernel)))
  · exact va_AO.of (hts _ (tin_1 (w := Cond.arrayOver (.object RX9)) (k := 200) (by decide +kernel)))
end LX
