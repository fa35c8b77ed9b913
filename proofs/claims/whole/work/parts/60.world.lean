section LX
def narrowL : List Cond := flatC (Jvm.Cond.and given_1 narrow_1)
def tmS (q : String × Nat × String) : Term := .string q.1 q.2.1
def strL (q : String × Nat × String) (byt : List Int32) : List Cond := Cond.exactly (tmS q) "java/lang/String" :: Cond.eq (.field (tmS q) "java/lang/String" "coder" "B") (.int 0) :: Cond.arrayOf (.field (tmS q) "java/lang/String" "value" "[B") .byte :: Cond.eq (.length (.field (tmS q) "java/lang/String" "value" "[B")) (.int (Int32.ofNat byt.length)) :: (List.range byt.length).map fun j => Cond.eq (.elem (.field (tmS q) "java/lang/String" "value" "[B") (.int (Int32.ofNat j))) (.int (byt.getD j 0))
theorem str_sub {o n : Nat} {l : List Cond} (h : (narrowL.drop o).take n = l) : ∀ x ∈ l, x ∈ narrowL := fun x hx => by
  rw [← h] at hx
  exact List.mem_of_mem_drop (List.mem_of_mem_take hx)
theorem sl_0 : (narrowL.drop 122).take 34 = strL (txtS.getD 0 ("", 0, "")) (bytS 0) := by decide +kernel
theorem sl_1 : (narrowL.drop 156).take 9 = strL (txtS.getD 1 ("", 0, "")) (bytS 1) := by decide +kernel
theorem sl_2 : (narrowL.drop 165).take 8 = strL (txtS.getD 2 ("", 0, "")) (bytS 2) := by decide +kernel
theorem sl_3 : (narrowL.drop 173).take 8 = strL (txtS.getD 3 ("", 0, "")) (bytS 3) := by decide +kernel
theorem sl_4 : (narrowL.drop 181).take 7 = strL (txtS.getD 4 ("", 0, "")) (bytS 4) := by decide +kernel
theorem sl_5 : (narrowL.drop 188).take 8 = strL (txtS.getD 5 ("", 0, "")) (bytS 5) := by decide +kernel
theorem sl_6 : (narrowL.drop 196).take 8 = strL (txtS.getD 6 ("", 0, "")) (bytS 6) := by decide +kernel
theorem sl_7 : (narrowL.drop 204).take 12 = strL (txtS.getD 7 ("", 0, "")) (bytS 7) := by decide +kernel
theorem sl_8 : (narrowL.drop 216).take 16 = strL (txtS.getD 8 ("", 0, "")) (bytS 8) := by decide +kernel
theorem sl_9 : (narrowL.drop 232).take 28 = strL (txtS.getD 9 ("", 0, "")) (bytS 9) := by decide +kernel
theorem sl_10 : (narrowL.drop 260).take 16 = strL (txtS.getD 10 ("", 0, "")) (bytS 10) := by decide +kernel
theorem sl_11 : (narrowL.drop 276).take 15 = strL (txtS.getD 11 ("", 0, "")) (bytS 11) := by decide +kernel
theorem sl_12 : (narrowL.drop 291).take 20 = strL (txtS.getD 12 ("", 0, "")) (bytS 12) := by decide +kernel
theorem sl_13 : (narrowL.drop 311).take 24 = strL (txtS.getD 13 ("", 0, "")) (bytS 13) := by decide +kernel
theorem sl_14 : (narrowL.drop 335).take 28 = strL (txtS.getD 14 ("", 0, "")) (bytS 14) := by decide +kernel
theorem sl_15 : (narrowL.drop 363).take 17 = strL (txtS.getD 15 ("", 0, "")) (bytS 15) := by decide +kernel
theorem sl_16 : (narrowL.drop 380).take 30 = strL (txtS.getD 16 ("", 0, "")) (bytS 16) := by decide +kernel
theorem sl_17 : (narrowL.drop 410).take 24 = strL (txtS.getD 17 ("", 0, "")) (bytS 17) := by decide +kernel
theorem sl_18 : (narrowL.drop 434).take 21 = strL (txtS.getD 18 ("", 0, "")) (bytS 18) := by decide +kernel
theorem sl_19 : (narrowL.drop 455).take 37 = strL (txtS.getD 19 ("", 0, "")) (bytS 19) := by decide +kernel
theorem sl_20 : (narrowL.drop 492).take 30 = strL (txtS.getD 20 ("", 0, "")) (bytS 20) := by decide +kernel
theorem sl_21 : (narrowL.drop 522).take 21 = strL (txtS.getD 21 ("", 0, "")) (bytS 21) := by decide +kernel
theorem sl_22 : (narrowL.drop 543).take 28 = strL (txtS.getD 22 ("", 0, "")) (bytS 22) := by decide +kernel
theorem sl_23 : (narrowL.drop 571).take 31 = strL (txtS.getD 23 ("", 0, "")) (bytS 23) := by decide +kernel
theorem sl_24 : (narrowL.drop 602).take 16 = strL (txtS.getD 24 ("", 0, "")) (bytS 24) := by decide +kernel
theorem sl_25 : (narrowL.drop 618).take 23 = strL (txtS.getD 25 ("", 0, "")) (bytS 25) := by decide +kernel
theorem sl_26 : (narrowL.drop 641).take 23 = strL (txtS.getD 26 ("", 0, "")) (bytS 26) := by decide +kernel
theorem sl_27 : (narrowL.drop 664).take 16 = strL (txtS.getD 27 ("", 0, "")) (bytS 27) := by decide +kernel
theorem sl_28 : (narrowL.drop 680).take 25 = strL (txtS.getD 28 ("", 0, "")) (bytS 28) := by decide +kernel
theorem sl_29 : (narrowL.drop 705).take 25 = strL (txtS.getD 29 ("", 0, "")) (bytS 29) := by decide +kernel
theorem sl_30 : (narrowL.drop 730).take 21 = strL (txtS.getD 30 ("", 0, "")) (bytS 30) := by decide +kernel
theorem sl_31 : (narrowL.drop 751).take 30 = strL (txtS.getD 31 ("", 0, "")) (bytS 31) := by decide +kernel
theorem sl_32 : (narrowL.drop 781).take 17 = strL (txtS.getD 32 ("", 0, "")) (bytS 32) := by decide +kernel
theorem sl_33 : (narrowL.drop 798).take 26 = strL (txtS.getD 33 ("", 0, "")) (bytS 33) := by decide +kernel
theorem sl_34 : (narrowL.drop 824).take 9 = strL (txtS.getD 34 ("", 0, "")) (bytS 34) := by decide +kernel
theorem sl_35 : (narrowL.drop 834).take 8 = strL (txtS.getD 35 ("", 0, "")) (bytS 35) := by decide +kernel
theorem sl_36 : (narrowL.drop 843).take 8 = strL (txtS.getD 36 ("", 0, "")) (bytS 36) := by decide +kernel
theorem sl_37 : (narrowL.drop 852).take 8 = strL (txtS.getD 37 ("", 0, "")) (bytS 37) := by decide +kernel
theorem sl_38 : (narrowL.drop 861).take 8 = strL (txtS.getD 38 ("", 0, "")) (bytS 38) := by decide +kernel
theorem sl_39 : (narrowL.drop 870).take 7 = strL (txtS.getD 39 ("", 0, "")) (bytS 39) := by decide +kernel
theorem strB_all : ∀ i : Nat, i < 40 → ∀ x ∈ strL (txtS.getD i ("", 0, "")) (bytS i), x ∈ narrowL := by
  intro i hi
  match i, hi with
  | 0, _ => exact str_sub sl_0
  | 1, _ => exact str_sub sl_1
  | 2, _ => exact str_sub sl_2
  | 3, _ => exact str_sub sl_3
  | 4, _ => exact str_sub sl_4
  | 5, _ => exact str_sub sl_5
  | 6, _ => exact str_sub sl_6
  | 7, _ => exact str_sub sl_7
  | 8, _ => exact str_sub sl_8
  | 9, _ => exact str_sub sl_9
  | 10, _ => exact str_sub sl_10
  | 11, _ => exact str_sub sl_11
  | 12, _ => exact str_sub sl_12
  | 13, _ => exact str_sub sl_13
  | 14, _ => exact str_sub sl_14
  | 15, _ => exact str_sub sl_15
  | 16, _ => exact str_sub sl_16
  | 17, _ => exact str_sub sl_17
  | 18, _ => exact str_sub sl_18
  | 19, _ => exact str_sub sl_19
  | 20, _ => exact str_sub sl_20
  | 21, _ => exact str_sub sl_21
  | 22, _ => exact str_sub sl_22
  | 23, _ => exact str_sub sl_23
  | 24, _ => exact str_sub sl_24
  | 25, _ => exact str_sub sl_25
  | 26, _ => exact str_sub sl_26
  | 27, _ => exact str_sub sl_27
  | 28, _ => exact str_sub sl_28
  | 29, _ => exact str_sub sl_29
  | 30, _ => exact str_sub sl_30
  | 31, _ => exact str_sub sl_31
  | 32, _ => exact str_sub sl_32
  | 33, _ => exact str_sub sl_33
  | 34, _ => exact str_sub sl_34
  | 35, _ => exact str_sub sl_35
  | 36, _ => exact str_sub sl_36
  | 37, _ => exact str_sub sl_37
  | 38, _ => exact str_sub sl_38
  | 39, _ => exact str_sub sl_39
  | k + 40, h => omega
theorem str_mem : ∀ q ∈ txtS, Cond.stringRef q.1 q.2.1 q.2.2 ∈ lw_tbl := by
  unfold txtS
  exact List.forall_mem_cons.mpr ⟨tin_3 (k := 38) (by decide +kernel), List.forall_mem_cons.mpr ⟨tin_3 (k := 87) (by decide +kernel), List.forall_mem_cons.mpr ⟨tin_3 (k := 140) (by decide +kernel), List.forall_mem_cons.mpr ⟨tin_3 (k := 141) (by decide +kernel), List.forall_mem_cons.mpr ⟨tin_3 (k := 142) (by decide +kernel), List.forall_mem_cons.mpr ⟨tin_3 (k := 143) (by decide +kernel), List.forall_mem_cons.mpr ⟨tin_3 (k := 144) (by decide +kernel), List.forall_mem_cons.mpr ⟨tin_3 (k := 152) (by decide +kernel), List.forall_mem_cons.mpr ⟨tin_4 (k := 65) (by decide +kernel), List.forall_mem_cons.mpr ⟨tin_4 (k := 72) (by decide +kernel), List.forall_mem_cons.mpr ⟨tin_4 (k := 103) (by decide +kernel), List.forall_mem_cons.mpr ⟨tin_4 (k := 115) (by decide +kernel), List.forall_mem_cons.mpr ⟨tin_4 (k := 123) (by decide +kernel), List.forall_mem_cons.mpr ⟨tin_4 (k := 153) (by decide +kernel), List.forall_mem_cons.mpr ⟨tin_4 (k := 164) (by decide +kernel), List.forall_mem_cons.mpr ⟨tin_4 (k := 190) (by decide +kernel), List.forall_mem_cons.mpr ⟨tin_4 (k := 230) (by decide +kernel), List.forall_mem_cons.mpr ⟨tin_4 (k := 237) (by decide +kernel), List.forall_mem_cons.mpr ⟨tin_5 (k := 49) (by decide +kernel), List.forall_mem_cons.mpr ⟨tin_5 (k := 111) (by decide +kernel), List.forall_mem_cons.mpr ⟨tin_5 (k := 136) (by decide +kernel), List.forall_mem_cons.mpr ⟨tin_5 (k := 137) (by decide +kernel), List.forall_mem_cons.mpr ⟨tin_5 (k := 153) (by decide +kernel), List.forall_mem_cons.mpr ⟨tin_5 (k := 165) (by decide +kernel), List.forall_mem_cons.mpr ⟨tin_5 (k := 186) (by decide +kernel), List.forall_mem_cons.mpr ⟨tin_5 (k := 190) (by decide +kernel), List.forall_mem_cons.mpr ⟨tin_5 (k := 205) (by decide +kernel), List.forall_mem_cons.mpr ⟨tin_6 (k := 42) (by decide +kernel), List.forall_mem_cons.mpr ⟨tin_6 (k := 47) (by decide +kernel), List.forall_mem_cons.mpr ⟨tin_6 (k := 163) (by decide +kernel), List.forall_mem_cons.mpr ⟨tin_6 (k := 181) (by decide +kernel), List.forall_mem_cons.mpr ⟨tin_6 (k := 194) (by decide +kernel), List.forall_mem_cons.mpr ⟨tin_6 (k := 221) (by decide +kernel), List.forall_mem_cons.mpr ⟨tin_7 (k := 0) (by decide +kernel), List.forall_mem_cons.mpr ⟨tin_7 (k := 166) (by decide +kernel), List.forall_mem_cons.mpr ⟨tin_7 (k := 185) (by decide +kernel), List.forall_mem_cons.mpr ⟨tin_7 (k := 186) (by decide +kernel), List.forall_mem_cons.mpr ⟨tin_7 (k := 215) (by decide +kernel), List.forall_mem_cons.mpr ⟨tin_7 (k := 216) (by decide +kernel), List.forall_mem_cons.mpr ⟨tin_7 (k := 217) (by decide +kernel), fun q h => nomatch h⟩⟩⟩⟩⟩⟩⟩⟩⟩⟩⟩⟩⟩⟩⟩⟩⟩⟩⟩⟩⟩⟩⟩⟩⟩⟩⟩⟩⟩⟩⟩⟩⟩⟩⟩⟩⟩⟩⟩⟩
theorem str_of {args : Array Value} {s : State} {A : Nat → Prop} (h : ∀ x ∈ narrowL, x.before args s = true) {q : String × Nat × String} {byt : List Int32} (hb : ∀ x ∈ strL q byt, x ∈ narrowL) (hlen : byt.length < 2 ^ 31) (hA : ∀ a : Nat, a < s.heap.size → ¬ A a) :
    ∃ a v : Nat, (tmS q).eval args s none [] s = some (.ref a) ∧ va_O "java/lang/String" a A s s.heap ∧ va_OF "java/lang/String" "coder" "B" (.int 0) a A s s.heap ∧ va_OF "java/lang/String" "value" "[B" (.ref v) a A s s.heap ∧ va_T .byte v byt.length (fun j => .int (byt.getD j 0)) A s s.heap := by
  have h1 := hb (Cond.exactly (tmS q) "java/lang/String") List.mem_cons_self
  have h2 := hb (Cond.eq (.field (tmS q) "java/lang/String" "coder" "B") (.int 0)) (List.mem_cons_of_mem _ List.mem_cons_self)
  have h3 := hb (Cond.arrayOf (.field (tmS q) "java/lang/String" "value" "[B") .byte) (List.mem_cons_of_mem _ (List.mem_cons_of_mem _ List.mem_cons_self))
  have h4 := hb (Cond.eq (.length (.field (tmS q) "java/lang/String" "value" "[B")) (.int (Int32.ofNat byt.length))) (List.mem_cons_of_mem _ (List.mem_cons_of_mem _ (List.mem_cons_of_mem _ List.mem_cons_self)))
  have h5 : ∀ j : Nat, j < byt.length → Cond.eq (.elem (.field (tmS q) "java/lang/String" "value" "[B") (.int (Int32.ofNat j))) (.int (byt.getD j 0)) ∈ narrowL := fun j hj => hb _ (List.mem_cons_of_mem _ (List.mem_cons_of_mem _ (List.mem_cons_of_mem _ (List.mem_cons_of_mem _ (List.mem_map.mpr ⟨j, List.mem_range.mpr hj, rfl⟩)))))
  obtain ⟨adK, adV, hS, hE⟩ := vk_Sof (args := args) (s := s) (N := 1) (tm := fun _ => tmS q) (len := [byt.length]) (byt := [byt]) (A := A)
    (fun i hi => by rw [show i = 0 by omega]; exact hlen) (fun i hi => h _ h1) (fun i hi => h _ h2) (fun i hi => h _ h3) (fun i hi => by rw [show i = 0 by omega]; exact h _ h4)
    (fun i hi j hj => by
      have hi0 : i = 0 := by omega
      subst hi0
      exact h _ (h5 j hj)) (fun i j hi hj hne => absurd (by omega) hne) hA
  have h6 := hS.1 0 (by decide)
  exact ⟨adK 0, adV 0, hE 0 (by decide), h6.1, h6.2.1, h6.2.2.1, h6.2.2.2⟩
theorem bytS_small : ∀ i : Nat, i < 40 → (bytS i).length < 2 ^ 31 := by decide +kernel
theorem txtS_at {i : Nat} {q : String × Nat × String} (h : txtS[i]? = some q) : i < 40 ∧ txtS.getD i ("", 0, "") = q := by
  refine ⟨(List.getElem?_eq_some_iff.mp h).1, ?_⟩
  rw [List.getD_eq_getElem?_getD, h]
  rfl
theorem arr_of {args : Array Value} {s : State} {ty : FieldType} (hty : ∀ C, ty ≠ .object C) (h : (Cond.arrayClass ty).before args s = true) : ∃ cA : ClassId, ArrOfT s cA ty ∧ va_RA s cA ty := by
  obtain ⟨c, k, comp, h1, h2, h3⟩ := Cond.arrayClass_spec h
  refine ⟨c, fun n z => ⟨fun q h => (by cases h), k, h2, comp, h3⟩, ?_⟩
  cases ty <;> first | exact h1 | exact absurd rfl (hty _)
theorem arro_of {args : Array Value} {s : State} {n : String} (h : (Cond.arrayOver (.object n)).before args s = true) : ∃ cA : ClassId, ArrOfT s cA (.object n) ∧ va_RA s cA (.object n) := by
  obtain ⟨comp, c, k, h1, h2, h3, h4, h5⟩ := Cond.arrayOver_spec h
  exact ⟨c, fun n z => ⟨fun q h => (by cases h), k, h3, comp, h4⟩, k, comp, h3, h4, h1, h5⟩
theorem ncl_mem : ∀ q ∈ NCl, Cond.not (.castable q.1 q.2) ∈ narrowL := by
  unfold NCl
  exact List.forall_mem_cons.mpr ⟨List.mem_of_getElem? (i := 40) (by decide +kernel), List.forall_mem_cons.mpr ⟨List.mem_of_getElem? (i := 38) (by decide +kernel), List.forall_mem_cons.mpr ⟨List.mem_of_getElem? (i := 39) (by decide +kernel), List.forall_mem_cons.mpr ⟨List.mem_of_getElem? (i := 68) (by decide +kernel), List.forall_mem_cons.mpr ⟨List.mem_of_getElem? (i := 70) (by decide +kernel), List.forall_mem_cons.mpr ⟨List.mem_of_getElem? (i := 24) (by decide +kernel), fun q h => nomatch h⟩⟩⟩⟩⟩⟩
theorem world_K {args : Array Value} {s : State} (hts : ∀ w ∈ lw_tbl, w.before args s = true) : ∃ (D : va_G) (cy : Nat → ClassId), va_K D vwCl (tysA cy) s := by
  have hG : ∀ w ∈ GW, w.before args s = true := fun w hw => hts w (List.mem_filter.mp hw).1
  have hP : ∀ c : Nat, ∃ (cC : ClassId) (iS : Nat → Nat), ∀ q, vwCl[c]? = some q → u_Kn s q.1 q.2.1 q.2.2 cC iS := by
    intro c
    match c with
    | 0 =>
      obtain ⟨cC, iS, h⟩ := u_known hG cl0.2.1 (hG _ gk_2_91)
      exact ⟨cC, iS, fun q hq => by rw [cl0.1] at hq; cases hq; exact h⟩
    | 1 =>
      obtain ⟨cC, iS, h⟩ := u_known hG cl1.2.1 (hG _ gk_2_134)
      exact ⟨cC, iS, fun q hq => by rw [cl1.1] at hq; cases hq; exact h⟩
    | 2 =>
      obtain ⟨cC, iS, h⟩ := u_known hG cl2.2.1 (hG _ gk_1_112)
      exact ⟨cC, iS, fun q hq => by rw [cl2.1] at hq; cases hq; exact h⟩
    | 3 =>
      obtain ⟨cC, iS, h⟩ := u_known hG cl3.2.1 (hG _ gk_2_47)
      exact ⟨cC, iS, fun q hq => by rw [cl3.1] at hq; cases hq; exact h⟩
    | 4 =>
      obtain ⟨cC, iS, h⟩ := u_known hG cl4.2.1 (hG _ gk_1_225)
      exact ⟨cC, iS, fun q hq => by rw [cl4.1] at hq; cases hq; exact h⟩
    | 5 =>
      obtain ⟨cC, iS, h⟩ := u_known hG cl5.2.1 (hG _ gk_1_106)
      exact ⟨cC, iS, fun q hq => by rw [cl5.1] at hq; cases hq; exact h⟩
    | 6 =>
      obtain ⟨cC, iS, h⟩ := u_known hG cl6.2.1 (hG _ gk_1_44)
      exact ⟨cC, iS, fun q hq => by rw [cl6.1] at hq; cases hq; exact h⟩
    | 7 =>
      obtain ⟨cC, iS, h⟩ := u_known hG cl7.2.1 (hG _ gk_1_38)
      exact ⟨cC, iS, fun q hq => by rw [cl7.1] at hq; cases hq; exact h⟩
    | 8 =>
      obtain ⟨cC, iS, h⟩ := u_known hG cl8.2.1 (hG _ gk_2_72)
      exact ⟨cC, iS, fun q hq => by rw [cl8.1] at hq; cases hq; exact h⟩
    | 9 =>
      obtain ⟨cC, iS, h⟩ := u_known hG cl9.2.1 (hG _ gk_1_201)
      exact ⟨cC, iS, fun q hq => by rw [cl9.1] at hq; cases hq; exact h⟩
    | 10 =>
      obtain ⟨cC, iS, h⟩ := u_known hG cl10.2.1 (hG _ gk_1_30)
      exact ⟨cC, iS, fun q hq => by rw [cl10.1] at hq; cases hq; exact h⟩
    | 11 =>
      obtain ⟨cC, iS, h⟩ := u_known hG cl11.2.1 (hG _ gk_7_2)
      exact ⟨cC, iS, fun q hq => by rw [cl11.1] at hq; cases hq; exact h⟩
    | c + 12 => exact ⟨0, fun _ => 0, fun q hq => by cases hq⟩
  have hY : ∀ k : Nat, ∃ cA : ClassId, k < 7 → ArrOfT s cA ((tysA (fun _ => 0)).getD k (0, .int)).2 ∧ va_RA s cA ((tysA (fun _ => 0)).getD k (0, .int)).2 := by
    intro k
    match k with
    | 0 =>
      obtain ⟨cA, h⟩ := arr_of (ty := .int) (fun C h => by cases h) (hts _ (tin_1 (w := Cond.arrayClass .int) (k := 103) (by decide +kernel)))
      exact ⟨cA, fun _ => h⟩
    | 1 =>
      obtain ⟨cA, h⟩ := arr_of (ty := .byte) (fun C h => by cases h) (hts _ (tin_2 (w := Cond.arrayClass .byte) (k := 45) (by decide +kernel)))
      exact ⟨cA, fun _ => h⟩
    | 2 =>
      obtain ⟨cA, h⟩ := arr_of (ty := .boolean) (fun C h => by cases h) (hts _ (tin_7 (w := Cond.arrayClass .boolean) (k := 125) (by decide +kernel)))
      exact ⟨cA, fun _ => h⟩
    | 3 =>
      obtain ⟨cA, h⟩ := arr_of (ty := .long) (fun C h => by cases h) (hts _ (tin_1 (w := Cond.arrayClass .long) (k := 121) (by decide +kernel)))
      exact ⟨cA, fun _ => h⟩
    | 4 =>
      obtain ⟨cA, h⟩ := arro_of (hts _ (tin_1 (w := Cond.arrayOver (.object RX5)) (k := 105) (by decide +kernel)))
      exact ⟨cA, fun _ => h⟩
    | 5 =>
      obtain ⟨cA, h⟩ := arro_of (hts _ (tin_1 (w := Cond.arrayOver (.object RX7)) (k := 198) (by decide +kernel)))
      exact ⟨cA, fun _ => h⟩
    | 6 =>
      obtain ⟨cA, h⟩ := arro_of (hts _ (tin_1 (w := Cond.arrayOver (.object RX9)) (k := 200) (by decide +kernel)))
      exact ⟨cA, fun _ => h⟩
    | k + 7 => exact ⟨0, fun h => absurd h (by omega)⟩
  refine ⟨(fun c => Classical.choose (hP c), fun c => Classical.choose (Classical.choose_spec (hP c))), fun k => Classical.choose (hY k), fun c q hq => Classical.choose_spec (Classical.choose_spec (hP c)) q hq, fun k q hk => ?_⟩
  have hk7 : k < 7 := (List.getElem?_eq_some_iff.mp hk).1
  have h := Classical.choose_spec (hY k) hk7
  match k, hk7, hk, h with
  | 0, _, hk, h => cases hk; exact h
  | 1, _, hk, h => cases hk; exact h
  | 2, _, hk, h => cases hk; exact h
  | 3, _, hk, h => cases hk; exact h
  | 4, _, hk, h => cases hk; exact h
  | 5, _, hk, h => cases hk; exact h
  | 6, _, hk, h => cases hk; exact h
  | k + 7, h7, _, _ => exact absurd h7 (by omega)
theorem world_of {args : Array Value} {s : State} (hts : ∀ w ∈ lw_tbl, w.before args s = true) (hgv : (Jvm.Cond.and given_1 narrow_1).before args s = true) : ∃ (D : va_G) (cy : Nat → ClassId) (sa sv : Nat → Nat), KX D cy sa sv s.heap.size s := by
  have hs : ∀ x ∈ narrowL, x.before args s = true := flat_of_before _ hgv
  have hA : ∀ a : Nat, a < s.heap.size → ¬ AA s.heap.size kdN 0 a := fun a h1 h2 => by have h3 := h2.1; omega
  obtain ⟨D, cy, hK⟩ := world_K hts
  have hT : ∀ i : Nat, ∃ a v : Nat, i < 40 → (tmS (txtS.getD i ("", 0, ""))).eval args s none [] s = some (.ref a) ∧ txO (fun _ => a) (fun _ => v) (AA s.heap.size kdN 0) s s.heap i := by
    intro i
    by_cases hi : i < 40
    · obtain ⟨a, v, h1, h2, h3, h4, h5⟩ := str_of hs (strB_all i hi) (bytS_small i hi) hA
      exact ⟨a, v, fun _ => ⟨h1, h2, h3, h4, h5⟩⟩
    · exact ⟨0, 0, fun h => absurd h hi⟩
  refine ⟨D, cy, fun i => Classical.choose (hT i), fun i => Classical.choose (Classical.choose_spec (hT i)), ⟨hK, ?_, ?_, fun x hx => ?_, fun q hq => ?_, fun i q hi => ?_, fun i hi => ?_, ?_, ?_⟩, ?_, ?_, ?_⟩
  · exact vx_Zqof (hts _ (tin_3 (w := Cond.laysStatic "java/lang/Throwable" "UNASSIGNED_STACK" "[Ljava/lang/StackTraceElement;") (k := 23) (by decide +kernel))) (hts _ (tin_1 (w := Cond.initialized "java/lang/Throwable") (k := 13) (by decide +kernel))) (hs _ (by decide +kernel)) hA
  · exact vx_Zqof (hts _ (tin_3 (w := Cond.laysStatic "java/lang/Throwable" "SUPPRESSED_SENTINEL" "Ljava/util/List;") (k := 25) (by decide +kernel))) (hts _ (tin_1 (w := Cond.initialized "java/lang/Throwable") (k := 13) (by decide +kernel))) (hs _ (by decide +kernel)) hA
  · have h1 := List.mem_filter.mp hx
    refine va_Nw.of ?_ (hts x h1.1)
    have h2 := h1.2
    cases x <;> first | (simp [nwF] at h2; done) | rfl
  · exact va_Nc.of (hs _ (ncl_mem q hq))
  · obtain ⟨h1, h2⟩ := txtS_at hi
    subst h2
    exact vk_R.of (hts _ (str_mem _ (List.mem_of_getElem? hi))) (Classical.choose_spec (Classical.choose_spec (hT i)) h1).1
  · exact (Classical.choose_spec (Classical.choose_spec (hT i)) hi).2
  · refine va_Zof (hts _ (tin_3 (w := Cond.laysStatic "java/lang/String" "COMPACT_STRINGS" "Z") (k := 101) (by decide +kernel))) (hts _ (tin_1 (w := Cond.initialized "java/lang/String") (k := 17) (by decide +kernel))) ?_ hA
    have h1 : Cond.eq (.static "java/lang/String" "COMPACT_STRINGS" "Z") (.int 1) ∈ narrowL := by decide +kernel
    exact Cond.eq_int (hs _ h1) rfl
  · exact va_Zqof (hts _ (tin_3 (w := Cond.laysStatic "jdk/internal/util/Preconditions" "SIOOBE_FORMATTER" "Ljava/util/function/BiFunction;") (k := 117) (by decide +kernel))) (hts _ (tin_1 (w := Cond.initialized "jdk/internal/util/Preconditions") (k := 19) (by decide +kernel))) (hs _ (by decide +kernel)) hA
  · exact va_AO.of (hts _ (tin_1 (w := Cond.arrayOver (.object RX5)) (k := 105) (by decide +kernel)))
  · exact va_AO.of (hts _ (tin_1 (w := Cond.arrayOver (.object RX7)) (k := 198) (by decide +kernel)))
  · exact va_AO.of (hts _ (tin_1 (w := Cond.arrayOver (.object RX9)) (k := 200) (by decide +kernel)))
end LX
