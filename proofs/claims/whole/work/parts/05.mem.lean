/-! MEMORY AND LAYOUT. An object's place is its number behind the law's start; its cell is ints and longs; references never change behind the constructors. -/
abbrev Mem : Type := Nat → (Nat → Int32) × (Nat → Int64)
def rI (M : Mem) (a k : Nat) : Int32 := (M a).1 k
def rJ (M : Mem) (a k : Nat) : Int64 := (M a).2 k
def wIs (M : Mem) (a : Nat) (f : Nat → Int32) : Mem := va_up M a (f, (M a).2)
def wJs (M : Mem) (a : Nat) (f : Nat → Int64) : Mem := va_up M a ((M a).1, f)
def wI (M : Mem) (a k : Nat) (v : Int32) : Mem := wIs M a (upd (M a).1 k v)
def wJ (M : Mem) (a k : Nat) (v : Int64) : Mem := wJs M a (vp_updL (M a).2 k v)
def bI (b : Bool) : Int32 := if b then 1 else 0
abbrev Res : Type := (Nat ⊕ Option Value) × Mem
/-- of an object: each slot: 0 an int, 1 a long, n + 2 a reference n places further, to a thing of that kind -/
def lay : Nat → List (Nat × Nat)
  | 0 => [(0, 0), (0, 0), (0, 0), (0, 0), (0, 0), (0, 0), (1, 0), (3, 2), (5, 35), (6, 33)]
  | 1 => [(0, 0), (0, 0), (0, 0), (3, 2), (5, 2)]
  | 2 => [(3, 25)]
  | 3 => [(3, 24), (4, 24), (5, 24), (6, 33), (0, 0), (0, 0)]
  | 4 => [(3, 6), (0, 0), (0, 0), (0, 0), (10, 31), (11, 32), (0, 0), (0, 0), (0, 0), (0, 0), (0, 0), (0, 0), (0, 0), (0, 0), (0, 0), (0, 0)]
  | 5 => [(0, 0), (0, 0), (0, 0), (0, 0), (0, 0), (0, 0), (0, 0), (0, 0), (3, 2), (5, 26)]
  | 6 => [(0, 0), (0, 0), (0, 0), (0, 0), (0, 0), (0, 0), (0, 0), (0, 0), (3, 20), (4, 21), (5, 21), (6, 22), (7, 23), (8, 24)]
  | 7 => [(3, 6), (10, 27)]
  | 8 => [(3, 30), (4, 34), (5, 33), (1, 0)]
  | 9 => [(0, 0), (0, 0), (0, 0), (3, 30)]
  | 10 => [(0, 0), (0, 0), (0, 0), (0, 0), (3, 7), (28, 28), (0, 0), (104, 29), (113, 4), (123, 3), (128, 8), (132, 0), (137, 1)]
  | 11 => [(3, 36), (4, 36), (5, 37), (6, 38), (7, 39), (0, 0), (8, 20), (0, 0), (0, 0), (0, 0), (0, 0), (0, 0), (0, 0), (0, 0), (0, 0), (0, 0), (0, 0), (0, 0), (9, 40), (10, 24), (11, 24), (12, 41), (13, 30), (14, 34), (15, 33), (16, 42), (0, 0), (0, 0), (17, 43), (18, 44), (19, 44), (20, 44), (21, 43), (22, 44), (23, 33), (24, 45), (25, 45), (26, 46)]
  | _ => []
/-- of an array: what its places are (0 int, 1 byte, 2 boolean, 3 long, 4 and more references), how many, for references how far from one to the next, and to what -/
def arr : Nat → Nat × Nat × Nat × Nat
  | 20 => (0, 600, 0, 0)
  | 21 => (0, 6, 0, 0)
  | 22 => (0, 256, 0, 0)
  | 23 => (0, 1536, 0, 0)
  | 24 => (0, 16, 0, 0)
  | 25 => (3, 4, 0, 0)
  | 26 => (0, 240, 0, 0)
  | 27 => (4, 4, 4, 5)
  | 28 => (5, 3, 25, 7)
  | 29 => (6, 4, 2, 9)
  | 30 => (3, 40, 0, 0)
  | 31 => (1, 600, 0, 0)
  | 32 => (0, 20, 0, 0)
  | 33 => (0, 64, 0, 0)
  | 34 => (0, 40, 0, 0)
  | 35 => (3, 256, 0, 0)
  | 36 => (0, 3268, 0, 0)
  | 37 => (0, 9804, 0, 0)
  | 38 => (0, 512, 0, 0)
  | 39 => (2, 3, 0, 0)
  | 40 => (0, 300, 0, 0)
  | 41 => (2, 16, 0, 0)
  | 42 => (2, 40, 0, 0)
  | 43 => (2, 64, 0, 0)
  | 44 => (2, 256, 0, 0)
  | 45 => (0, 4, 0, 0)
  | 46 => (3, 160, 0, 0)
  | 47 => (3, 1, 0, 0)
  | _ => (0, 0, 0, 0)
def kdl : List Nat := [10, 7, 6, 20, 21, 21, 22, 23, 24, 27, 5, 2, 25, 26, 5, 2, 25, 26, 5, 2, 25, 26, 5, 2, 25, 26, 28, 7, 6, 20, 21, 21, 22, 23, 24, 27, 5, 2, 25, 26, 5, 2, 25, 26, 5, 2, 25, 26, 5, 2, 25, 26, 7, 6, 20, 21, 21, 22, 23, 24, 27, 5, 2, 25, 26, 5, 2, 25, 26, 5, 2, 25, 26, 5, 2, 25, 26, 7, 6, 20, 21, 21, 22, 23, 24, 27, 5, 2, 25, 26, 5, 2, 25, 26, 5, 2, 25, 26, 5, 2, 25, 26, 29, 9, 30, 9, 30, 9, 30, 9, 30, 4, 6, 20, 21, 21, 22, 23, 24, 31, 32, 3, 24, 24, 24, 33, 8, 30, 34, 33, 0, 2, 25, 35, 33, 1, 2, 25, 2, 25, 11, 36, 36, 37, 38, 39, 20, 40, 24, 24, 41, 30, 34, 33, 42, 43, 44, 44, 44, 43, 44, 33, 45, 45, 46, 47]
def fV (B a : Nat) (q : (Nat → Int32) × (Nat → Int64)) (c k : Nat) : Value := match c with
  | 0 => .int (q.1 k)
  | 1 => .long (q.2 k)
  | n + 2 => .ref (B + (a + n))
def fL (B a : Nat) (q : (Nat → Int32) × (Nat → Int64)) : List (Nat × Nat) → Nat → List Value
  | [], _ => []
  | c :: cs, k => fV B a q c.1 k :: fL B a q cs (k + 1)
def aV (B a : Nat) (q : (Nat → Int32) × (Nat → Int64)) (el st : Nat) : (Nat → Int32) ⊕ (Nat → Int64) ⊕ (Nat → UInt32) ⊕ (Nat → UInt64) ⊕ (Nat → Option Nat) :=
  if el < 3 then .inl q.1 else if el = 3 then .inr (.inl q.2) else .inr (.inr (.inr (.inr (fun j => some (B + (a + 1 + st * j))))))
def celE (cy : Nat → ClassId) (B a K : Nat) (q : (Nat → Int32) × (Nat → Int64)) : va_E :=
  if K < 20 then .inr (K, fL B a q (lay K) 0) else .inl (cy (arr K).1, (arr K).2.1, aV B a q (arr K).1 (arr K).2.2.1)
def cel (cy : Nat → ClassId) (B : Nat) (kd : Nat → Nat) (M : Mem) (q : Nat) : va_E := celE cy B (q - B) (kd (q - B)) (M (q - B))
def LL (B : Nat) (kd : Nat → Nat) (n : Nat) : List Nat := ((List.range n).filter (fun i => decide (kd i < 48))).map (fun i => B + i)
def AA (B : Nat) (kd : Nat → Nat) (n : Nat) : Nat → Prop := fun q => B ≤ q ∧ (q < B + n → kd (q - B) < 48)
/-- what a shape must keep: what is told of is there; references lead to what the layout says -/
def kOk (kd : Nat → Nat) (n : Nat) : Prop := ∀ a : Nat, (kd a < 48 → a < n) ∧ (∀ (k off K : Nat), (lay (kd a))[k]? = some (off + 2, K) → kd (a + off) = K) ∧ (4 ≤ (arr (kd a)).1 → ∀ j : Nat, j < (arr (kd a)).2.1 → kd (a + 1 + (arr (kd a)).2.2.1 * j) = (arr (kd a)).2.2.2)
def Sat (D : va_G) (cy : Nat → ClassId) (B : Nat) (kd : Nat → Nat) (n : Nat) (M : Mem) (H : Heap) : Prop := va_P D vwCl (va_pl (LL B kd n) (cel cy B kd M)) H
def tysA (cy : Nat → ClassId) : List (ClassId × FieldType) := [(cy 0, .int), (cy 1, .byte), (cy 2, .boolean), (cy 3, .long), (cy 4, .object RX5), (cy 5, .object RX7), (cy 6, .object RX9)]
theorem LL_mem {B : Nat} {kd : Nat → Nat} {n a : Nat} (h : a < n) (hk : kd a < 48) : B + a ∈ LL B kd n := List.mem_map.mpr ⟨a, List.mem_filter.mpr ⟨List.mem_range.mpr h, decide_eq_true hk⟩, rfl⟩
theorem LL_of {B : Nat} {kd : Nat → Nat} {n q : Nat} (h : q ∈ LL B kd n) : ∃ a, a < n ∧ kd a < 48 ∧ q = B + a := by
  obtain ⟨a, h1, h2⟩ := List.mem_map.mp h
  obtain ⟨h3, h4⟩ := List.mem_filter.mp h1
  exact ⟨a, List.mem_range.mp h3, of_decide_eq_true h4, h2.symm⟩
theorem LL_nd {B : Nat} {kd : Nat → Nat} {n : Nat} : (LL B kd n).Nodup := by
  refine List.Pairwise.map (R := fun a b : Nat => a ≠ b) _ (fun a b h q => h (Nat.add_left_cancel q)) ?_
  exact List.Pairwise.filter _ List.nodup_range
theorem nodup_inj {l : List Nat} (h : l.Nodup) {i j : Nat} (hi : i < l.length) (hj : j < l.length) (e : l[i] = l[j]) : i = j := by
  have h1 := List.pairwise_iff_getElem.mp h
  rcases Nat.lt_trichotomy i j with q | q | q
  · exact absurd e (h1 i j hi hj q)
  · exact q
  · exact absurd e.symm (h1 j i hj hi q)
theorem LL_D {B : Nat} {kd : Nat → Nat} {n : Nat} (f : Nat → va_E) : va_D (AA B kd n) (va_pl (LL B kd n) f) := by
  have key : ∀ (k : Nat) (q : Nat × va_E), (va_pl (LL B kd n) f)[k]? = some q → (LL B kd n)[k]? = some q.1 := by
    intro k q h
    simp only [va_pl, List.getElem?_map, Option.map_eq_some_iff] at h
    obtain ⟨a, h1, rfl⟩ := h
    exact h1
  refine ⟨fun i j p q hi hj hpq => ?_, fun k q h => ?_⟩
  · have h1 := key i p hi
    have h2 := key j q hj
    rw [hpq] at h1
    obtain ⟨l1, e1⟩ := List.getElem?_eq_some_iff.mp h1
    obtain ⟨l2, e2⟩ := List.getElem?_eq_some_iff.mp h2
    exact nodup_inj LL_nd l1 l2 (e1.trans e2.symm)
  · obtain ⟨a, h1, h2, h3⟩ := LL_of (List.mem_of_getElem? (key k q h))
    refine ⟨by omega, fun _ => ?_⟩
    rw [h3, Nat.add_sub_cancel_left]
    exact h2
theorem sat_get {D : va_G} {cy : Nat → ClassId} {B : Nat} {kd : Nat → Nat} {n a : Nat} (M : Mem) (hn : a < n) (hk : kd a < 48) : ∃ q0 : Nat, (va_pl (LL B kd n) (cel cy B kd M))[q0]? = some (B + a, celE cy B a (kd a) (M a)) := by
  obtain ⟨q0, h⟩ := va_pl_get (X := []) (f := cel cy B kd M) (LL_mem (B := B) hn hk)
  refine ⟨q0, ?_⟩
  rw [List.nil_append] at h
  rw [h]
  simp only [cel, Nat.add_sub_cancel_left]
theorem sat_set {cy : Nat → ClassId} {B : Nat} {kd : Nat → Nat} {n a q0 : Nat} {M : Mem} {v : (Nat → Int32) × (Nat → Int64)} {e : va_E} (hn : a < n) (hk : kd a < 48) (h : (va_pl (LL B kd n) (cel cy B kd M))[q0]? = some (B + a, celE cy B a (kd a) (M a))) (he : e = celE cy B a (kd a) v) :
    (va_pl (LL B kd n) (cel cy B kd M)).set q0 (B + a, e) = va_pl (LL B kd n) (cel cy B kd (va_up M a v)) := by
  have hD : va_D (AA B kd n) ([] ++ va_pl (LL B kd n) (cel cy B kd M)) := by rw [List.nil_append]; exact LL_D _
  have h1 := va_pl_set (X := []) (e := e) hD (LL_mem (B := B) hn hk) (by rw [List.nil_append, h]; simp only [cel, Nat.add_sub_cancel_left])
  rw [List.nil_append, List.nil_append] at h1
  rw [h1]
  refine List.map_congr_left fun q hq => ?_
  obtain ⟨b, h2, h3, rfl⟩ := LL_of hq
  by_cases hb : b = a
  · subst hb
    rw [va_up_self]
    simp only [cel, Nat.add_sub_cancel_left, va_up_self]
    rw [he]
  · rw [va_up_ne _ _ (fun z => hb (Nat.add_left_cancel z))]
    simp only [cel, Nat.add_sub_cancel_left, va_up_ne _ _ hb]
theorem fL_get {B a : Nat} {q : (Nat → Int32) × (Nat → Int64)} : ∀ (l : List (Nat × Nat)) (k j : Nat) (c : Nat × Nat), l[k]? = some c → (fL B a q l j)[k]? = some (fV B a q c.1 (j + k))
  | [], k, j, c, h => by simp at h
  | d :: l, 0, j, c, h => by
    simp only [List.getElem?_cons_zero, Option.some.injEq] at h
    subst h
    simp [fL]
  | d :: l, k + 1, j, c, h => by
    simp only [List.getElem?_cons_succ] at h
    have h1 := fL_get (B := B) (a := a) (q := q) l k (j + 1) c h
    simp only [fL, List.getElem?_cons_succ]
    rw [h1, show j + 1 + k = j + (k + 1) by omega]
theorem fL_len {B a : Nat} {q : (Nat → Int32) × (Nat → Int64)} : ∀ (l : List (Nat × Nat)) (j : Nat), (fL B a q l j).length = l.length
  | [], _ => rfl
  | d :: l, j => by simp only [fL, List.length_cons, fL_len l (j + 1)]
theorem fV_upd {B a k i : Nat} {q : (Nat → Int32) × (Nat → Int64)} {v : Int32} {c : Nat} (h : c = 0 → i ≠ k) : fV B a (upd q.1 k v, q.2) c i = fV B a q c i := by
  match c with
  | 0 => simp [fV, upd, h rfl]
  | 1 => rfl
  | n + 2 => rfl
theorem fV_updJ {B a k i : Nat} {q : (Nat → Int32) × (Nat → Int64)} {v : Int64} {c : Nat} (h : c = 1 → i ≠ k) : fV B a (q.1, vp_updL q.2 k v) c i = fV B a q c i := by
  match c with
  | 0 => rfl
  | 1 => simp [fV, vp_updL, h rfl]
  | n + 2 => rfl
theorem fL_set {B a : Nat} {q : (Nat → Int32) × (Nat → Int64)} {v : Int32} : ∀ (l : List (Nat × Nat)) (k j : Nat) (K : Nat), l[k]? = some (0, K) → (fL B a q l j).set k (.int v) = fL B a (upd q.1 (j + k) v, q.2) l j
  | [], k, j, K, h => by simp at h
  | d :: l, 0, j, K, h => by
    simp only [List.getElem?_cons_zero, Option.some.injEq] at h
    subst h
    have key : ∀ (l : List (Nat × Nat)) (i : Nat), j < i → fL B a (upd q.1 j v, q.2) l i = fL B a q l i := by
      intro l
      induction l with
      | nil => intro i _; rfl
      | cons d l ih => intro i hi; simp only [fL]; rw [ih (i + 1) (by omega), fV_upd (fun _ => by omega)]
    simp only [fL, List.set_cons_zero, Nat.add_zero]
    rw [key l (j + 1) (by omega)]
    simp [fV, upd]
  | d :: l, k + 1, j, K, h => by
    simp only [List.getElem?_cons_succ] at h
    have h1 := fL_set (B := B) (a := a) (q := q) (v := v) l k (j + 1) K h
    simp only [fL, List.set_cons_succ]
    rw [h1, show j + 1 + k = j + (k + 1) by omega, fV_upd (fun _ => by omega)]
theorem fL_setJ {B a : Nat} {q : (Nat → Int32) × (Nat → Int64)} {v : Int64} : ∀ (l : List (Nat × Nat)) (k j : Nat) (K : Nat), l[k]? = some (1, K) → (fL B a q l j).set k (.long v) = fL B a (q.1, vp_updL q.2 (j + k) v) l j
  | [], k, j, K, h => by simp at h
  | d :: l, 0, j, K, h => by
    simp only [List.getElem?_cons_zero, Option.some.injEq] at h
    subst h
    have key : ∀ (l : List (Nat × Nat)) (i : Nat), j < i → fL B a (q.1, vp_updL q.2 j v) l i = fL B a q l i := by
      intro l
      induction l with
      | nil => intro i _; rfl
      | cons d l ih => intro i hi; simp only [fL]; rw [ih (i + 1) (by omega), fV_updJ (fun _ => by omega)]
    simp only [fL, List.set_cons_zero, Nat.add_zero]
    rw [key l (j + 1) (by omega)]
    simp [fV, vp_updL]
  | d :: l, k + 1, j, K, h => by
    simp only [List.getElem?_cons_succ] at h
    have h1 := fL_setJ (B := B) (a := a) (q := q) (v := v) l k (j + 1) K h
    simp only [fL, List.set_cons_succ]
    rw [h1, show j + 1 + k = j + (k + 1) by omega, fV_updJ (fun _ => by omega)]
def kd0 (a : Nat) : Nat := kdl.getD a 9999
theorem kd0_big {a : Nat} (h : 166 ≤ a) : kd0 a = 9999 := by
  unfold kd0
  rw [List.getD_eq_getElem?_getD, List.getElem?_eq_none (by rw [show kdl.length = 166 from rfl]; exact h)]
  rfl
