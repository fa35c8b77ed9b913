/-! X10_feed -/
def fX10_feed (N : Nat) (v0 : Nat) (v1 : Int32) (v2 : Int32) (v3 : Int32) (v4 : Int32) (v5 : Int32) (M : Mem) : Option (Int32 × Mem) :=
  if ((rI M (v0 + 111) 1) + (20 : Int32)) ≤ (600 : Int32) then (fX4_append N (v0 + 111) v1 M).bind fun qj3 => (fX4_append N (v0 + 111) v2 qj3).bind fun qj5 => (fX4_append N (v0 + 111) v3 qj5).bind fun qj7 => (fX4_append N (v0 + 111) v4 qj7).bind fun qj9 => (fX4_append N (v0 + 111) v5 qj9).bind fun qj11 => some ((rI qj11 (v0 + 111) 1), qj11) else some ((-1 : Int32), M)
/-! X10_rules -/
def fX10_rules_b15 (N : Nat) (M : Mem) : Option ((Nat ⊕ Int32) × Mem) :=
  some (.inl 3, M)
def fX10_rules (N : Nat) (v0 : Nat) (v1 : Int32) (M : Mem) : Option ((Nat ⊕ Int32) × Mem) :=
  if v1 < 0 then fX10_rules_b15 N M else if v1 ≤ (rI M (v0 + 111) 1) then (fX4_readAll N (v0 + 111) v1 M).bind fun qj3 => if qj3.1 = true then (fX6_copyFrom ((v0 + 1) + 1) ((v0 + 111) + 1) (wI (wI (wI qj3.2 (v0 + 111) 1 (0 : Int32)) v0 0 (rI (wI qj3.2 (v0 + 111) 1 (0 : Int32)) (v0 + 111) 2)) v0 1 (rI (wI (wI qj3.2 (v0 + 111) 1 (0 : Int32)) v0 0 (rI (wI qj3.2 (v0 + 111) 1 (0 : Int32)) (v0 + 111) 2)) (v0 + 111) 3))).bind fun qj11 => (fX7_removeRows N (v0 + 1) qj11).bind fun qj13 => some (.inr (rI qj13 ((v0 + 1) + 1) 0), qj13) else some (.inr ((-10 : Int32) - (rI (wI (wI (wI qj3.2 (v0 + 111) 1 (0 : Int32)) v0 0 (rI (wI qj3.2 (v0 + 111) 1 (0 : Int32)) (v0 + 111) 2)) v0 1 (rI (wI (wI qj3.2 (v0 + 111) 1 (0 : Int32)) v0 0 (rI (wI qj3.2 (v0 + 111) 1 (0 : Int32)) (v0 + 111) 2)) (v0 + 111) 3)) v0 0)), wI (wI (wI qj3.2 (v0 + 111) 1 (0 : Int32)) v0 0 (rI (wI qj3.2 (v0 + 111) 1 (0 : Int32)) (v0 + 111) 2)) v0 1 (rI (wI (wI qj3.2 (v0 + 111) 1 (0 : Int32)) v0 0 (rI (wI qj3.2 (v0 + 111) 1 (0 : Int32)) (v0 + 111) 2)) (v0 + 111) 3)) else fX10_rules_b15 N M
/-! X10_fault -/
def fX10_fault (v0 : Nat) (v1 : Int32) (Mo : Mem) : Option Int32 :=
  if v1 = (0 : Int32) then some (rI Mo v0 0) else if v1 = (1 : Int32) then some (rI Mo v0 1) else some (-1 : Int32)
/-! X10_needMarkAndSize -/
def fX10_needMarkAndSize_b18  (M : Mem) : Option ((Nat ⊕ Unit) × Mem) :=
  some (.inl 1, M)
def fX10_needMarkAndSize_b40  (M : Mem) : Option ((Nat ⊕ Unit) × Mem) :=
  some (.inl 3, M)
def fX10_needMarkAndSize (v0 : Nat) (v1 : Int32) (v2 : Int32) (M : Mem) : Option ((Nat ⊕ Unit) × Mem) :=
  if v1 < 0 then fX10_needMarkAndSize_b18 M else if v1 < (rI M ((v0 + 1) + 1) 3) then if v2 < (1 : Int32) then fX10_needMarkAndSize_b40 M else if v2 ≤ (128 : Int32) then some (.inr (), M) else fX10_needMarkAndSize_b40 M else fX10_needMarkAndSize_b18 M
/-! X10_value -/
def fX10_value (N : Nat) (v0 : Nat) (v1 : Int32) (v2 : Int32) (v3 : Int32) (M : Mem) : Option ((Nat ⊕ Int32) × Mem) :=
  xb (fX10_needMarkAndSize v0 v1 v3 M) fun qj1 Mj1 => (fX6_valueOf N ((v0 + 1) + 1) v1 v2 v3 Mj1).bind fun qj4 => some (.inr qj4.1, qj4.2)
/-! X10_place -/
def fX10_place (N : Nat) (v0 : Nat) (v1 : Int32) (v2 : Int32) (v3 : Int32) (M : Mem) : Option ((Nat ⊕ Int32) × Mem) :=
  xb (fX10_needMarkAndSize v0 v1 v3 M) fun qj1 Mj1 => (fX6_placeOf N ((v0 + 1) + 1) v1 v2 v3 Mj1).bind fun qj4 => some (.inr qj4.1, qj4.2)
/-! X10_isName -/
def fX10_isName_b26  (Mo : Mem) : Option Bool :=
  some false
def fX10_isName (v0 : Nat) (v1 : Int64) (Mo : Mem) : Option Bool :=
  if v1 < (0 : Int64) then fX10_isName_b26 Mo else if (rI Mo ((v0 + 1) + 1) 1).toInt64 ≤ v1 then fX10_isName_b26 Mo else some true
/-! X10_needName -/
def fX10_needName (v0 : Nat) (v1 : Int64) (M : Mem) : Option ((Nat ⊕ Unit) × Mem) :=
  (fX10_isName v0 v1 M).bind fun qj1 => if qj1 = true then some (.inr (), M) else some (.inl 3, M)
/-! X10_tag -/
def fX10_tag (v0 : Nat) (v1 : Int32) (M : Mem) : Option ((Nat ⊕ Int32) × Mem) :=
  xb (fX10_needName v0 v1.toInt64 M) fun qj1 Mj1 => (fX6_tagOf ((v0 + 1) + 1) v1 Mj1).bind fun qj4 => some (.inr qj4, Mj1)
/-! X10_canBe -/
def fX10_canBe_b9  (Mo : Mem) : Option Bool :=
  some false
def fX10_canBe_b65  (Mo : Mem) : Option Bool :=
  some false
def fX10_canBe_b95  (Mo : Mem) : Option Bool :=
  some true
def fX10_canBe_b33  (v0 : Nat) (v1 : Int32) (v2 : Int32) (v3 : Int32) (s0 : Int32) (Mo : Mem) : Option Bool :=
  if v2 < (1 : Int32) then fX10_canBe_b65 Mo else if s0 < v2 then fX10_canBe_b65 Mo else if v3 < (1 : Int32) then fX10_canBe_b65 Mo else if v3 ≤ (rI Mo ((v0 + 1) + 1) 3) then if v1 = (2 : Int32) then if v3 = (2 : Int32) then some true else some false else if v1 = (4 : Int32) then if (3 : Int32) < v3 then some false else fX10_canBe_b95 Mo else fX10_canBe_b95 Mo else fX10_canBe_b65 Mo
def fX10_canBe (v0 : Nat) (v1 : Int32) (v2 : Int32) (v3 : Int32) (Mo : Mem) : Option Bool :=
  if v1 < 0 then fX10_canBe_b9 Mo else if v1 ≤ (4 : Int32) then if v1 = (2 : Int32) then fX10_canBe_b33 v0 v1 v2 v3 (16 : Int32) Mo else if v1 = (3 : Int32) then fX10_canBe_b33 v0 v1 v2 v3 (16 : Int32) Mo else fX10_canBe_b33 v0 v1 v2 v3 (64 : Int32) Mo else fX10_canBe_b9 Mo
/-! X10_extraFits -/
def fX10_extraFits_b42  (Mo : Mem) : Option Bool :=
  some false
def fX10_extraFits_b59  (Mo : Mem) : Option Bool :=
  some false
def fX10_extraFits (v0 : Int32) (v1 : Int32) (Mo : Mem) : Option Bool :=
  if v0 = (2 : Int32) then if v1 < (1 : Int32) then fX10_extraFits_b42 Mo else if (4 : Int32) < v1 then fX10_extraFits_b42 Mo else some true else if v0 = (3 : Int32) then if v1 < (1 : Int32) then fX10_extraFits_b59 Mo else if (20 : Int32) < v1 then fX10_extraFits_b59 Mo else some true else if v1 = 0 then some true else some false
/-! X10_make -/
def fX10_make_b9 (N : Nat) (M : Mem) : Option ((Nat ⊕ Unit) × Mem) :=
  some (.inl 1, M)
def fX10_make_b39 (N : Nat) (M : Mem) : Option ((Nat ⊕ Unit) × Mem) :=
  some (.inl 3, M)
def fX10_make (N : Nat) (v0 : Nat) (v1 : Int32) (v2 : Int32) (v3 : Int32) (v4 : Int32) (v5 : Int32) (M : Mem) : Option ((Nat ⊕ Unit) × Mem) :=
  if v1 < 0 then fX10_make_b9 N M else if v1 < (4 : Int32) then (fX10_canBe v0 v2 v3 v4 M).bind fun qj1 => if qj1 = true then (fX10_extraFits v2 v5 M).bind fun qj2 => if qj2 = true then if inB v1 4 = true then (fX5_begin N (((v0 + 1) + 8) + 1 + 4 * v1.toNatClampNeg) v2 v3 v4 v5 M).bind fun qj7 => some (.inr (), qj7) else none else fX10_make_b39 N M else fX10_make_b39 N M else fX10_make_b9 N M
/-! X10_rowAt -/
def fX10_rowAt_b24  (M : Mem) : Option ((Nat ⊕ Nat) × Mem) :=
  some (.inl 1, M)
def fX10_rowAt (v0 : Nat) (v1 : Int32) (M : Mem) : Option ((Nat ⊕ Nat) × Mem) :=
  if v1 < 0 then fX10_rowAt_b24 M else if (4 : Int32) ≤ v1 then fX10_rowAt_b24 M else if inB v1 4 = true then if (rI M (((v0 + 1) + 8) + 1 + 4 * v1.toNatClampNeg) 0) = 0 then fX10_rowAt_b24 M else if inB v1 4 = true then some (.inr (((v0 + 1) + 8) + 1 + 4 * v1.toNatClampNeg), M) else none else none
/-! X10_of -/
def fX10_of (N : Nat) (v0 : Nat) (v1 : Int32) (v2 : Int32) (M : Mem) : Option ((Nat ⊕ Int32) × Mem) :=
  xb (fX10_rowAt v0 v1 M) fun qj1 Mj1 => if v2 = (0 : Int32) then some (.inr (rI Mj1 qj1 1), Mj1) else if v2 = (1 : Int32) then some (.inr (rI Mj1 qj1 2), Mj1) else if v2 = (2 : Int32) then some (.inr (rI Mj1 qj1 3), Mj1) else if v2 = (3 : Int32) then some (.inr (rI Mj1 qj1 4), Mj1) else if v2 = (4 : Int32) then (fX2_many N (qj1 + 1) Mj1).bind fun qj13 => some (.inr qj13, Mj1) else if v2 = (5 : Int32) then some (.inr (rI Mj1 qj1 5), Mj1) else if v2 = (6 : Int32) then some (.inr (rI Mj1 qj1 6), Mj1) else some (.inl 3, Mj1)
/-! X10_cell -/
def fX10_cell_b18 (N : Nat) (M : Mem) : Option ((Nat ⊕ Int32) × Mem) :=
  some (.inl 4, M)
def fX10_cell (N : Nat) (v0 : Nat) (v1 : Int32) (v2 : Int32) (M : Mem) : Option ((Nat ⊕ Int32) × Mem) :=
  xb (fX10_rowAt v0 v1 M) fun qj1 Mj1 => if v2 < 0 then fX10_cell_b18 N Mj1 else (fX5_places qj1 Mj1).bind fun qj2 => if v2 < qj2 then if (rI Mj1 qj1 1) = (2 : Int32) then (fX5_guestsIn N qj1 v2 Mj1).bind fun qj3 => some (.inr qj3, Mj1) else (fX5_cellAt qj1 v2 Mj1).bind fun qj4 => some (.inr qj4, Mj1) else fX10_cell_b18 N Mj1
/-! X10_needKind -/
def fX10_needKind (v0 : Nat) (v1 : Int32) (M : Mem) : Option ((Nat ⊕ Unit) × Mem) :=
  if (rI M v0 1) = v1 then some (.inr (), M) else some (.inl 2, M)
/-! X10_guest -/
def fX10_guest_b39  (M : Mem) : Option ((Nat ⊕ Int32) × Mem) :=
  some (.inl 4, M)
def fX10_guest (v0 : Nat) (v1 : Int32) (v2 : Int32) (v3 : Int32) (M : Mem) : Option ((Nat ⊕ Int32) × Mem) :=
  xb (fX10_rowAt v0 v1 M) fun qj1 Mj1 => xb (fX10_needKind qj1 (2 : Int32) Mj1) fun qj2 Mj2 => if v2 < 0 then fX10_guest_b39 Mj2 else if (rI Mj2 qj1 2) ≤ v2 then fX10_guest_b39 Mj2 else if v3 < 0 then fX10_guest_b39 Mj2 else if v3 < (rI Mj2 qj1 4) then (fX5_guestAt qj1 v2 v3 Mj2).bind fun qj3 => some (.inr qj3, Mj2) else fX10_guest_b39 Mj2
/-! X10_yes -/
def fX10_yes (N : Nat) (v0 : Nat) (v1 : Int32) (v2 : Int32) (M : Mem) : Option ((Nat ⊕ Bool) × Mem) :=
  xb (fX10_rowAt v0 v1 M) fun qj1 Mj1 => xb (fX10_needName v0 v2.toInt64 Mj1) fun qj2 Mj2 => (fX5_says N qj1 ((v0 + 1) + 1) v2 Mj2).bind fun qj5 => some (.inr qj5.1, qj5.2)
/-! X10_isPut -/
def fX10_isPut (v0 : Nat) (v1 : Int32) (v2 : Int32) (M : Mem) : Option ((Nat ⊕ Bool) × Mem) :=
  xb (fX10_rowAt v0 v1 M) fun qj1 Mj1 => xb (fX10_needName v0 v2.toInt64 Mj1) fun qj2 Mj2 => (fX2_has (qj1 + 1) v2 Mj2).bind fun qj4 => some (.inr qj4, Mj2)
/-! X10_needUnsolved -/
def fX10_needUnsolved (v0 : Nat) (M : Mem) : Option ((Nat ⊕ Unit) × Mem) :=
  if (rI M v0 1) = (4 : Int32) then some (.inl 2, M) else some (.inr (), M)
/-! X10_admit -/
def fX10_admit_b52 (N : Nat) (v1 : Nat) (v2 : Int32) (s0 : Bool) (M : Mem) : Option (Int32 × Mem) :=
  if s0 = true then (fX2_add (v1 + 1) v2 M).bind fun qj2 => some ((0 : Int32), qj2) else some ((-1 : Int32), M)
def fX10_admit (N : Nat) (v0 : Nat) (v1 : Nat) (v2 : Int32) (M : Mem) : Option (Int32 × Mem) :=
  (fX2_has (v1 + 1) v2 M).bind fun qj2 => if qj2 = true then some ((1 : Int32), M) else if (rI M v1 1) = (2 : Int32) then (fX3_settle N (v0 + 121) v1 ((v0 + 1) + 1) v2 M).bind fun qj6 => fX10_admit_b52 N v1 v2 qj6.1 qj6.2 else (fX5_mark N v1 ((v0 + 1) + 1) v2 M).bind fun qj9 => fX10_admit_b52 N v1 v2 qj9.1 qj9.2
/-! X10_put -/
def fX10_put (N : Nat) (v0 : Nat) (v1 : Int32) (v2 : Int32) (M : Mem) : Option ((Nat ⊕ Int32) × Mem) :=
  xb (fX10_rowAt v0 v1 M) fun qj1 Mj1 => xb (fX10_needUnsolved qj1 Mj1) fun qj2 Mj2 => xb (fX10_needName v0 v2.toInt64 Mj2) fun qj3 Mj3 => (fX10_admit N v0 qj1 v2 Mj3).bind fun qj4 => some (.inr qj4.1, qj4.2)
/-! X10_take -/
def fX10_take_b79 (N : Nat) (v2 : Int32) (v3 : Nat) (M : Mem) : Option ((Nat ⊕ Bool) × Mem) :=
  (fX2_remove (v3 + 1) v2 M).bind fun qj2 => some (.inr true, qj2)
def fX10_take_b32 (N : Nat) (v0 : Nat) (v2 : Int32) (v3 : Nat) (M : Mem) : Option ((Nat ⊕ Bool) × Mem) :=
  xb (fX10_needName v0 v2.toInt64 M) fun qj1 Mj1 => (fX2_has (v3 + 1) v2 Mj1).bind fun qj3 => if qj3 = true then if (rI Mj1 v3 1) = (2 : Int32) then (fX5_freeGuest N v3 v2 Mj1).bind fun qj4 => fX10_take_b79 N v2 v3 qj4 else (fX5_unmark N v3 ((v0 + 1) + 1) v2 Mj1).bind fun qj7 => fX10_take_b79 N v2 v3 qj7 else some (.inr false, Mj1)
def fX10_take (N : Nat) (v0 : Nat) (v1 : Int32) (v2 : Int32) (M : Mem) : Option ((Nat ⊕ Bool) × Mem) :=
  xb (fX10_rowAt v0 v1 M) fun qj1 Mj1 => if (rI Mj1 qj1 1) = (1 : Int32) then fX10_take_b32 N v0 v2 qj1 Mj1 else if (rI Mj1 qj1 1) = (2 : Int32) then fX10_take_b32 N v0 v2 qj1 Mj1 else some (.inl 2, Mj1)
/-! X10_join -/
def fX10_join_b68 (N : Nat) (M : Mem) : Option ((Nat ⊕ Int32) × Mem) :=
  some (.inl 2, M)
def fX10_join_b54 (N : Nat) (v1 : Int32) (v2 : Int32) (v3 : Nat) (v4 : Nat) (s0 : Bool) (M : Mem) : Option ((Nat ⊕ Int32) × Mem) :=
  if s0 = true then (fX5_isPlain v3 M).bind fun qj1 => if qj1 = true then if v1 = v2 then some (.inl 3, M) else (fX5_absorb N v3 v4 M).bind fun qj2 => (fX2_many N (v3 + 1) qj2).bind fun qj4 => some (.inr qj4, qj2) else fX10_join_b68 N M else fX10_join_b68 N M
def fX10_join_b53 (N : Nat) (v1 : Int32) (v2 : Int32) (v3 : Nat) (v4 : Nat) (M : Mem) : Option ((Nat ⊕ Int32) × Mem) :=
  fX10_join_b54 N v1 v2 v3 v4 false M
def fX10_join (N : Nat) (v0 : Nat) (v1 : Int32) (v2 : Int32) (M : Mem) : Option ((Nat ⊕ Int32) × Mem) :=
  xb (fX10_rowAt v0 v1 M) fun qj1 Mj1 => xb (fX10_rowAt v0 v2 Mj1) fun qj2 Mj2 => if (rI Mj2 qj1 1) = (rI Mj2 qj2 1) then if (rI Mj2 qj1 2) = (rI Mj2 qj2 2) then if (rI Mj2 qj1 3) = (rI Mj2 qj2 3) then fX10_join_b54 N v1 v2 qj1 qj2 true Mj2 else fX10_join_b53 N v1 v2 qj1 qj2 Mj2 else fX10_join_b53 N v1 v2 qj1 qj2 Mj2 else fX10_join_b53 N v1 v2 qj1 qj2 Mj2
/-! X10_halve -/
def fX10_halve_b22 (N : Nat) (M : Mem) : Option ((Nat ⊕ Int32) × Mem) :=
  some (.inl 2, M)
def fX10_halve (N : Nat) (v0 : Nat) (v1 : Int32) (M : Mem) : Option ((Nat ⊕ Int32) × Mem) :=
  xb (fX10_rowAt v0 v1 M) fun qj1 Mj1 => (fX5_isPlain qj1 Mj1).bind fun qj2 => if qj2 = true then if (remI (rI Mj1 qj1 2) (2 : Int32)) = 0 then (fX5_fold N qj1 Mj1).bind fun qj3 => some (.inr (rI qj3 qj1 2), qj3) else fX10_halve_b22 N Mj1 else fX10_halve_b22 N Mj1
/-! X10_grow -/
def fX10_grow (N : Nat) (v0 : Nat) (v1 : Int32) (M : Mem) : Option ((Nat ⊕ Int32) × Mem) :=
  xb (fX10_rowAt v0 v1 M) fun qj1 Mj1 => xb (fX10_needKind qj1 (2 : Int32) Mj1) fun qj2 Mj2 => if (rI Mj2 qj1 2) ≤ (8 : Int32) then (fX3_enlarge N (v0 + 121) qj1 ((v0 + 1) + 1) Mj2).bind fun qj6 => if qj6.1 = true then some (.inr (rI qj6.2 qj1 2), qj6.2) else some (.inr (-1 : Int32), qj6.2) else some (.inl 2, Mj2)
/-! X10_trayAt -/
def fX10_trayAt_b9  (M : Mem) : Option ((Nat ⊕ Nat) × Mem) :=
  some (.inl 1, M)
def fX10_trayAt (v0 : Nat) (v1 : Int32) (M : Mem) : Option ((Nat ⊕ Nat) × Mem) :=
  if v1 < 0 then fX10_trayAt_b9 M else if v1 < (4 : Int32) then if inB v1 4 = true then some (.inr ((v0 + 102) + 1 + 2 * v1.toNatClampNeg), M) else none else fX10_trayAt_b9 M
/-! X10_needFilled -/
def fX10_needFilled (v0 : Nat) (M : Mem) : Option ((Nat ⊕ Unit) × Mem) :=
  if (rI M v0 0) = 0 then some (.inl 2, M) else some (.inr (), M)
/-! X10_needNames -/
def fX10_needNames_l2_s (N : Nat) (v0 : Nat) (v1 : Nat) (k2 : Int32 → Mem → Option ((Nat ⊕ Unit) × Mem)) (v2 : Int32) (M : Mem) : Option ((Nat ⊕ Unit) × Mem) :=
  if (rI M v1 1) ≤ v2 then some (.inr (), M) else (fX9_numberAt v1 v2 M).bind fun qj1 => xb (fX10_needName v0 qj1 M) fun qj2 Mj2 => k2 (v2 + (1 : Int32)) Mj2
def fX10_needNames_l2 (N : Nat) (v0 : Nat) (v1 : Nat) : Nat → Int32 → Mem → Option ((Nat ⊕ Unit) × Mem)
  | 0, _, _ => none
  | n + 1, v2, M => fX10_needNames_l2_s N v0 v1 (fX10_needNames_l2 N v0 v1 n) v2 M
def fX10_needNames (N : Nat) (v0 : Nat) (v1 : Nat) (M : Mem) : Option ((Nat ⊕ Unit) × Mem) :=
  fX10_needNames_l2 N v0 v1 64 (0 : Int32) M
/-! X10_solve -/
def fX10_solve (N : Nat) (v0 : Nat) (v1 : Int32) (v2 : Int32) (M : Mem) : Option ((Nat ⊕ Int32) × Mem) :=
  xb (fX10_rowAt v0 v1 M) fun qj1 Mj1 => xb (fX10_trayAt v0 v2 Mj1) fun qj2 Mj2 => xb (fX10_needKind qj1 (4 : Int32) Mj2) fun qj3 Mj3 => xb (fX10_needFilled qj2 Mj3) fun qj4 Mj4 => xb (fX10_needNames N v0 qj2 Mj4) fun qj5 Mj5 => (fX9_hasTwoAlike N qj2 Mj5).bind fun qj6 => if qj6 = true then some (.inl 3, Mj5) else (fX8_solveFor N (v0 + 126) qj1 ((v0 + 1) + 1) qj2 Mj5).bind fun qj10 => if qj10.1 = true then some (.inr (rI qj10.2 qj2 1), qj10.2) else some (.inr (-1 : Int32), qj10.2)
/-! X10_countLies -/
def fX10_countLies_b47 (N : Nat) (k4 : Int32 → Int32 → Mem → Option (Int32 × Mem)) (v0 : Nat) (v1 : Nat) (v2 : Int32) (v3 : Int32) (M : Mem) : Option (Int32 × Mem) :=
  k4 v2 (v3 + (1 : Int32)) M
def fX10_countLies_l4_s (N : Nat) (v0 : Nat) (v1 : Nat) (k4 : Int32 → Int32 → Mem → Option (Int32 × Mem)) (v2 : Int32) (v3 : Int32) (M : Mem) : Option (Int32 × Mem) :=
  if (rI M ((v0 + 1) + 1) 1) ≤ v3 then some (v2, M) else (fX2_has (v1 + 1) v3 M).bind fun qj4 => if qj4 = true then fX10_countLies_b47 N k4 v0 v1 v2 v3 M else (fX5_says N v1 ((v0 + 1) + 1) v3 M).bind fun qj7 => if qj7.1 = true then fX10_countLies_b47 N k4 v0 v1 (v2 + (1 : Int32)) v3 qj7.2 else fX10_countLies_b47 N k4 v0 v1 v2 v3 qj7.2
def fX10_countLies_l4 (N : Nat) (v0 : Nat) (v1 : Nat) : Nat → Int32 → Int32 → Mem → Option (Int32 × Mem)
  | 0, _, _, _ => none
  | n + 1, v2, v3, M => fX10_countLies_l4_s N v0 v1 (fX10_countLies_l4 N v0 v1 n) v2 v3 M
def fX10_countLies (N : Nat) (v0 : Nat) (v1 : Nat) (M : Mem) : Option (Int32 × Mem) :=
  fX10_countLies_l4 N v0 v1 N (0 : Int32) (0 : Int32) M
/-! X10_commonDivisor -/
def fX10_commonDivisor_b35 (N : Nat) (v2 : Int32) (Mo : Mem) : Option Int32 :=
  some v2
def fX10_commonDivisor_l7_s (N : Nat) (Mo : Mem) (k7 : Int32 → Int32 → Int32 → Option Int32) (v2 : Int32) (v3 : Int32) (v4 : Int32) : Option Int32 :=
  if (256 : Int32) ≤ v4 then fX10_commonDivisor_b35 N v2 Mo else if v3 = 0 then fX10_commonDivisor_b35 N v2 Mo else if v3 = 0 then none else k7 v3 (remI v2 v3) (v4 + (1 : Int32))
def fX10_commonDivisor_l7 (N : Nat) (Mo : Mem) : Nat → Int32 → Int32 → Int32 → Option Int32
  | 0, _, _, _ => none
  | n + 1, v2, v3, v4 => fX10_commonDivisor_l7_s N Mo (fX10_commonDivisor_l7 N Mo n) v2 v3 v4
def fX10_commonDivisor (N : Nat) (v0 : Int32) (v1 : Int32) (Mo : Mem) : Option Int32 :=
  fX10_commonDivisor_l7 N Mo N v0 v1 (0 : Int32)
/-! X10_lying -/
def fX10_lying_b72 (N : Nat) (v4 : Int32) (s0 : Int32) (s1 : Nat) (M : Mem) : Option ((Nat ⊕ Bool) × Mem) :=
  if v4 = 0 then some (.inr false, wI M s1 3 s0) else some (.inr true, wI M s1 3 s0)
def fX10_lying_b54 (N : Nat) (v0 : Nat) (v4 : Int32) (v5 : Int32) (s0 : Int32) (s1 : Nat) (M : Mem) : Option ((Nat ⊕ Bool) × Mem) :=
  if v5 = 0 then fX10_lying_b72 N v4 (0 : Int32) v0 (wI M s1 2 s0) else if v5 = 0 then none else fX10_lying_b72 N v4 (v4 / v5) v0 (wI M s1 2 s0)
def fX10_lying (N : Nat) (v0 : Nat) (v1 : Int32) (M : Mem) : Option ((Nat ⊕ Bool) × Mem) :=
  xb (fX10_rowAt v0 v1 M) fun qj1 Mj1 => (fX10_countLies N v0 qj1 Mj1).bind fun qj2 => (fX2_many N (qj1 + 1) qj2.2).bind fun qj6 => (fX10_commonDivisor N qj2.1 ((rI qj2.2 ((v0 + 1) + 1) 1) - qj6) qj2.2).bind fun qj7 => if qj7 = 0 then fX10_lying_b54 N v0 ((rI qj2.2 ((v0 + 1) + 1) 1) - qj6) qj7 (0 : Int32) v0 qj2.2 else if qj7 = 0 then none else fX10_lying_b54 N v0 ((rI qj2.2 ((v0 + 1) + 1) 1) - qj6) qj7 (qj2.1 / qj7) v0 qj2.2
/-! X10_isLie -/
def fX10_isLie_b30 (N : Nat) (M : Mem) : Option (Bool × Mem) :=
  some (false, M)
def fX10_isLie (N : Nat) (v0 : Nat) (v1 : Nat) (v2 : Int32) (M : Mem) : Option (Bool × Mem) :=
  (fX2_has (v1 + 1) v2 M).bind fun qj2 => if qj2 = true then fX10_isLie_b30 N M else (fX5_says N v1 ((v0 + 1) + 1) v2 M).bind fun qj5 => if qj5.1 = true then some (true, qj5.2) else fX10_isLie_b30 N qj5.2
/-! X10_upper -/
def fX10_upper (v0 : Nat) (Mo : Mem) : Option Int32 :=
  some (rI Mo v0 2)
/-! X10_lower -/
def fX10_lower (v0 : Nat) (Mo : Mem) : Option Int32 :=
  some (rI Mo v0 3)
/-! X10_lie -/
def fX10_lie_b61 (N : Nat) (M : Mem) : Option ((Nat ⊕ Int32) × Mem) :=
  some (.inr (-1 : Int32), M)
def fX10_lie_b55 (N : Nat) (k12 : Int32 → Int32 → Mem → Option ((Nat ⊕ Int32) × Mem)) (v0 : Nat) (v2 : Int32) (v3 : Nat) (v4 : Int32) (v5 : Int32) (M : Mem) : Option ((Nat ⊕ Int32) × Mem) :=
  k12 v4 (v5 + (1 : Int32)) M
def fX10_lie_l12_s (N : Nat) (v0 : Nat) (v2 : Int32) (v3 : Nat) (k12 : Int32 → Int32 → Mem → Option ((Nat ⊕ Int32) × Mem)) (v4 : Int32) (v5 : Int32) (M : Mem) : Option ((Nat ⊕ Int32) × Mem) :=
  if (rI M ((v0 + 1) + 1) 1) ≤ v5 then fX10_lie_b61 N M else if v2 < v4 then fX10_lie_b61 N M else (fX10_isLie N v0 v3 v5 M).bind fun qj3 => if qj3.1 = true then if v4 = v2 then some (.inr v5, qj3.2) else fX10_lie_b55 N k12 v0 v2 v3 (v4 + (1 : Int32)) v5 qj3.2 else fX10_lie_b55 N k12 v0 v2 v3 v4 v5 qj3.2
def fX10_lie_l12 (N : Nat) (v0 : Nat) (v2 : Int32) (v3 : Nat) : Nat → Int32 → Int32 → Mem → Option ((Nat ⊕ Int32) × Mem)
  | 0, _, _, _ => none
  | n + 1, v4, v5, M => fX10_lie_l12_s N v0 v2 v3 (fX10_lie_l12 N v0 v2 v3 n) v4 v5 M
def fX10_lie (N : Nat) (v0 : Nat) (v1 : Int32) (v2 : Int32) (M : Mem) : Option ((Nat ⊕ Int32) × Mem) :=
  xb (fX10_rowAt v0 v1 M) fun qj1 Mj1 => fX10_lie_l12 N v0 v2 qj1 N (0 : Int32) (0 : Int32) Mj1
/-! X10_wronged -/
def fX10_wronged_b84 (N : Nat) (k25 : Int32 → Int32 → Mem → Option ((Nat ⊕ Int32) × Mem)) (v0 : Nat) (v3 : Int32) (v4 : Nat) (v5 : Nat) (v6 : Int32) (v7 : Int32) (M : Mem) : Option ((Nat ⊕ Int32) × Mem) :=
  k25 v6 (v7 + (1 : Int32)) M
def fX10_wronged_l25_s (N : Nat) (v0 : Nat) (v3 : Int32) (v4 : Nat) (v5 : Nat) (k25 : Int32 → Int32 → Mem → Option ((Nat ⊕ Int32) × Mem)) (v6 : Int32) (v7 : Int32) (M : Mem) : Option ((Nat ⊕ Int32) × Mem) :=
  if (rI M v5 1) ≤ v7 then if v3 = (-1 : Int32) then some (.inr v6, M) else some (.inr (-1 : Int32), M) else (fX9_numberAt v5 v7 M).bind fun qj1 => (fX10_isName v0 qj1 M).bind fun qj2 => if qj2 = true then (fX9_numberAt v5 v7 M).bind fun qj3 => (fX10_isLie N v0 v4 qj3.toInt32 M).bind fun qj4 => if qj4.1 = true then if v6 = v3 then (fX9_numberAt v5 v7 qj4.2).bind fun qj5 => some (.inr qj5.toInt32, qj4.2) else fX10_wronged_b84 N k25 v0 v3 v4 v5 (v6 + (1 : Int32)) v7 qj4.2 else fX10_wronged_b84 N k25 v0 v3 v4 v5 v6 v7 qj4.2 else fX10_wronged_b84 N k25 v0 v3 v4 v5 v6 v7 M
def fX10_wronged_l25 (N : Nat) (v0 : Nat) (v3 : Int32) (v4 : Nat) (v5 : Nat) : Nat → Int32 → Int32 → Mem → Option ((Nat ⊕ Int32) × Mem)
  | 0, _, _, _ => none
  | n + 1, v6, v7, M => fX10_wronged_l25_s N v0 v3 v4 v5 (fX10_wronged_l25 N v0 v3 v4 v5 n) v6 v7 M
def fX10_wronged (N : Nat) (v0 : Nat) (v1 : Int32) (v2 : Int32) (v3 : Int32) (M : Mem) : Option ((Nat ⊕ Int32) × Mem) :=
  xb (fX10_rowAt v0 v1 M) fun qj1 Mj1 => xb (fX10_trayAt v0 v2 Mj1) fun qj2 Mj2 => xb (fX10_needFilled qj2 Mj2) fun qj3 Mj3 => fX10_wronged_l25 N v0 v3 qj1 qj2 N (0 : Int32) (0 : Int32) Mj3
/-! X10_worse -/
def fX10_worse (N : Nat) (v0 : Nat) (v1 : Int32) (v2 : Int32) (M : Mem) : Option ((Nat ⊕ Int32) × Mem) :=
  xb (fX10_rowAt v0 v1 M) fun qj1 Mj1 => xb (fX10_rowAt v0 v2 Mj1) fun qj2 Mj2 => (fX10_countLies N v0 qj1 Mj2).bind fun qj3 => (fX10_countLies N v0 qj2 qj3.2).bind fun qj4 => some (.inr (qj3.1 - qj4.1), qj4.2)
/-! X10_needWhat -/
def fX10_needWhat_b9  (M : Mem) : Option ((Nat ⊕ Unit) × Mem) :=
  some (.inl 3, M)
def fX10_needWhat (v0 : Int32) (v1 : Int32) (M : Mem) : Option ((Nat ⊕ Unit) × Mem) :=
  if v0 < 0 then fX10_needWhat_b9 M else if v0 ≤ v1 then some (.inr (), M) else fX10_needWhat_b9 M
/-! X10_cascade -/
def fX10_cascade (N : Nat) (v0 : Nat) (v1 : Int32) (v2 : Int32) (v3 : Int32) (v4 : Int32) (M : Mem) : Option ((Nat ⊕ Int32) × Mem) :=
  xb (fX10_rowAt v0 v1 M) fun qj1 Mj1 => xb (fX10_trayAt v0 v2 Mj1) fun qj2 Mj2 => xb (fX10_trayAt v0 v3 Mj2) fun qj3 Mj3 => xb (fX10_needKind qj1 (0 : Int32) Mj3) fun qj4 Mj4 => xb (fX10_needFilled qj2 Mj4) fun qj5 Mj5 => xb (fX10_needFilled qj3 Mj5) fun qj6 Mj6 => xb (fX10_needWhat v4 (2 : Int32) Mj6) fun qj7 Mj7 => xb (fX10_needNames N v0 qj2 Mj7) fun qj8 Mj8 => (fX9_allWithin N qj3 (1 : Int32) (64 : Int32) Mj8).bind fun qj9 => if qj9 = true then (fX1_build N (v0 + 135) qj1 ((v0 + 1) + 1) qj2 qj3 Mj8).bind fun qj13 => if qj13.1 = true then if v4 = 0 then some (.inr (rI qj13.2 (v0 + 135) 0), qj13.2) else if v4 = (1 : Int32) then some (.inr (rI qj13.2 (v0 + 135) 1), qj13.2) else some (.inr (rI qj13.2 (v0 + 135) 2), qj13.2) else some (.inr (-1 : Int32), qj13.2) else some (.inl 3, Mj8)
/-! X10_learn -/
def fX10_learn_b82 (N : Nat) (s0 : Bool) (s1 : Nat) (M : Mem) : Option ((Nat ⊕ Int32) × Mem) :=
  (fX0_knownNames N s1 s0 M).bind fun qj1 => some (.inr qj1, M)
def fX10_learn (N : Nat) (v0 : Nat) (v1 : Int32) (v2 : Int32) (v3 : Int32) (M : Mem) : Option ((Nat ⊕ Int32) × Mem) :=
  xb (fX10_rowAt v0 v1 M) fun qj1 Mj1 => xb (fX10_trayAt v0 v2 Mj1) fun qj2 Mj2 => xb (fX10_needKind qj1 (0 : Int32) Mj2) fun qj3 Mj3 => xb (fX10_needFilled qj2 Mj3) fun qj4 Mj4 => xb (fX10_needWhat v3 (2 : Int32) Mj4) fun qj5 Mj5 => xb (fX10_needNames N v0 qj2 Mj5) fun qj6 Mj6 => (fX0_hear N (v0 + 130) qj1 ((v0 + 1) + 1) qj2 Mj6).bind fun qj10 => if v3 = 0 then (fX0_knownPlaces (v0 + 130) qj10).bind fun qj12 => some (.inr qj12, qj10) else if v3 = (2 : Int32) then fX10_learn_b82 N true (v0 + 130) qj10 else fX10_learn_b82 N false (v0 + 130) qj10
/-! X10_ask -/
def fX10_ask (N : Nat) (v0 : Nat) (v1 : Int32) (v2 : Int32) (M : Mem) : Option ((Nat ⊕ Int32) × Mem) :=
  xb (fX10_rowAt v0 v1 M) fun qj1 Mj1 => xb (fX10_trayAt v0 v2 Mj1) fun qj2 Mj2 => xb (fX10_needKind qj1 (0 : Int32) Mj2) fun qj3 Mj3 => xb (fX10_needFilled qj2 Mj3) fun qj4 Mj4 => xb (fX10_needNames N v0 qj2 Mj4) fun qj5 Mj5 => (fX0_hear N (v0 + 130) qj1 ((v0 + 1) + 1) qj2 Mj5).bind fun qj9 => (fX0_bestQuestion N (v0 + 130) qj9).bind fun qj11 => some (.inr qj11, qj9)
/-! X10_worst -/
def fX10_worst (N : Nat) (v0 : Nat) (v1 : Int32) (v2 : Int32) (M : Mem) : Option ((Nat ⊕ Int32) × Mem) :=
  xb (fX10_rowAt v0 v1 M) fun qj1 Mj1 => xb (fX10_needKind qj1 (0 : Int32) Mj1) fun qj2 Mj2 => xb (fX10_needWhat v2 (1 : Int32) Mj2) fun qj3 Mj3 => (fX0_findWorst N (v0 + 130) qj1 ((v0 + 1) + 1) Mj3).bind fun qj7 => if qj7.1 = true then if v2 = 0 then some (.inr (rI qj7.2 (v0 + 130) 0), qj7.2) else some (.inr (rI qj7.2 (v0 + 130) 1), qj7.2) else some (.inr (-1 : Int32), qj7.2)
/-! X10_blame -/
def fX10_blame (N : Nat) (v0 : Nat) (v1 : Int32) (v2 : Int32) (M : Mem) : Option ((Nat ⊕ Int32) × Mem) :=
  xb (fX10_rowAt v0 v1 M) fun qj1 Mj1 => xb (fX10_needKind qj1 (0 : Int32) Mj1) fun qj2 Mj2 => xb (fX10_needName v0 v2.toInt64 Mj2) fun qj3 Mj3 => (fX0_fewestHolding N (v0 + 130) qj1 ((v0 + 1) + 1) v2 Mj3).bind fun qj7 => some (.inr qj7.1, qj7.2)
/-! X10_choose -/
def fX10_choose_b18 (N : Nat) (M : Mem) : Option ((Nat ⊕ Int32) × Mem) :=
  some (.inl 3, M)
def fX10_choose (N : Nat) (v0 : Nat) (v1 : Int32) (v2 : Int32) (v3 : Int32) (M : Mem) : Option ((Nat ⊕ Int32) × Mem) :=
  xb (fX10_rowAt v0 v1 M) fun qj1 Mj1 => if v2 < 0 then fX10_choose_b18 N Mj1 else if v2 ≤ (999 : Int32) then xb (fX10_needWhat v3 (2 : Int32) Mj1) fun qj2 Mj2 => (fX0_findChosen N (v0 + 130) qj1 ((v0 + 1) + 1) v2 Mj2).bind fun qj6 => if qj6.1 = true then if v3 = 0 then some (.inr (rI qj6.2 (v0 + 130) 2), qj6.2) else if v3 = (1 : Int32) then some (.inr (rI qj6.2 (v0 + 130) 3), qj6.2) else some (.inr (rI qj6.2 (v0 + 130) 1), qj6.2) else some (.inr (-1 : Int32), qj6.2) else fX10_choose_b18 N Mj1
/-! X10_tray -/
def fX10_tray_b26 (N : Nat) (M : Mem) : Option ((Nat ⊕ Unit) × Mem) :=
  some (.inl 3, M)
def fX10_tray (N : Nat) (v0 : Nat) (v1 : Int32) (v2 : Int32) (v3 : Int32) (M : Mem) : Option ((Nat ⊕ Unit) × Mem) :=
  xb (fX10_trayAt v0 v1 M) fun qj1 Mj1 => if v2 < 0 then fX10_tray_b26 N Mj1 else if (3 : Int32) < v2 then fX10_tray_b26 N Mj1 else if v3 < 0 then fX10_tray_b26 N Mj1 else if v3 ≤ (40 : Int32) then (fX9_begin N qj1 v2 v3 Mj1).bind fun qj2 => some (.inr (), qj2) else fX10_tray_b26 N Mj1
/-! X10_write -/
def fX10_write_b25  (M : Mem) : Option ((Nat ⊕ Int64) × Mem) :=
  some (.inl 4, M)
def fX10_write (v0 : Nat) (v1 : Int32) (v2 : Int32) (v3 : Int64) (M : Mem) : Option ((Nat ⊕ Int64) × Mem) :=
  xb (fX10_trayAt v0 v1 M) fun qj1 Mj1 => xb (fX10_needFilled qj1 Mj1) fun qj2 Mj2 => if v2 < 0 then fX10_write_b25 Mj2 else if v2 < (rI Mj2 qj1 1) then (fX9_keep qj1 v2 v3 Mj2).bind fun qj3 => some (.inr qj3.1, qj3.2) else fX10_write_b25 Mj2
/-! X10_pour -/
def fX10_pour_b68 (N : Nat) (v5 : Int32) (M : Mem) : Option ((Nat ⊕ Int32) × Mem) :=
  some (.inr v5, M)
def fX10_pour_l28_s (N : Nat) (v0 : Nat) (v3 : Nat) (v4 : Nat) (k28 : Int32 → Int32 → Mem → Option ((Nat ⊕ Int32) × Mem)) (v5 : Int32) (v6 : Int32) (M : Mem) : Option ((Nat ⊕ Int32) × Mem) :=
  if (rI M v4 1) ≤ v6 then some (.inr v5, M) else (fX9_numberAt v4 v6 M).bind fun qj1 => (fX10_isName v0 qj1 M).bind fun qj2 => if qj2 = true then (fX10_admit N v0 v3 qj1.toInt32 M).bind fun qj3 => if qj3.1 = (-1 : Int32) then fX10_pour_b68 N v5 qj3.2 else k28 (v5 + (1 : Int32)) (v6 + (1 : Int32)) qj3.2 else fX10_pour_b68 N v5 M
def fX10_pour_l28 (N : Nat) (v0 : Nat) (v3 : Nat) (v4 : Nat) : Nat → Int32 → Int32 → Mem → Option ((Nat ⊕ Int32) × Mem)
  | 0, _, _, _ => none
  | n + 1, v5, v6, M => fX10_pour_l28_s N v0 v3 v4 (fX10_pour_l28 N v0 v3 v4 n) v5 v6 M
def fX10_pour (N : Nat) (v0 : Nat) (v1 : Int32) (v2 : Int32) (M : Mem) : Option ((Nat ⊕ Int32) × Mem) :=
  xb (fX10_rowAt v0 v1 M) fun qj1 Mj1 => xb (fX10_trayAt v0 v2 Mj1) fun qj2 Mj2 => xb (fX10_needUnsolved qj1 Mj2) fun qj3 Mj3 => xb (fX10_needFilled qj2 Mj3) fun qj4 Mj4 => fX10_pour_l28 N v0 qj1 qj2 N (0 : Int32) (0 : Int32) Mj4
/-! X10_imageAt -/
def fX10_imageAt_b9  (M : Mem) : Option ((Nat ⊕ Nat) × Mem) :=
  some (.inl 1, M)
def fX10_imageAt (v0 : Nat) (v1 : Int32) (M : Mem) : Option ((Nat ⊕ Nat) × Mem) :=
  if v1 < 0 then fX10_imageAt_b9 M else if v1 < (3 : Int32) then if inB v1 3 = true then some (.inr ((v0 + 26) + 1 + 25 * v1.toNatClampNeg), M) else none else fX10_imageAt_b9 M
/-! X10_image -/
def fX10_image (N : Nat) (v0 : Nat) (v1 : Int32) (M : Mem) : Option ((Nat ⊕ Unit) × Mem) :=
  xb (fX10_imageAt v0 v1 M) fun qj1 Mj1 => (fX7_copyFrom N qj1 (v0 + 1) Mj1).bind fun qj3 => some (.inr (), wI qj3 v0 6 ((rI qj3 v0 6) ||| (shlI (1 : Int32) v1)))
/-! X10_restore -/
def fX10_restore (N : Nat) (v0 : Nat) (v1 : Int32) (M : Mem) : Option ((Nat ⊕ Unit) × Mem) :=
  xb (fX10_imageAt v0 v1 M) fun qj1 Mj1 => if ((shrI (rI Mj1 v0 6) v1) &&& (1 : Int32)) = 0 then some (.inl 2, Mj1) else (fX7_copyFrom N (v0 + 1) qj1 Mj1).bind fun qj3 => some (.inr (), qj3)
/-! X10_count -/
def fX10_count (N : Nat) (v0 : Nat) (v1 : Int32) (Mo : Mem) : Option Int32 :=
  if v1 = (0 : Int32) then some (rI Mo ((v0 + 1) + 1) 0) else if v1 = (1 : Int32) then some (rI Mo ((v0 + 1) + 1) 1) else if v1 = (2 : Int32) then some (rI Mo ((v0 + 1) + 1) 2) else if v1 = (3 : Int32) then some (rI Mo ((v0 + 1) + 1) 3) else if v1 = (4 : Int32) then (fX7_rowsThere N (v0 + 1) Mo).bind fun qj20 => some qj20 else if v1 = (5 : Int32) then some (rI Mo (v0 + 111) 1) else some (-1 : Int32)
set_option maxHeartbeats 4000000 in
set_option maxRecDepth 100000 in
theorem ctX10_feed {l : Launch} {D : va_G} {cy : Nat → ClassId} {B : Nat} {kd : Nat → Nat} {n : Nat} {sa sv : Nat → Nat} (G : zG l kd n) (N : Nat) (v0 : Nat) (v1 : Int32) (v2 : Int32) (v3 : Int32) (v4 : Int32) (v5 : Int32) (h0 : kd v0 = 10) (M : Mem) : CT l D cy B kd n sa sv 1 0 yX10_feed cX10_feed 6 (some (FieldType.int)) cvI [.ref (B + v0), .int v1, .int v2, .int v3, .int v4, .int v5] M (fX10_feed N v0 v1 v2 v3 v4 v5 M) := by
  refine ct_of (by decide) G.1 G.2 (Nat.le_of_ble_eq_true rfl) (ls := [(0, .ref (B + v0)), (1, .int v1), (2, .int v2), (3, .int v3), (4, .int v4), (5, .int v5)]) rfl ?_
  intro p e s m args below meth c b0 C ht hr
  unfold fX10_feed
  refine z_aload_n C 0 0 dX10_feed_0 rfl rfl ?_
  refine z_getR (k := 8) C cl10 h0 rfl gw_2_168 rfl dX10_feed_1 ?_
  have j1 : kd (v0 + 111) = 4 := zkd C h0 (k := 8) rfl
  refine z_getI (k := 1) C cl4 j1 rfl gw_1_234 rfl dX10_feed_4 ?_
  refine z_bipush (v := 20) C dX10_feed_7 rfl ?_
  refine z_iadd C dX10_feed_9 ?_
  refine z_sipush (v := 600) C dX10_feed_10 rfl ?_
  refine z_icmp_le C 18 dX10_feed_13 rfl (fun _ => ?_) (fun _ => ?_)
  · refine z_aload_n C 0 0 dX10_feed_18 rfl rfl ?_
    refine z_getR (k := 8) C cl10 h0 rfl gw_2_168 rfl dX10_feed_19 ?_
    have j2 : kd (v0 + 111) = 4 := zkd C h0 (k := 8) rfl
    refine z_iload_n C 1 1 dX10_feed_22 rfl rfl ?_
    refine z_callV_V (As := [.int v1]) (rest := []) C rfl (ctX4_append (zG_of C) N (v0 + 111) v1 j2 M) cw_RX10_81 rfl (okM_X4_append) rfl cl4 j2 (okR_of rfl) (Nat.le_of_ble_eq_true rfl) dX10_feed_23 (fun qj3 _ => ?_)
    refine z_aload_n C 0 0 dX10_feed_26 rfl rfl ?_
    refine z_getR (k := 8) C cl10 h0 rfl gw_2_168 rfl dX10_feed_27 ?_
    have j4 : kd (v0 + 111) = 4 := zkd C h0 (k := 8) rfl
    refine z_iload_n C 2 2 dX10_feed_30 rfl rfl ?_
    refine z_callV_V (As := [.int v2]) (rest := []) C rfl (ctX4_append (zG_of C) N (v0 + 111) v2 j4 qj3) cw_RX10_81 rfl (okM_X4_append) rfl cl4 j4 (okR_of rfl) (Nat.le_of_ble_eq_true rfl) dX10_feed_31 (fun qj5 _ => ?_)
    refine z_aload_n C 0 0 dX10_feed_34 rfl rfl ?_
    refine z_getR (k := 8) C cl10 h0 rfl gw_2_168 rfl dX10_feed_35 ?_
    have j6 : kd (v0 + 111) = 4 := zkd C h0 (k := 8) rfl
    refine z_iload_n C 3 3 dX10_feed_38 rfl rfl ?_
    refine z_callV_V (As := [.int v3]) (rest := []) C rfl (ctX4_append (zG_of C) N (v0 + 111) v3 j6 qj5) cw_RX10_81 rfl (okM_X4_append) rfl cl4 j6 (okR_of rfl) (Nat.le_of_ble_eq_true rfl) dX10_feed_39 (fun qj7 _ => ?_)
    refine z_aload_n C 0 0 dX10_feed_42 rfl rfl ?_
    refine z_getR (k := 8) C cl10 h0 rfl gw_2_168 rfl dX10_feed_43 ?_
    have j8 : kd (v0 + 111) = 4 := zkd C h0 (k := 8) rfl
    refine z_iload C 4 dX10_feed_46 rfl ?_
    refine z_callV_V (As := [.int v4]) (rest := []) C rfl (ctX4_append (zG_of C) N (v0 + 111) v4 j8 qj7) cw_RX10_81 rfl (okM_X4_append) rfl cl4 j8 (okR_of rfl) (Nat.le_of_ble_eq_true rfl) dX10_feed_48 (fun qj9 _ => ?_)
    refine z_aload_n C 0 0 dX10_feed_51 rfl rfl ?_
    refine z_getR (k := 8) C cl10 h0 rfl gw_2_168 rfl dX10_feed_52 ?_
    have j10 : kd (v0 + 111) = 4 := zkd C h0 (k := 8) rfl
    refine z_iload C 5 dX10_feed_55 rfl ?_
    refine z_callV_V (As := [.int v5]) (rest := []) C rfl (ctX4_append (zG_of C) N (v0 + 111) v5 j10 qj9) cw_RX10_81 rfl (okM_X4_append) rfl cl4 j10 (okR_of rfl) (Nat.le_of_ble_eq_true rfl) dX10_feed_57 (fun qj11 _ => ?_)
    refine z_aload_n C 0 0 dX10_feed_60 rfl rfl ?_
    refine z_getR (k := 8) C cl10 h0 rfl gw_2_168 rfl dX10_feed_61 ?_
    have j12 : kd (v0 + 111) = 4 := zkd C h0 (k := 8) rfl
    refine z_getI (k := 1) C cl4 j12 rfl gw_1_234 rfl dX10_feed_64 ?_
    exact z_iret C hr (Nat.le_of_ble_eq_true rfl) dX10_feed_67 rfl
  · refine z_iconst C dX10_feed_16 rfl ?_
    exact z_iret C hr (Nat.le_of_ble_eq_true rfl) dX10_feed_17 rfl
set_option maxHeartbeats 4000000 in
set_option maxRecDepth 100000 in
theorem z_fX10_rules_b15 {p : Program} {l : Launch} {e : Env} {s : State} {m : MethodId} {args : Array Value} {below : List Frame} {meth : Method} {c : Code} {D : va_G} {cy : Nat → ClassId} {B : Nat} {kd : Nat → Nat} {n : Nat} {sa sv : Nat → Nat} (C : zC p l s m args meth c D cy B kd n sa sv RX10 cX10_rules 3) (ht : ∀ x ∈ c.exceptionTable.toList, False) (hr : meth.sig.returnType = some (FieldType.int)) {b0 : (Nat ⊕ Int32) × Mem}  (N : Nat) (M : Mem)  : Z p l e (rmz 8 1) s m args below meth c (vx_MQ below (QcR D cy B kd n (xIc b0)) (XcR D cy B kd n (xIc b0)) args s 1 (6 * 1) (AA B kd n)) D cy B kd n 3 b0 0 15 [] [] M (fX10_rules_b15 N M) := by
  unfold fX10_rules_b15
  exact z_throw C cvX_I ht ex3 gw_2_236 gw_3_39 (i := 0) rfl ⟨Nat.le_of_ble_eq_true rfl, Nat.le_of_ble_eq_true rfl, Nat.le_of_ble_eq_true rfl, Nat.le_of_ble_eq_true rfl⟩ (Nat.le_of_ble_eq_true rfl) (Nat.le_of_ble_eq_true rfl) dX10_rules_15 dX10_rules_18 dX10_rules_19 dX10_rules_21 dX10_rules_24
set_option maxHeartbeats 4000000 in
set_option maxRecDepth 100000 in
theorem ctX10_rules {l : Launch} {D : va_G} {cy : Nat → ClassId} {B : Nat} {kd : Nat → Nat} {n : Nat} {sa sv : Nat → Nat} (G : zG l kd n) (N : Nat) (v0 : Nat) (v1 : Int32) (h0 : kd v0 = 10) (M : Mem) : CT l D cy B kd n sa sv 8 1 yX10_rules cX10_rules 3 (some (FieldType.int)) xIc [.ref (B + v0), .int v1] M (fX10_rules N v0 v1 M) := by
  refine ct_of (by decide) G.1 G.2 (Nat.le_of_ble_eq_true rfl) (ls := [(0, .ref (B + v0)), (1, .int v1)]) rfl ?_
  intro p e s m args below meth c b0 C ht hr
  unfold fX10_rules
  refine z_iload_n C 1 1 dX10_rules_0 rfl rfl ?_
  refine z_if_lt C 15 dX10_rules_1 rfl (fun _ => ?_) (fun _ => ?_)
  · exact z_jump (ls1 := []) (Nat.le_of_ble_eq_true rfl) [] rfl (z_fX10_rules_b15 C ht hr N M)
  · refine z_iload_n C 1 1 dX10_rules_4 rfl rfl ?_
    refine z_aload_n C 0 0 dX10_rules_5 rfl rfl ?_
    refine z_getR (k := 8) C cl10 h0 rfl gw_2_168 rfl dX10_rules_6 ?_
    have j1 : kd (v0 + 111) = 4 := zkd C h0 (k := 8) rfl
    refine z_getI (k := 1) C cl4 j1 rfl gw_1_234 rfl dX10_rules_9 ?_
    refine z_icmp_le C 25 dX10_rules_12 rfl (fun _ => ?_) (fun _ => ?_)
    · refine z_aload_n C 0 0 dX10_rules_25 rfl rfl ?_
      refine z_getR (k := 8) C cl10 h0 rfl gw_2_168 rfl dX10_rules_26 ?_
      have j2 : kd (v0 + 111) = 4 := zkd C h0 (k := 8) rfl
      refine z_iload_n C 1 1 dX10_rules_29 rfl rfl ?_
      refine z_callV_B (As := [.int v1]) (rest := []) C rfl (ctX4_readAll (zG_of C) N (v0 + 111) v1 j2 M) cw_RX10_92 rfl (okM_X4_readAll) rfl cl4 j2 (okR_of rfl) (Nat.le_of_ble_eq_true rfl) dX10_rules_30 (fun qj3 _ => ?_)
      refine z_istore_n C 2 (ls1 := [(2, .int (bI qj3.1)), (0, .ref (B + v0)), (1, .int v1)]) dX10_rules_33 rfl (by decide) rfl ?_
      refine z_aload_n C 0 1 dX10_rules_34 rfl rfl ?_
      refine z_getR (k := 8) C cl10 h0 rfl gw_2_168 rfl dX10_rules_35 ?_
      have j4 : kd (v0 + 111) = 4 := zkd C h0 (k := 8) rfl
      refine z_iconst C dX10_rules_38 rfl ?_
      refine z_putI (k := 1) C cl4 j4 rfl gw_1_234 rfl rfl rfl dX10_rules_39 ?_
      refine z_aload_n C 0 1 dX10_rules_42 rfl rfl ?_
      refine z_aload_n C 0 1 dX10_rules_43 rfl rfl ?_
      refine z_getR (k := 8) C cl10 h0 rfl gw_2_168 rfl dX10_rules_44 ?_
      have j5 : kd (v0 + 111) = 4 := zkd C h0 (k := 8) rfl
      refine z_getI (k := 2) C cl4 j5 rfl gw_1_236 rfl dX10_rules_47 ?_
      refine z_putI (k := 0) C cl10 h0 rfl gw_2_160 rfl rfl rfl dX10_rules_50 ?_
      refine z_aload_n C 0 1 dX10_rules_53 rfl rfl ?_
      refine z_aload_n C 0 1 dX10_rules_54 rfl rfl ?_
      refine z_getR (k := 8) C cl10 h0 rfl gw_2_168 rfl dX10_rules_55 ?_
      have j6 : kd (v0 + 111) = 4 := zkd C h0 (k := 8) rfl
      refine z_getI (k := 3) C cl4 j6 rfl gw_1_238 rfl dX10_rules_58 ?_
      refine z_putI (k := 1) C cl10 h0 rfl gw_2_161 rfl rfl rfl dX10_rules_61 ?_
      refine z_iload_n C 2 0 dX10_rules_64 rfl rfl ?_
      refine z_if_neB C 76 dX10_rules_65 rfl (fun _ => ?_) (fun _ => ?_)
      · refine z_aload_n C 0 1 dX10_rules_76 rfl rfl ?_
        refine z_getR (k := 4) C cl10 h0 rfl gw_2_164 rfl dX10_rules_77 ?_
        have j7 : kd (v0 + 1) = 7 := zkd C h0 (k := 4) rfl
        refine z_getR (k := 0) C cl7 j7 rfl gw_1_175 rfl dX10_rules_80 ?_
        have j8 : kd ((v0 + 1) + 1) = 6 := zkd C j7 (k := 0) rfl
        refine z_aload_n C 0 1 dX10_rules_83 rfl rfl ?_
        refine z_getR (k := 8) C cl10 h0 rfl gw_2_168 rfl dX10_rules_84 ?_
        have j9 : kd (v0 + 111) = 4 := zkd C h0 (k := 8) rfl
        refine z_getR (k := 0) C cl4 j9 rfl gw_1_233 rfl dX10_rules_87 ?_
        have j10 : kd ((v0 + 111) + 1) = 6 := zkd C j9 (k := 0) rfl
        refine z_callV_V (As := [.ref (B + ((v0 + 111) + 1))]) (rest := []) C rfl (ctX6_copyFrom (zG_of C) ((v0 + 1) + 1) ((v0 + 111) + 1) j8 j10 (wI (wI (wI qj3.2 (v0 + 111) 1 (0 : Int32)) v0 0 (rI (wI qj3.2 (v0 + 111) 1 (0 : Int32)) (v0 + 111) 2)) v0 1 (rI (wI (wI qj3.2 (v0 + 111) 1 (0 : Int32)) v0 0 (rI (wI qj3.2 (v0 + 111) 1 (0 : Int32)) (v0 + 111) 2)) (v0 + 111) 3))) cw_RX10_106 rfl (okM_X6_copyFrom) rfl cl6 j8 (okR_of rfl) (Nat.le_of_ble_eq_true rfl) dX10_rules_90 (fun qj11 _ => ?_)
        refine z_aload_n C 0 1 dX10_rules_93 rfl rfl ?_
        refine z_getR (k := 4) C cl10 h0 rfl gw_2_164 rfl dX10_rules_94 ?_
        have j12 : kd (v0 + 1) = 7 := zkd C h0 (k := 4) rfl
        refine z_callV_V (As := []) (rest := []) C rfl (ctX7_removeRows (zG_of C) N (v0 + 1) j12 qj11) cw_RX10_110 rfl (okM_X7_removeRows) rfl cl7 j12 (okR_of rfl) (Nat.le_of_ble_eq_true rfl) dX10_rules_97 (fun qj13 _ => ?_)
        refine z_aload_n C 0 1 dX10_rules_100 rfl rfl ?_
        refine z_getR (k := 4) C cl10 h0 rfl gw_2_164 rfl dX10_rules_101 ?_
        have j14 : kd (v0 + 1) = 7 := zkd C h0 (k := 4) rfl
        refine z_getR (k := 0) C cl7 j14 rfl gw_1_175 rfl dX10_rules_104 ?_
        have j15 : kd ((v0 + 1) + 1) = 6 := zkd C j14 (k := 0) rfl
        refine z_getI (k := 0) C cl6 j15 rfl gw_1_50 rfl dX10_rules_107 ?_
        exact z_iret C hr (Nat.le_of_ble_eq_true rfl) dX10_rules_110 rfl
      · refine z_bipush (v := -10) C dX10_rules_68 rfl ?_
        refine z_aload_n C 0 1 dX10_rules_70 rfl rfl ?_
        refine z_getI (k := 0) C cl10 h0 rfl gw_2_160 rfl dX10_rules_71 ?_
        refine z_isub C dX10_rules_74 ?_
        exact z_iret C hr (Nat.le_of_ble_eq_true rfl) dX10_rules_75 rfl
    · exact z_jump (ls1 := []) (Nat.le_of_ble_eq_true rfl) [] rfl (z_fX10_rules_b15 C ht hr N M)
set_option maxHeartbeats 4000000 in
set_option maxRecDepth 100000 in
theorem ctX10_fault {l : Launch} {D : va_G} {cy : Nat → ClassId} {B : Nat} {kd : Nat → Nat} {n : Nat} {sa sv : Nat → Nat} (G : zG l kd n) (v0 : Nat) (v1 : Int32) (h0 : kd v0 = 10) (Mo : Mem) : CT l D cy B kd n sa sv 0 0 yX10_fault cX10_fault 2 (some (FieldType.int)) (pI Mo) [.ref (B + v0), .int v1] Mo (fX10_fault v0 v1 Mo) := by
  refine ct_of (by decide) G.1 G.2 (Nat.le_of_ble_eq_true rfl) (ls := [(0, .ref (B + v0)), (1, .int v1)]) rfl ?_
  intro p e s m args below meth c b0 C ht hr
  unfold fX10_fault
  refine z_iload_n C 1 1 dX10_fault_0 rfl rfl ?_
  refine z_ite (q := v1 = (0 : Int32)) (fun j1 => ?_) (fun j2 => ?_)
  · refine z_lookup C 28 dX10_fault_1 rfl (by rw [j1]) rfl ?_
    refine z_aload_n C 0 0 dX10_fault_28 rfl rfl ?_
    refine z_getI (k := 0) C cl10 h0 rfl gw_2_160 rfl dX10_fault_29 ?_
    exact z_iret C hr (Nat.le_of_ble_eq_true rfl) dX10_fault_32 rfl
  refine z_ite (q := v1 = (1 : Int32)) (fun j3 => ?_) (fun j4 => ?_)
  · refine z_lookup C 33 dX10_fault_1 rfl (by rw [j3]) rfl ?_
    refine z_aload_n C 0 0 dX10_fault_33 rfl rfl ?_
    refine z_getI (k := 1) C cl10 h0 rfl gw_2_161 rfl dX10_fault_34 ?_
    exact z_iret C hr (Nat.le_of_ble_eq_true rfl) dX10_fault_37 rfl
  refine z_lookup C 38 dX10_fault_1 rfl (by rw [show _ = _ from lv_osw j2 (by decide), show _ = _ from lv_osw j4 (by decide)]) rfl ?_
  refine z_iconst C dX10_fault_38 rfl ?_
  exact z_iret C hr (Nat.le_of_ble_eq_true rfl) dX10_fault_39 rfl
set_option maxHeartbeats 4000000 in
set_option maxRecDepth 100000 in
theorem z_fX10_needMarkAndSize_b18 {p : Program} {l : Launch} {e : Env} {s : State} {m : MethodId} {args : Array Value} {below : List Frame} {meth : Method} {c : Code} {D : va_G} {cy : Nat → ClassId} {B : Nat} {kd : Nat → Nat} {n : Nat} {sa sv : Nat → Nat} (C : zC p l s m args meth c D cy B kd n sa sv RX10 cX10_needMarkAndSize 3) (ht : ∀ x ∈ c.exceptionTable.toList, False) (hr : meth.sig.returnType = none) {b0 : (Nat ⊕ Unit) × Mem}   (M : Mem)  : Z p l e (rmz 0 1) s m args below meth c (vx_MQ below (QcR D cy B kd n (xVc b0)) (XcR D cy B kd n (xVc b0)) args s 1 (6 * 1) (AA B kd n)) D cy B kd n 3 b0 0 18 [] [] M (fX10_needMarkAndSize_b18 M) := by
  unfold fX10_needMarkAndSize_b18
  exact z_throwX C cvX_V ht ex1 gw_4_56 gw_4_66 (i := 8) rfl ⟨Nat.le_of_ble_eq_true rfl, Nat.le_of_ble_eq_true rfl, Nat.le_of_ble_eq_true rfl, Nat.le_of_ble_eq_true rfl⟩ (Nat.le_of_ble_eq_true rfl) (Nat.le_of_ble_eq_true rfl) dX10_needMarkAndSize_18 dX10_needMarkAndSize_21 dX10_needMarkAndSize_22 dX10_needMarkAndSize_24 dX10_needMarkAndSize_27
set_option maxHeartbeats 4000000 in
set_option maxRecDepth 100000 in
theorem z_fX10_needMarkAndSize_b40 {p : Program} {l : Launch} {e : Env} {s : State} {m : MethodId} {args : Array Value} {below : List Frame} {meth : Method} {c : Code} {D : va_G} {cy : Nat → ClassId} {B : Nat} {kd : Nat → Nat} {n : Nat} {sa sv : Nat → Nat} (C : zC p l s m args meth c D cy B kd n sa sv RX10 cX10_needMarkAndSize 3) (ht : ∀ x ∈ c.exceptionTable.toList, False) (hr : meth.sig.returnType = none) {b0 : (Nat ⊕ Unit) × Mem}   (M : Mem)  : Z p l e (rmz 0 1) s m args below meth c (vx_MQ below (QcR D cy B kd n (xVc b0)) (XcR D cy B kd n (xVc b0)) args s 1 (6 * 1) (AA B kd n)) D cy B kd n 3 b0 0 40 [] [] M (fX10_needMarkAndSize_b40 M) := by
  unfold fX10_needMarkAndSize_b40
  exact z_throw C cvX_V ht ex3 gw_2_236 gw_3_39 (i := 9) rfl ⟨Nat.le_of_ble_eq_true rfl, Nat.le_of_ble_eq_true rfl, Nat.le_of_ble_eq_true rfl, Nat.le_of_ble_eq_true rfl⟩ (Nat.le_of_ble_eq_true rfl) (Nat.le_of_ble_eq_true rfl) dX10_needMarkAndSize_40 dX10_needMarkAndSize_43 dX10_needMarkAndSize_44 dX10_needMarkAndSize_46 dX10_needMarkAndSize_49
set_option maxHeartbeats 4000000 in
set_option maxRecDepth 100000 in
theorem ctX10_needMarkAndSize {l : Launch} {D : va_G} {cy : Nat → ClassId} {B : Nat} {kd : Nat → Nat} {n : Nat} {sa sv : Nat → Nat} (G : zG l kd n) (v0 : Nat) (v1 : Int32) (v2 : Int32) (h0 : kd v0 = 10) (M : Mem) : CT l D cy B kd n sa sv 0 1 yX10_needMarkAndSize cX10_needMarkAndSize 3 (none) xVc [.ref (B + v0), .int v1, .int v2] M (fX10_needMarkAndSize v0 v1 v2 M) := by
  refine ct_of (by decide) G.1 G.2 (Nat.le_of_ble_eq_true rfl) (ls := [(0, .ref (B + v0)), (1, .int v1), (2, .int v2)]) rfl ?_
  intro p e s m args below meth c b0 C ht hr
  unfold fX10_needMarkAndSize
  refine z_iload_n C 1 1 dX10_needMarkAndSize_0 rfl rfl ?_
  refine z_if_lt C 18 dX10_needMarkAndSize_1 rfl (fun _ => ?_) (fun _ => ?_)
  · exact z_jump (ls1 := []) (Nat.le_of_ble_eq_true rfl) [] rfl (z_fX10_needMarkAndSize_b18 C ht hr M)
  · refine z_iload_n C 1 1 dX10_needMarkAndSize_4 rfl rfl ?_
    refine z_aload_n C 0 0 dX10_needMarkAndSize_5 rfl rfl ?_
    refine z_getR (k := 4) C cl10 h0 rfl gw_2_164 rfl dX10_needMarkAndSize_6 ?_
    have j1 : kd (v0 + 1) = 7 := zkd C h0 (k := 4) rfl
    refine z_getR (k := 0) C cl7 j1 rfl gw_1_175 rfl dX10_needMarkAndSize_9 ?_
    have j2 : kd ((v0 + 1) + 1) = 6 := zkd C j1 (k := 0) rfl
    refine z_getI (k := 3) C cl6 j2 rfl gw_1_62 rfl dX10_needMarkAndSize_12 ?_
    refine z_icmp_lt C 28 dX10_needMarkAndSize_15 rfl (fun _ => ?_) (fun _ => ?_)
    · refine z_iload_n C 2 2 dX10_needMarkAndSize_28 rfl rfl ?_
      refine z_iconst C dX10_needMarkAndSize_29 rfl ?_
      refine z_icmp_lt C 40 dX10_needMarkAndSize_30 rfl (fun _ => ?_) (fun _ => ?_)
      · exact z_jump (ls1 := []) (Nat.le_of_ble_eq_true rfl) [] rfl (z_fX10_needMarkAndSize_b40 C ht hr M)
      · refine z_iload_n C 2 2 dX10_needMarkAndSize_33 rfl rfl ?_
        refine z_sipush (v := 128) C dX10_needMarkAndSize_34 rfl ?_
        refine z_icmp_le C 50 dX10_needMarkAndSize_37 rfl (fun _ => ?_) (fun _ => ?_)
        · exact z_vret C hr (Nat.le_of_ble_eq_true rfl) dX10_needMarkAndSize_50 rfl
        · exact z_jump (ls1 := []) (Nat.le_of_ble_eq_true rfl) [] rfl (z_fX10_needMarkAndSize_b40 C ht hr M)
    · exact z_jump (ls1 := []) (Nat.le_of_ble_eq_true rfl) [] rfl (z_fX10_needMarkAndSize_b18 C ht hr M)
set_option maxHeartbeats 4000000 in
set_option maxRecDepth 100000 in
theorem ctX10_value {l : Launch} {D : va_G} {cy : Nat → ClassId} {B : Nat} {kd : Nat → Nat} {n : Nat} {sa sv : Nat → Nat} (G : zG l kd n) (N : Nat) (v0 : Nat) (v1 : Int32) (v2 : Int32) (v3 : Int32) (h0 : kd v0 = 10) (M : Mem) : CT l D cy B kd n sa sv 2 1 yX10_value cX10_value 4 (some (FieldType.int)) xIc [.ref (B + v0), .int v1, .int v2, .int v3] M (fX10_value N v0 v1 v2 v3 M) := by
  refine ct_of (by decide) G.1 G.2 (Nat.le_of_ble_eq_true rfl) (ls := [(0, .ref (B + v0)), (1, .int v1), (2, .int v2), (3, .int v3)]) rfl ?_
  intro p e s m args below meth c b0 C ht hr
  unfold fX10_value
  refine z_aload_n C 0 0 dX10_value_0 rfl rfl ?_
  refine z_iload_n C 1 1 dX10_value_1 rfl rfl ?_
  refine z_iload_n C 3 3 dX10_value_2 rfl rfl ?_
  refine z_callXV_V (As := [.int v1, .int v3]) (rest := []) C cvX_I ht rfl (ctX10_needMarkAndSize (zG_of C) v0 v1 v3 h0 M) cw_RX10_116 rfl (okM_X10_needMarkAndSize) rfl cl10 h0 (okR_of rfl) (Nat.le_of_ble_eq_true rfl) (Nat.le_of_ble_eq_true rfl) dX10_value_3 (fun qj1 Mj1 hEj1 => ?_)
  refine z_aload_n C 0 0 dX10_value_6 rfl rfl ?_
  refine z_getR (k := 4) C cl10 h0 rfl gw_2_164 rfl dX10_value_7 ?_
  have j2 : kd (v0 + 1) = 7 := zkd C h0 (k := 4) rfl
  refine z_getR (k := 0) C cl7 j2 rfl gw_1_175 rfl dX10_value_10 ?_
  have j3 : kd ((v0 + 1) + 1) = 6 := zkd C j2 (k := 0) rfl
  refine z_iload_n C 1 1 dX10_value_13 rfl rfl ?_
  refine z_iload_n C 2 2 dX10_value_14 rfl rfl ?_
  refine z_iload_n C 3 3 dX10_value_15 rfl rfl ?_
  refine z_callV_I (As := [.int v1, .int v2, .int v3]) (rest := []) C rfl (ctX6_valueOf (zG_of C) N ((v0 + 1) + 1) v1 v2 v3 j3 Mj1) cw_RX10_120 rfl (okM_X6_valueOf) rfl cl6 j3 (okR_of rfl) (Nat.le_of_ble_eq_true rfl) dX10_value_16 (fun qj4 _ => ?_)
  exact z_iret C hr (Nat.le_of_ble_eq_true rfl) dX10_value_19 rfl
set_option maxHeartbeats 4000000 in
set_option maxRecDepth 100000 in
theorem ctX10_place {l : Launch} {D : va_G} {cy : Nat → ClassId} {B : Nat} {kd : Nat → Nat} {n : Nat} {sa sv : Nat → Nat} (G : zG l kd n) (N : Nat) (v0 : Nat) (v1 : Int32) (v2 : Int32) (v3 : Int32) (h0 : kd v0 = 10) (M : Mem) : CT l D cy B kd n sa sv 2 1 yX10_place cX10_place 4 (some (FieldType.int)) xIc [.ref (B + v0), .int v1, .int v2, .int v3] M (fX10_place N v0 v1 v2 v3 M) := by
  refine ct_of (by decide) G.1 G.2 (Nat.le_of_ble_eq_true rfl) (ls := [(0, .ref (B + v0)), (1, .int v1), (2, .int v2), (3, .int v3)]) rfl ?_
  intro p e s m args below meth c b0 C ht hr
  unfold fX10_place
  refine z_aload_n C 0 0 dX10_place_0 rfl rfl ?_
  refine z_iload_n C 1 1 dX10_place_1 rfl rfl ?_
  refine z_iload_n C 3 3 dX10_place_2 rfl rfl ?_
  refine z_callXV_V (As := [.int v1, .int v3]) (rest := []) C cvX_I ht rfl (ctX10_needMarkAndSize (zG_of C) v0 v1 v3 h0 M) cw_RX10_116 rfl (okM_X10_needMarkAndSize) rfl cl10 h0 (okR_of rfl) (Nat.le_of_ble_eq_true rfl) (Nat.le_of_ble_eq_true rfl) dX10_place_3 (fun qj1 Mj1 hEj1 => ?_)
  refine z_aload_n C 0 0 dX10_place_6 rfl rfl ?_
  refine z_getR (k := 4) C cl10 h0 rfl gw_2_164 rfl dX10_place_7 ?_
  have j2 : kd (v0 + 1) = 7 := zkd C h0 (k := 4) rfl
  refine z_getR (k := 0) C cl7 j2 rfl gw_1_175 rfl dX10_place_10 ?_
  have j3 : kd ((v0 + 1) + 1) = 6 := zkd C j2 (k := 0) rfl
  refine z_iload_n C 1 1 dX10_place_13 rfl rfl ?_
  refine z_iload_n C 2 2 dX10_place_14 rfl rfl ?_
  refine z_iload_n C 3 3 dX10_place_15 rfl rfl ?_
  refine z_callV_I (As := [.int v1, .int v2, .int v3]) (rest := []) C rfl (ctX6_placeOf (zG_of C) N ((v0 + 1) + 1) v1 v2 v3 j3 Mj1) cw_RX10_124 rfl (okM_X6_placeOf) rfl cl6 j3 (okR_of rfl) (Nat.le_of_ble_eq_true rfl) dX10_place_16 (fun qj4 _ => ?_)
  exact z_iret C hr (Nat.le_of_ble_eq_true rfl) dX10_place_19 rfl
set_option maxHeartbeats 4000000 in
set_option maxRecDepth 100000 in
theorem z_fX10_isName_b26 {p : Program} {l : Launch} {e : Env} {s : State} {m : MethodId} {args : Array Value} {below : List Frame} {meth : Method} {c : Code} {D : va_G} {cy : Nat → ClassId} {B : Nat} {kd : Nat → Nat} {n : Nat} {sa sv : Nat → Nat} (C : zC p l s m args meth c D cy B kd n sa sv RX10 cX10_isName 3) (ht : ∀ x ∈ c.exceptionTable.toList, False) (hr : meth.sig.returnType = some (FieldType.boolean)) {b0 : Bool}   (Mo : Mem)  : Z p l e (rmz 0 0) s m args below meth c (vx_MQ below (QcR D cy B kd n ((pB Mo) b0)) (XcR D cy B kd n ((pB Mo) b0)) args s 0 (6 * 0) (AA B kd n)) D cy B kd n 3 b0 0 26 [] [] Mo (fX10_isName_b26 Mo) := by
  unfold fX10_isName_b26
  refine z_iconst C dX10_isName_26 rfl ?_
  exact z_zret C (v := false) hr (Nat.le_of_ble_eq_true rfl) dX10_isName_27 rfl
set_option maxHeartbeats 4000000 in
set_option maxRecDepth 100000 in
theorem ctX10_isName {l : Launch} {D : va_G} {cy : Nat → ClassId} {B : Nat} {kd : Nat → Nat} {n : Nat} {sa sv : Nat → Nat} (G : zG l kd n) (v0 : Nat) (v1 : Int64) (h0 : kd v0 = 10) (Mo : Mem) : CT l D cy B kd n sa sv 0 0 yX10_isName cX10_isName 3 (some (FieldType.boolean)) (pB Mo) [.ref (B + v0), .long v1] Mo (fX10_isName v0 v1 Mo) := by
  refine ct_of (by decide) G.1 G.2 (Nat.le_of_ble_eq_true rfl) (ls := [(0, .ref (B + v0)), (1, .long v1)]) rfl ?_
  intro p e s m args below meth c b0 C ht hr
  unfold fX10_isName
  refine z_lload_n C 1 1 dX10_isName_0 rfl rfl ?_
  refine z_lconst (v := 0) C dX10_isName_1 rfl ?_
  refine z_lcmp_lt C 26 dX10_isName_2 dX10_isName_3 rfl (fun _ => ?_) (fun _ => ?_)
  · exact z_jump (ls1 := []) (Nat.le_of_ble_eq_true rfl) [] rfl (z_fX10_isName_b26 C ht hr Mo)
  · refine z_lload_n C 1 1 dX10_isName_6 rfl rfl ?_
    refine z_aload_n C 0 0 dX10_isName_7 rfl rfl ?_
    refine z_getR (k := 4) C cl10 h0 rfl gw_2_164 rfl dX10_isName_8 ?_
    have j1 : kd (v0 + 1) = 7 := zkd C h0 (k := 4) rfl
    refine z_getR (k := 0) C cl7 j1 rfl gw_1_175 rfl dX10_isName_11 ?_
    have j2 : kd ((v0 + 1) + 1) = 6 := zkd C j1 (k := 0) rfl
    refine z_getI (k := 1) C cl6 j2 rfl gw_1_56 rfl dX10_isName_14 ?_
    refine z_i2l C dX10_isName_17 ?_
    refine z_lcmp_ge C 26 dX10_isName_18 dX10_isName_19 rfl (fun _ => ?_) (fun _ => ?_)
    · exact z_jump (ls1 := []) (Nat.le_of_ble_eq_true rfl) [] rfl (z_fX10_isName_b26 C ht hr Mo)
    · refine z_iconst C dX10_isName_22 rfl ?_
      refine z_goto C 27 dX10_isName_23 rfl ?_
      exact z_zret C (v := true) hr (Nat.le_of_ble_eq_true rfl) dX10_isName_27 rfl
set_option maxHeartbeats 4000000 in
set_option maxRecDepth 100000 in
theorem ctX10_needName {l : Launch} {D : va_G} {cy : Nat → ClassId} {B : Nat} {kd : Nat → Nat} {n : Nat} {sa sv : Nat → Nat} (G : zG l kd n) (v0 : Nat) (v1 : Int64) (h0 : kd v0 = 10) (M : Mem) : CT l D cy B kd n sa sv 1 1 yX10_needName cX10_needName 3 (none) xVc [.ref (B + v0), .long v1] M (fX10_needName v0 v1 M) := by
  refine ct_of (by decide) G.1 G.2 (Nat.le_of_ble_eq_true rfl) (ls := [(0, .ref (B + v0)), (1, .long v1)]) rfl ?_
  intro p e s m args below meth c b0 C ht hr
  unfold fX10_needName
  refine z_aload_n C 0 0 dX10_needName_0 rfl rfl ?_
  refine z_lload_n C 1 1 dX10_needName_1 rfl rfl ?_
  refine z_callV_pB (As := [.long v1]) (rest := []) C rfl (ctX10_isName (zG_of C) v0 v1 h0 M) cw_RX10_331 rfl (okM_X10_isName) rfl cl10 h0 (okR_of rfl) (Nat.le_of_ble_eq_true rfl) dX10_needName_2 (fun qj1 _ => ?_)
  refine z_if_neB C 19 dX10_needName_5 rfl (fun _ => ?_) (fun _ => ?_)
  · exact z_vret C hr (Nat.le_of_ble_eq_true rfl) dX10_needName_19 rfl
  · exact z_throwW C cvX_V ht ex3 gw_2_236 gw_3_39 (i := 10) rfl ⟨Nat.le_of_ble_eq_true rfl, Nat.le_of_ble_eq_true rfl, Nat.le_of_ble_eq_true rfl, Nat.le_of_ble_eq_true rfl⟩ (Nat.le_of_ble_eq_true rfl) (Nat.le_of_ble_eq_true rfl) dX10_needName_8 dX10_needName_11 dX10_needName_12 dX10_needName_15 dX10_needName_18
set_option maxHeartbeats 4000000 in
set_option maxRecDepth 100000 in
theorem ctX10_tag {l : Launch} {D : va_G} {cy : Nat → ClassId} {B : Nat} {kd : Nat → Nat} {n : Nat} {sa sv : Nat → Nat} (G : zG l kd n) (v0 : Nat) (v1 : Int32) (h0 : kd v0 = 10) (M : Mem) : CT l D cy B kd n sa sv 2 1 yX10_tag cX10_tag 2 (some (FieldType.int)) xIc [.ref (B + v0), .int v1] M (fX10_tag v0 v1 M) := by
  refine ct_of (by decide) G.1 G.2 (Nat.le_of_ble_eq_true rfl) (ls := [(0, .ref (B + v0)), (1, .int v1)]) rfl ?_
  intro p e s m args below meth c b0 C ht hr
  unfold fX10_tag
  refine z_aload_n C 0 0 dX10_tag_0 rfl rfl ?_
  refine z_iload_n C 1 1 dX10_tag_1 rfl rfl ?_
  refine z_i2l C dX10_tag_2 ?_
  refine z_callXV_V (As := [.long v1.toInt64]) (rest := []) C cvX_I ht rfl (ctX10_needName (zG_of C) v0 v1.toInt64 h0 M) cw_RX10_137 rfl (okM_X10_needName) rfl cl10 h0 (okR_of rfl) (Nat.le_of_ble_eq_true rfl) (Nat.le_of_ble_eq_true rfl) dX10_tag_3 (fun qj1 Mj1 hEj1 => ?_)
  refine z_aload_n C 0 0 dX10_tag_6 rfl rfl ?_
  refine z_getR (k := 4) C cl10 h0 rfl gw_2_164 rfl dX10_tag_7 ?_
  have j2 : kd (v0 + 1) = 7 := zkd C h0 (k := 4) rfl
  refine z_getR (k := 0) C cl7 j2 rfl gw_1_175 rfl dX10_tag_10 ?_
  have j3 : kd ((v0 + 1) + 1) = 6 := zkd C j2 (k := 0) rfl
  refine z_iload_n C 1 1 dX10_tag_13 rfl rfl ?_
  refine z_callV_pI (As := [.int v1]) (rest := []) C rfl (ctX6_tagOf (zG_of C) ((v0 + 1) + 1) v1 j3 Mj1) cw_RX10_141 rfl (okM_X6_tagOf) rfl cl6 j3 (okR_of rfl) (Nat.le_of_ble_eq_true rfl) dX10_tag_14 (fun qj4 _ => ?_)
  exact z_iret C hr (Nat.le_of_ble_eq_true rfl) dX10_tag_17 rfl
set_option maxHeartbeats 4000000 in
set_option maxRecDepth 100000 in
theorem z_fX10_canBe_b9 {p : Program} {l : Launch} {e : Env} {s : State} {m : MethodId} {args : Array Value} {below : List Frame} {meth : Method} {c : Code} {D : va_G} {cy : Nat → ClassId} {B : Nat} {kd : Nat → Nat} {n : Nat} {sa sv : Nat → Nat} (C : zC p l s m args meth c D cy B kd n sa sv RX10 cX10_canBe 5) (ht : ∀ x ∈ c.exceptionTable.toList, False) (hr : meth.sig.returnType = some (FieldType.boolean)) {b0 : Bool}   (Mo : Mem)  : Z p l e (rmz 0 0) s m args below meth c (vx_MQ below (QcR D cy B kd n ((pB Mo) b0)) (XcR D cy B kd n ((pB Mo) b0)) args s 0 (6 * 0) (AA B kd n)) D cy B kd n 5 b0 0 9 [] [] Mo (fX10_canBe_b9 Mo) := by
  unfold fX10_canBe_b9
  refine z_iconst C dX10_canBe_9 rfl ?_
  exact z_zret C (v := false) hr (Nat.le_of_ble_eq_true rfl) dX10_canBe_10 rfl
set_option maxHeartbeats 4000000 in
set_option maxRecDepth 100000 in
theorem z_fX10_canBe_b65 {p : Program} {l : Launch} {e : Env} {s : State} {m : MethodId} {args : Array Value} {below : List Frame} {meth : Method} {c : Code} {D : va_G} {cy : Nat → ClassId} {B : Nat} {kd : Nat → Nat} {n : Nat} {sa sv : Nat → Nat} (C : zC p l s m args meth c D cy B kd n sa sv RX10 cX10_canBe 5) (ht : ∀ x ∈ c.exceptionTable.toList, False) (hr : meth.sig.returnType = some (FieldType.boolean)) {b0 : Bool}   (Mo : Mem)  : Z p l e (rmz 0 0) s m args below meth c (vx_MQ below (QcR D cy B kd n ((pB Mo) b0)) (XcR D cy B kd n ((pB Mo) b0)) args s 0 (6 * 0) (AA B kd n)) D cy B kd n 5 b0 0 65 [] [] Mo (fX10_canBe_b65 Mo) := by
  unfold fX10_canBe_b65
  refine z_iconst C dX10_canBe_65 rfl ?_
  exact z_zret C (v := false) hr (Nat.le_of_ble_eq_true rfl) dX10_canBe_66 rfl
set_option maxHeartbeats 4000000 in
set_option maxRecDepth 100000 in
theorem z_fX10_canBe_b95 {p : Program} {l : Launch} {e : Env} {s : State} {m : MethodId} {args : Array Value} {below : List Frame} {meth : Method} {c : Code} {D : va_G} {cy : Nat → ClassId} {B : Nat} {kd : Nat → Nat} {n : Nat} {sa sv : Nat → Nat} (C : zC p l s m args meth c D cy B kd n sa sv RX10 cX10_canBe 5) (ht : ∀ x ∈ c.exceptionTable.toList, False) (hr : meth.sig.returnType = some (FieldType.boolean)) {b0 : Bool}   (Mo : Mem)  : Z p l e (rmz 0 0) s m args below meth c (vx_MQ below (QcR D cy B kd n ((pB Mo) b0)) (XcR D cy B kd n ((pB Mo) b0)) args s 0 (6 * 0) (AA B kd n)) D cy B kd n 5 b0 0 95 [] [] Mo (fX10_canBe_b95 Mo) := by
  unfold fX10_canBe_b95
  refine z_iconst C dX10_canBe_95 rfl ?_
  refine z_goto C 100 dX10_canBe_96 rfl ?_
  exact z_zret C (v := true) hr (Nat.le_of_ble_eq_true rfl) dX10_canBe_100 rfl
set_option maxHeartbeats 4000000 in
set_option maxRecDepth 100000 in
theorem z_fX10_canBe_b33 {p : Program} {l : Launch} {e : Env} {s : State} {m : MethodId} {args : Array Value} {below : List Frame} {meth : Method} {c : Code} {D : va_G} {cy : Nat → ClassId} {B : Nat} {kd : Nat → Nat} {n : Nat} {sa sv : Nat → Nat} (C : zC p l s m args meth c D cy B kd n sa sv RX10 cX10_canBe 5) (ht : ∀ x ∈ c.exceptionTable.toList, False) (hr : meth.sig.returnType = some (FieldType.boolean)) {b0 : Bool}   (v0 : Nat) (v1 : Int32) (v2 : Int32) (v3 : Int32) (s0 : Int32) (Mo : Mem) (h0 : kd v0 = 10)  : Z p l e (rmz 0 0) s m args below meth c (vx_MQ below (QcR D cy B kd n ((pB Mo) b0)) (XcR D cy B kd n ((pB Mo) b0)) args s 0 (6 * 0) (AA B kd n)) D cy B kd n 5 b0 0 33 [(0, .ref (B + v0)), (1, .int v1), (2, .int v2), (3, .int v3)] [.int s0] Mo (fX10_canBe_b33 v0 v1 v2 v3 s0 Mo) := by
  unfold fX10_canBe_b33
  refine z_istore C 4 (ls1 := [(4, .int s0), (0, .ref (B + v0)), (1, .int v1), (2, .int v2), (3, .int v3)]) dX10_canBe_33 (by decide) rfl ?_
  refine z_iload_n C 2 3 dX10_canBe_35 rfl rfl ?_
  refine z_iconst C dX10_canBe_36 rfl ?_
  refine z_icmp_lt C 65 dX10_canBe_37 rfl (fun _ => ?_) (fun _ => ?_)
  · exact z_jump (ls1 := []) (Nat.le_of_ble_eq_true rfl) [] rfl (z_fX10_canBe_b65 C ht hr Mo)
  · refine z_iload_n C 2 3 dX10_canBe_40 rfl rfl ?_
    refine z_iload C 0 dX10_canBe_41 rfl ?_
    refine z_icmp_gt C 65 dX10_canBe_43 rfl (fun _ => ?_) (fun _ => ?_)
    · exact z_jump (ls1 := []) (Nat.le_of_ble_eq_true rfl) [] rfl (z_fX10_canBe_b65 C ht hr Mo)
    · refine z_iload_n C 3 4 dX10_canBe_46 rfl rfl ?_
      refine z_iconst C dX10_canBe_47 rfl ?_
      refine z_icmp_lt C 65 dX10_canBe_48 rfl (fun _ => ?_) (fun _ => ?_)
      · exact z_jump (ls1 := []) (Nat.le_of_ble_eq_true rfl) [] rfl (z_fX10_canBe_b65 C ht hr Mo)
      · refine z_iload_n C 3 4 dX10_canBe_51 rfl rfl ?_
        refine z_aload_n C 0 1 dX10_canBe_52 rfl rfl ?_
        refine z_getR (k := 4) C cl10 h0 rfl gw_2_164 rfl dX10_canBe_53 ?_
        have j1 : kd (v0 + 1) = 7 := zkd C h0 (k := 4) rfl
        refine z_getR (k := 0) C cl7 j1 rfl gw_1_175 rfl dX10_canBe_56 ?_
        have j2 : kd ((v0 + 1) + 1) = 6 := zkd C j1 (k := 0) rfl
        refine z_getI (k := 3) C cl6 j2 rfl gw_1_62 rfl dX10_canBe_59 ?_
        refine z_icmp_le C 67 dX10_canBe_62 rfl (fun _ => ?_) (fun _ => ?_)
        · refine z_iload_n C 1 2 dX10_canBe_67 rfl rfl ?_
          refine z_iconst C dX10_canBe_68 rfl ?_
          refine z_icmp_ne C 85 dX10_canBe_69 rfl (fun _ => ?_) (fun _ => ?_)
          · refine z_iload_n C 3 4 dX10_canBe_72 rfl rfl ?_
            refine z_iconst C dX10_canBe_73 rfl ?_
            refine z_icmp_ne C 81 dX10_canBe_74 rfl (fun _ => ?_) (fun _ => ?_)
            · refine z_iconst C dX10_canBe_77 rfl ?_
              refine z_goto C 100 dX10_canBe_78 rfl ?_
              exact z_zret C (v := true) hr (Nat.le_of_ble_eq_true rfl) dX10_canBe_100 rfl
            · refine z_iconst C dX10_canBe_81 rfl ?_
              refine z_goto C 100 dX10_canBe_82 rfl ?_
              exact z_zret C (v := false) hr (Nat.le_of_ble_eq_true rfl) dX10_canBe_100 rfl
          · refine z_iload_n C 1 2 dX10_canBe_85 rfl rfl ?_
            refine z_iconst C dX10_canBe_86 rfl ?_
            refine z_icmp_ne C 95 dX10_canBe_87 rfl (fun _ => ?_) (fun _ => ?_)
            · refine z_iload_n C 3 4 dX10_canBe_90 rfl rfl ?_
              refine z_iconst C dX10_canBe_91 rfl ?_
              refine z_icmp_gt C 99 dX10_canBe_92 rfl (fun _ => ?_) (fun _ => ?_)
              · refine z_iconst C dX10_canBe_99 rfl ?_
                exact z_zret C (v := false) hr (Nat.le_of_ble_eq_true rfl) dX10_canBe_100 rfl
              · exact z_jump (ls1 := []) (Nat.le_of_ble_eq_true rfl) [] rfl (z_fX10_canBe_b95 C ht hr Mo)
            · exact z_jump (ls1 := []) (Nat.le_of_ble_eq_true rfl) [] rfl (z_fX10_canBe_b95 C ht hr Mo)
        · exact z_jump (ls1 := []) (Nat.le_of_ble_eq_true rfl) [] rfl (z_fX10_canBe_b65 C ht hr Mo)
set_option maxHeartbeats 4000000 in
set_option maxRecDepth 100000 in
theorem ctX10_canBe {l : Launch} {D : va_G} {cy : Nat → ClassId} {B : Nat} {kd : Nat → Nat} {n : Nat} {sa sv : Nat → Nat} (G : zG l kd n) (v0 : Nat) (v1 : Int32) (v2 : Int32) (v3 : Int32) (h0 : kd v0 = 10) (Mo : Mem) : CT l D cy B kd n sa sv 0 0 yX10_canBe cX10_canBe 5 (some (FieldType.boolean)) (pB Mo) [.ref (B + v0), .int v1, .int v2, .int v3] Mo (fX10_canBe v0 v1 v2 v3 Mo) := by
  refine ct_of (by decide) G.1 G.2 (Nat.le_of_ble_eq_true rfl) (ls := [(0, .ref (B + v0)), (1, .int v1), (2, .int v2), (3, .int v3)]) rfl ?_
  intro p e s m args below meth c b0 C ht hr
  unfold fX10_canBe
  refine z_iload_n C 1 1 dX10_canBe_0 rfl rfl ?_
  refine z_if_lt C 9 dX10_canBe_1 rfl (fun _ => ?_) (fun _ => ?_)
  · exact z_jump (ls1 := []) (Nat.le_of_ble_eq_true rfl) [] rfl (z_fX10_canBe_b9 C ht hr Mo)
  · refine z_iload_n C 1 1 dX10_canBe_4 rfl rfl ?_
    refine z_iconst C dX10_canBe_5 rfl ?_
    refine z_icmp_le C 11 dX10_canBe_6 rfl (fun _ => ?_) (fun _ => ?_)
    · refine z_iload_n C 1 1 dX10_canBe_11 rfl rfl ?_
      refine z_iconst C dX10_canBe_12 rfl ?_
      refine z_icmp_ne C 21 dX10_canBe_13 rfl (fun _ => ?_) (fun _ => ?_)
      · refine z_bipush (v := 16) C dX10_canBe_16 rfl ?_
        refine z_goto C 33 dX10_canBe_18 rfl ?_
        exact z_jump (ls1 := [(0, .ref (B + v0)), (1, .int v1), (2, .int v2), (3, .int v3)]) (Nat.le_of_ble_eq_true rfl) [0, 1, 2, 3] rfl (z_fX10_canBe_b33 C ht hr v0 v1 v2 v3 (16 : Int32) Mo h0)
      · refine z_iload_n C 1 1 dX10_canBe_21 rfl rfl ?_
        refine z_iconst C dX10_canBe_22 rfl ?_
        refine z_icmp_ne C 31 dX10_canBe_23 rfl (fun _ => ?_) (fun _ => ?_)
        · refine z_bipush (v := 16) C dX10_canBe_26 rfl ?_
          refine z_goto C 33 dX10_canBe_28 rfl ?_
          exact z_jump (ls1 := [(0, .ref (B + v0)), (1, .int v1), (2, .int v2), (3, .int v3)]) (Nat.le_of_ble_eq_true rfl) [0, 1, 2, 3] rfl (z_fX10_canBe_b33 C ht hr v0 v1 v2 v3 (16 : Int32) Mo h0)
        · refine z_bipush (v := 64) C dX10_canBe_31 rfl ?_
          exact z_jump (ls1 := [(0, .ref (B + v0)), (1, .int v1), (2, .int v2), (3, .int v3)]) (Nat.le_of_ble_eq_true rfl) [0, 1, 2, 3] rfl (z_fX10_canBe_b33 C ht hr v0 v1 v2 v3 (64 : Int32) Mo h0)
    · exact z_jump (ls1 := []) (Nat.le_of_ble_eq_true rfl) [] rfl (z_fX10_canBe_b9 C ht hr Mo)
set_option maxHeartbeats 4000000 in
set_option maxRecDepth 100000 in
theorem z_fX10_extraFits_b42 {p : Program} {l : Launch} {e : Env} {s : State} {m : MethodId} {args : Array Value} {below : List Frame} {meth : Method} {c : Code} {D : va_G} {cy : Nat → ClassId} {B : Nat} {kd : Nat → Nat} {n : Nat} {sa sv : Nat → Nat} (C : zC p l s m args meth c D cy B kd n sa sv RX10 cX10_extraFits 2) (ht : ∀ x ∈ c.exceptionTable.toList, False) (hr : meth.sig.returnType = some (FieldType.boolean)) {b0 : Bool}   (Mo : Mem)  : Z p l e (rmz 0 0) s m args below meth c (vx_MQ below (QcR D cy B kd n ((pB Mo) b0)) (XcR D cy B kd n ((pB Mo) b0)) args s 0 (6 * 0) (AA B kd n)) D cy B kd n 2 b0 0 42 [] [] Mo (fX10_extraFits_b42 Mo) := by
  unfold fX10_extraFits_b42
  refine z_iconst C dX10_extraFits_42 rfl ?_
  exact z_zret C (v := false) hr (Nat.le_of_ble_eq_true rfl) dX10_extraFits_43 rfl
set_option maxHeartbeats 4000000 in
set_option maxRecDepth 100000 in
theorem z_fX10_extraFits_b59 {p : Program} {l : Launch} {e : Env} {s : State} {m : MethodId} {args : Array Value} {below : List Frame} {meth : Method} {c : Code} {D : va_G} {cy : Nat → ClassId} {B : Nat} {kd : Nat → Nat} {n : Nat} {sa sv : Nat → Nat} (C : zC p l s m args meth c D cy B kd n sa sv RX10 cX10_extraFits 2) (ht : ∀ x ∈ c.exceptionTable.toList, False) (hr : meth.sig.returnType = some (FieldType.boolean)) {b0 : Bool}   (Mo : Mem)  : Z p l e (rmz 0 0) s m args below meth c (vx_MQ below (QcR D cy B kd n ((pB Mo) b0)) (XcR D cy B kd n ((pB Mo) b0)) args s 0 (6 * 0) (AA B kd n)) D cy B kd n 2 b0 0 59 [] [] Mo (fX10_extraFits_b59 Mo) := by
  unfold fX10_extraFits_b59
  refine z_iconst C dX10_extraFits_59 rfl ?_
  exact z_zret C (v := false) hr (Nat.le_of_ble_eq_true rfl) dX10_extraFits_60 rfl
set_option maxHeartbeats 4000000 in
set_option maxRecDepth 100000 in
theorem ctX10_extraFits {l : Launch} {D : va_G} {cy : Nat → ClassId} {B : Nat} {kd : Nat → Nat} {n : Nat} {sa sv : Nat → Nat} (G : zG l kd n) (v0 : Int32) (v1 : Int32)  (Mo : Mem) : CT l D cy B kd n sa sv 0 0 yX10_extraFits cX10_extraFits 2 (some (FieldType.boolean)) (pB Mo) [.int v0, .int v1] Mo (fX10_extraFits v0 v1 Mo) := by
  refine ct_of (by decide) G.1 G.2 (Nat.le_of_ble_eq_true rfl) (ls := [(0, .int v0), (1, .int v1)]) rfl ?_
  intro p e s m args below meth c b0 C ht hr
  unfold fX10_extraFits
  refine z_iload_n C 0 0 dX10_extraFits_0 rfl rfl ?_
  refine z_ite (q := v0 = (2 : Int32)) (fun j1 => ?_) (fun j2 => ?_)
  · refine z_lookup C 28 dX10_extraFits_1 rfl (by rw [j1]) rfl ?_
    refine z_iload_n C 1 1 dX10_extraFits_28 rfl rfl ?_
    refine z_iconst C dX10_extraFits_29 rfl ?_
    refine z_icmp_lt C 42 dX10_extraFits_30 rfl (fun _ => ?_) (fun _ => ?_)
    · exact z_jump (ls1 := []) (Nat.le_of_ble_eq_true rfl) [] rfl (z_fX10_extraFits_b42 C ht hr Mo)
    · refine z_iload_n C 1 1 dX10_extraFits_33 rfl rfl ?_
      refine z_iconst C dX10_extraFits_34 rfl ?_
      refine z_icmp_gt C 42 dX10_extraFits_35 rfl (fun _ => ?_) (fun _ => ?_)
      · exact z_jump (ls1 := []) (Nat.le_of_ble_eq_true rfl) [] rfl (z_fX10_extraFits_b42 C ht hr Mo)
      · refine z_iconst C dX10_extraFits_38 rfl ?_
        refine z_goto C 43 dX10_extraFits_39 rfl ?_
        exact z_zret C (v := true) hr (Nat.le_of_ble_eq_true rfl) dX10_extraFits_43 rfl
  refine z_ite (q := v0 = (3 : Int32)) (fun j3 => ?_) (fun j4 => ?_)
  · refine z_lookup C 44 dX10_extraFits_1 rfl (by rw [j3]) rfl ?_
    refine z_iload_n C 1 1 dX10_extraFits_44 rfl rfl ?_
    refine z_iconst C dX10_extraFits_45 rfl ?_
    refine z_icmp_lt C 59 dX10_extraFits_46 rfl (fun _ => ?_) (fun _ => ?_)
    · exact z_jump (ls1 := []) (Nat.le_of_ble_eq_true rfl) [] rfl (z_fX10_extraFits_b59 C ht hr Mo)
    · refine z_iload_n C 1 1 dX10_extraFits_49 rfl rfl ?_
      refine z_bipush (v := 20) C dX10_extraFits_50 rfl ?_
      refine z_icmp_gt C 59 dX10_extraFits_52 rfl (fun _ => ?_) (fun _ => ?_)
      · exact z_jump (ls1 := []) (Nat.le_of_ble_eq_true rfl) [] rfl (z_fX10_extraFits_b59 C ht hr Mo)
      · refine z_iconst C dX10_extraFits_55 rfl ?_
        refine z_goto C 60 dX10_extraFits_56 rfl ?_
        exact z_zret C (v := true) hr (Nat.le_of_ble_eq_true rfl) dX10_extraFits_60 rfl
  refine z_lookup C 61 dX10_extraFits_1 rfl (by rw [show _ = _ from lv_osw j2 (by decide), show _ = _ from lv_osw j4 (by decide)]) rfl ?_
  refine z_iload_n C 1 1 dX10_extraFits_61 rfl rfl ?_
  refine z_if_ne C 69 dX10_extraFits_62 rfl (fun _ => ?_) (fun _ => ?_)
  · refine z_iconst C dX10_extraFits_65 rfl ?_
    refine z_goto C 70 dX10_extraFits_66 rfl ?_
    exact z_zret C (v := true) hr (Nat.le_of_ble_eq_true rfl) dX10_extraFits_70 rfl
  · refine z_iconst C dX10_extraFits_69 rfl ?_
    exact z_zret C (v := false) hr (Nat.le_of_ble_eq_true rfl) dX10_extraFits_70 rfl
set_option maxHeartbeats 4000000 in
set_option maxRecDepth 100000 in
theorem z_fX10_make_b9 {p : Program} {l : Launch} {e : Env} {s : State} {m : MethodId} {args : Array Value} {below : List Frame} {meth : Method} {c : Code} {D : va_G} {cy : Nat → ClassId} {B : Nat} {kd : Nat → Nat} {n : Nat} {sa sv : Nat → Nat} (C : zC p l s m args meth c D cy B kd n sa sv RX10 cX10_make 6) (ht : ∀ x ∈ c.exceptionTable.toList, False) (hr : meth.sig.returnType = none) {b0 : (Nat ⊕ Unit) × Mem}  (N : Nat) (M : Mem)  : Z p l e (rmz 3 1) s m args below meth c (vx_MQ below (QcR D cy B kd n (xVc b0)) (XcR D cy B kd n (xVc b0)) args s 1 (6 * 1) (AA B kd n)) D cy B kd n 6 b0 0 9 [] [] M (fX10_make_b9 N M) := by
  unfold fX10_make_b9
  exact z_throwX C cvX_V ht ex1 gw_4_56 gw_4_66 (i := 11) rfl ⟨Nat.le_of_ble_eq_true rfl, Nat.le_of_ble_eq_true rfl, Nat.le_of_ble_eq_true rfl, Nat.le_of_ble_eq_true rfl⟩ (Nat.le_of_ble_eq_true rfl) (Nat.le_of_ble_eq_true rfl) dX10_make_9 dX10_make_12 dX10_make_13 dX10_make_15 dX10_make_18
set_option maxHeartbeats 4000000 in
set_option maxRecDepth 100000 in
theorem z_fX10_make_b39 {p : Program} {l : Launch} {e : Env} {s : State} {m : MethodId} {args : Array Value} {below : List Frame} {meth : Method} {c : Code} {D : va_G} {cy : Nat → ClassId} {B : Nat} {kd : Nat → Nat} {n : Nat} {sa sv : Nat → Nat} (C : zC p l s m args meth c D cy B kd n sa sv RX10 cX10_make 6) (ht : ∀ x ∈ c.exceptionTable.toList, False) (hr : meth.sig.returnType = none) {b0 : (Nat ⊕ Unit) × Mem}  (N : Nat) (M : Mem)  : Z p l e (rmz 3 1) s m args below meth c (vx_MQ below (QcR D cy B kd n (xVc b0)) (XcR D cy B kd n (xVc b0)) args s 1 (6 * 1) (AA B kd n)) D cy B kd n 6 b0 0 39 [] [] M (fX10_make_b39 N M) := by
  unfold fX10_make_b39
  exact z_throw C cvX_V ht ex3 gw_2_236 gw_3_39 (i := 12) rfl ⟨Nat.le_of_ble_eq_true rfl, Nat.le_of_ble_eq_true rfl, Nat.le_of_ble_eq_true rfl, Nat.le_of_ble_eq_true rfl⟩ (Nat.le_of_ble_eq_true rfl) (Nat.le_of_ble_eq_true rfl) dX10_make_39 dX10_make_42 dX10_make_43 dX10_make_45 dX10_make_48
set_option maxHeartbeats 4000000 in
set_option maxRecDepth 100000 in
theorem ctX10_make {l : Launch} {D : va_G} {cy : Nat → ClassId} {B : Nat} {kd : Nat → Nat} {n : Nat} {sa sv : Nat → Nat} (G : zG l kd n) (N : Nat) (v0 : Nat) (v1 : Int32) (v2 : Int32) (v3 : Int32) (v4 : Int32) (v5 : Int32) (h0 : kd v0 = 10) (M : Mem) : CT l D cy B kd n sa sv 3 1 yX10_make cX10_make 6 (none) xVc [.ref (B + v0), .int v1, .int v2, .int v3, .int v4, .int v5] M (fX10_make N v0 v1 v2 v3 v4 v5 M) := by
  refine ct_of (by decide) G.1 G.2 (Nat.le_of_ble_eq_true rfl) (ls := [(0, .ref (B + v0)), (1, .int v1), (2, .int v2), (3, .int v3), (4, .int v4), (5, .int v5)]) rfl ?_
  intro p e s m args below meth c b0 C ht hr
  unfold fX10_make
  refine z_iload_n C 1 1 dX10_make_0 rfl rfl ?_
  refine z_if_lt C 9 dX10_make_1 rfl (fun _ => ?_) (fun _ => ?_)
  · exact z_jump (ls1 := []) (Nat.le_of_ble_eq_true rfl) [] rfl (z_fX10_make_b9 C ht hr N M)
  · refine z_iload_n C 1 1 dX10_make_4 rfl rfl ?_
    refine z_iconst C dX10_make_5 rfl ?_
    refine z_icmp_lt C 19 dX10_make_6 rfl (fun _ => ?_) (fun _ => ?_)
    · refine z_aload_n C 0 0 dX10_make_19 rfl rfl ?_
      refine z_iload_n C 2 2 dX10_make_20 rfl rfl ?_
      refine z_iload_n C 3 3 dX10_make_21 rfl rfl ?_
      refine z_iload C 4 dX10_make_22 rfl ?_
      refine z_callV_pB (As := [.int v2, .int v3, .int v4]) (rest := []) C rfl (ctX10_canBe (zG_of C) v0 v2 v3 v4 h0 M) cw_RX10_147 rfl (okM_X10_canBe) rfl cl10 h0 (okR_of rfl) (Nat.le_of_ble_eq_true rfl) dX10_make_24 (fun qj1 _ => ?_)
      refine z_if_eqB C 39 dX10_make_27 rfl (fun _ => ?_) (fun _ => ?_)
      · refine z_iload_n C 2 2 dX10_make_30 rfl rfl ?_
        refine z_iload C 5 dX10_make_31 rfl ?_
        refine z_callS_pB (As := [.int v2, .int v5]) (rest := []) C rfl (ctX10_extraFits (zG_of C) v2 v5 M) cw_RX10_151 (okM_X10_extraFits) rfl (okR_of rfl) (Nat.le_of_ble_eq_true rfl) dX10_make_33 (fun qj2 _ => ?_)
        refine z_if_neB C 49 dX10_make_36 rfl (fun _ => ?_) (fun _ => ?_)
        · refine z_aload_n C 0 0 dX10_make_49 rfl rfl ?_
          refine z_getR (k := 4) C cl10 h0 rfl gw_2_164 rfl dX10_make_50 ?_
          have j3 : kd (v0 + 1) = 7 := zkd C h0 (k := 4) rfl
          refine z_getR (k := 1) C cl7 j3 rfl gw_1_177 rfl dX10_make_53 ?_
          have j4 : kd ((v0 + 1) + 8) = 27 := zkd C j3 (k := 1) rfl
          refine z_iload_n C 1 1 dX10_make_56 rfl rfl ?_
          refine z_aald4 C j4 rfl (by decide) dX10_make_57 (fun j5 => ?_)
          have j6 : kd (((v0 + 1) + 8) + 1 + 4 * v1.toNatClampNeg) = 5 := zka C j4 rfl (by decide) j5
          refine z_iload_n C 2 2 dX10_make_58 rfl rfl ?_
          refine z_iload_n C 3 3 dX10_make_59 rfl rfl ?_
          refine z_iload C 4 dX10_make_60 rfl ?_
          refine z_iload C 5 dX10_make_62 rfl ?_
          refine z_callV_V (As := [.int v2, .int v3, .int v4, .int v5]) (rest := []) C rfl (ctX5_begin (zG_of C) N (((v0 + 1) + 8) + 1 + 4 * v1.toNatClampNeg) v2 v3 v4 v5 j6 M) cw_RX10_161 rfl (okM_X5_begin) rfl cl5 j6 (okR_of rfl) (Nat.le_of_ble_eq_true rfl) dX10_make_64 (fun qj7 _ => ?_)
          exact z_vret C hr (Nat.le_of_ble_eq_true rfl) dX10_make_67 rfl
        · exact z_jump (ls1 := []) (Nat.le_of_ble_eq_true rfl) [] rfl (z_fX10_make_b39 C ht hr N M)
      · exact z_jump (ls1 := []) (Nat.le_of_ble_eq_true rfl) [] rfl (z_fX10_make_b39 C ht hr N M)
    · exact z_jump (ls1 := []) (Nat.le_of_ble_eq_true rfl) [] rfl (z_fX10_make_b9 C ht hr N M)
set_option maxHeartbeats 4000000 in
set_option maxRecDepth 100000 in
theorem z_fX10_rowAt_b24 {p : Program} {l : Launch} {e : Env} {s : State} {m : MethodId} {args : Array Value} {below : List Frame} {meth : Method} {c : Code} {D : va_G} {cy : Nat → ClassId} {B : Nat} {kd : Nat → Nat} {n : Nat} {sa sv : Nat → Nat} (C : zC p l s m args meth c D cy B kd n sa sv RX10 cX10_rowAt 2) (ht : ∀ x ∈ c.exceptionTable.toList, False) (hr : meth.sig.returnType = some ((FieldType.object "PerhapsRows$Row"))) {b0 : (Nat ⊕ Nat) × Mem}   (M : Mem)  : Z p l e (rmz 0 1) s m args below meth c (vx_MQ below (QcR D cy B kd n ((xAc B) b0)) (XcR D cy B kd n ((xAc B) b0)) args s 1 (6 * 1) (AA B kd n)) D cy B kd n 2 b0 0 24 [] [] M (fX10_rowAt_b24 M) := by
  unfold fX10_rowAt_b24
  exact z_throwXW C cvX_A ht ex1 gw_4_56 gw_4_66 (i := 13) rfl ⟨Nat.le_of_ble_eq_true rfl, Nat.le_of_ble_eq_true rfl, Nat.le_of_ble_eq_true rfl, Nat.le_of_ble_eq_true rfl⟩ (Nat.le_of_ble_eq_true rfl) (Nat.le_of_ble_eq_true rfl) dX10_rowAt_24 dX10_rowAt_27 dX10_rowAt_28 dX10_rowAt_31 dX10_rowAt_34
set_option maxHeartbeats 4000000 in
set_option maxRecDepth 100000 in
theorem ctX10_rowAt {l : Launch} {D : va_G} {cy : Nat → ClassId} {B : Nat} {kd : Nat → Nat} {n : Nat} {sa sv : Nat → Nat} (G : zG l kd n) (v0 : Nat) (v1 : Int32) (h0 : kd v0 = 10) (M : Mem) : CT l D cy B kd n sa sv 0 1 yX10_rowAt cX10_rowAt 2 (some ((FieldType.object "PerhapsRows$Row"))) (xAc B) [.ref (B + v0), .int v1] M (fX10_rowAt v0 v1 M) := by
  refine ct_of (by decide) G.1 G.2 (Nat.le_of_ble_eq_true rfl) (ls := [(0, .ref (B + v0)), (1, .int v1)]) rfl ?_
  intro p e s m args below meth c b0 C ht hr
  unfold fX10_rowAt
  refine z_iload_n C 1 1 dX10_rowAt_0 rfl rfl ?_
  refine z_if_lt C 24 dX10_rowAt_1 rfl (fun _ => ?_) (fun _ => ?_)
  · exact z_jump (ls1 := []) (Nat.le_of_ble_eq_true rfl) [] rfl (z_fX10_rowAt_b24 C ht hr M)
  · refine z_iload_n C 1 1 dX10_rowAt_4 rfl rfl ?_
    refine z_iconst C dX10_rowAt_5 rfl ?_
    refine z_icmp_ge C 24 dX10_rowAt_6 rfl (fun _ => ?_) (fun _ => ?_)
    · exact z_jump (ls1 := []) (Nat.le_of_ble_eq_true rfl) [] rfl (z_fX10_rowAt_b24 C ht hr M)
    · refine z_aload_n C 0 0 dX10_rowAt_9 rfl rfl ?_
      refine z_getR (k := 4) C cl10 h0 rfl gw_2_164 rfl dX10_rowAt_10 ?_
      have j1 : kd (v0 + 1) = 7 := zkd C h0 (k := 4) rfl
      refine z_getR (k := 1) C cl7 j1 rfl gw_1_177 rfl dX10_rowAt_13 ?_
      have j2 : kd ((v0 + 1) + 8) = 27 := zkd C j1 (k := 1) rfl
      refine z_iload_n C 1 1 dX10_rowAt_16 rfl rfl ?_
      refine z_aald4 C j2 rfl (by decide) dX10_rowAt_17 (fun j3 => ?_)
      have j4 : kd (((v0 + 1) + 8) + 1 + 4 * v1.toNatClampNeg) = 5 := zka C j2 rfl (by decide) j3
      refine z_getI (k := 0) C cl5 j4 rfl gw_1_124 rfl dX10_rowAt_18 ?_
      refine z_if_ne C 35 dX10_rowAt_21 rfl (fun _ => ?_) (fun _ => ?_)
      · exact z_jump (ls1 := []) (Nat.le_of_ble_eq_true rfl) [] rfl (z_fX10_rowAt_b24 C ht hr M)
      · refine z_aload_n C 0 0 dX10_rowAt_35 rfl rfl ?_
        refine z_getR (k := 4) C cl10 h0 rfl gw_2_164 rfl dX10_rowAt_36 ?_
        have j5 : kd (v0 + 1) = 7 := zkd C h0 (k := 4) rfl
        refine z_getR (k := 1) C cl7 j5 rfl gw_1_177 rfl dX10_rowAt_39 ?_
        have j6 : kd ((v0 + 1) + 8) = 27 := zkd C j5 (k := 1) rfl
        refine z_iload_n C 1 1 dX10_rowAt_42 rfl rfl ?_
        refine z_aald4 C j6 rfl (by decide) dX10_rowAt_43 (fun j7 => ?_)
        have j8 : kd (((v0 + 1) + 8) + 1 + 4 * v1.toNatClampNeg) = 5 := zka C j6 rfl (by decide) j7
        exact z_aret C hr (Nat.le_of_ble_eq_true rfl) dX10_rowAt_44 rfl
theorem kdX10_rowAt {l : Launch} {kd : Nat → Nat} {n : Nat} (G : zG l kd n) {v0 q : Nat} {v1 : Int32} {M M1 : Mem} (h0 : kd v0 = 10) (h : fX10_rowAt v0 v1 M = some (.inr q, M1)) : kd q = 5 := by
  have j1 : kd (v0 + 1) = 7 := zkG G h0 (k := 4) rfl
  have j2 : kd ((v0 + 1) + 8) = 27 := zkG G j1 (k := 1) rfl
  unfold fX10_rowAt fX10_rowAt_b24 at h
  repeat (split at h; · cases h)
  repeat first | (cases h; done) | (split at h <;> first | (cases h; done) | skip)
  all_goals first | (cases h; exact zkaG G j2 rfl (by decide) (by assumption)) | skip
set_option maxHeartbeats 4000000 in
set_option maxRecDepth 100000 in
theorem ctX10_of {l : Launch} {D : va_G} {cy : Nat → ClassId} {B : Nat} {kd : Nat → Nat} {n : Nat} {sa sv : Nat → Nat} (G : zG l kd n) (N : Nat) (v0 : Nat) (v1 : Int32) (v2 : Int32) (h0 : kd v0 = 10) (M : Mem) : CT l D cy B kd n sa sv 2 2 yX10_of cX10_of 4 (some (FieldType.int)) xIc [.ref (B + v0), .int v1, .int v2] M (fX10_of N v0 v1 v2 M) := by
  refine ct_of (by decide) G.1 G.2 (Nat.le_of_ble_eq_true rfl) (ls := [(0, .ref (B + v0)), (1, .int v1), (2, .int v2)]) rfl ?_
  intro p e s m args below meth c b0 C ht hr
  unfold fX10_of
  refine z_aload_n C 0 0 dX10_of_0 rfl rfl ?_
  refine z_iload_n C 1 1 dX10_of_1 rfl rfl ?_
  refine z_callXV_A (As := [.int v1]) (rest := []) C cvX_I ht rfl (ctX10_rowAt (zG_of C) v0 v1 h0 M) cw_RX10_167 rfl (okM_X10_rowAt) rfl cl10 h0 (okR_of rfl) (Nat.le_of_ble_eq_true rfl) (Nat.le_of_ble_eq_true rfl) dX10_of_2 (fun qj1 Mj1 hEj1 => ?_)
  have hqj1 : kd qj1 = 5 := kdX10_rowAt (zG_of C) h0 hEj1
  refine z_astore_n C 3 (ls1 := [(3, .ref (B + qj1)), (0, .ref (B + v0)), (1, .int v1), (2, .int v2)]) dX10_of_5 rfl (by decide) rfl ?_
  refine z_iload_n C 2 3 dX10_of_6 rfl rfl ?_
  refine z_ite (q := v2 = (0 : Int32)) (fun j2 => ?_) (fun j3 => ?_)
  · refine z_tableZ C 48 (0) dX10_of_7 (by rw [j2]; decide) (by decide) (by decide) rfl rfl ?_
    refine z_aload_n C 3 0 dX10_of_48 rfl rfl ?_
    refine z_getI (k := 1) C cl5 hqj1 rfl gw_1_126 rfl dX10_of_49 ?_
    exact z_iret C hr (Nat.le_of_ble_eq_true rfl) dX10_of_52 rfl
  refine z_ite (q := v2 = (1 : Int32)) (fun j4 => ?_) (fun j5 => ?_)
  · refine z_tableZ C 53 (1) dX10_of_7 (by rw [j4]; decide) (by decide) (by decide) rfl rfl ?_
    refine z_aload_n C 3 0 dX10_of_53 rfl rfl ?_
    refine z_getI (k := 2) C cl5 hqj1 rfl gw_1_131 rfl dX10_of_54 ?_
    exact z_iret C hr (Nat.le_of_ble_eq_true rfl) dX10_of_57 rfl
  refine z_ite (q := v2 = (2 : Int32)) (fun j6 => ?_) (fun j7 => ?_)
  · refine z_tableZ C 58 (2) dX10_of_7 (by rw [j6]; decide) (by decide) (by decide) rfl rfl ?_
    refine z_aload_n C 3 0 dX10_of_58 rfl rfl ?_
    refine z_getI (k := 3) C cl5 hqj1 rfl gw_1_136 rfl dX10_of_59 ?_
    exact z_iret C hr (Nat.le_of_ble_eq_true rfl) dX10_of_62 rfl
  refine z_ite (q := v2 = (3 : Int32)) (fun j8 => ?_) (fun j9 => ?_)
  · refine z_tableZ C 63 (3) dX10_of_7 (by rw [j8]; decide) (by decide) (by decide) rfl rfl ?_
    refine z_aload_n C 3 0 dX10_of_63 rfl rfl ?_
    refine z_getI (k := 4) C cl5 hqj1 rfl gw_1_139 rfl dX10_of_64 ?_
    exact z_iret C hr (Nat.le_of_ble_eq_true rfl) dX10_of_67 rfl
  refine z_ite (q := v2 = (4 : Int32)) (fun j10 => ?_) (fun j11 => ?_)
  · refine z_tableZ C 68 (4) dX10_of_7 (by rw [j10]; decide) (by decide) (by decide) rfl rfl ?_
    refine z_aload_n C 3 0 dX10_of_68 rfl rfl ?_
    refine z_getR (k := 8) C cl5 hqj1 rfl gw_1_151 rfl dX10_of_69 ?_
    have j12 : kd (qj1 + 1) = 2 := zkd C hqj1 (k := 8) rfl
    refine z_callV_pI (As := []) (rest := []) C rfl (ctX2_many (zG_of C) N (qj1 + 1) j12 Mj1) cw_RX10_185 rfl (okM_X2_many) rfl cl2 j12 (okR_of rfl) (Nat.le_of_ble_eq_true rfl) dX10_of_72 (fun qj13 _ => ?_)
    exact z_iret C hr (Nat.le_of_ble_eq_true rfl) dX10_of_75 rfl
  refine z_ite (q := v2 = (5 : Int32)) (fun j14 => ?_) (fun j15 => ?_)
  · refine z_tableZ C 76 (5) dX10_of_7 (by rw [j14]; decide) (by decide) (by decide) rfl rfl ?_
    refine z_aload_n C 3 0 dX10_of_76 rfl rfl ?_
    refine z_getI (k := 5) C cl5 hqj1 rfl gw_1_141 rfl dX10_of_77 ?_
    exact z_iret C hr (Nat.le_of_ble_eq_true rfl) dX10_of_80 rfl
  refine z_ite (q := v2 = (6 : Int32)) (fun j16 => ?_) (fun j17 => ?_)
  · refine z_tableZ C 81 (6) dX10_of_7 (by rw [j16]; decide) (by decide) (by decide) rfl rfl ?_
    refine z_aload_n C 3 0 dX10_of_81 rfl rfl ?_
    refine z_getI (k := 6) C cl5 hqj1 rfl gw_1_144 rfl dX10_of_82 ?_
    exact z_iret C hr (Nat.le_of_ble_eq_true rfl) dX10_of_85 rfl
  have j3t := lv_neT (a := 0) j3 (by decide)
  have j5t := lv_neT (a := 1) j5 (by decide)
  have j7t := lv_neT (a := 2) j7 (by decide)
  have j9t := lv_neT (a := 3) j9 (by decide)
  have j11t := lv_neT (a := 4) j11 (by decide)
  have j15t := lv_neT (a := 5) j15 (by decide)
  have j17t := lv_neT (a := 6) j17 (by decide)
  refine z_tableOut C 86 dX10_of_7 (by omega) rfl ?_
  exact z_throw C cvX_I ht ex3 gw_2_236 gw_3_39 (i := 14) rfl ⟨Nat.le_of_ble_eq_true rfl, Nat.le_of_ble_eq_true rfl, Nat.le_of_ble_eq_true rfl, Nat.le_of_ble_eq_true rfl⟩ (Nat.le_of_ble_eq_true rfl) (Nat.le_of_ble_eq_true rfl) dX10_of_86 dX10_of_89 dX10_of_90 dX10_of_92 dX10_of_95
set_option maxHeartbeats 4000000 in
set_option maxRecDepth 100000 in
theorem z_fX10_cell_b18 {p : Program} {l : Launch} {e : Env} {s : State} {m : MethodId} {args : Array Value} {below : List Frame} {meth : Method} {c : Code} {D : va_G} {cy : Nat → ClassId} {B : Nat} {kd : Nat → Nat} {n : Nat} {sa sv : Nat → Nat} (C : zC p l s m args meth c D cy B kd n sa sv RX10 cX10_cell 4) (ht : ∀ x ∈ c.exceptionTable.toList, False) (hr : meth.sig.returnType = some (FieldType.int)) {b0 : (Nat ⊕ Int32) × Mem}  (N : Nat) (M : Mem)  : Z p l e (rmz 3 2) s m args below meth c (vx_MQ below (QcR D cy B kd n (xIc b0)) (XcR D cy B kd n (xIc b0)) args s 2 (6 * 2) (AA B kd n)) D cy B kd n 4 b0 1 18 [] [] M (fX10_cell_b18 N M) := by
  unfold fX10_cell_b18
  exact z_throw C cvX_I ht ex4 gw_4_181 gw_4_191 (i := 15) rfl ⟨Nat.le_of_ble_eq_true rfl, Nat.le_of_ble_eq_true rfl, Nat.le_of_ble_eq_true rfl, Nat.le_of_ble_eq_true rfl⟩ (Nat.le_of_ble_eq_true rfl) (Nat.le_of_ble_eq_true rfl) dX10_cell_18 dX10_cell_21 dX10_cell_22 dX10_cell_24 dX10_cell_27
set_option maxHeartbeats 4000000 in
set_option maxRecDepth 100000 in
theorem ctX10_cell {l : Launch} {D : va_G} {cy : Nat → ClassId} {B : Nat} {kd : Nat → Nat} {n : Nat} {sa sv : Nat → Nat} (G : zG l kd n) (N : Nat) (v0 : Nat) (v1 : Int32) (v2 : Int32) (h0 : kd v0 = 10) (M : Mem) : CT l D cy B kd n sa sv 3 2 yX10_cell cX10_cell 4 (some (FieldType.int)) xIc [.ref (B + v0), .int v1, .int v2] M (fX10_cell N v0 v1 v2 M) := by
  refine ct_of (by decide) G.1 G.2 (Nat.le_of_ble_eq_true rfl) (ls := [(0, .ref (B + v0)), (1, .int v1), (2, .int v2)]) rfl ?_
  intro p e s m args below meth c b0 C ht hr
  unfold fX10_cell
  refine z_aload_n C 0 0 dX10_cell_0 rfl rfl ?_
  refine z_iload_n C 1 1 dX10_cell_1 rfl rfl ?_
  refine z_callXV_A (As := [.int v1]) (rest := []) C cvX_I ht rfl (ctX10_rowAt (zG_of C) v0 v1 h0 M) cw_RX10_167 rfl (okM_X10_rowAt) rfl cl10 h0 (okR_of rfl) (Nat.le_of_ble_eq_true rfl) (Nat.le_of_ble_eq_true rfl) dX10_cell_2 (fun qj1 Mj1 hEj1 => ?_)
  have hqj1 : kd qj1 = 5 := kdX10_rowAt (zG_of C) h0 hEj1
  refine z_astore_n C 3 (ls1 := [(3, .ref (B + qj1)), (0, .ref (B + v0)), (1, .int v1), (2, .int v2)]) dX10_cell_5 rfl (by decide) rfl ?_
  refine z_iload_n C 2 3 dX10_cell_6 rfl rfl ?_
  refine z_if_lt C 18 dX10_cell_7 rfl (fun _ => ?_) (fun _ => ?_)
  · exact z_jump (ls1 := []) (Nat.le_of_ble_eq_true rfl) [] rfl (z_fX10_cell_b18 C ht hr N Mj1)
  · refine z_iload_n C 2 3 dX10_cell_10 rfl rfl ?_
    refine z_aload_n C 3 0 dX10_cell_11 rfl rfl ?_
    refine z_callV_pI (As := []) (rest := [.int v2]) C rfl (ctX5_places (zG_of C) qj1 hqj1 Mj1) cw_RX10_199 rfl (okM_X5_places) rfl cl5 hqj1 (okR_of rfl) (Nat.le_of_ble_eq_true rfl) dX10_cell_12 (fun qj2 _ => ?_)
    refine z_icmp_lt C 28 dX10_cell_15 rfl (fun _ => ?_) (fun _ => ?_)
    · refine z_aload_n C 3 0 dX10_cell_28 rfl rfl ?_
      refine z_getI (k := 1) C cl5 hqj1 rfl gw_1_126 rfl dX10_cell_29 ?_
      refine z_iconst C dX10_cell_32 rfl ?_
      refine z_icmp_ne C 44 dX10_cell_33 rfl (fun _ => ?_) (fun _ => ?_)
      · refine z_aload_n C 3 0 dX10_cell_36 rfl rfl ?_
        refine z_iload_n C 2 3 dX10_cell_37 rfl rfl ?_
        refine z_callV_pI (As := [.int v2]) (rest := []) C rfl (ctX5_guestsIn (zG_of C) N qj1 v2 hqj1 Mj1) cw_RX10_207 rfl (okM_X5_guestsIn) rfl cl5 hqj1 (okR_of rfl) (Nat.le_of_ble_eq_true rfl) dX10_cell_38 (fun qj3 _ => ?_)
        refine z_goto C 49 dX10_cell_41 rfl ?_
        exact z_iret C hr (Nat.le_of_ble_eq_true rfl) dX10_cell_49 rfl
      · refine z_aload_n C 3 0 dX10_cell_44 rfl rfl ?_
        refine z_iload_n C 2 3 dX10_cell_45 rfl rfl ?_
        refine z_callV_pI (As := [.int v2]) (rest := []) C rfl (ctX5_cellAt (zG_of C) qj1 v2 hqj1 Mj1) cw_RX10_210 rfl (okM_X5_cellAt) rfl cl5 hqj1 (okR_of rfl) (Nat.le_of_ble_eq_true rfl) dX10_cell_46 (fun qj4 _ => ?_)
        exact z_iret C hr (Nat.le_of_ble_eq_true rfl) dX10_cell_49 rfl
    · exact z_jump (ls1 := []) (Nat.le_of_ble_eq_true rfl) [] rfl (z_fX10_cell_b18 C ht hr N Mj1)
set_option maxHeartbeats 4000000 in
set_option maxRecDepth 100000 in
theorem ctX10_needKind {l : Launch} {D : va_G} {cy : Nat → ClassId} {B : Nat} {kd : Nat → Nat} {n : Nat} {sa sv : Nat → Nat} (G : zG l kd n) (v0 : Nat) (v1 : Int32) (h0 : kd v0 = 5) (M : Mem) : CT l D cy B kd n sa sv 0 1 yX10_needKind cX10_needKind 2 (none) xVc [.ref (B + v0), .int v1] M (fX10_needKind v0 v1 M) := by
  refine ct_of (by decide) G.1 G.2 (Nat.le_of_ble_eq_true rfl) (ls := [(0, .ref (B + v0)), (1, .int v1)]) rfl ?_
  intro p e s m args below meth c b0 C ht hr
  unfold fX10_needKind
  refine z_aload_n C 0 0 dX10_needKind_0 rfl rfl ?_
  refine z_getI (k := 1) C cl5 h0 rfl gw_1_126 rfl dX10_needKind_1 ?_
  refine z_iload_n C 1 1 dX10_needKind_4 rfl rfl ?_
  refine z_icmp_eq C 19 dX10_needKind_5 rfl (fun _ => ?_) (fun _ => ?_)
  · exact z_vret C hr (Nat.le_of_ble_eq_true rfl) dX10_needKind_19 rfl
  · exact z_throwW C cvX_V ht ex2 gw_4_221 gw_4_231 (i := 16) rfl ⟨Nat.le_of_ble_eq_true rfl, Nat.le_of_ble_eq_true rfl, Nat.le_of_ble_eq_true rfl, Nat.le_of_ble_eq_true rfl⟩ (Nat.le_of_ble_eq_true rfl) (Nat.le_of_ble_eq_true rfl) dX10_needKind_8 dX10_needKind_11 dX10_needKind_12 dX10_needKind_15 dX10_needKind_18
set_option maxHeartbeats 4000000 in
set_option maxRecDepth 100000 in
theorem z_fX10_guest_b39 {p : Program} {l : Launch} {e : Env} {s : State} {m : MethodId} {args : Array Value} {below : List Frame} {meth : Method} {c : Code} {D : va_G} {cy : Nat → ClassId} {B : Nat} {kd : Nat → Nat} {n : Nat} {sa sv : Nat → Nat} (C : zC p l s m args meth c D cy B kd n sa sv RX10 cX10_guest 5) (ht : ∀ x ∈ c.exceptionTable.toList, False) (hr : meth.sig.returnType = some (FieldType.int)) {b0 : (Nat ⊕ Int32) × Mem}   (M : Mem)  : Z p l e (rmz 2 3) s m args below meth c (vx_MQ below (QcR D cy B kd n (xIc b0)) (XcR D cy B kd n (xIc b0)) args s 3 (6 * 3) (AA B kd n)) D cy B kd n 5 b0 2 39 [] [] M (fX10_guest_b39 M) := by
  unfold fX10_guest_b39
  exact z_throw C cvX_I ht ex4 gw_4_181 gw_4_191 (i := 17) rfl ⟨Nat.le_of_ble_eq_true rfl, Nat.le_of_ble_eq_true rfl, Nat.le_of_ble_eq_true rfl, Nat.le_of_ble_eq_true rfl⟩ (Nat.le_of_ble_eq_true rfl) (Nat.le_of_ble_eq_true rfl) dX10_guest_39 dX10_guest_42 dX10_guest_43 dX10_guest_45 dX10_guest_48
set_option maxHeartbeats 4000000 in
set_option maxRecDepth 100000 in
theorem ctX10_guest {l : Launch} {D : va_G} {cy : Nat → ClassId} {B : Nat} {kd : Nat → Nat} {n : Nat} {sa sv : Nat → Nat} (G : zG l kd n) (v0 : Nat) (v1 : Int32) (v2 : Int32) (v3 : Int32) (h0 : kd v0 = 10) (M : Mem) : CT l D cy B kd n sa sv 2 3 yX10_guest cX10_guest 5 (some (FieldType.int)) xIc [.ref (B + v0), .int v1, .int v2, .int v3] M (fX10_guest v0 v1 v2 v3 M) := by
  refine ct_of (by decide) G.1 G.2 (Nat.le_of_ble_eq_true rfl) (ls := [(0, .ref (B + v0)), (1, .int v1), (2, .int v2), (3, .int v3)]) rfl ?_
  intro p e s m args below meth c b0 C ht hr
  unfold fX10_guest
  refine z_aload_n C 0 0 dX10_guest_0 rfl rfl ?_
  refine z_iload_n C 1 1 dX10_guest_1 rfl rfl ?_
  refine z_callXV_A (As := [.int v1]) (rest := []) C cvX_I ht rfl (ctX10_rowAt (zG_of C) v0 v1 h0 M) cw_RX10_167 rfl (okM_X10_rowAt) rfl cl10 h0 (okR_of rfl) (Nat.le_of_ble_eq_true rfl) (Nat.le_of_ble_eq_true rfl) dX10_guest_2 (fun qj1 Mj1 hEj1 => ?_)
  have hqj1 : kd qj1 = 5 := kdX10_rowAt (zG_of C) h0 hEj1
  refine z_astore C 4 (ls1 := [(4, .ref (B + qj1)), (0, .ref (B + v0)), (1, .int v1), (2, .int v2), (3, .int v3)]) dX10_guest_5 (by decide) rfl ?_
  refine z_aload C 0 dX10_guest_7 rfl ?_
  refine z_iconst C dX10_guest_9 rfl ?_
  refine z_callXS_V (As := [.ref (B + qj1), .int (2 : Int32)]) (rest := []) C cvX_I ht rfl (ctX10_needKind (zG_of C) qj1 (2 : Int32) hqj1 Mj1) cw_RX10_213 (okM_X10_needKind) rfl (okR_of rfl) (Nat.le_of_ble_eq_true rfl) (Nat.le_of_ble_eq_true rfl) dX10_guest_10 (fun qj2 Mj2 hEj2 => ?_)
  refine z_iload_n C 2 3 dX10_guest_13 rfl rfl ?_
  refine z_if_lt C 39 dX10_guest_14 rfl (fun _ => ?_) (fun _ => ?_)
  · exact z_jump (ls1 := []) (Nat.le_of_ble_eq_true rfl) [] rfl (z_fX10_guest_b39 C ht hr Mj2)
  · refine z_iload_n C 2 3 dX10_guest_17 rfl rfl ?_
    refine z_aload C 0 dX10_guest_18 rfl ?_
    refine z_getI (k := 2) C cl5 hqj1 rfl gw_1_131 rfl dX10_guest_20 ?_
    refine z_icmp_ge C 39 dX10_guest_23 rfl (fun _ => ?_) (fun _ => ?_)
    · exact z_jump (ls1 := []) (Nat.le_of_ble_eq_true rfl) [] rfl (z_fX10_guest_b39 C ht hr Mj2)
    · refine z_iload_n C 3 4 dX10_guest_26 rfl rfl ?_
      refine z_if_lt C 39 dX10_guest_27 rfl (fun _ => ?_) (fun _ => ?_)
      · exact z_jump (ls1 := []) (Nat.le_of_ble_eq_true rfl) [] rfl (z_fX10_guest_b39 C ht hr Mj2)
      · refine z_iload_n C 3 4 dX10_guest_30 rfl rfl ?_
        refine z_aload C 0 dX10_guest_31 rfl ?_
        refine z_getI (k := 4) C cl5 hqj1 rfl gw_1_139 rfl dX10_guest_33 ?_
        refine z_icmp_lt C 49 dX10_guest_36 rfl (fun _ => ?_) (fun _ => ?_)
        · refine z_aload C 0 dX10_guest_49 rfl ?_
          refine z_iload_n C 2 3 dX10_guest_51 rfl rfl ?_
          refine z_iload_n C 3 4 dX10_guest_52 rfl rfl ?_
          refine z_callV_pI (As := [.int v2, .int v3]) (rest := []) C rfl (ctX5_guestAt (zG_of C) qj1 v2 v3 hqj1 Mj2) cw_RX10_219 rfl (okM_X5_guestAt) rfl cl5 hqj1 (okR_of rfl) (Nat.le_of_ble_eq_true rfl) dX10_guest_53 (fun qj3 _ => ?_)
          exact z_iret C hr (Nat.le_of_ble_eq_true rfl) dX10_guest_56 rfl
        · exact z_jump (ls1 := []) (Nat.le_of_ble_eq_true rfl) [] rfl (z_fX10_guest_b39 C ht hr Mj2)
set_option maxHeartbeats 4000000 in
set_option maxRecDepth 100000 in
theorem ctX10_yes {l : Launch} {D : va_G} {cy : Nat → ClassId} {B : Nat} {kd : Nat → Nat} {n : Nat} {sa sv : Nat → Nat} (G : zG l kd n) (N : Nat) (v0 : Nat) (v1 : Int32) (v2 : Int32) (h0 : kd v0 = 10) (M : Mem) : CT l D cy B kd n sa sv 4 2 yX10_yes cX10_yes 4 (some (FieldType.boolean)) xBc [.ref (B + v0), .int v1, .int v2] M (fX10_yes N v0 v1 v2 M) := by
  refine ct_of (by decide) G.1 G.2 (Nat.le_of_ble_eq_true rfl) (ls := [(0, .ref (B + v0)), (1, .int v1), (2, .int v2)]) rfl ?_
  intro p e s m args below meth c b0 C ht hr
  unfold fX10_yes
  refine z_aload_n C 0 0 dX10_yes_0 rfl rfl ?_
  refine z_iload_n C 1 1 dX10_yes_1 rfl rfl ?_
  refine z_callXV_A (As := [.int v1]) (rest := []) C cvX_B ht rfl (ctX10_rowAt (zG_of C) v0 v1 h0 M) cw_RX10_167 rfl (okM_X10_rowAt) rfl cl10 h0 (okR_of rfl) (Nat.le_of_ble_eq_true rfl) (Nat.le_of_ble_eq_true rfl) dX10_yes_2 (fun qj1 Mj1 hEj1 => ?_)
  have hqj1 : kd qj1 = 5 := kdX10_rowAt (zG_of C) h0 hEj1
  refine z_astore_n C 3 (ls1 := [(3, .ref (B + qj1)), (0, .ref (B + v0)), (1, .int v1), (2, .int v2)]) dX10_yes_5 rfl (by decide) rfl ?_
  refine z_aload_n C 0 1 dX10_yes_6 rfl rfl ?_
  refine z_iload_n C 2 3 dX10_yes_7 rfl rfl ?_
  refine z_i2l C dX10_yes_8 ?_
  refine z_callXV_V (As := [.long v2.toInt64]) (rest := []) C cvX_B ht rfl (ctX10_needName (zG_of C) v0 v2.toInt64 h0 Mj1) cw_RX10_137 rfl (okM_X10_needName) rfl cl10 h0 (okR_of rfl) (Nat.le_of_ble_eq_true rfl) (Nat.le_of_ble_eq_true rfl) dX10_yes_9 (fun qj2 Mj2 hEj2 => ?_)
  refine z_aload_n C 3 0 dX10_yes_12 rfl rfl ?_
  refine z_aload_n C 0 1 dX10_yes_13 rfl rfl ?_
  refine z_getR (k := 4) C cl10 h0 rfl gw_2_164 rfl dX10_yes_14 ?_
  have j3 : kd (v0 + 1) = 7 := zkd C h0 (k := 4) rfl
  refine z_getR (k := 0) C cl7 j3 rfl gw_1_175 rfl dX10_yes_17 ?_
  have j4 : kd ((v0 + 1) + 1) = 6 := zkd C j3 (k := 0) rfl
  refine z_iload_n C 2 3 dX10_yes_20 rfl rfl ?_
  refine z_callV_B (As := [.ref (B + ((v0 + 1) + 1)), .int v2]) (rest := []) C rfl (ctX5_says (zG_of C) N qj1 ((v0 + 1) + 1) v2 hqj1 j4 Mj2) cw_RX10_223 rfl (okM_X5_says) rfl cl5 hqj1 (okR_of rfl) (Nat.le_of_ble_eq_true rfl) dX10_yes_21 (fun qj5 _ => ?_)
  exact z_zret C (v := qj5.1) hr (Nat.le_of_ble_eq_true rfl) dX10_yes_24 rfl
set_option maxHeartbeats 4000000 in
set_option maxRecDepth 100000 in
theorem ctX10_isPut {l : Launch} {D : va_G} {cy : Nat → ClassId} {B : Nat} {kd : Nat → Nat} {n : Nat} {sa sv : Nat → Nat} (G : zG l kd n) (v0 : Nat) (v1 : Int32) (v2 : Int32) (h0 : kd v0 = 10) (M : Mem) : CT l D cy B kd n sa sv 2 2 yX10_isPut cX10_isPut 4 (some (FieldType.boolean)) xBc [.ref (B + v0), .int v1, .int v2] M (fX10_isPut v0 v1 v2 M) := by
  refine ct_of (by decide) G.1 G.2 (Nat.le_of_ble_eq_true rfl) (ls := [(0, .ref (B + v0)), (1, .int v1), (2, .int v2)]) rfl ?_
  intro p e s m args below meth c b0 C ht hr
  unfold fX10_isPut
  refine z_aload_n C 0 0 dX10_isPut_0 rfl rfl ?_
  refine z_iload_n C 1 1 dX10_isPut_1 rfl rfl ?_
  refine z_callXV_A (As := [.int v1]) (rest := []) C cvX_B ht rfl (ctX10_rowAt (zG_of C) v0 v1 h0 M) cw_RX10_167 rfl (okM_X10_rowAt) rfl cl10 h0 (okR_of rfl) (Nat.le_of_ble_eq_true rfl) (Nat.le_of_ble_eq_true rfl) dX10_isPut_2 (fun qj1 Mj1 hEj1 => ?_)
  have hqj1 : kd qj1 = 5 := kdX10_rowAt (zG_of C) h0 hEj1
  refine z_astore_n C 3 (ls1 := [(3, .ref (B + qj1)), (0, .ref (B + v0)), (1, .int v1), (2, .int v2)]) dX10_isPut_5 rfl (by decide) rfl ?_
  refine z_aload_n C 0 1 dX10_isPut_6 rfl rfl ?_
  refine z_iload_n C 2 3 dX10_isPut_7 rfl rfl ?_
  refine z_i2l C dX10_isPut_8 ?_
  refine z_callXV_V (As := [.long v2.toInt64]) (rest := []) C cvX_B ht rfl (ctX10_needName (zG_of C) v0 v2.toInt64 h0 Mj1) cw_RX10_137 rfl (okM_X10_needName) rfl cl10 h0 (okR_of rfl) (Nat.le_of_ble_eq_true rfl) (Nat.le_of_ble_eq_true rfl) dX10_isPut_9 (fun qj2 Mj2 hEj2 => ?_)
  refine z_aload_n C 3 0 dX10_isPut_12 rfl rfl ?_
  refine z_getR (k := 8) C cl5 hqj1 rfl gw_1_151 rfl dX10_isPut_13 ?_
  have j3 : kd (qj1 + 1) = 2 := zkd C hqj1 (k := 8) rfl
  refine z_iload_n C 2 3 dX10_isPut_16 rfl rfl ?_
  refine z_callV_pB (As := [.int v2]) (rest := []) C rfl (ctX2_has (zG_of C) (qj1 + 1) v2 j3 Mj2) cw_RX10_227 rfl (okM_X2_has) rfl cl2 j3 (okR_of rfl) (Nat.le_of_ble_eq_true rfl) dX10_isPut_17 (fun qj4 _ => ?_)
  exact z_zret C (v := qj4) hr (Nat.le_of_ble_eq_true rfl) dX10_isPut_20 rfl
set_option maxHeartbeats 4000000 in
set_option maxRecDepth 100000 in
theorem ctX10_needUnsolved {l : Launch} {D : va_G} {cy : Nat → ClassId} {B : Nat} {kd : Nat → Nat} {n : Nat} {sa sv : Nat → Nat} (G : zG l kd n) (v0 : Nat) (h0 : kd v0 = 5) (M : Mem) : CT l D cy B kd n sa sv 0 1 yX10_needUnsolved cX10_needUnsolved 1 (none) xVc [.ref (B + v0)] M (fX10_needUnsolved v0 M) := by
  refine ct_of (by decide) G.1 G.2 (Nat.le_of_ble_eq_true rfl) (ls := [(0, .ref (B + v0))]) rfl ?_
  intro p e s m args below meth c b0 C ht hr
  unfold fX10_needUnsolved
  refine z_aload_n C 0 0 dX10_needUnsolved_0 rfl rfl ?_
  refine z_getI (k := 1) C cl5 h0 rfl gw_1_126 rfl dX10_needUnsolved_1 ?_
  refine z_iconst C dX10_needUnsolved_4 rfl ?_
  refine z_icmp_ne C 19 dX10_needUnsolved_5 rfl (fun _ => ?_) (fun _ => ?_)
  · exact z_throwW C cvX_V ht ex2 gw_4_221 gw_4_231 (i := 18) rfl ⟨Nat.le_of_ble_eq_true rfl, Nat.le_of_ble_eq_true rfl, Nat.le_of_ble_eq_true rfl, Nat.le_of_ble_eq_true rfl⟩ (Nat.le_of_ble_eq_true rfl) (Nat.le_of_ble_eq_true rfl) dX10_needUnsolved_8 dX10_needUnsolved_11 dX10_needUnsolved_12 dX10_needUnsolved_15 dX10_needUnsolved_18
  · exact z_vret C hr (Nat.le_of_ble_eq_true rfl) dX10_needUnsolved_19 rfl
set_option maxHeartbeats 4000000 in
set_option maxRecDepth 100000 in
theorem z_fX10_admit_b52 {p : Program} {l : Launch} {e : Env} {s : State} {m : MethodId} {args : Array Value} {below : List Frame} {meth : Method} {c : Code} {D : va_G} {cy : Nat → ClassId} {B : Nat} {kd : Nat → Nat} {n : Nat} {sa sv : Nat → Nat} (C : zC p l s m args meth c D cy B kd n sa sv RX10 cX10_admit 4) (ht : ∀ x ∈ c.exceptionTable.toList, False) (hr : meth.sig.returnType = some (FieldType.int)) {b0 : Int32 × Mem}  (N : Nat) (v1 : Nat) (v2 : Int32) (s0 : Bool) (M : Mem) (h1 : kd v1 = 5)  : Z p l e (rmz 5 0) s m args below meth c (vx_MQ below (QcR D cy B kd n (cvI b0)) (XcR D cy B kd n (cvI b0)) args s 0 (6 * 0) (AA B kd n)) D cy B kd n 4 b0 0 52 [(1, .ref (B + v1)), (2, .int v2)] [.int (bI s0)] M (fX10_admit_b52 N v1 v2 s0 M) := by
  unfold fX10_admit_b52
  refine z_istore_n C 3 (ls1 := [(3, .int (bI s0)), (1, .ref (B + v1)), (2, .int v2)]) dX10_admit_52 rfl (by decide) rfl ?_
  refine z_iload_n C 3 0 dX10_admit_53 rfl rfl ?_
  refine z_if_neB C 59 dX10_admit_54 rfl (fun _ => ?_) (fun _ => ?_)
  · refine z_aload_n C 1 1 dX10_admit_59 rfl rfl ?_
    refine z_getR (k := 8) C cl5 h1 rfl gw_1_151 rfl dX10_admit_60 ?_
    have j1 : kd (v1 + 1) = 2 := zkd C h1 (k := 8) rfl
    refine z_iload_n C 2 2 dX10_admit_63 rfl rfl ?_
    refine z_callV_V (As := [.int v2]) (rest := []) C rfl (ctX2_add (zG_of C) (v1 + 1) v2 j1 M) cw_RX10_245 rfl (okM_X2_add) rfl cl2 j1 (okR_of rfl) (Nat.le_of_ble_eq_true rfl) dX10_admit_64 (fun qj2 _ => ?_)
    refine z_iconst C dX10_admit_67 rfl ?_
    exact z_iret C hr (Nat.le_of_ble_eq_true rfl) dX10_admit_68 rfl
  · refine z_iconst C dX10_admit_57 rfl ?_
    exact z_iret C hr (Nat.le_of_ble_eq_true rfl) dX10_admit_58 rfl
set_option maxHeartbeats 4000000 in
set_option maxRecDepth 100000 in
theorem ctX10_admit {l : Launch} {D : va_G} {cy : Nat → ClassId} {B : Nat} {kd : Nat → Nat} {n : Nat} {sa sv : Nat → Nat} (G : zG l kd n) (N : Nat) (v0 : Nat) (v1 : Nat) (v2 : Int32) (h0 : kd v0 = 10) (h1 : kd v1 = 5) (M : Mem) : CT l D cy B kd n sa sv 5 0 yX10_admit cX10_admit 4 (some (FieldType.int)) cvI [.ref (B + v0), .ref (B + v1), .int v2] M (fX10_admit N v0 v1 v2 M) := by
  refine ct_of (by decide) G.1 G.2 (Nat.le_of_ble_eq_true rfl) (ls := [(0, .ref (B + v0)), (1, .ref (B + v1)), (2, .int v2)]) rfl ?_
  intro p e s m args below meth c b0 C ht hr
  unfold fX10_admit
  refine z_aload_n C 1 1 dX10_admit_0 rfl rfl ?_
  refine z_getR (k := 8) C cl5 h1 rfl gw_1_151 rfl dX10_admit_1 ?_
  have j1 : kd (v1 + 1) = 2 := zkd C h1 (k := 8) rfl
  refine z_iload_n C 2 2 dX10_admit_4 rfl rfl ?_
  refine z_callV_pB (As := [.int v2]) (rest := []) C rfl (ctX2_has (zG_of C) (v1 + 1) v2 j1 M) cw_RX10_227 rfl (okM_X2_has) rfl cl2 j1 (okR_of rfl) (Nat.le_of_ble_eq_true rfl) dX10_admit_5 (fun qj2 _ => ?_)
  refine z_if_eqB C 13 dX10_admit_8 rfl (fun _ => ?_) (fun _ => ?_)
  · refine z_iconst C dX10_admit_11 rfl ?_
    exact z_iret C hr (Nat.le_of_ble_eq_true rfl) dX10_admit_12 rfl
  · refine z_aload_n C 1 1 dX10_admit_13 rfl rfl ?_
    refine z_getI (k := 1) C cl5 h1 rfl gw_1_126 rfl dX10_admit_14 ?_
    refine z_iconst C dX10_admit_17 rfl ?_
    refine z_icmp_ne C 40 dX10_admit_18 rfl (fun _ => ?_) (fun _ => ?_)
    · refine z_aload_n C 0 0 dX10_admit_21 rfl rfl ?_
      refine z_getR (k := 9) C cl10 h0 rfl gw_2_169 rfl dX10_admit_22 ?_
      have j3 : kd (v0 + 121) = 3 := zkd C h0 (k := 9) rfl
      refine z_aload_n C 1 1 dX10_admit_25 rfl rfl ?_
      refine z_aload_n C 0 0 dX10_admit_26 rfl rfl ?_
      refine z_getR (k := 4) C cl10 h0 rfl gw_2_164 rfl dX10_admit_27 ?_
      have j4 : kd (v0 + 1) = 7 := zkd C h0 (k := 4) rfl
      refine z_getR (k := 0) C cl7 j4 rfl gw_1_175 rfl dX10_admit_30 ?_
      have j5 : kd ((v0 + 1) + 1) = 6 := zkd C j4 (k := 0) rfl
      refine z_iload_n C 2 2 dX10_admit_33 rfl rfl ?_
      refine z_callV_B (As := [.ref (B + v1), .ref (B + ((v0 + 1) + 1)), .int v2]) (rest := []) C rfl (ctX3_settle (zG_of C) N (v0 + 121) v1 ((v0 + 1) + 1) v2 j3 h1 j5 M) cw_RX10_238 rfl (okM_X3_settle) rfl cl3 j3 (okR_of rfl) (Nat.le_of_ble_eq_true rfl) dX10_admit_34 (fun qj6 _ => ?_)
      refine z_goto C 52 dX10_admit_37 rfl ?_
      exact z_jump (ls1 := [(1, .ref (B + v1)), (2, .int v2)]) (Nat.le_of_ble_eq_true rfl) [1, 2] rfl (z_fX10_admit_b52 C ht hr N v1 v2 qj6.1 qj6.2 h1)
    · refine z_aload_n C 1 1 dX10_admit_40 rfl rfl ?_
      refine z_aload_n C 0 0 dX10_admit_41 rfl rfl ?_
      refine z_getR (k := 4) C cl10 h0 rfl gw_2_164 rfl dX10_admit_42 ?_
      have j7 : kd (v0 + 1) = 7 := zkd C h0 (k := 4) rfl
      refine z_getR (k := 0) C cl7 j7 rfl gw_1_175 rfl dX10_admit_45 ?_
      have j8 : kd ((v0 + 1) + 1) = 6 := zkd C j7 (k := 0) rfl
      refine z_iload_n C 2 2 dX10_admit_48 rfl rfl ?_
      refine z_callV_B (As := [.ref (B + ((v0 + 1) + 1)), .int v2]) (rest := []) C rfl (ctX5_mark (zG_of C) N v1 ((v0 + 1) + 1) v2 h1 j8 M) cw_RX10_242 rfl (okM_X5_mark) rfl cl5 h1 (okR_of rfl) (Nat.le_of_ble_eq_true rfl) dX10_admit_49 (fun qj9 _ => ?_)
      exact z_jump (ls1 := [(1, .ref (B + v1)), (2, .int v2)]) (Nat.le_of_ble_eq_true rfl) [1, 2] rfl (z_fX10_admit_b52 C ht hr N v1 v2 qj9.1 qj9.2 h1)
set_option maxHeartbeats 4000000 in
set_option maxRecDepth 100000 in
theorem ctX10_put {l : Launch} {D : va_G} {cy : Nat → ClassId} {B : Nat} {kd : Nat → Nat} {n : Nat} {sa sv : Nat → Nat} (G : zG l kd n) (N : Nat) (v0 : Nat) (v1 : Int32) (v2 : Int32) (h0 : kd v0 = 10) (M : Mem) : CT l D cy B kd n sa sv 6 3 yX10_put cX10_put 4 (some (FieldType.int)) xIc [.ref (B + v0), .int v1, .int v2] M (fX10_put N v0 v1 v2 M) := by
  refine ct_of (by decide) G.1 G.2 (Nat.le_of_ble_eq_true rfl) (ls := [(0, .ref (B + v0)), (1, .int v1), (2, .int v2)]) rfl ?_
  intro p e s m args below meth c b0 C ht hr
  unfold fX10_put
  refine z_aload_n C 0 0 dX10_put_0 rfl rfl ?_
  refine z_iload_n C 1 1 dX10_put_1 rfl rfl ?_
  refine z_callXV_A (As := [.int v1]) (rest := []) C cvX_I ht rfl (ctX10_rowAt (zG_of C) v0 v1 h0 M) cw_RX10_167 rfl (okM_X10_rowAt) rfl cl10 h0 (okR_of rfl) (Nat.le_of_ble_eq_true rfl) (Nat.le_of_ble_eq_true rfl) dX10_put_2 (fun qj1 Mj1 hEj1 => ?_)
  have hqj1 : kd qj1 = 5 := kdX10_rowAt (zG_of C) h0 hEj1
  refine z_astore_n C 3 (ls1 := [(3, .ref (B + qj1)), (0, .ref (B + v0)), (1, .int v1), (2, .int v2)]) dX10_put_5 rfl (by decide) rfl ?_
  refine z_aload_n C 3 0 dX10_put_6 rfl rfl ?_
  refine z_callXS_V (As := [.ref (B + qj1)]) (rest := []) C cvX_I ht rfl (ctX10_needUnsolved (zG_of C) qj1 hqj1 Mj1) cw_RX10_230 (okM_X10_needUnsolved) rfl (okR_of rfl) (Nat.le_of_ble_eq_true rfl) (Nat.le_of_ble_eq_true rfl) dX10_put_7 (fun qj2 Mj2 hEj2 => ?_)
  refine z_aload_n C 0 1 dX10_put_10 rfl rfl ?_
  refine z_iload_n C 2 3 dX10_put_11 rfl rfl ?_
  refine z_i2l C dX10_put_12 ?_
  refine z_callXV_V (As := [.long v2.toInt64]) (rest := []) C cvX_I ht rfl (ctX10_needName (zG_of C) v0 v2.toInt64 h0 Mj2) cw_RX10_137 rfl (okM_X10_needName) rfl cl10 h0 (okR_of rfl) (Nat.le_of_ble_eq_true rfl) (Nat.le_of_ble_eq_true rfl) dX10_put_13 (fun qj3 Mj3 hEj3 => ?_)
  refine z_aload_n C 0 1 dX10_put_16 rfl rfl ?_
  refine z_aload_n C 3 0 dX10_put_17 rfl rfl ?_
  refine z_iload_n C 2 3 dX10_put_18 rfl rfl ?_
  refine z_callV_I (As := [.ref (B + qj1), .int v2]) (rest := []) C rfl (ctX10_admit (zG_of C) N v0 qj1 v2 h0 hqj1 Mj3) cw_RX10_234 rfl (okM_X10_admit) rfl cl10 h0 (okR_of rfl) (Nat.le_of_ble_eq_true rfl) dX10_put_19 (fun qj4 _ => ?_)
  exact z_iret C hr (Nat.le_of_ble_eq_true rfl) dX10_put_22 rfl
set_option maxHeartbeats 4000000 in
set_option maxRecDepth 100000 in
theorem z_fX10_take_b79 {p : Program} {l : Launch} {e : Env} {s : State} {m : MethodId} {args : Array Value} {below : List Frame} {meth : Method} {c : Code} {D : va_G} {cy : Nat → ClassId} {B : Nat} {kd : Nat → Nat} {n : Nat} {sa sv : Nat → Nat} (C : zC p l s m args meth c D cy B kd n sa sv RX10 cX10_take 4) (ht : ∀ x ∈ c.exceptionTable.toList, False) (hr : meth.sig.returnType = some (FieldType.boolean)) {b0 : (Nat ⊕ Bool) × Mem}  (N : Nat) (v2 : Int32) (v3 : Nat) (M : Mem) (h3 : kd v3 = 5)  : Z p l e (rmz 3 3) s m args below meth c (vx_MQ below (QcR D cy B kd n (xBc b0)) (XcR D cy B kd n (xBc b0)) args s 3 (6 * 3) (AA B kd n)) D cy B kd n 4 b0 2 79 [(2, .int v2), (3, .ref (B + v3))] [] M (fX10_take_b79 N v2 v3 M) := by
  unfold fX10_take_b79
  refine z_aload_n C 3 1 dX10_take_79 rfl rfl ?_
  refine z_getR (k := 8) C cl5 h3 rfl gw_1_151 rfl dX10_take_80 ?_
  have j1 : kd (v3 + 1) = 2 := zkd C h3 (k := 8) rfl
  refine z_iload_n C 2 0 dX10_take_83 rfl rfl ?_
  refine z_callV_V (As := [.int v2]) (rest := []) C rfl (ctX2_remove (zG_of C) (v3 + 1) v2 j1 M) cw_RX10_260 rfl (okM_X2_remove) rfl cl2 j1 (okR_of rfl) (Nat.le_of_ble_eq_true rfl) dX10_take_84 (fun qj2 _ => ?_)
  refine z_iconst C dX10_take_87 rfl ?_
  exact z_zret C (v := true) hr (Nat.le_of_ble_eq_true rfl) dX10_take_88 rfl
set_option maxHeartbeats 4000000 in
set_option maxRecDepth 100000 in
theorem z_fX10_take_b32 {p : Program} {l : Launch} {e : Env} {s : State} {m : MethodId} {args : Array Value} {below : List Frame} {meth : Method} {c : Code} {D : va_G} {cy : Nat → ClassId} {B : Nat} {kd : Nat → Nat} {n : Nat} {sa sv : Nat → Nat} (C : zC p l s m args meth c D cy B kd n sa sv RX10 cX10_take 4) (ht : ∀ x ∈ c.exceptionTable.toList, False) (hr : meth.sig.returnType = some (FieldType.boolean)) {b0 : (Nat ⊕ Bool) × Mem}  (N : Nat) (v0 : Nat) (v2 : Int32) (v3 : Nat) (M : Mem) (h0 : kd v0 = 10) (h3 : kd v3 = 5)  : Z p l e (rmz 3 3) s m args below meth c (vx_MQ below (QcR D cy B kd n (xBc b0)) (XcR D cy B kd n (xBc b0)) args s 3 (6 * 3) (AA B kd n)) D cy B kd n 4 b0 1 32 [(0, .ref (B + v0)), (2, .int v2), (3, .ref (B + v3))] [] M (fX10_take_b32 N v0 v2 v3 M) := by
  unfold fX10_take_b32
  refine z_aload_n C 0 0 dX10_take_32 rfl rfl ?_
  refine z_iload_n C 2 1 dX10_take_33 rfl rfl ?_
  refine z_i2l C dX10_take_34 ?_
  refine z_callXV_V (As := [.long v2.toInt64]) (rest := []) C cvX_B ht rfl (ctX10_needName (zG_of C) v0 v2.toInt64 h0 M) cw_RX10_137 rfl (okM_X10_needName) rfl cl10 h0 (okR_of rfl) (Nat.le_of_ble_eq_true rfl) (Nat.le_of_ble_eq_true rfl) dX10_take_35 (fun qj1 Mj1 hEj1 => ?_)
  refine z_aload_n C 3 2 dX10_take_38 rfl rfl ?_
  refine z_getR (k := 8) C cl5 h3 rfl gw_1_151 rfl dX10_take_39 ?_
  have j2 : kd (v3 + 1) = 2 := zkd C h3 (k := 8) rfl
  refine z_iload_n C 2 1 dX10_take_42 rfl rfl ?_
  refine z_callV_pB (As := [.int v2]) (rest := []) C rfl (ctX2_has (zG_of C) (v3 + 1) v2 j2 Mj1) cw_RX10_227 rfl (okM_X2_has) rfl cl2 j2 (okR_of rfl) (Nat.le_of_ble_eq_true rfl) dX10_take_43 (fun qj3 _ => ?_)
  refine z_if_neB C 51 dX10_take_46 rfl (fun _ => ?_) (fun _ => ?_)
  · refine z_aload_n C 3 2 dX10_take_51 rfl rfl ?_
    refine z_getI (k := 1) C cl5 h3 rfl gw_1_126 rfl dX10_take_52 ?_
    refine z_iconst C dX10_take_55 rfl ?_
    refine z_icmp_ne C 67 dX10_take_56 rfl (fun _ => ?_) (fun _ => ?_)
    · refine z_aload_n C 3 2 dX10_take_59 rfl rfl ?_
      refine z_iload_n C 2 1 dX10_take_60 rfl rfl ?_
      refine z_callV_V (As := [.int v2]) (rest := []) C rfl (ctX5_freeGuest (zG_of C) N v3 v2 h3 Mj1) cw_RX10_253 rfl (okM_X5_freeGuest) rfl cl5 h3 (okR_of rfl) (Nat.le_of_ble_eq_true rfl) dX10_take_61 (fun qj4 _ => ?_)
      refine z_goto C 79 dX10_take_64 rfl ?_
      exact z_jump (ls1 := [(2, .int v2), (3, .ref (B + v3))]) (Nat.le_of_ble_eq_true rfl) [1, 2] rfl (z_fX10_take_b79 C ht hr N v2 v3 qj4 h3)
    · refine z_aload_n C 3 2 dX10_take_67 rfl rfl ?_
      refine z_aload_n C 0 0 dX10_take_68 rfl rfl ?_
      refine z_getR (k := 4) C cl10 h0 rfl gw_2_164 rfl dX10_take_69 ?_
      have j5 : kd (v0 + 1) = 7 := zkd C h0 (k := 4) rfl
      refine z_getR (k := 0) C cl7 j5 rfl gw_1_175 rfl dX10_take_72 ?_
      have j6 : kd ((v0 + 1) + 1) = 6 := zkd C j5 (k := 0) rfl
      refine z_iload_n C 2 1 dX10_take_75 rfl rfl ?_
      refine z_callV_V (As := [.ref (B + ((v0 + 1) + 1)), .int v2]) (rest := []) C rfl (ctX5_unmark (zG_of C) N v3 ((v0 + 1) + 1) v2 h3 j6 Mj1) cw_RX10_256 rfl (okM_X5_unmark) rfl cl5 h3 (okR_of rfl) (Nat.le_of_ble_eq_true rfl) dX10_take_76 (fun qj7 _ => ?_)
      exact z_jump (ls1 := [(2, .int v2), (3, .ref (B + v3))]) (Nat.le_of_ble_eq_true rfl) [1, 2] rfl (z_fX10_take_b79 C ht hr N v2 v3 qj7 h3)
  · refine z_iconst C dX10_take_49 rfl ?_
    exact z_zret C (v := false) hr (Nat.le_of_ble_eq_true rfl) dX10_take_50 rfl
set_option maxHeartbeats 4000000 in
set_option maxRecDepth 100000 in
theorem ctX10_take {l : Launch} {D : va_G} {cy : Nat → ClassId} {B : Nat} {kd : Nat → Nat} {n : Nat} {sa sv : Nat → Nat} (G : zG l kd n) (N : Nat) (v0 : Nat) (v1 : Int32) (v2 : Int32) (h0 : kd v0 = 10) (M : Mem) : CT l D cy B kd n sa sv 3 3 yX10_take cX10_take 4 (some (FieldType.boolean)) xBc [.ref (B + v0), .int v1, .int v2] M (fX10_take N v0 v1 v2 M) := by
  refine ct_of (by decide) G.1 G.2 (Nat.le_of_ble_eq_true rfl) (ls := [(0, .ref (B + v0)), (1, .int v1), (2, .int v2)]) rfl ?_
  intro p e s m args below meth c b0 C ht hr
  unfold fX10_take
  refine z_aload_n C 0 0 dX10_take_0 rfl rfl ?_
  refine z_iload_n C 1 1 dX10_take_1 rfl rfl ?_
  refine z_callXV_A (As := [.int v1]) (rest := []) C cvX_B ht rfl (ctX10_rowAt (zG_of C) v0 v1 h0 M) cw_RX10_167 rfl (okM_X10_rowAt) rfl cl10 h0 (okR_of rfl) (Nat.le_of_ble_eq_true rfl) (Nat.le_of_ble_eq_true rfl) dX10_take_2 (fun qj1 Mj1 hEj1 => ?_)
  have hqj1 : kd qj1 = 5 := kdX10_rowAt (zG_of C) h0 hEj1
  refine z_astore_n C 3 (ls1 := [(3, .ref (B + qj1)), (0, .ref (B + v0)), (1, .int v1), (2, .int v2)]) dX10_take_5 rfl (by decide) rfl ?_
  refine z_aload_n C 3 0 dX10_take_6 rfl rfl ?_
  refine z_getI (k := 1) C cl5 hqj1 rfl gw_1_126 rfl dX10_take_7 ?_
  refine z_iconst C dX10_take_10 rfl ?_
  refine z_icmp_eq C 32 dX10_take_11 rfl (fun _ => ?_) (fun _ => ?_)
  · exact z_jump (ls1 := [(0, .ref (B + v0)), (2, .int v2), (3, .ref (B + qj1))]) (Nat.le_of_ble_eq_true rfl) [1, 3, 0] rfl (z_fX10_take_b32 C ht hr N v0 v2 qj1 Mj1 h0 hqj1)
  · refine z_aload_n C 3 0 dX10_take_14 rfl rfl ?_
    refine z_getI (k := 1) C cl5 hqj1 rfl gw_1_126 rfl dX10_take_15 ?_
    refine z_iconst C dX10_take_18 rfl ?_
    refine z_icmp_eq C 32 dX10_take_19 rfl (fun _ => ?_) (fun _ => ?_)
    · exact z_jump (ls1 := [(0, .ref (B + v0)), (2, .int v2), (3, .ref (B + qj1))]) (Nat.le_of_ble_eq_true rfl) [1, 3, 0] rfl (z_fX10_take_b32 C ht hr N v0 v2 qj1 Mj1 h0 hqj1)
    · exact z_throw C cvX_B ht ex2 gw_4_221 gw_4_231 (i := 19) rfl ⟨Nat.le_of_ble_eq_true rfl, Nat.le_of_ble_eq_true rfl, Nat.le_of_ble_eq_true rfl, Nat.le_of_ble_eq_true rfl⟩ (Nat.le_of_ble_eq_true rfl) (Nat.le_of_ble_eq_true rfl) dX10_take_22 dX10_take_25 dX10_take_26 dX10_take_28 dX10_take_31
set_option maxHeartbeats 4000000 in
set_option maxRecDepth 100000 in
theorem z_fX10_join_b68 {p : Program} {l : Launch} {e : Env} {s : State} {m : MethodId} {args : Array Value} {below : List Frame} {meth : Method} {c : Code} {D : va_G} {cy : Nat → ClassId} {B : Nat} {kd : Nat → Nat} {n : Nat} {sa sv : Nat → Nat} (C : zC p l s m args meth c D cy B kd n sa sv RX10 cX10_join 6) (ht : ∀ x ∈ c.exceptionTable.toList, False) (hr : meth.sig.returnType = some (FieldType.int)) {b0 : (Nat ⊕ Int32) × Mem}  (N : Nat) (M : Mem)  : Z p l e (rmz 2 3) s m args below meth c (vx_MQ below (QcR D cy B kd n (xIc b0)) (XcR D cy B kd n (xIc b0)) args s 3 (6 * 3) (AA B kd n)) D cy B kd n 6 b0 2 68 [] [] M (fX10_join_b68 N M) := by
  unfold fX10_join_b68
  exact z_throwW C cvX_I ht ex2 gw_4_221 gw_4_231 (i := 20) rfl ⟨Nat.le_of_ble_eq_true rfl, Nat.le_of_ble_eq_true rfl, Nat.le_of_ble_eq_true rfl, Nat.le_of_ble_eq_true rfl⟩ (Nat.le_of_ble_eq_true rfl) (Nat.le_of_ble_eq_true rfl) dX10_join_68 dX10_join_71 dX10_join_72 dX10_join_75 dX10_join_78
set_option maxHeartbeats 4000000 in
set_option maxRecDepth 100000 in
theorem z_fX10_join_b54 {p : Program} {l : Launch} {e : Env} {s : State} {m : MethodId} {args : Array Value} {below : List Frame} {meth : Method} {c : Code} {D : va_G} {cy : Nat → ClassId} {B : Nat} {kd : Nat → Nat} {n : Nat} {sa sv : Nat → Nat} (C : zC p l s m args meth c D cy B kd n sa sv RX10 cX10_join 6) (ht : ∀ x ∈ c.exceptionTable.toList, False) (hr : meth.sig.returnType = some (FieldType.int)) {b0 : (Nat ⊕ Int32) × Mem}  (N : Nat) (v1 : Int32) (v2 : Int32) (v3 : Nat) (v4 : Nat) (s0 : Bool) (M : Mem) (h3 : kd v3 = 5) (h4 : kd v4 = 5)  : Z p l e (rmz 2 3) s m args below meth c (vx_MQ below (QcR D cy B kd n (xIc b0)) (XcR D cy B kd n (xIc b0)) args s 3 (6 * 3) (AA B kd n)) D cy B kd n 6 b0 2 54 [(1, .int v1), (2, .int v2), (3, .ref (B + v3)), (4, .ref (B + v4))] [.int (bI s0)] M (fX10_join_b54 N v1 v2 v3 v4 s0 M) := by
  unfold fX10_join_b54
  refine z_istore C 5 (ls1 := [(5, .int (bI s0)), (1, .int v1), (2, .int v2), (3, .ref (B + v3)), (4, .ref (B + v4))]) dX10_join_54 (by decide) rfl ?_
  refine z_iload C 0 dX10_join_56 rfl ?_
  refine z_if_eqB C 68 dX10_join_58 rfl (fun _ => ?_) (fun _ => ?_)
  · refine z_aload_n C 3 3 dX10_join_61 rfl rfl ?_
    refine z_callV_pB (As := []) (rest := []) C rfl (ctX5_isPlain (zG_of C) v3 h3 M) cw_RX10_263 rfl (okM_X5_isPlain) rfl cl5 h3 (okR_of rfl) (Nat.le_of_ble_eq_true rfl) dX10_join_62 (fun qj1 _ => ?_)
    refine z_if_neB C 79 dX10_join_65 rfl (fun _ => ?_) (fun _ => ?_)
    · refine z_iload_n C 1 1 dX10_join_79 rfl rfl ?_
      refine z_iload_n C 2 2 dX10_join_80 rfl rfl ?_
      refine z_icmp_ne C 95 dX10_join_81 rfl (fun _ => ?_) (fun _ => ?_)
      · exact z_throwW C cvX_I ht ex3 gw_2_236 gw_3_39 (i := 21) rfl ⟨Nat.le_of_ble_eq_true rfl, Nat.le_of_ble_eq_true rfl, Nat.le_of_ble_eq_true rfl, Nat.le_of_ble_eq_true rfl⟩ (Nat.le_of_ble_eq_true rfl) (Nat.le_of_ble_eq_true rfl) dX10_join_84 dX10_join_87 dX10_join_88 dX10_join_91 dX10_join_94
      · refine z_aload_n C 3 3 dX10_join_95 rfl rfl ?_
        refine z_aload C 4 dX10_join_96 rfl ?_
        refine z_callV_V (As := [.ref (B + v4)]) (rest := []) C rfl (ctX5_absorb (zG_of C) N v3 v4 h3 h4 M) cw_RX10_271 rfl (okM_X5_absorb) rfl cl5 h3 (okR_of rfl) (Nat.le_of_ble_eq_true rfl) dX10_join_98 (fun qj2 _ => ?_)
        refine z_aload_n C 3 3 dX10_join_101 rfl rfl ?_
        refine z_getR (k := 8) C cl5 h3 rfl gw_1_151 rfl dX10_join_102 ?_
        have j3 : kd (v3 + 1) = 2 := zkd C h3 (k := 8) rfl
        refine z_callV_pI (As := []) (rest := []) C rfl (ctX2_many (zG_of C) N (v3 + 1) j3 qj2) cw_RX10_185 rfl (okM_X2_many) rfl cl2 j3 (okR_of rfl) (Nat.le_of_ble_eq_true rfl) dX10_join_105 (fun qj4 _ => ?_)
        exact z_iret C hr (Nat.le_of_ble_eq_true rfl) dX10_join_108 rfl
    · exact z_jump (ls1 := []) (Nat.le_of_ble_eq_true rfl) [] rfl (z_fX10_join_b68 C ht hr N M)
  · exact z_jump (ls1 := []) (Nat.le_of_ble_eq_true rfl) [] rfl (z_fX10_join_b68 C ht hr N M)
set_option maxHeartbeats 4000000 in
set_option maxRecDepth 100000 in
theorem z_fX10_join_b53 {p : Program} {l : Launch} {e : Env} {s : State} {m : MethodId} {args : Array Value} {below : List Frame} {meth : Method} {c : Code} {D : va_G} {cy : Nat → ClassId} {B : Nat} {kd : Nat → Nat} {n : Nat} {sa sv : Nat → Nat} (C : zC p l s m args meth c D cy B kd n sa sv RX10 cX10_join 6) (ht : ∀ x ∈ c.exceptionTable.toList, False) (hr : meth.sig.returnType = some (FieldType.int)) {b0 : (Nat ⊕ Int32) × Mem}  (N : Nat) (v1 : Int32) (v2 : Int32) (v3 : Nat) (v4 : Nat) (M : Mem) (h3 : kd v3 = 5) (h4 : kd v4 = 5)  : Z p l e (rmz 2 3) s m args below meth c (vx_MQ below (QcR D cy B kd n (xIc b0)) (XcR D cy B kd n (xIc b0)) args s 3 (6 * 3) (AA B kd n)) D cy B kd n 6 b0 2 53 [(1, .int v1), (2, .int v2), (3, .ref (B + v3)), (4, .ref (B + v4))] [] M (fX10_join_b53 N v1 v2 v3 v4 M) := by
  unfold fX10_join_b53
  refine z_iconst C dX10_join_53 rfl ?_
  exact z_jump (ls1 := [(1, .int v1), (2, .int v2), (3, .ref (B + v3)), (4, .ref (B + v4))]) (Nat.le_of_ble_eq_true rfl) [0, 1, 2, 3] rfl (z_fX10_join_b54 C ht hr N v1 v2 v3 v4 false M h3 h4)
set_option maxHeartbeats 4000000 in
set_option maxRecDepth 100000 in
theorem ctX10_join {l : Launch} {D : va_G} {cy : Nat → ClassId} {B : Nat} {kd : Nat → Nat} {n : Nat} {sa sv : Nat → Nat} (G : zG l kd n) (N : Nat) (v0 : Nat) (v1 : Int32) (v2 : Int32) (h0 : kd v0 = 10) (M : Mem) : CT l D cy B kd n sa sv 2 3 yX10_join cX10_join 6 (some (FieldType.int)) xIc [.ref (B + v0), .int v1, .int v2] M (fX10_join N v0 v1 v2 M) := by
  refine ct_of (by decide) G.1 G.2 (Nat.le_of_ble_eq_true rfl) (ls := [(0, .ref (B + v0)), (1, .int v1), (2, .int v2)]) rfl ?_
  intro p e s m args below meth c b0 C ht hr
  unfold fX10_join
  refine z_aload_n C 0 0 dX10_join_0 rfl rfl ?_
  refine z_iload_n C 1 1 dX10_join_1 rfl rfl ?_
  refine z_callXV_A (As := [.int v1]) (rest := []) C cvX_I ht rfl (ctX10_rowAt (zG_of C) v0 v1 h0 M) cw_RX10_167 rfl (okM_X10_rowAt) rfl cl10 h0 (okR_of rfl) (Nat.le_of_ble_eq_true rfl) (Nat.le_of_ble_eq_true rfl) dX10_join_2 (fun qj1 Mj1 hEj1 => ?_)
  have hqj1 : kd qj1 = 5 := kdX10_rowAt (zG_of C) h0 hEj1
  refine z_astore_n C 3 (ls1 := [(3, .ref (B + qj1)), (0, .ref (B + v0)), (1, .int v1), (2, .int v2)]) dX10_join_5 rfl (by decide) rfl ?_
  refine z_aload_n C 0 1 dX10_join_6 rfl rfl ?_
  refine z_iload_n C 2 3 dX10_join_7 rfl rfl ?_
  refine z_callXV_A (As := [.int v2]) (rest := []) C cvX_I ht rfl (ctX10_rowAt (zG_of C) v0 v2 h0 Mj1) cw_RX10_167 rfl (okM_X10_rowAt) rfl cl10 h0 (okR_of rfl) (Nat.le_of_ble_eq_true rfl) (Nat.le_of_ble_eq_true rfl) dX10_join_8 (fun qj2 Mj2 hEj2 => ?_)
  have hqj2 : kd qj2 = 5 := kdX10_rowAt (zG_of C) h0 hEj2
  refine z_astore C 4 (ls1 := [(4, .ref (B + qj2)), (3, .ref (B + qj1)), (0, .ref (B + v0)), (1, .int v1), (2, .int v2)]) dX10_join_11 (by decide) rfl ?_
  refine z_aload_n C 3 1 dX10_join_13 rfl rfl ?_
  refine z_getI (k := 1) C cl5 hqj1 rfl gw_1_126 rfl dX10_join_14 ?_
  refine z_aload C 0 dX10_join_17 rfl ?_
  refine z_getI (k := 1) C cl5 hqj2 rfl gw_1_126 rfl dX10_join_19 ?_
  refine z_icmp_ne C 53 dX10_join_22 rfl (fun _ => ?_) (fun _ => ?_)
  · refine z_aload_n C 3 1 dX10_join_25 rfl rfl ?_
    refine z_getI (k := 2) C cl5 hqj1 rfl gw_1_131 rfl dX10_join_26 ?_
    refine z_aload C 0 dX10_join_29 rfl ?_
    refine z_getI (k := 2) C cl5 hqj2 rfl gw_1_131 rfl dX10_join_31 ?_
    refine z_icmp_ne C 53 dX10_join_34 rfl (fun _ => ?_) (fun _ => ?_)
    · refine z_aload_n C 3 1 dX10_join_37 rfl rfl ?_
      refine z_getI (k := 3) C cl5 hqj1 rfl gw_1_136 rfl dX10_join_38 ?_
      refine z_aload C 0 dX10_join_41 rfl ?_
      refine z_getI (k := 3) C cl5 hqj2 rfl gw_1_136 rfl dX10_join_43 ?_
      refine z_icmp_ne C 53 dX10_join_46 rfl (fun _ => ?_) (fun _ => ?_)
      · refine z_iconst C dX10_join_49 rfl ?_
        refine z_goto C 54 dX10_join_50 rfl ?_
        exact z_jump (ls1 := [(1, .int v1), (2, .int v2), (3, .ref (B + qj1)), (4, .ref (B + qj2))]) (Nat.le_of_ble_eq_true rfl) [3, 4, 1, 0] rfl (z_fX10_join_b54 C ht hr N v1 v2 qj1 qj2 true Mj2 hqj1 hqj2)
      · exact z_jump (ls1 := [(1, .int v1), (2, .int v2), (3, .ref (B + qj1)), (4, .ref (B + qj2))]) (Nat.le_of_ble_eq_true rfl) [3, 4, 1, 0] rfl (z_fX10_join_b53 C ht hr N v1 v2 qj1 qj2 Mj2 hqj1 hqj2)
    · exact z_jump (ls1 := [(1, .int v1), (2, .int v2), (3, .ref (B + qj1)), (4, .ref (B + qj2))]) (Nat.le_of_ble_eq_true rfl) [3, 4, 1, 0] rfl (z_fX10_join_b53 C ht hr N v1 v2 qj1 qj2 Mj2 hqj1 hqj2)
  · exact z_jump (ls1 := [(1, .int v1), (2, .int v2), (3, .ref (B + qj1)), (4, .ref (B + qj2))]) (Nat.le_of_ble_eq_true rfl) [3, 4, 1, 0] rfl (z_fX10_join_b53 C ht hr N v1 v2 qj1 qj2 Mj2 hqj1 hqj2)
set_option maxHeartbeats 4000000 in
set_option maxRecDepth 100000 in
theorem z_fX10_halve_b22 {p : Program} {l : Launch} {e : Env} {s : State} {m : MethodId} {args : Array Value} {below : List Frame} {meth : Method} {c : Code} {D : va_G} {cy : Nat → ClassId} {B : Nat} {kd : Nat → Nat} {n : Nat} {sa sv : Nat → Nat} (C : zC p l s m args meth c D cy B kd n sa sv RX10 cX10_halve 3) (ht : ∀ x ∈ c.exceptionTable.toList, False) (hr : meth.sig.returnType = some (FieldType.int)) {b0 : (Nat ⊕ Int32) × Mem}  (N : Nat) (M : Mem)  : Z p l e (rmz 2 2) s m args below meth c (vx_MQ below (QcR D cy B kd n (xIc b0)) (XcR D cy B kd n (xIc b0)) args s 2 (6 * 2) (AA B kd n)) D cy B kd n 3 b0 1 22 [] [] M (fX10_halve_b22 N M) := by
  unfold fX10_halve_b22
  exact z_throwW C cvX_I ht ex2 gw_4_221 gw_4_231 (i := 22) rfl ⟨Nat.le_of_ble_eq_true rfl, Nat.le_of_ble_eq_true rfl, Nat.le_of_ble_eq_true rfl, Nat.le_of_ble_eq_true rfl⟩ (Nat.le_of_ble_eq_true rfl) (Nat.le_of_ble_eq_true rfl) dX10_halve_22 dX10_halve_25 dX10_halve_26 dX10_halve_29 dX10_halve_32
set_option maxHeartbeats 4000000 in
set_option maxRecDepth 100000 in
theorem ctX10_halve {l : Launch} {D : va_G} {cy : Nat → ClassId} {B : Nat} {kd : Nat → Nat} {n : Nat} {sa sv : Nat → Nat} (G : zG l kd n) (N : Nat) (v0 : Nat) (v1 : Int32) (h0 : kd v0 = 10) (M : Mem) : CT l D cy B kd n sa sv 2 2 yX10_halve cX10_halve 3 (some (FieldType.int)) xIc [.ref (B + v0), .int v1] M (fX10_halve N v0 v1 M) := by
  refine ct_of (by decide) G.1 G.2 (Nat.le_of_ble_eq_true rfl) (ls := [(0, .ref (B + v0)), (1, .int v1)]) rfl ?_
  intro p e s m args below meth c b0 C ht hr
  unfold fX10_halve
  refine z_aload_n C 0 0 dX10_halve_0 rfl rfl ?_
  refine z_iload_n C 1 1 dX10_halve_1 rfl rfl ?_
  refine z_callXV_A (As := [.int v1]) (rest := []) C cvX_I ht rfl (ctX10_rowAt (zG_of C) v0 v1 h0 M) cw_RX10_167 rfl (okM_X10_rowAt) rfl cl10 h0 (okR_of rfl) (Nat.le_of_ble_eq_true rfl) (Nat.le_of_ble_eq_true rfl) dX10_halve_2 (fun qj1 Mj1 hEj1 => ?_)
  have hqj1 : kd qj1 = 5 := kdX10_rowAt (zG_of C) h0 hEj1
  refine z_astore_n C 2 (ls1 := [(2, .ref (B + qj1)), (0, .ref (B + v0)), (1, .int v1)]) dX10_halve_5 rfl (by decide) rfl ?_
  refine z_aload_n C 2 0 dX10_halve_6 rfl rfl ?_
  refine z_callV_pB (As := []) (rest := []) C rfl (ctX5_isPlain (zG_of C) qj1 hqj1 Mj1) cw_RX10_263 rfl (okM_X5_isPlain) rfl cl5 hqj1 (okR_of rfl) (Nat.le_of_ble_eq_true rfl) dX10_halve_7 (fun qj2 _ => ?_)
  refine z_if_eqB C 22 dX10_halve_10 rfl (fun _ => ?_) (fun _ => ?_)
  · refine z_aload_n C 2 0 dX10_halve_13 rfl rfl ?_
    refine z_getI (k := 2) C cl5 hqj1 rfl gw_1_131 rfl dX10_halve_14 ?_
    refine z_iconst C dX10_halve_17 rfl ?_
    refine z_iremK C dX10_halve_18 (by decide) ?_
    refine z_if_eq C 33 dX10_halve_19 rfl (fun _ => ?_) (fun _ => ?_)
    · refine z_aload_n C 2 0 dX10_halve_33 rfl rfl ?_
      refine z_callV_V (As := []) (rest := []) C rfl (ctX5_fold (zG_of C) N qj1 hqj1 Mj1) cw_RX10_276 rfl (okM_X5_fold) rfl cl5 hqj1 (okR_of rfl) (Nat.le_of_ble_eq_true rfl) dX10_halve_34 (fun qj3 _ => ?_)
      refine z_aload_n C 2 0 dX10_halve_37 rfl rfl ?_
      refine z_getI (k := 2) C cl5 hqj1 rfl gw_1_131 rfl dX10_halve_38 ?_
      exact z_iret C hr (Nat.le_of_ble_eq_true rfl) dX10_halve_41 rfl
    · exact z_jump (ls1 := []) (Nat.le_of_ble_eq_true rfl) [] rfl (z_fX10_halve_b22 C ht hr N Mj1)
  · exact z_jump (ls1 := []) (Nat.le_of_ble_eq_true rfl) [] rfl (z_fX10_halve_b22 C ht hr N Mj1)
set_option maxHeartbeats 4000000 in
set_option maxRecDepth 100000 in
theorem ctX10_grow {l : Launch} {D : va_G} {cy : Nat → ClassId} {B : Nat} {kd : Nat → Nat} {n : Nat} {sa sv : Nat → Nat} (G : zG l kd n) (N : Nat) (v0 : Nat) (v1 : Int32) (h0 : kd v0 = 10) (M : Mem) : CT l D cy B kd n sa sv 6 3 yX10_grow cX10_grow 3 (some (FieldType.int)) xIc [.ref (B + v0), .int v1] M (fX10_grow N v0 v1 M) := by
  refine ct_of (by decide) G.1 G.2 (Nat.le_of_ble_eq_true rfl) (ls := [(0, .ref (B + v0)), (1, .int v1)]) rfl ?_
  intro p e s m args below meth c b0 C ht hr
  unfold fX10_grow
  refine z_aload_n C 0 0 dX10_grow_0 rfl rfl ?_
  refine z_iload_n C 1 1 dX10_grow_1 rfl rfl ?_
  refine z_callXV_A (As := [.int v1]) (rest := []) C cvX_I ht rfl (ctX10_rowAt (zG_of C) v0 v1 h0 M) cw_RX10_167 rfl (okM_X10_rowAt) rfl cl10 h0 (okR_of rfl) (Nat.le_of_ble_eq_true rfl) (Nat.le_of_ble_eq_true rfl) dX10_grow_2 (fun qj1 Mj1 hEj1 => ?_)
  have hqj1 : kd qj1 = 5 := kdX10_rowAt (zG_of C) h0 hEj1
  refine z_astore_n C 2 (ls1 := [(2, .ref (B + qj1)), (0, .ref (B + v0)), (1, .int v1)]) dX10_grow_5 rfl (by decide) rfl ?_
  refine z_aload_n C 2 0 dX10_grow_6 rfl rfl ?_
  refine z_iconst C dX10_grow_7 rfl ?_
  refine z_callXS_V (As := [.ref (B + qj1), .int (2 : Int32)]) (rest := []) C cvX_I ht rfl (ctX10_needKind (zG_of C) qj1 (2 : Int32) hqj1 Mj1) cw_RX10_213 (okM_X10_needKind) rfl (okR_of rfl) (Nat.le_of_ble_eq_true rfl) (Nat.le_of_ble_eq_true rfl) dX10_grow_8 (fun qj2 Mj2 hEj2 => ?_)
  refine z_aload_n C 2 0 dX10_grow_11 rfl rfl ?_
  refine z_getI (k := 2) C cl5 hqj1 rfl gw_1_131 rfl dX10_grow_12 ?_
  refine z_bipush (v := 8) C dX10_grow_15 rfl ?_
  refine z_icmp_le C 31 dX10_grow_17 rfl (fun _ => ?_) (fun _ => ?_)
  · refine z_aload_n C 0 1 dX10_grow_31 rfl rfl ?_
    refine z_getR (k := 9) C cl10 h0 rfl gw_2_169 rfl dX10_grow_32 ?_
    have j3 : kd (v0 + 121) = 3 := zkd C h0 (k := 9) rfl
    refine z_aload_n C 2 0 dX10_grow_35 rfl rfl ?_
    refine z_aload_n C 0 1 dX10_grow_36 rfl rfl ?_
    refine z_getR (k := 4) C cl10 h0 rfl gw_2_164 rfl dX10_grow_37 ?_
    have j4 : kd (v0 + 1) = 7 := zkd C h0 (k := 4) rfl
    refine z_getR (k := 0) C cl7 j4 rfl gw_1_175 rfl dX10_grow_40 ?_
    have j5 : kd ((v0 + 1) + 1) = 6 := zkd C j4 (k := 0) rfl
    refine z_callV_B (As := [.ref (B + qj1), .ref (B + ((v0 + 1) + 1))]) (rest := []) C rfl (ctX3_enlarge (zG_of C) N (v0 + 121) qj1 ((v0 + 1) + 1) j3 hqj1 j5 Mj2) cw_RX10_281 rfl (okM_X3_enlarge) rfl cl3 j3 (okR_of rfl) (Nat.le_of_ble_eq_true rfl) dX10_grow_43 (fun qj6 _ => ?_)
    refine z_if_eqB C 56 dX10_grow_46 rfl (fun _ => ?_) (fun _ => ?_)
    · refine z_aload_n C 2 0 dX10_grow_49 rfl rfl ?_
      refine z_getI (k := 2) C cl5 hqj1 rfl gw_1_131 rfl dX10_grow_50 ?_
      refine z_goto C 57 dX10_grow_53 rfl ?_
      exact z_iret C hr (Nat.le_of_ble_eq_true rfl) dX10_grow_57 rfl
    · refine z_iconst C dX10_grow_56 rfl ?_
      exact z_iret C hr (Nat.le_of_ble_eq_true rfl) dX10_grow_57 rfl
  · exact z_throwW C cvX_I ht ex2 gw_4_221 gw_4_231 (i := 23) rfl ⟨Nat.le_of_ble_eq_true rfl, Nat.le_of_ble_eq_true rfl, Nat.le_of_ble_eq_true rfl, Nat.le_of_ble_eq_true rfl⟩ (Nat.le_of_ble_eq_true rfl) (Nat.le_of_ble_eq_true rfl) dX10_grow_20 dX10_grow_23 dX10_grow_24 dX10_grow_27 dX10_grow_30
set_option maxHeartbeats 4000000 in
set_option maxRecDepth 100000 in
theorem z_fX10_trayAt_b9 {p : Program} {l : Launch} {e : Env} {s : State} {m : MethodId} {args : Array Value} {below : List Frame} {meth : Method} {c : Code} {D : va_G} {cy : Nat → ClassId} {B : Nat} {kd : Nat → Nat} {n : Nat} {sa sv : Nat → Nat} (C : zC p l s m args meth c D cy B kd n sa sv RX10 cX10_trayAt 2) (ht : ∀ x ∈ c.exceptionTable.toList, False) (hr : meth.sig.returnType = some ((FieldType.object "PerhapsRows$Tray"))) {b0 : (Nat ⊕ Nat) × Mem}   (M : Mem)  : Z p l e (rmz 0 1) s m args below meth c (vx_MQ below (QcR D cy B kd n ((xAc B) b0)) (XcR D cy B kd n ((xAc B) b0)) args s 1 (6 * 1) (AA B kd n)) D cy B kd n 2 b0 0 9 [] [] M (fX10_trayAt_b9 M) := by
  unfold fX10_trayAt_b9
  exact z_throwXW C cvX_A ht ex1 gw_4_56 gw_4_66 (i := 24) rfl ⟨Nat.le_of_ble_eq_true rfl, Nat.le_of_ble_eq_true rfl, Nat.le_of_ble_eq_true rfl, Nat.le_of_ble_eq_true rfl⟩ (Nat.le_of_ble_eq_true rfl) (Nat.le_of_ble_eq_true rfl) dX10_trayAt_9 dX10_trayAt_12 dX10_trayAt_13 dX10_trayAt_16 dX10_trayAt_19
set_option maxHeartbeats 4000000 in
set_option maxRecDepth 100000 in
theorem ctX10_trayAt {l : Launch} {D : va_G} {cy : Nat → ClassId} {B : Nat} {kd : Nat → Nat} {n : Nat} {sa sv : Nat → Nat} (G : zG l kd n) (v0 : Nat) (v1 : Int32) (h0 : kd v0 = 10) (M : Mem) : CT l D cy B kd n sa sv 0 1 yX10_trayAt cX10_trayAt 2 (some ((FieldType.object "PerhapsRows$Tray"))) (xAc B) [.ref (B + v0), .int v1] M (fX10_trayAt v0 v1 M) := by
  refine ct_of (by decide) G.1 G.2 (Nat.le_of_ble_eq_true rfl) (ls := [(0, .ref (B + v0)), (1, .int v1)]) rfl ?_
  intro p e s m args below meth c b0 C ht hr
  unfold fX10_trayAt
  refine z_iload_n C 1 1 dX10_trayAt_0 rfl rfl ?_
  refine z_if_lt C 9 dX10_trayAt_1 rfl (fun _ => ?_) (fun _ => ?_)
  · exact z_jump (ls1 := []) (Nat.le_of_ble_eq_true rfl) [] rfl (z_fX10_trayAt_b9 C ht hr M)
  · refine z_iload_n C 1 1 dX10_trayAt_4 rfl rfl ?_
    refine z_iconst C dX10_trayAt_5 rfl ?_
    refine z_icmp_lt C 20 dX10_trayAt_6 rfl (fun _ => ?_) (fun _ => ?_)
    · refine z_aload_n C 0 0 dX10_trayAt_20 rfl rfl ?_
      refine z_getR (k := 7) C cl10 h0 rfl gw_2_167 rfl dX10_trayAt_21 ?_
      have j1 : kd (v0 + 102) = 29 := zkd C h0 (k := 7) rfl
      refine z_iload_n C 1 1 dX10_trayAt_24 rfl rfl ?_
      refine z_aald6 C j1 rfl (by decide) dX10_trayAt_25 (fun j2 => ?_)
      have j3 : kd ((v0 + 102) + 1 + 2 * v1.toNatClampNeg) = 9 := zka C j1 rfl (by decide) j2
      exact z_aret C hr (Nat.le_of_ble_eq_true rfl) dX10_trayAt_26 rfl
    · exact z_jump (ls1 := []) (Nat.le_of_ble_eq_true rfl) [] rfl (z_fX10_trayAt_b9 C ht hr M)
theorem kdX10_trayAt {l : Launch} {kd : Nat → Nat} {n : Nat} (G : zG l kd n) {v0 q : Nat} {v1 : Int32} {M M1 : Mem} (h0 : kd v0 = 10) (h : fX10_trayAt v0 v1 M = some (.inr q, M1)) : kd q = 9 := by
  unfold fX10_trayAt fX10_trayAt_b9 at h
  repeat (split at h; · cases h)
  repeat first | (cases h; done) | (split at h <;> first | (cases h; done) | skip)
  all_goals first | (cases h; exact zkaG G (zkG G h0 (k := 7) rfl) rfl (by decide) (by assumption)) | skip
set_option maxHeartbeats 4000000 in
set_option maxRecDepth 100000 in
theorem ctX10_needFilled {l : Launch} {D : va_G} {cy : Nat → ClassId} {B : Nat} {kd : Nat → Nat} {n : Nat} {sa sv : Nat → Nat} (G : zG l kd n) (v0 : Nat) (h0 : kd v0 = 9) (M : Mem) : CT l D cy B kd n sa sv 0 1 yX10_needFilled cX10_needFilled 1 (none) xVc [.ref (B + v0)] M (fX10_needFilled v0 M) := by
  refine ct_of (by decide) G.1 G.2 (Nat.le_of_ble_eq_true rfl) (ls := [(0, .ref (B + v0))]) rfl ?_
  intro p e s m args below meth c b0 C ht hr
  unfold fX10_needFilled
  refine z_aload_n C 0 0 dX10_needFilled_0 rfl rfl ?_
  refine z_getI (k := 0) C cl9 h0 rfl gw_1_207 rfl dX10_needFilled_1 ?_
  refine z_if_ne C 18 dX10_needFilled_4 rfl (fun _ => ?_) (fun _ => ?_)
  · exact z_throwW C cvX_V ht ex2 gw_4_221 gw_4_231 (i := 25) rfl ⟨Nat.le_of_ble_eq_true rfl, Nat.le_of_ble_eq_true rfl, Nat.le_of_ble_eq_true rfl, Nat.le_of_ble_eq_true rfl⟩ (Nat.le_of_ble_eq_true rfl) (Nat.le_of_ble_eq_true rfl) dX10_needFilled_7 dX10_needFilled_10 dX10_needFilled_11 dX10_needFilled_14 dX10_needFilled_17
  · exact z_vret C hr (Nat.le_of_ble_eq_true rfl) dX10_needFilled_18 rfl
set_option maxHeartbeats 4000000 in
set_option maxRecDepth 100000 in
theorem z_fX10_needNames_l2_s {p : Program} {l : Launch} {e : Env} {s : State} {m : MethodId} {args : Array Value} {below : List Frame} {meth : Method} {c : Code} {D : va_G} {cy : Nat → ClassId} {B : Nat} {kd : Nat → Nat} {n : Nat} {sa sv : Nat → Nat} (C : zC p l s m args meth c D cy B kd n sa sv RX10 cX10_needNames 3) (cu : Nat) (hcu : cu + 1 ≤ 64) (ht : ∀ x ∈ c.exceptionTable.toList, False) (hr : meth.sig.returnType = none) {b0 : (Nat ⊕ Unit) × Mem} (N : Nat) (v0 : Nat) (v1 : Nat) (k2 : Int32 → Mem → Option ((Nat ⊕ Unit) × Mem)) (v2 : Int32) (M : Mem) (h0 : kd v0 = 10) (h1 : kd v1 = 9)  (hk2 : ∀ (v2 : Int32) (M : Mem), Z p l e (rmz 2 64) s m args below meth c (vx_MQ below (QcR D cy B kd n (xVc b0)) (XcR D cy B kd n (xVc b0)) args s 64 (6 * 64) (AA B kd n)) D cy B kd n 3 b0 (cu + 1) 2 [(0, .ref (B + v0)), (1, .ref (B + v1)), (2, .int v2)] [] M (k2 v2 M)) : Z p l e (rmz 2 64) s m args below meth c (vx_MQ below (QcR D cy B kd n (xVc b0)) (XcR D cy B kd n (xVc b0)) args s 64 (6 * 64) (AA B kd n)) D cy B kd n 3 b0 cu 2 [(0, .ref (B + v0)), (1, .ref (B + v1)), (2, .int v2)] [] M (fX10_needNames_l2_s N v0 v1 k2 v2 M) := by
  unfold fX10_needNames_l2_s
  refine z_iload_n C 2 2 dX10_needNames_2 rfl rfl ?_
  refine z_aload_n C 1 1 dX10_needNames_3 rfl rfl ?_
  refine z_getI (k := 1) C cl9 h1 rfl gw_1_212 rfl dX10_needNames_4 ?_
  refine z_icmp_ge C 25 dX10_needNames_7 rfl (fun _ => ?_) (fun _ => ?_)
  · exact z_vret C hr (by omega) dX10_needNames_25 rfl
  · refine z_aload_n C 0 0 dX10_needNames_10 rfl rfl ?_
    refine z_aload_n C 1 1 dX10_needNames_11 rfl rfl ?_
    refine z_iload_n C 2 2 dX10_needNames_12 rfl rfl ?_
    refine z_callV_pJ (As := [.int v2]) (rest := [.ref (B + v0)]) C rfl (ctX9_numberAt (zG_of C) v1 v2 h1 M) cw_RX10_327 rfl (okM_X9_numberAt) rfl cl9 h1 (okR_n rfl (by omega)) (Nat.le_of_ble_eq_true rfl) dX10_needNames_13 (fun qj1 _ => ?_)
    refine z_callXV_V (As := [.long qj1]) (rest := []) C cvX_V ht rfl (ctX10_needName (zG_of C) v0 qj1 h0 M) cw_RX10_137 rfl (okM_X10_needName) rfl cl10 h0 (okR_n rfl (by omega)) (by omega) (Nat.le_of_ble_eq_true rfl) dX10_needNames_16 (fun qj2 Mj2 hEj2 => ?_)
    refine z_iinc C 2 2 (v := v2) (v1 := (v2 + (1 : Int32))) (ls1 := [(2, .int (v2 + (1 : Int32))), (0, .ref (B + v0)), (1, .ref (B + v1))]) dX10_needNames_19 rfl rfl (by decide) rfl ?_
    refine z_goto C 2 dX10_needNames_22 rfl ?_
    exact z_jump (ls1 := [(0, .ref (B + v0)), (1, .ref (B + v1)), (2, .int (v2 + (1 : Int32)))]) (by omega) [1, 2, 0] rfl (hk2 (v2 + (1 : Int32)) Mj2)
theorem z_fX10_needNames_l2_i {p : Program} {l : Launch} {e : Env} {s : State} {m : MethodId} {args : Array Value} {below : List Frame} {meth : Method} {c : Code} {D : va_G} {cy : Nat → ClassId} {B : Nat} {kd : Nat → Nat} {n : Nat} {sa sv : Nat → Nat} (C : zC p l s m args meth c D cy B kd n sa sv RX10 cX10_needNames 3) (ht : ∀ x ∈ c.exceptionTable.toList, False) (hr : meth.sig.returnType = none) {b0 : (Nat ⊕ Unit) × Mem} (N : Nat) (v0 : Nat) (v1 : Nat) (h0 : kd v0 = 10) (h1 : kd v1 = 9)  (fu : Nat) : ∀ (cu : Nat), cu + fu ≤ 64 → ∀ (v2 : Int32) (M : Mem), Z p l e (rmz 2 64) s m args below meth c (vx_MQ below (QcR D cy B kd n (xVc b0)) (XcR D cy B kd n (xVc b0)) args s 64 (6 * 64) (AA B kd n)) D cy B kd n 3 b0 cu 2 [(0, .ref (B + v0)), (1, .ref (B + v1)), (2, .int v2)] [] M (fX10_needNames_l2 N v0 v1 fu v2 M) := by
  induction fu with
  | zero => intro cu hcu v2 M; exact z_none
  | succ fu ih => intro cu hcu v2 M; exact z_fX10_needNames_l2_s C cu (by omega) ht hr N v0 v1 (fX10_needNames_l2 N v0 v1 fu) v2 M h0 h1 (fun v2 M => ih (cu + 1) (by omega) v2 M)
theorem z_fX10_needNames_l2 {p : Program} {l : Launch} {e : Env} {s : State} {m : MethodId} {args : Array Value} {below : List Frame} {meth : Method} {c : Code} {D : va_G} {cy : Nat → ClassId} {B : Nat} {kd : Nat → Nat} {n : Nat} {sa sv : Nat → Nat} (C : zC p l s m args meth c D cy B kd n sa sv RX10 cX10_needNames 3) (ht : ∀ x ∈ c.exceptionTable.toList, False) (hr : meth.sig.returnType = none) {b0 : (Nat ⊕ Unit) × Mem} (N : Nat) (v0 : Nat) (v1 : Nat) (fu : Nat) (hfu : fu ≤ 64) (v2 : Int32) (M : Mem) (h0 : kd v0 = 10) (h1 : kd v1 = 9)  : Z p l e (rmz 2 64) s m args below meth c (vx_MQ below (QcR D cy B kd n (xVc b0)) (XcR D cy B kd n (xVc b0)) args s 64 (6 * 64) (AA B kd n)) D cy B kd n 3 b0 0 2 [(0, .ref (B + v0)), (1, .ref (B + v1)), (2, .int v2)] [] M (fX10_needNames_l2 N v0 v1 fu v2 M) := z_fX10_needNames_l2_i C ht hr N v0 v1 h0 h1 fu 0 (by omega) v2 M
set_option maxHeartbeats 4000000 in
set_option maxRecDepth 100000 in
theorem ctX10_needNames {l : Launch} {D : va_G} {cy : Nat → ClassId} {B : Nat} {kd : Nat → Nat} {n : Nat} {sa sv : Nat → Nat} (G : zG l kd n) (N : Nat) (v0 : Nat) (v1 : Nat) (h0 : kd v0 = 10) (h1 : kd v1 = 9) (M : Mem) : CT l D cy B kd n sa sv 2 64 yX10_needNames cX10_needNames 3 (none) xVc [.ref (B + v0), .ref (B + v1)] M (fX10_needNames N v0 v1 M) := by
  refine ct_of (by decide) G.1 G.2 (Nat.le_of_ble_eq_true rfl) (ls := [(0, .ref (B + v0)), (1, .ref (B + v1))]) rfl ?_
  intro p e s m args below meth c b0 C ht hr
  unfold fX10_needNames
  refine z_iconst C dX10_needNames_0 rfl ?_
  refine z_istore_n C 2 (ls1 := [(2, .int (0 : Int32)), (0, .ref (B + v0)), (1, .ref (B + v1))]) dX10_needNames_1 rfl (by decide) rfl ?_
  exact z_jump (ls1 := [(0, .ref (B + v0)), (1, .ref (B + v1)), (2, .int (0 : Int32))]) (Nat.le_of_ble_eq_true rfl) [1, 2, 0] rfl (z_fX10_needNames_l2 C ht hr N v0 v1 64 (Nat.le_refl 64) (0 : Int32) M h0 h1)
set_option maxHeartbeats 4000000 in
set_option maxRecDepth 100000 in
theorem ctX10_solve {l : Launch} {D : va_G} {cy : Nat → ClassId} {B : Nat} {kd : Nat → Nat} {n : Nat} {sa sv : Nat → Nat} (G : zG l kd n) (N : Nat) (v0 : Nat) (v1 : Int32) (v2 : Int32) (h0 : kd v0 = 10) (M : Mem) : CT l D cy B kd n sa sv 4 69 yX10_solve cX10_solve 5 (some (FieldType.int)) xIc [.ref (B + v0), .int v1, .int v2] M (fX10_solve N v0 v1 v2 M) := by
  refine ct_of (by decide) G.1 G.2 (Nat.le_of_ble_eq_true rfl) (ls := [(0, .ref (B + v0)), (1, .int v1), (2, .int v2)]) rfl ?_
  intro p e s m args below meth c b0 C ht hr
  unfold fX10_solve
  refine z_aload_n C 0 0 dX10_solve_0 rfl rfl ?_
  refine z_iload_n C 1 1 dX10_solve_1 rfl rfl ?_
  refine z_callXV_A (As := [.int v1]) (rest := []) C cvX_I ht rfl (ctX10_rowAt (zG_of C) v0 v1 h0 M) cw_RX10_167 rfl (okM_X10_rowAt) rfl cl10 h0 (okR_of rfl) (Nat.le_of_ble_eq_true rfl) (Nat.le_of_ble_eq_true rfl) dX10_solve_2 (fun qj1 Mj1 hEj1 => ?_)
  have hqj1 : kd qj1 = 5 := kdX10_rowAt (zG_of C) h0 hEj1
  refine z_astore_n C 3 (ls1 := [(3, .ref (B + qj1)), (0, .ref (B + v0)), (1, .int v1), (2, .int v2)]) dX10_solve_5 rfl (by decide) rfl ?_
  refine z_aload_n C 0 1 dX10_solve_6 rfl rfl ?_
  refine z_iload_n C 2 3 dX10_solve_7 rfl rfl ?_
  refine z_callXV_A (As := [.int v2]) (rest := []) C cvX_I ht rfl (ctX10_trayAt (zG_of C) v0 v2 h0 Mj1) cw_RX10_285 rfl (okM_X10_trayAt) rfl cl10 h0 (okR_of rfl) (Nat.le_of_ble_eq_true rfl) (Nat.le_of_ble_eq_true rfl) dX10_solve_8 (fun qj2 Mj2 hEj2 => ?_)
  have hqj2 : kd qj2 = 9 := kdX10_trayAt (zG_of C) h0 hEj2
  refine z_astore C 4 (ls1 := [(4, .ref (B + qj2)), (3, .ref (B + qj1)), (0, .ref (B + v0)), (1, .int v1), (2, .int v2)]) dX10_solve_11 (by decide) rfl ?_
  refine z_aload_n C 3 1 dX10_solve_13 rfl rfl ?_
  refine z_iconst C dX10_solve_14 rfl ?_
  refine z_callXS_V (As := [.ref (B + qj1), .int (4 : Int32)]) (rest := []) C cvX_I ht rfl (ctX10_needKind (zG_of C) qj1 (4 : Int32) hqj1 Mj2) cw_RX10_213 (okM_X10_needKind) rfl (okR_of rfl) (Nat.le_of_ble_eq_true rfl) (Nat.le_of_ble_eq_true rfl) dX10_solve_15 (fun qj3 Mj3 hEj3 => ?_)
  refine z_aload C 0 dX10_solve_18 rfl ?_
  refine z_callXS_V (As := [.ref (B + qj2)]) (rest := []) C cvX_I ht rfl (ctX10_needFilled (zG_of C) qj2 hqj2 Mj3) cw_RX10_289 (okM_X10_needFilled) rfl (okR_of rfl) (Nat.le_of_ble_eq_true rfl) (Nat.le_of_ble_eq_true rfl) dX10_solve_20 (fun qj4 Mj4 hEj4 => ?_)
  refine z_aload_n C 0 2 dX10_solve_23 rfl rfl ?_
  refine z_aload C 0 dX10_solve_24 rfl ?_
  refine z_callXV_V (As := [.ref (B + qj2)]) (rest := []) C cvX_I ht rfl (ctX10_needNames (zG_of C) N v0 qj2 h0 hqj2 Mj4) cw_RX10_293 rfl (okM_X10_needNames) rfl cl10 h0 (okR_of rfl) (Nat.le_of_ble_eq_true rfl) (Nat.le_of_ble_eq_true rfl) dX10_solve_26 (fun qj5 Mj5 hEj5 => ?_)
  refine z_aload C 0 dX10_solve_29 rfl ?_
  refine z_callV_pB (As := []) (rest := []) C rfl (ctX9_hasTwoAlike (zG_of C) N qj2 hqj2 Mj5) cw_RX10_296 rfl (okM_X9_hasTwoAlike) rfl cl9 hqj2 (okR_of rfl) (Nat.le_of_ble_eq_true rfl) dX10_solve_31 (fun qj6 _ => ?_)
  refine z_if_eqB C 48 dX10_solve_34 rfl (fun _ => ?_) (fun _ => ?_)
  · exact z_throwW C cvX_I ht ex3 gw_2_236 gw_3_39 (i := 26) rfl ⟨Nat.le_of_ble_eq_true rfl, Nat.le_of_ble_eq_true rfl, Nat.le_of_ble_eq_true rfl, Nat.le_of_ble_eq_true rfl⟩ (Nat.le_of_ble_eq_true rfl) (Nat.le_of_ble_eq_true rfl) dX10_solve_37 dX10_solve_40 dX10_solve_41 dX10_solve_44 dX10_solve_47
  · refine z_aload_n C 0 2 dX10_solve_48 rfl rfl ?_
    refine z_getR (k := 10) C cl10 h0 rfl gw_2_170 rfl dX10_solve_49 ?_
    have j7 : kd (v0 + 126) = 8 := zkd C h0 (k := 10) rfl
    refine z_aload_n C 3 1 dX10_solve_52 rfl rfl ?_
    refine z_aload_n C 0 2 dX10_solve_53 rfl rfl ?_
    refine z_getR (k := 4) C cl10 h0 rfl gw_2_164 rfl dX10_solve_54 ?_
    have j8 : kd (v0 + 1) = 7 := zkd C h0 (k := 4) rfl
    refine z_getR (k := 0) C cl7 j8 rfl gw_1_175 rfl dX10_solve_57 ?_
    have j9 : kd ((v0 + 1) + 1) = 6 := zkd C j8 (k := 0) rfl
    refine z_aload C 0 dX10_solve_60 rfl ?_
    refine z_callV_B (As := [.ref (B + qj1), .ref (B + ((v0 + 1) + 1)), .ref (B + qj2)]) (rest := []) C rfl (ctX8_solveFor (zG_of C) N (v0 + 126) qj1 ((v0 + 1) + 1) qj2 j7 hqj1 j9 hqj2 Mj5) cw_RX10_301 rfl (okM_X8_solveFor) rfl cl8 j7 (okR_of rfl) (Nat.le_of_ble_eq_true rfl) dX10_solve_62 (fun qj10 _ => ?_)
    refine z_if_eqB C 76 dX10_solve_65 rfl (fun _ => ?_) (fun _ => ?_)
    · refine z_aload C 0 dX10_solve_68 rfl ?_
      refine z_getI (k := 1) C cl9 hqj2 rfl gw_1_212 rfl dX10_solve_70 ?_
      refine z_goto C 77 dX10_solve_73 rfl ?_
      exact z_iret C hr (Nat.le_of_ble_eq_true rfl) dX10_solve_77 rfl
    · refine z_iconst C dX10_solve_76 rfl ?_
      exact z_iret C hr (Nat.le_of_ble_eq_true rfl) dX10_solve_77 rfl
set_option maxHeartbeats 4000000 in
set_option maxRecDepth 100000 in
theorem z_fX10_countLies_b47 {p : Program} {l : Launch} {e : Env} {s : State} {m : MethodId} {args : Array Value} {below : List Frame} {meth : Method} {c : Code} {D : va_G} {cy : Nat → ClassId} {B : Nat} {kd : Nat → Nat} {n : Nat} {sa sv : Nat → Nat} (C : zC p l s m args meth c D cy B kd n sa sv RX10 cX10_countLies 4) (ht : ∀ x ∈ c.exceptionTable.toList, False) (hr : meth.sig.returnType = some (FieldType.int)) {b0 : Int32 × Mem}  (N : Nat) (k4 : Int32 → Int32 → Mem → Option (Int32 × Mem)) (v0 : Nat) (v1 : Nat) (v2 : Int32) (v3 : Int32) (M : Mem) (h0 : kd v0 = 10) (h1 : kd v1 = 5) (hk4 : ∀ (v2 : Int32) (v3 : Int32) (M : Mem), Z p l e (rmz 4 0) s m args below meth c (vx_MQ below (QcR D cy B kd n (cvI b0)) (XcR D cy B kd n (cvI b0)) args s 0 (6 * 0) (AA B kd n)) D cy B kd n 4 b0 0 4 [(0, .ref (B + v0)), (1, .ref (B + v1)), (2, .int v2), (3, .int v3)] [] M (k4 v2 v3 M)) : Z p l e (rmz 4 0) s m args below meth c (vx_MQ below (QcR D cy B kd n (cvI b0)) (XcR D cy B kd n (cvI b0)) args s 0 (6 * 0) (AA B kd n)) D cy B kd n 4 b0 0 47 [(0, .ref (B + v0)), (1, .ref (B + v1)), (2, .int v2), (3, .int v3)] [] M (fX10_countLies_b47 N k4 v0 v1 v2 v3 M) := by
  unfold fX10_countLies_b47
  refine z_iinc C 3 3 (v := v3) (v1 := (v3 + (1 : Int32))) (ls1 := [(3, .int (v3 + (1 : Int32))), (0, .ref (B + v0)), (1, .ref (B + v1)), (2, .int v2)]) dX10_countLies_47 rfl rfl (by decide) rfl ?_
  refine z_goto C 4 dX10_countLies_50 rfl ?_
  exact z_jump (ls1 := [(0, .ref (B + v0)), (1, .ref (B + v1)), (2, .int v2), (3, .int (v3 + (1 : Int32)))]) (Nat.le_of_ble_eq_true rfl) [1, 2, 3, 0] rfl (hk4 v2 (v3 + (1 : Int32)) M)
set_option maxHeartbeats 4000000 in
set_option maxRecDepth 100000 in
theorem z_fX10_countLies_l4_s {p : Program} {l : Launch} {e : Env} {s : State} {m : MethodId} {args : Array Value} {below : List Frame} {meth : Method} {c : Code} {D : va_G} {cy : Nat → ClassId} {B : Nat} {kd : Nat → Nat} {n : Nat} {sa sv : Nat → Nat} (C : zC p l s m args meth c D cy B kd n sa sv RX10 cX10_countLies 4) (ht : ∀ x ∈ c.exceptionTable.toList, False) (hr : meth.sig.returnType = some (FieldType.int)) {b0 : Int32 × Mem} (N : Nat) (v0 : Nat) (v1 : Nat) (k4 : Int32 → Int32 → Mem → Option (Int32 × Mem)) (v2 : Int32) (v3 : Int32) (M : Mem) (h0 : kd v0 = 10) (h1 : kd v1 = 5)  (hk4 : ∀ (v2 : Int32) (v3 : Int32) (M : Mem), Z p l e (rmz 4 0) s m args below meth c (vx_MQ below (QcR D cy B kd n (cvI b0)) (XcR D cy B kd n (cvI b0)) args s 0 (6 * 0) (AA B kd n)) D cy B kd n 4 b0 0 4 [(0, .ref (B + v0)), (1, .ref (B + v1)), (2, .int v2), (3, .int v3)] [] M (k4 v2 v3 M)) : Z p l e (rmz 4 0) s m args below meth c (vx_MQ below (QcR D cy B kd n (cvI b0)) (XcR D cy B kd n (cvI b0)) args s 0 (6 * 0) (AA B kd n)) D cy B kd n 4 b0 0 4 [(0, .ref (B + v0)), (1, .ref (B + v1)), (2, .int v2), (3, .int v3)] [] M (fX10_countLies_l4_s N v0 v1 k4 v2 v3 M) := by
  unfold fX10_countLies_l4_s
  refine z_iload_n C 3 3 dX10_countLies_4 rfl rfl ?_
  refine z_aload_n C 0 0 dX10_countLies_5 rfl rfl ?_
  refine z_getR (k := 4) C cl10 h0 rfl gw_2_164 rfl dX10_countLies_6 ?_
  have j1 : kd (v0 + 1) = 7 := zkd C h0 (k := 4) rfl
  refine z_getR (k := 0) C cl7 j1 rfl gw_1_175 rfl dX10_countLies_9 ?_
  have j2 : kd ((v0 + 1) + 1) = 6 := zkd C j1 (k := 0) rfl
  refine z_getI (k := 1) C cl6 j2 rfl gw_1_56 rfl dX10_countLies_12 ?_
  refine z_icmp_ge C 53 dX10_countLies_15 rfl (fun _ => ?_) (fun _ => ?_)
  · refine z_iload_n C 2 2 dX10_countLies_53 rfl rfl ?_
    exact z_iret C hr (Nat.le_of_ble_eq_true rfl) dX10_countLies_54 rfl
  · refine z_aload_n C 1 1 dX10_countLies_18 rfl rfl ?_
    refine z_getR (k := 8) C cl5 h1 rfl gw_1_151 rfl dX10_countLies_19 ?_
    have j3 : kd (v1 + 1) = 2 := zkd C h1 (k := 8) rfl
    refine z_iload_n C 3 3 dX10_countLies_22 rfl rfl ?_
    refine z_callV_pB (As := [.int v3]) (rest := []) C rfl (ctX2_has (zG_of C) (v1 + 1) v3 j3 M) cw_RX10_227 rfl (okM_X2_has) rfl cl2 j3 (okR_of rfl) (Nat.le_of_ble_eq_true rfl) dX10_countLies_23 (fun qj4 _ => ?_)
    refine z_if_neB C 47 dX10_countLies_26 rfl (fun _ => ?_) (fun _ => ?_)
    · exact z_jump (ls1 := [(0, .ref (B + v0)), (1, .ref (B + v1)), (2, .int v2), (3, .int v3)]) (Nat.le_of_ble_eq_true rfl) [0, 1, 2, 3] rfl (z_fX10_countLies_b47 C ht hr N k4 v0 v1 v2 v3 M h0 h1 hk4)
    · refine z_aload_n C 1 1 dX10_countLies_29 rfl rfl ?_
      refine z_aload_n C 0 0 dX10_countLies_30 rfl rfl ?_
      refine z_getR (k := 4) C cl10 h0 rfl gw_2_164 rfl dX10_countLies_31 ?_
      have j5 : kd (v0 + 1) = 7 := zkd C h0 (k := 4) rfl
      refine z_getR (k := 0) C cl7 j5 rfl gw_1_175 rfl dX10_countLies_34 ?_
      have j6 : kd ((v0 + 1) + 1) = 6 := zkd C j5 (k := 0) rfl
      refine z_iload_n C 3 3 dX10_countLies_37 rfl rfl ?_
      refine z_callV_B (As := [.ref (B + ((v0 + 1) + 1)), .int v3]) (rest := []) C rfl (ctX5_says (zG_of C) N v1 ((v0 + 1) + 1) v3 h1 j6 M) cw_RX10_223 rfl (okM_X5_says) rfl cl5 h1 (okR_of rfl) (Nat.le_of_ble_eq_true rfl) dX10_countLies_38 (fun qj7 _ => ?_)
      refine z_if_eqB C 47 dX10_countLies_41 rfl (fun _ => ?_) (fun _ => ?_)
      · refine z_iinc C 2 2 (v := v2) (v1 := (v2 + (1 : Int32))) (ls1 := [(2, .int (v2 + (1 : Int32))), (0, .ref (B + v0)), (1, .ref (B + v1)), (3, .int v3)]) dX10_countLies_44 rfl rfl (by decide) rfl ?_
        exact z_jump (ls1 := [(0, .ref (B + v0)), (1, .ref (B + v1)), (2, .int (v2 + (1 : Int32))), (3, .int v3)]) (Nat.le_of_ble_eq_true rfl) [1, 2, 0, 3] rfl (z_fX10_countLies_b47 C ht hr N k4 v0 v1 (v2 + (1 : Int32)) v3 qj7.2 h0 h1 hk4)
      · exact z_jump (ls1 := [(0, .ref (B + v0)), (1, .ref (B + v1)), (2, .int v2), (3, .int v3)]) (Nat.le_of_ble_eq_true rfl) [0, 1, 2, 3] rfl (z_fX10_countLies_b47 C ht hr N k4 v0 v1 v2 v3 qj7.2 h0 h1 hk4)
theorem z_fX10_countLies_l4_i {p : Program} {l : Launch} {e : Env} {s : State} {m : MethodId} {args : Array Value} {below : List Frame} {meth : Method} {c : Code} {D : va_G} {cy : Nat → ClassId} {B : Nat} {kd : Nat → Nat} {n : Nat} {sa sv : Nat → Nat} (C : zC p l s m args meth c D cy B kd n sa sv RX10 cX10_countLies 4) (ht : ∀ x ∈ c.exceptionTable.toList, False) (hr : meth.sig.returnType = some (FieldType.int)) {b0 : Int32 × Mem} (N : Nat) (v0 : Nat) (v1 : Nat) (h0 : kd v0 = 10) (h1 : kd v1 = 5)  (fu : Nat) : ∀ (v2 : Int32) (v3 : Int32) (M : Mem), Z p l e (rmz 4 0) s m args below meth c (vx_MQ below (QcR D cy B kd n (cvI b0)) (XcR D cy B kd n (cvI b0)) args s 0 (6 * 0) (AA B kd n)) D cy B kd n 4 b0 0 4 [(0, .ref (B + v0)), (1, .ref (B + v1)), (2, .int v2), (3, .int v3)] [] M (fX10_countLies_l4 N v0 v1 fu v2 v3 M) := by
  induction fu with
  | zero => intro v2 v3 M; exact z_none
  | succ fu ih => intro v2 v3 M; exact z_fX10_countLies_l4_s C ht hr N v0 v1 (fX10_countLies_l4 N v0 v1 fu) v2 v3 M h0 h1 (fun v2 v3 M => ih v2 v3 M)
theorem z_fX10_countLies_l4 {p : Program} {l : Launch} {e : Env} {s : State} {m : MethodId} {args : Array Value} {below : List Frame} {meth : Method} {c : Code} {D : va_G} {cy : Nat → ClassId} {B : Nat} {kd : Nat → Nat} {n : Nat} {sa sv : Nat → Nat} (C : zC p l s m args meth c D cy B kd n sa sv RX10 cX10_countLies 4) (ht : ∀ x ∈ c.exceptionTable.toList, False) (hr : meth.sig.returnType = some (FieldType.int)) {b0 : Int32 × Mem} (N : Nat) (v0 : Nat) (v1 : Nat) (fu : Nat) (v2 : Int32) (v3 : Int32) (M : Mem) (h0 : kd v0 = 10) (h1 : kd v1 = 5)  : Z p l e (rmz 4 0) s m args below meth c (vx_MQ below (QcR D cy B kd n (cvI b0)) (XcR D cy B kd n (cvI b0)) args s 0 (6 * 0) (AA B kd n)) D cy B kd n 4 b0 0 4 [(0, .ref (B + v0)), (1, .ref (B + v1)), (2, .int v2), (3, .int v3)] [] M (fX10_countLies_l4 N v0 v1 fu v2 v3 M) := z_fX10_countLies_l4_i C ht hr N v0 v1 h0 h1 fu v2 v3 M
set_option maxHeartbeats 4000000 in
set_option maxRecDepth 100000 in
theorem ctX10_countLies {l : Launch} {D : va_G} {cy : Nat → ClassId} {B : Nat} {kd : Nat → Nat} {n : Nat} {sa sv : Nat → Nat} (G : zG l kd n) (N : Nat) (v0 : Nat) (v1 : Nat) (h0 : kd v0 = 10) (h1 : kd v1 = 5) (M : Mem) : CT l D cy B kd n sa sv 4 0 yX10_countLies cX10_countLies 4 (some (FieldType.int)) cvI [.ref (B + v0), .ref (B + v1)] M (fX10_countLies N v0 v1 M) := by
  refine ct_of (by decide) G.1 G.2 (Nat.le_of_ble_eq_true rfl) (ls := [(0, .ref (B + v0)), (1, .ref (B + v1))]) rfl ?_
  intro p e s m args below meth c b0 C ht hr
  unfold fX10_countLies
  refine z_iconst C dX10_countLies_0 rfl ?_
  refine z_istore_n C 2 (ls1 := [(2, .int (0 : Int32)), (0, .ref (B + v0)), (1, .ref (B + v1))]) dX10_countLies_1 rfl (by decide) rfl ?_
  refine z_iconst C dX10_countLies_2 rfl ?_
  refine z_istore_n C 3 (ls1 := [(3, .int (0 : Int32)), (2, .int (0 : Int32)), (0, .ref (B + v0)), (1, .ref (B + v1))]) dX10_countLies_3 rfl (by decide) rfl ?_
  exact z_jump (ls1 := [(0, .ref (B + v0)), (1, .ref (B + v1)), (2, .int (0 : Int32)), (3, .int (0 : Int32))]) (Nat.le_of_ble_eq_true rfl) [2, 3, 1, 0] rfl (z_fX10_countLies_l4 C ht hr N v0 v1 N (0 : Int32) (0 : Int32) M h0 h1)
set_option maxHeartbeats 4000000 in
set_option maxRecDepth 100000 in
theorem z_fX10_commonDivisor_b35 {p : Program} {l : Launch} {e : Env} {s : State} {m : MethodId} {args : Array Value} {below : List Frame} {meth : Method} {c : Code} {D : va_G} {cy : Nat → ClassId} {B : Nat} {kd : Nat → Nat} {n : Nat} {sa sv : Nat → Nat} (C : zC p l s m args meth c D cy B kd n sa sv RX10 cX10_commonDivisor 6) (ht : ∀ x ∈ c.exceptionTable.toList, False) (hr : meth.sig.returnType = some (FieldType.int)) {b0 : Int32}  (N : Nat) (v2 : Int32) (Mo : Mem)  : Z p l e (rmz 0 0) s m args below meth c (vx_MQ below (QcR D cy B kd n ((pI Mo) b0)) (XcR D cy B kd n ((pI Mo) b0)) args s 0 (6 * 0) (AA B kd n)) D cy B kd n 6 b0 0 35 [(2, .int v2)] [] Mo (fX10_commonDivisor_b35 N v2 Mo) := by
  unfold fX10_commonDivisor_b35
  refine z_iload_n C 2 0 dX10_commonDivisor_35 rfl rfl ?_
  exact z_iret C hr (Nat.le_of_ble_eq_true rfl) dX10_commonDivisor_36 rfl
set_option maxHeartbeats 4000000 in
set_option maxRecDepth 100000 in
theorem z_fX10_commonDivisor_l7_s {p : Program} {l : Launch} {e : Env} {s : State} {m : MethodId} {args : Array Value} {below : List Frame} {meth : Method} {c : Code} {D : va_G} {cy : Nat → ClassId} {B : Nat} {kd : Nat → Nat} {n : Nat} {sa sv : Nat → Nat} (C : zC p l s m args meth c D cy B kd n sa sv RX10 cX10_commonDivisor 6) (ht : ∀ x ∈ c.exceptionTable.toList, False) (hr : meth.sig.returnType = some (FieldType.int)) {b0 : Int32} {Mo : Mem} (N : Nat) (k7 : Int32 → Int32 → Int32 → Option Int32) (v2 : Int32) (v3 : Int32) (v4 : Int32)  (hk7 : ∀ (v2 : Int32) (v3 : Int32) (v4 : Int32), Z p l e (rmz 0 0) s m args below meth c (vx_MQ below (QcR D cy B kd n ((pI Mo) b0)) (XcR D cy B kd n ((pI Mo) b0)) args s 0 (6 * 0) (AA B kd n)) D cy B kd n 6 b0 0 7 [(2, .int v2), (3, .int v3), (4, .int v4)] [] Mo (k7 v2 v3 v4)) : Z p l e (rmz 0 0) s m args below meth c (vx_MQ below (QcR D cy B kd n ((pI Mo) b0)) (XcR D cy B kd n ((pI Mo) b0)) args s 0 (6 * 0) (AA B kd n)) D cy B kd n 6 b0 0 7 [(2, .int v2), (3, .int v3), (4, .int v4)] [] Mo (fX10_commonDivisor_l7_s N Mo k7 v2 v3 v4) := by
  unfold fX10_commonDivisor_l7_s
  refine z_iload C 2 dX10_commonDivisor_7 rfl ?_
  refine z_sipush (v := 256) C dX10_commonDivisor_9 rfl ?_
  refine z_icmp_ge C 35 dX10_commonDivisor_12 rfl (fun _ => ?_) (fun _ => ?_)
  · exact z_jump (ls1 := [(2, .int v2)]) (Nat.le_of_ble_eq_true rfl) [0] rfl (z_fX10_commonDivisor_b35 C ht hr N v2 Mo)
  · refine z_iload_n C 3 1 dX10_commonDivisor_15 rfl rfl ?_
    refine z_if_eq C 35 dX10_commonDivisor_16 rfl (fun _ => ?_) (fun _ => ?_)
    · exact z_jump (ls1 := [(2, .int v2)]) (Nat.le_of_ble_eq_true rfl) [0] rfl (z_fX10_commonDivisor_b35 C ht hr N v2 Mo)
    · refine z_iload_n C 2 0 dX10_commonDivisor_19 rfl rfl ?_
      refine z_iload_n C 3 1 dX10_commonDivisor_20 rfl rfl ?_
      refine z_irem C dX10_commonDivisor_21 (fun _ => ?_)
      refine z_istore C 5 (ls1 := [(5, .int (remI v2 v3)), (2, .int v2), (3, .int v3), (4, .int v4)]) dX10_commonDivisor_22 (by decide) rfl ?_
      refine z_iload_n C 3 2 dX10_commonDivisor_24 rfl rfl ?_
      refine z_istore_n C 2 (ls1 := [(2, .int v3), (5, .int (remI v2 v3)), (3, .int v3), (4, .int v4)]) dX10_commonDivisor_25 rfl (by decide) rfl ?_
      refine z_iload C 1 dX10_commonDivisor_26 rfl ?_
      refine z_istore_n C 3 (ls1 := [(3, .int (remI v2 v3)), (2, .int v3), (5, .int (remI v2 v3)), (4, .int v4)]) dX10_commonDivisor_28 rfl (by decide) rfl ?_
      refine z_iinc C 4 3 (v := v4) (v1 := (v4 + (1 : Int32))) (ls1 := [(4, .int (v4 + (1 : Int32))), (3, .int (remI v2 v3)), (2, .int v3), (5, .int (remI v2 v3))]) dX10_commonDivisor_29 rfl rfl (by decide) rfl ?_
      refine z_goto C 7 dX10_commonDivisor_32 rfl ?_
      exact z_jump (ls1 := [(2, .int v3), (3, .int (remI v2 v3)), (4, .int (v4 + (1 : Int32)))]) (Nat.le_of_ble_eq_true rfl) [2, 1, 0] rfl (hk7 v3 (remI v2 v3) (v4 + (1 : Int32)))
theorem z_fX10_commonDivisor_l7_i {p : Program} {l : Launch} {e : Env} {s : State} {m : MethodId} {args : Array Value} {below : List Frame} {meth : Method} {c : Code} {D : va_G} {cy : Nat → ClassId} {B : Nat} {kd : Nat → Nat} {n : Nat} {sa sv : Nat → Nat} (C : zC p l s m args meth c D cy B kd n sa sv RX10 cX10_commonDivisor 6) (ht : ∀ x ∈ c.exceptionTable.toList, False) (hr : meth.sig.returnType = some (FieldType.int)) {b0 : Int32} {Mo : Mem} (N : Nat)  (fu : Nat) : ∀ (v2 : Int32) (v3 : Int32) (v4 : Int32), Z p l e (rmz 0 0) s m args below meth c (vx_MQ below (QcR D cy B kd n ((pI Mo) b0)) (XcR D cy B kd n ((pI Mo) b0)) args s 0 (6 * 0) (AA B kd n)) D cy B kd n 6 b0 0 7 [(2, .int v2), (3, .int v3), (4, .int v4)] [] Mo (fX10_commonDivisor_l7 N Mo fu v2 v3 v4) := by
  induction fu with
  | zero => intro v2 v3 v4; exact z_none
  | succ fu ih => intro v2 v3 v4; exact z_fX10_commonDivisor_l7_s C ht hr N (fX10_commonDivisor_l7 N Mo fu) v2 v3 v4 (fun v2 v3 v4 => ih v2 v3 v4)
theorem z_fX10_commonDivisor_l7 {p : Program} {l : Launch} {e : Env} {s : State} {m : MethodId} {args : Array Value} {below : List Frame} {meth : Method} {c : Code} {D : va_G} {cy : Nat → ClassId} {B : Nat} {kd : Nat → Nat} {n : Nat} {sa sv : Nat → Nat} (C : zC p l s m args meth c D cy B kd n sa sv RX10 cX10_commonDivisor 6) (ht : ∀ x ∈ c.exceptionTable.toList, False) (hr : meth.sig.returnType = some (FieldType.int)) {b0 : Int32} {Mo : Mem} (N : Nat) (fu : Nat) (v2 : Int32) (v3 : Int32) (v4 : Int32)  : Z p l e (rmz 0 0) s m args below meth c (vx_MQ below (QcR D cy B kd n ((pI Mo) b0)) (XcR D cy B kd n ((pI Mo) b0)) args s 0 (6 * 0) (AA B kd n)) D cy B kd n 6 b0 0 7 [(2, .int v2), (3, .int v3), (4, .int v4)] [] Mo (fX10_commonDivisor_l7 N Mo fu v2 v3 v4) := z_fX10_commonDivisor_l7_i C ht hr N fu v2 v3 v4
set_option maxHeartbeats 4000000 in
set_option maxRecDepth 100000 in
theorem ctX10_commonDivisor {l : Launch} {D : va_G} {cy : Nat → ClassId} {B : Nat} {kd : Nat → Nat} {n : Nat} {sa sv : Nat → Nat} (G : zG l kd n) (N : Nat) (v0 : Int32) (v1 : Int32)  (Mo : Mem) : CT l D cy B kd n sa sv 0 0 yX10_commonDivisor cX10_commonDivisor 6 (some (FieldType.int)) (pI Mo) [.int v0, .int v1] Mo (fX10_commonDivisor N v0 v1 Mo) := by
  refine ct_of (by decide) G.1 G.2 (Nat.le_of_ble_eq_true rfl) (ls := [(0, .int v0), (1, .int v1)]) rfl ?_
  intro p e s m args below meth c b0 C ht hr
  unfold fX10_commonDivisor
  refine z_iload_n C 0 0 dX10_commonDivisor_0 rfl rfl ?_
  refine z_istore_n C 2 (ls1 := [(2, .int v0), (0, .int v0), (1, .int v1)]) dX10_commonDivisor_1 rfl (by decide) rfl ?_
  refine z_iload_n C 1 2 dX10_commonDivisor_2 rfl rfl ?_
  refine z_istore_n C 3 (ls1 := [(3, .int v1), (2, .int v0), (0, .int v0), (1, .int v1)]) dX10_commonDivisor_3 rfl (by decide) rfl ?_
  refine z_iconst C dX10_commonDivisor_4 rfl ?_
  refine z_istore C 4 (ls1 := [(4, .int (0 : Int32)), (3, .int v1), (2, .int v0), (0, .int v0), (1, .int v1)]) dX10_commonDivisor_5 (by decide) rfl ?_
  exact z_jump (ls1 := [(2, .int v0), (3, .int v1), (4, .int (0 : Int32))]) (Nat.le_of_ble_eq_true rfl) [2, 1, 0] rfl (z_fX10_commonDivisor_l7 C ht hr N N v0 v1 (0 : Int32))
set_option maxHeartbeats 4000000 in
set_option maxRecDepth 100000 in
theorem z_fX10_lying_b72 {p : Program} {l : Launch} {e : Env} {s : State} {m : MethodId} {args : Array Value} {below : List Frame} {meth : Method} {c : Code} {D : va_G} {cy : Nat → ClassId} {B : Nat} {kd : Nat → Nat} {n : Nat} {sa sv : Nat → Nat} (C : zC p l s m args meth c D cy B kd n sa sv RX10 cX10_lying 6) (ht : ∀ x ∈ c.exceptionTable.toList, False) (hr : meth.sig.returnType = some (FieldType.boolean)) {b0 : (Nat ⊕ Bool) × Mem}  (N : Nat) (v4 : Int32) (s0 : Int32) (s1 : Nat) (M : Mem) (hs1 : kd s1 = 10)  : Z p l e (rmz 5 1) s m args below meth c (vx_MQ below (QcR D cy B kd n (xBc b0)) (XcR D cy B kd n (xBc b0)) args s 1 (6 * 1) (AA B kd n)) D cy B kd n 6 b0 1 72 [(4, .int v4)] [.int s0, .ref (B + s1)] M (fX10_lying_b72 N v4 s0 s1 M) := by
  unfold fX10_lying_b72
  refine z_putI (k := 3) C cl10 hs1 rfl gw_2_163 rfl rfl rfl dX10_lying_72 ?_
  refine z_iload C 0 dX10_lying_75 rfl ?_
  refine z_if_eq C 84 dX10_lying_77 rfl (fun _ => ?_) (fun _ => ?_)
  · refine z_iconst C dX10_lying_84 rfl ?_
    exact z_zret C (v := false) hr (Nat.le_of_ble_eq_true rfl) dX10_lying_85 rfl
  · refine z_iconst C dX10_lying_80 rfl ?_
    refine z_goto C 85 dX10_lying_81 rfl ?_
    exact z_zret C (v := true) hr (Nat.le_of_ble_eq_true rfl) dX10_lying_85 rfl
set_option maxHeartbeats 4000000 in
set_option maxRecDepth 100000 in
theorem z_fX10_lying_b54 {p : Program} {l : Launch} {e : Env} {s : State} {m : MethodId} {args : Array Value} {below : List Frame} {meth : Method} {c : Code} {D : va_G} {cy : Nat → ClassId} {B : Nat} {kd : Nat → Nat} {n : Nat} {sa sv : Nat → Nat} (C : zC p l s m args meth c D cy B kd n sa sv RX10 cX10_lying 6) (ht : ∀ x ∈ c.exceptionTable.toList, False) (hr : meth.sig.returnType = some (FieldType.boolean)) {b0 : (Nat ⊕ Bool) × Mem}  (N : Nat) (v0 : Nat) (v4 : Int32) (v5 : Int32) (s0 : Int32) (s1 : Nat) (M : Mem) (h0 : kd v0 = 10) (hs1 : kd s1 = 10)  : Z p l e (rmz 5 1) s m args below meth c (vx_MQ below (QcR D cy B kd n (xBc b0)) (XcR D cy B kd n (xBc b0)) args s 1 (6 * 1) (AA B kd n)) D cy B kd n 6 b0 1 54 [(0, .ref (B + v0)), (4, .int v4), (5, .int v5)] [.int s0, .ref (B + s1)] M (fX10_lying_b54 N v0 v4 v5 s0 s1 M) := by
  unfold fX10_lying_b54
  refine z_putI (k := 2) C cl10 hs1 rfl gw_2_162 rfl rfl rfl dX10_lying_54 ?_
  refine z_aload_n C 0 0 dX10_lying_57 rfl rfl ?_
  refine z_iload C 2 dX10_lying_58 rfl ?_
  refine z_if_ne C 67 dX10_lying_60 rfl (fun _ => ?_) (fun _ => ?_)
  · refine z_iconst C dX10_lying_63 rfl ?_
    refine z_goto C 72 dX10_lying_64 rfl ?_
    exact z_jump (ls1 := [(4, .int v4)]) (Nat.le_of_ble_eq_true rfl) [1] rfl (z_fX10_lying_b72 C ht hr N v4 (0 : Int32) v0 (wI M s1 2 s0) h0)
  · refine z_iload C 1 dX10_lying_67 rfl ?_
    refine z_iload C 2 dX10_lying_69 rfl ?_
    refine z_idiv C dX10_lying_71 (fun _ => ?_)
    exact z_jump (ls1 := [(4, .int v4)]) (Nat.le_of_ble_eq_true rfl) [1] rfl (z_fX10_lying_b72 C ht hr N v4 (v4 / v5) v0 (wI M s1 2 s0) h0)
set_option maxHeartbeats 4000000 in
set_option maxRecDepth 100000 in
theorem ctX10_lying {l : Launch} {D : va_G} {cy : Nat → ClassId} {B : Nat} {kd : Nat → Nat} {n : Nat} {sa sv : Nat → Nat} (G : zG l kd n) (N : Nat) (v0 : Nat) (v1 : Int32) (h0 : kd v0 = 10) (M : Mem) : CT l D cy B kd n sa sv 5 1 yX10_lying cX10_lying 6 (some (FieldType.boolean)) xBc [.ref (B + v0), .int v1] M (fX10_lying N v0 v1 M) := by
  refine ct_of (by decide) G.1 G.2 (Nat.le_of_ble_eq_true rfl) (ls := [(0, .ref (B + v0)), (1, .int v1)]) rfl ?_
  intro p e s m args below meth c b0 C ht hr
  unfold fX10_lying
  refine z_aload_n C 0 0 dX10_lying_0 rfl rfl ?_
  refine z_iload_n C 1 1 dX10_lying_1 rfl rfl ?_
  refine z_callXV_A (As := [.int v1]) (rest := []) C cvX_B ht rfl (ctX10_rowAt (zG_of C) v0 v1 h0 M) cw_RX10_167 rfl (okM_X10_rowAt) rfl cl10 h0 (okR_of rfl) (Nat.le_of_ble_eq_true rfl) (Nat.le_of_ble_eq_true rfl) dX10_lying_2 (fun qj1 Mj1 hEj1 => ?_)
  have hqj1 : kd qj1 = 5 := kdX10_rowAt (zG_of C) h0 hEj1
  refine z_astore_n C 2 (ls1 := [(2, .ref (B + qj1)), (0, .ref (B + v0)), (1, .int v1)]) dX10_lying_5 rfl (by decide) rfl ?_
  refine z_aload_n C 0 1 dX10_lying_6 rfl rfl ?_
  refine z_aload_n C 2 0 dX10_lying_7 rfl rfl ?_
  refine z_callV_I (As := [.ref (B + qj1)]) (rest := []) C rfl (ctX10_countLies (zG_of C) N v0 qj1 h0 hqj1 Mj1) cw_RX10_307 rfl (okM_X10_countLies) rfl cl10 h0 (okR_of rfl) (Nat.le_of_ble_eq_true rfl) dX10_lying_8 (fun qj2 _ => ?_)
  refine z_istore_n C 3 (ls1 := [(3, .int qj2.1), (2, .ref (B + qj1)), (0, .ref (B + v0)), (1, .int v1)]) dX10_lying_11 rfl (by decide) rfl ?_
  refine z_aload_n C 0 2 dX10_lying_12 rfl rfl ?_
  refine z_getR (k := 4) C cl10 h0 rfl gw_2_164 rfl dX10_lying_13 ?_
  have j3 : kd (v0 + 1) = 7 := zkd C h0 (k := 4) rfl
  refine z_getR (k := 0) C cl7 j3 rfl gw_1_175 rfl dX10_lying_16 ?_
  have j4 : kd ((v0 + 1) + 1) = 6 := zkd C j3 (k := 0) rfl
  refine z_getI (k := 1) C cl6 j4 rfl gw_1_56 rfl dX10_lying_19 ?_
  refine z_aload_n C 2 1 dX10_lying_22 rfl rfl ?_
  refine z_getR (k := 8) C cl5 hqj1 rfl gw_1_151 rfl dX10_lying_23 ?_
  have j5 : kd (qj1 + 1) = 2 := zkd C hqj1 (k := 8) rfl
  refine z_callV_pI (As := []) (rest := [.int (rI qj2.2 ((v0 + 1) + 1) 1)]) C rfl (ctX2_many (zG_of C) N (qj1 + 1) j5 qj2.2) cw_RX10_185 rfl (okM_X2_many) rfl cl2 j5 (okR_of rfl) (Nat.le_of_ble_eq_true rfl) dX10_lying_26 (fun qj6 _ => ?_)
  refine z_isub C dX10_lying_29 ?_
  refine z_istore C 4 (ls1 := [(4, .int ((rI qj2.2 ((v0 + 1) + 1) 1) - qj6)), (3, .int qj2.1), (2, .ref (B + qj1)), (0, .ref (B + v0)), (1, .int v1)]) dX10_lying_30 (by decide) rfl ?_
  refine z_iload_n C 3 1 dX10_lying_32 rfl rfl ?_
  refine z_iload C 0 dX10_lying_33 rfl ?_
  refine z_callS_pI (As := [.int qj2.1, .int ((rI qj2.2 ((v0 + 1) + 1) 1) - qj6)]) (rest := []) C rfl (ctX10_commonDivisor (zG_of C) N qj2.1 ((rI qj2.2 ((v0 + 1) + 1) 1) - qj6) qj2.2) cw_RX10_314 (okM_X10_commonDivisor) rfl (okR_of rfl) (Nat.le_of_ble_eq_true rfl) dX10_lying_35 (fun qj7 _ => ?_)
  refine z_istore C 5 (ls1 := [(5, .int qj7), (4, .int ((rI qj2.2 ((v0 + 1) + 1) 1) - qj6)), (3, .int qj2.1), (2, .ref (B + qj1)), (0, .ref (B + v0)), (1, .int v1)]) dX10_lying_38 (by decide) rfl ?_
  refine z_aload_n C 0 4 dX10_lying_40 rfl rfl ?_
  refine z_iload C 0 dX10_lying_41 rfl ?_
  refine z_if_ne C 50 dX10_lying_43 rfl (fun _ => ?_) (fun _ => ?_)
  · refine z_iconst C dX10_lying_46 rfl ?_
    refine z_goto C 54 dX10_lying_47 rfl ?_
    exact z_jump (ls1 := [(0, .ref (B + v0)), (4, .int ((rI qj2.2 ((v0 + 1) + 1) 1) - qj6)), (5, .int qj7)]) (Nat.le_of_ble_eq_true rfl) [4, 1, 0] rfl (z_fX10_lying_b54 C ht hr N v0 ((rI qj2.2 ((v0 + 1) + 1) 1) - qj6) qj7 (0 : Int32) v0 qj2.2 h0 h0)
  · refine z_iload_n C 3 2 dX10_lying_50 rfl rfl ?_
    refine z_iload C 0 dX10_lying_51 rfl ?_
    refine z_idiv C dX10_lying_53 (fun _ => ?_)
    exact z_jump (ls1 := [(0, .ref (B + v0)), (4, .int ((rI qj2.2 ((v0 + 1) + 1) 1) - qj6)), (5, .int qj7)]) (Nat.le_of_ble_eq_true rfl) [4, 1, 0] rfl (z_fX10_lying_b54 C ht hr N v0 ((rI qj2.2 ((v0 + 1) + 1) 1) - qj6) qj7 (qj2.1 / qj7) v0 qj2.2 h0 h0)
set_option maxHeartbeats 4000000 in
set_option maxRecDepth 100000 in
theorem z_fX10_isLie_b30 {p : Program} {l : Launch} {e : Env} {s : State} {m : MethodId} {args : Array Value} {below : List Frame} {meth : Method} {c : Code} {D : va_G} {cy : Nat → ClassId} {B : Nat} {kd : Nat → Nat} {n : Nat} {sa sv : Nat → Nat} (C : zC p l s m args meth c D cy B kd n sa sv RX10 cX10_isLie 3) (ht : ∀ x ∈ c.exceptionTable.toList, False) (hr : meth.sig.returnType = some (FieldType.boolean)) {b0 : Bool × Mem}  (N : Nat) (M : Mem)  : Z p l e (rmz 4 0) s m args below meth c (vx_MQ below (QcR D cy B kd n (cvB b0)) (XcR D cy B kd n (cvB b0)) args s 0 (6 * 0) (AA B kd n)) D cy B kd n 3 b0 0 30 [] [] M (fX10_isLie_b30 N M) := by
  unfold fX10_isLie_b30
  refine z_iconst C dX10_isLie_30 rfl ?_
  exact z_zret C (v := false) hr (Nat.le_of_ble_eq_true rfl) dX10_isLie_31 rfl
set_option maxHeartbeats 4000000 in
set_option maxRecDepth 100000 in
theorem ctX10_isLie {l : Launch} {D : va_G} {cy : Nat → ClassId} {B : Nat} {kd : Nat → Nat} {n : Nat} {sa sv : Nat → Nat} (G : zG l kd n) (N : Nat) (v0 : Nat) (v1 : Nat) (v2 : Int32) (h0 : kd v0 = 10) (h1 : kd v1 = 5) (M : Mem) : CT l D cy B kd n sa sv 4 0 yX10_isLie cX10_isLie 3 (some (FieldType.boolean)) cvB [.ref (B + v0), .ref (B + v1), .int v2] M (fX10_isLie N v0 v1 v2 M) := by
  refine ct_of (by decide) G.1 G.2 (Nat.le_of_ble_eq_true rfl) (ls := [(0, .ref (B + v0)), (1, .ref (B + v1)), (2, .int v2)]) rfl ?_
  intro p e s m args below meth c b0 C ht hr
  unfold fX10_isLie
  refine z_aload_n C 1 1 dX10_isLie_0 rfl rfl ?_
  refine z_getR (k := 8) C cl5 h1 rfl gw_1_151 rfl dX10_isLie_1 ?_
  have j1 : kd (v1 + 1) = 2 := zkd C h1 (k := 8) rfl
  refine z_iload_n C 2 2 dX10_isLie_4 rfl rfl ?_
  refine z_callV_pB (As := [.int v2]) (rest := []) C rfl (ctX2_has (zG_of C) (v1 + 1) v2 j1 M) cw_RX10_227 rfl (okM_X2_has) rfl cl2 j1 (okR_of rfl) (Nat.le_of_ble_eq_true rfl) dX10_isLie_5 (fun qj2 _ => ?_)
  refine z_if_neB C 30 dX10_isLie_8 rfl (fun _ => ?_) (fun _ => ?_)
  · exact z_jump (ls1 := []) (Nat.le_of_ble_eq_true rfl) [] rfl (z_fX10_isLie_b30 C ht hr N M)
  · refine z_aload_n C 1 1 dX10_isLie_11 rfl rfl ?_
    refine z_aload_n C 0 0 dX10_isLie_12 rfl rfl ?_
    refine z_getR (k := 4) C cl10 h0 rfl gw_2_164 rfl dX10_isLie_13 ?_
    have j3 : kd (v0 + 1) = 7 := zkd C h0 (k := 4) rfl
    refine z_getR (k := 0) C cl7 j3 rfl gw_1_175 rfl dX10_isLie_16 ?_
    have j4 : kd ((v0 + 1) + 1) = 6 := zkd C j3 (k := 0) rfl
    refine z_iload_n C 2 2 dX10_isLie_19 rfl rfl ?_
    refine z_callV_B (As := [.ref (B + ((v0 + 1) + 1)), .int v2]) (rest := []) C rfl (ctX5_says (zG_of C) N v1 ((v0 + 1) + 1) v2 h1 j4 M) cw_RX10_223 rfl (okM_X5_says) rfl cl5 h1 (okR_of rfl) (Nat.le_of_ble_eq_true rfl) dX10_isLie_20 (fun qj5 _ => ?_)
    refine z_if_eqB C 30 dX10_isLie_23 rfl (fun _ => ?_) (fun _ => ?_)
    · refine z_iconst C dX10_isLie_26 rfl ?_
      refine z_goto C 31 dX10_isLie_27 rfl ?_
      exact z_zret C (v := true) hr (Nat.le_of_ble_eq_true rfl) dX10_isLie_31 rfl
    · exact z_jump (ls1 := []) (Nat.le_of_ble_eq_true rfl) [] rfl (z_fX10_isLie_b30 C ht hr N qj5.2)
set_option maxHeartbeats 4000000 in
set_option maxRecDepth 100000 in
theorem ctX10_upper {l : Launch} {D : va_G} {cy : Nat → ClassId} {B : Nat} {kd : Nat → Nat} {n : Nat} {sa sv : Nat → Nat} (G : zG l kd n) (v0 : Nat) (h0 : kd v0 = 10) (Mo : Mem) : CT l D cy B kd n sa sv 0 0 yX10_upper cX10_upper 1 (some (FieldType.int)) (pI Mo) [.ref (B + v0)] Mo (fX10_upper v0 Mo) := by
  refine ct_of (by decide) G.1 G.2 (Nat.le_of_ble_eq_true rfl) (ls := [(0, .ref (B + v0))]) rfl ?_
  intro p e s m args below meth c b0 C ht hr
  unfold fX10_upper
  refine z_aload_n C 0 0 dX10_upper_0 rfl rfl ?_
  refine z_getI (k := 2) C cl10 h0 rfl gw_2_162 rfl dX10_upper_1 ?_
  exact z_iret C hr (Nat.le_of_ble_eq_true rfl) dX10_upper_4 rfl
set_option maxHeartbeats 4000000 in
set_option maxRecDepth 100000 in
theorem ctX10_lower {l : Launch} {D : va_G} {cy : Nat → ClassId} {B : Nat} {kd : Nat → Nat} {n : Nat} {sa sv : Nat → Nat} (G : zG l kd n) (v0 : Nat) (h0 : kd v0 = 10) (Mo : Mem) : CT l D cy B kd n sa sv 0 0 yX10_lower cX10_lower 1 (some (FieldType.int)) (pI Mo) [.ref (B + v0)] Mo (fX10_lower v0 Mo) := by
  refine ct_of (by decide) G.1 G.2 (Nat.le_of_ble_eq_true rfl) (ls := [(0, .ref (B + v0))]) rfl ?_
  intro p e s m args below meth c b0 C ht hr
  unfold fX10_lower
  refine z_aload_n C 0 0 dX10_lower_0 rfl rfl ?_
  refine z_getI (k := 3) C cl10 h0 rfl gw_2_163 rfl dX10_lower_1 ?_
  exact z_iret C hr (Nat.le_of_ble_eq_true rfl) dX10_lower_4 rfl
set_option maxHeartbeats 4000000 in
set_option maxRecDepth 100000 in
theorem z_fX10_lie_b61 {p : Program} {l : Launch} {e : Env} {s : State} {m : MethodId} {args : Array Value} {below : List Frame} {meth : Method} {c : Code} {D : va_G} {cy : Nat → ClassId} {B : Nat} {kd : Nat → Nat} {n : Nat} {sa sv : Nat → Nat} (C : zC p l s m args meth c D cy B kd n sa sv RX10 cX10_lie 6) (ht : ∀ x ∈ c.exceptionTable.toList, False) (hr : meth.sig.returnType = some (FieldType.int)) {b0 : (Nat ⊕ Int32) × Mem}  (N : Nat) (M : Mem)  : Z p l e (rmz 5 1) s m args below meth c (vx_MQ below (QcR D cy B kd n (xIc b0)) (XcR D cy B kd n (xIc b0)) args s 1 (6 * 1) (AA B kd n)) D cy B kd n 6 b0 1 61 [] [] M (fX10_lie_b61 N M) := by
  unfold fX10_lie_b61
  refine z_iconst C dX10_lie_61 rfl ?_
  exact z_iret C hr (Nat.le_of_ble_eq_true rfl) dX10_lie_62 rfl
set_option maxHeartbeats 4000000 in
set_option maxRecDepth 100000 in
theorem z_fX10_lie_b55 {p : Program} {l : Launch} {e : Env} {s : State} {m : MethodId} {args : Array Value} {below : List Frame} {meth : Method} {c : Code} {D : va_G} {cy : Nat → ClassId} {B : Nat} {kd : Nat → Nat} {n : Nat} {sa sv : Nat → Nat} (C : zC p l s m args meth c D cy B kd n sa sv RX10 cX10_lie 6) (ht : ∀ x ∈ c.exceptionTable.toList, False) (hr : meth.sig.returnType = some (FieldType.int)) {b0 : (Nat ⊕ Int32) × Mem}  (N : Nat) (k12 : Int32 → Int32 → Mem → Option ((Nat ⊕ Int32) × Mem)) (v0 : Nat) (v2 : Int32) (v3 : Nat) (v4 : Int32) (v5 : Int32) (M : Mem) (h0 : kd v0 = 10) (h3 : kd v3 = 5) (hk12 : ∀ (v4 : Int32) (v5 : Int32) (M : Mem), Z p l e (rmz 5 1) s m args below meth c (vx_MQ below (QcR D cy B kd n (xIc b0)) (XcR D cy B kd n (xIc b0)) args s 1 (6 * 1) (AA B kd n)) D cy B kd n 6 b0 1 12 [(0, .ref (B + v0)), (2, .int v2), (3, .ref (B + v3)), (4, .int v4), (5, .int v5)] [] M (k12 v4 v5 M)) : Z p l e (rmz 5 1) s m args below meth c (vx_MQ below (QcR D cy B kd n (xIc b0)) (XcR D cy B kd n (xIc b0)) args s 1 (6 * 1) (AA B kd n)) D cy B kd n 6 b0 1 55 [(0, .ref (B + v0)), (2, .int v2), (3, .ref (B + v3)), (4, .int v4), (5, .int v5)] [] M (fX10_lie_b55 N k12 v0 v2 v3 v4 v5 M) := by
  unfold fX10_lie_b55
  refine z_iinc C 5 4 (v := v5) (v1 := (v5 + (1 : Int32))) (ls1 := [(5, .int (v5 + (1 : Int32))), (0, .ref (B + v0)), (2, .int v2), (3, .ref (B + v3)), (4, .int v4)]) dX10_lie_55 rfl rfl (by decide) rfl ?_
  refine z_goto C 12 dX10_lie_58 rfl ?_
  exact z_jump (ls1 := [(0, .ref (B + v0)), (2, .int v2), (3, .ref (B + v3)), (4, .int v4), (5, .int (v5 + (1 : Int32)))]) (Nat.le_of_ble_eq_true rfl) [1, 2, 3, 4, 0] rfl (hk12 v4 (v5 + (1 : Int32)) M)
set_option maxHeartbeats 4000000 in
set_option maxRecDepth 100000 in
theorem z_fX10_lie_l12_s {p : Program} {l : Launch} {e : Env} {s : State} {m : MethodId} {args : Array Value} {below : List Frame} {meth : Method} {c : Code} {D : va_G} {cy : Nat → ClassId} {B : Nat} {kd : Nat → Nat} {n : Nat} {sa sv : Nat → Nat} (C : zC p l s m args meth c D cy B kd n sa sv RX10 cX10_lie 6) (ht : ∀ x ∈ c.exceptionTable.toList, False) (hr : meth.sig.returnType = some (FieldType.int)) {b0 : (Nat ⊕ Int32) × Mem} (N : Nat) (v0 : Nat) (v2 : Int32) (v3 : Nat) (k12 : Int32 → Int32 → Mem → Option ((Nat ⊕ Int32) × Mem)) (v4 : Int32) (v5 : Int32) (M : Mem) (h0 : kd v0 = 10) (h3 : kd v3 = 5)  (hk12 : ∀ (v4 : Int32) (v5 : Int32) (M : Mem), Z p l e (rmz 5 1) s m args below meth c (vx_MQ below (QcR D cy B kd n (xIc b0)) (XcR D cy B kd n (xIc b0)) args s 1 (6 * 1) (AA B kd n)) D cy B kd n 6 b0 1 12 [(0, .ref (B + v0)), (2, .int v2), (3, .ref (B + v3)), (4, .int v4), (5, .int v5)] [] M (k12 v4 v5 M)) : Z p l e (rmz 5 1) s m args below meth c (vx_MQ below (QcR D cy B kd n (xIc b0)) (XcR D cy B kd n (xIc b0)) args s 1 (6 * 1) (AA B kd n)) D cy B kd n 6 b0 1 12 [(0, .ref (B + v0)), (2, .int v2), (3, .ref (B + v3)), (4, .int v4), (5, .int v5)] [] M (fX10_lie_l12_s N v0 v2 v3 k12 v4 v5 M) := by
  unfold fX10_lie_l12_s
  refine z_iload C 4 dX10_lie_12 rfl ?_
  refine z_aload_n C 0 0 dX10_lie_14 rfl rfl ?_
  refine z_getR (k := 4) C cl10 h0 rfl gw_2_164 rfl dX10_lie_15 ?_
  have j1 : kd (v0 + 1) = 7 := zkd C h0 (k := 4) rfl
  refine z_getR (k := 0) C cl7 j1 rfl gw_1_175 rfl dX10_lie_18 ?_
  have j2 : kd ((v0 + 1) + 1) = 6 := zkd C j1 (k := 0) rfl
  refine z_getI (k := 1) C cl6 j2 rfl gw_1_56 rfl dX10_lie_21 ?_
  refine z_icmp_ge C 61 dX10_lie_24 rfl (fun _ => ?_) (fun _ => ?_)
  · exact z_jump (ls1 := []) (Nat.le_of_ble_eq_true rfl) [] rfl (z_fX10_lie_b61 C ht hr N M)
  · refine z_iload C 3 dX10_lie_27 rfl ?_
    refine z_iload_n C 2 1 dX10_lie_29 rfl rfl ?_
    refine z_icmp_gt C 61 dX10_lie_30 rfl (fun _ => ?_) (fun _ => ?_)
    · exact z_jump (ls1 := []) (Nat.le_of_ble_eq_true rfl) [] rfl (z_fX10_lie_b61 C ht hr N M)
    · refine z_aload_n C 0 0 dX10_lie_33 rfl rfl ?_
      refine z_aload_n C 3 2 dX10_lie_34 rfl rfl ?_
      refine z_iload C 4 dX10_lie_35 rfl ?_
      refine z_callV_B (As := [.ref (B + v3), .int v5]) (rest := []) C rfl (ctX10_isLie (zG_of C) N v0 v3 v5 h0 h3 M) cw_RX10_323 rfl (okM_X10_isLie) rfl cl10 h0 (okR_of rfl) (Nat.le_of_ble_eq_true rfl) dX10_lie_37 (fun qj3 _ => ?_)
      refine z_if_eqB C 55 dX10_lie_40 rfl (fun _ => ?_) (fun _ => ?_)
      · refine z_iload C 3 dX10_lie_43 rfl ?_
        refine z_iload_n C 2 1 dX10_lie_45 rfl rfl ?_
        refine z_icmp_ne C 52 dX10_lie_46 rfl (fun _ => ?_) (fun _ => ?_)
        · refine z_iload C 4 dX10_lie_49 rfl ?_
          exact z_iret C hr (Nat.le_of_ble_eq_true rfl) dX10_lie_51 rfl
        · refine z_iinc C 4 3 (v := v4) (v1 := (v4 + (1 : Int32))) (ls1 := [(4, .int (v4 + (1 : Int32))), (0, .ref (B + v0)), (2, .int v2), (3, .ref (B + v3)), (5, .int v5)]) dX10_lie_52 rfl rfl (by decide) rfl ?_
          exact z_jump (ls1 := [(0, .ref (B + v0)), (2, .int v2), (3, .ref (B + v3)), (4, .int (v4 + (1 : Int32))), (5, .int v5)]) (Nat.le_of_ble_eq_true rfl) [1, 2, 3, 0, 4] rfl (z_fX10_lie_b55 C ht hr N k12 v0 v2 v3 (v4 + (1 : Int32)) v5 qj3.2 h0 h3 hk12)
      · exact z_jump (ls1 := [(0, .ref (B + v0)), (2, .int v2), (3, .ref (B + v3)), (4, .int v4), (5, .int v5)]) (Nat.le_of_ble_eq_true rfl) [0, 1, 2, 3, 4] rfl (z_fX10_lie_b55 C ht hr N k12 v0 v2 v3 v4 v5 qj3.2 h0 h3 hk12)
theorem z_fX10_lie_l12_i {p : Program} {l : Launch} {e : Env} {s : State} {m : MethodId} {args : Array Value} {below : List Frame} {meth : Method} {c : Code} {D : va_G} {cy : Nat → ClassId} {B : Nat} {kd : Nat → Nat} {n : Nat} {sa sv : Nat → Nat} (C : zC p l s m args meth c D cy B kd n sa sv RX10 cX10_lie 6) (ht : ∀ x ∈ c.exceptionTable.toList, False) (hr : meth.sig.returnType = some (FieldType.int)) {b0 : (Nat ⊕ Int32) × Mem} (N : Nat) (v0 : Nat) (v2 : Int32) (v3 : Nat) (h0 : kd v0 = 10) (h3 : kd v3 = 5)  (fu : Nat) : ∀ (v4 : Int32) (v5 : Int32) (M : Mem), Z p l e (rmz 5 1) s m args below meth c (vx_MQ below (QcR D cy B kd n (xIc b0)) (XcR D cy B kd n (xIc b0)) args s 1 (6 * 1) (AA B kd n)) D cy B kd n 6 b0 1 12 [(0, .ref (B + v0)), (2, .int v2), (3, .ref (B + v3)), (4, .int v4), (5, .int v5)] [] M (fX10_lie_l12 N v0 v2 v3 fu v4 v5 M) := by
  induction fu with
  | zero => intro v4 v5 M; exact z_none
  | succ fu ih => intro v4 v5 M; exact z_fX10_lie_l12_s C ht hr N v0 v2 v3 (fX10_lie_l12 N v0 v2 v3 fu) v4 v5 M h0 h3 (fun v4 v5 M => ih v4 v5 M)
theorem z_fX10_lie_l12 {p : Program} {l : Launch} {e : Env} {s : State} {m : MethodId} {args : Array Value} {below : List Frame} {meth : Method} {c : Code} {D : va_G} {cy : Nat → ClassId} {B : Nat} {kd : Nat → Nat} {n : Nat} {sa sv : Nat → Nat} (C : zC p l s m args meth c D cy B kd n sa sv RX10 cX10_lie 6) (ht : ∀ x ∈ c.exceptionTable.toList, False) (hr : meth.sig.returnType = some (FieldType.int)) {b0 : (Nat ⊕ Int32) × Mem} (N : Nat) (v0 : Nat) (v2 : Int32) (v3 : Nat) (fu : Nat) (v4 : Int32) (v5 : Int32) (M : Mem) (h0 : kd v0 = 10) (h3 : kd v3 = 5)  : Z p l e (rmz 5 1) s m args below meth c (vx_MQ below (QcR D cy B kd n (xIc b0)) (XcR D cy B kd n (xIc b0)) args s 1 (6 * 1) (AA B kd n)) D cy B kd n 6 b0 1 12 [(0, .ref (B + v0)), (2, .int v2), (3, .ref (B + v3)), (4, .int v4), (5, .int v5)] [] M (fX10_lie_l12 N v0 v2 v3 fu v4 v5 M) := z_fX10_lie_l12_i C ht hr N v0 v2 v3 h0 h3 fu v4 v5 M
set_option maxHeartbeats 4000000 in
set_option maxRecDepth 100000 in
theorem ctX10_lie {l : Launch} {D : va_G} {cy : Nat → ClassId} {B : Nat} {kd : Nat → Nat} {n : Nat} {sa sv : Nat → Nat} (G : zG l kd n) (N : Nat) (v0 : Nat) (v1 : Int32) (v2 : Int32) (h0 : kd v0 = 10) (M : Mem) : CT l D cy B kd n sa sv 5 1 yX10_lie cX10_lie 6 (some (FieldType.int)) xIc [.ref (B + v0), .int v1, .int v2] M (fX10_lie N v0 v1 v2 M) := by
  refine ct_of (by decide) G.1 G.2 (Nat.le_of_ble_eq_true rfl) (ls := [(0, .ref (B + v0)), (1, .int v1), (2, .int v2)]) rfl ?_
  intro p e s m args below meth c b0 C ht hr
  unfold fX10_lie
  refine z_aload_n C 0 0 dX10_lie_0 rfl rfl ?_
  refine z_iload_n C 1 1 dX10_lie_1 rfl rfl ?_
  refine z_callXV_A (As := [.int v1]) (rest := []) C cvX_I ht rfl (ctX10_rowAt (zG_of C) v0 v1 h0 M) cw_RX10_167 rfl (okM_X10_rowAt) rfl cl10 h0 (okR_of rfl) (Nat.le_of_ble_eq_true rfl) (Nat.le_of_ble_eq_true rfl) dX10_lie_2 (fun qj1 Mj1 hEj1 => ?_)
  have hqj1 : kd qj1 = 5 := kdX10_rowAt (zG_of C) h0 hEj1
  refine z_astore_n C 3 (ls1 := [(3, .ref (B + qj1)), (0, .ref (B + v0)), (1, .int v1), (2, .int v2)]) dX10_lie_5 rfl (by decide) rfl ?_
  refine z_iconst C dX10_lie_6 rfl ?_
  refine z_istore C 4 (ls1 := [(4, .int (0 : Int32)), (3, .ref (B + qj1)), (0, .ref (B + v0)), (1, .int v1), (2, .int v2)]) dX10_lie_7 (by decide) rfl ?_
  refine z_iconst C dX10_lie_9 rfl ?_
  refine z_istore C 5 (ls1 := [(5, .int (0 : Int32)), (4, .int (0 : Int32)), (3, .ref (B + qj1)), (0, .ref (B + v0)), (1, .int v1), (2, .int v2)]) dX10_lie_10 (by decide) rfl ?_
  exact z_jump (ls1 := [(0, .ref (B + v0)), (2, .int v2), (3, .ref (B + qj1)), (4, .int (0 : Int32)), (5, .int (0 : Int32))]) (Nat.le_of_ble_eq_true rfl) [3, 5, 2, 1, 0] rfl (z_fX10_lie_l12 C ht hr N v0 v2 qj1 N (0 : Int32) (0 : Int32) Mj1 h0 hqj1)
set_option maxHeartbeats 4000000 in
set_option maxRecDepth 100000 in
theorem z_fX10_wronged_b84 {p : Program} {l : Launch} {e : Env} {s : State} {m : MethodId} {args : Array Value} {below : List Frame} {meth : Method} {c : Code} {D : va_G} {cy : Nat → ClassId} {B : Nat} {kd : Nat → Nat} {n : Nat} {sa sv : Nat → Nat} (C : zC p l s m args meth c D cy B kd n sa sv RX10 cX10_wronged 8) (ht : ∀ x ∈ c.exceptionTable.toList, False) (hr : meth.sig.returnType = some (FieldType.int)) {b0 : (Nat ⊕ Int32) × Mem}  (N : Nat) (k25 : Int32 → Int32 → Mem → Option ((Nat ⊕ Int32) × Mem)) (v0 : Nat) (v3 : Int32) (v4 : Nat) (v5 : Nat) (v6 : Int32) (v7 : Int32) (M : Mem) (h0 : kd v0 = 10) (h4 : kd v4 = 5) (h5 : kd v5 = 9) (hk25 : ∀ (v6 : Int32) (v7 : Int32) (M : Mem), Z p l e (rmz 5 3) s m args below meth c (vx_MQ below (QcR D cy B kd n (xIc b0)) (XcR D cy B kd n (xIc b0)) args s 3 (6 * 3) (AA B kd n)) D cy B kd n 8 b0 3 25 [(0, .ref (B + v0)), (3, .int v3), (4, .ref (B + v4)), (5, .ref (B + v5)), (6, .int v6), (7, .int v7)] [] M (k25 v6 v7 M)) : Z p l e (rmz 5 3) s m args below meth c (vx_MQ below (QcR D cy B kd n (xIc b0)) (XcR D cy B kd n (xIc b0)) args s 3 (6 * 3) (AA B kd n)) D cy B kd n 8 b0 3 84 [(0, .ref (B + v0)), (3, .int v3), (4, .ref (B + v4)), (5, .ref (B + v5)), (6, .int v6), (7, .int v7)] [] M (fX10_wronged_b84 N k25 v0 v3 v4 v5 v6 v7 M) := by
  unfold fX10_wronged_b84
  refine z_iinc C 7 5 (v := v7) (v1 := (v7 + (1 : Int32))) (ls1 := [(7, .int (v7 + (1 : Int32))), (0, .ref (B + v0)), (3, .int v3), (4, .ref (B + v4)), (5, .ref (B + v5)), (6, .int v6)]) dX10_wronged_84 rfl rfl (by decide) rfl ?_
  refine z_goto C 25 dX10_wronged_87 rfl ?_
  exact z_jump (ls1 := [(0, .ref (B + v0)), (3, .int v3), (4, .ref (B + v4)), (5, .ref (B + v5)), (6, .int v6), (7, .int (v7 + (1 : Int32)))]) (Nat.le_of_ble_eq_true rfl) [1, 2, 3, 4, 5, 0] rfl (hk25 v6 (v7 + (1 : Int32)) M)
set_option maxHeartbeats 4000000 in
set_option maxRecDepth 100000 in
theorem z_fX10_wronged_l25_s {p : Program} {l : Launch} {e : Env} {s : State} {m : MethodId} {args : Array Value} {below : List Frame} {meth : Method} {c : Code} {D : va_G} {cy : Nat → ClassId} {B : Nat} {kd : Nat → Nat} {n : Nat} {sa sv : Nat → Nat} (C : zC p l s m args meth c D cy B kd n sa sv RX10 cX10_wronged 8) (ht : ∀ x ∈ c.exceptionTable.toList, False) (hr : meth.sig.returnType = some (FieldType.int)) {b0 : (Nat ⊕ Int32) × Mem} (N : Nat) (v0 : Nat) (v3 : Int32) (v4 : Nat) (v5 : Nat) (k25 : Int32 → Int32 → Mem → Option ((Nat ⊕ Int32) × Mem)) (v6 : Int32) (v7 : Int32) (M : Mem) (h0 : kd v0 = 10) (h4 : kd v4 = 5) (h5 : kd v5 = 9)  (hk25 : ∀ (v6 : Int32) (v7 : Int32) (M : Mem), Z p l e (rmz 5 3) s m args below meth c (vx_MQ below (QcR D cy B kd n (xIc b0)) (XcR D cy B kd n (xIc b0)) args s 3 (6 * 3) (AA B kd n)) D cy B kd n 8 b0 3 25 [(0, .ref (B + v0)), (3, .int v3), (4, .ref (B + v4)), (5, .ref (B + v5)), (6, .int v6), (7, .int v7)] [] M (k25 v6 v7 M)) : Z p l e (rmz 5 3) s m args below meth c (vx_MQ below (QcR D cy B kd n (xIc b0)) (XcR D cy B kd n (xIc b0)) args s 3 (6 * 3) (AA B kd n)) D cy B kd n 8 b0 3 25 [(0, .ref (B + v0)), (3, .int v3), (4, .ref (B + v4)), (5, .ref (B + v5)), (6, .int v6), (7, .int v7)] [] M (fX10_wronged_l25_s N v0 v3 v4 v5 k25 v6 v7 M) := by
  unfold fX10_wronged_l25_s
  refine z_iload C 5 dX10_wronged_25 rfl ?_
  refine z_aload C 3 dX10_wronged_27 rfl ?_
  refine z_getI (k := 1) C cl9 h5 rfl gw_1_212 rfl dX10_wronged_29 ?_
  refine z_icmp_ge C 90 dX10_wronged_32 rfl (fun _ => ?_) (fun _ => ?_)
  · refine z_iload_n C 3 1 dX10_wronged_90 rfl rfl ?_
    refine z_iconst C dX10_wronged_91 rfl ?_
    refine z_icmp_ne C 100 dX10_wronged_92 rfl (fun _ => ?_) (fun _ => ?_)
    · refine z_iload C 4 dX10_wronged_95 rfl ?_
      refine z_goto C 101 dX10_wronged_97 rfl ?_
      exact z_iret C hr (Nat.le_of_ble_eq_true rfl) dX10_wronged_101 rfl
    · refine z_iconst C dX10_wronged_100 rfl ?_
      exact z_iret C hr (Nat.le_of_ble_eq_true rfl) dX10_wronged_101 rfl
  · refine z_aload_n C 0 0 dX10_wronged_35 rfl rfl ?_
    refine z_aload C 3 dX10_wronged_36 rfl ?_
    refine z_iload C 5 dX10_wronged_38 rfl ?_
    refine z_callV_pJ (As := [.int v7]) (rest := [.ref (B + v0)]) C rfl (ctX9_numberAt (zG_of C) v5 v7 h5 M) cw_RX10_327 rfl (okM_X9_numberAt) rfl cl9 h5 (okR_of rfl) (Nat.le_of_ble_eq_true rfl) dX10_wronged_40 (fun qj1 _ => ?_)
    refine z_callV_pB (As := [.long qj1]) (rest := []) C rfl (ctX10_isName (zG_of C) v0 qj1 h0 M) cw_RX10_331 rfl (okM_X10_isName) rfl cl10 h0 (okR_of rfl) (Nat.le_of_ble_eq_true rfl) dX10_wronged_43 (fun qj2 _ => ?_)
    refine z_if_eqB C 84 dX10_wronged_46 rfl (fun _ => ?_) (fun _ => ?_)
    · refine z_aload_n C 0 0 dX10_wronged_49 rfl rfl ?_
      refine z_aload C 2 dX10_wronged_50 rfl ?_
      refine z_aload C 3 dX10_wronged_52 rfl ?_
      refine z_iload C 5 dX10_wronged_54 rfl ?_
      refine z_callV_pJ (As := [.int v7]) (rest := [.ref (B + v4), .ref (B + v0)]) C rfl (ctX9_numberAt (zG_of C) v5 v7 h5 M) cw_RX10_327 rfl (okM_X9_numberAt) rfl cl9 h5 (okR_of rfl) (Nat.le_of_ble_eq_true rfl) dX10_wronged_56 (fun qj3 _ => ?_)
      refine z_l2i C dX10_wronged_59 ?_
      refine z_callV_B (As := [.ref (B + v4), .int qj3.toInt32]) (rest := []) C rfl (ctX10_isLie (zG_of C) N v0 v4 qj3.toInt32 h0 h4 M) cw_RX10_323 rfl (okM_X10_isLie) rfl cl10 h0 (okR_of rfl) (Nat.le_of_ble_eq_true rfl) dX10_wronged_60 (fun qj4 _ => ?_)
      refine z_if_eqB C 84 dX10_wronged_63 rfl (fun _ => ?_) (fun _ => ?_)
      · refine z_iload C 4 dX10_wronged_66 rfl ?_
        refine z_iload_n C 3 1 dX10_wronged_68 rfl rfl ?_
        refine z_icmp_ne C 81 dX10_wronged_69 rfl (fun _ => ?_) (fun _ => ?_)
        · refine z_aload C 3 dX10_wronged_72 rfl ?_
          refine z_iload C 5 dX10_wronged_74 rfl ?_
          refine z_callV_pJ (As := [.int v7]) (rest := []) C rfl (ctX9_numberAt (zG_of C) v5 v7 h5 qj4.2) cw_RX10_327 rfl (okM_X9_numberAt) rfl cl9 h5 (okR_of rfl) (Nat.le_of_ble_eq_true rfl) dX10_wronged_76 (fun qj5 _ => ?_)
          refine z_l2i C dX10_wronged_79 ?_
          exact z_iret C hr (Nat.le_of_ble_eq_true rfl) dX10_wronged_80 rfl
        · refine z_iinc C 6 4 (v := v6) (v1 := (v6 + (1 : Int32))) (ls1 := [(6, .int (v6 + (1 : Int32))), (0, .ref (B + v0)), (3, .int v3), (4, .ref (B + v4)), (5, .ref (B + v5)), (7, .int v7)]) dX10_wronged_81 rfl rfl (by decide) rfl ?_
          exact z_jump (ls1 := [(0, .ref (B + v0)), (3, .int v3), (4, .ref (B + v4)), (5, .ref (B + v5)), (6, .int (v6 + (1 : Int32))), (7, .int v7)]) (Nat.le_of_ble_eq_true rfl) [1, 2, 3, 4, 0, 5] rfl (z_fX10_wronged_b84 C ht hr N k25 v0 v3 v4 v5 (v6 + (1 : Int32)) v7 qj4.2 h0 h4 h5 hk25)
      · exact z_jump (ls1 := [(0, .ref (B + v0)), (3, .int v3), (4, .ref (B + v4)), (5, .ref (B + v5)), (6, .int v6), (7, .int v7)]) (Nat.le_of_ble_eq_true rfl) [0, 1, 2, 3, 4, 5] rfl (z_fX10_wronged_b84 C ht hr N k25 v0 v3 v4 v5 v6 v7 qj4.2 h0 h4 h5 hk25)
    · exact z_jump (ls1 := [(0, .ref (B + v0)), (3, .int v3), (4, .ref (B + v4)), (5, .ref (B + v5)), (6, .int v6), (7, .int v7)]) (Nat.le_of_ble_eq_true rfl) [0, 1, 2, 3, 4, 5] rfl (z_fX10_wronged_b84 C ht hr N k25 v0 v3 v4 v5 v6 v7 M h0 h4 h5 hk25)
theorem z_fX10_wronged_l25_i {p : Program} {l : Launch} {e : Env} {s : State} {m : MethodId} {args : Array Value} {below : List Frame} {meth : Method} {c : Code} {D : va_G} {cy : Nat → ClassId} {B : Nat} {kd : Nat → Nat} {n : Nat} {sa sv : Nat → Nat} (C : zC p l s m args meth c D cy B kd n sa sv RX10 cX10_wronged 8) (ht : ∀ x ∈ c.exceptionTable.toList, False) (hr : meth.sig.returnType = some (FieldType.int)) {b0 : (Nat ⊕ Int32) × Mem} (N : Nat) (v0 : Nat) (v3 : Int32) (v4 : Nat) (v5 : Nat) (h0 : kd v0 = 10) (h4 : kd v4 = 5) (h5 : kd v5 = 9)  (fu : Nat) : ∀ (v6 : Int32) (v7 : Int32) (M : Mem), Z p l e (rmz 5 3) s m args below meth c (vx_MQ below (QcR D cy B kd n (xIc b0)) (XcR D cy B kd n (xIc b0)) args s 3 (6 * 3) (AA B kd n)) D cy B kd n 8 b0 3 25 [(0, .ref (B + v0)), (3, .int v3), (4, .ref (B + v4)), (5, .ref (B + v5)), (6, .int v6), (7, .int v7)] [] M (fX10_wronged_l25 N v0 v3 v4 v5 fu v6 v7 M) := by
  induction fu with
  | zero => intro v6 v7 M; exact z_none
  | succ fu ih => intro v6 v7 M; exact z_fX10_wronged_l25_s C ht hr N v0 v3 v4 v5 (fX10_wronged_l25 N v0 v3 v4 v5 fu) v6 v7 M h0 h4 h5 (fun v6 v7 M => ih v6 v7 M)
theorem z_fX10_wronged_l25 {p : Program} {l : Launch} {e : Env} {s : State} {m : MethodId} {args : Array Value} {below : List Frame} {meth : Method} {c : Code} {D : va_G} {cy : Nat → ClassId} {B : Nat} {kd : Nat → Nat} {n : Nat} {sa sv : Nat → Nat} (C : zC p l s m args meth c D cy B kd n sa sv RX10 cX10_wronged 8) (ht : ∀ x ∈ c.exceptionTable.toList, False) (hr : meth.sig.returnType = some (FieldType.int)) {b0 : (Nat ⊕ Int32) × Mem} (N : Nat) (v0 : Nat) (v3 : Int32) (v4 : Nat) (v5 : Nat) (fu : Nat) (v6 : Int32) (v7 : Int32) (M : Mem) (h0 : kd v0 = 10) (h4 : kd v4 = 5) (h5 : kd v5 = 9)  : Z p l e (rmz 5 3) s m args below meth c (vx_MQ below (QcR D cy B kd n (xIc b0)) (XcR D cy B kd n (xIc b0)) args s 3 (6 * 3) (AA B kd n)) D cy B kd n 8 b0 3 25 [(0, .ref (B + v0)), (3, .int v3), (4, .ref (B + v4)), (5, .ref (B + v5)), (6, .int v6), (7, .int v7)] [] M (fX10_wronged_l25 N v0 v3 v4 v5 fu v6 v7 M) := z_fX10_wronged_l25_i C ht hr N v0 v3 v4 v5 h0 h4 h5 fu v6 v7 M
set_option maxHeartbeats 4000000 in
set_option maxRecDepth 100000 in
theorem ctX10_wronged {l : Launch} {D : va_G} {cy : Nat → ClassId} {B : Nat} {kd : Nat → Nat} {n : Nat} {sa sv : Nat → Nat} (G : zG l kd n) (N : Nat) (v0 : Nat) (v1 : Int32) (v2 : Int32) (v3 : Int32) (h0 : kd v0 = 10) (M : Mem) : CT l D cy B kd n sa sv 5 3 yX10_wronged cX10_wronged 8 (some (FieldType.int)) xIc [.ref (B + v0), .int v1, .int v2, .int v3] M (fX10_wronged N v0 v1 v2 v3 M) := by
  refine ct_of (by decide) G.1 G.2 (Nat.le_of_ble_eq_true rfl) (ls := [(0, .ref (B + v0)), (1, .int v1), (2, .int v2), (3, .int v3)]) rfl ?_
  intro p e s m args below meth c b0 C ht hr
  unfold fX10_wronged
  refine z_aload_n C 0 0 dX10_wronged_0 rfl rfl ?_
  refine z_iload_n C 1 1 dX10_wronged_1 rfl rfl ?_
  refine z_callXV_A (As := [.int v1]) (rest := []) C cvX_I ht rfl (ctX10_rowAt (zG_of C) v0 v1 h0 M) cw_RX10_167 rfl (okM_X10_rowAt) rfl cl10 h0 (okR_of rfl) (Nat.le_of_ble_eq_true rfl) (Nat.le_of_ble_eq_true rfl) dX10_wronged_2 (fun qj1 Mj1 hEj1 => ?_)
  have hqj1 : kd qj1 = 5 := kdX10_rowAt (zG_of C) h0 hEj1
  refine z_astore C 4 (ls1 := [(4, .ref (B + qj1)), (0, .ref (B + v0)), (1, .int v1), (2, .int v2), (3, .int v3)]) dX10_wronged_5 (by decide) rfl ?_
  refine z_aload_n C 0 1 dX10_wronged_7 rfl rfl ?_
  refine z_iload_n C 2 3 dX10_wronged_8 rfl rfl ?_
  refine z_callXV_A (As := [.int v2]) (rest := []) C cvX_I ht rfl (ctX10_trayAt (zG_of C) v0 v2 h0 Mj1) cw_RX10_285 rfl (okM_X10_trayAt) rfl cl10 h0 (okR_of rfl) (Nat.le_of_ble_eq_true rfl) (Nat.le_of_ble_eq_true rfl) dX10_wronged_9 (fun qj2 Mj2 hEj2 => ?_)
  have hqj2 : kd qj2 = 9 := kdX10_trayAt (zG_of C) h0 hEj2
  refine z_astore C 5 (ls1 := [(5, .ref (B + qj2)), (4, .ref (B + qj1)), (0, .ref (B + v0)), (1, .int v1), (2, .int v2), (3, .int v3)]) dX10_wronged_12 (by decide) rfl ?_
  refine z_aload C 0 dX10_wronged_14 rfl ?_
  refine z_callXS_V (As := [.ref (B + qj2)]) (rest := []) C cvX_I ht rfl (ctX10_needFilled (zG_of C) qj2 hqj2 Mj2) cw_RX10_289 (okM_X10_needFilled) rfl (okR_of rfl) (Nat.le_of_ble_eq_true rfl) (Nat.le_of_ble_eq_true rfl) dX10_wronged_16 (fun qj3 Mj3 hEj3 => ?_)
  refine z_iconst C dX10_wronged_19 rfl ?_
  refine z_istore C 6 (ls1 := [(6, .int (0 : Int32)), (5, .ref (B + qj2)), (4, .ref (B + qj1)), (0, .ref (B + v0)), (1, .int v1), (2, .int v2), (3, .int v3)]) dX10_wronged_20 (by decide) rfl ?_
  refine z_iconst C dX10_wronged_22 rfl ?_
  refine z_istore C 7 (ls1 := [(7, .int (0 : Int32)), (6, .int (0 : Int32)), (5, .ref (B + qj2)), (4, .ref (B + qj1)), (0, .ref (B + v0)), (1, .int v1), (2, .int v2), (3, .int v3)]) dX10_wronged_23 (by decide) rfl ?_
  exact z_jump (ls1 := [(0, .ref (B + v0)), (3, .int v3), (4, .ref (B + qj1)), (5, .ref (B + qj2)), (6, .int (0 : Int32)), (7, .int (0 : Int32))]) (Nat.le_of_ble_eq_true rfl) [4, 7, 3, 2, 1, 0] rfl (z_fX10_wronged_l25 C ht hr N v0 v3 qj1 qj2 N (0 : Int32) (0 : Int32) Mj3 h0 hqj1 hqj2)
set_option maxHeartbeats 4000000 in
set_option maxRecDepth 100000 in
theorem ctX10_worse {l : Launch} {D : va_G} {cy : Nat → ClassId} {B : Nat} {kd : Nat → Nat} {n : Nat} {sa sv : Nat → Nat} (G : zG l kd n) (N : Nat) (v0 : Nat) (v1 : Int32) (v2 : Int32) (h0 : kd v0 = 10) (M : Mem) : CT l D cy B kd n sa sv 5 2 yX10_worse cX10_worse 5 (some (FieldType.int)) xIc [.ref (B + v0), .int v1, .int v2] M (fX10_worse N v0 v1 v2 M) := by
  refine ct_of (by decide) G.1 G.2 (Nat.le_of_ble_eq_true rfl) (ls := [(0, .ref (B + v0)), (1, .int v1), (2, .int v2)]) rfl ?_
  intro p e s m args below meth c b0 C ht hr
  unfold fX10_worse
  refine z_aload_n C 0 0 dX10_worse_0 rfl rfl ?_
  refine z_iload_n C 1 1 dX10_worse_1 rfl rfl ?_
  refine z_callXV_A (As := [.int v1]) (rest := []) C cvX_I ht rfl (ctX10_rowAt (zG_of C) v0 v1 h0 M) cw_RX10_167 rfl (okM_X10_rowAt) rfl cl10 h0 (okR_of rfl) (Nat.le_of_ble_eq_true rfl) (Nat.le_of_ble_eq_true rfl) dX10_worse_2 (fun qj1 Mj1 hEj1 => ?_)
  have hqj1 : kd qj1 = 5 := kdX10_rowAt (zG_of C) h0 hEj1
  refine z_astore_n C 3 (ls1 := [(3, .ref (B + qj1)), (0, .ref (B + v0)), (1, .int v1), (2, .int v2)]) dX10_worse_5 rfl (by decide) rfl ?_
  refine z_aload_n C 0 1 dX10_worse_6 rfl rfl ?_
  refine z_iload_n C 2 3 dX10_worse_7 rfl rfl ?_
  refine z_callXV_A (As := [.int v2]) (rest := []) C cvX_I ht rfl (ctX10_rowAt (zG_of C) v0 v2 h0 Mj1) cw_RX10_167 rfl (okM_X10_rowAt) rfl cl10 h0 (okR_of rfl) (Nat.le_of_ble_eq_true rfl) (Nat.le_of_ble_eq_true rfl) dX10_worse_8 (fun qj2 Mj2 hEj2 => ?_)
  have hqj2 : kd qj2 = 5 := kdX10_rowAt (zG_of C) h0 hEj2
  refine z_astore C 4 (ls1 := [(4, .ref (B + qj2)), (3, .ref (B + qj1)), (0, .ref (B + v0)), (1, .int v1), (2, .int v2)]) dX10_worse_11 (by decide) rfl ?_
  refine z_aload_n C 0 2 dX10_worse_13 rfl rfl ?_
  refine z_aload_n C 3 1 dX10_worse_14 rfl rfl ?_
  refine z_callV_I (As := [.ref (B + qj1)]) (rest := []) C rfl (ctX10_countLies (zG_of C) N v0 qj1 h0 hqj1 Mj2) cw_RX10_307 rfl (okM_X10_countLies) rfl cl10 h0 (okR_of rfl) (Nat.le_of_ble_eq_true rfl) dX10_worse_15 (fun qj3 _ => ?_)
  refine z_aload_n C 0 2 dX10_worse_18 rfl rfl ?_
  refine z_aload C 0 dX10_worse_19 rfl ?_
  refine z_callV_I (As := [.ref (B + qj2)]) (rest := [.int qj3.1]) C rfl (ctX10_countLies (zG_of C) N v0 qj2 h0 hqj2 qj3.2) cw_RX10_307 rfl (okM_X10_countLies) rfl cl10 h0 (okR_of rfl) (Nat.le_of_ble_eq_true rfl) dX10_worse_21 (fun qj4 _ => ?_)
  refine z_isub C dX10_worse_24 ?_
  exact z_iret C hr (Nat.le_of_ble_eq_true rfl) dX10_worse_25 rfl
set_option maxHeartbeats 4000000 in
set_option maxRecDepth 100000 in
theorem z_fX10_needWhat_b9 {p : Program} {l : Launch} {e : Env} {s : State} {m : MethodId} {args : Array Value} {below : List Frame} {meth : Method} {c : Code} {D : va_G} {cy : Nat → ClassId} {B : Nat} {kd : Nat → Nat} {n : Nat} {sa sv : Nat → Nat} (C : zC p l s m args meth c D cy B kd n sa sv RX10 cX10_needWhat 2) (ht : ∀ x ∈ c.exceptionTable.toList, False) (hr : meth.sig.returnType = none) {b0 : (Nat ⊕ Unit) × Mem}   (M : Mem)  : Z p l e (rmz 0 1) s m args below meth c (vx_MQ below (QcR D cy B kd n (xVc b0)) (XcR D cy B kd n (xVc b0)) args s 1 (6 * 1) (AA B kd n)) D cy B kd n 2 b0 0 9 [] [] M (fX10_needWhat_b9 M) := by
  unfold fX10_needWhat_b9
  exact z_throwW C cvX_V ht ex3 gw_2_236 gw_3_39 (i := 27) rfl ⟨Nat.le_of_ble_eq_true rfl, Nat.le_of_ble_eq_true rfl, Nat.le_of_ble_eq_true rfl, Nat.le_of_ble_eq_true rfl⟩ (Nat.le_of_ble_eq_true rfl) (Nat.le_of_ble_eq_true rfl) dX10_needWhat_9 dX10_needWhat_12 dX10_needWhat_13 dX10_needWhat_16 dX10_needWhat_19
set_option maxHeartbeats 4000000 in
set_option maxRecDepth 100000 in
theorem ctX10_needWhat {l : Launch} {D : va_G} {cy : Nat → ClassId} {B : Nat} {kd : Nat → Nat} {n : Nat} {sa sv : Nat → Nat} (G : zG l kd n) (v0 : Int32) (v1 : Int32)  (M : Mem) : CT l D cy B kd n sa sv 0 1 yX10_needWhat cX10_needWhat 2 (none) xVc [.int v0, .int v1] M (fX10_needWhat v0 v1 M) := by
  refine ct_of (by decide) G.1 G.2 (Nat.le_of_ble_eq_true rfl) (ls := [(0, .int v0), (1, .int v1)]) rfl ?_
  intro p e s m args below meth c b0 C ht hr
  unfold fX10_needWhat
  refine z_iload_n C 0 0 dX10_needWhat_0 rfl rfl ?_
  refine z_if_lt C 9 dX10_needWhat_1 rfl (fun _ => ?_) (fun _ => ?_)
  · exact z_jump (ls1 := []) (Nat.le_of_ble_eq_true rfl) [] rfl (z_fX10_needWhat_b9 C ht hr M)
  · refine z_iload_n C 0 0 dX10_needWhat_4 rfl rfl ?_
    refine z_iload_n C 1 1 dX10_needWhat_5 rfl rfl ?_
    refine z_icmp_le C 20 dX10_needWhat_6 rfl (fun _ => ?_) (fun _ => ?_)
    · exact z_vret C hr (Nat.le_of_ble_eq_true rfl) dX10_needWhat_20 rfl
    · exact z_jump (ls1 := []) (Nat.le_of_ble_eq_true rfl) [] rfl (z_fX10_needWhat_b9 C ht hr M)
set_option maxHeartbeats 4000000 in
set_option maxRecDepth 100000 in
theorem ctX10_cascade {l : Launch} {D : va_G} {cy : Nat → ClassId} {B : Nat} {kd : Nat → Nat} {n : Nat} {sa sv : Nat → Nat} (G : zG l kd n) (N : Nat) (v0 : Nat) (v1 : Int32) (v2 : Int32) (v3 : Int32) (v4 : Int32) (h0 : kd v0 = 10) (M : Mem) : CT l D cy B kd n sa sv 5 72 yX10_cascade cX10_cascade 8 (some (FieldType.int)) xIc [.ref (B + v0), .int v1, .int v2, .int v3, .int v4] M (fX10_cascade N v0 v1 v2 v3 v4 M) := by
  refine ct_of (by decide) G.1 G.2 (Nat.le_of_ble_eq_true rfl) (ls := [(0, .ref (B + v0)), (1, .int v1), (2, .int v2), (3, .int v3), (4, .int v4)]) rfl ?_
  intro p e s m args below meth c b0 C ht hr
  unfold fX10_cascade
  refine z_aload_n C 0 0 dX10_cascade_0 rfl rfl ?_
  refine z_iload_n C 1 1 dX10_cascade_1 rfl rfl ?_
  refine z_callXV_A (As := [.int v1]) (rest := []) C cvX_I ht rfl (ctX10_rowAt (zG_of C) v0 v1 h0 M) cw_RX10_167 rfl (okM_X10_rowAt) rfl cl10 h0 (okR_of rfl) (Nat.le_of_ble_eq_true rfl) (Nat.le_of_ble_eq_true rfl) dX10_cascade_2 (fun qj1 Mj1 hEj1 => ?_)
  have hqj1 : kd qj1 = 5 := kdX10_rowAt (zG_of C) h0 hEj1
  refine z_astore C 5 (ls1 := [(5, .ref (B + qj1)), (0, .ref (B + v0)), (1, .int v1), (2, .int v2), (3, .int v3), (4, .int v4)]) dX10_cascade_5 (by decide) rfl ?_
  refine z_aload_n C 0 1 dX10_cascade_7 rfl rfl ?_
  refine z_iload_n C 2 3 dX10_cascade_8 rfl rfl ?_
  refine z_callXV_A (As := [.int v2]) (rest := []) C cvX_I ht rfl (ctX10_trayAt (zG_of C) v0 v2 h0 Mj1) cw_RX10_285 rfl (okM_X10_trayAt) rfl cl10 h0 (okR_of rfl) (Nat.le_of_ble_eq_true rfl) (Nat.le_of_ble_eq_true rfl) dX10_cascade_9 (fun qj2 Mj2 hEj2 => ?_)
  have hqj2 : kd qj2 = 9 := kdX10_trayAt (zG_of C) h0 hEj2
  refine z_astore C 6 (ls1 := [(6, .ref (B + qj2)), (5, .ref (B + qj1)), (0, .ref (B + v0)), (1, .int v1), (2, .int v2), (3, .int v3), (4, .int v4)]) dX10_cascade_12 (by decide) rfl ?_
  refine z_aload_n C 0 2 dX10_cascade_14 rfl rfl ?_
  refine z_iload_n C 3 5 dX10_cascade_15 rfl rfl ?_
  refine z_callXV_A (As := [.int v3]) (rest := []) C cvX_I ht rfl (ctX10_trayAt (zG_of C) v0 v3 h0 Mj2) cw_RX10_285 rfl (okM_X10_trayAt) rfl cl10 h0 (okR_of rfl) (Nat.le_of_ble_eq_true rfl) (Nat.le_of_ble_eq_true rfl) dX10_cascade_16 (fun qj3 Mj3 hEj3 => ?_)
  have hqj3 : kd qj3 = 9 := kdX10_trayAt (zG_of C) h0 hEj3
  refine z_astore C 7 (ls1 := [(7, .ref (B + qj3)), (6, .ref (B + qj2)), (5, .ref (B + qj1)), (0, .ref (B + v0)), (1, .int v1), (2, .int v2), (3, .int v3), (4, .int v4)]) dX10_cascade_19 (by decide) rfl ?_
  refine z_aload C 2 dX10_cascade_21 rfl ?_
  refine z_iconst C dX10_cascade_23 rfl ?_
  refine z_callXS_V (As := [.ref (B + qj1), .int (0 : Int32)]) (rest := []) C cvX_I ht rfl (ctX10_needKind (zG_of C) qj1 (0 : Int32) hqj1 Mj3) cw_RX10_213 (okM_X10_needKind) rfl (okR_of rfl) (Nat.le_of_ble_eq_true rfl) (Nat.le_of_ble_eq_true rfl) dX10_cascade_24 (fun qj4 Mj4 hEj4 => ?_)
  refine z_aload C 1 dX10_cascade_27 rfl ?_
  refine z_callXS_V (As := [.ref (B + qj2)]) (rest := []) C cvX_I ht rfl (ctX10_needFilled (zG_of C) qj2 hqj2 Mj4) cw_RX10_289 (okM_X10_needFilled) rfl (okR_of rfl) (Nat.le_of_ble_eq_true rfl) (Nat.le_of_ble_eq_true rfl) dX10_cascade_29 (fun qj5 Mj5 hEj5 => ?_)
  refine z_aload C 0 dX10_cascade_32 rfl ?_
  refine z_callXS_V (As := [.ref (B + qj3)]) (rest := []) C cvX_I ht rfl (ctX10_needFilled (zG_of C) qj3 hqj3 Mj5) cw_RX10_289 (okM_X10_needFilled) rfl (okR_of rfl) (Nat.le_of_ble_eq_true rfl) (Nat.le_of_ble_eq_true rfl) dX10_cascade_34 (fun qj6 Mj6 hEj6 => ?_)
  refine z_iload C 7 dX10_cascade_37 rfl ?_
  refine z_iconst C dX10_cascade_39 rfl ?_
  refine z_callXS_V (As := [.int v4, .int (2 : Int32)]) (rest := []) C cvX_I ht rfl (ctX10_needWhat (zG_of C) v4 (2 : Int32) Mj6) cw_RX10_335 (okM_X10_needWhat) rfl (okR_of rfl) (Nat.le_of_ble_eq_true rfl) (Nat.le_of_ble_eq_true rfl) dX10_cascade_40 (fun qj7 Mj7 hEj7 => ?_)
  refine z_aload_n C 0 3 dX10_cascade_43 rfl rfl ?_
  refine z_aload C 1 dX10_cascade_44 rfl ?_
  refine z_callXV_V (As := [.ref (B + qj2)]) (rest := []) C cvX_I ht rfl (ctX10_needNames (zG_of C) N v0 qj2 h0 hqj2 Mj7) cw_RX10_293 rfl (okM_X10_needNames) rfl cl10 h0 (okR_of rfl) (Nat.le_of_ble_eq_true rfl) (Nat.le_of_ble_eq_true rfl) dX10_cascade_46 (fun qj8 Mj8 hEj8 => ?_)
  refine z_aload C 0 dX10_cascade_49 rfl ?_
  refine z_iconst C dX10_cascade_51 rfl ?_
  refine z_bipush (v := 64) C dX10_cascade_52 rfl ?_
  refine z_callV_pB (As := [.int (1 : Int32), .int (64 : Int32)]) (rest := []) C rfl (ctX9_allWithin (zG_of C) N qj3 (1 : Int32) (64 : Int32) hqj3 Mj8) cw_RX10_338 rfl (okM_X9_allWithin) rfl cl9 hqj3 (okR_of rfl) (Nat.le_of_ble_eq_true rfl) dX10_cascade_54 (fun qj9 _ => ?_)
  refine z_if_neB C 71 dX10_cascade_57 rfl (fun _ => ?_) (fun _ => ?_)
  · refine z_aload_n C 0 3 dX10_cascade_71 rfl rfl ?_
    refine z_getR (k := 12) C cl10 h0 rfl gw_2_172 rfl dX10_cascade_72 ?_
    have j10 : kd (v0 + 135) = 1 := zkd C h0 (k := 12) rfl
    refine z_aload C 2 dX10_cascade_75 rfl ?_
    refine z_aload_n C 0 3 dX10_cascade_77 rfl rfl ?_
    refine z_getR (k := 4) C cl10 h0 rfl gw_2_164 rfl dX10_cascade_78 ?_
    have j11 : kd (v0 + 1) = 7 := zkd C h0 (k := 4) rfl
    refine z_getR (k := 0) C cl7 j11 rfl gw_1_175 rfl dX10_cascade_81 ?_
    have j12 : kd ((v0 + 1) + 1) = 6 := zkd C j11 (k := 0) rfl
    refine z_aload C 1 dX10_cascade_84 rfl ?_
    refine z_aload C 0 dX10_cascade_86 rfl ?_
    refine z_callV_B (As := [.ref (B + qj1), .ref (B + ((v0 + 1) + 1)), .ref (B + qj2), .ref (B + qj3)]) (rest := []) C rfl (ctX1_build (zG_of C) N (v0 + 135) qj1 ((v0 + 1) + 1) qj2 qj3 j10 hqj1 j12 hqj2 hqj3 Mj8) cw_RX10_343 rfl (okM_X1_build) rfl cl1 j10 (okR_of rfl) (Nat.le_of_ble_eq_true rfl) dX10_cascade_88 (fun qj13 _ => ?_)
    refine z_if_neB C 96 dX10_cascade_91 rfl (fun _ => ?_) (fun _ => ?_)
    · refine z_iload C 7 dX10_cascade_96 rfl ?_
      refine z_if_ne C 111 dX10_cascade_98 rfl (fun _ => ?_) (fun _ => ?_)
      · refine z_aload_n C 0 3 dX10_cascade_101 rfl rfl ?_
        refine z_getR (k := 12) C cl10 h0 rfl gw_2_172 rfl dX10_cascade_102 ?_
        have j14 : kd (v0 + 135) = 1 := zkd C h0 (k := 12) rfl
        refine z_getI (k := 0) C cl1 j14 rfl gw_2_142 rfl dX10_cascade_105 ?_
        refine z_goto C 134 dX10_cascade_108 rfl ?_
        exact z_iret C hr (Nat.le_of_ble_eq_true rfl) dX10_cascade_134 rfl
      · refine z_iload C 7 dX10_cascade_111 rfl ?_
        refine z_iconst C dX10_cascade_113 rfl ?_
        refine z_icmp_ne C 127 dX10_cascade_114 rfl (fun _ => ?_) (fun _ => ?_)
        · refine z_aload_n C 0 3 dX10_cascade_117 rfl rfl ?_
          refine z_getR (k := 12) C cl10 h0 rfl gw_2_172 rfl dX10_cascade_118 ?_
          have j15 : kd (v0 + 135) = 1 := zkd C h0 (k := 12) rfl
          refine z_getI (k := 1) C cl1 j15 rfl gw_2_144 rfl dX10_cascade_121 ?_
          refine z_goto C 134 dX10_cascade_124 rfl ?_
          exact z_iret C hr (Nat.le_of_ble_eq_true rfl) dX10_cascade_134 rfl
        · refine z_aload_n C 0 3 dX10_cascade_127 rfl rfl ?_
          refine z_getR (k := 12) C cl10 h0 rfl gw_2_172 rfl dX10_cascade_128 ?_
          have j16 : kd (v0 + 135) = 1 := zkd C h0 (k := 12) rfl
          refine z_getI (k := 2) C cl1 j16 rfl gw_2_146 rfl dX10_cascade_131 ?_
          exact z_iret C hr (Nat.le_of_ble_eq_true rfl) dX10_cascade_134 rfl
    · refine z_iconst C dX10_cascade_94 rfl ?_
      exact z_iret C hr (Nat.le_of_ble_eq_true rfl) dX10_cascade_95 rfl
  · exact z_throwW C cvX_I ht ex3 gw_2_236 gw_3_39 (i := 28) rfl ⟨Nat.le_of_ble_eq_true rfl, Nat.le_of_ble_eq_true rfl, Nat.le_of_ble_eq_true rfl, Nat.le_of_ble_eq_true rfl⟩ (Nat.le_of_ble_eq_true rfl) (Nat.le_of_ble_eq_true rfl) dX10_cascade_60 dX10_cascade_63 dX10_cascade_64 dX10_cascade_67 dX10_cascade_70
set_option maxHeartbeats 4000000 in
set_option maxRecDepth 100000 in
theorem z_fX10_learn_b82 {p : Program} {l : Launch} {e : Env} {s : State} {m : MethodId} {args : Array Value} {below : List Frame} {meth : Method} {c : Code} {D : va_G} {cy : Nat → ClassId} {B : Nat} {kd : Nat → Nat} {n : Nat} {sa sv : Nat → Nat} (C : zC p l s m args meth c D cy B kd n sa sv RX10 cX10_learn 6) (ht : ∀ x ∈ c.exceptionTable.toList, False) (hr : meth.sig.returnType = some (FieldType.int)) {b0 : (Nat ⊕ Int32) × Mem}  (N : Nat) (s0 : Bool) (s1 : Nat) (M : Mem) (hs1 : kd s1 = 0)  : Z p l e (rmz 5 69) s m args below meth c (vx_MQ below (QcR D cy B kd n (xIc b0)) (XcR D cy B kd n (xIc b0)) args s 69 (6 * 69) (AA B kd n)) D cy B kd n 6 b0 69 82 [] [.int (bI s0), .ref (B + s1)] M (fX10_learn_b82 N s0 s1 M) := by
  unfold fX10_learn_b82
  refine z_callV_pI (As := [.int (bI s0)]) (rest := []) C rfl (ctX0_knownNames (zG_of C) N s1 s0 hs1 M) cw_RX10_363 rfl (okM_X0_knownNames) rfl cl0 hs1 (okR_of rfl) (Nat.le_of_ble_eq_true rfl) dX10_learn_82 (fun qj1 _ => ?_)
  exact z_iret C hr (Nat.le_of_ble_eq_true rfl) dX10_learn_85 rfl
set_option maxHeartbeats 4000000 in
set_option maxRecDepth 100000 in
theorem ctX10_learn {l : Launch} {D : va_G} {cy : Nat → ClassId} {B : Nat} {kd : Nat → Nat} {n : Nat} {sa sv : Nat → Nat} (G : zG l kd n) (N : Nat) (v0 : Nat) (v1 : Int32) (v2 : Int32) (v3 : Int32) (h0 : kd v0 = 10) (M : Mem) : CT l D cy B kd n sa sv 5 69 yX10_learn cX10_learn 6 (some (FieldType.int)) xIc [.ref (B + v0), .int v1, .int v2, .int v3] M (fX10_learn N v0 v1 v2 v3 M) := by
  refine ct_of (by decide) G.1 G.2 (Nat.le_of_ble_eq_true rfl) (ls := [(0, .ref (B + v0)), (1, .int v1), (2, .int v2), (3, .int v3)]) rfl ?_
  intro p e s m args below meth c b0 C ht hr
  unfold fX10_learn
  refine z_aload_n C 0 0 dX10_learn_0 rfl rfl ?_
  refine z_iload_n C 1 1 dX10_learn_1 rfl rfl ?_
  refine z_callXV_A (As := [.int v1]) (rest := []) C cvX_I ht rfl (ctX10_rowAt (zG_of C) v0 v1 h0 M) cw_RX10_167 rfl (okM_X10_rowAt) rfl cl10 h0 (okR_of rfl) (Nat.le_of_ble_eq_true rfl) (Nat.le_of_ble_eq_true rfl) dX10_learn_2 (fun qj1 Mj1 hEj1 => ?_)
  have hqj1 : kd qj1 = 5 := kdX10_rowAt (zG_of C) h0 hEj1
  refine z_astore C 4 (ls1 := [(4, .ref (B + qj1)), (0, .ref (B + v0)), (1, .int v1), (2, .int v2), (3, .int v3)]) dX10_learn_5 (by decide) rfl ?_
  refine z_aload_n C 0 1 dX10_learn_7 rfl rfl ?_
  refine z_iload_n C 2 3 dX10_learn_8 rfl rfl ?_
  refine z_callXV_A (As := [.int v2]) (rest := []) C cvX_I ht rfl (ctX10_trayAt (zG_of C) v0 v2 h0 Mj1) cw_RX10_285 rfl (okM_X10_trayAt) rfl cl10 h0 (okR_of rfl) (Nat.le_of_ble_eq_true rfl) (Nat.le_of_ble_eq_true rfl) dX10_learn_9 (fun qj2 Mj2 hEj2 => ?_)
  have hqj2 : kd qj2 = 9 := kdX10_trayAt (zG_of C) h0 hEj2
  refine z_astore C 5 (ls1 := [(5, .ref (B + qj2)), (4, .ref (B + qj1)), (0, .ref (B + v0)), (1, .int v1), (2, .int v2), (3, .int v3)]) dX10_learn_12 (by decide) rfl ?_
  refine z_aload C 1 dX10_learn_14 rfl ?_
  refine z_iconst C dX10_learn_16 rfl ?_
  refine z_callXS_V (As := [.ref (B + qj1), .int (0 : Int32)]) (rest := []) C cvX_I ht rfl (ctX10_needKind (zG_of C) qj1 (0 : Int32) hqj1 Mj2) cw_RX10_213 (okM_X10_needKind) rfl (okR_of rfl) (Nat.le_of_ble_eq_true rfl) (Nat.le_of_ble_eq_true rfl) dX10_learn_17 (fun qj3 Mj3 hEj3 => ?_)
  refine z_aload C 0 dX10_learn_20 rfl ?_
  refine z_callXS_V (As := [.ref (B + qj2)]) (rest := []) C cvX_I ht rfl (ctX10_needFilled (zG_of C) qj2 hqj2 Mj3) cw_RX10_289 (okM_X10_needFilled) rfl (okR_of rfl) (Nat.le_of_ble_eq_true rfl) (Nat.le_of_ble_eq_true rfl) dX10_learn_22 (fun qj4 Mj4 hEj4 => ?_)
  refine z_iload_n C 3 5 dX10_learn_25 rfl rfl ?_
  refine z_iconst C dX10_learn_26 rfl ?_
  refine z_callXS_V (As := [.int v3, .int (2 : Int32)]) (rest := []) C cvX_I ht rfl (ctX10_needWhat (zG_of C) v3 (2 : Int32) Mj4) cw_RX10_335 (okM_X10_needWhat) rfl (okR_of rfl) (Nat.le_of_ble_eq_true rfl) (Nat.le_of_ble_eq_true rfl) dX10_learn_27 (fun qj5 Mj5 hEj5 => ?_)
  refine z_aload_n C 0 2 dX10_learn_30 rfl rfl ?_
  refine z_aload C 0 dX10_learn_31 rfl ?_
  refine z_callXV_V (As := [.ref (B + qj2)]) (rest := []) C cvX_I ht rfl (ctX10_needNames (zG_of C) N v0 qj2 h0 hqj2 Mj5) cw_RX10_293 rfl (okM_X10_needNames) rfl cl10 h0 (okR_of rfl) (Nat.le_of_ble_eq_true rfl) (Nat.le_of_ble_eq_true rfl) dX10_learn_33 (fun qj6 Mj6 hEj6 => ?_)
  refine z_aload_n C 0 2 dX10_learn_36 rfl rfl ?_
  refine z_getR (k := 11) C cl10 h0 rfl gw_2_171 rfl dX10_learn_37 ?_
  have j7 : kd (v0 + 130) = 0 := zkd C h0 (k := 11) rfl
  refine z_aload C 1 dX10_learn_40 rfl ?_
  refine z_aload_n C 0 2 dX10_learn_42 rfl rfl ?_
  refine z_getR (k := 4) C cl10 h0 rfl gw_2_164 rfl dX10_learn_43 ?_
  have j8 : kd (v0 + 1) = 7 := zkd C h0 (k := 4) rfl
  refine z_getR (k := 0) C cl7 j8 rfl gw_1_175 rfl dX10_learn_46 ?_
  have j9 : kd ((v0 + 1) + 1) = 6 := zkd C j8 (k := 0) rfl
  refine z_aload C 0 dX10_learn_49 rfl ?_
  refine z_callV_V (As := [.ref (B + qj1), .ref (B + ((v0 + 1) + 1)), .ref (B + qj2)]) (rest := []) C rfl (ctX0_hear (zG_of C) N (v0 + 130) qj1 ((v0 + 1) + 1) qj2 j7 hqj1 j9 hqj2 Mj6) cw_RX10_356 rfl (okM_X0_hear) rfl cl0 j7 (okR_of rfl) (Nat.le_of_ble_eq_true rfl) dX10_learn_51 (fun qj10 _ => ?_)
  refine z_iload_n C 3 5 dX10_learn_54 rfl rfl ?_
  refine z_if_ne C 68 dX10_learn_55 rfl (fun _ => ?_) (fun _ => ?_)
  · refine z_aload_n C 0 2 dX10_learn_58 rfl rfl ?_
    refine z_getR (k := 11) C cl10 h0 rfl gw_2_171 rfl dX10_learn_59 ?_
    have j11 : kd (v0 + 130) = 0 := zkd C h0 (k := 11) rfl
    refine z_callV_pI (As := []) (rest := []) C rfl (ctX0_knownPlaces (zG_of C) (v0 + 130) j11 qj10) cw_RX10_360 rfl (okM_X0_knownPlaces) rfl cl0 j11 (okR_of rfl) (Nat.le_of_ble_eq_true rfl) dX10_learn_62 (fun qj12 _ => ?_)
    refine z_goto C 85 dX10_learn_65 rfl ?_
    exact z_iret C hr (Nat.le_of_ble_eq_true rfl) dX10_learn_85 rfl
  · refine z_aload_n C 0 2 dX10_learn_68 rfl rfl ?_
    refine z_getR (k := 11) C cl10 h0 rfl gw_2_171 rfl dX10_learn_69 ?_
    have j13 : kd (v0 + 130) = 0 := zkd C h0 (k := 11) rfl
    refine z_iload_n C 3 5 dX10_learn_72 rfl rfl ?_
    refine z_iconst C dX10_learn_73 rfl ?_
    refine z_icmp_ne C 81 dX10_learn_74 rfl (fun _ => ?_) (fun _ => ?_)
    · refine z_iconst C dX10_learn_77 rfl ?_
      refine z_goto C 82 dX10_learn_78 rfl ?_
      exact z_jump (ls1 := []) (Nat.le_of_ble_eq_true rfl) [] rfl (z_fX10_learn_b82 C ht hr N true (v0 + 130) qj10 j13)
    · refine z_iconst C dX10_learn_81 rfl ?_
      exact z_jump (ls1 := []) (Nat.le_of_ble_eq_true rfl) [] rfl (z_fX10_learn_b82 C ht hr N false (v0 + 130) qj10 j13)
set_option maxHeartbeats 4000000 in
set_option maxRecDepth 100000 in
theorem ctX10_ask {l : Launch} {D : va_G} {cy : Nat → ClassId} {B : Nat} {kd : Nat → Nat} {n : Nat} {sa sv : Nat → Nat} (G : zG l kd n) (N : Nat) (v0 : Nat) (v1 : Int32) (v2 : Int32) (h0 : kd v0 = 10) (M : Mem) : CT l D cy B kd n sa sv 5 68 yX10_ask cX10_ask 5 (some (FieldType.int)) xIc [.ref (B + v0), .int v1, .int v2] M (fX10_ask N v0 v1 v2 M) := by
  refine ct_of (by decide) G.1 G.2 (Nat.le_of_ble_eq_true rfl) (ls := [(0, .ref (B + v0)), (1, .int v1), (2, .int v2)]) rfl ?_
  intro p e s m args below meth c b0 C ht hr
  unfold fX10_ask
  refine z_aload_n C 0 0 dX10_ask_0 rfl rfl ?_
  refine z_iload_n C 1 1 dX10_ask_1 rfl rfl ?_
  refine z_callXV_A (As := [.int v1]) (rest := []) C cvX_I ht rfl (ctX10_rowAt (zG_of C) v0 v1 h0 M) cw_RX10_167 rfl (okM_X10_rowAt) rfl cl10 h0 (okR_of rfl) (Nat.le_of_ble_eq_true rfl) (Nat.le_of_ble_eq_true rfl) dX10_ask_2 (fun qj1 Mj1 hEj1 => ?_)
  have hqj1 : kd qj1 = 5 := kdX10_rowAt (zG_of C) h0 hEj1
  refine z_astore_n C 3 (ls1 := [(3, .ref (B + qj1)), (0, .ref (B + v0)), (1, .int v1), (2, .int v2)]) dX10_ask_5 rfl (by decide) rfl ?_
  refine z_aload_n C 0 1 dX10_ask_6 rfl rfl ?_
  refine z_iload_n C 2 3 dX10_ask_7 rfl rfl ?_
  refine z_callXV_A (As := [.int v2]) (rest := []) C cvX_I ht rfl (ctX10_trayAt (zG_of C) v0 v2 h0 Mj1) cw_RX10_285 rfl (okM_X10_trayAt) rfl cl10 h0 (okR_of rfl) (Nat.le_of_ble_eq_true rfl) (Nat.le_of_ble_eq_true rfl) dX10_ask_8 (fun qj2 Mj2 hEj2 => ?_)
  have hqj2 : kd qj2 = 9 := kdX10_trayAt (zG_of C) h0 hEj2
  refine z_astore C 4 (ls1 := [(4, .ref (B + qj2)), (3, .ref (B + qj1)), (0, .ref (B + v0)), (1, .int v1), (2, .int v2)]) dX10_ask_11 (by decide) rfl ?_
  refine z_aload_n C 3 1 dX10_ask_13 rfl rfl ?_
  refine z_iconst C dX10_ask_14 rfl ?_
  refine z_callXS_V (As := [.ref (B + qj1), .int (0 : Int32)]) (rest := []) C cvX_I ht rfl (ctX10_needKind (zG_of C) qj1 (0 : Int32) hqj1 Mj2) cw_RX10_213 (okM_X10_needKind) rfl (okR_of rfl) (Nat.le_of_ble_eq_true rfl) (Nat.le_of_ble_eq_true rfl) dX10_ask_15 (fun qj3 Mj3 hEj3 => ?_)
  refine z_aload C 0 dX10_ask_18 rfl ?_
  refine z_callXS_V (As := [.ref (B + qj2)]) (rest := []) C cvX_I ht rfl (ctX10_needFilled (zG_of C) qj2 hqj2 Mj3) cw_RX10_289 (okM_X10_needFilled) rfl (okR_of rfl) (Nat.le_of_ble_eq_true rfl) (Nat.le_of_ble_eq_true rfl) dX10_ask_20 (fun qj4 Mj4 hEj4 => ?_)
  refine z_aload_n C 0 2 dX10_ask_23 rfl rfl ?_
  refine z_aload C 0 dX10_ask_24 rfl ?_
  refine z_callXV_V (As := [.ref (B + qj2)]) (rest := []) C cvX_I ht rfl (ctX10_needNames (zG_of C) N v0 qj2 h0 hqj2 Mj4) cw_RX10_293 rfl (okM_X10_needNames) rfl cl10 h0 (okR_of rfl) (Nat.le_of_ble_eq_true rfl) (Nat.le_of_ble_eq_true rfl) dX10_ask_26 (fun qj5 Mj5 hEj5 => ?_)
  refine z_aload_n C 0 2 dX10_ask_29 rfl rfl ?_
  refine z_getR (k := 11) C cl10 h0 rfl gw_2_171 rfl dX10_ask_30 ?_
  have j6 : kd (v0 + 130) = 0 := zkd C h0 (k := 11) rfl
  refine z_aload_n C 3 1 dX10_ask_33 rfl rfl ?_
  refine z_aload_n C 0 2 dX10_ask_34 rfl rfl ?_
  refine z_getR (k := 4) C cl10 h0 rfl gw_2_164 rfl dX10_ask_35 ?_
  have j7 : kd (v0 + 1) = 7 := zkd C h0 (k := 4) rfl
  refine z_getR (k := 0) C cl7 j7 rfl gw_1_175 rfl dX10_ask_38 ?_
  have j8 : kd ((v0 + 1) + 1) = 6 := zkd C j7 (k := 0) rfl
  refine z_aload C 0 dX10_ask_41 rfl ?_
  refine z_callV_V (As := [.ref (B + qj1), .ref (B + ((v0 + 1) + 1)), .ref (B + qj2)]) (rest := []) C rfl (ctX0_hear (zG_of C) N (v0 + 130) qj1 ((v0 + 1) + 1) qj2 j6 hqj1 j8 hqj2 Mj5) cw_RX10_356 rfl (okM_X0_hear) rfl cl0 j6 (okR_of rfl) (Nat.le_of_ble_eq_true rfl) dX10_ask_43 (fun qj9 _ => ?_)
  refine z_aload_n C 0 2 dX10_ask_46 rfl rfl ?_
  refine z_getR (k := 11) C cl10 h0 rfl gw_2_171 rfl dX10_ask_47 ?_
  have j10 : kd (v0 + 130) = 0 := zkd C h0 (k := 11) rfl
  refine z_callV_pI (As := []) (rest := []) C rfl (ctX0_bestQuestion (zG_of C) N (v0 + 130) j10 qj9) cw_RX10_367 rfl (okM_X0_bestQuestion) rfl cl0 j10 (okR_of rfl) (Nat.le_of_ble_eq_true rfl) dX10_ask_50 (fun qj11 _ => ?_)
  exact z_iret C hr (Nat.le_of_ble_eq_true rfl) dX10_ask_53 rfl
set_option maxHeartbeats 4000000 in
set_option maxRecDepth 100000 in
theorem ctX10_worst {l : Launch} {D : va_G} {cy : Nat → ClassId} {B : Nat} {kd : Nat → Nat} {n : Nat} {sa sv : Nat → Nat} (G : zG l kd n) (N : Nat) (v0 : Nat) (v1 : Int32) (v2 : Int32) (h0 : kd v0 = 10) (M : Mem) : CT l D cy B kd n sa sv 5 3 yX10_worst cX10_worst 4 (some (FieldType.int)) xIc [.ref (B + v0), .int v1, .int v2] M (fX10_worst N v0 v1 v2 M) := by
  refine ct_of (by decide) G.1 G.2 (Nat.le_of_ble_eq_true rfl) (ls := [(0, .ref (B + v0)), (1, .int v1), (2, .int v2)]) rfl ?_
  intro p e s m args below meth c b0 C ht hr
  unfold fX10_worst
  refine z_aload_n C 0 0 dX10_worst_0 rfl rfl ?_
  refine z_iload_n C 1 1 dX10_worst_1 rfl rfl ?_
  refine z_callXV_A (As := [.int v1]) (rest := []) C cvX_I ht rfl (ctX10_rowAt (zG_of C) v0 v1 h0 M) cw_RX10_167 rfl (okM_X10_rowAt) rfl cl10 h0 (okR_of rfl) (Nat.le_of_ble_eq_true rfl) (Nat.le_of_ble_eq_true rfl) dX10_worst_2 (fun qj1 Mj1 hEj1 => ?_)
  have hqj1 : kd qj1 = 5 := kdX10_rowAt (zG_of C) h0 hEj1
  refine z_astore_n C 3 (ls1 := [(3, .ref (B + qj1)), (0, .ref (B + v0)), (1, .int v1), (2, .int v2)]) dX10_worst_5 rfl (by decide) rfl ?_
  refine z_aload_n C 3 0 dX10_worst_6 rfl rfl ?_
  refine z_iconst C dX10_worst_7 rfl ?_
  refine z_callXS_V (As := [.ref (B + qj1), .int (0 : Int32)]) (rest := []) C cvX_I ht rfl (ctX10_needKind (zG_of C) qj1 (0 : Int32) hqj1 Mj1) cw_RX10_213 (okM_X10_needKind) rfl (okR_of rfl) (Nat.le_of_ble_eq_true rfl) (Nat.le_of_ble_eq_true rfl) dX10_worst_8 (fun qj2 Mj2 hEj2 => ?_)
  refine z_iload_n C 2 3 dX10_worst_11 rfl rfl ?_
  refine z_iconst C dX10_worst_12 rfl ?_
  refine z_callXS_V (As := [.int v2, .int (1 : Int32)]) (rest := []) C cvX_I ht rfl (ctX10_needWhat (zG_of C) v2 (1 : Int32) Mj2) cw_RX10_335 (okM_X10_needWhat) rfl (okR_of rfl) (Nat.le_of_ble_eq_true rfl) (Nat.le_of_ble_eq_true rfl) dX10_worst_13 (fun qj3 Mj3 hEj3 => ?_)
  refine z_aload_n C 0 1 dX10_worst_16 rfl rfl ?_
  refine z_getR (k := 11) C cl10 h0 rfl gw_2_171 rfl dX10_worst_17 ?_
  have j4 : kd (v0 + 130) = 0 := zkd C h0 (k := 11) rfl
  refine z_aload_n C 3 0 dX10_worst_20 rfl rfl ?_
  refine z_aload_n C 0 1 dX10_worst_21 rfl rfl ?_
  refine z_getR (k := 4) C cl10 h0 rfl gw_2_164 rfl dX10_worst_22 ?_
  have j5 : kd (v0 + 1) = 7 := zkd C h0 (k := 4) rfl
  refine z_getR (k := 0) C cl7 j5 rfl gw_1_175 rfl dX10_worst_25 ?_
  have j6 : kd ((v0 + 1) + 1) = 6 := zkd C j5 (k := 0) rfl
  refine z_callV_B (As := [.ref (B + qj1), .ref (B + ((v0 + 1) + 1))]) (rest := []) C rfl (ctX0_findWorst (zG_of C) N (v0 + 130) qj1 ((v0 + 1) + 1) j4 hqj1 j6 Mj3) cw_RX10_370 rfl (okM_X0_findWorst) rfl cl0 j4 (okR_of rfl) (Nat.le_of_ble_eq_true rfl) dX10_worst_28 (fun qj7 _ => ?_)
  refine z_if_neB C 36 dX10_worst_31 rfl (fun _ => ?_) (fun _ => ?_)
  · refine z_iload_n C 2 3 dX10_worst_36 rfl rfl ?_
    refine z_if_ne C 50 dX10_worst_37 rfl (fun _ => ?_) (fun _ => ?_)
    · refine z_aload_n C 0 1 dX10_worst_40 rfl rfl ?_
      refine z_getR (k := 11) C cl10 h0 rfl gw_2_171 rfl dX10_worst_41 ?_
      have j8 : kd (v0 + 130) = 0 := zkd C h0 (k := 11) rfl
      refine z_getI (k := 0) C cl0 j8 rfl gw_2_99 rfl dX10_worst_44 ?_
      refine z_goto C 57 dX10_worst_47 rfl ?_
      exact z_iret C hr (Nat.le_of_ble_eq_true rfl) dX10_worst_57 rfl
    · refine z_aload_n C 0 1 dX10_worst_50 rfl rfl ?_
      refine z_getR (k := 11) C cl10 h0 rfl gw_2_171 rfl dX10_worst_51 ?_
      have j9 : kd (v0 + 130) = 0 := zkd C h0 (k := 11) rfl
      refine z_getI (k := 1) C cl0 j9 rfl gw_2_101 rfl dX10_worst_54 ?_
      exact z_iret C hr (Nat.le_of_ble_eq_true rfl) dX10_worst_57 rfl
  · refine z_iconst C dX10_worst_34 rfl ?_
    exact z_iret C hr (Nat.le_of_ble_eq_true rfl) dX10_worst_35 rfl
set_option maxHeartbeats 4000000 in
set_option maxRecDepth 100000 in
theorem ctX10_blame {l : Launch} {D : va_G} {cy : Nat → ClassId} {B : Nat} {kd : Nat → Nat} {n : Nat} {sa sv : Nat → Nat} (G : zG l kd n) (N : Nat) (v0 : Nat) (v1 : Int32) (v2 : Int32) (h0 : kd v0 = 10) (M : Mem) : CT l D cy B kd n sa sv 4 3 yX10_blame cX10_blame 4 (some (FieldType.int)) xIc [.ref (B + v0), .int v1, .int v2] M (fX10_blame N v0 v1 v2 M) := by
  refine ct_of (by decide) G.1 G.2 (Nat.le_of_ble_eq_true rfl) (ls := [(0, .ref (B + v0)), (1, .int v1), (2, .int v2)]) rfl ?_
  intro p e s m args below meth c b0 C ht hr
  unfold fX10_blame
  refine z_aload_n C 0 0 dX10_blame_0 rfl rfl ?_
  refine z_iload_n C 1 1 dX10_blame_1 rfl rfl ?_
  refine z_callXV_A (As := [.int v1]) (rest := []) C cvX_I ht rfl (ctX10_rowAt (zG_of C) v0 v1 h0 M) cw_RX10_167 rfl (okM_X10_rowAt) rfl cl10 h0 (okR_of rfl) (Nat.le_of_ble_eq_true rfl) (Nat.le_of_ble_eq_true rfl) dX10_blame_2 (fun qj1 Mj1 hEj1 => ?_)
  have hqj1 : kd qj1 = 5 := kdX10_rowAt (zG_of C) h0 hEj1
  refine z_astore_n C 3 (ls1 := [(3, .ref (B + qj1)), (0, .ref (B + v0)), (1, .int v1), (2, .int v2)]) dX10_blame_5 rfl (by decide) rfl ?_
  refine z_aload_n C 3 0 dX10_blame_6 rfl rfl ?_
  refine z_iconst C dX10_blame_7 rfl ?_
  refine z_callXS_V (As := [.ref (B + qj1), .int (0 : Int32)]) (rest := []) C cvX_I ht rfl (ctX10_needKind (zG_of C) qj1 (0 : Int32) hqj1 Mj1) cw_RX10_213 (okM_X10_needKind) rfl (okR_of rfl) (Nat.le_of_ble_eq_true rfl) (Nat.le_of_ble_eq_true rfl) dX10_blame_8 (fun qj2 Mj2 hEj2 => ?_)
  refine z_aload_n C 0 1 dX10_blame_11 rfl rfl ?_
  refine z_iload_n C 2 3 dX10_blame_12 rfl rfl ?_
  refine z_i2l C dX10_blame_13 ?_
  refine z_callXV_V (As := [.long v2.toInt64]) (rest := []) C cvX_I ht rfl (ctX10_needName (zG_of C) v0 v2.toInt64 h0 Mj2) cw_RX10_137 rfl (okM_X10_needName) rfl cl10 h0 (okR_of rfl) (Nat.le_of_ble_eq_true rfl) (Nat.le_of_ble_eq_true rfl) dX10_blame_14 (fun qj3 Mj3 hEj3 => ?_)
  refine z_aload_n C 0 1 dX10_blame_17 rfl rfl ?_
  refine z_getR (k := 11) C cl10 h0 rfl gw_2_171 rfl dX10_blame_18 ?_
  have j4 : kd (v0 + 130) = 0 := zkd C h0 (k := 11) rfl
  refine z_aload_n C 3 0 dX10_blame_21 rfl rfl ?_
  refine z_aload_n C 0 1 dX10_blame_22 rfl rfl ?_
  refine z_getR (k := 4) C cl10 h0 rfl gw_2_164 rfl dX10_blame_23 ?_
  have j5 : kd (v0 + 1) = 7 := zkd C h0 (k := 4) rfl
  refine z_getR (k := 0) C cl7 j5 rfl gw_1_175 rfl dX10_blame_26 ?_
  have j6 : kd ((v0 + 1) + 1) = 6 := zkd C j5 (k := 0) rfl
  refine z_iload_n C 2 3 dX10_blame_29 rfl rfl ?_
  refine z_callV_I (As := [.ref (B + qj1), .ref (B + ((v0 + 1) + 1)), .int v2]) (rest := []) C rfl (ctX0_fewestHolding (zG_of C) N (v0 + 130) qj1 ((v0 + 1) + 1) v2 j4 hqj1 j6 Mj3) cw_RX10_379 rfl (okM_X0_fewestHolding) rfl cl0 j4 (okR_of rfl) (Nat.le_of_ble_eq_true rfl) dX10_blame_30 (fun qj7 _ => ?_)
  exact z_iret C hr (Nat.le_of_ble_eq_true rfl) dX10_blame_33 rfl
set_option maxHeartbeats 4000000 in
set_option maxRecDepth 100000 in
theorem z_fX10_choose_b18 {p : Program} {l : Launch} {e : Env} {s : State} {m : MethodId} {args : Array Value} {below : List Frame} {meth : Method} {c : Code} {D : va_G} {cy : Nat → ClassId} {B : Nat} {kd : Nat → Nat} {n : Nat} {sa sv : Nat → Nat} (C : zC p l s m args meth c D cy B kd n sa sv RX10 cX10_choose 5) (ht : ∀ x ∈ c.exceptionTable.toList, False) (hr : meth.sig.returnType = some (FieldType.int)) {b0 : (Nat ⊕ Int32) × Mem}  (N : Nat) (M : Mem)  : Z p l e (rmz 4 3) s m args below meth c (vx_MQ below (QcR D cy B kd n (xIc b0)) (XcR D cy B kd n (xIc b0)) args s 3 (6 * 3) (AA B kd n)) D cy B kd n 5 b0 1 18 [] [] M (fX10_choose_b18 N M) := by
  unfold fX10_choose_b18
  exact z_throwW C cvX_I ht ex3 gw_2_236 gw_3_39 (i := 29) rfl ⟨Nat.le_of_ble_eq_true rfl, Nat.le_of_ble_eq_true rfl, Nat.le_of_ble_eq_true rfl, Nat.le_of_ble_eq_true rfl⟩ (Nat.le_of_ble_eq_true rfl) (Nat.le_of_ble_eq_true rfl) dX10_choose_18 dX10_choose_21 dX10_choose_22 dX10_choose_25 dX10_choose_28
set_option maxHeartbeats 4000000 in
set_option maxRecDepth 100000 in
theorem ctX10_choose {l : Launch} {D : va_G} {cy : Nat → ClassId} {B : Nat} {kd : Nat → Nat} {n : Nat} {sa sv : Nat → Nat} (G : zG l kd n) (N : Nat) (v0 : Nat) (v1 : Int32) (v2 : Int32) (v3 : Int32) (h0 : kd v0 = 10) (M : Mem) : CT l D cy B kd n sa sv 4 3 yX10_choose cX10_choose 5 (some (FieldType.int)) xIc [.ref (B + v0), .int v1, .int v2, .int v3] M (fX10_choose N v0 v1 v2 v3 M) := by
  refine ct_of (by decide) G.1 G.2 (Nat.le_of_ble_eq_true rfl) (ls := [(0, .ref (B + v0)), (1, .int v1), (2, .int v2), (3, .int v3)]) rfl ?_
  intro p e s m args below meth c b0 C ht hr
  unfold fX10_choose
  refine z_aload_n C 0 0 dX10_choose_0 rfl rfl ?_
  refine z_iload_n C 1 1 dX10_choose_1 rfl rfl ?_
  refine z_callXV_A (As := [.int v1]) (rest := []) C cvX_I ht rfl (ctX10_rowAt (zG_of C) v0 v1 h0 M) cw_RX10_167 rfl (okM_X10_rowAt) rfl cl10 h0 (okR_of rfl) (Nat.le_of_ble_eq_true rfl) (Nat.le_of_ble_eq_true rfl) dX10_choose_2 (fun qj1 Mj1 hEj1 => ?_)
  have hqj1 : kd qj1 = 5 := kdX10_rowAt (zG_of C) h0 hEj1
  refine z_astore C 4 (ls1 := [(4, .ref (B + qj1)), (0, .ref (B + v0)), (1, .int v1), (2, .int v2), (3, .int v3)]) dX10_choose_5 (by decide) rfl ?_
  refine z_iload_n C 2 3 dX10_choose_7 rfl rfl ?_
  refine z_if_lt C 18 dX10_choose_8 rfl (fun _ => ?_) (fun _ => ?_)
  · exact z_jump (ls1 := []) (Nat.le_of_ble_eq_true rfl) [] rfl (z_fX10_choose_b18 C ht hr N Mj1)
  · refine z_iload_n C 2 3 dX10_choose_11 rfl rfl ?_
    refine z_sipush (v := 999) C dX10_choose_12 rfl ?_
    refine z_icmp_le C 29 dX10_choose_15 rfl (fun _ => ?_) (fun _ => ?_)
    · refine z_iload_n C 3 4 dX10_choose_29 rfl rfl ?_
      refine z_iconst C dX10_choose_30 rfl ?_
      refine z_callXS_V (As := [.int v3, .int (2 : Int32)]) (rest := []) C cvX_I ht rfl (ctX10_needWhat (zG_of C) v3 (2 : Int32) Mj1) cw_RX10_335 (okM_X10_needWhat) rfl (okR_of rfl) (Nat.le_of_ble_eq_true rfl) (Nat.le_of_ble_eq_true rfl) dX10_choose_31 (fun qj2 Mj2 hEj2 => ?_)
      refine z_aload_n C 0 1 dX10_choose_34 rfl rfl ?_
      refine z_getR (k := 11) C cl10 h0 rfl gw_2_171 rfl dX10_choose_35 ?_
      have j3 : kd (v0 + 130) = 0 := zkd C h0 (k := 11) rfl
      refine z_aload C 0 dX10_choose_38 rfl ?_
      refine z_aload_n C 0 1 dX10_choose_40 rfl rfl ?_
      refine z_getR (k := 4) C cl10 h0 rfl gw_2_164 rfl dX10_choose_41 ?_
      have j4 : kd (v0 + 1) = 7 := zkd C h0 (k := 4) rfl
      refine z_getR (k := 0) C cl7 j4 rfl gw_1_175 rfl dX10_choose_44 ?_
      have j5 : kd ((v0 + 1) + 1) = 6 := zkd C j4 (k := 0) rfl
      refine z_iload_n C 2 3 dX10_choose_47 rfl rfl ?_
      refine z_callV_B (As := [.ref (B + qj1), .ref (B + ((v0 + 1) + 1)), .int v2]) (rest := []) C rfl (ctX0_findChosen (zG_of C) N (v0 + 130) qj1 ((v0 + 1) + 1) v2 j3 hqj1 j5 Mj2) cw_RX10_385 rfl (okM_X0_findChosen) rfl cl0 j3 (okR_of rfl) (Nat.le_of_ble_eq_true rfl) dX10_choose_48 (fun qj6 _ => ?_)
      refine z_if_neB C 56 dX10_choose_51 rfl (fun _ => ?_) (fun _ => ?_)
      · refine z_iload_n C 3 4 dX10_choose_56 rfl rfl ?_
        refine z_if_ne C 70 dX10_choose_57 rfl (fun _ => ?_) (fun _ => ?_)
        · refine z_aload_n C 0 1 dX10_choose_60 rfl rfl ?_
          refine z_getR (k := 11) C cl10 h0 rfl gw_2_171 rfl dX10_choose_61 ?_
          have j7 : kd (v0 + 130) = 0 := zkd C h0 (k := 11) rfl
          refine z_getI (k := 2) C cl0 j7 rfl gw_2_103 rfl dX10_choose_64 ?_
          refine z_goto C 92 dX10_choose_67 rfl ?_
          exact z_iret C hr (Nat.le_of_ble_eq_true rfl) dX10_choose_92 rfl
        · refine z_iload_n C 3 4 dX10_choose_70 rfl rfl ?_
          refine z_iconst C dX10_choose_71 rfl ?_
          refine z_icmp_ne C 85 dX10_choose_72 rfl (fun _ => ?_) (fun _ => ?_)
          · refine z_aload_n C 0 1 dX10_choose_75 rfl rfl ?_
            refine z_getR (k := 11) C cl10 h0 rfl gw_2_171 rfl dX10_choose_76 ?_
            have j8 : kd (v0 + 130) = 0 := zkd C h0 (k := 11) rfl
            refine z_getI (k := 3) C cl0 j8 rfl gw_2_105 rfl dX10_choose_79 ?_
            refine z_goto C 92 dX10_choose_82 rfl ?_
            exact z_iret C hr (Nat.le_of_ble_eq_true rfl) dX10_choose_92 rfl
          · refine z_aload_n C 0 1 dX10_choose_85 rfl rfl ?_
            refine z_getR (k := 11) C cl10 h0 rfl gw_2_171 rfl dX10_choose_86 ?_
            have j9 : kd (v0 + 130) = 0 := zkd C h0 (k := 11) rfl
            refine z_getI (k := 1) C cl0 j9 rfl gw_2_101 rfl dX10_choose_89 ?_
            exact z_iret C hr (Nat.le_of_ble_eq_true rfl) dX10_choose_92 rfl
      · refine z_iconst C dX10_choose_54 rfl ?_
        exact z_iret C hr (Nat.le_of_ble_eq_true rfl) dX10_choose_55 rfl
    · exact z_jump (ls1 := []) (Nat.le_of_ble_eq_true rfl) [] rfl (z_fX10_choose_b18 C ht hr N Mj1)
set_option maxHeartbeats 4000000 in
set_option maxRecDepth 100000 in
theorem z_fX10_tray_b26 {p : Program} {l : Launch} {e : Env} {s : State} {m : MethodId} {args : Array Value} {below : List Frame} {meth : Method} {c : Code} {D : va_G} {cy : Nat → ClassId} {B : Nat} {kd : Nat → Nat} {n : Nat} {sa sv : Nat → Nat} (C : zC p l s m args meth c D cy B kd n sa sv RX10 cX10_tray 5) (ht : ∀ x ∈ c.exceptionTable.toList, False) (hr : meth.sig.returnType = none) {b0 : (Nat ⊕ Unit) × Mem}  (N : Nat) (M : Mem)  : Z p l e (rmz 2 2) s m args below meth c (vx_MQ below (QcR D cy B kd n (xVc b0)) (XcR D cy B kd n (xVc b0)) args s 2 (6 * 2) (AA B kd n)) D cy B kd n 5 b0 1 26 [] [] M (fX10_tray_b26 N M) := by
  unfold fX10_tray_b26
  exact z_throwW C cvX_V ht ex3 gw_2_236 gw_3_39 (i := 30) rfl ⟨Nat.le_of_ble_eq_true rfl, Nat.le_of_ble_eq_true rfl, Nat.le_of_ble_eq_true rfl, Nat.le_of_ble_eq_true rfl⟩ (Nat.le_of_ble_eq_true rfl) (Nat.le_of_ble_eq_true rfl) dX10_tray_26 dX10_tray_29 dX10_tray_30 dX10_tray_33 dX10_tray_36
set_option maxHeartbeats 4000000 in
set_option maxRecDepth 100000 in
theorem ctX10_tray {l : Launch} {D : va_G} {cy : Nat → ClassId} {B : Nat} {kd : Nat → Nat} {n : Nat} {sa sv : Nat → Nat} (G : zG l kd n) (N : Nat) (v0 : Nat) (v1 : Int32) (v2 : Int32) (v3 : Int32) (h0 : kd v0 = 10) (M : Mem) : CT l D cy B kd n sa sv 2 2 yX10_tray cX10_tray 5 (none) xVc [.ref (B + v0), .int v1, .int v2, .int v3] M (fX10_tray N v0 v1 v2 v3 M) := by
  refine ct_of (by decide) G.1 G.2 (Nat.le_of_ble_eq_true rfl) (ls := [(0, .ref (B + v0)), (1, .int v1), (2, .int v2), (3, .int v3)]) rfl ?_
  intro p e s m args below meth c b0 C ht hr
  unfold fX10_tray
  refine z_aload_n C 0 0 dX10_tray_0 rfl rfl ?_
  refine z_iload_n C 1 1 dX10_tray_1 rfl rfl ?_
  refine z_callXV_A (As := [.int v1]) (rest := []) C cvX_V ht rfl (ctX10_trayAt (zG_of C) v0 v1 h0 M) cw_RX10_285 rfl (okM_X10_trayAt) rfl cl10 h0 (okR_of rfl) (Nat.le_of_ble_eq_true rfl) (Nat.le_of_ble_eq_true rfl) dX10_tray_2 (fun qj1 Mj1 hEj1 => ?_)
  have hqj1 : kd qj1 = 9 := kdX10_trayAt (zG_of C) h0 hEj1
  refine z_astore C 4 (ls1 := [(4, .ref (B + qj1)), (0, .ref (B + v0)), (1, .int v1), (2, .int v2), (3, .int v3)]) dX10_tray_5 (by decide) rfl ?_
  refine z_iload_n C 2 3 dX10_tray_7 rfl rfl ?_
  refine z_if_lt C 26 dX10_tray_8 rfl (fun _ => ?_) (fun _ => ?_)
  · exact z_jump (ls1 := []) (Nat.le_of_ble_eq_true rfl) [] rfl (z_fX10_tray_b26 C ht hr N Mj1)
  · refine z_iload_n C 2 3 dX10_tray_11 rfl rfl ?_
    refine z_iconst C dX10_tray_12 rfl ?_
    refine z_icmp_gt C 26 dX10_tray_13 rfl (fun _ => ?_) (fun _ => ?_)
    · exact z_jump (ls1 := []) (Nat.le_of_ble_eq_true rfl) [] rfl (z_fX10_tray_b26 C ht hr N Mj1)
    · refine z_iload_n C 3 4 dX10_tray_16 rfl rfl ?_
      refine z_if_lt C 26 dX10_tray_17 rfl (fun _ => ?_) (fun _ => ?_)
      · exact z_jump (ls1 := []) (Nat.le_of_ble_eq_true rfl) [] rfl (z_fX10_tray_b26 C ht hr N Mj1)
      · refine z_iload_n C 3 4 dX10_tray_20 rfl rfl ?_
        refine z_bipush (v := 40) C dX10_tray_21 rfl ?_
        refine z_icmp_le C 37 dX10_tray_23 rfl (fun _ => ?_) (fun _ => ?_)
        · refine z_aload C 0 dX10_tray_37 rfl ?_
          refine z_iload_n C 2 3 dX10_tray_39 rfl rfl ?_
          refine z_iload_n C 3 4 dX10_tray_40 rfl rfl ?_
          refine z_callV_V (As := [.int v2, .int v3]) (rest := []) C rfl (ctX9_begin (zG_of C) N qj1 v2 v3 hqj1 Mj1) cw_RX10_396 rfl (okM_X9_begin) rfl cl9 hqj1 (okR_of rfl) (Nat.le_of_ble_eq_true rfl) dX10_tray_41 (fun qj2 _ => ?_)
          exact z_vret C hr (Nat.le_of_ble_eq_true rfl) dX10_tray_44 rfl
        · exact z_jump (ls1 := []) (Nat.le_of_ble_eq_true rfl) [] rfl (z_fX10_tray_b26 C ht hr N Mj1)
set_option maxHeartbeats 4000000 in
set_option maxRecDepth 100000 in
theorem z_fX10_write_b25 {p : Program} {l : Launch} {e : Env} {s : State} {m : MethodId} {args : Array Value} {below : List Frame} {meth : Method} {c : Code} {D : va_G} {cy : Nat → ClassId} {B : Nat} {kd : Nat → Nat} {n : Nat} {sa sv : Nat → Nat} (C : zC p l s m args meth c D cy B kd n sa sv RX10 cX10_write 6) (ht : ∀ x ∈ c.exceptionTable.toList, False) (hr : meth.sig.returnType = some (FieldType.long)) {b0 : (Nat ⊕ Int64) × Mem}   (M : Mem)  : Z p l e (rmz 2 3) s m args below meth c (vx_MQ below (QcR D cy B kd n (xJc b0)) (XcR D cy B kd n (xJc b0)) args s 3 (6 * 3) (AA B kd n)) D cy B kd n 6 b0 2 25 [] [] M (fX10_write_b25 M) := by
  unfold fX10_write_b25
  exact z_throwW C cvX_J ht ex4 gw_4_181 gw_4_191 (i := 31) rfl ⟨Nat.le_of_ble_eq_true rfl, Nat.le_of_ble_eq_true rfl, Nat.le_of_ble_eq_true rfl, Nat.le_of_ble_eq_true rfl⟩ (Nat.le_of_ble_eq_true rfl) (Nat.le_of_ble_eq_true rfl) dX10_write_25 dX10_write_28 dX10_write_29 dX10_write_32 dX10_write_35
set_option maxHeartbeats 4000000 in
set_option maxRecDepth 100000 in
theorem ctX10_write {l : Launch} {D : va_G} {cy : Nat → ClassId} {B : Nat} {kd : Nat → Nat} {n : Nat} {sa sv : Nat → Nat} (G : zG l kd n) (v0 : Nat) (v1 : Int32) (v2 : Int32) (v3 : Int64) (h0 : kd v0 = 10) (M : Mem) : CT l D cy B kd n sa sv 2 3 yX10_write cX10_write 6 (some (FieldType.long)) xJc [.ref (B + v0), .int v1, .int v2, .long v3] M (fX10_write v0 v1 v2 v3 M) := by
  refine ct_of (by decide) G.1 G.2 (Nat.le_of_ble_eq_true rfl) (ls := [(0, .ref (B + v0)), (1, .int v1), (2, .int v2), (3, .long v3)]) rfl ?_
  intro p e s m args below meth c b0 C ht hr
  unfold fX10_write
  refine z_aload_n C 0 0 dX10_write_0 rfl rfl ?_
  refine z_iload_n C 1 1 dX10_write_1 rfl rfl ?_
  refine z_callXV_A (As := [.int v1]) (rest := []) C cvX_J ht rfl (ctX10_trayAt (zG_of C) v0 v1 h0 M) cw_RX10_285 rfl (okM_X10_trayAt) rfl cl10 h0 (okR_of rfl) (Nat.le_of_ble_eq_true rfl) (Nat.le_of_ble_eq_true rfl) dX10_write_2 (fun qj1 Mj1 hEj1 => ?_)
  have hqj1 : kd qj1 = 9 := kdX10_trayAt (zG_of C) h0 hEj1
  refine z_astore C 5 (ls1 := [(5, .ref (B + qj1)), (0, .ref (B + v0)), (1, .int v1), (2, .int v2), (3, .long v3)]) dX10_write_5 (by decide) rfl ?_
  refine z_aload C 0 dX10_write_7 rfl ?_
  refine z_callXS_V (As := [.ref (B + qj1)]) (rest := []) C cvX_J ht rfl (ctX10_needFilled (zG_of C) qj1 hqj1 Mj1) cw_RX10_289 (okM_X10_needFilled) rfl (okR_of rfl) (Nat.le_of_ble_eq_true rfl) (Nat.le_of_ble_eq_true rfl) dX10_write_9 (fun qj2 Mj2 hEj2 => ?_)
  refine z_iload_n C 2 3 dX10_write_12 rfl rfl ?_
  refine z_if_lt C 25 dX10_write_13 rfl (fun _ => ?_) (fun _ => ?_)
  · exact z_jump (ls1 := []) (Nat.le_of_ble_eq_true rfl) [] rfl (z_fX10_write_b25 C ht hr Mj2)
  · refine z_iload_n C 2 3 dX10_write_16 rfl rfl ?_
    refine z_aload C 0 dX10_write_17 rfl ?_
    refine z_getI (k := 1) C cl9 hqj1 rfl gw_1_212 rfl dX10_write_19 ?_
    refine z_icmp_lt C 36 dX10_write_22 rfl (fun _ => ?_) (fun _ => ?_)
    · refine z_aload C 0 dX10_write_36 rfl ?_
      refine z_iload_n C 2 3 dX10_write_38 rfl rfl ?_
      refine z_lload_n C 3 4 dX10_write_39 rfl rfl ?_
      refine z_callV_J (As := [.int v2, .long v3]) (rest := []) C rfl (ctX9_keep (zG_of C) qj1 v2 v3 hqj1 Mj2) cw_RX10_400 rfl (okM_X9_keep) rfl cl9 hqj1 (okR_of rfl) (Nat.le_of_ble_eq_true rfl) dX10_write_40 (fun qj3 _ => ?_)
      exact z_lret C hr (Nat.le_of_ble_eq_true rfl) dX10_write_43 rfl
    · exact z_jump (ls1 := []) (Nat.le_of_ble_eq_true rfl) [] rfl (z_fX10_write_b25 C ht hr Mj2)
set_option maxHeartbeats 4000000 in
set_option maxRecDepth 100000 in
theorem z_fX10_pour_b68 {p : Program} {l : Launch} {e : Env} {s : State} {m : MethodId} {args : Array Value} {below : List Frame} {meth : Method} {c : Code} {D : va_G} {cy : Nat → ClassId} {B : Nat} {kd : Nat → Nat} {n : Nat} {sa sv : Nat → Nat} (C : zC p l s m args meth c D cy B kd n sa sv RX10 cX10_pour 9) (ht : ∀ x ∈ c.exceptionTable.toList, False) (hr : meth.sig.returnType = some (FieldType.int)) {b0 : (Nat ⊕ Int32) × Mem}  (N : Nat) (v5 : Int32) (M : Mem)  : Z p l e (rmz 6 4) s m args below meth c (vx_MQ below (QcR D cy B kd n (xIc b0)) (XcR D cy B kd n (xIc b0)) args s 4 (6 * 4) (AA B kd n)) D cy B kd n 9 b0 4 68 [(5, .int v5)] [] M (fX10_pour_b68 N v5 M) := by
  unfold fX10_pour_b68
  refine z_iload C 0 dX10_pour_68 rfl ?_
  exact z_iret C hr (Nat.le_of_ble_eq_true rfl) dX10_pour_70 rfl
set_option maxHeartbeats 4000000 in
set_option maxRecDepth 100000 in
theorem z_fX10_pour_l28_s {p : Program} {l : Launch} {e : Env} {s : State} {m : MethodId} {args : Array Value} {below : List Frame} {meth : Method} {c : Code} {D : va_G} {cy : Nat → ClassId} {B : Nat} {kd : Nat → Nat} {n : Nat} {sa sv : Nat → Nat} (C : zC p l s m args meth c D cy B kd n sa sv RX10 cX10_pour 9) (ht : ∀ x ∈ c.exceptionTable.toList, False) (hr : meth.sig.returnType = some (FieldType.int)) {b0 : (Nat ⊕ Int32) × Mem} (N : Nat) (v0 : Nat) (v3 : Nat) (v4 : Nat) (k28 : Int32 → Int32 → Mem → Option ((Nat ⊕ Int32) × Mem)) (v5 : Int32) (v6 : Int32) (M : Mem) (h0 : kd v0 = 10) (h3 : kd v3 = 5) (h4 : kd v4 = 9)  (hk28 : ∀ (v5 : Int32) (v6 : Int32) (M : Mem), Z p l e (rmz 6 4) s m args below meth c (vx_MQ below (QcR D cy B kd n (xIc b0)) (XcR D cy B kd n (xIc b0)) args s 4 (6 * 4) (AA B kd n)) D cy B kd n 9 b0 4 28 [(0, .ref (B + v0)), (3, .ref (B + v3)), (4, .ref (B + v4)), (5, .int v5), (6, .int v6)] [] M (k28 v5 v6 M)) : Z p l e (rmz 6 4) s m args below meth c (vx_MQ below (QcR D cy B kd n (xIc b0)) (XcR D cy B kd n (xIc b0)) args s 4 (6 * 4) (AA B kd n)) D cy B kd n 9 b0 4 28 [(0, .ref (B + v0)), (3, .ref (B + v3)), (4, .ref (B + v4)), (5, .int v5), (6, .int v6)] [] M (fX10_pour_l28_s N v0 v3 v4 k28 v5 v6 M) := by
  unfold fX10_pour_l28_s
  refine z_iload C 4 dX10_pour_28 rfl ?_
  refine z_aload C 2 dX10_pour_30 rfl ?_
  refine z_getI (k := 1) C cl9 h4 rfl gw_1_212 rfl dX10_pour_32 ?_
  refine z_icmp_ge C 80 dX10_pour_35 rfl (fun _ => ?_) (fun _ => ?_)
  · refine z_iload C 3 dX10_pour_80 rfl ?_
    exact z_iret C hr (Nat.le_of_ble_eq_true rfl) dX10_pour_82 rfl
  · refine z_aload C 2 dX10_pour_38 rfl ?_
    refine z_iload C 4 dX10_pour_40 rfl ?_
    refine z_callV_pJ (As := [.int v6]) (rest := []) C rfl (ctX9_numberAt (zG_of C) v4 v6 h4 M) cw_RX10_327 rfl (okM_X9_numberAt) rfl cl9 h4 (okR_of rfl) (Nat.le_of_ble_eq_true rfl) dX10_pour_42 (fun qj1 _ => ?_)
    refine z_lstore C 7 (ls1 := [(7, .long qj1), (0, .ref (B + v0)), (3, .ref (B + v3)), (4, .ref (B + v4)), (5, .int v5), (6, .int v6)]) dX10_pour_45 (by decide) rfl ?_
    refine z_aload_n C 0 1 dX10_pour_47 rfl rfl ?_
    refine z_lload C 0 dX10_pour_48 rfl ?_
    refine z_callV_pB (As := [.long qj1]) (rest := []) C rfl (ctX10_isName (zG_of C) v0 qj1 h0 M) cw_RX10_331 rfl (okM_X10_isName) rfl cl10 h0 (okR_of rfl) (Nat.le_of_ble_eq_true rfl) dX10_pour_50 (fun qj2 _ => ?_)
    refine z_if_eqB C 68 dX10_pour_53 rfl (fun _ => ?_) (fun _ => ?_)
    · refine z_aload_n C 0 1 dX10_pour_56 rfl rfl ?_
      refine z_aload_n C 3 2 dX10_pour_57 rfl rfl ?_
      refine z_lload C 0 dX10_pour_58 rfl ?_
      refine z_l2i C dX10_pour_60 ?_
      refine z_callV_I (As := [.ref (B + v3), .int qj1.toInt32]) (rest := []) C rfl (ctX10_admit (zG_of C) N v0 v3 qj1.toInt32 h0 h3 M) cw_RX10_234 rfl (okM_X10_admit) rfl cl10 h0 (okR_of rfl) (Nat.le_of_ble_eq_true rfl) dX10_pour_61 (fun qj3 _ => ?_)
      refine z_iconst C dX10_pour_64 rfl ?_
      refine z_icmp_ne C 71 dX10_pour_65 rfl (fun _ => ?_) (fun _ => ?_)
      · exact z_jump (ls1 := [(5, .int v5)]) (Nat.le_of_ble_eq_true rfl) [4] rfl (z_fX10_pour_b68 C ht hr N v5 qj3.2)
      · refine z_iinc C 5 4 (v := v5) (v1 := (v5 + (1 : Int32))) (ls1 := [(5, .int (v5 + (1 : Int32))), (7, .long qj1), (0, .ref (B + v0)), (3, .ref (B + v3)), (4, .ref (B + v4)), (6, .int v6)]) dX10_pour_71 rfl rfl (by decide) rfl ?_
        refine z_iinc C 6 5 (v := v6) (v1 := (v6 + (1 : Int32))) (ls1 := [(6, .int (v6 + (1 : Int32))), (5, .int (v5 + (1 : Int32))), (7, .long qj1), (0, .ref (B + v0)), (3, .ref (B + v3)), (4, .ref (B + v4))]) dX10_pour_74 rfl rfl (by decide) rfl ?_
        refine z_goto C 28 dX10_pour_77 rfl ?_
        exact z_jump (ls1 := [(0, .ref (B + v0)), (3, .ref (B + v3)), (4, .ref (B + v4)), (5, .int (v5 + (1 : Int32))), (6, .int (v6 + (1 : Int32)))]) (Nat.le_of_ble_eq_true rfl) [3, 4, 5, 1, 0] rfl (hk28 (v5 + (1 : Int32)) (v6 + (1 : Int32)) qj3.2)
    · exact z_jump (ls1 := [(5, .int v5)]) (Nat.le_of_ble_eq_true rfl) [4] rfl (z_fX10_pour_b68 C ht hr N v5 M)
theorem z_fX10_pour_l28_i {p : Program} {l : Launch} {e : Env} {s : State} {m : MethodId} {args : Array Value} {below : List Frame} {meth : Method} {c : Code} {D : va_G} {cy : Nat → ClassId} {B : Nat} {kd : Nat → Nat} {n : Nat} {sa sv : Nat → Nat} (C : zC p l s m args meth c D cy B kd n sa sv RX10 cX10_pour 9) (ht : ∀ x ∈ c.exceptionTable.toList, False) (hr : meth.sig.returnType = some (FieldType.int)) {b0 : (Nat ⊕ Int32) × Mem} (N : Nat) (v0 : Nat) (v3 : Nat) (v4 : Nat) (h0 : kd v0 = 10) (h3 : kd v3 = 5) (h4 : kd v4 = 9)  (fu : Nat) : ∀ (v5 : Int32) (v6 : Int32) (M : Mem), Z p l e (rmz 6 4) s m args below meth c (vx_MQ below (QcR D cy B kd n (xIc b0)) (XcR D cy B kd n (xIc b0)) args s 4 (6 * 4) (AA B kd n)) D cy B kd n 9 b0 4 28 [(0, .ref (B + v0)), (3, .ref (B + v3)), (4, .ref (B + v4)), (5, .int v5), (6, .int v6)] [] M (fX10_pour_l28 N v0 v3 v4 fu v5 v6 M) := by
  induction fu with
  | zero => intro v5 v6 M; exact z_none
  | succ fu ih => intro v5 v6 M; exact z_fX10_pour_l28_s C ht hr N v0 v3 v4 (fX10_pour_l28 N v0 v3 v4 fu) v5 v6 M h0 h3 h4 (fun v5 v6 M => ih v5 v6 M)
theorem z_fX10_pour_l28 {p : Program} {l : Launch} {e : Env} {s : State} {m : MethodId} {args : Array Value} {below : List Frame} {meth : Method} {c : Code} {D : va_G} {cy : Nat → ClassId} {B : Nat} {kd : Nat → Nat} {n : Nat} {sa sv : Nat → Nat} (C : zC p l s m args meth c D cy B kd n sa sv RX10 cX10_pour 9) (ht : ∀ x ∈ c.exceptionTable.toList, False) (hr : meth.sig.returnType = some (FieldType.int)) {b0 : (Nat ⊕ Int32) × Mem} (N : Nat) (v0 : Nat) (v3 : Nat) (v4 : Nat) (fu : Nat) (v5 : Int32) (v6 : Int32) (M : Mem) (h0 : kd v0 = 10) (h3 : kd v3 = 5) (h4 : kd v4 = 9)  : Z p l e (rmz 6 4) s m args below meth c (vx_MQ below (QcR D cy B kd n (xIc b0)) (XcR D cy B kd n (xIc b0)) args s 4 (6 * 4) (AA B kd n)) D cy B kd n 9 b0 4 28 [(0, .ref (B + v0)), (3, .ref (B + v3)), (4, .ref (B + v4)), (5, .int v5), (6, .int v6)] [] M (fX10_pour_l28 N v0 v3 v4 fu v5 v6 M) := z_fX10_pour_l28_i C ht hr N v0 v3 v4 h0 h3 h4 fu v5 v6 M
set_option maxHeartbeats 4000000 in
set_option maxRecDepth 100000 in
theorem ctX10_pour {l : Launch} {D : va_G} {cy : Nat → ClassId} {B : Nat} {kd : Nat → Nat} {n : Nat} {sa sv : Nat → Nat} (G : zG l kd n) (N : Nat) (v0 : Nat) (v1 : Int32) (v2 : Int32) (h0 : kd v0 = 10) (M : Mem) : CT l D cy B kd n sa sv 6 4 yX10_pour cX10_pour 9 (some (FieldType.int)) xIc [.ref (B + v0), .int v1, .int v2] M (fX10_pour N v0 v1 v2 M) := by
  refine ct_of (by decide) G.1 G.2 (Nat.le_of_ble_eq_true rfl) (ls := [(0, .ref (B + v0)), (1, .int v1), (2, .int v2)]) rfl ?_
  intro p e s m args below meth c b0 C ht hr
  unfold fX10_pour
  refine z_aload_n C 0 0 dX10_pour_0 rfl rfl ?_
  refine z_iload_n C 1 1 dX10_pour_1 rfl rfl ?_
  refine z_callXV_A (As := [.int v1]) (rest := []) C cvX_I ht rfl (ctX10_rowAt (zG_of C) v0 v1 h0 M) cw_RX10_167 rfl (okM_X10_rowAt) rfl cl10 h0 (okR_of rfl) (Nat.le_of_ble_eq_true rfl) (Nat.le_of_ble_eq_true rfl) dX10_pour_2 (fun qj1 Mj1 hEj1 => ?_)
  have hqj1 : kd qj1 = 5 := kdX10_rowAt (zG_of C) h0 hEj1
  refine z_astore_n C 3 (ls1 := [(3, .ref (B + qj1)), (0, .ref (B + v0)), (1, .int v1), (2, .int v2)]) dX10_pour_5 rfl (by decide) rfl ?_
  refine z_aload_n C 0 1 dX10_pour_6 rfl rfl ?_
  refine z_iload_n C 2 3 dX10_pour_7 rfl rfl ?_
  refine z_callXV_A (As := [.int v2]) (rest := []) C cvX_I ht rfl (ctX10_trayAt (zG_of C) v0 v2 h0 Mj1) cw_RX10_285 rfl (okM_X10_trayAt) rfl cl10 h0 (okR_of rfl) (Nat.le_of_ble_eq_true rfl) (Nat.le_of_ble_eq_true rfl) dX10_pour_8 (fun qj2 Mj2 hEj2 => ?_)
  have hqj2 : kd qj2 = 9 := kdX10_trayAt (zG_of C) h0 hEj2
  refine z_astore C 4 (ls1 := [(4, .ref (B + qj2)), (3, .ref (B + qj1)), (0, .ref (B + v0)), (1, .int v1), (2, .int v2)]) dX10_pour_11 (by decide) rfl ?_
  refine z_aload_n C 3 1 dX10_pour_13 rfl rfl ?_
  refine z_callXS_V (As := [.ref (B + qj1)]) (rest := []) C cvX_I ht rfl (ctX10_needUnsolved (zG_of C) qj1 hqj1 Mj2) cw_RX10_230 (okM_X10_needUnsolved) rfl (okR_of rfl) (Nat.le_of_ble_eq_true rfl) (Nat.le_of_ble_eq_true rfl) dX10_pour_14 (fun qj3 Mj3 hEj3 => ?_)
  refine z_aload C 0 dX10_pour_17 rfl ?_
  refine z_callXS_V (As := [.ref (B + qj2)]) (rest := []) C cvX_I ht rfl (ctX10_needFilled (zG_of C) qj2 hqj2 Mj3) cw_RX10_289 (okM_X10_needFilled) rfl (okR_of rfl) (Nat.le_of_ble_eq_true rfl) (Nat.le_of_ble_eq_true rfl) dX10_pour_19 (fun qj4 Mj4 hEj4 => ?_)
  refine z_iconst C dX10_pour_22 rfl ?_
  refine z_istore C 5 (ls1 := [(5, .int (0 : Int32)), (4, .ref (B + qj2)), (3, .ref (B + qj1)), (0, .ref (B + v0)), (1, .int v1), (2, .int v2)]) dX10_pour_23 (by decide) rfl ?_
  refine z_iconst C dX10_pour_25 rfl ?_
  refine z_istore C 6 (ls1 := [(6, .int (0 : Int32)), (5, .int (0 : Int32)), (4, .ref (B + qj2)), (3, .ref (B + qj1)), (0, .ref (B + v0)), (1, .int v1), (2, .int v2)]) dX10_pour_26 (by decide) rfl ?_
  exact z_jump (ls1 := [(0, .ref (B + v0)), (3, .ref (B + qj1)), (4, .ref (B + qj2)), (5, .int (0 : Int32)), (6, .int (0 : Int32))]) (Nat.le_of_ble_eq_true rfl) [4, 3, 2, 1, 0] rfl (z_fX10_pour_l28 C ht hr N v0 qj1 qj2 N (0 : Int32) (0 : Int32) Mj4 h0 hqj1 hqj2)
set_option maxHeartbeats 4000000 in
set_option maxRecDepth 100000 in
theorem z_fX10_imageAt_b9 {p : Program} {l : Launch} {e : Env} {s : State} {m : MethodId} {args : Array Value} {below : List Frame} {meth : Method} {c : Code} {D : va_G} {cy : Nat → ClassId} {B : Nat} {kd : Nat → Nat} {n : Nat} {sa sv : Nat → Nat} (C : zC p l s m args meth c D cy B kd n sa sv RX10 cX10_imageAt 2) (ht : ∀ x ∈ c.exceptionTable.toList, False) (hr : meth.sig.returnType = some ((FieldType.object "PerhapsRows$Shelf"))) {b0 : (Nat ⊕ Nat) × Mem}   (M : Mem)  : Z p l e (rmz 0 1) s m args below meth c (vx_MQ below (QcR D cy B kd n ((xAc B) b0)) (XcR D cy B kd n ((xAc B) b0)) args s 1 (6 * 1) (AA B kd n)) D cy B kd n 2 b0 0 9 [] [] M (fX10_imageAt_b9 M) := by
  unfold fX10_imageAt_b9
  exact z_throwXW C cvX_A ht ex1 gw_4_56 gw_4_66 (i := 32) rfl ⟨Nat.le_of_ble_eq_true rfl, Nat.le_of_ble_eq_true rfl, Nat.le_of_ble_eq_true rfl, Nat.le_of_ble_eq_true rfl⟩ (Nat.le_of_ble_eq_true rfl) (Nat.le_of_ble_eq_true rfl) dX10_imageAt_9 dX10_imageAt_12 dX10_imageAt_13 dX10_imageAt_16 dX10_imageAt_19
set_option maxHeartbeats 4000000 in
set_option maxRecDepth 100000 in
theorem ctX10_imageAt {l : Launch} {D : va_G} {cy : Nat → ClassId} {B : Nat} {kd : Nat → Nat} {n : Nat} {sa sv : Nat → Nat} (G : zG l kd n) (v0 : Nat) (v1 : Int32) (h0 : kd v0 = 10) (M : Mem) : CT l D cy B kd n sa sv 0 1 yX10_imageAt cX10_imageAt 2 (some ((FieldType.object "PerhapsRows$Shelf"))) (xAc B) [.ref (B + v0), .int v1] M (fX10_imageAt v0 v1 M) := by
  refine ct_of (by decide) G.1 G.2 (Nat.le_of_ble_eq_true rfl) (ls := [(0, .ref (B + v0)), (1, .int v1)]) rfl ?_
  intro p e s m args below meth c b0 C ht hr
  unfold fX10_imageAt
  refine z_iload_n C 1 1 dX10_imageAt_0 rfl rfl ?_
  refine z_if_lt C 9 dX10_imageAt_1 rfl (fun _ => ?_) (fun _ => ?_)
  · exact z_jump (ls1 := []) (Nat.le_of_ble_eq_true rfl) [] rfl (z_fX10_imageAt_b9 C ht hr M)
  · refine z_iload_n C 1 1 dX10_imageAt_4 rfl rfl ?_
    refine z_iconst C dX10_imageAt_5 rfl ?_
    refine z_icmp_lt C 20 dX10_imageAt_6 rfl (fun _ => ?_) (fun _ => ?_)
    · refine z_aload_n C 0 0 dX10_imageAt_20 rfl rfl ?_
      refine z_getR (k := 5) C cl10 h0 rfl gw_2_165 rfl dX10_imageAt_21 ?_
      have j1 : kd (v0 + 26) = 28 := zkd C h0 (k := 5) rfl
      refine z_iload_n C 1 1 dX10_imageAt_24 rfl rfl ?_
      refine z_aald5 C j1 rfl (by decide) dX10_imageAt_25 (fun j2 => ?_)
      have j3 : kd ((v0 + 26) + 1 + 25 * v1.toNatClampNeg) = 7 := zka C j1 rfl (by decide) j2
      exact z_aret C hr (Nat.le_of_ble_eq_true rfl) dX10_imageAt_26 rfl
    · exact z_jump (ls1 := []) (Nat.le_of_ble_eq_true rfl) [] rfl (z_fX10_imageAt_b9 C ht hr M)
theorem kdX10_imageAt {l : Launch} {kd : Nat → Nat} {n : Nat} (G : zG l kd n) {v0 q : Nat} {v1 : Int32} {M M1 : Mem} (h0 : kd v0 = 10) (h : fX10_imageAt v0 v1 M = some (.inr q, M1)) : kd q = 7 := by
  unfold fX10_imageAt fX10_imageAt_b9 at h
  repeat (split at h; · cases h)
  repeat first | (cases h; done) | (split at h <;> first | (cases h; done) | skip)
  all_goals first | (cases h; exact zkaG G (zkG G h0 (k := 5) rfl) rfl (by decide) (by assumption)) | skip
set_option maxHeartbeats 4000000 in
set_option maxRecDepth 100000 in
theorem ctX10_image {l : Launch} {D : va_G} {cy : Nat → ClassId} {B : Nat} {kd : Nat → Nat} {n : Nat} {sa sv : Nat → Nat} (G : zG l kd n) (N : Nat) (v0 : Nat) (v1 : Int32) (h0 : kd v0 = 10) (M : Mem) : CT l D cy B kd n sa sv 3 1 yX10_image cX10_image 2 (none) xVc [.ref (B + v0), .int v1] M (fX10_image N v0 v1 M) := by
  refine ct_of (by decide) G.1 G.2 (Nat.le_of_ble_eq_true rfl) (ls := [(0, .ref (B + v0)), (1, .int v1)]) rfl ?_
  intro p e s m args below meth c b0 C ht hr
  unfold fX10_image
  refine z_aload_n C 0 0 dX10_image_0 rfl rfl ?_
  refine z_iload_n C 1 1 dX10_image_1 rfl rfl ?_
  refine z_callXV_A (As := [.int v1]) (rest := []) C cvX_V ht rfl (ctX10_imageAt (zG_of C) v0 v1 h0 M) cw_RX10_404 rfl (okM_X10_imageAt) rfl cl10 h0 (okR_of rfl) (Nat.le_of_ble_eq_true rfl) (Nat.le_of_ble_eq_true rfl) dX10_image_2 (fun qj1 Mj1 hEj1 => ?_)
  have hqj1 : kd qj1 = 7 := kdX10_imageAt (zG_of C) h0 hEj1
  refine z_aload_n C 0 0 dX10_image_5 rfl rfl ?_
  refine z_getR (k := 4) C cl10 h0 rfl gw_2_164 rfl dX10_image_6 ?_
  have j2 : kd (v0 + 1) = 7 := zkd C h0 (k := 4) rfl
  refine z_callV_V (As := [.ref (B + (v0 + 1))]) (rest := []) C rfl (ctX7_copyFrom (zG_of C) N qj1 (v0 + 1) hqj1 j2 Mj1) cw_RX10_408 rfl (okM_X7_copyFrom) rfl cl7 hqj1 (okR_of rfl) (Nat.le_of_ble_eq_true rfl) dX10_image_9 (fun qj3 _ => ?_)
  refine z_aload_n C 0 0 dX10_image_12 rfl rfl ?_
  refine z_dup C dX10_image_13 rfl ?_
  refine z_getI (k := 6) C cl10 h0 rfl gw_2_166 rfl dX10_image_14 ?_
  refine z_iconst C dX10_image_17 rfl ?_
  refine z_iload_n C 1 1 dX10_image_18 rfl rfl ?_
  refine z_ishl C dX10_image_19 ?_
  refine z_ior C dX10_image_20 ?_
  refine z_putI (k := 6) C cl10 h0 rfl gw_2_166 rfl rfl rfl dX10_image_21 ?_
  exact z_vret C hr (Nat.le_of_ble_eq_true rfl) dX10_image_24 rfl
set_option maxHeartbeats 4000000 in
set_option maxRecDepth 100000 in
theorem ctX10_restore {l : Launch} {D : va_G} {cy : Nat → ClassId} {B : Nat} {kd : Nat → Nat} {n : Nat} {sa sv : Nat → Nat} (G : zG l kd n) (N : Nat) (v0 : Nat) (v1 : Int32) (h0 : kd v0 = 10) (M : Mem) : CT l D cy B kd n sa sv 3 2 yX10_restore cX10_restore 3 (none) xVc [.ref (B + v0), .int v1] M (fX10_restore N v0 v1 M) := by
  refine ct_of (by decide) G.1 G.2 (Nat.le_of_ble_eq_true rfl) (ls := [(0, .ref (B + v0)), (1, .int v1)]) rfl ?_
  intro p e s m args below meth c b0 C ht hr
  unfold fX10_restore
  refine z_aload_n C 0 0 dX10_restore_0 rfl rfl ?_
  refine z_iload_n C 1 1 dX10_restore_1 rfl rfl ?_
  refine z_callXV_A (As := [.int v1]) (rest := []) C cvX_V ht rfl (ctX10_imageAt (zG_of C) v0 v1 h0 M) cw_RX10_404 rfl (okM_X10_imageAt) rfl cl10 h0 (okR_of rfl) (Nat.le_of_ble_eq_true rfl) (Nat.le_of_ble_eq_true rfl) dX10_restore_2 (fun qj1 Mj1 hEj1 => ?_)
  have hqj1 : kd qj1 = 7 := kdX10_imageAt (zG_of C) h0 hEj1
  refine z_astore_n C 2 (ls1 := [(2, .ref (B + qj1)), (0, .ref (B + v0)), (1, .int v1)]) dX10_restore_5 rfl (by decide) rfl ?_
  refine z_aload_n C 0 1 dX10_restore_6 rfl rfl ?_
  refine z_getI (k := 6) C cl10 h0 rfl gw_2_166 rfl dX10_restore_7 ?_
  refine z_iload_n C 1 2 dX10_restore_10 rfl rfl ?_
  refine z_ishr C dX10_restore_11 ?_
  refine z_iconst C dX10_restore_12 rfl ?_
  refine z_iand C dX10_restore_13 ?_
  refine z_if_ne C 28 dX10_restore_14 rfl (fun _ => ?_) (fun _ => ?_)
  · exact z_throwW C cvX_V ht ex2 gw_4_221 gw_4_231 (i := 33) rfl ⟨Nat.le_of_ble_eq_true rfl, Nat.le_of_ble_eq_true rfl, Nat.le_of_ble_eq_true rfl, Nat.le_of_ble_eq_true rfl⟩ (Nat.le_of_ble_eq_true rfl) (Nat.le_of_ble_eq_true rfl) dX10_restore_17 dX10_restore_20 dX10_restore_21 dX10_restore_24 dX10_restore_27
  · refine z_aload_n C 0 1 dX10_restore_28 rfl rfl ?_
    refine z_getR (k := 4) C cl10 h0 rfl gw_2_164 rfl dX10_restore_29 ?_
    have j2 : kd (v0 + 1) = 7 := zkd C h0 (k := 4) rfl
    refine z_aload_n C 2 0 dX10_restore_32 rfl rfl ?_
    refine z_callV_V (As := [.ref (B + qj1)]) (rest := []) C rfl (ctX7_copyFrom (zG_of C) N (v0 + 1) qj1 j2 hqj1 Mj1) cw_RX10_408 rfl (okM_X7_copyFrom) rfl cl7 j2 (okR_of rfl) (Nat.le_of_ble_eq_true rfl) dX10_restore_33 (fun qj3 _ => ?_)
    exact z_vret C hr (Nat.le_of_ble_eq_true rfl) dX10_restore_36 rfl
set_option maxHeartbeats 4000000 in
set_option maxRecDepth 100000 in
theorem ctX10_count {l : Launch} {D : va_G} {cy : Nat → ClassId} {B : Nat} {kd : Nat → Nat} {n : Nat} {sa sv : Nat → Nat} (G : zG l kd n) (N : Nat) (v0 : Nat) (v1 : Int32) (h0 : kd v0 = 10) (Mo : Mem) : CT l D cy B kd n sa sv 1 0 yX10_count cX10_count 2 (some (FieldType.int)) (pI Mo) [.ref (B + v0), .int v1] Mo (fX10_count N v0 v1 Mo) := by
  refine ct_of (by decide) G.1 G.2 (Nat.le_of_ble_eq_true rfl) (ls := [(0, .ref (B + v0)), (1, .int v1)]) rfl ?_
  intro p e s m args below meth c b0 C ht hr
  unfold fX10_count
  refine z_iload_n C 1 1 dX10_count_0 rfl rfl ?_
  refine z_ite (q := v1 = (0 : Int32)) (fun j1 => ?_) (fun j2 => ?_)
  · refine z_tableZ C 40 (0) dX10_count_1 (by rw [j1]; decide) (by decide) (by decide) rfl rfl ?_
    refine z_aload_n C 0 0 dX10_count_40 rfl rfl ?_
    refine z_getR (k := 4) C cl10 h0 rfl gw_2_164 rfl dX10_count_41 ?_
    have j3 : kd (v0 + 1) = 7 := zkd C h0 (k := 4) rfl
    refine z_getR (k := 0) C cl7 j3 rfl gw_1_175 rfl dX10_count_44 ?_
    have j4 : kd ((v0 + 1) + 1) = 6 := zkd C j3 (k := 0) rfl
    refine z_getI (k := 0) C cl6 j4 rfl gw_1_50 rfl dX10_count_47 ?_
    exact z_iret C hr (Nat.le_of_ble_eq_true rfl) dX10_count_50 rfl
  refine z_ite (q := v1 = (1 : Int32)) (fun j5 => ?_) (fun j6 => ?_)
  · refine z_tableZ C 51 (1) dX10_count_1 (by rw [j5]; decide) (by decide) (by decide) rfl rfl ?_
    refine z_aload_n C 0 0 dX10_count_51 rfl rfl ?_
    refine z_getR (k := 4) C cl10 h0 rfl gw_2_164 rfl dX10_count_52 ?_
    have j7 : kd (v0 + 1) = 7 := zkd C h0 (k := 4) rfl
    refine z_getR (k := 0) C cl7 j7 rfl gw_1_175 rfl dX10_count_55 ?_
    have j8 : kd ((v0 + 1) + 1) = 6 := zkd C j7 (k := 0) rfl
    refine z_getI (k := 1) C cl6 j8 rfl gw_1_56 rfl dX10_count_58 ?_
    exact z_iret C hr (Nat.le_of_ble_eq_true rfl) dX10_count_61 rfl
  refine z_ite (q := v1 = (2 : Int32)) (fun j9 => ?_) (fun j10 => ?_)
  · refine z_tableZ C 62 (2) dX10_count_1 (by rw [j9]; decide) (by decide) (by decide) rfl rfl ?_
    refine z_aload_n C 0 0 dX10_count_62 rfl rfl ?_
    refine z_getR (k := 4) C cl10 h0 rfl gw_2_164 rfl dX10_count_63 ?_
    have j11 : kd (v0 + 1) = 7 := zkd C h0 (k := 4) rfl
    refine z_getR (k := 0) C cl7 j11 rfl gw_1_175 rfl dX10_count_66 ?_
    have j12 : kd ((v0 + 1) + 1) = 6 := zkd C j11 (k := 0) rfl
    refine z_getI (k := 2) C cl6 j12 rfl gw_1_59 rfl dX10_count_69 ?_
    exact z_iret C hr (Nat.le_of_ble_eq_true rfl) dX10_count_72 rfl
  refine z_ite (q := v1 = (3 : Int32)) (fun j13 => ?_) (fun j14 => ?_)
  · refine z_tableZ C 73 (3) dX10_count_1 (by rw [j13]; decide) (by decide) (by decide) rfl rfl ?_
    refine z_aload_n C 0 0 dX10_count_73 rfl rfl ?_
    refine z_getR (k := 4) C cl10 h0 rfl gw_2_164 rfl dX10_count_74 ?_
    have j15 : kd (v0 + 1) = 7 := zkd C h0 (k := 4) rfl
    refine z_getR (k := 0) C cl7 j15 rfl gw_1_175 rfl dX10_count_77 ?_
    have j16 : kd ((v0 + 1) + 1) = 6 := zkd C j15 (k := 0) rfl
    refine z_getI (k := 3) C cl6 j16 rfl gw_1_62 rfl dX10_count_80 ?_
    exact z_iret C hr (Nat.le_of_ble_eq_true rfl) dX10_count_83 rfl
  refine z_ite (q := v1 = (4 : Int32)) (fun j17 => ?_) (fun j18 => ?_)
  · refine z_tableZ C 84 (4) dX10_count_1 (by rw [j17]; decide) (by decide) (by decide) rfl rfl ?_
    refine z_aload_n C 0 0 dX10_count_84 rfl rfl ?_
    refine z_getR (k := 4) C cl10 h0 rfl gw_2_164 rfl dX10_count_85 ?_
    have j19 : kd (v0 + 1) = 7 := zkd C h0 (k := 4) rfl
    refine z_callV_pI (As := []) (rest := []) C rfl (ctX7_rowsThere (zG_of C) N (v0 + 1) j19 Mo) cw_RX10_419 rfl (okM_X7_rowsThere) rfl cl7 j19 (okR_of rfl) (Nat.le_of_ble_eq_true rfl) dX10_count_88 (fun qj20 _ => ?_)
    exact z_iret C hr (Nat.le_of_ble_eq_true rfl) dX10_count_91 rfl
  refine z_ite (q := v1 = (5 : Int32)) (fun j21 => ?_) (fun j22 => ?_)
  · refine z_tableZ C 92 (5) dX10_count_1 (by rw [j21]; decide) (by decide) (by decide) rfl rfl ?_
    refine z_aload_n C 0 0 dX10_count_92 rfl rfl ?_
    refine z_getR (k := 8) C cl10 h0 rfl gw_2_168 rfl dX10_count_93 ?_
    have j23 : kd (v0 + 111) = 4 := zkd C h0 (k := 8) rfl
    refine z_getI (k := 1) C cl4 j23 rfl gw_1_234 rfl dX10_count_96 ?_
    exact z_iret C hr (Nat.le_of_ble_eq_true rfl) dX10_count_99 rfl
  have j2t := lv_neT (a := 0) j2 (by decide)
  have j6t := lv_neT (a := 1) j6 (by decide)
  have j10t := lv_neT (a := 2) j10 (by decide)
  have j14t := lv_neT (a := 3) j14 (by decide)
  have j18t := lv_neT (a := 4) j18 (by decide)
  have j22t := lv_neT (a := 5) j22 (by decide)
  refine z_tableOut C 100 dX10_count_1 (by omega) rfl ?_
  refine z_iconst C dX10_count_100 rfl ?_
  exact z_iret C hr (Nat.le_of_ble_eq_true rfl) dX10_count_101 rfl
