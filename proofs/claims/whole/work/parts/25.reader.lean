/-! X4_append -/
def fX4_append_l3_s (N : Nat) (v0 : Nat) (v1 : Int32) (k3 : Int32 → Mem → Option Mem) (v2 : Int32) (M : Mem) : Option Mem :=
  if v2 < 0 then some M else if (600 : Int32) ≤ (rI M v0 1) then some M else if inB (rI M v0 1) 600 = true then k3 (v2 + (-8 : Int32)) (wI (wI M (v0 + 8) ((rI M v0 1).toNatClampNeg) (vp_nar .byte ((ushrI v1 v2).toInt8.toInt32))) v0 1 ((rI (wI M (v0 + 8) ((rI M v0 1).toNatClampNeg) (vp_nar .byte ((ushrI v1 v2).toInt8.toInt32))) v0 1) + (1 : Int32))) else none
def fX4_append_l3 (N : Nat) (v0 : Nat) (v1 : Int32) : Nat → Int32 → Mem → Option Mem
  | 0, _, _ => none
  | n + 1, v2, M => fX4_append_l3_s N v0 v1 (fX4_append_l3 N v0 v1 n) v2 M
def fX4_append (N : Nat) (v0 : Nat) (v1 : Int32) (M : Mem) : Option Mem :=
  fX4_append_l3 N v0 v1 N (24 : Int32) M
/-! X4_byteAt -/
def fX4_byteAt_b34  (Mo : Mem) : Option Int32 :=
  some (-1 : Int32)
def fX4_byteAt (v0 : Nat) (v1 : Int32) (Mo : Mem) : Option Int32 :=
  if v1 < 0 then fX4_byteAt_b34 Mo else if (rI Mo v0 7) ≤ v1 then fX4_byteAt_b34 Mo else if (600 : Int32) ≤ v1 then fX4_byteAt_b34 Mo else if inB v1 600 = true then some ((rI Mo (v0 + 8) v1.toNatClampNeg) &&& (255 : Int32)) else none
/-! X4_isBlank -/
def fX4_isBlank_b12  (Mo : Mem) : Option Bool :=
  some true
def fX4_isBlank (v0 : Int32) (Mo : Mem) : Option Bool :=
  if v0 = (10 : Int32) then fX4_isBlank_b12 Mo else if v0 = (32 : Int32) then fX4_isBlank_b12 Mo else some false
/-! X4_isLetter -/
def fX4_isLetter_b16  (Mo : Mem) : Option Bool :=
  some false
def fX4_isLetter (v0 : Int32) (Mo : Mem) : Option Bool :=
  if v0 < (97 : Int32) then fX4_isLetter_b16 Mo else if (122 : Int32) < v0 then fX4_isLetter_b16 Mo else some true
/-! X4_spells -/
def fX4_spells_l20_s (N : Nat) (v0 : Nat) (v1 : Nat) (Mo : Mem) (k20 : Int32 → Option Bool) (v2 : Int32) : Option Bool :=
  (fJ0_length_8abf5 v1 Mo).bind fun qj1 => if qj1 ≤ v2 then some true else (fX4_byteAt v0 ((rI Mo v0 8) + v2) Mo).bind fun qj2 => (fJ0_charAt_5068e v1 v2 Mo).bind fun qj3 => if qj2 = qj3 then k20 (v2 + (1 : Int32)) else some false
def fX4_spells_l20 (N : Nat) (v0 : Nat) (v1 : Nat) (Mo : Mem) : Nat → Int32 → Option Bool
  | 0, _ => none
  | n + 1, v2 => fX4_spells_l20_s N v0 v1 Mo (fX4_spells_l20 N v0 v1 Mo n) v2
def fX4_spells (N : Nat) (v0 : Nat) (v1 : Nat) (Mo : Mem) : Option Bool :=
  (fJ0_length_8abf5 v1 Mo).bind fun qj1 => if ((rI Mo v0 9) - (rI Mo v0 8)) = qj1 then fX4_spells_l20 N v0 v1 Mo N (0 : Int32) else some false
/-! X4_scanWord -/
def fX4_scanWord_b40 (N : Nat) (v0 : Nat) (M : Mem) : Option (Int32 × Mem) :=
  (fX4_spells N v0 1 M).bind fun qj1 => if qj1 = true then some ((3 : Int32), M) else (fX4_spells N v0 2 M).bind fun qj2 => if qj2 = true then some ((4 : Int32), M) else (fX4_spells N v0 3 M).bind fun qj3 => if qj3 = true then some ((5 : Int32), M) else (fX4_spells N v0 4 M).bind fun qj4 => if qj4 = true then some ((6 : Int32), M) else (fX4_spells N v0 5 M).bind fun qj5 => if qj5 = true then some ((7 : Int32), M) else (fX4_spells N v0 6 M).bind fun qj6 => if qj6 = true then some ((8 : Int32), M) else some ((9 : Int32), M)
def fX4_scanWord_l2_s (N : Nat) (v0 : Nat) (k2 : Int32 → Mem → Option (Int32 × Mem)) (v1 : Int32) (M : Mem) : Option (Int32 × Mem) :=
  if (rI M v0 7) < v1 then fX4_scanWord_b40 N v0 M else (fX4_byteAt v0 (rI M v0 9) M).bind fun qj1 => (fX4_isLetter qj1 M).bind fun qj2 => if qj2 = true then k2 (v1 + (1 : Int32)) (wI M v0 9 ((rI M v0 9) + (1 : Int32))) else fX4_scanWord_b40 N v0 M
def fX4_scanWord_l2 (N : Nat) (v0 : Nat) : Nat → Int32 → Mem → Option (Int32 × Mem)
  | 0, _, _ => none
  | n + 1, v1, M => fX4_scanWord_l2_s N v0 (fX4_scanWord_l2 N v0 n) v1 M
def fX4_scanWord (N : Nat) (v0 : Nat) (M : Mem) : Option (Int32 × Mem) :=
  fX4_scanWord_l2 N v0 N (0 : Int32) M
/-! X4_isDigit -/
def fX4_isDigit_b16  (Mo : Mem) : Option Bool :=
  some false
def fX4_isDigit (v0 : Int32) (Mo : Mem) : Option Bool :=
  if v0 < (48 : Int32) then fX4_isDigit_b16 Mo else if (57 : Int32) < v0 then fX4_isDigit_b16 Mo else some true
/-! X4_scanNumber -/
def fX4_scanNumber_b80 (N : Nat) (v0 : Nat) (M : Mem) : Option (Int32 × Mem) :=
  if ((rI M v0 9) - (rI M v0 8)) ≤ (5 : Int32) then some ((2 : Int32), M) else some ((1 : Int32), M)
def fX4_scanNumber_b61 (N : Nat) (k7 : Int32 → Mem → Option (Int32 × Mem)) (v0 : Nat) (v1 : Int32) (s0 : Int32) (s1 : Nat) (M : Mem) : Option (Int32 × Mem) :=
  k7 (v1 + (1 : Int32)) (wI (wI M s1 11 s0) v0 9 ((rI (wI M s1 11 s0) v0 9) + (1 : Int32)))
def fX4_scanNumber_l7_s (N : Nat) (v0 : Nat) (k7 : Int32 → Mem → Option (Int32 × Mem)) (v1 : Int32) (M : Mem) : Option (Int32 × Mem) :=
  if (rI M v0 7) < v1 then fX4_scanNumber_b80 N v0 M else (fX4_byteAt v0 (rI M v0 9) M).bind fun qj1 => (fX4_isDigit qj1 M).bind fun qj2 => if qj2 = true then if (5 : Int32) ≤ v1 then fX4_scanNumber_b61 N k7 v0 v1 (rI M v0 11) v0 M else (fX4_byteAt v0 (rI M v0 9) M).bind fun qj3 => fX4_scanNumber_b61 N k7 v0 v1 ((((rI M v0 11) * (10 : Int32)) + qj3) - (48 : Int32)) v0 M else fX4_scanNumber_b80 N v0 M
def fX4_scanNumber_l7 (N : Nat) (v0 : Nat) : Nat → Int32 → Mem → Option (Int32 × Mem)
  | 0, _, _ => none
  | n + 1, v1, M => fX4_scanNumber_l7_s N v0 (fX4_scanNumber_l7 N v0 n) v1 M
def fX4_scanNumber (N : Nat) (v0 : Nat) (M : Mem) : Option (Int32 × Mem) :=
  fX4_scanNumber_l7 N v0 N (0 : Int32) (wI M v0 11 (0 : Int32))
/-! X4_advance -/
def fX4_advance_b140 (N : Nat) (s0 : Int32) (s1 : Nat) (M : Mem) : Option Mem :=
  some (wI M s1 10 s0)
def fX4_advance_b48 (N : Nat) (v0 : Nat) (M : Mem) : Option Mem :=
  (fX4_byteAt v0 (rI (wI M v0 9 (rI M v0 8)) v0 8) (wI M v0 9 (rI M v0 8))).bind fun qj1 => if qj1 = (-1 : Int32) then some (wI (wI M v0 9 (rI M v0 8)) v0 10 (0 : Int32)) else (fX4_isLetter qj1 (wI M v0 9 (rI M v0 8))).bind fun qj2 => if qj2 = true then (fX4_scanWord N v0 (wI M v0 9 (rI M v0 8))).bind fun qj3 => some (wI qj3.2 v0 10 qj3.1) else (fX4_isDigit qj1 (wI M v0 9 (rI M v0 8))).bind fun qj4 => if qj4 = true then (fX4_scanNumber N v0 (wI M v0 9 (rI M v0 8))).bind fun qj5 => some (wI qj5.2 v0 10 qj5.1) else (fJ0_indexOf_0f7a4 N 7 (i2c qj1) (wI (wI M v0 9 (rI M v0 8)) v0 9 ((rI (wI M v0 9 (rI M v0 8)) v0 9) + (1 : Int32)))).bind fun qj6 => if qj6 < 0 then fX4_advance_b140 N (1 : Int32) v0 (wI (wI M v0 9 (rI M v0 8)) v0 9 ((rI (wI M v0 9 (rI M v0 8)) v0 9) + (1 : Int32))) else fX4_advance_b140 N qj1 v0 (wI (wI M v0 9 (rI M v0 8)) v0 9 ((rI (wI M v0 9 (rI M v0 8)) v0 9) + (1 : Int32)))
def fX4_advance_l10_s (N : Nat) (v0 : Nat) (k10 : Int32 → Mem → Option Mem) (v1 : Int32) (M : Mem) : Option Mem :=
  if (rI M v0 7) < v1 then fX4_advance_b48 N v0 M else (fX4_byteAt v0 (rI M v0 8) M).bind fun qj1 => (fX4_isBlank qj1 M).bind fun qj2 => if qj2 = true then k10 (v1 + (1 : Int32)) (wI M v0 8 ((rI M v0 8) + (1 : Int32))) else fX4_advance_b48 N v0 M
def fX4_advance_l10 (N : Nat) (v0 : Nat) : Nat → Int32 → Mem → Option Mem
  | 0, _, _ => none
  | n + 1, v1, M => fX4_advance_l10_s N v0 (fX4_advance_l10 N v0 n) v1 M
def fX4_advance (N : Nat) (v0 : Nat) (M : Mem) : Option Mem :=
  fX4_advance_l10 N v0 N (0 : Int32) (wI M v0 8 (rI M v0 9))
/-! X4_acceptHead -/
def fX4_acceptHead_b24  (v0 : Nat) (M : Mem) : Option (Int32 × Mem) :=
  some ((0 : Int32), wI M v0 12 (1 : Int32))
def fX4_acceptHead_b72  (v0 : Nat) (M : Mem) : Option (Int32 × Mem) :=
  (fX6_emitted (v0 + 1) M).bind fun qj2 => some ((0 : Int32), wI (wI (wI (wI M v0 14 qj2) v0 15 (0 : Int32)) v0 6 (0 : Int32)) v0 12 (3 : Int32))
def fX4_acceptHead_b50  (v0 : Nat) (M : Mem) : Option (Int32 × Mem) :=
  if (rI M v0 10) = (5 : Int32) then if (rI M (v0 + 1) 3) < (6 : Int32) then fX4_acceptHead_b72 v0 M else some ((4 : Int32), M) else fX4_acceptHead_b72 v0 M
def fX4_acceptHead (v0 : Nat) (M : Mem) : Option (Int32 × Mem) :=
  if (rI (wI M v0 13 (rI M v0 10)) v0 10) = (3 : Int32) then fX4_acceptHead_b24 v0 (wI M v0 13 (rI M v0 10)) else if (rI (wI M v0 13 (rI M v0 10)) v0 10) = (4 : Int32) then fX4_acceptHead_b24 v0 (wI M v0 13 (rI M v0 10)) else if (rI (wI M v0 13 (rI M v0 10)) v0 10) = (5 : Int32) then fX4_acceptHead_b50 v0 (wI M v0 13 (rI M v0 10)) else if (rI (wI M v0 13 (rI M v0 10)) v0 10) = (6 : Int32) then fX4_acceptHead_b50 v0 (wI M v0 13 (rI M v0 10)) else some ((2 : Int32), wI M v0 13 (rI M v0 10))
/-! X4_acceptBound -/
def fX4_acceptBound_b41  (M : Mem) : Option (Int32 × Mem) :=
  some ((3 : Int32), M)
def fX4_acceptBound_b76  (v0 : Nat) (M : Mem) : Option (Int32 × Mem) :=
  some ((0 : Int32), wI M v0 12 (2 : Int32))
def fX4_acceptBound_b38  (v0 : Nat) (s0 : Int32) (s1 : Int32) (M : Mem) : Option (Int32 × Mem) :=
  if s1 ≤ s0 then if (rI M v0 13) = (3 : Int32) then fX4_acceptBound_b76 v0 (wI M (v0 + 1) 1 (rI M v0 11)) else fX4_acceptBound_b76 v0 (wI M (v0 + 1) 2 (rI M v0 11)) else fX4_acceptBound_b41 M
def fX4_acceptBound (v0 : Nat) (M : Mem) : Option (Int32 × Mem) :=
  if (rI M v0 10) = (2 : Int32) then if (rI M v0 11) < (2 : Int32) then fX4_acceptBound_b41 M else if (rI M v0 13) = (3 : Int32) then fX4_acceptBound_b38 v0 (256 : Int32) (rI M v0 11) M else fX4_acceptBound_b38 v0 (64 : Int32) (rI M v0 11) M else some ((2 : Int32), M)
/-! X4_holdBack -/
def fX4_holdBack (v0 : Nat) (v1 : Int32) (M : Mem) : Option Mem :=
  if (20 : Int32) ≤ (rI M v0 6) then some M else if inB (rI M v0 6) 20 = true then some (wI (wI M (v0 + 9) ((rI M v0 6).toNatClampNeg) v1) v0 6 ((rI (wI M (v0 + 9) ((rI M v0 6).toNatClampNeg) v1) v0 6) + (1 : Int32))) else none
/-! X4_acceptOperand -/
def fX4_acceptOperand_b115  (v0 : Nat) (M : Mem) : Option (Int32 × Mem) :=
  some ((0 : Int32), wI M v0 12 (4 : Int32))
def fX4_acceptOperand (v0 : Nat) (M : Mem) : Option (Int32 × Mem) :=
  if (rI M v0 10) = (2 : Int32) then (fX6_emit (v0 + 1) (rI M v0 11) M).bind fun qj4 => fX4_acceptOperand_b115 v0 qj4 else if (rI M v0 10) = (7 : Int32) then (fX6_emit (v0 + 1) (-1 : Int32) M).bind fun qj8 => fX4_acceptOperand_b115 v0 qj8 else if (rI M v0 10) = (8 : Int32) then (fX6_emit (v0 + 1) (-2 : Int32) M).bind fun qj12 => fX4_acceptOperand_b115 v0 qj12 else if (rI M v0 10) = (40 : Int32) then if (rI M v0 15) < (6 : Int32) then (fX4_holdBack v0 (0 : Int32) (wI M v0 15 ((rI M v0 15) + (1 : Int32)))).bind fun qj15 => some ((0 : Int32), qj15) else some ((5 : Int32), M) else some ((2 : Int32), M)
/-! X4_stepOf -/
def fX4_stepOf_b75  (Mo : Mem) : Option Int32 :=
  some (0 : Int32)
def fX4_stepOf (v0 : Int32) (Mo : Mem) : Option Int32 :=
  if v0 = (37 : Int32) then some (-7 : Int32) else if v0 = (38 : Int32) then fX4_stepOf_b75 Mo else if v0 = (39 : Int32) then fX4_stepOf_b75 Mo else if v0 = (40 : Int32) then fX4_stepOf_b75 Mo else if v0 = (41 : Int32) then fX4_stepOf_b75 Mo else if v0 = (42 : Int32) then some (-5 : Int32) else if v0 = (43 : Int32) then some (-3 : Int32) else if v0 = (44 : Int32) then fX4_stepOf_b75 Mo else if v0 = (45 : Int32) then some (-4 : Int32) else if v0 = (46 : Int32) then fX4_stepOf_b75 Mo else if v0 = (47 : Int32) then some (-6 : Int32) else fX4_stepOf_b75 Mo
/-! X4_rankOf -/
def fX4_rankOf_b18  (Mo : Mem) : Option Int32 :=
  some (1 : Int32)
def fX4_rankOf (v0 : Int32) (Mo : Mem) : Option Int32 :=
  if v0 = 0 then some (0 : Int32) else if v0 = (-3 : Int32) then fX4_rankOf_b18 Mo else if v0 = (-4 : Int32) then fX4_rankOf_b18 Mo else some (2 : Int32)
/-! X4_emitWaiting -/
def fX4_emitWaiting_l2_s (N : Nat) (v0 : Nat) (v1 : Int32) (k2 : Int32 → Mem → Option Mem) (v2 : Int32) (M : Mem) : Option Mem :=
  if (20 : Int32) ≤ v2 then some M else if (rI M v0 6) ≤ 0 then some M else if inB ((rI M v0 6) - (1 : Int32)) 20 = true then (fX4_rankOf (rI M (v0 + 9) ((rI M v0 6) - (1 : Int32)).toNatClampNeg) M).bind fun qj3 => if v1 ≤ qj3 then (fX6_emit (v0 + 1) (rI M (v0 + 9) ((rI M v0 6) - (1 : Int32)).toNatClampNeg) M).bind fun qj5 => k2 (v2 + (1 : Int32)) (wI qj5 v0 6 ((rI qj5 v0 6) - (1 : Int32))) else some M else none
def fX4_emitWaiting_l2 (N : Nat) (v0 : Nat) (v1 : Int32) : Nat → Int32 → Mem → Option Mem
  | 0, _, _ => none
  | n + 1, v2, M => fX4_emitWaiting_l2_s N v0 v1 (fX4_emitWaiting_l2 N v0 v1 n) v2 M
def fX4_emitWaiting (N : Nat) (v0 : Nat) (v1 : Int32) (M : Mem) : Option Mem :=
  fX4_emitWaiting_l2 N v0 v1 N (0 : Int32) M
/-! X4_finishExpression -/
def fX4_finishExpression (N : Nat) (v0 : Nat) (M : Mem) : Option Mem :=
  if (rI M v0 13) = (5 : Int32) then (fX6_addMark N (v0 + 1) (rI M v0 14) M).bind fun qj2 => some qj2 else (fX6_setTag (v0 + 1) (rI M v0 14) M).bind fun qj4 => some qj4
/-! X4_acceptSemicolon -/
def fX4_acceptSemicolon (v0 : Nat) (M : Mem) : Option (Int32 × Mem) :=
  if (rI M v0 10) = (59 : Int32) then some ((0 : Int32), wI (wI M (v0 + 1) 0 ((rI M (v0 + 1) 0) + (1 : Int32))) v0 12 (0 : Int32)) else some ((2 : Int32), M)
/-! X4_acceptOperator -/
def fX4_acceptOperator_b109 (N : Nat) (M : Mem) : Option (Int32 × Mem) :=
  some ((2 : Int32), M)
def fX4_acceptOperator_b79 (N : Nat) (v0 : Nat) (M : Mem) : Option (Int32 × Mem) :=
  if (rI M v0 10) = (59 : Int32) then if (rI M v0 15) = 0 then (fX4_emitWaiting N v0 (1 : Int32) M).bind fun qj1 => (fX4_finishExpression N v0 qj1).bind fun qj2 => (fX4_acceptSemicolon v0 qj2).bind fun qj3 => some (qj3.1, qj3.2) else fX4_acceptOperator_b109 N M else fX4_acceptOperator_b109 N M
def fX4_acceptOperator (N : Nat) (v0 : Nat) (M : Mem) : Option (Int32 × Mem) :=
  (fX4_stepOf (rI M v0 10) M).bind fun qj1 => if qj1 = 0 then if (rI M v0 10) = (41 : Int32) then if (rI M v0 15) ≤ 0 then fX4_acceptOperator_b79 N v0 M else (fX4_emitWaiting N v0 (1 : Int32) M).bind fun qj2 => some ((0 : Int32), wI (wI qj2 v0 6 (maxI ((rI qj2 v0 6) - (1 : Int32)) (0 : Int32))) v0 15 ((rI (wI qj2 v0 6 (maxI ((rI qj2 v0 6) - (1 : Int32)) (0 : Int32))) v0 15) - (1 : Int32))) else fX4_acceptOperator_b79 N v0 M else (fX4_rankOf qj1 M).bind fun qj3 => (fX4_emitWaiting N v0 qj3 M).bind fun qj4 => (fX4_holdBack v0 qj1 qj4).bind fun qj5 => some ((0 : Int32), wI qj5 v0 12 (3 : Int32))
/-! X4_accept -/
def fX4_accept_b68 (N : Nat) (v0 : Nat) (M : Mem) : Option (Int32 × Mem) :=
  (fX4_acceptSemicolon v0 M).bind fun qj1 => some (qj1.1, qj1.2)
def fX4_accept (N : Nat) (v0 : Nat) (M : Mem) : Option (Int32 × Mem) :=
  if (rI M v0 10) = (1 : Int32) then some ((1 : Int32), M) else if (rI M v0 12) = (0 : Int32) then (fX4_acceptHead v0 M).bind fun qj3 => some (qj3.1, qj3.2) else if (rI M v0 12) = (1 : Int32) then (fX4_acceptBound v0 M).bind fun qj6 => some (qj6.1, qj6.2) else if (rI M v0 12) = (2 : Int32) then fX4_accept_b68 N v0 M else if (rI M v0 12) = (3 : Int32) then (fX4_acceptOperand v0 M).bind fun qj11 => some (qj11.1, qj11.2) else if (rI M v0 12) = (4 : Int32) then (fX4_acceptOperator N v0 M).bind fun qj14 => some (qj14.1, qj14.2) else fX4_accept_b68 N v0 M
/-! X4_readAll -/
def fX4_readAll_b113 (N : Nat) (v2 : Int32) (M : Mem) : Option (Bool × Mem) :=
  if v2 = 0 then some (true, M) else some (false, M)
def fX4_readAll_b99 (N : Nat) (v0 : Nat) (v2 : Int32) (s0 : Int32) (s1 : Nat) (M : Mem) : Option (Bool × Mem) :=
  if v2 = 0 then (fX6_fillTables N (v0 + 1) (wI M s1 3 s0)).bind fun qj2 => fX4_readAll_b113 N v2 qj2 else fX4_readAll_b113 N v2 (wI M s1 3 s0)
def fX4_readAll_b81 (N : Nat) (v0 : Nat) (v2 : Int32) (M : Mem) : Option (Bool × Mem) :=
  if v2 = 0 then fX4_readAll_b99 N v0 v2 (-1 : Int32) v0 (wI M v0 2 v2) else fX4_readAll_b99 N v0 v2 (rI (wI M v0 2 v2) v0 8) v0 (wI M v0 2 v2)
def fX4_readAll_b68 (N : Nat) (v0 : Nat) (v2 : Int32) (M : Mem) : Option (Bool × Mem) :=
  if v2 = 0 then if (rI M v0 12) = 0 then fX4_readAll_b81 N v0 v2 M else fX4_readAll_b81 N v0 (2 : Int32) M else fX4_readAll_b81 N v0 v2 M
def fX4_readAll_b62 (N : Nat) (k30 : Int32 → Int32 → Mem → Option (Bool × Mem)) (v0 : Nat) (v2 : Int32) (v3 : Int32) (M : Mem) : Option (Bool × Mem) :=
  k30 v2 (v3 + (1 : Int32)) M
def fX4_readAll_l30_s (N : Nat) (v0 : Nat) (k30 : Int32 → Int32 → Mem → Option (Bool × Mem)) (v2 : Int32) (v3 : Int32) (M : Mem) : Option (Bool × Mem) :=
  if (rI M v0 7) < v3 then fX4_readAll_b68 N v0 v2 M else if (rI M v0 10) = 0 then fX4_readAll_b68 N v0 v2 M else if v2 = 0 then (fX4_accept N v0 M).bind fun qj1 => if qj1.1 = 0 then (fX4_advance N v0 qj1.2).bind fun qj2 => fX4_readAll_b62 N k30 v0 qj1.1 v3 qj2 else fX4_readAll_b62 N k30 v0 qj1.1 v3 qj1.2 else fX4_readAll_b68 N v0 v2 M
def fX4_readAll_l30 (N : Nat) (v0 : Nat) : Nat → Int32 → Int32 → Mem → Option (Bool × Mem)
  | 0, _, _, _ => none
  | n + 1, v2, v3, M => fX4_readAll_l30_s N v0 (fX4_readAll_l30 N v0 n) v2 v3 M
def fX4_readAll (N : Nat) (v0 : Nat) (v1 : Int32) (M : Mem) : Option (Bool × Mem) :=
  (fX6_clear (v0 + 1) (wI (wI (wI M v0 7 v1) v0 9 (0 : Int32)) v0 12 (0 : Int32))).bind fun qj2 => (fX4_advance N v0 qj2).bind fun qj3 => fX4_readAll_l30 N v0 N (0 : Int32) (0 : Int32) qj3
set_option maxHeartbeats 4000000 in
set_option maxRecDepth 100000 in
theorem z_fX4_append_l3_s {p : Program} {l : Launch} {e : Env} {s : State} {m : MethodId} {args : Array Value} {below : List Frame} {meth : Method} {c : Code} {D : va_G} {cy : Nat → ClassId} {B : Nat} {kd : Nat → Nat} {n : Nat} {sa sv : Nat → Nat} (C : zC p l s m args meth c D cy B kd n sa sv RX4 cX4_append 3) (ht : ∀ x ∈ c.exceptionTable.toList, False) (hr : meth.sig.returnType = none) {b0 : Mem} (N : Nat) (v0 : Nat) (v1 : Int32) (k3 : Int32 → Mem → Option Mem) (v2 : Int32) (M : Mem) (h0 : kd v0 = 4)  (hk3 : ∀ (v2 : Int32) (M : Mem), Z p l e (rmz 0 0) s m args below meth c (vx_MQ below (QcR D cy B kd n (cvV b0)) (XcR D cy B kd n (cvV b0)) args s 0 (6 * 0) (AA B kd n)) D cy B kd n 3 b0 0 3 [(0, .ref (B + v0)), (1, .int v1), (2, .int v2)] [] M (k3 v2 M)) : Z p l e (rmz 0 0) s m args below meth c (vx_MQ below (QcR D cy B kd n (cvV b0)) (XcR D cy B kd n (cvV b0)) args s 0 (6 * 0) (AA B kd n)) D cy B kd n 3 b0 0 3 [(0, .ref (B + v0)), (1, .int v1), (2, .int v2)] [] M (fX4_append_l3_s N v0 v1 k3 v2 M) := by
  unfold fX4_append_l3_s
  refine z_iload_n C 2 2 dX4_append_3 rfl rfl ?_
  refine z_if_lt C 48 dX4_append_4 rfl (fun _ => ?_) (fun _ => ?_)
  · exact z_vret C hr (Nat.le_of_ble_eq_true rfl) dX4_append_48 rfl
  · refine z_aload_n C 0 0 dX4_append_7 rfl rfl ?_
    refine z_getI (k := 1) C cl4 h0 rfl gw_1_235 rfl dX4_append_8 ?_
    refine z_aload_n C 0 0 dX4_append_11 rfl rfl ?_
    refine z_getR (k := 4) C cl4 h0 rfl gw_2_0 rfl dX4_append_12 ?_
    have j1 : kd (v0 + 8) = 31 := zkd C h0 (k := 4) rfl
    refine z_alen (v := 600) C j1 (by decide) rfl dX4_append_15 ?_
    refine z_icmp_ge C 48 dX4_append_16 rfl (fun _ => ?_) (fun _ => ?_)
    · exact z_vret C hr (Nat.le_of_ble_eq_true rfl) dX4_append_48 rfl
    · refine z_aload_n C 0 0 dX4_append_19 rfl rfl ?_
      refine z_getR (k := 4) C cl4 h0 rfl gw_2_0 rfl dX4_append_20 ?_
      have j2 : kd (v0 + 8) = 31 := zkd C h0 (k := 4) rfl
      refine z_aload_n C 0 0 dX4_append_23 rfl rfl ?_
      refine z_getI (k := 1) C cl4 h0 rfl gw_1_235 rfl dX4_append_24 ?_
      refine z_iload_n C 1 1 dX4_append_27 rfl rfl ?_
      refine z_iload_n C 2 2 dX4_append_28 rfl rfl ?_
      refine z_iushr C dX4_append_29 ?_
      refine z_i2b C dX4_append_30 ?_
      refine z_bast C j2 rfl (by decide) dX4_append_31 (fun _ => ?_)
      refine z_aload_n C 0 0 dX4_append_32 rfl rfl ?_
      refine z_dup C dX4_append_33 rfl ?_
      refine z_getI (k := 1) C cl4 h0 rfl gw_1_235 rfl dX4_append_34 ?_
      refine z_iconst C dX4_append_37 rfl ?_
      refine z_iadd C dX4_append_38 ?_
      refine z_putI (k := 1) C cl4 h0 rfl gw_1_235 rfl rfl rfl dX4_append_39 ?_
      refine z_iinc C 2 2 (v := v2) (v1 := (v2 + (-8 : Int32))) (ls1 := [(2, .int (v2 + (-8 : Int32))), (0, .ref (B + v0)), (1, .int v1)]) dX4_append_42 rfl rfl (by decide) rfl ?_
      refine z_goto C 3 dX4_append_45 rfl ?_
      exact z_jump (ls1 := [(0, .ref (B + v0)), (1, .int v1), (2, .int (v2 + (-8 : Int32)))]) (Nat.le_of_ble_eq_true rfl) [1, 2, 0] rfl (hk3 (v2 + (-8 : Int32)) (wI (wI M (v0 + 8) ((rI M v0 1).toNatClampNeg) (vp_nar .byte ((ushrI v1 v2).toInt8.toInt32))) v0 1 ((rI (wI M (v0 + 8) ((rI M v0 1).toNatClampNeg) (vp_nar .byte ((ushrI v1 v2).toInt8.toInt32))) v0 1) + (1 : Int32))))
theorem z_fX4_append_l3_i {p : Program} {l : Launch} {e : Env} {s : State} {m : MethodId} {args : Array Value} {below : List Frame} {meth : Method} {c : Code} {D : va_G} {cy : Nat → ClassId} {B : Nat} {kd : Nat → Nat} {n : Nat} {sa sv : Nat → Nat} (C : zC p l s m args meth c D cy B kd n sa sv RX4 cX4_append 3) (ht : ∀ x ∈ c.exceptionTable.toList, False) (hr : meth.sig.returnType = none) {b0 : Mem} (N : Nat) (v0 : Nat) (v1 : Int32) (h0 : kd v0 = 4)  (fu : Nat) : ∀ (v2 : Int32) (M : Mem), Z p l e (rmz 0 0) s m args below meth c (vx_MQ below (QcR D cy B kd n (cvV b0)) (XcR D cy B kd n (cvV b0)) args s 0 (6 * 0) (AA B kd n)) D cy B kd n 3 b0 0 3 [(0, .ref (B + v0)), (1, .int v1), (2, .int v2)] [] M (fX4_append_l3 N v0 v1 fu v2 M) := by
  induction fu with
  | zero => intro v2 M; exact z_none
  | succ fu ih => intro v2 M; exact z_fX4_append_l3_s C ht hr N v0 v1 (fX4_append_l3 N v0 v1 fu) v2 M h0 (fun v2 M => ih v2 M)
theorem z_fX4_append_l3 {p : Program} {l : Launch} {e : Env} {s : State} {m : MethodId} {args : Array Value} {below : List Frame} {meth : Method} {c : Code} {D : va_G} {cy : Nat → ClassId} {B : Nat} {kd : Nat → Nat} {n : Nat} {sa sv : Nat → Nat} (C : zC p l s m args meth c D cy B kd n sa sv RX4 cX4_append 3) (ht : ∀ x ∈ c.exceptionTable.toList, False) (hr : meth.sig.returnType = none) {b0 : Mem} (N : Nat) (v0 : Nat) (v1 : Int32) (fu : Nat) (v2 : Int32) (M : Mem) (h0 : kd v0 = 4)  : Z p l e (rmz 0 0) s m args below meth c (vx_MQ below (QcR D cy B kd n (cvV b0)) (XcR D cy B kd n (cvV b0)) args s 0 (6 * 0) (AA B kd n)) D cy B kd n 3 b0 0 3 [(0, .ref (B + v0)), (1, .int v1), (2, .int v2)] [] M (fX4_append_l3 N v0 v1 fu v2 M) := z_fX4_append_l3_i C ht hr N v0 v1 h0 fu v2 M
set_option maxHeartbeats 4000000 in
set_option maxRecDepth 100000 in
theorem ctX4_append {l : Launch} {D : va_G} {cy : Nat → ClassId} {B : Nat} {kd : Nat → Nat} {n : Nat} {sa sv : Nat → Nat} (G : zG l kd n) (N : Nat) (v0 : Nat) (v1 : Int32) (h0 : kd v0 = 4) (M : Mem) : CT l D cy B kd n sa sv 0 0 yX4_append cX4_append 3 (none) cvV [.ref (B + v0), .int v1] M (fX4_append N v0 v1 M) := by
  refine ct_of (by decide) G.1 G.2 (Nat.le_of_ble_eq_true rfl) (ls := [(0, .ref (B + v0)), (1, .int v1)]) rfl ?_
  intro p e s m args below meth c b0 C ht hr
  unfold fX4_append
  refine z_bipush (v := 24) C dX4_append_0 rfl ?_
  refine z_istore_n C 2 (ls1 := [(2, .int (24 : Int32)), (0, .ref (B + v0)), (1, .int v1)]) dX4_append_2 rfl (by decide) rfl ?_
  exact z_jump (ls1 := [(0, .ref (B + v0)), (1, .int v1), (2, .int (24 : Int32))]) (Nat.le_of_ble_eq_true rfl) [1, 2, 0] rfl (z_fX4_append_l3 C ht hr N v0 v1 N (24 : Int32) M h0)
set_option maxHeartbeats 4000000 in
set_option maxRecDepth 100000 in
theorem z_fX4_byteAt_b34 {p : Program} {l : Launch} {e : Env} {s : State} {m : MethodId} {args : Array Value} {below : List Frame} {meth : Method} {c : Code} {D : va_G} {cy : Nat → ClassId} {B : Nat} {kd : Nat → Nat} {n : Nat} {sa sv : Nat → Nat} (C : zC p l s m args meth c D cy B kd n sa sv RX4 cX4_byteAt 2) (ht : ∀ x ∈ c.exceptionTable.toList, False) (hr : meth.sig.returnType = some (FieldType.int)) {b0 : Int32}   (Mo : Mem)  : Z p l e (rmz 0 0) s m args below meth c (vx_MQ below (QcR D cy B kd n ((pI Mo) b0)) (XcR D cy B kd n ((pI Mo) b0)) args s 0 (6 * 0) (AA B kd n)) D cy B kd n 2 b0 0 34 [] [] Mo (fX4_byteAt_b34 Mo) := by
  unfold fX4_byteAt_b34
  refine z_iconst C dX4_byteAt_34 rfl ?_
  exact z_iret C hr (Nat.le_of_ble_eq_true rfl) dX4_byteAt_35 rfl
set_option maxHeartbeats 4000000 in
set_option maxRecDepth 100000 in
theorem ctX4_byteAt {l : Launch} {D : va_G} {cy : Nat → ClassId} {B : Nat} {kd : Nat → Nat} {n : Nat} {sa sv : Nat → Nat} (G : zG l kd n) (v0 : Nat) (v1 : Int32) (h0 : kd v0 = 4) (Mo : Mem) : CT l D cy B kd n sa sv 0 0 yX4_byteAt cX4_byteAt 2 (some (FieldType.int)) (pI Mo) [.ref (B + v0), .int v1] Mo (fX4_byteAt v0 v1 Mo) := by
  refine ct_of (by decide) G.1 G.2 (Nat.le_of_ble_eq_true rfl) (ls := [(0, .ref (B + v0)), (1, .int v1)]) rfl ?_
  intro p e s m args below meth c b0 C ht hr
  unfold fX4_byteAt
  refine z_iload_n C 1 1 dX4_byteAt_0 rfl rfl ?_
  refine z_if_lt C 34 dX4_byteAt_1 rfl (fun _ => ?_) (fun _ => ?_)
  · exact z_jump (ls1 := []) (Nat.le_of_ble_eq_true rfl) [] rfl (z_fX4_byteAt_b34 C ht hr Mo)
  · refine z_iload_n C 1 1 dX4_byteAt_4 rfl rfl ?_
    refine z_aload_n C 0 0 dX4_byteAt_5 rfl rfl ?_
    refine z_getI (k := 7) C cl4 h0 rfl gw_2_3 rfl dX4_byteAt_6 ?_
    refine z_icmp_ge C 34 dX4_byteAt_9 rfl (fun _ => ?_) (fun _ => ?_)
    · exact z_jump (ls1 := []) (Nat.le_of_ble_eq_true rfl) [] rfl (z_fX4_byteAt_b34 C ht hr Mo)
    · refine z_iload_n C 1 1 dX4_byteAt_12 rfl rfl ?_
      refine z_aload_n C 0 0 dX4_byteAt_13 rfl rfl ?_
      refine z_getR (k := 4) C cl4 h0 rfl gw_2_0 rfl dX4_byteAt_14 ?_
      have j1 : kd (v0 + 8) = 31 := zkd C h0 (k := 4) rfl
      refine z_alen (v := 600) C j1 (by decide) rfl dX4_byteAt_17 ?_
      refine z_icmp_ge C 34 dX4_byteAt_18 rfl (fun _ => ?_) (fun _ => ?_)
      · exact z_jump (ls1 := []) (Nat.le_of_ble_eq_true rfl) [] rfl (z_fX4_byteAt_b34 C ht hr Mo)
      · refine z_aload_n C 0 0 dX4_byteAt_21 rfl rfl ?_
        refine z_getR (k := 4) C cl4 h0 rfl gw_2_0 rfl dX4_byteAt_22 ?_
        have j2 : kd (v0 + 8) = 31 := zkd C h0 (k := 4) rfl
        refine z_iload_n C 1 1 dX4_byteAt_25 rfl rfl ?_
        refine z_bald C j2 rfl (by decide) dX4_byteAt_26 (fun j3 => ?_)
        refine z_sipush (v := 255) C dX4_byteAt_27 rfl ?_
        refine z_iand C dX4_byteAt_30 ?_
        refine z_goto C 35 dX4_byteAt_31 rfl ?_
        exact z_iret C hr (Nat.le_of_ble_eq_true rfl) dX4_byteAt_35 rfl
set_option maxHeartbeats 4000000 in
set_option maxRecDepth 100000 in
theorem z_fX4_isBlank_b12 {p : Program} {l : Launch} {e : Env} {s : State} {m : MethodId} {args : Array Value} {below : List Frame} {meth : Method} {c : Code} {D : va_G} {cy : Nat → ClassId} {B : Nat} {kd : Nat → Nat} {n : Nat} {sa sv : Nat → Nat} (C : zC p l s m args meth c D cy B kd n sa sv RX4 cX4_isBlank 1) (ht : ∀ x ∈ c.exceptionTable.toList, False) (hr : meth.sig.returnType = some (FieldType.boolean)) {b0 : Bool}   (Mo : Mem)  : Z p l e (rmz 0 0) s m args below meth c (vx_MQ below (QcR D cy B kd n ((pB Mo) b0)) (XcR D cy B kd n ((pB Mo) b0)) args s 0 (6 * 0) (AA B kd n)) D cy B kd n 1 b0 0 12 [] [] Mo (fX4_isBlank_b12 Mo) := by
  unfold fX4_isBlank_b12
  refine z_iconst C dX4_isBlank_12 rfl ?_
  refine z_goto C 17 dX4_isBlank_13 rfl ?_
  exact z_zret C (v := true) hr (Nat.le_of_ble_eq_true rfl) dX4_isBlank_17 rfl
set_option maxHeartbeats 4000000 in
set_option maxRecDepth 100000 in
theorem ctX4_isBlank {l : Launch} {D : va_G} {cy : Nat → ClassId} {B : Nat} {kd : Nat → Nat} {n : Nat} {sa sv : Nat → Nat} (G : zG l kd n) (v0 : Int32)  (Mo : Mem) : CT l D cy B kd n sa sv 0 0 yX4_isBlank cX4_isBlank 1 (some (FieldType.boolean)) (pB Mo) [.int v0] Mo (fX4_isBlank v0 Mo) := by
  refine ct_of (by decide) G.1 G.2 (Nat.le_of_ble_eq_true rfl) (ls := [(0, .int v0)]) rfl ?_
  intro p e s m args below meth c b0 C ht hr
  unfold fX4_isBlank
  refine z_iload_n C 0 0 dX4_isBlank_0 rfl rfl ?_
  refine z_bipush (v := 10) C dX4_isBlank_1 rfl ?_
  refine z_icmp_eq C 12 dX4_isBlank_3 rfl (fun _ => ?_) (fun _ => ?_)
  · exact z_jump (ls1 := []) (Nat.le_of_ble_eq_true rfl) [] rfl (z_fX4_isBlank_b12 C ht hr Mo)
  · refine z_iload_n C 0 0 dX4_isBlank_6 rfl rfl ?_
    refine z_bipush (v := 32) C dX4_isBlank_7 rfl ?_
    refine z_icmp_ne C 16 dX4_isBlank_9 rfl (fun _ => ?_) (fun _ => ?_)
    · exact z_jump (ls1 := []) (Nat.le_of_ble_eq_true rfl) [] rfl (z_fX4_isBlank_b12 C ht hr Mo)
    · refine z_iconst C dX4_isBlank_16 rfl ?_
      exact z_zret C (v := false) hr (Nat.le_of_ble_eq_true rfl) dX4_isBlank_17 rfl
set_option maxHeartbeats 4000000 in
set_option maxRecDepth 100000 in
theorem z_fX4_isLetter_b16 {p : Program} {l : Launch} {e : Env} {s : State} {m : MethodId} {args : Array Value} {below : List Frame} {meth : Method} {c : Code} {D : va_G} {cy : Nat → ClassId} {B : Nat} {kd : Nat → Nat} {n : Nat} {sa sv : Nat → Nat} (C : zC p l s m args meth c D cy B kd n sa sv RX4 cX4_isLetter 1) (ht : ∀ x ∈ c.exceptionTable.toList, False) (hr : meth.sig.returnType = some (FieldType.boolean)) {b0 : Bool}   (Mo : Mem)  : Z p l e (rmz 0 0) s m args below meth c (vx_MQ below (QcR D cy B kd n ((pB Mo) b0)) (XcR D cy B kd n ((pB Mo) b0)) args s 0 (6 * 0) (AA B kd n)) D cy B kd n 1 b0 0 16 [] [] Mo (fX4_isLetter_b16 Mo) := by
  unfold fX4_isLetter_b16
  refine z_iconst C dX4_isLetter_16 rfl ?_
  exact z_zret C (v := false) hr (Nat.le_of_ble_eq_true rfl) dX4_isLetter_17 rfl
set_option maxHeartbeats 4000000 in
set_option maxRecDepth 100000 in
theorem ctX4_isLetter {l : Launch} {D : va_G} {cy : Nat → ClassId} {B : Nat} {kd : Nat → Nat} {n : Nat} {sa sv : Nat → Nat} (G : zG l kd n) (v0 : Int32)  (Mo : Mem) : CT l D cy B kd n sa sv 0 0 yX4_isLetter cX4_isLetter 1 (some (FieldType.boolean)) (pB Mo) [.int v0] Mo (fX4_isLetter v0 Mo) := by
  refine ct_of (by decide) G.1 G.2 (Nat.le_of_ble_eq_true rfl) (ls := [(0, .int v0)]) rfl ?_
  intro p e s m args below meth c b0 C ht hr
  unfold fX4_isLetter
  refine z_iload_n C 0 0 dX4_isLetter_0 rfl rfl ?_
  refine z_bipush (v := 97) C dX4_isLetter_1 rfl ?_
  refine z_icmp_lt C 16 dX4_isLetter_3 rfl (fun _ => ?_) (fun _ => ?_)
  · exact z_jump (ls1 := []) (Nat.le_of_ble_eq_true rfl) [] rfl (z_fX4_isLetter_b16 C ht hr Mo)
  · refine z_iload_n C 0 0 dX4_isLetter_6 rfl rfl ?_
    refine z_bipush (v := 122) C dX4_isLetter_7 rfl ?_
    refine z_icmp_gt C 16 dX4_isLetter_9 rfl (fun _ => ?_) (fun _ => ?_)
    · exact z_jump (ls1 := []) (Nat.le_of_ble_eq_true rfl) [] rfl (z_fX4_isLetter_b16 C ht hr Mo)
    · refine z_iconst C dX4_isLetter_12 rfl ?_
      refine z_goto C 17 dX4_isLetter_13 rfl ?_
      exact z_zret C (v := true) hr (Nat.le_of_ble_eq_true rfl) dX4_isLetter_17 rfl
set_option maxHeartbeats 4000000 in
set_option maxRecDepth 100000 in
theorem z_fX4_spells_l20_s {p : Program} {l : Launch} {e : Env} {s : State} {m : MethodId} {args : Array Value} {below : List Frame} {meth : Method} {c : Code} {D : va_G} {cy : Nat → ClassId} {B : Nat} {kd : Nat → Nat} {n : Nat} {sa sv : Nat → Nat} (C : zC p l s m args meth c D cy B kd n sa sv RX4 cX4_spells 3) (ht : ∀ x ∈ c.exceptionTable.toList, False) (hr : meth.sig.returnType = some (FieldType.boolean)) {b0 : Bool} {Mo : Mem} (N : Nat) (v0 : Nat) (v1 : Nat) (k20 : Int32 → Option Bool) (v2 : Int32) (h0 : kd v0 = 4) (h1 : v1 < 40)  (hk20 : ∀ (v2 : Int32), Z p l e (rmz 4 0) s m args below meth c (vx_MQ below (QcR D cy B kd n ((pB Mo) b0)) (XcR D cy B kd n ((pB Mo) b0)) args s 0 (6 * 0) (AA B kd n)) D cy B kd n 3 b0 0 20 [(0, .ref (B + v0)), (1, .ref (sa v1)), (2, .int v2)] [] Mo (k20 v2)) : Z p l e (rmz 4 0) s m args below meth c (vx_MQ below (QcR D cy B kd n ((pB Mo) b0)) (XcR D cy B kd n ((pB Mo) b0)) args s 0 (6 * 0) (AA B kd n)) D cy B kd n 3 b0 0 20 [(0, .ref (B + v0)), (1, .ref (sa v1)), (2, .int v2)] [] Mo (fX4_spells_l20_s N v0 v1 Mo k20 v2) := by
  unfold fX4_spells_l20_s
  refine z_iload_n C 2 2 dX4_spells_20 rfl rfl ?_
  refine z_aload_n C 1 1 dX4_spells_21 rfl rfl ?_
  refine z_callVT_pI (As := []) (rest := [.int v2]) C rfl (ctJ0_length_8abf5 (zG_of C) v1 h1 Mo) cw_RX4_181 rfl (okM_J0_length_8abf5) rfl h1 (okR_of rfl) (Nat.le_of_ble_eq_true rfl) dX4_spells_22 (fun qj1 _ => ?_)
  refine z_icmp_ge C 54 dX4_spells_25 rfl (fun _ => ?_) (fun _ => ?_)
  · refine z_iconst C dX4_spells_54 rfl ?_
    exact z_zret C (v := true) hr (Nat.le_of_ble_eq_true rfl) dX4_spells_55 rfl
  · refine z_aload_n C 0 0 dX4_spells_28 rfl rfl ?_
    refine z_aload_n C 0 0 dX4_spells_29 rfl rfl ?_
    refine z_getI (k := 8) C cl4 h0 rfl gw_2_4 rfl dX4_spells_30 ?_
    refine z_iload_n C 2 2 dX4_spells_33 rfl rfl ?_
    refine z_iadd C dX4_spells_34 ?_
    refine z_callV_pI (As := [.int ((rI Mo v0 8) + v2)]) (rest := []) C rfl (ctX4_byteAt (zG_of C) v0 ((rI Mo v0 8) + v2) h0 Mo) cw_RX4_141 rfl (okM_X4_byteAt) rfl cl4 h0 (okR_of rfl) (Nat.le_of_ble_eq_true rfl) dX4_spells_35 (fun qj2 _ => ?_)
    refine z_aload_n C 1 1 dX4_spells_38 rfl rfl ?_
    refine z_iload_n C 2 2 dX4_spells_39 rfl rfl ?_
    refine z_callVT_pI (As := [.int v2]) (rest := [.int qj2]) C rfl (ctJ0_charAt_5068e (zG_of C) v1 v2 h1 Mo) cw_RX4_183 rfl (okM_J0_charAt_5068e) rfl h1 (okR_of rfl) (Nat.le_of_ble_eq_true rfl) dX4_spells_40 (fun qj3 _ => ?_)
    refine z_icmp_eq C 48 dX4_spells_43 rfl (fun _ => ?_) (fun _ => ?_)
    · refine z_iinc C 2 2 (v := v2) (v1 := (v2 + (1 : Int32))) (ls1 := [(2, .int (v2 + (1 : Int32))), (0, .ref (B + v0)), (1, .ref (sa v1))]) dX4_spells_48 rfl rfl (by decide) rfl ?_
      refine z_goto C 20 dX4_spells_51 rfl ?_
      exact z_jump (ls1 := [(0, .ref (B + v0)), (1, .ref (sa v1)), (2, .int (v2 + (1 : Int32)))]) (Nat.le_of_ble_eq_true rfl) [1, 2, 0] rfl (hk20 (v2 + (1 : Int32)))
    · refine z_iconst C dX4_spells_46 rfl ?_
      exact z_zret C (v := false) hr (Nat.le_of_ble_eq_true rfl) dX4_spells_47 rfl
theorem z_fX4_spells_l20_i {p : Program} {l : Launch} {e : Env} {s : State} {m : MethodId} {args : Array Value} {below : List Frame} {meth : Method} {c : Code} {D : va_G} {cy : Nat → ClassId} {B : Nat} {kd : Nat → Nat} {n : Nat} {sa sv : Nat → Nat} (C : zC p l s m args meth c D cy B kd n sa sv RX4 cX4_spells 3) (ht : ∀ x ∈ c.exceptionTable.toList, False) (hr : meth.sig.returnType = some (FieldType.boolean)) {b0 : Bool} {Mo : Mem} (N : Nat) (v0 : Nat) (v1 : Nat) (h0 : kd v0 = 4) (h1 : v1 < 40)  (fu : Nat) : ∀ (v2 : Int32), Z p l e (rmz 4 0) s m args below meth c (vx_MQ below (QcR D cy B kd n ((pB Mo) b0)) (XcR D cy B kd n ((pB Mo) b0)) args s 0 (6 * 0) (AA B kd n)) D cy B kd n 3 b0 0 20 [(0, .ref (B + v0)), (1, .ref (sa v1)), (2, .int v2)] [] Mo (fX4_spells_l20 N v0 v1 Mo fu v2) := by
  induction fu with
  | zero => intro v2; exact z_none
  | succ fu ih => intro v2; exact z_fX4_spells_l20_s C ht hr N v0 v1 (fX4_spells_l20 N v0 v1 Mo fu) v2 h0 h1 (fun v2 => ih v2)
theorem z_fX4_spells_l20 {p : Program} {l : Launch} {e : Env} {s : State} {m : MethodId} {args : Array Value} {below : List Frame} {meth : Method} {c : Code} {D : va_G} {cy : Nat → ClassId} {B : Nat} {kd : Nat → Nat} {n : Nat} {sa sv : Nat → Nat} (C : zC p l s m args meth c D cy B kd n sa sv RX4 cX4_spells 3) (ht : ∀ x ∈ c.exceptionTable.toList, False) (hr : meth.sig.returnType = some (FieldType.boolean)) {b0 : Bool} {Mo : Mem} (N : Nat) (v0 : Nat) (v1 : Nat) (fu : Nat) (v2 : Int32) (h0 : kd v0 = 4) (h1 : v1 < 40)  : Z p l e (rmz 4 0) s m args below meth c (vx_MQ below (QcR D cy B kd n ((pB Mo) b0)) (XcR D cy B kd n ((pB Mo) b0)) args s 0 (6 * 0) (AA B kd n)) D cy B kd n 3 b0 0 20 [(0, .ref (B + v0)), (1, .ref (sa v1)), (2, .int v2)] [] Mo (fX4_spells_l20 N v0 v1 Mo fu v2) := z_fX4_spells_l20_i C ht hr N v0 v1 h0 h1 fu v2
set_option maxHeartbeats 4000000 in
set_option maxRecDepth 100000 in
theorem ctX4_spells {l : Launch} {D : va_G} {cy : Nat → ClassId} {B : Nat} {kd : Nat → Nat} {n : Nat} {sa sv : Nat → Nat} (G : zG l kd n) (N : Nat) (v0 : Nat) (v1 : Nat) (h0 : kd v0 = 4)(h1 : v1 < 40) (Mo : Mem) : CT l D cy B kd n sa sv 4 0 yX4_spells cX4_spells 3 (some (FieldType.boolean)) (pB Mo) [.ref (B + v0), .ref (sa v1)] Mo (fX4_spells N v0 v1 Mo) := by
  refine ct_of (by decide) G.1 G.2 (Nat.le_of_ble_eq_true rfl) (ls := [(0, .ref (B + v0)), (1, .ref (sa v1))]) rfl ?_
  intro p e s m args below meth c b0 C ht hr
  unfold fX4_spells
  refine z_aload_n C 0 0 dX4_spells_0 rfl rfl ?_
  refine z_getI (k := 9) C cl4 h0 rfl gw_2_5 rfl dX4_spells_1 ?_
  refine z_aload_n C 0 0 dX4_spells_4 rfl rfl ?_
  refine z_getI (k := 8) C cl4 h0 rfl gw_2_4 rfl dX4_spells_5 ?_
  refine z_isub C dX4_spells_8 ?_
  refine z_aload_n C 1 1 dX4_spells_9 rfl rfl ?_
  refine z_callVT_pI (As := []) (rest := [.int ((rI Mo v0 9) - (rI Mo v0 8))]) C rfl (ctJ0_length_8abf5 (zG_of C) v1 h1 Mo) cw_RX4_181 rfl (okM_J0_length_8abf5) rfl h1 (okR_of rfl) (Nat.le_of_ble_eq_true rfl) dX4_spells_10 (fun qj1 _ => ?_)
  refine z_icmp_eq C 18 dX4_spells_13 rfl (fun _ => ?_) (fun _ => ?_)
  · refine z_iconst C dX4_spells_18 rfl ?_
    refine z_istore_n C 2 (ls1 := [(2, .int (0 : Int32)), (0, .ref (B + v0)), (1, .ref (sa v1))]) dX4_spells_19 rfl (by decide) rfl ?_
    exact z_jump (ls1 := [(0, .ref (B + v0)), (1, .ref (sa v1)), (2, .int (0 : Int32))]) (Nat.le_of_ble_eq_true rfl) [1, 2, 0] rfl (z_fX4_spells_l20 C ht hr N v0 v1 N (0 : Int32) h0 h1)
  · refine z_iconst C dX4_spells_16 rfl ?_
    exact z_zret C (v := false) hr (Nat.le_of_ble_eq_true rfl) dX4_spells_17 rfl
set_option maxHeartbeats 4000000 in
set_option maxRecDepth 100000 in
theorem z_fX4_scanWord_b40 {p : Program} {l : Launch} {e : Env} {s : State} {m : MethodId} {args : Array Value} {below : List Frame} {meth : Method} {c : Code} {D : va_G} {cy : Nat → ClassId} {B : Nat} {kd : Nat → Nat} {n : Nat} {sa sv : Nat → Nat} (C : zC p l s m args meth c D cy B kd n sa sv RX4 cX4_scanWord 2) (ht : ∀ x ∈ c.exceptionTable.toList, False) (hr : meth.sig.returnType = some (FieldType.int)) {b0 : Int32 × Mem}  (N : Nat) (v0 : Nat) (M : Mem) (h0 : kd v0 = 4)  : Z p l e (rmz 5 0) s m args below meth c (vx_MQ below (QcR D cy B kd n (cvI b0)) (XcR D cy B kd n (cvI b0)) args s 0 (6 * 0) (AA B kd n)) D cy B kd n 2 b0 0 40 [(0, .ref (B + v0))] [] M (fX4_scanWord_b40 N v0 M) := by
  unfold fX4_scanWord_b40
  refine z_aload_n C 0 0 dX4_scanWord_40 rfl rfl ?_
  refine z_ldcS (i := 1) C dX4_scanWord_41 rfl ?_
  refine z_callV_pB (As := [.ref (sa 1)]) (rest := []) C rfl (ctX4_spells (zG_of C) N v0 1 h0 (by decide) M) cw_RX4_168 rfl (okM_X4_spells) rfl cl4 h0 (okR_of rfl) (Nat.le_of_ble_eq_true rfl) dX4_scanWord_43 (fun qj1 _ => ?_)
  refine z_if_eqB C 51 dX4_scanWord_46 rfl (fun _ => ?_) (fun _ => ?_)
  · refine z_iconst C dX4_scanWord_49 rfl ?_
    exact z_iret C hr (Nat.le_of_ble_eq_true rfl) dX4_scanWord_50 rfl
  · refine z_aload_n C 0 0 dX4_scanWord_51 rfl rfl ?_
    refine z_ldcS (i := 2) C dX4_scanWord_52 rfl ?_
    refine z_callV_pB (As := [.ref (sa 2)]) (rest := []) C rfl (ctX4_spells (zG_of C) N v0 2 h0 (by decide) M) cw_RX4_168 rfl (okM_X4_spells) rfl cl4 h0 (okR_of rfl) (Nat.le_of_ble_eq_true rfl) dX4_scanWord_54 (fun qj2 _ => ?_)
    refine z_if_eqB C 62 dX4_scanWord_57 rfl (fun _ => ?_) (fun _ => ?_)
    · refine z_iconst C dX4_scanWord_60 rfl ?_
      exact z_iret C hr (Nat.le_of_ble_eq_true rfl) dX4_scanWord_61 rfl
    · refine z_aload_n C 0 0 dX4_scanWord_62 rfl rfl ?_
      refine z_ldcS (i := 3) C dX4_scanWord_63 rfl ?_
      refine z_callV_pB (As := [.ref (sa 3)]) (rest := []) C rfl (ctX4_spells (zG_of C) N v0 3 h0 (by decide) M) cw_RX4_168 rfl (okM_X4_spells) rfl cl4 h0 (okR_of rfl) (Nat.le_of_ble_eq_true rfl) dX4_scanWord_65 (fun qj3 _ => ?_)
      refine z_if_eqB C 73 dX4_scanWord_68 rfl (fun _ => ?_) (fun _ => ?_)
      · refine z_iconst C dX4_scanWord_71 rfl ?_
        exact z_iret C hr (Nat.le_of_ble_eq_true rfl) dX4_scanWord_72 rfl
      · refine z_aload_n C 0 0 dX4_scanWord_73 rfl rfl ?_
        refine z_ldcS (i := 4) C dX4_scanWord_74 rfl ?_
        refine z_callV_pB (As := [.ref (sa 4)]) (rest := []) C rfl (ctX4_spells (zG_of C) N v0 4 h0 (by decide) M) cw_RX4_168 rfl (okM_X4_spells) rfl cl4 h0 (okR_of rfl) (Nat.le_of_ble_eq_true rfl) dX4_scanWord_76 (fun qj4 _ => ?_)
        refine z_if_eqB C 85 dX4_scanWord_79 rfl (fun _ => ?_) (fun _ => ?_)
        · refine z_bipush (v := 6) C dX4_scanWord_82 rfl ?_
          exact z_iret C hr (Nat.le_of_ble_eq_true rfl) dX4_scanWord_84 rfl
        · refine z_aload_n C 0 0 dX4_scanWord_85 rfl rfl ?_
          refine z_ldcS (i := 5) C dX4_scanWord_86 rfl ?_
          refine z_callV_pB (As := [.ref (sa 5)]) (rest := []) C rfl (ctX4_spells (zG_of C) N v0 5 h0 (by decide) M) cw_RX4_168 rfl (okM_X4_spells) rfl cl4 h0 (okR_of rfl) (Nat.le_of_ble_eq_true rfl) dX4_scanWord_88 (fun qj5 _ => ?_)
          refine z_if_eqB C 97 dX4_scanWord_91 rfl (fun _ => ?_) (fun _ => ?_)
          · refine z_bipush (v := 7) C dX4_scanWord_94 rfl ?_
            exact z_iret C hr (Nat.le_of_ble_eq_true rfl) dX4_scanWord_96 rfl
          · refine z_aload_n C 0 0 dX4_scanWord_97 rfl rfl ?_
            refine z_ldcS (i := 6) C dX4_scanWord_98 rfl ?_
            refine z_callV_pB (As := [.ref (sa 6)]) (rest := []) C rfl (ctX4_spells (zG_of C) N v0 6 h0 (by decide) M) cw_RX4_168 rfl (okM_X4_spells) rfl cl4 h0 (okR_of rfl) (Nat.le_of_ble_eq_true rfl) dX4_scanWord_100 (fun qj6 _ => ?_)
            refine z_if_eqB C 111 dX4_scanWord_103 rfl (fun _ => ?_) (fun _ => ?_)
            · refine z_bipush (v := 8) C dX4_scanWord_106 rfl ?_
              refine z_goto C 113 dX4_scanWord_108 rfl ?_
              exact z_iret C hr (Nat.le_of_ble_eq_true rfl) dX4_scanWord_113 rfl
            · refine z_bipush (v := 9) C dX4_scanWord_111 rfl ?_
              exact z_iret C hr (Nat.le_of_ble_eq_true rfl) dX4_scanWord_113 rfl
set_option maxHeartbeats 4000000 in
set_option maxRecDepth 100000 in
theorem z_fX4_scanWord_l2_s {p : Program} {l : Launch} {e : Env} {s : State} {m : MethodId} {args : Array Value} {below : List Frame} {meth : Method} {c : Code} {D : va_G} {cy : Nat → ClassId} {B : Nat} {kd : Nat → Nat} {n : Nat} {sa sv : Nat → Nat} (C : zC p l s m args meth c D cy B kd n sa sv RX4 cX4_scanWord 2) (ht : ∀ x ∈ c.exceptionTable.toList, False) (hr : meth.sig.returnType = some (FieldType.int)) {b0 : Int32 × Mem} (N : Nat) (v0 : Nat) (k2 : Int32 → Mem → Option (Int32 × Mem)) (v1 : Int32) (M : Mem) (h0 : kd v0 = 4)  (hk2 : ∀ (v1 : Int32) (M : Mem), Z p l e (rmz 5 0) s m args below meth c (vx_MQ below (QcR D cy B kd n (cvI b0)) (XcR D cy B kd n (cvI b0)) args s 0 (6 * 0) (AA B kd n)) D cy B kd n 2 b0 0 2 [(0, .ref (B + v0)), (1, .int v1)] [] M (k2 v1 M)) : Z p l e (rmz 5 0) s m args below meth c (vx_MQ below (QcR D cy B kd n (cvI b0)) (XcR D cy B kd n (cvI b0)) args s 0 (6 * 0) (AA B kd n)) D cy B kd n 2 b0 0 2 [(0, .ref (B + v0)), (1, .int v1)] [] M (fX4_scanWord_l2_s N v0 k2 v1 M) := by
  unfold fX4_scanWord_l2_s
  refine z_iload_n C 1 1 dX4_scanWord_2 rfl rfl ?_
  refine z_aload_n C 0 0 dX4_scanWord_3 rfl rfl ?_
  refine z_getI (k := 7) C cl4 h0 rfl gw_2_3 rfl dX4_scanWord_4 ?_
  refine z_icmp_gt C 40 dX4_scanWord_7 rfl (fun _ => ?_) (fun _ => ?_)
  · exact z_jump (ls1 := [(0, .ref (B + v0))]) (Nat.le_of_ble_eq_true rfl) [0] rfl (z_fX4_scanWord_b40 C ht hr N v0 M h0)
  · refine z_aload_n C 0 0 dX4_scanWord_10 rfl rfl ?_
    refine z_aload_n C 0 0 dX4_scanWord_11 rfl rfl ?_
    refine z_getI (k := 9) C cl4 h0 rfl gw_2_5 rfl dX4_scanWord_12 ?_
    refine z_callV_pI (As := [.int (rI M v0 9)]) (rest := []) C rfl (ctX4_byteAt (zG_of C) v0 (rI M v0 9) h0 M) cw_RX4_141 rfl (okM_X4_byteAt) rfl cl4 h0 (okR_of rfl) (Nat.le_of_ble_eq_true rfl) dX4_scanWord_15 (fun qj1 _ => ?_)
    refine z_callS_pB (As := [.int qj1]) (rest := []) C rfl (ctX4_isLetter (zG_of C) qj1 M) cw_RX4_148 (okM_X4_isLetter) rfl (okR_of rfl) (Nat.le_of_ble_eq_true rfl) dX4_scanWord_18 (fun qj2 _ => ?_)
    refine z_if_eqB C 40 dX4_scanWord_21 rfl (fun _ => ?_) (fun _ => ?_)
    · refine z_aload_n C 0 0 dX4_scanWord_24 rfl rfl ?_
      refine z_dup C dX4_scanWord_25 rfl ?_
      refine z_getI (k := 9) C cl4 h0 rfl gw_2_5 rfl dX4_scanWord_26 ?_
      refine z_iconst C dX4_scanWord_29 rfl ?_
      refine z_iadd C dX4_scanWord_30 ?_
      refine z_putI (k := 9) C cl4 h0 rfl gw_2_5 rfl rfl rfl dX4_scanWord_31 ?_
      refine z_iinc C 1 1 (v := v1) (v1 := (v1 + (1 : Int32))) (ls1 := [(1, .int (v1 + (1 : Int32))), (0, .ref (B + v0))]) dX4_scanWord_34 rfl rfl (by decide) rfl ?_
      refine z_goto C 2 dX4_scanWord_37 rfl ?_
      exact z_jump (ls1 := [(0, .ref (B + v0)), (1, .int (v1 + (1 : Int32)))]) (Nat.le_of_ble_eq_true rfl) [1, 0] rfl (hk2 (v1 + (1 : Int32)) (wI M v0 9 ((rI M v0 9) + (1 : Int32))))
    · exact z_jump (ls1 := [(0, .ref (B + v0))]) (Nat.le_of_ble_eq_true rfl) [0] rfl (z_fX4_scanWord_b40 C ht hr N v0 M h0)
theorem z_fX4_scanWord_l2_i {p : Program} {l : Launch} {e : Env} {s : State} {m : MethodId} {args : Array Value} {below : List Frame} {meth : Method} {c : Code} {D : va_G} {cy : Nat → ClassId} {B : Nat} {kd : Nat → Nat} {n : Nat} {sa sv : Nat → Nat} (C : zC p l s m args meth c D cy B kd n sa sv RX4 cX4_scanWord 2) (ht : ∀ x ∈ c.exceptionTable.toList, False) (hr : meth.sig.returnType = some (FieldType.int)) {b0 : Int32 × Mem} (N : Nat) (v0 : Nat) (h0 : kd v0 = 4)  (fu : Nat) : ∀ (v1 : Int32) (M : Mem), Z p l e (rmz 5 0) s m args below meth c (vx_MQ below (QcR D cy B kd n (cvI b0)) (XcR D cy B kd n (cvI b0)) args s 0 (6 * 0) (AA B kd n)) D cy B kd n 2 b0 0 2 [(0, .ref (B + v0)), (1, .int v1)] [] M (fX4_scanWord_l2 N v0 fu v1 M) := by
  induction fu with
  | zero => intro v1 M; exact z_none
  | succ fu ih => intro v1 M; exact z_fX4_scanWord_l2_s C ht hr N v0 (fX4_scanWord_l2 N v0 fu) v1 M h0 (fun v1 M => ih v1 M)
theorem z_fX4_scanWord_l2 {p : Program} {l : Launch} {e : Env} {s : State} {m : MethodId} {args : Array Value} {below : List Frame} {meth : Method} {c : Code} {D : va_G} {cy : Nat → ClassId} {B : Nat} {kd : Nat → Nat} {n : Nat} {sa sv : Nat → Nat} (C : zC p l s m args meth c D cy B kd n sa sv RX4 cX4_scanWord 2) (ht : ∀ x ∈ c.exceptionTable.toList, False) (hr : meth.sig.returnType = some (FieldType.int)) {b0 : Int32 × Mem} (N : Nat) (v0 : Nat) (fu : Nat) (v1 : Int32) (M : Mem) (h0 : kd v0 = 4)  : Z p l e (rmz 5 0) s m args below meth c (vx_MQ below (QcR D cy B kd n (cvI b0)) (XcR D cy B kd n (cvI b0)) args s 0 (6 * 0) (AA B kd n)) D cy B kd n 2 b0 0 2 [(0, .ref (B + v0)), (1, .int v1)] [] M (fX4_scanWord_l2 N v0 fu v1 M) := z_fX4_scanWord_l2_i C ht hr N v0 h0 fu v1 M
set_option maxHeartbeats 4000000 in
set_option maxRecDepth 100000 in
theorem ctX4_scanWord {l : Launch} {D : va_G} {cy : Nat → ClassId} {B : Nat} {kd : Nat → Nat} {n : Nat} {sa sv : Nat → Nat} (G : zG l kd n) (N : Nat) (v0 : Nat) (h0 : kd v0 = 4) (M : Mem) : CT l D cy B kd n sa sv 5 0 yX4_scanWord cX4_scanWord 2 (some (FieldType.int)) cvI [.ref (B + v0)] M (fX4_scanWord N v0 M) := by
  refine ct_of (by decide) G.1 G.2 (Nat.le_of_ble_eq_true rfl) (ls := [(0, .ref (B + v0))]) rfl ?_
  intro p e s m args below meth c b0 C ht hr
  unfold fX4_scanWord
  refine z_iconst C dX4_scanWord_0 rfl ?_
  refine z_istore_n C 1 (ls1 := [(1, .int (0 : Int32)), (0, .ref (B + v0))]) dX4_scanWord_1 rfl (by decide) rfl ?_
  exact z_jump (ls1 := [(0, .ref (B + v0)), (1, .int (0 : Int32))]) (Nat.le_of_ble_eq_true rfl) [1, 0] rfl (z_fX4_scanWord_l2 C ht hr N v0 N (0 : Int32) M h0)
set_option maxHeartbeats 4000000 in
set_option maxRecDepth 100000 in
theorem z_fX4_isDigit_b16 {p : Program} {l : Launch} {e : Env} {s : State} {m : MethodId} {args : Array Value} {below : List Frame} {meth : Method} {c : Code} {D : va_G} {cy : Nat → ClassId} {B : Nat} {kd : Nat → Nat} {n : Nat} {sa sv : Nat → Nat} (C : zC p l s m args meth c D cy B kd n sa sv RX4 cX4_isDigit 1) (ht : ∀ x ∈ c.exceptionTable.toList, False) (hr : meth.sig.returnType = some (FieldType.boolean)) {b0 : Bool}   (Mo : Mem)  : Z p l e (rmz 0 0) s m args below meth c (vx_MQ below (QcR D cy B kd n ((pB Mo) b0)) (XcR D cy B kd n ((pB Mo) b0)) args s 0 (6 * 0) (AA B kd n)) D cy B kd n 1 b0 0 16 [] [] Mo (fX4_isDigit_b16 Mo) := by
  unfold fX4_isDigit_b16
  refine z_iconst C dX4_isDigit_16 rfl ?_
  exact z_zret C (v := false) hr (Nat.le_of_ble_eq_true rfl) dX4_isDigit_17 rfl
set_option maxHeartbeats 4000000 in
set_option maxRecDepth 100000 in
theorem ctX4_isDigit {l : Launch} {D : va_G} {cy : Nat → ClassId} {B : Nat} {kd : Nat → Nat} {n : Nat} {sa sv : Nat → Nat} (G : zG l kd n) (v0 : Int32)  (Mo : Mem) : CT l D cy B kd n sa sv 0 0 yX4_isDigit cX4_isDigit 1 (some (FieldType.boolean)) (pB Mo) [.int v0] Mo (fX4_isDigit v0 Mo) := by
  refine ct_of (by decide) G.1 G.2 (Nat.le_of_ble_eq_true rfl) (ls := [(0, .int v0)]) rfl ?_
  intro p e s m args below meth c b0 C ht hr
  unfold fX4_isDigit
  refine z_iload_n C 0 0 dX4_isDigit_0 rfl rfl ?_
  refine z_bipush (v := 48) C dX4_isDigit_1 rfl ?_
  refine z_icmp_lt C 16 dX4_isDigit_3 rfl (fun _ => ?_) (fun _ => ?_)
  · exact z_jump (ls1 := []) (Nat.le_of_ble_eq_true rfl) [] rfl (z_fX4_isDigit_b16 C ht hr Mo)
  · refine z_iload_n C 0 0 dX4_isDigit_6 rfl rfl ?_
    refine z_bipush (v := 57) C dX4_isDigit_7 rfl ?_
    refine z_icmp_gt C 16 dX4_isDigit_9 rfl (fun _ => ?_) (fun _ => ?_)
    · exact z_jump (ls1 := []) (Nat.le_of_ble_eq_true rfl) [] rfl (z_fX4_isDigit_b16 C ht hr Mo)
    · refine z_iconst C dX4_isDigit_12 rfl ?_
      refine z_goto C 17 dX4_isDigit_13 rfl ?_
      exact z_zret C (v := true) hr (Nat.le_of_ble_eq_true rfl) dX4_isDigit_17 rfl
set_option maxHeartbeats 4000000 in
set_option maxRecDepth 100000 in
theorem z_fX4_scanNumber_b80 {p : Program} {l : Launch} {e : Env} {s : State} {m : MethodId} {args : Array Value} {below : List Frame} {meth : Method} {c : Code} {D : va_G} {cy : Nat → ClassId} {B : Nat} {kd : Nat → Nat} {n : Nat} {sa sv : Nat → Nat} (C : zC p l s m args meth c D cy B kd n sa sv RX4 cX4_scanNumber 2) (ht : ∀ x ∈ c.exceptionTable.toList, False) (hr : meth.sig.returnType = some (FieldType.int)) {b0 : Int32 × Mem}  (N : Nat) (v0 : Nat) (M : Mem) (h0 : kd v0 = 4)  : Z p l e (rmz 1 0) s m args below meth c (vx_MQ below (QcR D cy B kd n (cvI b0)) (XcR D cy B kd n (cvI b0)) args s 0 (6 * 0) (AA B kd n)) D cy B kd n 2 b0 0 80 [(0, .ref (B + v0))] [] M (fX4_scanNumber_b80 N v0 M) := by
  unfold fX4_scanNumber_b80
  refine z_aload_n C 0 0 dX4_scanNumber_80 rfl rfl ?_
  refine z_getI (k := 9) C cl4 h0 rfl gw_2_5 rfl dX4_scanNumber_81 ?_
  refine z_aload_n C 0 0 dX4_scanNumber_84 rfl rfl ?_
  refine z_getI (k := 8) C cl4 h0 rfl gw_2_4 rfl dX4_scanNumber_85 ?_
  refine z_isub C dX4_scanNumber_88 ?_
  refine z_iconst C dX4_scanNumber_89 rfl ?_
  refine z_icmp_le C 97 dX4_scanNumber_90 rfl (fun _ => ?_) (fun _ => ?_)
  · refine z_iconst C dX4_scanNumber_97 rfl ?_
    exact z_iret C hr (Nat.le_of_ble_eq_true rfl) dX4_scanNumber_98 rfl
  · refine z_iconst C dX4_scanNumber_93 rfl ?_
    refine z_goto C 98 dX4_scanNumber_94 rfl ?_
    exact z_iret C hr (Nat.le_of_ble_eq_true rfl) dX4_scanNumber_98 rfl
set_option maxHeartbeats 4000000 in
set_option maxRecDepth 100000 in
theorem z_fX4_scanNumber_b61 {p : Program} {l : Launch} {e : Env} {s : State} {m : MethodId} {args : Array Value} {below : List Frame} {meth : Method} {c : Code} {D : va_G} {cy : Nat → ClassId} {B : Nat} {kd : Nat → Nat} {n : Nat} {sa sv : Nat → Nat} (C : zC p l s m args meth c D cy B kd n sa sv RX4 cX4_scanNumber 2) (ht : ∀ x ∈ c.exceptionTable.toList, False) (hr : meth.sig.returnType = some (FieldType.int)) {b0 : Int32 × Mem}  (N : Nat) (k7 : Int32 → Mem → Option (Int32 × Mem)) (v0 : Nat) (v1 : Int32) (s0 : Int32) (s1 : Nat) (M : Mem) (h0 : kd v0 = 4) (hs1 : kd s1 = 4) (hk7 : ∀ (v1 : Int32) (M : Mem), Z p l e (rmz 1 0) s m args below meth c (vx_MQ below (QcR D cy B kd n (cvI b0)) (XcR D cy B kd n (cvI b0)) args s 0 (6 * 0) (AA B kd n)) D cy B kd n 2 b0 0 7 [(0, .ref (B + v0)), (1, .int v1)] [] M (k7 v1 M)) : Z p l e (rmz 1 0) s m args below meth c (vx_MQ below (QcR D cy B kd n (cvI b0)) (XcR D cy B kd n (cvI b0)) args s 0 (6 * 0) (AA B kd n)) D cy B kd n 2 b0 0 61 [(0, .ref (B + v0)), (1, .int v1)] [.int s0, .ref (B + s1)] M (fX4_scanNumber_b61 N k7 v0 v1 s0 s1 M) := by
  unfold fX4_scanNumber_b61
  refine z_putI (k := 11) C cl4 hs1 rfl gw_2_7 rfl rfl rfl dX4_scanNumber_61 ?_
  refine z_aload_n C 0 0 dX4_scanNumber_64 rfl rfl ?_
  refine z_dup C dX4_scanNumber_65 rfl ?_
  refine z_getI (k := 9) C cl4 h0 rfl gw_2_5 rfl dX4_scanNumber_66 ?_
  refine z_iconst C dX4_scanNumber_69 rfl ?_
  refine z_iadd C dX4_scanNumber_70 ?_
  refine z_putI (k := 9) C cl4 h0 rfl gw_2_5 rfl rfl rfl dX4_scanNumber_71 ?_
  refine z_iinc C 1 1 (v := v1) (v1 := (v1 + (1 : Int32))) (ls1 := [(1, .int (v1 + (1 : Int32))), (0, .ref (B + v0))]) dX4_scanNumber_74 rfl rfl (by decide) rfl ?_
  refine z_goto C 7 dX4_scanNumber_77 rfl ?_
  exact z_jump (ls1 := [(0, .ref (B + v0)), (1, .int (v1 + (1 : Int32)))]) (Nat.le_of_ble_eq_true rfl) [1, 0] rfl (hk7 (v1 + (1 : Int32)) (wI (wI M s1 11 s0) v0 9 ((rI (wI M s1 11 s0) v0 9) + (1 : Int32))))
set_option maxHeartbeats 4000000 in
set_option maxRecDepth 100000 in
theorem z_fX4_scanNumber_l7_s {p : Program} {l : Launch} {e : Env} {s : State} {m : MethodId} {args : Array Value} {below : List Frame} {meth : Method} {c : Code} {D : va_G} {cy : Nat → ClassId} {B : Nat} {kd : Nat → Nat} {n : Nat} {sa sv : Nat → Nat} (C : zC p l s m args meth c D cy B kd n sa sv RX4 cX4_scanNumber 2) (ht : ∀ x ∈ c.exceptionTable.toList, False) (hr : meth.sig.returnType = some (FieldType.int)) {b0 : Int32 × Mem} (N : Nat) (v0 : Nat) (k7 : Int32 → Mem → Option (Int32 × Mem)) (v1 : Int32) (M : Mem) (h0 : kd v0 = 4)  (hk7 : ∀ (v1 : Int32) (M : Mem), Z p l e (rmz 1 0) s m args below meth c (vx_MQ below (QcR D cy B kd n (cvI b0)) (XcR D cy B kd n (cvI b0)) args s 0 (6 * 0) (AA B kd n)) D cy B kd n 2 b0 0 7 [(0, .ref (B + v0)), (1, .int v1)] [] M (k7 v1 M)) : Z p l e (rmz 1 0) s m args below meth c (vx_MQ below (QcR D cy B kd n (cvI b0)) (XcR D cy B kd n (cvI b0)) args s 0 (6 * 0) (AA B kd n)) D cy B kd n 2 b0 0 7 [(0, .ref (B + v0)), (1, .int v1)] [] M (fX4_scanNumber_l7_s N v0 k7 v1 M) := by
  unfold fX4_scanNumber_l7_s
  refine z_iload_n C 1 1 dX4_scanNumber_7 rfl rfl ?_
  refine z_aload_n C 0 0 dX4_scanNumber_8 rfl rfl ?_
  refine z_getI (k := 7) C cl4 h0 rfl gw_2_3 rfl dX4_scanNumber_9 ?_
  refine z_icmp_gt C 80 dX4_scanNumber_12 rfl (fun _ => ?_) (fun _ => ?_)
  · exact z_jump (ls1 := [(0, .ref (B + v0))]) (Nat.le_of_ble_eq_true rfl) [0] rfl (z_fX4_scanNumber_b80 C ht hr N v0 M h0)
  · refine z_aload_n C 0 0 dX4_scanNumber_15 rfl rfl ?_
    refine z_aload_n C 0 0 dX4_scanNumber_16 rfl rfl ?_
    refine z_getI (k := 9) C cl4 h0 rfl gw_2_5 rfl dX4_scanNumber_17 ?_
    refine z_callV_pI (As := [.int (rI M v0 9)]) (rest := []) C rfl (ctX4_byteAt (zG_of C) v0 (rI M v0 9) h0 M) cw_RX4_141 rfl (okM_X4_byteAt) rfl cl4 h0 (okR_of rfl) (Nat.le_of_ble_eq_true rfl) dX4_scanNumber_20 (fun qj1 _ => ?_)
    refine z_callS_pB (As := [.int qj1]) (rest := []) C rfl (ctX4_isDigit (zG_of C) qj1 M) cw_RX4_154 (okM_X4_isDigit) rfl (okR_of rfl) (Nat.le_of_ble_eq_true rfl) dX4_scanNumber_23 (fun qj2 _ => ?_)
    refine z_if_eqB C 80 dX4_scanNumber_26 rfl (fun _ => ?_) (fun _ => ?_)
    · refine z_aload_n C 0 0 dX4_scanNumber_29 rfl rfl ?_
      refine z_iload_n C 1 1 dX4_scanNumber_30 rfl rfl ?_
      refine z_iconst C dX4_scanNumber_31 rfl ?_
      refine z_icmp_ge C 57 dX4_scanNumber_32 rfl (fun _ => ?_) (fun _ => ?_)
      · refine z_aload_n C 0 0 dX4_scanNumber_57 rfl rfl ?_
        refine z_getI (k := 11) C cl4 h0 rfl gw_2_7 rfl dX4_scanNumber_58 ?_
        exact z_jump (ls1 := [(0, .ref (B + v0)), (1, .int v1)]) (Nat.le_of_ble_eq_true rfl) [0, 1] rfl (z_fX4_scanNumber_b61 C ht hr N k7 v0 v1 (rI M v0 11) v0 M h0 h0 hk7)
      · refine z_aload_n C 0 0 dX4_scanNumber_35 rfl rfl ?_
        refine z_getI (k := 11) C cl4 h0 rfl gw_2_7 rfl dX4_scanNumber_36 ?_
        refine z_bipush (v := 10) C dX4_scanNumber_39 rfl ?_
        refine z_imul C dX4_scanNumber_41 ?_
        refine z_aload_n C 0 0 dX4_scanNumber_42 rfl rfl ?_
        refine z_aload_n C 0 0 dX4_scanNumber_43 rfl rfl ?_
        refine z_getI (k := 9) C cl4 h0 rfl gw_2_5 rfl dX4_scanNumber_44 ?_
        refine z_callV_pI (As := [.int (rI M v0 9)]) (rest := [.int ((rI M v0 11) * (10 : Int32)), .ref (B + v0)]) C rfl (ctX4_byteAt (zG_of C) v0 (rI M v0 9) h0 M) cw_RX4_141 rfl (okM_X4_byteAt) rfl cl4 h0 (okR_of rfl) (Nat.le_of_ble_eq_true rfl) dX4_scanNumber_47 (fun qj3 _ => ?_)
        refine z_iadd C dX4_scanNumber_50 ?_
        refine z_bipush (v := 48) C dX4_scanNumber_51 rfl ?_
        refine z_isub C dX4_scanNumber_53 ?_
        refine z_goto C 61 dX4_scanNumber_54 rfl ?_
        exact z_jump (ls1 := [(0, .ref (B + v0)), (1, .int v1)]) (Nat.le_of_ble_eq_true rfl) [0, 1] rfl (z_fX4_scanNumber_b61 C ht hr N k7 v0 v1 ((((rI M v0 11) * (10 : Int32)) + qj3) - (48 : Int32)) v0 M h0 h0 hk7)
    · exact z_jump (ls1 := [(0, .ref (B + v0))]) (Nat.le_of_ble_eq_true rfl) [0] rfl (z_fX4_scanNumber_b80 C ht hr N v0 M h0)
theorem z_fX4_scanNumber_l7_i {p : Program} {l : Launch} {e : Env} {s : State} {m : MethodId} {args : Array Value} {below : List Frame} {meth : Method} {c : Code} {D : va_G} {cy : Nat → ClassId} {B : Nat} {kd : Nat → Nat} {n : Nat} {sa sv : Nat → Nat} (C : zC p l s m args meth c D cy B kd n sa sv RX4 cX4_scanNumber 2) (ht : ∀ x ∈ c.exceptionTable.toList, False) (hr : meth.sig.returnType = some (FieldType.int)) {b0 : Int32 × Mem} (N : Nat) (v0 : Nat) (h0 : kd v0 = 4)  (fu : Nat) : ∀ (v1 : Int32) (M : Mem), Z p l e (rmz 1 0) s m args below meth c (vx_MQ below (QcR D cy B kd n (cvI b0)) (XcR D cy B kd n (cvI b0)) args s 0 (6 * 0) (AA B kd n)) D cy B kd n 2 b0 0 7 [(0, .ref (B + v0)), (1, .int v1)] [] M (fX4_scanNumber_l7 N v0 fu v1 M) := by
  induction fu with
  | zero => intro v1 M; exact z_none
  | succ fu ih => intro v1 M; exact z_fX4_scanNumber_l7_s C ht hr N v0 (fX4_scanNumber_l7 N v0 fu) v1 M h0 (fun v1 M => ih v1 M)
theorem z_fX4_scanNumber_l7 {p : Program} {l : Launch} {e : Env} {s : State} {m : MethodId} {args : Array Value} {below : List Frame} {meth : Method} {c : Code} {D : va_G} {cy : Nat → ClassId} {B : Nat} {kd : Nat → Nat} {n : Nat} {sa sv : Nat → Nat} (C : zC p l s m args meth c D cy B kd n sa sv RX4 cX4_scanNumber 2) (ht : ∀ x ∈ c.exceptionTable.toList, False) (hr : meth.sig.returnType = some (FieldType.int)) {b0 : Int32 × Mem} (N : Nat) (v0 : Nat) (fu : Nat) (v1 : Int32) (M : Mem) (h0 : kd v0 = 4)  : Z p l e (rmz 1 0) s m args below meth c (vx_MQ below (QcR D cy B kd n (cvI b0)) (XcR D cy B kd n (cvI b0)) args s 0 (6 * 0) (AA B kd n)) D cy B kd n 2 b0 0 7 [(0, .ref (B + v0)), (1, .int v1)] [] M (fX4_scanNumber_l7 N v0 fu v1 M) := z_fX4_scanNumber_l7_i C ht hr N v0 h0 fu v1 M
set_option maxHeartbeats 4000000 in
set_option maxRecDepth 100000 in
theorem ctX4_scanNumber {l : Launch} {D : va_G} {cy : Nat → ClassId} {B : Nat} {kd : Nat → Nat} {n : Nat} {sa sv : Nat → Nat} (G : zG l kd n) (N : Nat) (v0 : Nat) (h0 : kd v0 = 4) (M : Mem) : CT l D cy B kd n sa sv 1 0 yX4_scanNumber cX4_scanNumber 2 (some (FieldType.int)) cvI [.ref (B + v0)] M (fX4_scanNumber N v0 M) := by
  refine ct_of (by decide) G.1 G.2 (Nat.le_of_ble_eq_true rfl) (ls := [(0, .ref (B + v0))]) rfl ?_
  intro p e s m args below meth c b0 C ht hr
  unfold fX4_scanNumber
  refine z_aload_n C 0 0 dX4_scanNumber_0 rfl rfl ?_
  refine z_iconst C dX4_scanNumber_1 rfl ?_
  refine z_putI (k := 11) C cl4 h0 rfl gw_2_7 rfl rfl rfl dX4_scanNumber_2 ?_
  refine z_iconst C dX4_scanNumber_5 rfl ?_
  refine z_istore_n C 1 (ls1 := [(1, .int (0 : Int32)), (0, .ref (B + v0))]) dX4_scanNumber_6 rfl (by decide) rfl ?_
  exact z_jump (ls1 := [(0, .ref (B + v0)), (1, .int (0 : Int32))]) (Nat.le_of_ble_eq_true rfl) [1, 0] rfl (z_fX4_scanNumber_l7 C ht hr N v0 N (0 : Int32) (wI M v0 11 (0 : Int32)) h0)
set_option maxHeartbeats 4000000 in
set_option maxRecDepth 100000 in
theorem z_fX4_advance_b140 {p : Program} {l : Launch} {e : Env} {s : State} {m : MethodId} {args : Array Value} {below : List Frame} {meth : Method} {c : Code} {D : va_G} {cy : Nat → ClassId} {B : Nat} {kd : Nat → Nat} {n : Nat} {sa sv : Nat → Nat} (C : zC p l s m args meth c D cy B kd n sa sv RX4 cX4_advance 2) (ht : ∀ x ∈ c.exceptionTable.toList, False) (hr : meth.sig.returnType = none) {b0 : Mem}  (N : Nat) (s0 : Int32) (s1 : Nat) (M : Mem) (hs1 : kd s1 = 4)  : Z p l e (rmz 6 0) s m args below meth c (vx_MQ below (QcR D cy B kd n (cvV b0)) (XcR D cy B kd n (cvV b0)) args s 0 (6 * 0) (AA B kd n)) D cy B kd n 2 b0 0 140 [] [.int s0, .ref (B + s1)] M (fX4_advance_b140 N s0 s1 M) := by
  unfold fX4_advance_b140
  refine z_putI (k := 10) C cl4 hs1 rfl gw_2_6 rfl rfl rfl dX4_advance_140 ?_
  exact z_vret C hr (Nat.le_of_ble_eq_true rfl) dX4_advance_143 rfl
set_option maxHeartbeats 4000000 in
set_option maxRecDepth 100000 in
theorem z_fX4_advance_b48 {p : Program} {l : Launch} {e : Env} {s : State} {m : MethodId} {args : Array Value} {below : List Frame} {meth : Method} {c : Code} {D : va_G} {cy : Nat → ClassId} {B : Nat} {kd : Nat → Nat} {n : Nat} {sa sv : Nat → Nat} (C : zC p l s m args meth c D cy B kd n sa sv RX4 cX4_advance 2) (ht : ∀ x ∈ c.exceptionTable.toList, False) (hr : meth.sig.returnType = none) {b0 : Mem}  (N : Nat) (v0 : Nat) (M : Mem) (h0 : kd v0 = 4)  : Z p l e (rmz 6 0) s m args below meth c (vx_MQ below (QcR D cy B kd n (cvV b0)) (XcR D cy B kd n (cvV b0)) args s 0 (6 * 0) (AA B kd n)) D cy B kd n 2 b0 0 48 [(0, .ref (B + v0))] [] M (fX4_advance_b48 N v0 M) := by
  unfold fX4_advance_b48
  refine z_aload_n C 0 0 dX4_advance_48 rfl rfl ?_
  refine z_aload_n C 0 0 dX4_advance_49 rfl rfl ?_
  refine z_getI (k := 8) C cl4 h0 rfl gw_2_4 rfl dX4_advance_50 ?_
  refine z_putI (k := 9) C cl4 h0 rfl gw_2_5 rfl rfl rfl dX4_advance_53 ?_
  refine z_aload_n C 0 0 dX4_advance_56 rfl rfl ?_
  refine z_aload_n C 0 0 dX4_advance_57 rfl rfl ?_
  refine z_getI (k := 8) C cl4 h0 rfl gw_2_4 rfl dX4_advance_58 ?_
  refine z_callV_pI (As := [.int (rI (wI M v0 9 (rI M v0 8)) v0 8)]) (rest := []) C rfl (ctX4_byteAt (zG_of C) v0 (rI (wI M v0 9 (rI M v0 8)) v0 8) h0 (wI M v0 9 (rI M v0 8))) cw_RX4_141 rfl (okM_X4_byteAt) rfl cl4 h0 (okR_of rfl) (Nat.le_of_ble_eq_true rfl) dX4_advance_61 (fun qj1 _ => ?_)
  refine z_istore_n C 1 (ls1 := [(1, .int qj1), (0, .ref (B + v0))]) dX4_advance_64 rfl (by decide) rfl ?_
  refine z_iload_n C 1 0 dX4_advance_65 rfl rfl ?_
  refine z_iconst C dX4_advance_66 rfl ?_
  refine z_icmp_ne C 78 dX4_advance_67 rfl (fun _ => ?_) (fun _ => ?_)
  · refine z_aload_n C 0 1 dX4_advance_70 rfl rfl ?_
    refine z_iconst C dX4_advance_71 rfl ?_
    refine z_putI (k := 10) C cl4 h0 rfl gw_2_6 rfl rfl rfl dX4_advance_72 ?_
    refine z_goto C 143 dX4_advance_75 rfl ?_
    exact z_vret C hr (Nat.le_of_ble_eq_true rfl) dX4_advance_143 rfl
  · refine z_iload_n C 1 0 dX4_advance_78 rfl rfl ?_
    refine z_callS_pB (As := [.int qj1]) (rest := []) C rfl (ctX4_isLetter (zG_of C) qj1 (wI M v0 9 (rI M v0 8))) cw_RX4_148 (okM_X4_isLetter) rfl (okR_of rfl) (Nat.le_of_ble_eq_true rfl) dX4_advance_79 (fun qj2 _ => ?_)
    refine z_if_eqB C 96 dX4_advance_82 rfl (fun _ => ?_) (fun _ => ?_)
    · refine z_aload_n C 0 1 dX4_advance_85 rfl rfl ?_
      refine z_aload_n C 0 1 dX4_advance_86 rfl rfl ?_
      refine z_callV_I (As := []) (rest := [.ref (B + v0)]) C rfl (ctX4_scanWord (zG_of C) N v0 h0 (wI M v0 9 (rI M v0 8))) cw_RX4_151 rfl (okM_X4_scanWord) rfl cl4 h0 (okR_of rfl) (Nat.le_of_ble_eq_true rfl) dX4_advance_87 (fun qj3 _ => ?_)
      refine z_putI (k := 10) C cl4 h0 rfl gw_2_6 rfl rfl rfl dX4_advance_90 ?_
      refine z_goto C 143 dX4_advance_93 rfl ?_
      exact z_vret C hr (Nat.le_of_ble_eq_true rfl) dX4_advance_143 rfl
    · refine z_iload_n C 1 0 dX4_advance_96 rfl rfl ?_
      refine z_callS_pB (As := [.int qj1]) (rest := []) C rfl (ctX4_isDigit (zG_of C) qj1 (wI M v0 9 (rI M v0 8))) cw_RX4_154 (okM_X4_isDigit) rfl (okR_of rfl) (Nat.le_of_ble_eq_true rfl) dX4_advance_97 (fun qj4 _ => ?_)
      refine z_if_eqB C 114 dX4_advance_100 rfl (fun _ => ?_) (fun _ => ?_)
      · refine z_aload_n C 0 1 dX4_advance_103 rfl rfl ?_
        refine z_aload_n C 0 1 dX4_advance_104 rfl rfl ?_
        refine z_callV_I (As := []) (rest := [.ref (B + v0)]) C rfl (ctX4_scanNumber (zG_of C) N v0 h0 (wI M v0 9 (rI M v0 8))) cw_RX4_157 rfl (okM_X4_scanNumber) rfl cl4 h0 (okR_of rfl) (Nat.le_of_ble_eq_true rfl) dX4_advance_105 (fun qj5 _ => ?_)
        refine z_putI (k := 10) C cl4 h0 rfl gw_2_6 rfl rfl rfl dX4_advance_108 ?_
        refine z_goto C 143 dX4_advance_111 rfl ?_
        exact z_vret C hr (Nat.le_of_ble_eq_true rfl) dX4_advance_143 rfl
      · refine z_aload_n C 0 1 dX4_advance_114 rfl rfl ?_
        refine z_dup C dX4_advance_115 rfl ?_
        refine z_getI (k := 9) C cl4 h0 rfl gw_2_5 rfl dX4_advance_116 ?_
        refine z_iconst C dX4_advance_119 rfl ?_
        refine z_iadd C dX4_advance_120 ?_
        refine z_putI (k := 9) C cl4 h0 rfl gw_2_5 rfl rfl rfl dX4_advance_121 ?_
        refine z_aload_n C 0 1 dX4_advance_124 rfl rfl ?_
        refine z_ldcS (i := 7) C dX4_advance_125 rfl ?_
        refine z_iload_n C 1 0 dX4_advance_127 rfl rfl ?_
        refine z_i2c C dX4_advance_128 ?_
        refine z_callVT_pI (As := [.int (i2c qj1)]) (rest := [.ref (B + v0)]) C rfl (ctJ0_indexOf_0f7a4 (zG_of C) N 7 (i2c qj1) (by decide) (wI (wI M v0 9 (rI M v0 8)) v0 9 ((rI (wI M v0 9 (rI M v0 8)) v0 9) + (1 : Int32)))) cw_RX4_162 rfl (okM_J0_indexOf_0f7a4) rfl (by decide) (okR_of rfl) (Nat.le_of_ble_eq_true rfl) dX4_advance_129 (fun qj6 _ => ?_)
        refine z_if_lt C 139 dX4_advance_132 rfl (fun _ => ?_) (fun _ => ?_)
        · refine z_iconst C dX4_advance_139 rfl ?_
          exact z_jump (ls1 := []) (Nat.le_of_ble_eq_true rfl) [] rfl (z_fX4_advance_b140 C ht hr N (1 : Int32) v0 (wI (wI M v0 9 (rI M v0 8)) v0 9 ((rI (wI M v0 9 (rI M v0 8)) v0 9) + (1 : Int32))) h0)
        · refine z_iload_n C 1 0 dX4_advance_135 rfl rfl ?_
          refine z_goto C 140 dX4_advance_136 rfl ?_
          exact z_jump (ls1 := []) (Nat.le_of_ble_eq_true rfl) [] rfl (z_fX4_advance_b140 C ht hr N qj1 v0 (wI (wI M v0 9 (rI M v0 8)) v0 9 ((rI (wI M v0 9 (rI M v0 8)) v0 9) + (1 : Int32))) h0)
set_option maxHeartbeats 4000000 in
set_option maxRecDepth 100000 in
theorem z_fX4_advance_l10_s {p : Program} {l : Launch} {e : Env} {s : State} {m : MethodId} {args : Array Value} {below : List Frame} {meth : Method} {c : Code} {D : va_G} {cy : Nat → ClassId} {B : Nat} {kd : Nat → Nat} {n : Nat} {sa sv : Nat → Nat} (C : zC p l s m args meth c D cy B kd n sa sv RX4 cX4_advance 2) (ht : ∀ x ∈ c.exceptionTable.toList, False) (hr : meth.sig.returnType = none) {b0 : Mem} (N : Nat) (v0 : Nat) (k10 : Int32 → Mem → Option Mem) (v1 : Int32) (M : Mem) (h0 : kd v0 = 4)  (hk10 : ∀ (v1 : Int32) (M : Mem), Z p l e (rmz 6 0) s m args below meth c (vx_MQ below (QcR D cy B kd n (cvV b0)) (XcR D cy B kd n (cvV b0)) args s 0 (6 * 0) (AA B kd n)) D cy B kd n 2 b0 0 10 [(0, .ref (B + v0)), (1, .int v1)] [] M (k10 v1 M)) : Z p l e (rmz 6 0) s m args below meth c (vx_MQ below (QcR D cy B kd n (cvV b0)) (XcR D cy B kd n (cvV b0)) args s 0 (6 * 0) (AA B kd n)) D cy B kd n 2 b0 0 10 [(0, .ref (B + v0)), (1, .int v1)] [] M (fX4_advance_l10_s N v0 k10 v1 M) := by
  unfold fX4_advance_l10_s
  refine z_iload_n C 1 1 dX4_advance_10 rfl rfl ?_
  refine z_aload_n C 0 0 dX4_advance_11 rfl rfl ?_
  refine z_getI (k := 7) C cl4 h0 rfl gw_2_3 rfl dX4_advance_12 ?_
  refine z_icmp_gt C 48 dX4_advance_15 rfl (fun _ => ?_) (fun _ => ?_)
  · exact z_jump (ls1 := [(0, .ref (B + v0))]) (Nat.le_of_ble_eq_true rfl) [0] rfl (z_fX4_advance_b48 C ht hr N v0 M h0)
  · refine z_aload_n C 0 0 dX4_advance_18 rfl rfl ?_
    refine z_aload_n C 0 0 dX4_advance_19 rfl rfl ?_
    refine z_getI (k := 8) C cl4 h0 rfl gw_2_4 rfl dX4_advance_20 ?_
    refine z_callV_pI (As := [.int (rI M v0 8)]) (rest := []) C rfl (ctX4_byteAt (zG_of C) v0 (rI M v0 8) h0 M) cw_RX4_141 rfl (okM_X4_byteAt) rfl cl4 h0 (okR_of rfl) (Nat.le_of_ble_eq_true rfl) dX4_advance_23 (fun qj1 _ => ?_)
    refine z_callS_pB (As := [.int qj1]) (rest := []) C rfl (ctX4_isBlank (zG_of C) qj1 M) cw_RX4_144 (okM_X4_isBlank) rfl (okR_of rfl) (Nat.le_of_ble_eq_true rfl) dX4_advance_26 (fun qj2 _ => ?_)
    refine z_if_eqB C 48 dX4_advance_29 rfl (fun _ => ?_) (fun _ => ?_)
    · refine z_aload_n C 0 0 dX4_advance_32 rfl rfl ?_
      refine z_dup C dX4_advance_33 rfl ?_
      refine z_getI (k := 8) C cl4 h0 rfl gw_2_4 rfl dX4_advance_34 ?_
      refine z_iconst C dX4_advance_37 rfl ?_
      refine z_iadd C dX4_advance_38 ?_
      refine z_putI (k := 8) C cl4 h0 rfl gw_2_4 rfl rfl rfl dX4_advance_39 ?_
      refine z_iinc C 1 1 (v := v1) (v1 := (v1 + (1 : Int32))) (ls1 := [(1, .int (v1 + (1 : Int32))), (0, .ref (B + v0))]) dX4_advance_42 rfl rfl (by decide) rfl ?_
      refine z_goto C 10 dX4_advance_45 rfl ?_
      exact z_jump (ls1 := [(0, .ref (B + v0)), (1, .int (v1 + (1 : Int32)))]) (Nat.le_of_ble_eq_true rfl) [1, 0] rfl (hk10 (v1 + (1 : Int32)) (wI M v0 8 ((rI M v0 8) + (1 : Int32))))
    · exact z_jump (ls1 := [(0, .ref (B + v0))]) (Nat.le_of_ble_eq_true rfl) [0] rfl (z_fX4_advance_b48 C ht hr N v0 M h0)
theorem z_fX4_advance_l10_i {p : Program} {l : Launch} {e : Env} {s : State} {m : MethodId} {args : Array Value} {below : List Frame} {meth : Method} {c : Code} {D : va_G} {cy : Nat → ClassId} {B : Nat} {kd : Nat → Nat} {n : Nat} {sa sv : Nat → Nat} (C : zC p l s m args meth c D cy B kd n sa sv RX4 cX4_advance 2) (ht : ∀ x ∈ c.exceptionTable.toList, False) (hr : meth.sig.returnType = none) {b0 : Mem} (N : Nat) (v0 : Nat) (h0 : kd v0 = 4)  (fu : Nat) : ∀ (v1 : Int32) (M : Mem), Z p l e (rmz 6 0) s m args below meth c (vx_MQ below (QcR D cy B kd n (cvV b0)) (XcR D cy B kd n (cvV b0)) args s 0 (6 * 0) (AA B kd n)) D cy B kd n 2 b0 0 10 [(0, .ref (B + v0)), (1, .int v1)] [] M (fX4_advance_l10 N v0 fu v1 M) := by
  induction fu with
  | zero => intro v1 M; exact z_none
  | succ fu ih => intro v1 M; exact z_fX4_advance_l10_s C ht hr N v0 (fX4_advance_l10 N v0 fu) v1 M h0 (fun v1 M => ih v1 M)
theorem z_fX4_advance_l10 {p : Program} {l : Launch} {e : Env} {s : State} {m : MethodId} {args : Array Value} {below : List Frame} {meth : Method} {c : Code} {D : va_G} {cy : Nat → ClassId} {B : Nat} {kd : Nat → Nat} {n : Nat} {sa sv : Nat → Nat} (C : zC p l s m args meth c D cy B kd n sa sv RX4 cX4_advance 2) (ht : ∀ x ∈ c.exceptionTable.toList, False) (hr : meth.sig.returnType = none) {b0 : Mem} (N : Nat) (v0 : Nat) (fu : Nat) (v1 : Int32) (M : Mem) (h0 : kd v0 = 4)  : Z p l e (rmz 6 0) s m args below meth c (vx_MQ below (QcR D cy B kd n (cvV b0)) (XcR D cy B kd n (cvV b0)) args s 0 (6 * 0) (AA B kd n)) D cy B kd n 2 b0 0 10 [(0, .ref (B + v0)), (1, .int v1)] [] M (fX4_advance_l10 N v0 fu v1 M) := z_fX4_advance_l10_i C ht hr N v0 h0 fu v1 M
set_option maxHeartbeats 4000000 in
set_option maxRecDepth 100000 in
theorem ctX4_advance {l : Launch} {D : va_G} {cy : Nat → ClassId} {B : Nat} {kd : Nat → Nat} {n : Nat} {sa sv : Nat → Nat} (G : zG l kd n) (N : Nat) (v0 : Nat) (h0 : kd v0 = 4) (M : Mem) : CT l D cy B kd n sa sv 6 0 yX4_advance cX4_advance 2 (none) cvV [.ref (B + v0)] M (fX4_advance N v0 M) := by
  refine ct_of (by decide) G.1 G.2 (Nat.le_of_ble_eq_true rfl) (ls := [(0, .ref (B + v0))]) rfl ?_
  intro p e s m args below meth c b0 C ht hr
  unfold fX4_advance
  refine z_aload_n C 0 0 dX4_advance_0 rfl rfl ?_
  refine z_aload_n C 0 0 dX4_advance_1 rfl rfl ?_
  refine z_getI (k := 9) C cl4 h0 rfl gw_2_5 rfl dX4_advance_2 ?_
  refine z_putI (k := 8) C cl4 h0 rfl gw_2_4 rfl rfl rfl dX4_advance_5 ?_
  refine z_iconst C dX4_advance_8 rfl ?_
  refine z_istore_n C 1 (ls1 := [(1, .int (0 : Int32)), (0, .ref (B + v0))]) dX4_advance_9 rfl (by decide) rfl ?_
  exact z_jump (ls1 := [(0, .ref (B + v0)), (1, .int (0 : Int32))]) (Nat.le_of_ble_eq_true rfl) [1, 0] rfl (z_fX4_advance_l10 C ht hr N v0 N (0 : Int32) (wI M v0 8 (rI M v0 9)) h0)
set_option maxHeartbeats 4000000 in
set_option maxRecDepth 100000 in
theorem z_fX4_acceptHead_b24 {p : Program} {l : Launch} {e : Env} {s : State} {m : MethodId} {args : Array Value} {below : List Frame} {meth : Method} {c : Code} {D : va_G} {cy : Nat → ClassId} {B : Nat} {kd : Nat → Nat} {n : Nat} {sa sv : Nat → Nat} (C : zC p l s m args meth c D cy B kd n sa sv RX4 cX4_acceptHead 1) (ht : ∀ x ∈ c.exceptionTable.toList, False) (hr : meth.sig.returnType = some (FieldType.int)) {b0 : Int32 × Mem}   (v0 : Nat) (M : Mem) (h0 : kd v0 = 4)  : Z p l e (rmz 1 0) s m args below meth c (vx_MQ below (QcR D cy B kd n (cvI b0)) (XcR D cy B kd n (cvI b0)) args s 0 (6 * 0) (AA B kd n)) D cy B kd n 1 b0 0 24 [(0, .ref (B + v0))] [] M (fX4_acceptHead_b24 v0 M) := by
  unfold fX4_acceptHead_b24
  refine z_aload_n C 0 0 dX4_acceptHead_24 rfl rfl ?_
  refine z_iconst C dX4_acceptHead_25 rfl ?_
  refine z_putI (k := 12) C cl4 h0 rfl gw_2_8 rfl rfl rfl dX4_acceptHead_26 ?_
  refine z_iconst C dX4_acceptHead_29 rfl ?_
  exact z_iret C hr (Nat.le_of_ble_eq_true rfl) dX4_acceptHead_30 rfl
set_option maxHeartbeats 4000000 in
set_option maxRecDepth 100000 in
theorem z_fX4_acceptHead_b72 {p : Program} {l : Launch} {e : Env} {s : State} {m : MethodId} {args : Array Value} {below : List Frame} {meth : Method} {c : Code} {D : va_G} {cy : Nat → ClassId} {B : Nat} {kd : Nat → Nat} {n : Nat} {sa sv : Nat → Nat} (C : zC p l s m args meth c D cy B kd n sa sv RX4 cX4_acceptHead 1) (ht : ∀ x ∈ c.exceptionTable.toList, False) (hr : meth.sig.returnType = some (FieldType.int)) {b0 : Int32 × Mem}   (v0 : Nat) (M : Mem) (h0 : kd v0 = 4)  : Z p l e (rmz 1 0) s m args below meth c (vx_MQ below (QcR D cy B kd n (cvI b0)) (XcR D cy B kd n (cvI b0)) args s 0 (6 * 0) (AA B kd n)) D cy B kd n 1 b0 0 72 [(0, .ref (B + v0))] [] M (fX4_acceptHead_b72 v0 M) := by
  unfold fX4_acceptHead_b72
  refine z_aload_n C 0 0 dX4_acceptHead_72 rfl rfl ?_
  refine z_aload_n C 0 0 dX4_acceptHead_73 rfl rfl ?_
  refine z_getR (k := 0) C cl4 h0 rfl gw_1_232 rfl dX4_acceptHead_74 ?_
  have j1 : kd (v0 + 1) = 6 := zkd C h0 (k := 0) rfl
  refine z_callV_pI (As := []) (rest := [.ref (B + v0)]) C rfl (ctX6_emitted (zG_of C) (v0 + 1) j1 M) cw_RX4_85 rfl (okM_X6_emitted) rfl cl6 j1 (okR_of rfl) (Nat.le_of_ble_eq_true rfl) dX4_acceptHead_77 (fun qj2 _ => ?_)
  refine z_putI (k := 14) C cl4 h0 rfl gw_2_10 rfl rfl rfl dX4_acceptHead_80 ?_
  refine z_aload_n C 0 0 dX4_acceptHead_83 rfl rfl ?_
  refine z_iconst C dX4_acceptHead_84 rfl ?_
  refine z_putI (k := 15) C cl4 h0 rfl gw_2_11 rfl rfl rfl dX4_acceptHead_85 ?_
  refine z_aload_n C 0 0 dX4_acceptHead_88 rfl rfl ?_
  refine z_iconst C dX4_acceptHead_89 rfl ?_
  refine z_putI (k := 6) C cl4 h0 rfl gw_2_2 rfl rfl rfl dX4_acceptHead_90 ?_
  refine z_aload_n C 0 0 dX4_acceptHead_93 rfl rfl ?_
  refine z_iconst C dX4_acceptHead_94 rfl ?_
  refine z_putI (k := 12) C cl4 h0 rfl gw_2_8 rfl rfl rfl dX4_acceptHead_95 ?_
  refine z_iconst C dX4_acceptHead_98 rfl ?_
  exact z_iret C hr (Nat.le_of_ble_eq_true rfl) dX4_acceptHead_99 rfl
set_option maxHeartbeats 4000000 in
set_option maxRecDepth 100000 in
theorem z_fX4_acceptHead_b50 {p : Program} {l : Launch} {e : Env} {s : State} {m : MethodId} {args : Array Value} {below : List Frame} {meth : Method} {c : Code} {D : va_G} {cy : Nat → ClassId} {B : Nat} {kd : Nat → Nat} {n : Nat} {sa sv : Nat → Nat} (C : zC p l s m args meth c D cy B kd n sa sv RX4 cX4_acceptHead 1) (ht : ∀ x ∈ c.exceptionTable.toList, False) (hr : meth.sig.returnType = some (FieldType.int)) {b0 : Int32 × Mem}   (v0 : Nat) (M : Mem) (h0 : kd v0 = 4)  : Z p l e (rmz 1 0) s m args below meth c (vx_MQ below (QcR D cy B kd n (cvI b0)) (XcR D cy B kd n (cvI b0)) args s 0 (6 * 0) (AA B kd n)) D cy B kd n 1 b0 0 50 [(0, .ref (B + v0))] [] M (fX4_acceptHead_b50 v0 M) := by
  unfold fX4_acceptHead_b50
  refine z_aload_n C 0 0 dX4_acceptHead_50 rfl rfl ?_
  refine z_getI (k := 10) C cl4 h0 rfl gw_2_6 rfl dX4_acceptHead_51 ?_
  refine z_iconst C dX4_acceptHead_54 rfl ?_
  refine z_icmp_ne C 72 dX4_acceptHead_55 rfl (fun _ => ?_) (fun _ => ?_)
  · refine z_aload_n C 0 0 dX4_acceptHead_58 rfl rfl ?_
    refine z_getR (k := 0) C cl4 h0 rfl gw_1_232 rfl dX4_acceptHead_59 ?_
    have j1 : kd (v0 + 1) = 6 := zkd C h0 (k := 0) rfl
    refine z_getI (k := 3) C cl6 j1 rfl gw_1_61 rfl dX4_acceptHead_62 ?_
    refine z_bipush (v := 6) C dX4_acceptHead_65 rfl ?_
    refine z_icmp_lt C 72 dX4_acceptHead_67 rfl (fun _ => ?_) (fun _ => ?_)
    · exact z_jump (ls1 := [(0, .ref (B + v0))]) (Nat.le_of_ble_eq_true rfl) [0] rfl (z_fX4_acceptHead_b72 C ht hr v0 M h0)
    · refine z_iconst C dX4_acceptHead_70 rfl ?_
      exact z_iret C hr (Nat.le_of_ble_eq_true rfl) dX4_acceptHead_71 rfl
  · exact z_jump (ls1 := [(0, .ref (B + v0))]) (Nat.le_of_ble_eq_true rfl) [0] rfl (z_fX4_acceptHead_b72 C ht hr v0 M h0)
set_option maxHeartbeats 4000000 in
set_option maxRecDepth 100000 in
theorem ctX4_acceptHead {l : Launch} {D : va_G} {cy : Nat → ClassId} {B : Nat} {kd : Nat → Nat} {n : Nat} {sa sv : Nat → Nat} (G : zG l kd n) (v0 : Nat) (h0 : kd v0 = 4) (M : Mem) : CT l D cy B kd n sa sv 1 0 yX4_acceptHead cX4_acceptHead 1 (some (FieldType.int)) cvI [.ref (B + v0)] M (fX4_acceptHead v0 M) := by
  refine ct_of (by decide) G.1 G.2 (Nat.le_of_ble_eq_true rfl) (ls := [(0, .ref (B + v0))]) rfl ?_
  intro p e s m args below meth c b0 C ht hr
  unfold fX4_acceptHead
  refine z_aload_n C 0 0 dX4_acceptHead_0 rfl rfl ?_
  refine z_aload_n C 0 0 dX4_acceptHead_1 rfl rfl ?_
  refine z_getI (k := 10) C cl4 h0 rfl gw_2_6 rfl dX4_acceptHead_2 ?_
  refine z_putI (k := 13) C cl4 h0 rfl gw_2_9 rfl rfl rfl dX4_acceptHead_5 ?_
  refine z_aload_n C 0 0 dX4_acceptHead_8 rfl rfl ?_
  refine z_getI (k := 10) C cl4 h0 rfl gw_2_6 rfl dX4_acceptHead_9 ?_
  refine z_iconst C dX4_acceptHead_12 rfl ?_
  refine z_icmp_eq C 24 dX4_acceptHead_13 rfl (fun _ => ?_) (fun _ => ?_)
  · exact z_jump (ls1 := [(0, .ref (B + v0))]) (Nat.le_of_ble_eq_true rfl) [0] rfl (z_fX4_acceptHead_b24 C ht hr v0 (wI M v0 13 (rI M v0 10)) h0)
  · refine z_aload_n C 0 0 dX4_acceptHead_16 rfl rfl ?_
    refine z_getI (k := 10) C cl4 h0 rfl gw_2_6 rfl dX4_acceptHead_17 ?_
    refine z_iconst C dX4_acceptHead_20 rfl ?_
    refine z_icmp_ne C 31 dX4_acceptHead_21 rfl (fun _ => ?_) (fun _ => ?_)
    · exact z_jump (ls1 := [(0, .ref (B + v0))]) (Nat.le_of_ble_eq_true rfl) [0] rfl (z_fX4_acceptHead_b24 C ht hr v0 (wI M v0 13 (rI M v0 10)) h0)
    · refine z_aload_n C 0 0 dX4_acceptHead_31 rfl rfl ?_
      refine z_getI (k := 10) C cl4 h0 rfl gw_2_6 rfl dX4_acceptHead_32 ?_
      refine z_iconst C dX4_acceptHead_35 rfl ?_
      refine z_icmp_eq C 50 dX4_acceptHead_36 rfl (fun _ => ?_) (fun _ => ?_)
      · exact z_jump (ls1 := [(0, .ref (B + v0))]) (Nat.le_of_ble_eq_true rfl) [0] rfl (z_fX4_acceptHead_b50 C ht hr v0 (wI M v0 13 (rI M v0 10)) h0)
      · refine z_aload_n C 0 0 dX4_acceptHead_39 rfl rfl ?_
        refine z_getI (k := 10) C cl4 h0 rfl gw_2_6 rfl dX4_acceptHead_40 ?_
        refine z_bipush (v := 6) C dX4_acceptHead_43 rfl ?_
        refine z_icmp_eq C 50 dX4_acceptHead_45 rfl (fun _ => ?_) (fun _ => ?_)
        · exact z_jump (ls1 := [(0, .ref (B + v0))]) (Nat.le_of_ble_eq_true rfl) [0] rfl (z_fX4_acceptHead_b50 C ht hr v0 (wI M v0 13 (rI M v0 10)) h0)
        · refine z_iconst C dX4_acceptHead_48 rfl ?_
          exact z_iret C hr (Nat.le_of_ble_eq_true rfl) dX4_acceptHead_49 rfl
set_option maxHeartbeats 4000000 in
set_option maxRecDepth 100000 in
theorem z_fX4_acceptBound_b41 {p : Program} {l : Launch} {e : Env} {s : State} {m : MethodId} {args : Array Value} {below : List Frame} {meth : Method} {c : Code} {D : va_G} {cy : Nat → ClassId} {B : Nat} {kd : Nat → Nat} {n : Nat} {sa sv : Nat → Nat} (C : zC p l s m args meth c D cy B kd n sa sv RX4 cX4_acceptBound 1) (ht : ∀ x ∈ c.exceptionTable.toList, False) (hr : meth.sig.returnType = some (FieldType.int)) {b0 : Int32 × Mem}   (M : Mem)  : Z p l e (rmz 0 0) s m args below meth c (vx_MQ below (QcR D cy B kd n (cvI b0)) (XcR D cy B kd n (cvI b0)) args s 0 (6 * 0) (AA B kd n)) D cy B kd n 1 b0 0 41 [] [] M (fX4_acceptBound_b41 M) := by
  unfold fX4_acceptBound_b41
  refine z_iconst C dX4_acceptBound_41 rfl ?_
  exact z_iret C hr (Nat.le_of_ble_eq_true rfl) dX4_acceptBound_42 rfl
set_option maxHeartbeats 4000000 in
set_option maxRecDepth 100000 in
theorem z_fX4_acceptBound_b76 {p : Program} {l : Launch} {e : Env} {s : State} {m : MethodId} {args : Array Value} {below : List Frame} {meth : Method} {c : Code} {D : va_G} {cy : Nat → ClassId} {B : Nat} {kd : Nat → Nat} {n : Nat} {sa sv : Nat → Nat} (C : zC p l s m args meth c D cy B kd n sa sv RX4 cX4_acceptBound 1) (ht : ∀ x ∈ c.exceptionTable.toList, False) (hr : meth.sig.returnType = some (FieldType.int)) {b0 : Int32 × Mem}   (v0 : Nat) (M : Mem) (h0 : kd v0 = 4)  : Z p l e (rmz 0 0) s m args below meth c (vx_MQ below (QcR D cy B kd n (cvI b0)) (XcR D cy B kd n (cvI b0)) args s 0 (6 * 0) (AA B kd n)) D cy B kd n 1 b0 0 76 [(0, .ref (B + v0))] [] M (fX4_acceptBound_b76 v0 M) := by
  unfold fX4_acceptBound_b76
  refine z_aload_n C 0 0 dX4_acceptBound_76 rfl rfl ?_
  refine z_iconst C dX4_acceptBound_77 rfl ?_
  refine z_putI (k := 12) C cl4 h0 rfl gw_2_8 rfl rfl rfl dX4_acceptBound_78 ?_
  refine z_iconst C dX4_acceptBound_81 rfl ?_
  exact z_iret C hr (Nat.le_of_ble_eq_true rfl) dX4_acceptBound_82 rfl
set_option maxHeartbeats 4000000 in
set_option maxRecDepth 100000 in
theorem z_fX4_acceptBound_b38 {p : Program} {l : Launch} {e : Env} {s : State} {m : MethodId} {args : Array Value} {below : List Frame} {meth : Method} {c : Code} {D : va_G} {cy : Nat → ClassId} {B : Nat} {kd : Nat → Nat} {n : Nat} {sa sv : Nat → Nat} (C : zC p l s m args meth c D cy B kd n sa sv RX4 cX4_acceptBound 1) (ht : ∀ x ∈ c.exceptionTable.toList, False) (hr : meth.sig.returnType = some (FieldType.int)) {b0 : Int32 × Mem}   (v0 : Nat) (s0 : Int32) (s1 : Int32) (M : Mem) (h0 : kd v0 = 4)  : Z p l e (rmz 0 0) s m args below meth c (vx_MQ below (QcR D cy B kd n (cvI b0)) (XcR D cy B kd n (cvI b0)) args s 0 (6 * 0) (AA B kd n)) D cy B kd n 1 b0 0 38 [(0, .ref (B + v0))] [.int s0, .int s1] M (fX4_acceptBound_b38 v0 s0 s1 M) := by
  unfold fX4_acceptBound_b38
  refine z_icmp_le C 43 dX4_acceptBound_38 rfl (fun _ => ?_) (fun _ => ?_)
  · refine z_aload_n C 0 0 dX4_acceptBound_43 rfl rfl ?_
    refine z_getI (k := 13) C cl4 h0 rfl gw_2_9 rfl dX4_acceptBound_44 ?_
    refine z_iconst C dX4_acceptBound_47 rfl ?_
    refine z_icmp_ne C 65 dX4_acceptBound_48 rfl (fun _ => ?_) (fun _ => ?_)
    · refine z_aload_n C 0 0 dX4_acceptBound_51 rfl rfl ?_
      refine z_getR (k := 0) C cl4 h0 rfl gw_1_232 rfl dX4_acceptBound_52 ?_
      have j1 : kd (v0 + 1) = 6 := zkd C h0 (k := 0) rfl
      refine z_aload_n C 0 0 dX4_acceptBound_55 rfl rfl ?_
      refine z_getI (k := 11) C cl4 h0 rfl gw_2_7 rfl dX4_acceptBound_56 ?_
      refine z_putI (k := 1) C cl6 j1 rfl gw_1_55 rfl rfl rfl dX4_acceptBound_59 ?_
      refine z_goto C 76 dX4_acceptBound_62 rfl ?_
      exact z_jump (ls1 := [(0, .ref (B + v0))]) (Nat.le_of_ble_eq_true rfl) [0] rfl (z_fX4_acceptBound_b76 C ht hr v0 (wI M (v0 + 1) 1 (rI M v0 11)) h0)
    · refine z_aload_n C 0 0 dX4_acceptBound_65 rfl rfl ?_
      refine z_getR (k := 0) C cl4 h0 rfl gw_1_232 rfl dX4_acceptBound_66 ?_
      have j2 : kd (v0 + 1) = 6 := zkd C h0 (k := 0) rfl
      refine z_aload_n C 0 0 dX4_acceptBound_69 rfl rfl ?_
      refine z_getI (k := 11) C cl4 h0 rfl gw_2_7 rfl dX4_acceptBound_70 ?_
      refine z_putI (k := 2) C cl6 j2 rfl gw_1_58 rfl rfl rfl dX4_acceptBound_73 ?_
      exact z_jump (ls1 := [(0, .ref (B + v0))]) (Nat.le_of_ble_eq_true rfl) [0] rfl (z_fX4_acceptBound_b76 C ht hr v0 (wI M (v0 + 1) 2 (rI M v0 11)) h0)
  · exact z_jump (ls1 := []) (Nat.le_of_ble_eq_true rfl) [] rfl (z_fX4_acceptBound_b41 C ht hr M)
set_option maxHeartbeats 4000000 in
set_option maxRecDepth 100000 in
theorem ctX4_acceptBound {l : Launch} {D : va_G} {cy : Nat → ClassId} {B : Nat} {kd : Nat → Nat} {n : Nat} {sa sv : Nat → Nat} (G : zG l kd n) (v0 : Nat) (h0 : kd v0 = 4) (M : Mem) : CT l D cy B kd n sa sv 0 0 yX4_acceptBound cX4_acceptBound 1 (some (FieldType.int)) cvI [.ref (B + v0)] M (fX4_acceptBound v0 M) := by
  refine ct_of (by decide) G.1 G.2 (Nat.le_of_ble_eq_true rfl) (ls := [(0, .ref (B + v0))]) rfl ?_
  intro p e s m args below meth c b0 C ht hr
  unfold fX4_acceptBound
  refine z_aload_n C 0 0 dX4_acceptBound_0 rfl rfl ?_
  refine z_getI (k := 10) C cl4 h0 rfl gw_2_6 rfl dX4_acceptBound_1 ?_
  refine z_iconst C dX4_acceptBound_4 rfl ?_
  refine z_icmp_eq C 10 dX4_acceptBound_5 rfl (fun _ => ?_) (fun _ => ?_)
  · refine z_aload_n C 0 0 dX4_acceptBound_10 rfl rfl ?_
    refine z_getI (k := 11) C cl4 h0 rfl gw_2_7 rfl dX4_acceptBound_11 ?_
    refine z_iconst C dX4_acceptBound_14 rfl ?_
    refine z_icmp_lt C 41 dX4_acceptBound_15 rfl (fun _ => ?_) (fun _ => ?_)
    · exact z_jump (ls1 := []) (Nat.le_of_ble_eq_true rfl) [] rfl (z_fX4_acceptBound_b41 C ht hr M)
    · refine z_aload_n C 0 0 dX4_acceptBound_18 rfl rfl ?_
      refine z_getI (k := 11) C cl4 h0 rfl gw_2_7 rfl dX4_acceptBound_19 ?_
      refine z_aload_n C 0 0 dX4_acceptBound_22 rfl rfl ?_
      refine z_getI (k := 13) C cl4 h0 rfl gw_2_9 rfl dX4_acceptBound_23 ?_
      refine z_iconst C dX4_acceptBound_26 rfl ?_
      refine z_icmp_ne C 36 dX4_acceptBound_27 rfl (fun _ => ?_) (fun _ => ?_)
      · refine z_sipush (v := 256) C dX4_acceptBound_30 rfl ?_
        refine z_goto C 38 dX4_acceptBound_33 rfl ?_
        exact z_jump (ls1 := [(0, .ref (B + v0))]) (Nat.le_of_ble_eq_true rfl) [0] rfl (z_fX4_acceptBound_b38 C ht hr v0 (256 : Int32) (rI M v0 11) M h0)
      · refine z_bipush (v := 64) C dX4_acceptBound_36 rfl ?_
        exact z_jump (ls1 := [(0, .ref (B + v0))]) (Nat.le_of_ble_eq_true rfl) [0] rfl (z_fX4_acceptBound_b38 C ht hr v0 (64 : Int32) (rI M v0 11) M h0)
  · refine z_iconst C dX4_acceptBound_8 rfl ?_
    exact z_iret C hr (Nat.le_of_ble_eq_true rfl) dX4_acceptBound_9 rfl
set_option maxHeartbeats 4000000 in
set_option maxRecDepth 100000 in
theorem ctX4_holdBack {l : Launch} {D : va_G} {cy : Nat → ClassId} {B : Nat} {kd : Nat → Nat} {n : Nat} {sa sv : Nat → Nat} (G : zG l kd n) (v0 : Nat) (v1 : Int32) (h0 : kd v0 = 4) (M : Mem) : CT l D cy B kd n sa sv 0 0 yX4_holdBack cX4_holdBack 2 (none) cvV [.ref (B + v0), .int v1] M (fX4_holdBack v0 v1 M) := by
  refine ct_of (by decide) G.1 G.2 (Nat.le_of_ble_eq_true rfl) (ls := [(0, .ref (B + v0)), (1, .int v1)]) rfl ?_
  intro p e s m args below meth c b0 C ht hr
  unfold fX4_holdBack
  refine z_aload_n C 0 0 dX4_holdBack_0 rfl rfl ?_
  refine z_getI (k := 6) C cl4 h0 rfl gw_2_2 rfl dX4_holdBack_1 ?_
  refine z_bipush (v := 20) C dX4_holdBack_4 rfl ?_
  refine z_icmp_ge C 29 dX4_holdBack_6 rfl (fun _ => ?_) (fun _ => ?_)
  · exact z_vret C hr (Nat.le_of_ble_eq_true rfl) dX4_holdBack_29 rfl
  · refine z_aload_n C 0 0 dX4_holdBack_9 rfl rfl ?_
    refine z_getR (k := 5) C cl4 h0 rfl gw_2_1 rfl dX4_holdBack_10 ?_
    have j1 : kd (v0 + 9) = 32 := zkd C h0 (k := 5) rfl
    refine z_aload_n C 0 0 dX4_holdBack_13 rfl rfl ?_
    refine z_getI (k := 6) C cl4 h0 rfl gw_2_2 rfl dX4_holdBack_14 ?_
    refine z_iload_n C 1 1 dX4_holdBack_17 rfl rfl ?_
    refine z_iast C j1 rfl (by decide) dX4_holdBack_18 (fun _ => ?_)
    refine z_aload_n C 0 0 dX4_holdBack_19 rfl rfl ?_
    refine z_dup C dX4_holdBack_20 rfl ?_
    refine z_getI (k := 6) C cl4 h0 rfl gw_2_2 rfl dX4_holdBack_21 ?_
    refine z_iconst C dX4_holdBack_24 rfl ?_
    refine z_iadd C dX4_holdBack_25 ?_
    refine z_putI (k := 6) C cl4 h0 rfl gw_2_2 rfl rfl rfl dX4_holdBack_26 ?_
    exact z_vret C hr (Nat.le_of_ble_eq_true rfl) dX4_holdBack_29 rfl
set_option maxHeartbeats 4000000 in
set_option maxRecDepth 100000 in
theorem z_fX4_acceptOperand_b115 {p : Program} {l : Launch} {e : Env} {s : State} {m : MethodId} {args : Array Value} {below : List Frame} {meth : Method} {c : Code} {D : va_G} {cy : Nat → ClassId} {B : Nat} {kd : Nat → Nat} {n : Nat} {sa sv : Nat → Nat} (C : zC p l s m args meth c D cy B kd n sa sv RX4 cX4_acceptOperand 1) (ht : ∀ x ∈ c.exceptionTable.toList, False) (hr : meth.sig.returnType = some (FieldType.int)) {b0 : Int32 × Mem}   (v0 : Nat) (M : Mem) (h0 : kd v0 = 4)  : Z p l e (rmz 1 0) s m args below meth c (vx_MQ below (QcR D cy B kd n (cvI b0)) (XcR D cy B kd n (cvI b0)) args s 0 (6 * 0) (AA B kd n)) D cy B kd n 1 b0 0 115 [(0, .ref (B + v0))] [] M (fX4_acceptOperand_b115 v0 M) := by
  unfold fX4_acceptOperand_b115
  refine z_aload_n C 0 0 dX4_acceptOperand_115 rfl rfl ?_
  refine z_iconst C dX4_acceptOperand_116 rfl ?_
  refine z_putI (k := 12) C cl4 h0 rfl gw_2_8 rfl rfl rfl dX4_acceptOperand_117 ?_
  refine z_iconst C dX4_acceptOperand_120 rfl ?_
  exact z_iret C hr (Nat.le_of_ble_eq_true rfl) dX4_acceptOperand_121 rfl
set_option maxHeartbeats 4000000 in
set_option maxRecDepth 100000 in
theorem ctX4_acceptOperand {l : Launch} {D : va_G} {cy : Nat → ClassId} {B : Nat} {kd : Nat → Nat} {n : Nat} {sa sv : Nat → Nat} (G : zG l kd n) (v0 : Nat) (h0 : kd v0 = 4) (M : Mem) : CT l D cy B kd n sa sv 1 0 yX4_acceptOperand cX4_acceptOperand 1 (some (FieldType.int)) cvI [.ref (B + v0)] M (fX4_acceptOperand v0 M) := by
  refine ct_of (by decide) G.1 G.2 (Nat.le_of_ble_eq_true rfl) (ls := [(0, .ref (B + v0))]) rfl ?_
  intro p e s m args below meth c b0 C ht hr
  unfold fX4_acceptOperand
  refine z_aload_n C 0 0 dX4_acceptOperand_0 rfl rfl ?_
  refine z_getI (k := 10) C cl4 h0 rfl gw_2_6 rfl dX4_acceptOperand_1 ?_
  refine z_ite (q := (rI M v0 10) = (2 : Int32)) (fun j1 => ?_) (fun j2 => ?_)
  · refine z_lookup C 76 dX4_acceptOperand_4 rfl (by rw [j1]) rfl ?_
    refine z_aload_n C 0 0 dX4_acceptOperand_76 rfl rfl ?_
    refine z_getR (k := 0) C cl4 h0 rfl gw_1_232 rfl dX4_acceptOperand_77 ?_
    have j3 : kd (v0 + 1) = 6 := zkd C h0 (k := 0) rfl
    refine z_aload_n C 0 0 dX4_acceptOperand_80 rfl rfl ?_
    refine z_getI (k := 11) C cl4 h0 rfl gw_2_7 rfl dX4_acceptOperand_81 ?_
    refine z_callV_V (As := [.int (rI M v0 11)]) (rest := []) C rfl (ctX6_emit (zG_of C) (v0 + 1) (rI M v0 11) j3 M) cw_RX4_113 rfl (okM_X6_emit) rfl cl6 j3 (okR_of rfl) (Nat.le_of_ble_eq_true rfl) dX4_acceptOperand_84 (fun qj4 _ => ?_)
    refine z_goto C 115 dX4_acceptOperand_87 rfl ?_
    exact z_jump (ls1 := [(0, .ref (B + v0))]) (Nat.le_of_ble_eq_true rfl) [0] rfl (z_fX4_acceptOperand_b115 C ht hr v0 qj4 h0)
  refine z_ite (q := (rI M v0 10) = (7 : Int32)) (fun j5 => ?_) (fun j6 => ?_)
  · refine z_lookup C 90 dX4_acceptOperand_4 rfl (by rw [j5]) rfl ?_
    refine z_aload_n C 0 0 dX4_acceptOperand_90 rfl rfl ?_
    refine z_getR (k := 0) C cl4 h0 rfl gw_1_232 rfl dX4_acceptOperand_91 ?_
    have j7 : kd (v0 + 1) = 6 := zkd C h0 (k := 0) rfl
    refine z_iconst C dX4_acceptOperand_94 rfl ?_
    refine z_callV_V (As := [.int (-1 : Int32)]) (rest := []) C rfl (ctX6_emit (zG_of C) (v0 + 1) (-1 : Int32) j7 M) cw_RX4_113 rfl (okM_X6_emit) rfl cl6 j7 (okR_of rfl) (Nat.le_of_ble_eq_true rfl) dX4_acceptOperand_95 (fun qj8 _ => ?_)
    refine z_goto C 115 dX4_acceptOperand_98 rfl ?_
    exact z_jump (ls1 := [(0, .ref (B + v0))]) (Nat.le_of_ble_eq_true rfl) [0] rfl (z_fX4_acceptOperand_b115 C ht hr v0 qj8 h0)
  refine z_ite (q := (rI M v0 10) = (8 : Int32)) (fun j9 => ?_) (fun j10 => ?_)
  · refine z_lookup C 101 dX4_acceptOperand_4 rfl (by rw [j9]) rfl ?_
    refine z_aload_n C 0 0 dX4_acceptOperand_101 rfl rfl ?_
    refine z_getR (k := 0) C cl4 h0 rfl gw_1_232 rfl dX4_acceptOperand_102 ?_
    have j11 : kd (v0 + 1) = 6 := zkd C h0 (k := 0) rfl
    refine z_bipush (v := -2) C dX4_acceptOperand_105 rfl ?_
    refine z_callV_V (As := [.int (-2 : Int32)]) (rest := []) C rfl (ctX6_emit (zG_of C) (v0 + 1) (-2 : Int32) j11 M) cw_RX4_113 rfl (okM_X6_emit) rfl cl6 j11 (okR_of rfl) (Nat.le_of_ble_eq_true rfl) dX4_acceptOperand_107 (fun qj12 _ => ?_)
    refine z_goto C 115 dX4_acceptOperand_110 rfl ?_
    exact z_jump (ls1 := [(0, .ref (B + v0))]) (Nat.le_of_ble_eq_true rfl) [0] rfl (z_fX4_acceptOperand_b115 C ht hr v0 qj12 h0)
  refine z_ite (q := (rI M v0 10) = (40 : Int32)) (fun j13 => ?_) (fun j14 => ?_)
  · refine z_lookup C 48 dX4_acceptOperand_4 rfl (by rw [j13]) rfl ?_
    refine z_aload_n C 0 0 dX4_acceptOperand_48 rfl rfl ?_
    refine z_getI (k := 15) C cl4 h0 rfl gw_2_11 rfl dX4_acceptOperand_49 ?_
    refine z_bipush (v := 6) C dX4_acceptOperand_52 rfl ?_
    refine z_icmp_lt C 59 dX4_acceptOperand_54 rfl (fun _ => ?_) (fun _ => ?_)
    · refine z_aload_n C 0 0 dX4_acceptOperand_59 rfl rfl ?_
      refine z_dup C dX4_acceptOperand_60 rfl ?_
      refine z_getI (k := 15) C cl4 h0 rfl gw_2_11 rfl dX4_acceptOperand_61 ?_
      refine z_iconst C dX4_acceptOperand_64 rfl ?_
      refine z_iadd C dX4_acceptOperand_65 ?_
      refine z_putI (k := 15) C cl4 h0 rfl gw_2_11 rfl rfl rfl dX4_acceptOperand_66 ?_
      refine z_aload_n C 0 0 dX4_acceptOperand_69 rfl rfl ?_
      refine z_iconst C dX4_acceptOperand_70 rfl ?_
      refine z_callV_V (As := [.int (0 : Int32)]) (rest := []) C rfl (ctX4_holdBack (zG_of C) v0 (0 : Int32) h0 (wI M v0 15 ((rI M v0 15) + (1 : Int32)))) cw_RX4_109 rfl (okM_X4_holdBack) rfl cl4 h0 (okR_of rfl) (Nat.le_of_ble_eq_true rfl) dX4_acceptOperand_71 (fun qj15 _ => ?_)
      refine z_iconst C dX4_acceptOperand_74 rfl ?_
      exact z_iret C hr (Nat.le_of_ble_eq_true rfl) dX4_acceptOperand_75 rfl
    · refine z_iconst C dX4_acceptOperand_57 rfl ?_
      exact z_iret C hr (Nat.le_of_ble_eq_true rfl) dX4_acceptOperand_58 rfl
  refine z_lookup C 113 dX4_acceptOperand_4 rfl (by rw [show _ = _ from lv_osw j2 (by decide), show _ = _ from lv_osw j6 (by decide), show _ = _ from lv_osw j10 (by decide), show _ = _ from lv_osw j14 (by decide)]) rfl ?_
  refine z_iconst C dX4_acceptOperand_113 rfl ?_
  exact z_iret C hr (Nat.le_of_ble_eq_true rfl) dX4_acceptOperand_114 rfl
set_option maxHeartbeats 4000000 in
set_option maxRecDepth 100000 in
theorem z_fX4_stepOf_b75 {p : Program} {l : Launch} {e : Env} {s : State} {m : MethodId} {args : Array Value} {below : List Frame} {meth : Method} {c : Code} {D : va_G} {cy : Nat → ClassId} {B : Nat} {kd : Nat → Nat} {n : Nat} {sa sv : Nat → Nat} (C : zC p l s m args meth c D cy B kd n sa sv RX4 cX4_stepOf 1) (ht : ∀ x ∈ c.exceptionTable.toList, False) (hr : meth.sig.returnType = some (FieldType.int)) {b0 : Int32}   (Mo : Mem)  : Z p l e (rmz 0 0) s m args below meth c (vx_MQ below (QcR D cy B kd n ((pI Mo) b0)) (XcR D cy B kd n ((pI Mo) b0)) args s 0 (6 * 0) (AA B kd n)) D cy B kd n 1 b0 0 75 [] [] Mo (fX4_stepOf_b75 Mo) := by
  unfold fX4_stepOf_b75
  refine z_iconst C dX4_stepOf_75 rfl ?_
  exact z_iret C hr (Nat.le_of_ble_eq_true rfl) dX4_stepOf_76 rfl
set_option maxHeartbeats 4000000 in
set_option maxRecDepth 100000 in
theorem ctX4_stepOf {l : Launch} {D : va_G} {cy : Nat → ClassId} {B : Nat} {kd : Nat → Nat} {n : Nat} {sa sv : Nat → Nat} (G : zG l kd n) (v0 : Int32)  (Mo : Mem) : CT l D cy B kd n sa sv 0 0 yX4_stepOf cX4_stepOf 1 (some (FieldType.int)) (pI Mo) [.int v0] Mo (fX4_stepOf v0 Mo) := by
  refine ct_of (by decide) G.1 G.2 (Nat.le_of_ble_eq_true rfl) (ls := [(0, .int v0)]) rfl ?_
  intro p e s m args below meth c b0 C ht hr
  unfold fX4_stepOf
  refine z_iload_n C 0 0 dX4_stepOf_0 rfl rfl ?_
  refine z_ite (q := v0 = (37 : Int32)) (fun j1 => ?_) (fun j2 => ?_)
  · refine z_tableZ C 72 (37) dX4_stepOf_1 (by rw [j1]; decide) (by decide) (by decide) rfl rfl ?_
    refine z_bipush (v := -7) C dX4_stepOf_72 rfl ?_
    exact z_iret C hr (Nat.le_of_ble_eq_true rfl) dX4_stepOf_74 rfl
  refine z_ite (q := v0 = (38 : Int32)) (fun j3 => ?_) (fun j4 => ?_)
  · refine z_tableZ C 75 (38) dX4_stepOf_1 (by rw [j3]; decide) (by decide) (by decide) rfl rfl ?_
    exact z_jump (ls1 := []) (Nat.le_of_ble_eq_true rfl) [] rfl (z_fX4_stepOf_b75 C ht hr Mo)
  refine z_ite (q := v0 = (39 : Int32)) (fun j5 => ?_) (fun j6 => ?_)
  · refine z_tableZ C 75 (39) dX4_stepOf_1 (by rw [j5]; decide) (by decide) (by decide) rfl rfl ?_
    exact z_jump (ls1 := []) (Nat.le_of_ble_eq_true rfl) [] rfl (z_fX4_stepOf_b75 C ht hr Mo)
  refine z_ite (q := v0 = (40 : Int32)) (fun j7 => ?_) (fun j8 => ?_)
  · refine z_tableZ C 75 (40) dX4_stepOf_1 (by rw [j7]; decide) (by decide) (by decide) rfl rfl ?_
    exact z_jump (ls1 := []) (Nat.le_of_ble_eq_true rfl) [] rfl (z_fX4_stepOf_b75 C ht hr Mo)
  refine z_ite (q := v0 = (41 : Int32)) (fun j9 => ?_) (fun j10 => ?_)
  · refine z_tableZ C 75 (41) dX4_stepOf_1 (by rw [j9]; decide) (by decide) (by decide) rfl rfl ?_
    exact z_jump (ls1 := []) (Nat.le_of_ble_eq_true rfl) [] rfl (z_fX4_stepOf_b75 C ht hr Mo)
  refine z_ite (q := v0 = (42 : Int32)) (fun j11 => ?_) (fun j12 => ?_)
  · refine z_tableZ C 66 (42) dX4_stepOf_1 (by rw [j11]; decide) (by decide) (by decide) rfl rfl ?_
    refine z_bipush (v := -5) C dX4_stepOf_66 rfl ?_
    exact z_iret C hr (Nat.le_of_ble_eq_true rfl) dX4_stepOf_68 rfl
  refine z_ite (q := v0 = (43 : Int32)) (fun j13 => ?_) (fun j14 => ?_)
  · refine z_tableZ C 60 (43) dX4_stepOf_1 (by rw [j13]; decide) (by decide) (by decide) rfl rfl ?_
    refine z_bipush (v := -3) C dX4_stepOf_60 rfl ?_
    exact z_iret C hr (Nat.le_of_ble_eq_true rfl) dX4_stepOf_62 rfl
  refine z_ite (q := v0 = (44 : Int32)) (fun j15 => ?_) (fun j16 => ?_)
  · refine z_tableZ C 75 (44) dX4_stepOf_1 (by rw [j15]; decide) (by decide) (by decide) rfl rfl ?_
    exact z_jump (ls1 := []) (Nat.le_of_ble_eq_true rfl) [] rfl (z_fX4_stepOf_b75 C ht hr Mo)
  refine z_ite (q := v0 = (45 : Int32)) (fun j17 => ?_) (fun j18 => ?_)
  · refine z_tableZ C 63 (45) dX4_stepOf_1 (by rw [j17]; decide) (by decide) (by decide) rfl rfl ?_
    refine z_bipush (v := -4) C dX4_stepOf_63 rfl ?_
    exact z_iret C hr (Nat.le_of_ble_eq_true rfl) dX4_stepOf_65 rfl
  refine z_ite (q := v0 = (46 : Int32)) (fun j19 => ?_) (fun j20 => ?_)
  · refine z_tableZ C 75 (46) dX4_stepOf_1 (by rw [j19]; decide) (by decide) (by decide) rfl rfl ?_
    exact z_jump (ls1 := []) (Nat.le_of_ble_eq_true rfl) [] rfl (z_fX4_stepOf_b75 C ht hr Mo)
  refine z_ite (q := v0 = (47 : Int32)) (fun j21 => ?_) (fun j22 => ?_)
  · refine z_tableZ C 69 (47) dX4_stepOf_1 (by rw [j21]; decide) (by decide) (by decide) rfl rfl ?_
    refine z_bipush (v := -6) C dX4_stepOf_69 rfl ?_
    exact z_iret C hr (Nat.le_of_ble_eq_true rfl) dX4_stepOf_71 rfl
  have j2t := lv_neT (a := 37) j2 (by decide)
  have j4t := lv_neT (a := 38) j4 (by decide)
  have j6t := lv_neT (a := 39) j6 (by decide)
  have j8t := lv_neT (a := 40) j8 (by decide)
  have j10t := lv_neT (a := 41) j10 (by decide)
  have j12t := lv_neT (a := 42) j12 (by decide)
  have j14t := lv_neT (a := 43) j14 (by decide)
  have j16t := lv_neT (a := 44) j16 (by decide)
  have j18t := lv_neT (a := 45) j18 (by decide)
  have j20t := lv_neT (a := 46) j20 (by decide)
  have j22t := lv_neT (a := 47) j22 (by decide)
  refine z_tableOut C 75 dX4_stepOf_1 (by omega) rfl ?_
  exact z_jump (ls1 := []) (Nat.le_of_ble_eq_true rfl) [] rfl (z_fX4_stepOf_b75 C ht hr Mo)
set_option maxHeartbeats 4000000 in
set_option maxRecDepth 100000 in
theorem z_fX4_rankOf_b18 {p : Program} {l : Launch} {e : Env} {s : State} {m : MethodId} {args : Array Value} {below : List Frame} {meth : Method} {c : Code} {D : va_G} {cy : Nat → ClassId} {B : Nat} {kd : Nat → Nat} {n : Nat} {sa sv : Nat → Nat} (C : zC p l s m args meth c D cy B kd n sa sv RX4 cX4_rankOf 1) (ht : ∀ x ∈ c.exceptionTable.toList, False) (hr : meth.sig.returnType = some (FieldType.int)) {b0 : Int32}   (Mo : Mem)  : Z p l e (rmz 0 0) s m args below meth c (vx_MQ below (QcR D cy B kd n ((pI Mo) b0)) (XcR D cy B kd n ((pI Mo) b0)) args s 0 (6 * 0) (AA B kd n)) D cy B kd n 1 b0 0 18 [] [] Mo (fX4_rankOf_b18 Mo) := by
  unfold fX4_rankOf_b18
  refine z_iconst C dX4_rankOf_18 rfl ?_
  refine z_goto C 23 dX4_rankOf_19 rfl ?_
  exact z_iret C hr (Nat.le_of_ble_eq_true rfl) dX4_rankOf_23 rfl
set_option maxHeartbeats 4000000 in
set_option maxRecDepth 100000 in
theorem ctX4_rankOf {l : Launch} {D : va_G} {cy : Nat → ClassId} {B : Nat} {kd : Nat → Nat} {n : Nat} {sa sv : Nat → Nat} (G : zG l kd n) (v0 : Int32)  (Mo : Mem) : CT l D cy B kd n sa sv 0 0 yX4_rankOf cX4_rankOf 1 (some (FieldType.int)) (pI Mo) [.int v0] Mo (fX4_rankOf v0 Mo) := by
  refine ct_of (by decide) G.1 G.2 (Nat.le_of_ble_eq_true rfl) (ls := [(0, .int v0)]) rfl ?_
  intro p e s m args below meth c b0 C ht hr
  unfold fX4_rankOf
  refine z_iload_n C 0 0 dX4_rankOf_0 rfl rfl ?_
  refine z_if_ne C 6 dX4_rankOf_1 rfl (fun _ => ?_) (fun _ => ?_)
  · refine z_iconst C dX4_rankOf_4 rfl ?_
    exact z_iret C hr (Nat.le_of_ble_eq_true rfl) dX4_rankOf_5 rfl
  · refine z_iload_n C 0 0 dX4_rankOf_6 rfl rfl ?_
    refine z_bipush (v := -3) C dX4_rankOf_7 rfl ?_
    refine z_icmp_eq C 18 dX4_rankOf_9 rfl (fun _ => ?_) (fun _ => ?_)
    · exact z_jump (ls1 := []) (Nat.le_of_ble_eq_true rfl) [] rfl (z_fX4_rankOf_b18 C ht hr Mo)
    · refine z_iload_n C 0 0 dX4_rankOf_12 rfl rfl ?_
      refine z_bipush (v := -4) C dX4_rankOf_13 rfl ?_
      refine z_icmp_ne C 22 dX4_rankOf_15 rfl (fun _ => ?_) (fun _ => ?_)
      · exact z_jump (ls1 := []) (Nat.le_of_ble_eq_true rfl) [] rfl (z_fX4_rankOf_b18 C ht hr Mo)
      · refine z_iconst C dX4_rankOf_22 rfl ?_
        exact z_iret C hr (Nat.le_of_ble_eq_true rfl) dX4_rankOf_23 rfl
set_option maxHeartbeats 4000000 in
set_option maxRecDepth 100000 in
theorem z_fX4_emitWaiting_l2_s {p : Program} {l : Launch} {e : Env} {s : State} {m : MethodId} {args : Array Value} {below : List Frame} {meth : Method} {c : Code} {D : va_G} {cy : Nat → ClassId} {B : Nat} {kd : Nat → Nat} {n : Nat} {sa sv : Nat → Nat} (C : zC p l s m args meth c D cy B kd n sa sv RX4 cX4_emitWaiting 4) (ht : ∀ x ∈ c.exceptionTable.toList, False) (hr : meth.sig.returnType = none) {b0 : Mem} (N : Nat) (v0 : Nat) (v1 : Int32) (k2 : Int32 → Mem → Option Mem) (v2 : Int32) (M : Mem) (h0 : kd v0 = 4)  (hk2 : ∀ (v2 : Int32) (M : Mem), Z p l e (rmz 1 0) s m args below meth c (vx_MQ below (QcR D cy B kd n (cvV b0)) (XcR D cy B kd n (cvV b0)) args s 0 (6 * 0) (AA B kd n)) D cy B kd n 4 b0 0 2 [(0, .ref (B + v0)), (1, .int v1), (2, .int v2)] [] M (k2 v2 M)) : Z p l e (rmz 1 0) s m args below meth c (vx_MQ below (QcR D cy B kd n (cvV b0)) (XcR D cy B kd n (cvV b0)) args s 0 (6 * 0) (AA B kd n)) D cy B kd n 4 b0 0 2 [(0, .ref (B + v0)), (1, .int v1), (2, .int v2)] [] M (fX4_emitWaiting_l2_s N v0 v1 k2 v2 M) := by
  unfold fX4_emitWaiting_l2_s
  refine z_iload_n C 2 2 dX4_emitWaiting_2 rfl rfl ?_
  refine z_bipush (v := 20) C dX4_emitWaiting_3 rfl ?_
  refine z_icmp_ge C 60 dX4_emitWaiting_5 rfl (fun _ => ?_) (fun _ => ?_)
  · exact z_vret C hr (Nat.le_of_ble_eq_true rfl) dX4_emitWaiting_60 rfl
  · refine z_aload_n C 0 0 dX4_emitWaiting_8 rfl rfl ?_
    refine z_getI (k := 6) C cl4 h0 rfl gw_2_2 rfl dX4_emitWaiting_9 ?_
    refine z_if_le C 60 dX4_emitWaiting_12 rfl (fun _ => ?_) (fun _ => ?_)
    · exact z_vret C hr (Nat.le_of_ble_eq_true rfl) dX4_emitWaiting_60 rfl
    · refine z_aload_n C 0 0 dX4_emitWaiting_15 rfl rfl ?_
      refine z_getR (k := 5) C cl4 h0 rfl gw_2_1 rfl dX4_emitWaiting_16 ?_
      have j1 : kd (v0 + 9) = 32 := zkd C h0 (k := 5) rfl
      refine z_aload_n C 0 0 dX4_emitWaiting_19 rfl rfl ?_
      refine z_getI (k := 6) C cl4 h0 rfl gw_2_2 rfl dX4_emitWaiting_20 ?_
      refine z_iconst C dX4_emitWaiting_23 rfl ?_
      refine z_isub C dX4_emitWaiting_24 ?_
      refine z_iald C j1 rfl (by decide) dX4_emitWaiting_25 (fun j2 => ?_)
      refine z_istore_n C 3 (ls1 := [(3, .int (rI M (v0 + 9) ((rI M v0 6) - (1 : Int32)).toNatClampNeg)), (0, .ref (B + v0)), (1, .int v1), (2, .int v2)]) dX4_emitWaiting_26 rfl (by decide) rfl ?_
      refine z_iload_n C 3 0 dX4_emitWaiting_27 rfl rfl ?_
      refine z_callS_pI (As := [.int (rI M (v0 + 9) ((rI M v0 6) - (1 : Int32)).toNatClampNeg)]) (rest := []) C rfl (ctX4_rankOf (zG_of C) (rI M (v0 + 9) ((rI M v0 6) - (1 : Int32)).toNatClampNeg) M) cw_RX4_120 (okM_X4_rankOf) rfl (okR_of rfl) (Nat.le_of_ble_eq_true rfl) dX4_emitWaiting_28 (fun qj3 _ => ?_)
      refine z_iload_n C 1 2 dX4_emitWaiting_31 rfl rfl ?_
      refine z_icmp_ge C 36 dX4_emitWaiting_32 rfl (fun _ => ?_) (fun _ => ?_)
      · refine z_aload_n C 0 1 dX4_emitWaiting_36 rfl rfl ?_
        refine z_getR (k := 0) C cl4 h0 rfl gw_1_232 rfl dX4_emitWaiting_37 ?_
        have j4 : kd (v0 + 1) = 6 := zkd C h0 (k := 0) rfl
        refine z_iload_n C 3 0 dX4_emitWaiting_40 rfl rfl ?_
        refine z_callV_V (As := [.int (rI M (v0 + 9) ((rI M v0 6) - (1 : Int32)).toNatClampNeg)]) (rest := []) C rfl (ctX6_emit (zG_of C) (v0 + 1) (rI M (v0 + 9) ((rI M v0 6) - (1 : Int32)).toNatClampNeg) j4 M) cw_RX4_113 rfl (okM_X6_emit) rfl cl6 j4 (okR_of rfl) (Nat.le_of_ble_eq_true rfl) dX4_emitWaiting_41 (fun qj5 _ => ?_)
        refine z_aload_n C 0 1 dX4_emitWaiting_44 rfl rfl ?_
        refine z_dup C dX4_emitWaiting_45 rfl ?_
        refine z_getI (k := 6) C cl4 h0 rfl gw_2_2 rfl dX4_emitWaiting_46 ?_
        refine z_iconst C dX4_emitWaiting_49 rfl ?_
        refine z_isub C dX4_emitWaiting_50 ?_
        refine z_putI (k := 6) C cl4 h0 rfl gw_2_2 rfl rfl rfl dX4_emitWaiting_51 ?_
        refine z_iinc C 2 3 (v := v2) (v1 := (v2 + (1 : Int32))) (ls1 := [(2, .int (v2 + (1 : Int32))), (3, .int (rI M (v0 + 9) ((rI M v0 6) - (1 : Int32)).toNatClampNeg)), (0, .ref (B + v0)), (1, .int v1)]) dX4_emitWaiting_54 rfl rfl (by decide) rfl ?_
        refine z_goto C 2 dX4_emitWaiting_57 rfl ?_
        exact z_jump (ls1 := [(0, .ref (B + v0)), (1, .int v1), (2, .int (v2 + (1 : Int32)))]) (Nat.le_of_ble_eq_true rfl) [2, 3, 0] rfl (hk2 (v2 + (1 : Int32)) (wI qj5 v0 6 ((rI qj5 v0 6) - (1 : Int32))))
      · exact z_vret C hr (Nat.le_of_ble_eq_true rfl) dX4_emitWaiting_35 rfl
theorem z_fX4_emitWaiting_l2_i {p : Program} {l : Launch} {e : Env} {s : State} {m : MethodId} {args : Array Value} {below : List Frame} {meth : Method} {c : Code} {D : va_G} {cy : Nat → ClassId} {B : Nat} {kd : Nat → Nat} {n : Nat} {sa sv : Nat → Nat} (C : zC p l s m args meth c D cy B kd n sa sv RX4 cX4_emitWaiting 4) (ht : ∀ x ∈ c.exceptionTable.toList, False) (hr : meth.sig.returnType = none) {b0 : Mem} (N : Nat) (v0 : Nat) (v1 : Int32) (h0 : kd v0 = 4)  (fu : Nat) : ∀ (v2 : Int32) (M : Mem), Z p l e (rmz 1 0) s m args below meth c (vx_MQ below (QcR D cy B kd n (cvV b0)) (XcR D cy B kd n (cvV b0)) args s 0 (6 * 0) (AA B kd n)) D cy B kd n 4 b0 0 2 [(0, .ref (B + v0)), (1, .int v1), (2, .int v2)] [] M (fX4_emitWaiting_l2 N v0 v1 fu v2 M) := by
  induction fu with
  | zero => intro v2 M; exact z_none
  | succ fu ih => intro v2 M; exact z_fX4_emitWaiting_l2_s C ht hr N v0 v1 (fX4_emitWaiting_l2 N v0 v1 fu) v2 M h0 (fun v2 M => ih v2 M)
theorem z_fX4_emitWaiting_l2 {p : Program} {l : Launch} {e : Env} {s : State} {m : MethodId} {args : Array Value} {below : List Frame} {meth : Method} {c : Code} {D : va_G} {cy : Nat → ClassId} {B : Nat} {kd : Nat → Nat} {n : Nat} {sa sv : Nat → Nat} (C : zC p l s m args meth c D cy B kd n sa sv RX4 cX4_emitWaiting 4) (ht : ∀ x ∈ c.exceptionTable.toList, False) (hr : meth.sig.returnType = none) {b0 : Mem} (N : Nat) (v0 : Nat) (v1 : Int32) (fu : Nat) (v2 : Int32) (M : Mem) (h0 : kd v0 = 4)  : Z p l e (rmz 1 0) s m args below meth c (vx_MQ below (QcR D cy B kd n (cvV b0)) (XcR D cy B kd n (cvV b0)) args s 0 (6 * 0) (AA B kd n)) D cy B kd n 4 b0 0 2 [(0, .ref (B + v0)), (1, .int v1), (2, .int v2)] [] M (fX4_emitWaiting_l2 N v0 v1 fu v2 M) := z_fX4_emitWaiting_l2_i C ht hr N v0 v1 h0 fu v2 M
set_option maxHeartbeats 4000000 in
set_option maxRecDepth 100000 in
theorem ctX4_emitWaiting {l : Launch} {D : va_G} {cy : Nat → ClassId} {B : Nat} {kd : Nat → Nat} {n : Nat} {sa sv : Nat → Nat} (G : zG l kd n) (N : Nat) (v0 : Nat) (v1 : Int32) (h0 : kd v0 = 4) (M : Mem) : CT l D cy B kd n sa sv 1 0 yX4_emitWaiting cX4_emitWaiting 4 (none) cvV [.ref (B + v0), .int v1] M (fX4_emitWaiting N v0 v1 M) := by
  refine ct_of (by decide) G.1 G.2 (Nat.le_of_ble_eq_true rfl) (ls := [(0, .ref (B + v0)), (1, .int v1)]) rfl ?_
  intro p e s m args below meth c b0 C ht hr
  unfold fX4_emitWaiting
  refine z_iconst C dX4_emitWaiting_0 rfl ?_
  refine z_istore_n C 2 (ls1 := [(2, .int (0 : Int32)), (0, .ref (B + v0)), (1, .int v1)]) dX4_emitWaiting_1 rfl (by decide) rfl ?_
  exact z_jump (ls1 := [(0, .ref (B + v0)), (1, .int v1), (2, .int (0 : Int32))]) (Nat.le_of_ble_eq_true rfl) [1, 2, 0] rfl (z_fX4_emitWaiting_l2 C ht hr N v0 v1 N (0 : Int32) M h0)
set_option maxHeartbeats 4000000 in
set_option maxRecDepth 100000 in
theorem ctX4_finishExpression {l : Launch} {D : va_G} {cy : Nat → ClassId} {B : Nat} {kd : Nat → Nat} {n : Nat} {sa sv : Nat → Nat} (G : zG l kd n) (N : Nat) (v0 : Nat) (h0 : kd v0 = 4) (M : Mem) : CT l D cy B kd n sa sv 2 0 yX4_finishExpression cX4_finishExpression 1 (none) cvV [.ref (B + v0)] M (fX4_finishExpression N v0 M) := by
  refine ct_of (by decide) G.1 G.2 (Nat.le_of_ble_eq_true rfl) (ls := [(0, .ref (B + v0))]) rfl ?_
  intro p e s m args below meth c b0 C ht hr
  unfold fX4_finishExpression
  refine z_aload_n C 0 0 dX4_finishExpression_0 rfl rfl ?_
  refine z_getI (k := 13) C cl4 h0 rfl gw_2_9 rfl dX4_finishExpression_1 ?_
  refine z_iconst C dX4_finishExpression_4 rfl ?_
  refine z_icmp_ne C 22 dX4_finishExpression_5 rfl (fun _ => ?_) (fun _ => ?_)
  · refine z_aload_n C 0 0 dX4_finishExpression_8 rfl rfl ?_
    refine z_getR (k := 0) C cl4 h0 rfl gw_1_232 rfl dX4_finishExpression_9 ?_
    have j1 : kd (v0 + 1) = 6 := zkd C h0 (k := 0) rfl
    refine z_aload_n C 0 0 dX4_finishExpression_12 rfl rfl ?_
    refine z_getI (k := 14) C cl4 h0 rfl gw_2_10 rfl dX4_finishExpression_13 ?_
    refine z_callV_V (As := [.int (rI M v0 14)]) (rest := []) C rfl (ctX6_addMark (zG_of C) N (v0 + 1) (rI M v0 14) j1 M) cw_RX4_135 rfl (okM_X6_addMark) rfl cl6 j1 (okR_of rfl) (Nat.le_of_ble_eq_true rfl) dX4_finishExpression_16 (fun qj2 _ => ?_)
    refine z_goto C 33 dX4_finishExpression_19 rfl ?_
    exact z_vret C hr (Nat.le_of_ble_eq_true rfl) dX4_finishExpression_33 rfl
  · refine z_aload_n C 0 0 dX4_finishExpression_22 rfl rfl ?_
    refine z_getR (k := 0) C cl4 h0 rfl gw_1_232 rfl dX4_finishExpression_23 ?_
    have j3 : kd (v0 + 1) = 6 := zkd C h0 (k := 0) rfl
    refine z_aload_n C 0 0 dX4_finishExpression_26 rfl rfl ?_
    refine z_getI (k := 14) C cl4 h0 rfl gw_2_10 rfl dX4_finishExpression_27 ?_
    refine z_callV_V (As := [.int (rI M v0 14)]) (rest := []) C rfl (ctX6_setTag (zG_of C) (v0 + 1) (rI M v0 14) j3 M) cw_RX4_138 rfl (okM_X6_setTag) rfl cl6 j3 (okR_of rfl) (Nat.le_of_ble_eq_true rfl) dX4_finishExpression_30 (fun qj4 _ => ?_)
    exact z_vret C hr (Nat.le_of_ble_eq_true rfl) dX4_finishExpression_33 rfl
set_option maxHeartbeats 4000000 in
set_option maxRecDepth 100000 in
theorem ctX4_acceptSemicolon {l : Launch} {D : va_G} {cy : Nat → ClassId} {B : Nat} {kd : Nat → Nat} {n : Nat} {sa sv : Nat → Nat} (G : zG l kd n) (v0 : Nat) (h0 : kd v0 = 4) (M : Mem) : CT l D cy B kd n sa sv 0 0 yX4_acceptSemicolon cX4_acceptSemicolon 1 (some (FieldType.int)) cvI [.ref (B + v0)] M (fX4_acceptSemicolon v0 M) := by
  refine ct_of (by decide) G.1 G.2 (Nat.le_of_ble_eq_true rfl) (ls := [(0, .ref (B + v0))]) rfl ?_
  intro p e s m args below meth c b0 C ht hr
  unfold fX4_acceptSemicolon
  refine z_aload_n C 0 0 dX4_acceptSemicolon_0 rfl rfl ?_
  refine z_getI (k := 10) C cl4 h0 rfl gw_2_6 rfl dX4_acceptSemicolon_1 ?_
  refine z_bipush (v := 59) C dX4_acceptSemicolon_4 rfl ?_
  refine z_icmp_eq C 11 dX4_acceptSemicolon_6 rfl (fun _ => ?_) (fun _ => ?_)
  · refine z_aload_n C 0 0 dX4_acceptSemicolon_11 rfl rfl ?_
    refine z_getR (k := 0) C cl4 h0 rfl gw_1_232 rfl dX4_acceptSemicolon_12 ?_
    have j1 : kd (v0 + 1) = 6 := zkd C h0 (k := 0) rfl
    refine z_dup C dX4_acceptSemicolon_15 rfl ?_
    refine z_getI (k := 0) C cl6 j1 rfl gw_1_51 rfl dX4_acceptSemicolon_16 ?_
    refine z_iconst C dX4_acceptSemicolon_19 rfl ?_
    refine z_iadd C dX4_acceptSemicolon_20 ?_
    refine z_putI (k := 0) C cl6 j1 rfl gw_1_51 rfl rfl rfl dX4_acceptSemicolon_21 ?_
    refine z_aload_n C 0 0 dX4_acceptSemicolon_24 rfl rfl ?_
    refine z_iconst C dX4_acceptSemicolon_25 rfl ?_
    refine z_putI (k := 12) C cl4 h0 rfl gw_2_8 rfl rfl rfl dX4_acceptSemicolon_26 ?_
    refine z_iconst C dX4_acceptSemicolon_29 rfl ?_
    exact z_iret C hr (Nat.le_of_ble_eq_true rfl) dX4_acceptSemicolon_30 rfl
  · refine z_iconst C dX4_acceptSemicolon_9 rfl ?_
    exact z_iret C hr (Nat.le_of_ble_eq_true rfl) dX4_acceptSemicolon_10 rfl
set_option maxHeartbeats 4000000 in
set_option maxRecDepth 100000 in
theorem z_fX4_acceptOperator_b109 {p : Program} {l : Launch} {e : Env} {s : State} {m : MethodId} {args : Array Value} {below : List Frame} {meth : Method} {c : Code} {D : va_G} {cy : Nat → ClassId} {B : Nat} {kd : Nat → Nat} {n : Nat} {sa sv : Nat → Nat} (C : zC p l s m args meth c D cy B kd n sa sv RX4 cX4_acceptOperator 2) (ht : ∀ x ∈ c.exceptionTable.toList, False) (hr : meth.sig.returnType = some (FieldType.int)) {b0 : Int32 × Mem}  (N : Nat) (M : Mem)  : Z p l e (rmz 3 0) s m args below meth c (vx_MQ below (QcR D cy B kd n (cvI b0)) (XcR D cy B kd n (cvI b0)) args s 0 (6 * 0) (AA B kd n)) D cy B kd n 2 b0 0 109 [] [] M (fX4_acceptOperator_b109 N M) := by
  unfold fX4_acceptOperator_b109
  refine z_iconst C dX4_acceptOperator_109 rfl ?_
  exact z_iret C hr (Nat.le_of_ble_eq_true rfl) dX4_acceptOperator_110 rfl
set_option maxHeartbeats 4000000 in
set_option maxRecDepth 100000 in
theorem z_fX4_acceptOperator_b79 {p : Program} {l : Launch} {e : Env} {s : State} {m : MethodId} {args : Array Value} {below : List Frame} {meth : Method} {c : Code} {D : va_G} {cy : Nat → ClassId} {B : Nat} {kd : Nat → Nat} {n : Nat} {sa sv : Nat → Nat} (C : zC p l s m args meth c D cy B kd n sa sv RX4 cX4_acceptOperator 2) (ht : ∀ x ∈ c.exceptionTable.toList, False) (hr : meth.sig.returnType = some (FieldType.int)) {b0 : Int32 × Mem}  (N : Nat) (v0 : Nat) (M : Mem) (h0 : kd v0 = 4)  : Z p l e (rmz 3 0) s m args below meth c (vx_MQ below (QcR D cy B kd n (cvI b0)) (XcR D cy B kd n (cvI b0)) args s 0 (6 * 0) (AA B kd n)) D cy B kd n 2 b0 0 79 [(0, .ref (B + v0))] [] M (fX4_acceptOperator_b79 N v0 M) := by
  unfold fX4_acceptOperator_b79
  refine z_aload_n C 0 0 dX4_acceptOperator_79 rfl rfl ?_
  refine z_getI (k := 10) C cl4 h0 rfl gw_2_6 rfl dX4_acceptOperator_80 ?_
  refine z_bipush (v := 59) C dX4_acceptOperator_83 rfl ?_
  refine z_icmp_ne C 109 dX4_acceptOperator_85 rfl (fun _ => ?_) (fun _ => ?_)
  · refine z_aload_n C 0 0 dX4_acceptOperator_88 rfl rfl ?_
    refine z_getI (k := 15) C cl4 h0 rfl gw_2_11 rfl dX4_acceptOperator_89 ?_
    refine z_if_ne C 109 dX4_acceptOperator_92 rfl (fun _ => ?_) (fun _ => ?_)
    · refine z_aload_n C 0 0 dX4_acceptOperator_95 rfl rfl ?_
      refine z_iconst C dX4_acceptOperator_96 rfl ?_
      refine z_callV_V (As := [.int (1 : Int32)]) (rest := []) C rfl (ctX4_emitWaiting (zG_of C) N v0 (1 : Int32) h0 M) cw_RX4_123 rfl (okM_X4_emitWaiting) rfl cl4 h0 (okR_of rfl) (Nat.le_of_ble_eq_true rfl) dX4_acceptOperator_97 (fun qj1 _ => ?_)
      refine z_aload_n C 0 0 dX4_acceptOperator_100 rfl rfl ?_
      refine z_callV_V (As := []) (rest := []) C rfl (ctX4_finishExpression (zG_of C) N v0 h0 qj1) cw_RX4_132 rfl (okM_X4_finishExpression) rfl cl4 h0 (okR_of rfl) (Nat.le_of_ble_eq_true rfl) dX4_acceptOperator_101 (fun qj2 _ => ?_)
      refine z_aload_n C 0 0 dX4_acceptOperator_104 rfl rfl ?_
      refine z_callV_I (As := []) (rest := []) C rfl (ctX4_acceptSemicolon (zG_of C) v0 h0 qj2) cw_RX4_76 rfl (okM_X4_acceptSemicolon) rfl cl4 h0 (okR_of rfl) (Nat.le_of_ble_eq_true rfl) dX4_acceptOperator_105 (fun qj3 _ => ?_)
      exact z_iret C hr (Nat.le_of_ble_eq_true rfl) dX4_acceptOperator_108 rfl
    · exact z_jump (ls1 := []) (Nat.le_of_ble_eq_true rfl) [] rfl (z_fX4_acceptOperator_b109 C ht hr N M)
  · exact z_jump (ls1 := []) (Nat.le_of_ble_eq_true rfl) [] rfl (z_fX4_acceptOperator_b109 C ht hr N M)
set_option maxHeartbeats 4000000 in
set_option maxRecDepth 100000 in
theorem ctX4_acceptOperator {l : Launch} {D : va_G} {cy : Nat → ClassId} {B : Nat} {kd : Nat → Nat} {n : Nat} {sa sv : Nat → Nat} (G : zG l kd n) (N : Nat) (v0 : Nat) (h0 : kd v0 = 4) (M : Mem) : CT l D cy B kd n sa sv 3 0 yX4_acceptOperator cX4_acceptOperator 2 (some (FieldType.int)) cvI [.ref (B + v0)] M (fX4_acceptOperator N v0 M) := by
  refine ct_of (by decide) G.1 G.2 (Nat.le_of_ble_eq_true rfl) (ls := [(0, .ref (B + v0))]) rfl ?_
  intro p e s m args below meth c b0 C ht hr
  unfold fX4_acceptOperator
  refine z_aload_n C 0 0 dX4_acceptOperator_0 rfl rfl ?_
  refine z_getI (k := 10) C cl4 h0 rfl gw_2_6 rfl dX4_acceptOperator_1 ?_
  refine z_callS_pI (As := [.int (rI M v0 10)]) (rest := []) C rfl (ctX4_stepOf (zG_of C) (rI M v0 10) M) cw_RX4_116 (okM_X4_stepOf) rfl (okR_of rfl) (Nat.le_of_ble_eq_true rfl) dX4_acceptOperator_4 (fun qj1 _ => ?_)
  refine z_istore_n C 1 (ls1 := [(1, .int qj1), (0, .ref (B + v0))]) dX4_acceptOperator_7 rfl (by decide) rfl ?_
  refine z_iload_n C 1 0 dX4_acceptOperator_8 rfl rfl ?_
  refine z_if_eq C 32 dX4_acceptOperator_9 rfl (fun _ => ?_) (fun _ => ?_)
  · refine z_aload_n C 0 1 dX4_acceptOperator_32 rfl rfl ?_
    refine z_getI (k := 10) C cl4 h0 rfl gw_2_6 rfl dX4_acceptOperator_33 ?_
    refine z_bipush (v := 41) C dX4_acceptOperator_36 rfl ?_
    refine z_icmp_ne C 79 dX4_acceptOperator_38 rfl (fun _ => ?_) (fun _ => ?_)
    · refine z_aload_n C 0 1 dX4_acceptOperator_41 rfl rfl ?_
      refine z_getI (k := 15) C cl4 h0 rfl gw_2_11 rfl dX4_acceptOperator_42 ?_
      refine z_if_le C 79 dX4_acceptOperator_45 rfl (fun _ => ?_) (fun _ => ?_)
      · exact z_jump (ls1 := [(0, .ref (B + v0))]) (Nat.le_of_ble_eq_true rfl) [1] rfl (z_fX4_acceptOperator_b79 C ht hr N v0 M h0)
      · refine z_aload_n C 0 1 dX4_acceptOperator_48 rfl rfl ?_
        refine z_iconst C dX4_acceptOperator_49 rfl ?_
        refine z_callV_V (As := [.int (1 : Int32)]) (rest := []) C rfl (ctX4_emitWaiting (zG_of C) N v0 (1 : Int32) h0 M) cw_RX4_123 rfl (okM_X4_emitWaiting) rfl cl4 h0 (okR_of rfl) (Nat.le_of_ble_eq_true rfl) dX4_acceptOperator_50 (fun qj2 _ => ?_)
        refine z_aload_n C 0 1 dX4_acceptOperator_53 rfl rfl ?_
        refine z_aload_n C 0 1 dX4_acceptOperator_54 rfl rfl ?_
        refine z_getI (k := 6) C cl4 h0 rfl gw_2_2 rfl dX4_acceptOperator_55 ?_
        refine z_iconst C dX4_acceptOperator_58 rfl ?_
        refine z_isub C dX4_acceptOperator_59 ?_
        refine z_iconst C dX4_acceptOperator_60 rfl ?_
        refine z_max C cw_RX4_126 ⟨Nat.le_of_ble_eq_true rfl, Nat.le_of_ble_eq_true rfl, Nat.le_of_ble_eq_true rfl, Nat.le_of_ble_eq_true rfl⟩ (Nat.le_of_ble_eq_true rfl) dX4_acceptOperator_61 ?_
        refine z_putI (k := 6) C cl4 h0 rfl gw_2_2 rfl rfl rfl dX4_acceptOperator_64 ?_
        refine z_aload_n C 0 1 dX4_acceptOperator_67 rfl rfl ?_
        refine z_dup C dX4_acceptOperator_68 rfl ?_
        refine z_getI (k := 15) C cl4 h0 rfl gw_2_11 rfl dX4_acceptOperator_69 ?_
        refine z_iconst C dX4_acceptOperator_72 rfl ?_
        refine z_isub C dX4_acceptOperator_73 ?_
        refine z_putI (k := 15) C cl4 h0 rfl gw_2_11 rfl rfl rfl dX4_acceptOperator_74 ?_
        refine z_iconst C dX4_acceptOperator_77 rfl ?_
        exact z_iret C hr (Nat.le_of_ble_eq_true rfl) dX4_acceptOperator_78 rfl
    · exact z_jump (ls1 := [(0, .ref (B + v0))]) (Nat.le_of_ble_eq_true rfl) [1] rfl (z_fX4_acceptOperator_b79 C ht hr N v0 M h0)
  · refine z_aload_n C 0 1 dX4_acceptOperator_12 rfl rfl ?_
    refine z_iload_n C 1 0 dX4_acceptOperator_13 rfl rfl ?_
    refine z_callS_pI (As := [.int qj1]) (rest := [.ref (B + v0)]) C rfl (ctX4_rankOf (zG_of C) qj1 M) cw_RX4_120 (okM_X4_rankOf) rfl (okR_of rfl) (Nat.le_of_ble_eq_true rfl) dX4_acceptOperator_14 (fun qj3 _ => ?_)
    refine z_callV_V (As := [.int qj3]) (rest := []) C rfl (ctX4_emitWaiting (zG_of C) N v0 qj3 h0 M) cw_RX4_123 rfl (okM_X4_emitWaiting) rfl cl4 h0 (okR_of rfl) (Nat.le_of_ble_eq_true rfl) dX4_acceptOperator_17 (fun qj4 _ => ?_)
    refine z_aload_n C 0 1 dX4_acceptOperator_20 rfl rfl ?_
    refine z_iload_n C 1 0 dX4_acceptOperator_21 rfl rfl ?_
    refine z_callV_V (As := [.int qj1]) (rest := []) C rfl (ctX4_holdBack (zG_of C) v0 qj1 h0 qj4) cw_RX4_109 rfl (okM_X4_holdBack) rfl cl4 h0 (okR_of rfl) (Nat.le_of_ble_eq_true rfl) dX4_acceptOperator_22 (fun qj5 _ => ?_)
    refine z_aload_n C 0 1 dX4_acceptOperator_25 rfl rfl ?_
    refine z_iconst C dX4_acceptOperator_26 rfl ?_
    refine z_putI (k := 12) C cl4 h0 rfl gw_2_8 rfl rfl rfl dX4_acceptOperator_27 ?_
    refine z_iconst C dX4_acceptOperator_30 rfl ?_
    exact z_iret C hr (Nat.le_of_ble_eq_true rfl) dX4_acceptOperator_31 rfl
set_option maxHeartbeats 4000000 in
set_option maxRecDepth 100000 in
theorem z_fX4_accept_b68 {p : Program} {l : Launch} {e : Env} {s : State} {m : MethodId} {args : Array Value} {below : List Frame} {meth : Method} {c : Code} {D : va_G} {cy : Nat → ClassId} {B : Nat} {kd : Nat → Nat} {n : Nat} {sa sv : Nat → Nat} (C : zC p l s m args meth c D cy B kd n sa sv RX4 cX4_accept 1) (ht : ∀ x ∈ c.exceptionTable.toList, False) (hr : meth.sig.returnType = some (FieldType.int)) {b0 : Int32 × Mem}  (N : Nat) (v0 : Nat) (M : Mem) (h0 : kd v0 = 4)  : Z p l e (rmz 4 0) s m args below meth c (vx_MQ below (QcR D cy B kd n (cvI b0)) (XcR D cy B kd n (cvI b0)) args s 0 (6 * 0) (AA B kd n)) D cy B kd n 1 b0 0 68 [(0, .ref (B + v0))] [] M (fX4_accept_b68 N v0 M) := by
  unfold fX4_accept_b68
  refine z_aload_n C 0 0 dX4_accept_68 rfl rfl ?_
  refine z_callV_I (As := []) (rest := []) C rfl (ctX4_acceptSemicolon (zG_of C) v0 h0 M) cw_RX4_76 rfl (okM_X4_acceptSemicolon) rfl cl4 h0 (okR_of rfl) (Nat.le_of_ble_eq_true rfl) dX4_accept_69 (fun qj1 _ => ?_)
  exact z_iret C hr (Nat.le_of_ble_eq_true rfl) dX4_accept_72 rfl
set_option maxHeartbeats 4000000 in
set_option maxRecDepth 100000 in
theorem ctX4_accept {l : Launch} {D : va_G} {cy : Nat → ClassId} {B : Nat} {kd : Nat → Nat} {n : Nat} {sa sv : Nat → Nat} (G : zG l kd n) (N : Nat) (v0 : Nat) (h0 : kd v0 = 4) (M : Mem) : CT l D cy B kd n sa sv 4 0 yX4_accept cX4_accept 1 (some (FieldType.int)) cvI [.ref (B + v0)] M (fX4_accept N v0 M) := by
  refine ct_of (by decide) G.1 G.2 (Nat.le_of_ble_eq_true rfl) (ls := [(0, .ref (B + v0))]) rfl ?_
  intro p e s m args below meth c b0 C ht hr
  unfold fX4_accept
  refine z_aload_n C 0 0 dX4_accept_0 rfl rfl ?_
  refine z_getI (k := 10) C cl4 h0 rfl gw_2_6 rfl dX4_accept_1 ?_
  refine z_iconst C dX4_accept_4 rfl ?_
  refine z_icmp_ne C 10 dX4_accept_5 rfl (fun _ => ?_) (fun _ => ?_)
  · refine z_iconst C dX4_accept_8 rfl ?_
    exact z_iret C hr (Nat.le_of_ble_eq_true rfl) dX4_accept_9 rfl
  · refine z_aload_n C 0 0 dX4_accept_10 rfl rfl ?_
    refine z_getI (k := 12) C cl4 h0 rfl gw_2_8 rfl dX4_accept_11 ?_
    refine z_ite (q := (rI M v0 12) = (0 : Int32)) (fun j1 => ?_) (fun j2 => ?_)
    · refine z_tableZ C 48 (0) dX4_accept_14 (by rw [j1]; decide) (by decide) (by decide) rfl rfl ?_
      refine z_aload_n C 0 0 dX4_accept_48 rfl rfl ?_
      refine z_callV_I (As := []) (rest := []) C rfl (ctX4_acceptHead (zG_of C) v0 h0 M) cw_RX4_64 rfl (okM_X4_acceptHead) rfl cl4 h0 (okR_of rfl) (Nat.le_of_ble_eq_true rfl) dX4_accept_49 (fun qj3 _ => ?_)
      exact z_iret C hr (Nat.le_of_ble_eq_true rfl) dX4_accept_52 rfl
    refine z_ite (q := (rI M v0 12) = (1 : Int32)) (fun j4 => ?_) (fun j5 => ?_)
    · refine z_tableZ C 53 (1) dX4_accept_14 (by rw [j4]; decide) (by decide) (by decide) rfl rfl ?_
      refine z_aload_n C 0 0 dX4_accept_53 rfl rfl ?_
      refine z_callV_I (As := []) (rest := []) C rfl (ctX4_acceptBound (zG_of C) v0 h0 M) cw_RX4_67 rfl (okM_X4_acceptBound) rfl cl4 h0 (okR_of rfl) (Nat.le_of_ble_eq_true rfl) dX4_accept_54 (fun qj6 _ => ?_)
      exact z_iret C hr (Nat.le_of_ble_eq_true rfl) dX4_accept_57 rfl
    refine z_ite (q := (rI M v0 12) = (2 : Int32)) (fun j7 => ?_) (fun j8 => ?_)
    · refine z_tableZ C 68 (2) dX4_accept_14 (by rw [j7]; decide) (by decide) (by decide) rfl rfl ?_
      exact z_jump (ls1 := [(0, .ref (B + v0))]) (Nat.le_of_ble_eq_true rfl) [0] rfl (z_fX4_accept_b68 C ht hr N v0 M h0)
    refine z_ite (q := (rI M v0 12) = (3 : Int32)) (fun j9 => ?_) (fun j10 => ?_)
    · refine z_tableZ C 58 (3) dX4_accept_14 (by rw [j9]; decide) (by decide) (by decide) rfl rfl ?_
      refine z_aload_n C 0 0 dX4_accept_58 rfl rfl ?_
      refine z_callV_I (As := []) (rest := []) C rfl (ctX4_acceptOperand (zG_of C) v0 h0 M) cw_RX4_70 rfl (okM_X4_acceptOperand) rfl cl4 h0 (okR_of rfl) (Nat.le_of_ble_eq_true rfl) dX4_accept_59 (fun qj11 _ => ?_)
      exact z_iret C hr (Nat.le_of_ble_eq_true rfl) dX4_accept_62 rfl
    refine z_ite (q := (rI M v0 12) = (4 : Int32)) (fun j12 => ?_) (fun j13 => ?_)
    · refine z_tableZ C 63 (4) dX4_accept_14 (by rw [j12]; decide) (by decide) (by decide) rfl rfl ?_
      refine z_aload_n C 0 0 dX4_accept_63 rfl rfl ?_
      refine z_callV_I (As := []) (rest := []) C rfl (ctX4_acceptOperator (zG_of C) N v0 h0 M) cw_RX4_73 rfl (okM_X4_acceptOperator) rfl cl4 h0 (okR_of rfl) (Nat.le_of_ble_eq_true rfl) dX4_accept_64 (fun qj14 _ => ?_)
      exact z_iret C hr (Nat.le_of_ble_eq_true rfl) dX4_accept_67 rfl
    have j2t := lv_neT (a := 0) j2 (by decide)
    have j5t := lv_neT (a := 1) j5 (by decide)
    have j8t := lv_neT (a := 2) j8 (by decide)
    have j10t := lv_neT (a := 3) j10 (by decide)
    have j13t := lv_neT (a := 4) j13 (by decide)
    refine z_tableOut C 68 dX4_accept_14 (by omega) rfl ?_
    exact z_jump (ls1 := [(0, .ref (B + v0))]) (Nat.le_of_ble_eq_true rfl) [0] rfl (z_fX4_accept_b68 C ht hr N v0 M h0)
set_option maxHeartbeats 4000000 in
set_option maxRecDepth 100000 in
theorem z_fX4_readAll_b113 {p : Program} {l : Launch} {e : Env} {s : State} {m : MethodId} {args : Array Value} {below : List Frame} {meth : Method} {c : Code} {D : va_G} {cy : Nat → ClassId} {B : Nat} {kd : Nat → Nat} {n : Nat} {sa sv : Nat → Nat} (C : zC p l s m args meth c D cy B kd n sa sv RX4 cX4_readAll 4) (ht : ∀ x ∈ c.exceptionTable.toList, False) (hr : meth.sig.returnType = some (FieldType.boolean)) {b0 : Bool × Mem}  (N : Nat) (v2 : Int32) (M : Mem)  : Z p l e (rmz 7 0) s m args below meth c (vx_MQ below (QcR D cy B kd n (cvB b0)) (XcR D cy B kd n (cvB b0)) args s 0 (6 * 0) (AA B kd n)) D cy B kd n 4 b0 0 113 [(2, .int v2)] [] M (fX4_readAll_b113 N v2 M) := by
  unfold fX4_readAll_b113
  refine z_iload_n C 2 0 dX4_readAll_113 rfl rfl ?_
  refine z_if_ne C 121 dX4_readAll_114 rfl (fun _ => ?_) (fun _ => ?_)
  · refine z_iconst C dX4_readAll_117 rfl ?_
    refine z_goto C 122 dX4_readAll_118 rfl ?_
    exact z_zret C (v := true) hr (Nat.le_of_ble_eq_true rfl) dX4_readAll_122 rfl
  · refine z_iconst C dX4_readAll_121 rfl ?_
    exact z_zret C (v := false) hr (Nat.le_of_ble_eq_true rfl) dX4_readAll_122 rfl
set_option maxHeartbeats 4000000 in
set_option maxRecDepth 100000 in
theorem z_fX4_readAll_b99 {p : Program} {l : Launch} {e : Env} {s : State} {m : MethodId} {args : Array Value} {below : List Frame} {meth : Method} {c : Code} {D : va_G} {cy : Nat → ClassId} {B : Nat} {kd : Nat → Nat} {n : Nat} {sa sv : Nat → Nat} (C : zC p l s m args meth c D cy B kd n sa sv RX4 cX4_readAll 4) (ht : ∀ x ∈ c.exceptionTable.toList, False) (hr : meth.sig.returnType = some (FieldType.boolean)) {b0 : Bool × Mem}  (N : Nat) (v0 : Nat) (v2 : Int32) (s0 : Int32) (s1 : Nat) (M : Mem) (h0 : kd v0 = 4) (hs1 : kd s1 = 4)  : Z p l e (rmz 7 0) s m args below meth c (vx_MQ below (QcR D cy B kd n (cvB b0)) (XcR D cy B kd n (cvB b0)) args s 0 (6 * 0) (AA B kd n)) D cy B kd n 4 b0 0 99 [(0, .ref (B + v0)), (2, .int v2)] [.int s0, .ref (B + s1)] M (fX4_readAll_b99 N v0 v2 s0 s1 M) := by
  unfold fX4_readAll_b99
  refine z_putI (k := 3) C cl4 hs1 rfl gw_1_239 rfl rfl rfl dX4_readAll_99 ?_
  refine z_iload_n C 2 1 dX4_readAll_102 rfl rfl ?_
  refine z_if_ne C 113 dX4_readAll_103 rfl (fun _ => ?_) (fun _ => ?_)
  · refine z_aload_n C 0 0 dX4_readAll_106 rfl rfl ?_
    refine z_getR (k := 0) C cl4 h0 rfl gw_1_232 rfl dX4_readAll_107 ?_
    have j1 : kd (v0 + 1) = 6 := zkd C h0 (k := 0) rfl
    refine z_callV_V (As := []) (rest := []) C rfl (ctX6_fillTables (zG_of C) N (v0 + 1) j1 (wI M s1 3 s0)) cw_RX4_61 rfl (okM_X6_fillTables) rfl cl6 j1 (okR_of rfl) (Nat.le_of_ble_eq_true rfl) dX4_readAll_110 (fun qj2 _ => ?_)
    exact z_jump (ls1 := [(2, .int v2)]) (Nat.le_of_ble_eq_true rfl) [1] rfl (z_fX4_readAll_b113 C ht hr N v2 qj2)
  · exact z_jump (ls1 := [(2, .int v2)]) (Nat.le_of_ble_eq_true rfl) [1] rfl (z_fX4_readAll_b113 C ht hr N v2 (wI M s1 3 s0))
set_option maxHeartbeats 4000000 in
set_option maxRecDepth 100000 in
theorem z_fX4_readAll_b81 {p : Program} {l : Launch} {e : Env} {s : State} {m : MethodId} {args : Array Value} {below : List Frame} {meth : Method} {c : Code} {D : va_G} {cy : Nat → ClassId} {B : Nat} {kd : Nat → Nat} {n : Nat} {sa sv : Nat → Nat} (C : zC p l s m args meth c D cy B kd n sa sv RX4 cX4_readAll 4) (ht : ∀ x ∈ c.exceptionTable.toList, False) (hr : meth.sig.returnType = some (FieldType.boolean)) {b0 : Bool × Mem}  (N : Nat) (v0 : Nat) (v2 : Int32) (M : Mem) (h0 : kd v0 = 4)  : Z p l e (rmz 7 0) s m args below meth c (vx_MQ below (QcR D cy B kd n (cvB b0)) (XcR D cy B kd n (cvB b0)) args s 0 (6 * 0) (AA B kd n)) D cy B kd n 4 b0 0 81 [(0, .ref (B + v0)), (2, .int v2)] [] M (fX4_readAll_b81 N v0 v2 M) := by
  unfold fX4_readAll_b81
  refine z_aload_n C 0 0 dX4_readAll_81 rfl rfl ?_
  refine z_iload_n C 2 1 dX4_readAll_82 rfl rfl ?_
  refine z_putI (k := 2) C cl4 h0 rfl gw_1_237 rfl rfl rfl dX4_readAll_83 ?_
  refine z_aload_n C 0 0 dX4_readAll_86 rfl rfl ?_
  refine z_iload_n C 2 1 dX4_readAll_87 rfl rfl ?_
  refine z_if_ne C 95 dX4_readAll_88 rfl (fun _ => ?_) (fun _ => ?_)
  · refine z_iconst C dX4_readAll_91 rfl ?_
    refine z_goto C 99 dX4_readAll_92 rfl ?_
    exact z_jump (ls1 := [(0, .ref (B + v0)), (2, .int v2)]) (Nat.le_of_ble_eq_true rfl) [0, 1] rfl (z_fX4_readAll_b99 C ht hr N v0 v2 (-1 : Int32) v0 (wI M v0 2 v2) h0 h0)
  · refine z_aload_n C 0 0 dX4_readAll_95 rfl rfl ?_
    refine z_getI (k := 8) C cl4 h0 rfl gw_2_4 rfl dX4_readAll_96 ?_
    exact z_jump (ls1 := [(0, .ref (B + v0)), (2, .int v2)]) (Nat.le_of_ble_eq_true rfl) [0, 1] rfl (z_fX4_readAll_b99 C ht hr N v0 v2 (rI (wI M v0 2 v2) v0 8) v0 (wI M v0 2 v2) h0 h0)
set_option maxHeartbeats 4000000 in
set_option maxRecDepth 100000 in
theorem z_fX4_readAll_b68 {p : Program} {l : Launch} {e : Env} {s : State} {m : MethodId} {args : Array Value} {below : List Frame} {meth : Method} {c : Code} {D : va_G} {cy : Nat → ClassId} {B : Nat} {kd : Nat → Nat} {n : Nat} {sa sv : Nat → Nat} (C : zC p l s m args meth c D cy B kd n sa sv RX4 cX4_readAll 4) (ht : ∀ x ∈ c.exceptionTable.toList, False) (hr : meth.sig.returnType = some (FieldType.boolean)) {b0 : Bool × Mem}  (N : Nat) (v0 : Nat) (v2 : Int32) (M : Mem) (h0 : kd v0 = 4)  : Z p l e (rmz 7 0) s m args below meth c (vx_MQ below (QcR D cy B kd n (cvB b0)) (XcR D cy B kd n (cvB b0)) args s 0 (6 * 0) (AA B kd n)) D cy B kd n 4 b0 0 68 [(0, .ref (B + v0)), (2, .int v2)] [] M (fX4_readAll_b68 N v0 v2 M) := by
  unfold fX4_readAll_b68
  refine z_iload_n C 2 1 dX4_readAll_68 rfl rfl ?_
  refine z_if_ne C 81 dX4_readAll_69 rfl (fun _ => ?_) (fun _ => ?_)
  · refine z_aload_n C 0 0 dX4_readAll_72 rfl rfl ?_
    refine z_getI (k := 12) C cl4 h0 rfl gw_2_8 rfl dX4_readAll_73 ?_
    refine z_if_eq C 81 dX4_readAll_76 rfl (fun _ => ?_) (fun _ => ?_)
    · exact z_jump (ls1 := [(0, .ref (B + v0)), (2, .int v2)]) (Nat.le_of_ble_eq_true rfl) [0, 1] rfl (z_fX4_readAll_b81 C ht hr N v0 v2 M h0)
    · refine z_iconst C dX4_readAll_79 rfl ?_
      refine z_istore_n C 2 (ls1 := [(2, .int (2 : Int32)), (0, .ref (B + v0))]) dX4_readAll_80 rfl (by decide) rfl ?_
      exact z_jump (ls1 := [(0, .ref (B + v0)), (2, .int (2 : Int32))]) (Nat.le_of_ble_eq_true rfl) [1, 0] rfl (z_fX4_readAll_b81 C ht hr N v0 (2 : Int32) M h0)
  · exact z_jump (ls1 := [(0, .ref (B + v0)), (2, .int v2)]) (Nat.le_of_ble_eq_true rfl) [0, 1] rfl (z_fX4_readAll_b81 C ht hr N v0 v2 M h0)
set_option maxHeartbeats 4000000 in
set_option maxRecDepth 100000 in
theorem z_fX4_readAll_b62 {p : Program} {l : Launch} {e : Env} {s : State} {m : MethodId} {args : Array Value} {below : List Frame} {meth : Method} {c : Code} {D : va_G} {cy : Nat → ClassId} {B : Nat} {kd : Nat → Nat} {n : Nat} {sa sv : Nat → Nat} (C : zC p l s m args meth c D cy B kd n sa sv RX4 cX4_readAll 4) (ht : ∀ x ∈ c.exceptionTable.toList, False) (hr : meth.sig.returnType = some (FieldType.boolean)) {b0 : Bool × Mem}  (N : Nat) (k30 : Int32 → Int32 → Mem → Option (Bool × Mem)) (v0 : Nat) (v2 : Int32) (v3 : Int32) (M : Mem) (h0 : kd v0 = 4) (hk30 : ∀ (v2 : Int32) (v3 : Int32) (M : Mem), Z p l e (rmz 7 0) s m args below meth c (vx_MQ below (QcR D cy B kd n (cvB b0)) (XcR D cy B kd n (cvB b0)) args s 0 (6 * 0) (AA B kd n)) D cy B kd n 4 b0 0 30 [(0, .ref (B + v0)), (2, .int v2), (3, .int v3)] [] M (k30 v2 v3 M)) : Z p l e (rmz 7 0) s m args below meth c (vx_MQ below (QcR D cy B kd n (cvB b0)) (XcR D cy B kd n (cvB b0)) args s 0 (6 * 0) (AA B kd n)) D cy B kd n 4 b0 0 62 [(0, .ref (B + v0)), (2, .int v2), (3, .int v3)] [] M (fX4_readAll_b62 N k30 v0 v2 v3 M) := by
  unfold fX4_readAll_b62
  refine z_iinc C 3 2 (v := v3) (v1 := (v3 + (1 : Int32))) (ls1 := [(3, .int (v3 + (1 : Int32))), (0, .ref (B + v0)), (2, .int v2)]) dX4_readAll_62 rfl rfl (by decide) rfl ?_
  refine z_goto C 30 dX4_readAll_65 rfl ?_
  exact z_jump (ls1 := [(0, .ref (B + v0)), (2, .int v2), (3, .int (v3 + (1 : Int32)))]) (Nat.le_of_ble_eq_true rfl) [1, 2, 0] rfl (hk30 v2 (v3 + (1 : Int32)) M)
set_option maxHeartbeats 4000000 in
set_option maxRecDepth 100000 in
theorem z_fX4_readAll_l30_s {p : Program} {l : Launch} {e : Env} {s : State} {m : MethodId} {args : Array Value} {below : List Frame} {meth : Method} {c : Code} {D : va_G} {cy : Nat → ClassId} {B : Nat} {kd : Nat → Nat} {n : Nat} {sa sv : Nat → Nat} (C : zC p l s m args meth c D cy B kd n sa sv RX4 cX4_readAll 4) (ht : ∀ x ∈ c.exceptionTable.toList, False) (hr : meth.sig.returnType = some (FieldType.boolean)) {b0 : Bool × Mem} (N : Nat) (v0 : Nat) (k30 : Int32 → Int32 → Mem → Option (Bool × Mem)) (v2 : Int32) (v3 : Int32) (M : Mem) (h0 : kd v0 = 4)  (hk30 : ∀ (v2 : Int32) (v3 : Int32) (M : Mem), Z p l e (rmz 7 0) s m args below meth c (vx_MQ below (QcR D cy B kd n (cvB b0)) (XcR D cy B kd n (cvB b0)) args s 0 (6 * 0) (AA B kd n)) D cy B kd n 4 b0 0 30 [(0, .ref (B + v0)), (2, .int v2), (3, .int v3)] [] M (k30 v2 v3 M)) : Z p l e (rmz 7 0) s m args below meth c (vx_MQ below (QcR D cy B kd n (cvB b0)) (XcR D cy B kd n (cvB b0)) args s 0 (6 * 0) (AA B kd n)) D cy B kd n 4 b0 0 30 [(0, .ref (B + v0)), (2, .int v2), (3, .int v3)] [] M (fX4_readAll_l30_s N v0 k30 v2 v3 M) := by
  unfold fX4_readAll_l30_s
  refine z_iload_n C 3 2 dX4_readAll_30 rfl rfl ?_
  refine z_aload_n C 0 0 dX4_readAll_31 rfl rfl ?_
  refine z_getI (k := 7) C cl4 h0 rfl gw_2_3 rfl dX4_readAll_32 ?_
  refine z_icmp_gt C 68 dX4_readAll_35 rfl (fun _ => ?_) (fun _ => ?_)
  · exact z_jump (ls1 := [(0, .ref (B + v0)), (2, .int v2)]) (Nat.le_of_ble_eq_true rfl) [0, 1] rfl (z_fX4_readAll_b68 C ht hr N v0 v2 M h0)
  · refine z_aload_n C 0 0 dX4_readAll_38 rfl rfl ?_
    refine z_getI (k := 10) C cl4 h0 rfl gw_2_6 rfl dX4_readAll_39 ?_
    refine z_if_eq C 68 dX4_readAll_42 rfl (fun _ => ?_) (fun _ => ?_)
    · exact z_jump (ls1 := [(0, .ref (B + v0)), (2, .int v2)]) (Nat.le_of_ble_eq_true rfl) [0, 1] rfl (z_fX4_readAll_b68 C ht hr N v0 v2 M h0)
    · refine z_iload_n C 2 1 dX4_readAll_45 rfl rfl ?_
      refine z_if_ne C 68 dX4_readAll_46 rfl (fun _ => ?_) (fun _ => ?_)
      · refine z_aload_n C 0 0 dX4_readAll_49 rfl rfl ?_
        refine z_callV_I (As := []) (rest := []) C rfl (ctX4_accept (zG_of C) N v0 h0 M) cw_RX4_48 rfl (okM_X4_accept) rfl cl4 h0 (okR_of rfl) (Nat.le_of_ble_eq_true rfl) dX4_readAll_50 (fun qj1 _ => ?_)
        refine z_istore_n C 2 (ls1 := [(2, .int qj1.1), (0, .ref (B + v0)), (3, .int v3)]) dX4_readAll_53 rfl (by decide) rfl ?_
        refine z_iload_n C 2 0 dX4_readAll_54 rfl rfl ?_
        refine z_if_ne C 62 dX4_readAll_55 rfl (fun _ => ?_) (fun _ => ?_)
        · refine z_aload_n C 0 1 dX4_readAll_58 rfl rfl ?_
          refine z_callV_V (As := []) (rest := []) C rfl (ctX4_advance (zG_of C) N v0 h0 qj1.2) cw_RX4_42 rfl (okM_X4_advance) rfl cl4 h0 (okR_of rfl) (Nat.le_of_ble_eq_true rfl) dX4_readAll_59 (fun qj2 _ => ?_)
          exact z_jump (ls1 := [(0, .ref (B + v0)), (2, .int qj1.1), (3, .int v3)]) (Nat.le_of_ble_eq_true rfl) [1, 0, 2] rfl (z_fX4_readAll_b62 C ht hr N k30 v0 qj1.1 v3 qj2 h0 hk30)
        · exact z_jump (ls1 := [(0, .ref (B + v0)), (2, .int qj1.1), (3, .int v3)]) (Nat.le_of_ble_eq_true rfl) [1, 0, 2] rfl (z_fX4_readAll_b62 C ht hr N k30 v0 qj1.1 v3 qj1.2 h0 hk30)
      · exact z_jump (ls1 := [(0, .ref (B + v0)), (2, .int v2)]) (Nat.le_of_ble_eq_true rfl) [0, 1] rfl (z_fX4_readAll_b68 C ht hr N v0 v2 M h0)
theorem z_fX4_readAll_l30_i {p : Program} {l : Launch} {e : Env} {s : State} {m : MethodId} {args : Array Value} {below : List Frame} {meth : Method} {c : Code} {D : va_G} {cy : Nat → ClassId} {B : Nat} {kd : Nat → Nat} {n : Nat} {sa sv : Nat → Nat} (C : zC p l s m args meth c D cy B kd n sa sv RX4 cX4_readAll 4) (ht : ∀ x ∈ c.exceptionTable.toList, False) (hr : meth.sig.returnType = some (FieldType.boolean)) {b0 : Bool × Mem} (N : Nat) (v0 : Nat) (h0 : kd v0 = 4)  (fu : Nat) : ∀ (v2 : Int32) (v3 : Int32) (M : Mem), Z p l e (rmz 7 0) s m args below meth c (vx_MQ below (QcR D cy B kd n (cvB b0)) (XcR D cy B kd n (cvB b0)) args s 0 (6 * 0) (AA B kd n)) D cy B kd n 4 b0 0 30 [(0, .ref (B + v0)), (2, .int v2), (3, .int v3)] [] M (fX4_readAll_l30 N v0 fu v2 v3 M) := by
  induction fu with
  | zero => intro v2 v3 M; exact z_none
  | succ fu ih => intro v2 v3 M; exact z_fX4_readAll_l30_s C ht hr N v0 (fX4_readAll_l30 N v0 fu) v2 v3 M h0 (fun v2 v3 M => ih v2 v3 M)
theorem z_fX4_readAll_l30 {p : Program} {l : Launch} {e : Env} {s : State} {m : MethodId} {args : Array Value} {below : List Frame} {meth : Method} {c : Code} {D : va_G} {cy : Nat → ClassId} {B : Nat} {kd : Nat → Nat} {n : Nat} {sa sv : Nat → Nat} (C : zC p l s m args meth c D cy B kd n sa sv RX4 cX4_readAll 4) (ht : ∀ x ∈ c.exceptionTable.toList, False) (hr : meth.sig.returnType = some (FieldType.boolean)) {b0 : Bool × Mem} (N : Nat) (v0 : Nat) (fu : Nat) (v2 : Int32) (v3 : Int32) (M : Mem) (h0 : kd v0 = 4)  : Z p l e (rmz 7 0) s m args below meth c (vx_MQ below (QcR D cy B kd n (cvB b0)) (XcR D cy B kd n (cvB b0)) args s 0 (6 * 0) (AA B kd n)) D cy B kd n 4 b0 0 30 [(0, .ref (B + v0)), (2, .int v2), (3, .int v3)] [] M (fX4_readAll_l30 N v0 fu v2 v3 M) := z_fX4_readAll_l30_i C ht hr N v0 h0 fu v2 v3 M
set_option maxHeartbeats 4000000 in
set_option maxRecDepth 100000 in
theorem ctX4_readAll {l : Launch} {D : va_G} {cy : Nat → ClassId} {B : Nat} {kd : Nat → Nat} {n : Nat} {sa sv : Nat → Nat} (G : zG l kd n) (N : Nat) (v0 : Nat) (v1 : Int32) (h0 : kd v0 = 4) (M : Mem) : CT l D cy B kd n sa sv 7 0 yX4_readAll cX4_readAll 4 (some (FieldType.boolean)) cvB [.ref (B + v0), .int v1] M (fX4_readAll N v0 v1 M) := by
  refine ct_of (by decide) G.1 G.2 (Nat.le_of_ble_eq_true rfl) (ls := [(0, .ref (B + v0)), (1, .int v1)]) rfl ?_
  intro p e s m args below meth c b0 C ht hr
  unfold fX4_readAll
  refine z_aload_n C 0 0 dX4_readAll_0 rfl rfl ?_
  refine z_iload_n C 1 1 dX4_readAll_1 rfl rfl ?_
  refine z_putI (k := 7) C cl4 h0 rfl gw_2_3 rfl rfl rfl dX4_readAll_2 ?_
  refine z_aload_n C 0 0 dX4_readAll_5 rfl rfl ?_
  refine z_iconst C dX4_readAll_6 rfl ?_
  refine z_putI (k := 9) C cl4 h0 rfl gw_2_5 rfl rfl rfl dX4_readAll_7 ?_
  refine z_aload_n C 0 0 dX4_readAll_10 rfl rfl ?_
  refine z_iconst C dX4_readAll_11 rfl ?_
  refine z_putI (k := 12) C cl4 h0 rfl gw_2_8 rfl rfl rfl dX4_readAll_12 ?_
  refine z_aload_n C 0 0 dX4_readAll_15 rfl rfl ?_
  refine z_getR (k := 0) C cl4 h0 rfl gw_1_232 rfl dX4_readAll_16 ?_
  have j1 : kd (v0 + 1) = 6 := zkd C h0 (k := 0) rfl
  refine z_callV_V (As := []) (rest := []) C rfl (ctX6_clear (zG_of C) (v0 + 1) j1 (wI (wI (wI M v0 7 v1) v0 9 (0 : Int32)) v0 12 (0 : Int32))) cw_RX4_39 rfl (okM_X6_clear) rfl cl6 j1 (okR_of rfl) (Nat.le_of_ble_eq_true rfl) dX4_readAll_19 (fun qj2 _ => ?_)
  refine z_aload_n C 0 0 dX4_readAll_22 rfl rfl ?_
  refine z_callV_V (As := []) (rest := []) C rfl (ctX4_advance (zG_of C) N v0 h0 qj2) cw_RX4_42 rfl (okM_X4_advance) rfl cl4 h0 (okR_of rfl) (Nat.le_of_ble_eq_true rfl) dX4_readAll_23 (fun qj3 _ => ?_)
  refine z_iconst C dX4_readAll_26 rfl ?_
  refine z_istore_n C 2 (ls1 := [(2, .int (0 : Int32)), (0, .ref (B + v0)), (1, .int v1)]) dX4_readAll_27 rfl (by decide) rfl ?_
  refine z_iconst C dX4_readAll_28 rfl ?_
  refine z_istore_n C 3 (ls1 := [(3, .int (0 : Int32)), (2, .int (0 : Int32)), (0, .ref (B + v0)), (1, .int v1)]) dX4_readAll_29 rfl (by decide) rfl ?_
  exact z_jump (ls1 := [(0, .ref (B + v0)), (2, .int (0 : Int32)), (3, .int (0 : Int32))]) (Nat.le_of_ble_eq_true rfl) [2, 1, 0] rfl (z_fX4_readAll_l30 C ht hr N v0 N (0 : Int32) (0 : Int32) qj3 h0)
