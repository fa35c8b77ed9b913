/-! X0_lay -/
def fX0_lay_l16_s (N : Nat) (v0 : Nat) (v1 : Nat) (v2 : Nat) (k16 : Int32 → Mem → Option Mem) (v3 : Int32) (M : Mem) : Option Mem :=
  if (rI M v0 5) ≤ v3 then some M else (fX6_placesOf N v2 v3 (rI M v1 2) (rI M v1 3) M).bind fun qj2 => if inB v3 256 = true then k16 (v3 + (1 : Int32)) (wJ qj2.2 (v0 + 3) v3.toNatClampNeg qj2.1) else none
def fX0_lay_l16 (N : Nat) (v0 : Nat) (v1 : Nat) (v2 : Nat) : Nat → Int32 → Mem → Option Mem
  | 0, _, _ => none
  | n + 1, v3, M => fX0_lay_l16_s N v0 v1 v2 (fX0_lay_l16 N v0 v1 v2 n) v3 M
def fX0_lay (N : Nat) (v0 : Nat) (v1 : Nat) (v2 : Nat) (M : Mem) : Option Mem :=
  fX0_lay_l16 N v0 v1 v2 N (0 : Int32) (wI M v0 5 (minI (rI M v2 1) (256 : Int32)))
/-! X0_hear -/
def fX0_hear_b107 (N : Nat) (k27 : Int32 → Mem → Option Mem) (v0 : Nat) (v3 : Nat) (v4 : Int64) (v6 : Int32) (M : Mem) : Option Mem :=
  k27 (v6 + (1 : Int32)) M
def fX0_hear_b103 (N : Nat) (k27 : Int32 → Mem → Option Mem) (v0 : Nat) (v3 : Nat) (v4 : Int64) (v6 : Int32) (s0 : Int64) (s1 : Int64) (s2 : Nat) (M : Mem) : Option Mem :=
  fX0_hear_b107 N k27 v0 v3 v4 v6 (wJ M s2 6 (s1 ||| s0))
def fX0_hear_l27_s (N : Nat) (v0 : Nat) (v3 : Nat) (v4 : Int64) (k27 : Int32 → Mem → Option Mem) (v6 : Int32) (M : Mem) : Option Mem :=
  if (rI M v3 1) ≤ v6 then some M else (fX9_numberAt v3 v6 M).bind fun qj1 => if qj1.toInt32 < 0 then fX0_hear_b107 N k27 v0 v3 v4 v6 M else if (rI M v0 5) ≤ qj1.toInt32 then fX0_hear_b107 N k27 v0 v3 v4 v6 M else (fX2_add (v0 + 1) qj1.toInt32 M).bind fun qj3 => if inB qj1.toInt32 256 = true then if ((rJ qj3 (v0 + 3) qj1.toInt32.toNatClampNeg) &&& (v4 ^^^ (-1 : Int64))) = (0 : Int64) then if inB qj1.toInt32 256 = true then fX0_hear_b103 N k27 v0 v3 v4 v6 (rJ qj3 (v0 + 3) qj1.toInt32.toNatClampNeg) (rJ qj3 v0 6) v0 qj3 else none else fX0_hear_b103 N k27 v0 v3 v4 v6 (0 : Int64) (rJ qj3 v0 6) v0 qj3 else none
def fX0_hear_l27 (N : Nat) (v0 : Nat) (v3 : Nat) (v4 : Int64) : Nat → Int32 → Mem → Option Mem
  | 0, _, _ => none
  | n + 1, v6, M => fX0_hear_l27_s N v0 v3 v4 (fX0_hear_l27 N v0 v3 v4 n) v6 M
def fX0_hear (N : Nat) (v0 : Nat) (v1 : Nat) (v2 : Nat) (v3 : Nat) (M : Mem) : Option Mem :=
  (fX0_lay N v0 v1 v2 M).bind fun qj1 => (fX5_bits N v1 qj1).bind fun qj2 => (fX2_clear N (v0 + 1) (wJ qj1 v0 6 (0 : Int64))).bind fun qj4 => fX0_hear_l27 N v0 v3 qj2 N (0 : Int32) qj4
/-! X0_knownPlaces -/
def fX0_knownPlaces (v0 : Nat) (Mo : Mem) : Option Int32 :=
  (fJ13_bitCount_95d88 (rJ Mo v0 6) Mo).bind fun qj1 => some qj1
/-! X0_knownNames -/
def fX0_knownNames_b50 (N : Nat) (k4 : Int32 → Int32 → Option Int32) (v0 : Nat) (v1 : Bool) (v2 : Int32) (v3 : Int32) (Mo : Mem) : Option Int32 :=
  k4 v2 (v3 + (1 : Int32))
def fX0_knownNames_b47 (N : Nat) (k4 : Int32 → Int32 → Option Int32) (v0 : Nat) (v1 : Bool) (v2 : Int32) (v3 : Int32) (Mo : Mem) : Option Int32 :=
  fX0_knownNames_b50 N k4 v0 v1 (v2 + (1 : Int32)) v3 Mo
def fX0_knownNames_l4_s (N : Nat) (v0 : Nat) (v1 : Bool) (Mo : Mem) (k4 : Int32 → Int32 → Option Int32) (v2 : Int32) (v3 : Int32) : Option Int32 :=
  if (rI Mo v0 5) ≤ v3 then some v2 else if inB v3 256 = true then if ((rJ Mo (v0 + 3) v3.toNatClampNeg) &&& ((rJ Mo v0 6) ^^^ (-1 : Int64))) = (0 : Int64) then if v1 = true then (fX2_has (v0 + 1) v3 Mo).bind fun qj4 => if qj4 = true then fX0_knownNames_b50 N k4 v0 v1 v2 v3 Mo else fX0_knownNames_b47 N k4 v0 v1 v2 v3 Mo else fX0_knownNames_b47 N k4 v0 v1 v2 v3 Mo else fX0_knownNames_b50 N k4 v0 v1 v2 v3 Mo else none
def fX0_knownNames_l4 (N : Nat) (v0 : Nat) (v1 : Bool) (Mo : Mem) : Nat → Int32 → Int32 → Option Int32
  | 0, _, _ => none
  | n + 1, v2, v3 => fX0_knownNames_l4_s N v0 v1 Mo (fX0_knownNames_l4 N v0 v1 Mo n) v2 v3
def fX0_knownNames (N : Nat) (v0 : Nat) (v1 : Bool) (Mo : Mem) : Option Int32 :=
  fX0_knownNames_l4 N v0 v1 Mo N (0 : Int32) (0 : Int32)
/-! X0_bestQuestion -/
def fX0_bestQuestion_b56 (N : Nat) (k6 : Int32 → Int32 → Int32 → Option Int32) (v0 : Nat) (v1 : Int32) (v2 : Int32) (v3 : Int32) (Mo : Mem) : Option Int32 :=
  k6 v1 v2 (v3 + (1 : Int32))
def fX0_bestQuestion_l6_s (N : Nat) (v0 : Nat) (Mo : Mem) (k6 : Int32 → Int32 → Int32 → Option Int32) (v1 : Int32) (v2 : Int32) (v3 : Int32) : Option Int32 :=
  if (rI Mo v0 5) ≤ v3 then some v1 else if inB v3 256 = true then (fJ13_bitCount_95d88 ((rJ Mo (v0 + 3) v3.toNatClampNeg) &&& ((rJ Mo v0 6) ^^^ (-1 : Int64))) Mo).bind fun qj3 => (fX2_has (v0 + 1) v3 Mo).bind fun qj5 => if qj5 = true then fX0_bestQuestion_b56 N k6 v0 v1 v2 v3 Mo else if qj3 ≤ v2 then fX0_bestQuestion_b56 N k6 v0 v1 v2 v3 Mo else fX0_bestQuestion_b56 N k6 v0 v3 qj3 v3 Mo else none
def fX0_bestQuestion_l6 (N : Nat) (v0 : Nat) (Mo : Mem) : Nat → Int32 → Int32 → Int32 → Option Int32
  | 0, _, _, _ => none
  | n + 1, v1, v2, v3 => fX0_bestQuestion_l6_s N v0 Mo (fX0_bestQuestion_l6 N v0 Mo n) v1 v2 v3
def fX0_bestQuestion (N : Nat) (v0 : Nat) (Mo : Mem) : Option Int32 :=
  fX0_bestQuestion_l6 N v0 Mo N (-1 : Int32) (-1 : Int32) (0 : Int32)
/-! X0_liesWithin -/
def fX0_liesWithin_b52 (N : Nat) (k6 : Int32 → Int32 → Option Int32) (v0 : Nat) (v1 : Nat) (v2 : Int64) (v4 : Int32) (v5 : Int32) (v6 : Int32) (Mo : Mem) : Option Int32 :=
  k6 v5 (v6 + (1 : Int32))
def fX0_liesWithin_l6_s (N : Nat) (v0 : Nat) (v1 : Nat) (v2 : Int64) (v4 : Int32) (Mo : Mem) (k6 : Int32 → Int32 → Option Int32) (v5 : Int32) (v6 : Int32) : Option Int32 :=
  if (rI Mo v0 5) ≤ v6 then some v5 else if inB v6 256 = true then if ((rJ Mo (v0 + 3) v6.toNatClampNeg) &&& (v2 ^^^ (-1 : Int64))) = (0 : Int64) then if v6 = v4 then fX0_liesWithin_b52 N k6 v0 v1 v2 v4 v5 v6 Mo else (fX2_has v1 v6 Mo).bind fun qj3 => if qj3 = true then fX0_liesWithin_b52 N k6 v0 v1 v2 v4 v5 v6 Mo else fX0_liesWithin_b52 N k6 v0 v1 v2 v4 (v5 + (1 : Int32)) v6 Mo else fX0_liesWithin_b52 N k6 v0 v1 v2 v4 v5 v6 Mo else none
def fX0_liesWithin_l6 (N : Nat) (v0 : Nat) (v1 : Nat) (v2 : Int64) (v4 : Int32) (Mo : Mem) : Nat → Int32 → Int32 → Option Int32
  | 0, _, _ => none
  | n + 1, v5, v6 => fX0_liesWithin_l6_s N v0 v1 v2 v4 Mo (fX0_liesWithin_l6 N v0 v1 v2 v4 Mo n) v5 v6
def fX0_liesWithin (N : Nat) (v0 : Nat) (v1 : Nat) (v2 : Int64) (v4 : Int32) (Mo : Mem) : Option Int32 :=
  fX0_liesWithin_l6 N v0 v1 v2 v4 Mo N (0 : Int32) (0 : Int32)
/-! X0_findWorst -/
def fX0_findWorst_b87 (N : Nat) (k24 : Int32 → Mem → Option (Bool × Mem)) (v0 : Nat) (v1 : Nat) (v3 : Int64) (v5 : Int32) (M : Mem) : Option (Bool × Mem) :=
  k24 (v5 + (1 : Int32)) M
def fX0_findWorst_l24_s (N : Nat) (v0 : Nat) (v1 : Nat) (v3 : Int64) (k24 : Int32 → Mem → Option (Bool × Mem)) (v5 : Int32) (M : Mem) : Option (Bool × Mem) :=
  if (rI M v0 5) ≤ v5 then if (rI M v0 0) = (-1 : Int32) then some (false, M) else some (true, M) else (fX2_has (v1 + 1) v5 M).bind fun qj2 => if qj2 = true then fX0_findWorst_b87 N k24 v0 v1 v3 v5 M else if inB v5 256 = true then (fX0_liesWithin N v0 (v1 + 1) (v3 ||| (rJ M (v0 + 3) v5.toNatClampNeg)) v5 M).bind fun qj6 => if qj6 ≤ (rI M v0 1) then fX0_findWorst_b87 N k24 v0 v1 v3 v5 M else fX0_findWorst_b87 N k24 v0 v1 v3 v5 (wI (wI M v0 1 qj6) v0 0 v5) else none
def fX0_findWorst_l24 (N : Nat) (v0 : Nat) (v1 : Nat) (v3 : Int64) : Nat → Int32 → Mem → Option (Bool × Mem)
  | 0, _, _ => none
  | n + 1, v5, M => fX0_findWorst_l24_s N v0 v1 v3 (fX0_findWorst_l24 N v0 v1 v3 n) v5 M
def fX0_findWorst (N : Nat) (v0 : Nat) (v1 : Nat) (v2 : Nat) (M : Mem) : Option (Bool × Mem) :=
  (fX0_lay N v0 v1 v2 M).bind fun qj1 => (fX5_bits N v1 qj1).bind fun qj2 => fX0_findWorst_l24 N v0 v1 qj2 N (0 : Int32) (wI (wI qj1 v0 0 (-1 : Int32)) v0 1 (-1 : Int32))
/-! X0_partOf -/
def fX0_partOf_b45 (N : Nat) (k9 : Int32 → Int32 → Int32 → Option Int32) (v0 : Int64) (v2 : Int64) (v4 : Int32) (v5 : Int32) (v6 : Int32) (Mo : Mem) : Option Int32 :=
  k9 v4 v5 (v6 + (1 : Int32))
def fX0_partOf_l9_s (N : Nat) (v0 : Int64) (v2 : Int64) (Mo : Mem) (k9 : Int32 → Int32 → Int32 → Option Int32) (v4 : Int32) (v5 : Int32) (v6 : Int32) : Option Int32 :=
  if (64 : Int32) ≤ v6 then some v4 else if ((ushrJ v0 v6) &&& (1 : Int64)) = (0 : Int64) then fX0_partOf_b45 N k9 v0 v2 v4 v5 v6 Mo else fX0_partOf_b45 N k9 v0 v2 (v4 ||| (shlI (((ushrJ v2 v6) &&& (1 : Int64)).toInt32) v5)) (v5 + (1 : Int32)) v6 Mo
def fX0_partOf_l9 (N : Nat) (v0 : Int64) (v2 : Int64) (Mo : Mem) : Nat → Int32 → Int32 → Int32 → Option Int32
  | 0, _, _, _ => none
  | n + 1, v4, v5, v6 => fX0_partOf_l9_s N v0 v2 Mo (fX0_partOf_l9 N v0 v2 Mo n) v4 v5 v6
def fX0_partOf (N : Nat) (v0 : Int64) (v2 : Int64) (Mo : Mem) : Option Int32 :=
  fX0_partOf_l9 N v0 v2 Mo N (0 : Int32) (0 : Int32) (0 : Int32)
/-! X0_addPart -/
def fX0_addPart_l2_s (N : Nat) (v0 : Nat) (v1 : Int32) (v2 : Int32) (k2 : Int32 → Mem → Option Mem) (v3 : Int32) (M : Mem) : Option Mem :=
  if v2 < v3 then some M else if (64 : Int32) ≤ v3 then some M else if inB ((v3 ||| v1) &&& ((64 : Int32) - (1 : Int32))) 64 = true then if inB v3 64 = true then if inB ((v3 ||| v1) &&& ((64 : Int32) - (1 : Int32))) 64 = true then k2 (v3 + (1 : Int32)) (wI M (v0 + 4) (((v3 ||| v1) &&& ((64 : Int32) - (1 : Int32))).toNatClampNeg) (minI (rI M (v0 + 4) ((v3 ||| v1) &&& ((64 : Int32) - (1 : Int32))).toNatClampNeg) ((rI M (v0 + 4) v3.toNatClampNeg) + (1 : Int32)))) else none else none else none
def fX0_addPart_l2 (N : Nat) (v0 : Nat) (v1 : Int32) (v2 : Int32) : Nat → Int32 → Mem → Option Mem
  | 0, _, _ => none
  | n + 1, v3, M => fX0_addPart_l2_s N v0 v1 v2 (fX0_addPart_l2 N v0 v1 v2 n) v3 M
def fX0_addPart (N : Nat) (v0 : Nat) (v1 : Int32) (v2 : Int32) (M : Mem) : Option Mem :=
  fX0_addPart_l2 N v0 v1 v2 N (0 : Int32) M
/-! X0_fewestHolding -/
def fX0_fewestHolding_b133 (N : Nat) (M : Mem) : Option (Int32 × Mem) :=
  some ((-1 : Int32), M)
def fX0_fewestHolding_b95 (N : Nat) (k45 : Int32 → Mem → Option (Int32 × Mem)) (v0 : Nat) (v1 : Nat) (v2 : Nat) (v4 : Int64) (v6 : Int32) (v7 : Int32) (M : Mem) : Option (Int32 × Mem) :=
  k45 (v7 + (1 : Int32)) M
def fX0_fewestHolding_l45_s (N : Nat) (v0 : Nat) (v1 : Nat) (v2 : Nat) (v4 : Int64) (v6 : Int32) (k45 : Int32 → Mem → Option (Int32 × Mem)) (v7 : Int32) (M : Mem) : Option (Int32 × Mem) :=
  if (rI M v2 1) ≤ v7 then if (64 : Int32) ≤ v6 then fX0_fewestHolding_b133 N M else if inB v6 64 = true then if (1000000 : Int32) ≤ (rI M (v0 + 4) v6.toNatClampNeg) then fX0_fewestHolding_b133 N M else if inB v6 64 = true then some ((rI M (v0 + 4) v6.toNatClampNeg), M) else none else none else (fX2_has (v1 + 1) v7 M).bind fun qj7 => if qj7 = true then (fX6_placesOf N v2 v7 (rI M v1 2) (rI M v1 3) M).bind fun qj8 => (fX0_partOf N v4 qj8.1 qj8.2).bind fun qj9 => (fX0_addPart N v0 qj9 v6 qj8.2).bind fun qj10 => fX0_fewestHolding_b95 N k45 v0 v1 v2 v4 v6 v7 qj10 else fX0_fewestHolding_b95 N k45 v0 v1 v2 v4 v6 v7 M
def fX0_fewestHolding_l45 (N : Nat) (v0 : Nat) (v1 : Nat) (v2 : Nat) (v4 : Int64) (v6 : Int32) : Nat → Int32 → Mem → Option (Int32 × Mem)
  | 0, _, _ => none
  | n + 1, v7, M => fX0_fewestHolding_l45_s N v0 v1 v2 v4 v6 (fX0_fewestHolding_l45 N v0 v1 v2 v4 v6 n) v7 M
def fX0_fewestHolding (N : Nat) (v0 : Nat) (v1 : Nat) (v2 : Nat) (v3 : Int32) (M : Mem) : Option (Int32 × Mem) :=
  (fX6_placesOf N v2 v3 (rI M v1 2) (rI M v1 3) M).bind fun qj1 => (fJ13_bitCount_95d88 qj1.1 qj1.2).bind fun qj2 => (some (fillI qj1.2 (v0 + 4) 64 (1000000 : Int32))).bind fun qj4 => if inB (0 : Int32) 64 = true then fX0_fewestHolding_l45 N v0 v1 v2 qj1.1 ((shlI (1 : Int32) qj2) - (1 : Int32)) N (0 : Int32) (wI qj4 (v0 + 4) ((0 : Int32).toNatClampNeg) (0 : Int32)) else none
/-! X0_weigh -/
def fX0_weigh_b150 (N : Nat) (v0 : Nat) (v3 : Int32) (v4 : Int32) (v7 : Int32) (v8 : Int32) (s0 : Bool) (M : Mem) : Option Mem :=
  if s0 = true then some (wI (wI (wI (wI M v0 2 v3) v0 3 v4) v0 1 v7) v0 4 v8) else some M
def fX0_weigh_b145 (N : Nat) (v0 : Nat) (v3 : Int32) (v4 : Int32) (v7 : Int32) (v8 : Int32) (M : Mem) : Option Mem :=
  fX0_weigh_b150 N v0 v3 v4 v7 v8 true M
def fX0_weigh_b149 (N : Nat) (v0 : Nat) (v3 : Int32) (v4 : Int32) (v7 : Int32) (v8 : Int32) (M : Mem) : Option Mem :=
  fX0_weigh_b150 N v0 v3 v4 v7 v8 false M
def fX0_weigh_b63 (N : Nat) (k6 : Int64 → Int32 → Mem → Option Mem) (v0 : Nat) (v1 : Nat) (v2 : Nat) (v3 : Int32) (v4 : Int32) (v7 : Int32) (s0 : Int64) (s1 : Int64) (M : Mem) : Option Mem :=
  k6 (s1 ||| s0) (v7 + (1 : Int32)) M
def fX0_weigh_l6_s (N : Nat) (v0 : Nat) (v1 : Nat) (v2 : Nat) (v3 : Int32) (v4 : Int32) (k6 : Int64 → Int32 → Mem → Option Mem) (v5 : Int64) (v7 : Int32) (M : Mem) : Option Mem :=
  if (rI M v0 5) ≤ v7 then (fX0_liesWithin N v0 (v1 + 1) v5 (-1 : Int32) M).bind fun qj2 => if (rI M v0 2) = (-1 : Int32) then fX0_weigh_b145 N v0 v3 v4 qj2 (v3 + ((4 : Int32) * v4)) M else if qj2 < (rI M v0 1) then fX0_weigh_b145 N v0 v3 v4 qj2 (v3 + ((4 : Int32) * v4)) M else if qj2 = (rI M v0 1) then if (v3 + ((4 : Int32) * v4)) < (rI M v0 4) then fX0_weigh_b145 N v0 v3 v4 qj2 (v3 + ((4 : Int32) * v4)) M else if (v3 + ((4 : Int32) * v4)) = (rI M v0 4) then if (rI M v0 2) ≤ v3 then fX0_weigh_b149 N v0 v3 v4 qj2 (v3 + ((4 : Int32) * v4)) M else fX0_weigh_b145 N v0 v3 v4 qj2 (v3 + ((4 : Int32) * v4)) M else fX0_weigh_b149 N v0 v3 v4 qj2 (v3 + ((4 : Int32) * v4)) M else fX0_weigh_b149 N v0 v3 v4 qj2 (v3 + ((4 : Int32) * v4)) M else if inB v7 256 = true then (fX6_placeOf N v2 (v4 - (1 : Int32)) v7 v3 M).bind fun qj5 => if inB v7 256 = true then (fX2_has (v1 + 1) v7 (wJ qj5.2 (v0 + 3) v7.toNatClampNeg ((rJ M (v0 + 3) v7.toNatClampNeg) ||| (shlJ (1 : Int64) qj5.1)))).bind fun qj7 => if qj7 = true then if inB v7 256 = true then fX0_weigh_b63 N k6 v0 v1 v2 v3 v4 v7 (rJ (wJ qj5.2 (v0 + 3) v7.toNatClampNeg ((rJ M (v0 + 3) v7.toNatClampNeg) ||| (shlJ (1 : Int64) qj5.1))) (v0 + 3) v7.toNatClampNeg) v5 (wJ qj5.2 (v0 + 3) v7.toNatClampNeg ((rJ M (v0 + 3) v7.toNatClampNeg) ||| (shlJ (1 : Int64) qj5.1))) else none else fX0_weigh_b63 N k6 v0 v1 v2 v3 v4 v7 (0 : Int64) v5 (wJ qj5.2 (v0 + 3) v7.toNatClampNeg ((rJ M (v0 + 3) v7.toNatClampNeg) ||| (shlJ (1 : Int64) qj5.1))) else none else none
def fX0_weigh_l6 (N : Nat) (v0 : Nat) (v1 : Nat) (v2 : Nat) (v3 : Int32) (v4 : Int32) : Nat → Int64 → Int32 → Mem → Option Mem
  | 0, _, _, _ => none
  | n + 1, v5, v7, M => fX0_weigh_l6_s N v0 v1 v2 v3 v4 (fX0_weigh_l6 N v0 v1 v2 v3 v4 n) v5 v7 M
def fX0_weigh (N : Nat) (v0 : Nat) (v1 : Nat) (v2 : Nat) (v3 : Int32) (v4 : Int32) (M : Mem) : Option Mem :=
  fX0_weigh_l6 N v0 v1 v2 v3 v4 N (0 : Int64) (0 : Int32) M
/-! X0_findChosen -/
def fX0_findChosen_b77 (N : Nat) (k23 : Int32 → Mem → Option (Bool × Mem)) (v0 : Nat) (v1 : Nat) (v2 : Nat) (v3 : Int32) (v4 : Int32) (M : Mem) : Option (Bool × Mem) :=
  k23 (v4 + (8 : Int32)) M
def fX0_findChosen_l41_s (N : Nat) (k23 : Int32 → Mem → Option (Bool × Mem)) (v0 : Nat) (v1 : Nat) (v2 : Nat) (v3 : Int32) (v4 : Int32) (k41 : Int32 → Mem → Option (Bool × Mem)) (v5 : Int32) (M : Mem) : Option (Bool × Mem) :=
  if (rI M v2 3) < v5 then fX0_findChosen_b77 N k23 v0 v1 v2 v3 v4 M else if v3 < (v4 + ((4 : Int32) * v5)) then fX0_findChosen_b77 N k23 v0 v1 v2 v3 v4 M else (fX0_weigh N v0 v1 v2 v4 v5 M).bind fun qj1 => k41 (v5 + (1 : Int32)) qj1
def fX0_findChosen_l41 (N : Nat) (k23 : Int32 → Mem → Option (Bool × Mem)) (v0 : Nat) (v1 : Nat) (v2 : Nat) (v3 : Int32) (v4 : Int32) : Nat → Int32 → Mem → Option (Bool × Mem)
  | 0, _, _ => none
  | n + 1, v5, M => fX0_findChosen_l41_s N k23 v0 v1 v2 v3 v4 (fX0_findChosen_l41 N k23 v0 v1 v2 v3 v4 n) v5 M
def fX0_findChosen_l23_s (N : Nat) (v0 : Nat) (v1 : Nat) (v2 : Nat) (v3 : Int32) (k23 : Int32 → Mem → Option (Bool × Mem)) (v4 : Int32) (M : Mem) : Option (Bool × Mem) :=
  if (64 : Int32) < v4 then if (rI M v0 2) = (-1 : Int32) then some (false, M) else some (true, M) else (some (fillJ M (v0 + 3) 256 (0 : Int64))).bind fun qj2 => fX0_findChosen_l41 N k23 v0 v1 v2 v3 v4 N (1 : Int32) qj2
def fX0_findChosen_l23 (N : Nat) (v0 : Nat) (v1 : Nat) (v2 : Nat) (v3 : Int32) : Nat → Int32 → Mem → Option (Bool × Mem)
  | 0, _, _ => none
  | n + 1, v4, M => fX0_findChosen_l23_s N v0 v1 v2 v3 (fX0_findChosen_l23 N v0 v1 v2 v3 n) v4 M
def fX0_findChosen (N : Nat) (v0 : Nat) (v1 : Nat) (v2 : Nat) (v3 : Int32) (M : Mem) : Option (Bool × Mem) :=
  fX0_findChosen_l23 N v0 v1 v2 v3 N (8 : Int32) (wI (wI M v0 5 (minI (rI M v2 1) (256 : Int32))) v0 2 (-1 : Int32))
set_option maxHeartbeats 4000000 in
set_option maxRecDepth 100000 in
theorem z_fX0_lay_l16_s {p : Program} {l : Launch} {e : Env} {s : State} {m : MethodId} {args : Array Value} {below : List Frame} {meth : Method} {c : Code} {D : va_G} {cy : Nat → ClassId} {B : Nat} {kd : Nat → Nat} {n : Nat} {sa sv : Nat → Nat} (C : zC p l s m args meth c D cy B kd n sa sv RX0 cX0_lay 4) (ht : ∀ x ∈ c.exceptionTable.toList, False) (hr : meth.sig.returnType = none) {b0 : Mem} (N : Nat) (v0 : Nat) (v1 : Nat) (v2 : Nat) (k16 : Int32 → Mem → Option Mem) (v3 : Int32) (M : Mem) (h0 : kd v0 = 0) (h1 : kd v1 = 5) (h2 : kd v2 = 6)  (hk16 : ∀ (v3 : Int32) (M : Mem), Z p l e (rmz 3 0) s m args below meth c (vx_MQ below (QcR D cy B kd n (cvV b0)) (XcR D cy B kd n (cvV b0)) args s 0 (6 * 0) (AA B kd n)) D cy B kd n 4 b0 0 16 [(0, .ref (B + v0)), (1, .ref (B + v1)), (2, .ref (B + v2)), (3, .int v3)] [] M (k16 v3 M)) : Z p l e (rmz 3 0) s m args below meth c (vx_MQ below (QcR D cy B kd n (cvV b0)) (XcR D cy B kd n (cvV b0)) args s 0 (6 * 0) (AA B kd n)) D cy B kd n 4 b0 0 16 [(0, .ref (B + v0)), (1, .ref (B + v1)), (2, .ref (B + v2)), (3, .int v3)] [] M (fX0_lay_l16_s N v0 v1 v2 k16 v3 M) := by
  unfold fX0_lay_l16_s
  refine z_iload_n C 3 3 dX0_lay_16 rfl rfl ?_
  refine z_aload_n C 0 0 dX0_lay_17 rfl rfl ?_
  refine z_getI (k := 5) C cl0 h0 rfl gw_2_107 rfl dX0_lay_18 ?_
  refine z_icmp_ge C 49 dX0_lay_21 rfl (fun _ => ?_) (fun _ => ?_)
  · exact z_vret C hr (Nat.le_of_ble_eq_true rfl) dX0_lay_49 rfl
  · refine z_aload_n C 0 0 dX0_lay_24 rfl rfl ?_
    refine z_getR (k := 8) C cl0 h0 rfl gw_2_110 rfl dX0_lay_25 ?_
    have j1 : kd (v0 + 3) = 35 := zkd C h0 (k := 8) rfl
    refine z_iload_n C 3 3 dX0_lay_28 rfl rfl ?_
    refine z_aload_n C 2 2 dX0_lay_29 rfl rfl ?_
    refine z_iload_n C 3 3 dX0_lay_30 rfl rfl ?_
    refine z_aload_n C 1 1 dX0_lay_31 rfl rfl ?_
    refine z_getI (k := 2) C cl5 h1 rfl gw_1_129 rfl dX0_lay_32 ?_
    refine z_aload_n C 1 1 dX0_lay_35 rfl rfl ?_
    refine z_getI (k := 3) C cl5 h1 rfl gw_1_133 rfl dX0_lay_36 ?_
    refine z_callV_J (As := [.int v3, .int (rI M v1 2), .int (rI M v1 3)]) (rest := [.int v3, .ref (B + (v0 + 3))]) C rfl (ctX6_placesOf (zG_of C) N v2 v3 (rI M v1 2) (rI M v1 3) h2 M) cw_RX0_47 rfl (okM_X6_placesOf) rfl cl6 h2 (okR_of rfl) (Nat.le_of_ble_eq_true rfl) dX0_lay_39 (fun qj2 _ => ?_)
    refine z_last C j1 rfl (by decide) dX0_lay_42 (fun _ => ?_)
    refine z_iinc C 3 3 (v := v3) (v1 := (v3 + (1 : Int32))) (ls1 := [(3, .int (v3 + (1 : Int32))), (0, .ref (B + v0)), (1, .ref (B + v1)), (2, .ref (B + v2))]) dX0_lay_43 rfl rfl (by decide) rfl ?_
    refine z_goto C 16 dX0_lay_46 rfl ?_
    exact z_jump (ls1 := [(0, .ref (B + v0)), (1, .ref (B + v1)), (2, .ref (B + v2)), (3, .int (v3 + (1 : Int32)))]) (Nat.le_of_ble_eq_true rfl) [1, 2, 3, 0] rfl (hk16 (v3 + (1 : Int32)) (wJ qj2.2 (v0 + 3) v3.toNatClampNeg qj2.1))
theorem z_fX0_lay_l16_i {p : Program} {l : Launch} {e : Env} {s : State} {m : MethodId} {args : Array Value} {below : List Frame} {meth : Method} {c : Code} {D : va_G} {cy : Nat → ClassId} {B : Nat} {kd : Nat → Nat} {n : Nat} {sa sv : Nat → Nat} (C : zC p l s m args meth c D cy B kd n sa sv RX0 cX0_lay 4) (ht : ∀ x ∈ c.exceptionTable.toList, False) (hr : meth.sig.returnType = none) {b0 : Mem} (N : Nat) (v0 : Nat) (v1 : Nat) (v2 : Nat) (h0 : kd v0 = 0) (h1 : kd v1 = 5) (h2 : kd v2 = 6)  (fu : Nat) : ∀ (v3 : Int32) (M : Mem), Z p l e (rmz 3 0) s m args below meth c (vx_MQ below (QcR D cy B kd n (cvV b0)) (XcR D cy B kd n (cvV b0)) args s 0 (6 * 0) (AA B kd n)) D cy B kd n 4 b0 0 16 [(0, .ref (B + v0)), (1, .ref (B + v1)), (2, .ref (B + v2)), (3, .int v3)] [] M (fX0_lay_l16 N v0 v1 v2 fu v3 M) := by
  induction fu with
  | zero => intro v3 M; exact z_none
  | succ fu ih => intro v3 M; exact z_fX0_lay_l16_s C ht hr N v0 v1 v2 (fX0_lay_l16 N v0 v1 v2 fu) v3 M h0 h1 h2 (fun v3 M => ih v3 M)
theorem z_fX0_lay_l16 {p : Program} {l : Launch} {e : Env} {s : State} {m : MethodId} {args : Array Value} {below : List Frame} {meth : Method} {c : Code} {D : va_G} {cy : Nat → ClassId} {B : Nat} {kd : Nat → Nat} {n : Nat} {sa sv : Nat → Nat} (C : zC p l s m args meth c D cy B kd n sa sv RX0 cX0_lay 4) (ht : ∀ x ∈ c.exceptionTable.toList, False) (hr : meth.sig.returnType = none) {b0 : Mem} (N : Nat) (v0 : Nat) (v1 : Nat) (v2 : Nat) (fu : Nat) (v3 : Int32) (M : Mem) (h0 : kd v0 = 0) (h1 : kd v1 = 5) (h2 : kd v2 = 6)  : Z p l e (rmz 3 0) s m args below meth c (vx_MQ below (QcR D cy B kd n (cvV b0)) (XcR D cy B kd n (cvV b0)) args s 0 (6 * 0) (AA B kd n)) D cy B kd n 4 b0 0 16 [(0, .ref (B + v0)), (1, .ref (B + v1)), (2, .ref (B + v2)), (3, .int v3)] [] M (fX0_lay_l16 N v0 v1 v2 fu v3 M) := z_fX0_lay_l16_i C ht hr N v0 v1 v2 h0 h1 h2 fu v3 M
set_option maxHeartbeats 4000000 in
set_option maxRecDepth 100000 in
theorem ctX0_lay {l : Launch} {D : va_G} {cy : Nat → ClassId} {B : Nat} {kd : Nat → Nat} {n : Nat} {sa sv : Nat → Nat} (G : zG l kd n) (N : Nat) (v0 : Nat) (v1 : Nat) (v2 : Nat) (h0 : kd v0 = 0) (h1 : kd v1 = 5) (h2 : kd v2 = 6) (M : Mem) : CT l D cy B kd n sa sv 3 0 yX0_lay cX0_lay 4 (none) cvV [.ref (B + v0), .ref (B + v1), .ref (B + v2)] M (fX0_lay N v0 v1 v2 M) := by
  refine ct_of (by decide) G.1 G.2 (Nat.le_of_ble_eq_true rfl) (ls := [(0, .ref (B + v0)), (1, .ref (B + v1)), (2, .ref (B + v2))]) rfl ?_
  intro p e s m args below meth c b0 C ht hr
  unfold fX0_lay
  refine z_aload_n C 0 0 dX0_lay_0 rfl rfl ?_
  refine z_aload_n C 2 2 dX0_lay_1 rfl rfl ?_
  refine z_getI (k := 1) C cl6 h2 rfl gw_1_52 rfl dX0_lay_2 ?_
  refine z_sipush (v := 256) C dX0_lay_5 rfl ?_
  refine z_min C cw_RX0_32 ⟨Nat.le_of_ble_eq_true rfl, Nat.le_of_ble_eq_true rfl, Nat.le_of_ble_eq_true rfl, Nat.le_of_ble_eq_true rfl⟩ (Nat.le_of_ble_eq_true rfl) dX0_lay_8 ?_
  refine z_putI (k := 5) C cl0 h0 rfl gw_2_107 rfl rfl rfl dX0_lay_11 ?_
  refine z_iconst C dX0_lay_14 rfl ?_
  refine z_istore_n C 3 (ls1 := [(3, .int (0 : Int32)), (0, .ref (B + v0)), (1, .ref (B + v1)), (2, .ref (B + v2))]) dX0_lay_15 rfl (by decide) rfl ?_
  exact z_jump (ls1 := [(0, .ref (B + v0)), (1, .ref (B + v1)), (2, .ref (B + v2)), (3, .int (0 : Int32))]) (Nat.le_of_ble_eq_true rfl) [1, 2, 3, 0] rfl (z_fX0_lay_l16 C ht hr N v0 v1 v2 N (0 : Int32) (wI M v0 5 (minI (rI M v2 1) (256 : Int32))) h0 h1 h2)
set_option maxHeartbeats 4000000 in
set_option maxRecDepth 100000 in
theorem z_fX0_hear_b107 {p : Program} {l : Launch} {e : Env} {s : State} {m : MethodId} {args : Array Value} {below : List Frame} {meth : Method} {c : Code} {D : va_G} {cy : Nat → ClassId} {B : Nat} {kd : Nat → Nat} {n : Nat} {sa sv : Nat → Nat} (C : zC p l s m args meth c D cy B kd n sa sv RX0 cX0_hear 8) (ht : ∀ x ∈ c.exceptionTable.toList, False) (hr : meth.sig.returnType = none) {b0 : Mem}  (N : Nat) (k27 : Int32 → Mem → Option Mem) (v0 : Nat) (v3 : Nat) (v4 : Int64) (v6 : Int32) (M : Mem) (h0 : kd v0 = 0) (h3 : kd v3 = 9) (hk27 : ∀ (v6 : Int32) (M : Mem), Z p l e (rmz 4 0) s m args below meth c (vx_MQ below (QcR D cy B kd n (cvV b0)) (XcR D cy B kd n (cvV b0)) args s 0 (6 * 0) (AA B kd n)) D cy B kd n 8 b0 0 27 [(0, .ref (B + v0)), (3, .ref (B + v3)), (4, .long v4), (6, .int v6)] [] M (k27 v6 M)) : Z p l e (rmz 4 0) s m args below meth c (vx_MQ below (QcR D cy B kd n (cvV b0)) (XcR D cy B kd n (cvV b0)) args s 0 (6 * 0) (AA B kd n)) D cy B kd n 8 b0 0 107 [(0, .ref (B + v0)), (3, .ref (B + v3)), (4, .long v4), (6, .int v6)] [] M (fX0_hear_b107 N k27 v0 v3 v4 v6 M) := by
  unfold fX0_hear_b107
  refine z_iinc C 6 3 (v := v6) (v1 := (v6 + (1 : Int32))) (ls1 := [(6, .int (v6 + (1 : Int32))), (0, .ref (B + v0)), (3, .ref (B + v3)), (4, .long v4)]) dX0_hear_107 rfl rfl (by decide) rfl ?_
  refine z_goto C 27 dX0_hear_110 rfl ?_
  exact z_jump (ls1 := [(0, .ref (B + v0)), (3, .ref (B + v3)), (4, .long v4), (6, .int (v6 + (1 : Int32)))]) (Nat.le_of_ble_eq_true rfl) [1, 2, 3, 0] rfl (hk27 (v6 + (1 : Int32)) M)
set_option maxHeartbeats 4000000 in
set_option maxRecDepth 100000 in
theorem z_fX0_hear_b103 {p : Program} {l : Launch} {e : Env} {s : State} {m : MethodId} {args : Array Value} {below : List Frame} {meth : Method} {c : Code} {D : va_G} {cy : Nat → ClassId} {B : Nat} {kd : Nat → Nat} {n : Nat} {sa sv : Nat → Nat} (C : zC p l s m args meth c D cy B kd n sa sv RX0 cX0_hear 8) (ht : ∀ x ∈ c.exceptionTable.toList, False) (hr : meth.sig.returnType = none) {b0 : Mem}  (N : Nat) (k27 : Int32 → Mem → Option Mem) (v0 : Nat) (v3 : Nat) (v4 : Int64) (v6 : Int32) (s0 : Int64) (s1 : Int64) (s2 : Nat) (M : Mem) (h0 : kd v0 = 0) (h3 : kd v3 = 9) (hs2 : kd s2 = 0) (hk27 : ∀ (v6 : Int32) (M : Mem), Z p l e (rmz 4 0) s m args below meth c (vx_MQ below (QcR D cy B kd n (cvV b0)) (XcR D cy B kd n (cvV b0)) args s 0 (6 * 0) (AA B kd n)) D cy B kd n 8 b0 0 27 [(0, .ref (B + v0)), (3, .ref (B + v3)), (4, .long v4), (6, .int v6)] [] M (k27 v6 M)) : Z p l e (rmz 4 0) s m args below meth c (vx_MQ below (QcR D cy B kd n (cvV b0)) (XcR D cy B kd n (cvV b0)) args s 0 (6 * 0) (AA B kd n)) D cy B kd n 8 b0 0 103 [(0, .ref (B + v0)), (3, .ref (B + v3)), (4, .long v4), (6, .int v6)] [.long s0, .long s1, .ref (B + s2)] M (fX0_hear_b103 N k27 v0 v3 v4 v6 s0 s1 s2 M) := by
  unfold fX0_hear_b103
  refine z_lor C dX0_hear_103 ?_
  refine z_putJ (k := 6) C cl0 hs2 rfl gw_2_108 rfl rfl rfl dX0_hear_104 ?_
  exact z_jump (ls1 := [(0, .ref (B + v0)), (3, .ref (B + v3)), (4, .long v4), (6, .int v6)]) (Nat.le_of_ble_eq_true rfl) [0, 1, 2, 3] rfl (z_fX0_hear_b107 C ht hr N k27 v0 v3 v4 v6 (wJ M s2 6 (s1 ||| s0)) h0 h3 hk27)
set_option maxHeartbeats 4000000 in
set_option maxRecDepth 100000 in
theorem z_fX0_hear_l27_s {p : Program} {l : Launch} {e : Env} {s : State} {m : MethodId} {args : Array Value} {below : List Frame} {meth : Method} {c : Code} {D : va_G} {cy : Nat → ClassId} {B : Nat} {kd : Nat → Nat} {n : Nat} {sa sv : Nat → Nat} (C : zC p l s m args meth c D cy B kd n sa sv RX0 cX0_hear 8) (ht : ∀ x ∈ c.exceptionTable.toList, False) (hr : meth.sig.returnType = none) {b0 : Mem} (N : Nat) (v0 : Nat) (v3 : Nat) (v4 : Int64) (k27 : Int32 → Mem → Option Mem) (v6 : Int32) (M : Mem) (h0 : kd v0 = 0) (h3 : kd v3 = 9)  (hk27 : ∀ (v6 : Int32) (M : Mem), Z p l e (rmz 4 0) s m args below meth c (vx_MQ below (QcR D cy B kd n (cvV b0)) (XcR D cy B kd n (cvV b0)) args s 0 (6 * 0) (AA B kd n)) D cy B kd n 8 b0 0 27 [(0, .ref (B + v0)), (3, .ref (B + v3)), (4, .long v4), (6, .int v6)] [] M (k27 v6 M)) : Z p l e (rmz 4 0) s m args below meth c (vx_MQ below (QcR D cy B kd n (cvV b0)) (XcR D cy B kd n (cvV b0)) args s 0 (6 * 0) (AA B kd n)) D cy B kd n 8 b0 0 27 [(0, .ref (B + v0)), (3, .ref (B + v3)), (4, .long v4), (6, .int v6)] [] M (fX0_hear_l27_s N v0 v3 v4 k27 v6 M) := by
  unfold fX0_hear_l27_s
  refine z_iload C 3 dX0_hear_27 rfl ?_
  refine z_aload_n C 3 1 dX0_hear_29 rfl rfl ?_
  refine z_getI (k := 1) C cl9 h3 rfl gw_1_211 rfl dX0_hear_30 ?_
  refine z_icmp_ge C 113 dX0_hear_33 rfl (fun _ => ?_) (fun _ => ?_)
  · exact z_vret C hr (Nat.le_of_ble_eq_true rfl) dX0_hear_113 rfl
  · refine z_aload_n C 3 1 dX0_hear_36 rfl rfl ?_
    refine z_iload C 3 dX0_hear_37 rfl ?_
    refine z_callV_pJ (As := [.int v6]) (rest := []) C rfl (ctX9_numberAt (zG_of C) v3 v6 h3 M) cw_RX0_71 rfl (okM_X9_numberAt) rfl cl9 h3 (okR_of rfl) (Nat.le_of_ble_eq_true rfl) dX0_hear_39 (fun qj1 _ => ?_)
    refine z_l2i C dX0_hear_42 ?_
    refine z_istore C 7 (ls1 := [(7, .int qj1.toInt32), (0, .ref (B + v0)), (3, .ref (B + v3)), (4, .long v4), (6, .int v6)]) dX0_hear_43 (by decide) rfl ?_
    refine z_iload C 0 dX0_hear_45 rfl ?_
    refine z_if_lt C 107 dX0_hear_47 rfl (fun _ => ?_) (fun _ => ?_)
    · exact z_jump (ls1 := [(0, .ref (B + v0)), (3, .ref (B + v3)), (4, .long v4), (6, .int v6)]) (Nat.le_of_ble_eq_true rfl) [1, 2, 3, 4] rfl (z_fX0_hear_b107 C ht hr N k27 v0 v3 v4 v6 M h0 h3 hk27)
    · refine z_iload C 0 dX0_hear_50 rfl ?_
      refine z_aload_n C 0 1 dX0_hear_52 rfl rfl ?_
      refine z_getI (k := 5) C cl0 h0 rfl gw_2_107 rfl dX0_hear_53 ?_
      refine z_icmp_ge C 107 dX0_hear_56 rfl (fun _ => ?_) (fun _ => ?_)
      · exact z_jump (ls1 := [(0, .ref (B + v0)), (3, .ref (B + v3)), (4, .long v4), (6, .int v6)]) (Nat.le_of_ble_eq_true rfl) [1, 2, 3, 4] rfl (z_fX0_hear_b107 C ht hr N k27 v0 v3 v4 v6 M h0 h3 hk27)
      · refine z_aload_n C 0 1 dX0_hear_59 rfl rfl ?_
        refine z_getR (k := 7) C cl0 h0 rfl gw_2_109 rfl dX0_hear_60 ?_
        have j2 : kd (v0 + 1) = 2 := zkd C h0 (k := 7) rfl
        refine z_iload C 0 dX0_hear_63 rfl ?_
        refine z_callV_V (As := [.int qj1.toInt32]) (rest := []) C rfl (ctX2_add (zG_of C) (v0 + 1) qj1.toInt32 j2 M) cw_RX0_75 rfl (okM_X2_add) rfl cl2 j2 (okR_of rfl) (Nat.le_of_ble_eq_true rfl) dX0_hear_65 (fun qj3 _ => ?_)
        refine z_aload_n C 0 1 dX0_hear_68 rfl rfl ?_
        refine z_dup C dX0_hear_69 rfl ?_
        refine z_getJ (k := 6) C cl0 h0 rfl gw_2_108 rfl dX0_hear_70 ?_
        refine z_aload_n C 0 1 dX0_hear_73 rfl rfl ?_
        refine z_getR (k := 8) C cl0 h0 rfl gw_2_110 rfl dX0_hear_74 ?_
        have j4 : kd (v0 + 3) = 35 := zkd C h0 (k := 8) rfl
        refine z_iload C 0 dX0_hear_77 rfl ?_
        refine z_lald C j4 rfl (by decide) dX0_hear_79 (fun j5 => ?_)
        refine z_lload C 3 dX0_hear_80 rfl ?_
        refine z_ldc2 C dX0_hear_82 gw_6_99 ?_
        refine z_lxor C dX0_hear_85 ?_
        refine z_land C dX0_hear_86 ?_
        refine z_lconst (v := 0) C dX0_hear_87 rfl ?_
        refine z_lcmp_ne C 102 dX0_hear_88 dX0_hear_89 rfl (fun _ => ?_) (fun _ => ?_)
        · refine z_aload_n C 0 1 dX0_hear_92 rfl rfl ?_
          refine z_getR (k := 8) C cl0 h0 rfl gw_2_110 rfl dX0_hear_93 ?_
          have j6 : kd (v0 + 3) = 35 := zkd C h0 (k := 8) rfl
          refine z_iload C 0 dX0_hear_96 rfl ?_
          refine z_lald C j6 rfl (by decide) dX0_hear_98 (fun j7 => ?_)
          refine z_goto C 103 dX0_hear_99 rfl ?_
          exact z_jump (ls1 := [(0, .ref (B + v0)), (3, .ref (B + v3)), (4, .long v4), (6, .int v6)]) (Nat.le_of_ble_eq_true rfl) [1, 2, 3, 4] rfl (z_fX0_hear_b103 C ht hr N k27 v0 v3 v4 v6 (rJ qj3 (v0 + 3) qj1.toInt32.toNatClampNeg) (rJ qj3 v0 6) v0 qj3 h0 h3 h0 hk27)
        · refine z_lconst (v := 0) C dX0_hear_102 rfl ?_
          exact z_jump (ls1 := [(0, .ref (B + v0)), (3, .ref (B + v3)), (4, .long v4), (6, .int v6)]) (Nat.le_of_ble_eq_true rfl) [1, 2, 3, 4] rfl (z_fX0_hear_b103 C ht hr N k27 v0 v3 v4 v6 (0 : Int64) (rJ qj3 v0 6) v0 qj3 h0 h3 h0 hk27)
theorem z_fX0_hear_l27_i {p : Program} {l : Launch} {e : Env} {s : State} {m : MethodId} {args : Array Value} {below : List Frame} {meth : Method} {c : Code} {D : va_G} {cy : Nat → ClassId} {B : Nat} {kd : Nat → Nat} {n : Nat} {sa sv : Nat → Nat} (C : zC p l s m args meth c D cy B kd n sa sv RX0 cX0_hear 8) (ht : ∀ x ∈ c.exceptionTable.toList, False) (hr : meth.sig.returnType = none) {b0 : Mem} (N : Nat) (v0 : Nat) (v3 : Nat) (v4 : Int64) (h0 : kd v0 = 0) (h3 : kd v3 = 9)  (fu : Nat) : ∀ (v6 : Int32) (M : Mem), Z p l e (rmz 4 0) s m args below meth c (vx_MQ below (QcR D cy B kd n (cvV b0)) (XcR D cy B kd n (cvV b0)) args s 0 (6 * 0) (AA B kd n)) D cy B kd n 8 b0 0 27 [(0, .ref (B + v0)), (3, .ref (B + v3)), (4, .long v4), (6, .int v6)] [] M (fX0_hear_l27 N v0 v3 v4 fu v6 M) := by
  induction fu with
  | zero => intro v6 M; exact z_none
  | succ fu ih => intro v6 M; exact z_fX0_hear_l27_s C ht hr N v0 v3 v4 (fX0_hear_l27 N v0 v3 v4 fu) v6 M h0 h3 (fun v6 M => ih v6 M)
theorem z_fX0_hear_l27 {p : Program} {l : Launch} {e : Env} {s : State} {m : MethodId} {args : Array Value} {below : List Frame} {meth : Method} {c : Code} {D : va_G} {cy : Nat → ClassId} {B : Nat} {kd : Nat → Nat} {n : Nat} {sa sv : Nat → Nat} (C : zC p l s m args meth c D cy B kd n sa sv RX0 cX0_hear 8) (ht : ∀ x ∈ c.exceptionTable.toList, False) (hr : meth.sig.returnType = none) {b0 : Mem} (N : Nat) (v0 : Nat) (v3 : Nat) (v4 : Int64) (fu : Nat) (v6 : Int32) (M : Mem) (h0 : kd v0 = 0) (h3 : kd v3 = 9)  : Z p l e (rmz 4 0) s m args below meth c (vx_MQ below (QcR D cy B kd n (cvV b0)) (XcR D cy B kd n (cvV b0)) args s 0 (6 * 0) (AA B kd n)) D cy B kd n 8 b0 0 27 [(0, .ref (B + v0)), (3, .ref (B + v3)), (4, .long v4), (6, .int v6)] [] M (fX0_hear_l27 N v0 v3 v4 fu v6 M) := z_fX0_hear_l27_i C ht hr N v0 v3 v4 h0 h3 fu v6 M
set_option maxHeartbeats 4000000 in
set_option maxRecDepth 100000 in
theorem ctX0_hear {l : Launch} {D : va_G} {cy : Nat → ClassId} {B : Nat} {kd : Nat → Nat} {n : Nat} {sa sv : Nat → Nat} (G : zG l kd n) (N : Nat) (v0 : Nat) (v1 : Nat) (v2 : Nat) (v3 : Nat) (h0 : kd v0 = 0) (h1 : kd v1 = 5) (h2 : kd v2 = 6) (h3 : kd v3 = 9) (M : Mem) : CT l D cy B kd n sa sv 4 0 yX0_hear cX0_hear 8 (none) cvV [.ref (B + v0), .ref (B + v1), .ref (B + v2), .ref (B + v3)] M (fX0_hear N v0 v1 v2 v3 M) := by
  refine ct_of (by decide) G.1 G.2 (Nat.le_of_ble_eq_true rfl) (ls := [(0, .ref (B + v0)), (1, .ref (B + v1)), (2, .ref (B + v2)), (3, .ref (B + v3))]) rfl ?_
  intro p e s m args below meth c b0 C ht hr
  unfold fX0_hear
  refine z_aload_n C 0 0 dX0_hear_0 rfl rfl ?_
  refine z_aload_n C 1 1 dX0_hear_1 rfl rfl ?_
  refine z_aload_n C 2 2 dX0_hear_2 rfl rfl ?_
  refine z_callV_V (As := [.ref (B + v1), .ref (B + v2)]) (rest := []) C rfl (ctX0_lay (zG_of C) N v0 v1 v2 h0 h1 h2 M) cw_RX0_51 rfl (okM_X0_lay) rfl cl0 h0 (okR_of rfl) (Nat.le_of_ble_eq_true rfl) dX0_hear_3 (fun qj1 _ => ?_)
  refine z_aload_n C 1 1 dX0_hear_6 rfl rfl ?_
  refine z_callV_pJ (As := []) (rest := []) C rfl (ctX5_bits (zG_of C) N v1 h1 qj1) cw_RX0_55 rfl (okM_X5_bits) rfl cl5 h1 (okR_of rfl) (Nat.le_of_ble_eq_true rfl) dX0_hear_7 (fun qj2 _ => ?_)
  refine z_lstore C 4 (ls1 := [(4, .long qj2), (0, .ref (B + v0)), (1, .ref (B + v1)), (2, .ref (B + v2)), (3, .ref (B + v3))]) dX0_hear_10 (by decide) rfl ?_
  refine z_aload_n C 0 1 dX0_hear_12 rfl rfl ?_
  refine z_lconst (v := 0) C dX0_hear_13 rfl ?_
  refine z_putJ (k := 6) C cl0 h0 rfl gw_2_108 rfl rfl rfl dX0_hear_14 ?_
  refine z_aload_n C 0 1 dX0_hear_17 rfl rfl ?_
  refine z_getR (k := 7) C cl0 h0 rfl gw_2_109 rfl dX0_hear_18 ?_
  have j3 : kd (v0 + 1) = 2 := zkd C h0 (k := 7) rfl
  refine z_callV_V (As := []) (rest := []) C rfl (ctX2_clear (zG_of C) N (v0 + 1) j3 (wJ qj1 v0 6 (0 : Int64))) cw_RX0_63 rfl (okM_X2_clear) rfl cl2 j3 (okR_of rfl) (Nat.le_of_ble_eq_true rfl) dX0_hear_21 (fun qj4 _ => ?_)
  refine z_iconst C dX0_hear_24 rfl ?_
  refine z_istore C 6 (ls1 := [(6, .int (0 : Int32)), (4, .long qj2), (0, .ref (B + v0)), (1, .ref (B + v1)), (2, .ref (B + v2)), (3, .ref (B + v3))]) dX0_hear_25 (by decide) rfl ?_
  exact z_jump (ls1 := [(0, .ref (B + v0)), (3, .ref (B + v3)), (4, .long qj2), (6, .int (0 : Int32))]) (Nat.le_of_ble_eq_true rfl) [2, 5, 1, 0] rfl (z_fX0_hear_l27 C ht hr N v0 v3 qj2 N (0 : Int32) qj4 h0 h3)
set_option maxHeartbeats 4000000 in
set_option maxRecDepth 100000 in
theorem ctX0_knownPlaces {l : Launch} {D : va_G} {cy : Nat → ClassId} {B : Nat} {kd : Nat → Nat} {n : Nat} {sa sv : Nat → Nat} (G : zG l kd n) (v0 : Nat) (h0 : kd v0 = 0) (Mo : Mem) : CT l D cy B kd n sa sv 1 0 yX0_knownPlaces cX0_knownPlaces 1 (some (FieldType.int)) (pI Mo) [.ref (B + v0)] Mo (fX0_knownPlaces v0 Mo) := by
  refine ct_of (by decide) G.1 G.2 (Nat.le_of_ble_eq_true rfl) (ls := [(0, .ref (B + v0))]) rfl ?_
  intro p e s m args below meth c b0 C ht hr
  unfold fX0_knownPlaces
  refine z_aload_n C 0 0 dX0_knownPlaces_0 rfl rfl ?_
  refine z_getJ (k := 6) C cl0 h0 rfl gw_2_108 rfl dX0_knownPlaces_1 ?_
  refine z_callS_pI (As := [.long (rJ Mo v0 6)]) (rest := []) C rfl (ctJ13_bitCount_95d88 (zG_of C) (rJ Mo v0 6) Mo) cw_RX0_81 (okM_J13_bitCount_95d88) rfl (okR_of rfl) (Nat.le_of_ble_eq_true rfl) dX0_knownPlaces_4 (fun qj1 _ => ?_)
  exact z_iret C hr (Nat.le_of_ble_eq_true rfl) dX0_knownPlaces_7 rfl
set_option maxHeartbeats 4000000 in
set_option maxRecDepth 100000 in
theorem z_fX0_knownNames_b50 {p : Program} {l : Launch} {e : Env} {s : State} {m : MethodId} {args : Array Value} {below : List Frame} {meth : Method} {c : Code} {D : va_G} {cy : Nat → ClassId} {B : Nat} {kd : Nat → Nat} {n : Nat} {sa sv : Nat → Nat} (C : zC p l s m args meth c D cy B kd n sa sv RX0 cX0_knownNames 4) (ht : ∀ x ∈ c.exceptionTable.toList, False) (hr : meth.sig.returnType = some (FieldType.int)) {b0 : Int32}  (N : Nat) (k4 : Int32 → Int32 → Option Int32) (v0 : Nat) (v1 : Bool) (v2 : Int32) (v3 : Int32) (Mo : Mem) (h0 : kd v0 = 0) (hk4 : ∀ (v2 : Int32) (v3 : Int32), Z p l e (rmz 1 0) s m args below meth c (vx_MQ below (QcR D cy B kd n ((pI Mo) b0)) (XcR D cy B kd n ((pI Mo) b0)) args s 0 (6 * 0) (AA B kd n)) D cy B kd n 4 b0 0 4 [(0, .ref (B + v0)), (1, .int (bI v1)), (2, .int v2), (3, .int v3)] [] Mo (k4 v2 v3)) : Z p l e (rmz 1 0) s m args below meth c (vx_MQ below (QcR D cy B kd n ((pI Mo) b0)) (XcR D cy B kd n ((pI Mo) b0)) args s 0 (6 * 0) (AA B kd n)) D cy B kd n 4 b0 0 50 [(0, .ref (B + v0)), (1, .int (bI v1)), (2, .int v2), (3, .int v3)] [] Mo (fX0_knownNames_b50 N k4 v0 v1 v2 v3 Mo) := by
  unfold fX0_knownNames_b50
  refine z_iinc C 3 3 (v := v3) (v1 := (v3 + (1 : Int32))) (ls1 := [(3, .int (v3 + (1 : Int32))), (0, .ref (B + v0)), (1, .int (bI v1)), (2, .int v2)]) dX0_knownNames_50 rfl rfl (by decide) rfl ?_
  refine z_goto C 4 dX0_knownNames_53 rfl ?_
  exact z_jump (ls1 := [(0, .ref (B + v0)), (1, .int (bI v1)), (2, .int v2), (3, .int (v3 + (1 : Int32)))]) (Nat.le_of_ble_eq_true rfl) [1, 2, 3, 0] rfl (hk4 v2 (v3 + (1 : Int32)))
set_option maxHeartbeats 4000000 in
set_option maxRecDepth 100000 in
theorem z_fX0_knownNames_b47 {p : Program} {l : Launch} {e : Env} {s : State} {m : MethodId} {args : Array Value} {below : List Frame} {meth : Method} {c : Code} {D : va_G} {cy : Nat → ClassId} {B : Nat} {kd : Nat → Nat} {n : Nat} {sa sv : Nat → Nat} (C : zC p l s m args meth c D cy B kd n sa sv RX0 cX0_knownNames 4) (ht : ∀ x ∈ c.exceptionTable.toList, False) (hr : meth.sig.returnType = some (FieldType.int)) {b0 : Int32}  (N : Nat) (k4 : Int32 → Int32 → Option Int32) (v0 : Nat) (v1 : Bool) (v2 : Int32) (v3 : Int32) (Mo : Mem) (h0 : kd v0 = 0) (hk4 : ∀ (v2 : Int32) (v3 : Int32), Z p l e (rmz 1 0) s m args below meth c (vx_MQ below (QcR D cy B kd n ((pI Mo) b0)) (XcR D cy B kd n ((pI Mo) b0)) args s 0 (6 * 0) (AA B kd n)) D cy B kd n 4 b0 0 4 [(0, .ref (B + v0)), (1, .int (bI v1)), (2, .int v2), (3, .int v3)] [] Mo (k4 v2 v3)) : Z p l e (rmz 1 0) s m args below meth c (vx_MQ below (QcR D cy B kd n ((pI Mo) b0)) (XcR D cy B kd n ((pI Mo) b0)) args s 0 (6 * 0) (AA B kd n)) D cy B kd n 4 b0 0 47 [(0, .ref (B + v0)), (1, .int (bI v1)), (2, .int v2), (3, .int v3)] [] Mo (fX0_knownNames_b47 N k4 v0 v1 v2 v3 Mo) := by
  unfold fX0_knownNames_b47
  refine z_iinc C 2 2 (v := v2) (v1 := (v2 + (1 : Int32))) (ls1 := [(2, .int (v2 + (1 : Int32))), (0, .ref (B + v0)), (1, .int (bI v1)), (3, .int v3)]) dX0_knownNames_47 rfl rfl (by decide) rfl ?_
  exact z_jump (ls1 := [(0, .ref (B + v0)), (1, .int (bI v1)), (2, .int (v2 + (1 : Int32))), (3, .int v3)]) (Nat.le_of_ble_eq_true rfl) [1, 2, 0, 3] rfl (z_fX0_knownNames_b50 C ht hr N k4 v0 v1 (v2 + (1 : Int32)) v3 Mo h0 hk4)
set_option maxHeartbeats 4000000 in
set_option maxRecDepth 100000 in
theorem z_fX0_knownNames_l4_s {p : Program} {l : Launch} {e : Env} {s : State} {m : MethodId} {args : Array Value} {below : List Frame} {meth : Method} {c : Code} {D : va_G} {cy : Nat → ClassId} {B : Nat} {kd : Nat → Nat} {n : Nat} {sa sv : Nat → Nat} (C : zC p l s m args meth c D cy B kd n sa sv RX0 cX0_knownNames 4) (ht : ∀ x ∈ c.exceptionTable.toList, False) (hr : meth.sig.returnType = some (FieldType.int)) {b0 : Int32} {Mo : Mem} (N : Nat) (v0 : Nat) (v1 : Bool) (k4 : Int32 → Int32 → Option Int32) (v2 : Int32) (v3 : Int32) (h0 : kd v0 = 0)  (hk4 : ∀ (v2 : Int32) (v3 : Int32), Z p l e (rmz 1 0) s m args below meth c (vx_MQ below (QcR D cy B kd n ((pI Mo) b0)) (XcR D cy B kd n ((pI Mo) b0)) args s 0 (6 * 0) (AA B kd n)) D cy B kd n 4 b0 0 4 [(0, .ref (B + v0)), (1, .int (bI v1)), (2, .int v2), (3, .int v3)] [] Mo (k4 v2 v3)) : Z p l e (rmz 1 0) s m args below meth c (vx_MQ below (QcR D cy B kd n ((pI Mo) b0)) (XcR D cy B kd n ((pI Mo) b0)) args s 0 (6 * 0) (AA B kd n)) D cy B kd n 4 b0 0 4 [(0, .ref (B + v0)), (1, .int (bI v1)), (2, .int v2), (3, .int v3)] [] Mo (fX0_knownNames_l4_s N v0 v1 Mo k4 v2 v3) := by
  unfold fX0_knownNames_l4_s
  refine z_iload_n C 3 3 dX0_knownNames_4 rfl rfl ?_
  refine z_aload_n C 0 0 dX0_knownNames_5 rfl rfl ?_
  refine z_getI (k := 5) C cl0 h0 rfl gw_2_107 rfl dX0_knownNames_6 ?_
  refine z_icmp_ge C 56 dX0_knownNames_9 rfl (fun _ => ?_) (fun _ => ?_)
  · refine z_iload_n C 2 2 dX0_knownNames_56 rfl rfl ?_
    exact z_iret C hr (Nat.le_of_ble_eq_true rfl) dX0_knownNames_57 rfl
  · refine z_aload_n C 0 0 dX0_knownNames_12 rfl rfl ?_
    refine z_getR (k := 8) C cl0 h0 rfl gw_2_110 rfl dX0_knownNames_13 ?_
    have j1 : kd (v0 + 3) = 35 := zkd C h0 (k := 8) rfl
    refine z_iload_n C 3 3 dX0_knownNames_16 rfl rfl ?_
    refine z_lald C j1 rfl (by decide) dX0_knownNames_17 (fun j2 => ?_)
    refine z_aload_n C 0 0 dX0_knownNames_18 rfl rfl ?_
    refine z_getJ (k := 6) C cl0 h0 rfl gw_2_108 rfl dX0_knownNames_19 ?_
    refine z_ldc2 C dX0_knownNames_22 gw_6_99 ?_
    refine z_lxor C dX0_knownNames_25 ?_
    refine z_land C dX0_knownNames_26 ?_
    refine z_lconst (v := 0) C dX0_knownNames_27 rfl ?_
    refine z_lcmp_ne C 50 dX0_knownNames_28 dX0_knownNames_29 rfl (fun _ => ?_) (fun _ => ?_)
    · refine z_iload_n C 1 1 dX0_knownNames_32 rfl rfl ?_
      refine z_if_eqB C 47 dX0_knownNames_33 rfl (fun _ => ?_) (fun _ => ?_)
      · refine z_aload_n C 0 0 dX0_knownNames_36 rfl rfl ?_
        refine z_getR (k := 7) C cl0 h0 rfl gw_2_109 rfl dX0_knownNames_37 ?_
        have j3 : kd (v0 + 1) = 2 := zkd C h0 (k := 7) rfl
        refine z_iload_n C 3 3 dX0_knownNames_40 rfl rfl ?_
        refine z_callV_pB (As := [.int v3]) (rest := []) C rfl (ctX2_has (zG_of C) (v0 + 1) v3 j3 Mo) cw_RX0_87 rfl (okM_X2_has) rfl cl2 j3 (okR_of rfl) (Nat.le_of_ble_eq_true rfl) dX0_knownNames_41 (fun qj4 _ => ?_)
        refine z_if_neB C 50 dX0_knownNames_44 rfl (fun _ => ?_) (fun _ => ?_)
        · exact z_jump (ls1 := [(0, .ref (B + v0)), (1, .int (bI v1)), (2, .int v2), (3, .int v3)]) (Nat.le_of_ble_eq_true rfl) [0, 1, 2, 3] rfl (z_fX0_knownNames_b50 C ht hr N k4 v0 v1 v2 v3 Mo h0 hk4)
        · exact z_jump (ls1 := [(0, .ref (B + v0)), (1, .int (bI v1)), (2, .int v2), (3, .int v3)]) (Nat.le_of_ble_eq_true rfl) [0, 1, 2, 3] rfl (z_fX0_knownNames_b47 C ht hr N k4 v0 v1 v2 v3 Mo h0 hk4)
      · exact z_jump (ls1 := [(0, .ref (B + v0)), (1, .int (bI v1)), (2, .int v2), (3, .int v3)]) (Nat.le_of_ble_eq_true rfl) [0, 1, 2, 3] rfl (z_fX0_knownNames_b47 C ht hr N k4 v0 v1 v2 v3 Mo h0 hk4)
    · exact z_jump (ls1 := [(0, .ref (B + v0)), (1, .int (bI v1)), (2, .int v2), (3, .int v3)]) (Nat.le_of_ble_eq_true rfl) [0, 1, 2, 3] rfl (z_fX0_knownNames_b50 C ht hr N k4 v0 v1 v2 v3 Mo h0 hk4)
theorem z_fX0_knownNames_l4_i {p : Program} {l : Launch} {e : Env} {s : State} {m : MethodId} {args : Array Value} {below : List Frame} {meth : Method} {c : Code} {D : va_G} {cy : Nat → ClassId} {B : Nat} {kd : Nat → Nat} {n : Nat} {sa sv : Nat → Nat} (C : zC p l s m args meth c D cy B kd n sa sv RX0 cX0_knownNames 4) (ht : ∀ x ∈ c.exceptionTable.toList, False) (hr : meth.sig.returnType = some (FieldType.int)) {b0 : Int32} {Mo : Mem} (N : Nat) (v0 : Nat) (v1 : Bool) (h0 : kd v0 = 0)  (fu : Nat) : ∀ (v2 : Int32) (v3 : Int32), Z p l e (rmz 1 0) s m args below meth c (vx_MQ below (QcR D cy B kd n ((pI Mo) b0)) (XcR D cy B kd n ((pI Mo) b0)) args s 0 (6 * 0) (AA B kd n)) D cy B kd n 4 b0 0 4 [(0, .ref (B + v0)), (1, .int (bI v1)), (2, .int v2), (3, .int v3)] [] Mo (fX0_knownNames_l4 N v0 v1 Mo fu v2 v3) := by
  induction fu with
  | zero => intro v2 v3; exact z_none
  | succ fu ih => intro v2 v3; exact z_fX0_knownNames_l4_s C ht hr N v0 v1 (fX0_knownNames_l4 N v0 v1 Mo fu) v2 v3 h0 (fun v2 v3 => ih v2 v3)
theorem z_fX0_knownNames_l4 {p : Program} {l : Launch} {e : Env} {s : State} {m : MethodId} {args : Array Value} {below : List Frame} {meth : Method} {c : Code} {D : va_G} {cy : Nat → ClassId} {B : Nat} {kd : Nat → Nat} {n : Nat} {sa sv : Nat → Nat} (C : zC p l s m args meth c D cy B kd n sa sv RX0 cX0_knownNames 4) (ht : ∀ x ∈ c.exceptionTable.toList, False) (hr : meth.sig.returnType = some (FieldType.int)) {b0 : Int32} {Mo : Mem} (N : Nat) (v0 : Nat) (v1 : Bool) (fu : Nat) (v2 : Int32) (v3 : Int32) (h0 : kd v0 = 0)  : Z p l e (rmz 1 0) s m args below meth c (vx_MQ below (QcR D cy B kd n ((pI Mo) b0)) (XcR D cy B kd n ((pI Mo) b0)) args s 0 (6 * 0) (AA B kd n)) D cy B kd n 4 b0 0 4 [(0, .ref (B + v0)), (1, .int (bI v1)), (2, .int v2), (3, .int v3)] [] Mo (fX0_knownNames_l4 N v0 v1 Mo fu v2 v3) := z_fX0_knownNames_l4_i C ht hr N v0 v1 h0 fu v2 v3
set_option maxHeartbeats 4000000 in
set_option maxRecDepth 100000 in
theorem ctX0_knownNames {l : Launch} {D : va_G} {cy : Nat → ClassId} {B : Nat} {kd : Nat → Nat} {n : Nat} {sa sv : Nat → Nat} (G : zG l kd n) (N : Nat) (v0 : Nat) (v1 : Bool) (h0 : kd v0 = 0) (Mo : Mem) : CT l D cy B kd n sa sv 1 0 yX0_knownNames cX0_knownNames 4 (some (FieldType.int)) (pI Mo) [.ref (B + v0), .int (bI v1)] Mo (fX0_knownNames N v0 v1 Mo) := by
  refine ct_of (by decide) G.1 G.2 (Nat.le_of_ble_eq_true rfl) (ls := [(0, .ref (B + v0)), (1, .int (bI v1))]) rfl ?_
  intro p e s m args below meth c b0 C ht hr
  unfold fX0_knownNames
  refine z_iconst C dX0_knownNames_0 rfl ?_
  refine z_istore_n C 2 (ls1 := [(2, .int (0 : Int32)), (0, .ref (B + v0)), (1, .int (bI v1))]) dX0_knownNames_1 rfl (by decide) rfl ?_
  refine z_iconst C dX0_knownNames_2 rfl ?_
  refine z_istore_n C 3 (ls1 := [(3, .int (0 : Int32)), (2, .int (0 : Int32)), (0, .ref (B + v0)), (1, .int (bI v1))]) dX0_knownNames_3 rfl (by decide) rfl ?_
  exact z_jump (ls1 := [(0, .ref (B + v0)), (1, .int (bI v1)), (2, .int (0 : Int32)), (3, .int (0 : Int32))]) (Nat.le_of_ble_eq_true rfl) [2, 3, 1, 0] rfl (z_fX0_knownNames_l4 C ht hr N v0 v1 N (0 : Int32) (0 : Int32) h0)
set_option maxHeartbeats 4000000 in
set_option maxRecDepth 100000 in
theorem z_fX0_bestQuestion_b56 {p : Program} {l : Launch} {e : Env} {s : State} {m : MethodId} {args : Array Value} {below : List Frame} {meth : Method} {c : Code} {D : va_G} {cy : Nat → ClassId} {B : Nat} {kd : Nat → Nat} {n : Nat} {sa sv : Nat → Nat} (C : zC p l s m args meth c D cy B kd n sa sv RX0 cX0_bestQuestion 5) (ht : ∀ x ∈ c.exceptionTable.toList, False) (hr : meth.sig.returnType = some (FieldType.int)) {b0 : Int32}  (N : Nat) (k6 : Int32 → Int32 → Int32 → Option Int32) (v0 : Nat) (v1 : Int32) (v2 : Int32) (v3 : Int32) (Mo : Mem) (h0 : kd v0 = 0) (hk6 : ∀ (v1 : Int32) (v2 : Int32) (v3 : Int32), Z p l e (rmz 1 0) s m args below meth c (vx_MQ below (QcR D cy B kd n ((pI Mo) b0)) (XcR D cy B kd n ((pI Mo) b0)) args s 0 (6 * 0) (AA B kd n)) D cy B kd n 5 b0 0 6 [(0, .ref (B + v0)), (1, .int v1), (2, .int v2), (3, .int v3)] [] Mo (k6 v1 v2 v3)) : Z p l e (rmz 1 0) s m args below meth c (vx_MQ below (QcR D cy B kd n ((pI Mo) b0)) (XcR D cy B kd n ((pI Mo) b0)) args s 0 (6 * 0) (AA B kd n)) D cy B kd n 5 b0 0 56 [(0, .ref (B + v0)), (1, .int v1), (2, .int v2), (3, .int v3)] [] Mo (fX0_bestQuestion_b56 N k6 v0 v1 v2 v3 Mo) := by
  unfold fX0_bestQuestion_b56
  refine z_iinc C 3 3 (v := v3) (v1 := (v3 + (1 : Int32))) (ls1 := [(3, .int (v3 + (1 : Int32))), (0, .ref (B + v0)), (1, .int v1), (2, .int v2)]) dX0_bestQuestion_56 rfl rfl (by decide) rfl ?_
  refine z_goto C 6 dX0_bestQuestion_59 rfl ?_
  exact z_jump (ls1 := [(0, .ref (B + v0)), (1, .int v1), (2, .int v2), (3, .int (v3 + (1 : Int32)))]) (Nat.le_of_ble_eq_true rfl) [1, 2, 3, 0] rfl (hk6 v1 v2 (v3 + (1 : Int32)))
set_option maxHeartbeats 4000000 in
set_option maxRecDepth 100000 in
theorem z_fX0_bestQuestion_l6_s {p : Program} {l : Launch} {e : Env} {s : State} {m : MethodId} {args : Array Value} {below : List Frame} {meth : Method} {c : Code} {D : va_G} {cy : Nat → ClassId} {B : Nat} {kd : Nat → Nat} {n : Nat} {sa sv : Nat → Nat} (C : zC p l s m args meth c D cy B kd n sa sv RX0 cX0_bestQuestion 5) (ht : ∀ x ∈ c.exceptionTable.toList, False) (hr : meth.sig.returnType = some (FieldType.int)) {b0 : Int32} {Mo : Mem} (N : Nat) (v0 : Nat) (k6 : Int32 → Int32 → Int32 → Option Int32) (v1 : Int32) (v2 : Int32) (v3 : Int32) (h0 : kd v0 = 0)  (hk6 : ∀ (v1 : Int32) (v2 : Int32) (v3 : Int32), Z p l e (rmz 1 0) s m args below meth c (vx_MQ below (QcR D cy B kd n ((pI Mo) b0)) (XcR D cy B kd n ((pI Mo) b0)) args s 0 (6 * 0) (AA B kd n)) D cy B kd n 5 b0 0 6 [(0, .ref (B + v0)), (1, .int v1), (2, .int v2), (3, .int v3)] [] Mo (k6 v1 v2 v3)) : Z p l e (rmz 1 0) s m args below meth c (vx_MQ below (QcR D cy B kd n ((pI Mo) b0)) (XcR D cy B kd n ((pI Mo) b0)) args s 0 (6 * 0) (AA B kd n)) D cy B kd n 5 b0 0 6 [(0, .ref (B + v0)), (1, .int v1), (2, .int v2), (3, .int v3)] [] Mo (fX0_bestQuestion_l6_s N v0 Mo k6 v1 v2 v3) := by
  unfold fX0_bestQuestion_l6_s
  refine z_iload_n C 3 3 dX0_bestQuestion_6 rfl rfl ?_
  refine z_aload_n C 0 0 dX0_bestQuestion_7 rfl rfl ?_
  refine z_getI (k := 5) C cl0 h0 rfl gw_2_107 rfl dX0_bestQuestion_8 ?_
  refine z_icmp_ge C 62 dX0_bestQuestion_11 rfl (fun _ => ?_) (fun _ => ?_)
  · refine z_iload_n C 1 1 dX0_bestQuestion_62 rfl rfl ?_
    exact z_iret C hr (Nat.le_of_ble_eq_true rfl) dX0_bestQuestion_63 rfl
  · refine z_aload_n C 0 0 dX0_bestQuestion_14 rfl rfl ?_
    refine z_getR (k := 8) C cl0 h0 rfl gw_2_110 rfl dX0_bestQuestion_15 ?_
    have j1 : kd (v0 + 3) = 35 := zkd C h0 (k := 8) rfl
    refine z_iload_n C 3 3 dX0_bestQuestion_18 rfl rfl ?_
    refine z_lald C j1 rfl (by decide) dX0_bestQuestion_19 (fun j2 => ?_)
    refine z_aload_n C 0 0 dX0_bestQuestion_20 rfl rfl ?_
    refine z_getJ (k := 6) C cl0 h0 rfl gw_2_108 rfl dX0_bestQuestion_21 ?_
    refine z_ldc2 C dX0_bestQuestion_24 gw_6_99 ?_
    refine z_lxor C dX0_bestQuestion_27 ?_
    refine z_land C dX0_bestQuestion_28 ?_
    refine z_callS_pI (As := [.long ((rJ Mo (v0 + 3) v3.toNatClampNeg) &&& ((rJ Mo v0 6) ^^^ (-1 : Int64)))]) (rest := []) C rfl (ctJ13_bitCount_95d88 (zG_of C) ((rJ Mo (v0 + 3) v3.toNatClampNeg) &&& ((rJ Mo v0 6) ^^^ (-1 : Int64))) Mo) cw_RX0_81 (okM_J13_bitCount_95d88) rfl (okR_of rfl) (Nat.le_of_ble_eq_true rfl) dX0_bestQuestion_29 (fun qj3 _ => ?_)
    refine z_istore C 4 (ls1 := [(4, .int qj3), (0, .ref (B + v0)), (1, .int v1), (2, .int v2), (3, .int v3)]) dX0_bestQuestion_32 (by decide) rfl ?_
    refine z_aload_n C 0 1 dX0_bestQuestion_34 rfl rfl ?_
    refine z_getR (k := 7) C cl0 h0 rfl gw_2_109 rfl dX0_bestQuestion_35 ?_
    have j4 : kd (v0 + 1) = 2 := zkd C h0 (k := 7) rfl
    refine z_iload_n C 3 4 dX0_bestQuestion_38 rfl rfl ?_
    refine z_callV_pB (As := [.int v3]) (rest := []) C rfl (ctX2_has (zG_of C) (v0 + 1) v3 j4 Mo) cw_RX0_87 rfl (okM_X2_has) rfl cl2 j4 (okR_of rfl) (Nat.le_of_ble_eq_true rfl) dX0_bestQuestion_39 (fun qj5 _ => ?_)
    refine z_if_neB C 56 dX0_bestQuestion_42 rfl (fun _ => ?_) (fun _ => ?_)
    · exact z_jump (ls1 := [(0, .ref (B + v0)), (1, .int v1), (2, .int v2), (3, .int v3)]) (Nat.le_of_ble_eq_true rfl) [1, 2, 3, 4] rfl (z_fX0_bestQuestion_b56 C ht hr N k6 v0 v1 v2 v3 Mo h0 hk6)
    · refine z_iload C 0 dX0_bestQuestion_45 rfl ?_
      refine z_iload_n C 2 3 dX0_bestQuestion_47 rfl rfl ?_
      refine z_icmp_le C 56 dX0_bestQuestion_48 rfl (fun _ => ?_) (fun _ => ?_)
      · exact z_jump (ls1 := [(0, .ref (B + v0)), (1, .int v1), (2, .int v2), (3, .int v3)]) (Nat.le_of_ble_eq_true rfl) [1, 2, 3, 4] rfl (z_fX0_bestQuestion_b56 C ht hr N k6 v0 v1 v2 v3 Mo h0 hk6)
      · refine z_iload_n C 3 4 dX0_bestQuestion_51 rfl rfl ?_
        refine z_istore_n C 1 (ls1 := [(1, .int v3), (4, .int qj3), (0, .ref (B + v0)), (2, .int v2), (3, .int v3)]) dX0_bestQuestion_52 rfl (by decide) rfl ?_
        refine z_iload C 1 dX0_bestQuestion_53 rfl ?_
        refine z_istore_n C 2 (ls1 := [(2, .int qj3), (1, .int v3), (4, .int qj3), (0, .ref (B + v0)), (3, .int v3)]) dX0_bestQuestion_55 rfl (by decide) rfl ?_
        exact z_jump (ls1 := [(0, .ref (B + v0)), (1, .int v3), (2, .int qj3), (3, .int v3)]) (Nat.le_of_ble_eq_true rfl) [3, 1, 0, 4] rfl (z_fX0_bestQuestion_b56 C ht hr N k6 v0 v3 qj3 v3 Mo h0 hk6)
theorem z_fX0_bestQuestion_l6_i {p : Program} {l : Launch} {e : Env} {s : State} {m : MethodId} {args : Array Value} {below : List Frame} {meth : Method} {c : Code} {D : va_G} {cy : Nat → ClassId} {B : Nat} {kd : Nat → Nat} {n : Nat} {sa sv : Nat → Nat} (C : zC p l s m args meth c D cy B kd n sa sv RX0 cX0_bestQuestion 5) (ht : ∀ x ∈ c.exceptionTable.toList, False) (hr : meth.sig.returnType = some (FieldType.int)) {b0 : Int32} {Mo : Mem} (N : Nat) (v0 : Nat) (h0 : kd v0 = 0)  (fu : Nat) : ∀ (v1 : Int32) (v2 : Int32) (v3 : Int32), Z p l e (rmz 1 0) s m args below meth c (vx_MQ below (QcR D cy B kd n ((pI Mo) b0)) (XcR D cy B kd n ((pI Mo) b0)) args s 0 (6 * 0) (AA B kd n)) D cy B kd n 5 b0 0 6 [(0, .ref (B + v0)), (1, .int v1), (2, .int v2), (3, .int v3)] [] Mo (fX0_bestQuestion_l6 N v0 Mo fu v1 v2 v3) := by
  induction fu with
  | zero => intro v1 v2 v3; exact z_none
  | succ fu ih => intro v1 v2 v3; exact z_fX0_bestQuestion_l6_s C ht hr N v0 (fX0_bestQuestion_l6 N v0 Mo fu) v1 v2 v3 h0 (fun v1 v2 v3 => ih v1 v2 v3)
theorem z_fX0_bestQuestion_l6 {p : Program} {l : Launch} {e : Env} {s : State} {m : MethodId} {args : Array Value} {below : List Frame} {meth : Method} {c : Code} {D : va_G} {cy : Nat → ClassId} {B : Nat} {kd : Nat → Nat} {n : Nat} {sa sv : Nat → Nat} (C : zC p l s m args meth c D cy B kd n sa sv RX0 cX0_bestQuestion 5) (ht : ∀ x ∈ c.exceptionTable.toList, False) (hr : meth.sig.returnType = some (FieldType.int)) {b0 : Int32} {Mo : Mem} (N : Nat) (v0 : Nat) (fu : Nat) (v1 : Int32) (v2 : Int32) (v3 : Int32) (h0 : kd v0 = 0)  : Z p l e (rmz 1 0) s m args below meth c (vx_MQ below (QcR D cy B kd n ((pI Mo) b0)) (XcR D cy B kd n ((pI Mo) b0)) args s 0 (6 * 0) (AA B kd n)) D cy B kd n 5 b0 0 6 [(0, .ref (B + v0)), (1, .int v1), (2, .int v2), (3, .int v3)] [] Mo (fX0_bestQuestion_l6 N v0 Mo fu v1 v2 v3) := z_fX0_bestQuestion_l6_i C ht hr N v0 h0 fu v1 v2 v3
set_option maxHeartbeats 4000000 in
set_option maxRecDepth 100000 in
theorem ctX0_bestQuestion {l : Launch} {D : va_G} {cy : Nat → ClassId} {B : Nat} {kd : Nat → Nat} {n : Nat} {sa sv : Nat → Nat} (G : zG l kd n) (N : Nat) (v0 : Nat) (h0 : kd v0 = 0) (Mo : Mem) : CT l D cy B kd n sa sv 1 0 yX0_bestQuestion cX0_bestQuestion 5 (some (FieldType.int)) (pI Mo) [.ref (B + v0)] Mo (fX0_bestQuestion N v0 Mo) := by
  refine ct_of (by decide) G.1 G.2 (Nat.le_of_ble_eq_true rfl) (ls := [(0, .ref (B + v0))]) rfl ?_
  intro p e s m args below meth c b0 C ht hr
  unfold fX0_bestQuestion
  refine z_iconst C dX0_bestQuestion_0 rfl ?_
  refine z_istore_n C 1 (ls1 := [(1, .int (-1 : Int32)), (0, .ref (B + v0))]) dX0_bestQuestion_1 rfl (by decide) rfl ?_
  refine z_iconst C dX0_bestQuestion_2 rfl ?_
  refine z_istore_n C 2 (ls1 := [(2, .int (-1 : Int32)), (1, .int (-1 : Int32)), (0, .ref (B + v0))]) dX0_bestQuestion_3 rfl (by decide) rfl ?_
  refine z_iconst C dX0_bestQuestion_4 rfl ?_
  refine z_istore_n C 3 (ls1 := [(3, .int (0 : Int32)), (2, .int (-1 : Int32)), (1, .int (-1 : Int32)), (0, .ref (B + v0))]) dX0_bestQuestion_5 rfl (by decide) rfl ?_
  exact z_jump (ls1 := [(0, .ref (B + v0)), (1, .int (-1 : Int32)), (2, .int (-1 : Int32)), (3, .int (0 : Int32))]) (Nat.le_of_ble_eq_true rfl) [3, 2, 1, 0] rfl (z_fX0_bestQuestion_l6 C ht hr N v0 N (-1 : Int32) (-1 : Int32) (0 : Int32) h0)
set_option maxHeartbeats 4000000 in
set_option maxRecDepth 100000 in
theorem z_fX0_liesWithin_b52 {p : Program} {l : Launch} {e : Env} {s : State} {m : MethodId} {args : Array Value} {below : List Frame} {meth : Method} {c : Code} {D : va_G} {cy : Nat → ClassId} {B : Nat} {kd : Nat → Nat} {n : Nat} {sa sv : Nat → Nat} (C : zC p l s m args meth c D cy B kd n sa sv RX0 cX0_liesWithin 7) (ht : ∀ x ∈ c.exceptionTable.toList, False) (hr : meth.sig.returnType = some (FieldType.int)) {b0 : Int32}  (N : Nat) (k6 : Int32 → Int32 → Option Int32) (v0 : Nat) (v1 : Nat) (v2 : Int64) (v4 : Int32) (v5 : Int32) (v6 : Int32) (Mo : Mem) (h0 : kd v0 = 0) (h1 : kd v1 = 2) (hk6 : ∀ (v5 : Int32) (v6 : Int32), Z p l e (rmz 1 0) s m args below meth c (vx_MQ below (QcR D cy B kd n ((pI Mo) b0)) (XcR D cy B kd n ((pI Mo) b0)) args s 0 (6 * 0) (AA B kd n)) D cy B kd n 7 b0 0 6 [(0, .ref (B + v0)), (1, .ref (B + v1)), (2, .long v2), (4, .int v4), (5, .int v5), (6, .int v6)] [] Mo (k6 v5 v6)) : Z p l e (rmz 1 0) s m args below meth c (vx_MQ below (QcR D cy B kd n ((pI Mo) b0)) (XcR D cy B kd n ((pI Mo) b0)) args s 0 (6 * 0) (AA B kd n)) D cy B kd n 7 b0 0 52 [(0, .ref (B + v0)), (1, .ref (B + v1)), (2, .long v2), (4, .int v4), (5, .int v5), (6, .int v6)] [] Mo (fX0_liesWithin_b52 N k6 v0 v1 v2 v4 v5 v6 Mo) := by
  unfold fX0_liesWithin_b52
  refine z_iinc C 6 5 (v := v6) (v1 := (v6 + (1 : Int32))) (ls1 := [(6, .int (v6 + (1 : Int32))), (0, .ref (B + v0)), (1, .ref (B + v1)), (2, .long v2), (4, .int v4), (5, .int v5)]) dX0_liesWithin_52 rfl rfl (by decide) rfl ?_
  refine z_goto C 6 dX0_liesWithin_55 rfl ?_
  exact z_jump (ls1 := [(0, .ref (B + v0)), (1, .ref (B + v1)), (2, .long v2), (4, .int v4), (5, .int v5), (6, .int (v6 + (1 : Int32)))]) (Nat.le_of_ble_eq_true rfl) [1, 2, 3, 4, 5, 0] rfl (hk6 v5 (v6 + (1 : Int32)))
set_option maxHeartbeats 4000000 in
set_option maxRecDepth 100000 in
theorem z_fX0_liesWithin_l6_s {p : Program} {l : Launch} {e : Env} {s : State} {m : MethodId} {args : Array Value} {below : List Frame} {meth : Method} {c : Code} {D : va_G} {cy : Nat → ClassId} {B : Nat} {kd : Nat → Nat} {n : Nat} {sa sv : Nat → Nat} (C : zC p l s m args meth c D cy B kd n sa sv RX0 cX0_liesWithin 7) (ht : ∀ x ∈ c.exceptionTable.toList, False) (hr : meth.sig.returnType = some (FieldType.int)) {b0 : Int32} {Mo : Mem} (N : Nat) (v0 : Nat) (v1 : Nat) (v2 : Int64) (v4 : Int32) (k6 : Int32 → Int32 → Option Int32) (v5 : Int32) (v6 : Int32) (h0 : kd v0 = 0) (h1 : kd v1 = 2)  (hk6 : ∀ (v5 : Int32) (v6 : Int32), Z p l e (rmz 1 0) s m args below meth c (vx_MQ below (QcR D cy B kd n ((pI Mo) b0)) (XcR D cy B kd n ((pI Mo) b0)) args s 0 (6 * 0) (AA B kd n)) D cy B kd n 7 b0 0 6 [(0, .ref (B + v0)), (1, .ref (B + v1)), (2, .long v2), (4, .int v4), (5, .int v5), (6, .int v6)] [] Mo (k6 v5 v6)) : Z p l e (rmz 1 0) s m args below meth c (vx_MQ below (QcR D cy B kd n ((pI Mo) b0)) (XcR D cy B kd n ((pI Mo) b0)) args s 0 (6 * 0) (AA B kd n)) D cy B kd n 7 b0 0 6 [(0, .ref (B + v0)), (1, .ref (B + v1)), (2, .long v2), (4, .int v4), (5, .int v5), (6, .int v6)] [] Mo (fX0_liesWithin_l6_s N v0 v1 v2 v4 Mo k6 v5 v6) := by
  unfold fX0_liesWithin_l6_s
  refine z_iload C 5 dX0_liesWithin_6 rfl ?_
  refine z_aload_n C 0 0 dX0_liesWithin_8 rfl rfl ?_
  refine z_getI (k := 5) C cl0 h0 rfl gw_2_107 rfl dX0_liesWithin_9 ?_
  refine z_icmp_ge C 58 dX0_liesWithin_12 rfl (fun _ => ?_) (fun _ => ?_)
  · refine z_iload C 4 dX0_liesWithin_58 rfl ?_
    exact z_iret C hr (Nat.le_of_ble_eq_true rfl) dX0_liesWithin_60 rfl
  · refine z_aload_n C 0 0 dX0_liesWithin_15 rfl rfl ?_
    refine z_getR (k := 8) C cl0 h0 rfl gw_2_110 rfl dX0_liesWithin_16 ?_
    have j1 : kd (v0 + 3) = 35 := zkd C h0 (k := 8) rfl
    refine z_iload C 5 dX0_liesWithin_19 rfl ?_
    refine z_lald C j1 rfl (by decide) dX0_liesWithin_21 (fun j2 => ?_)
    refine z_lload_n C 2 2 dX0_liesWithin_22 rfl rfl ?_
    refine z_ldc2 C dX0_liesWithin_23 gw_6_99 ?_
    refine z_lxor C dX0_liesWithin_26 ?_
    refine z_land C dX0_liesWithin_27 ?_
    refine z_lconst (v := 0) C dX0_liesWithin_28 rfl ?_
    refine z_lcmp_ne C 52 dX0_liesWithin_29 dX0_liesWithin_30 rfl (fun _ => ?_) (fun _ => ?_)
    · refine z_iload C 5 dX0_liesWithin_33 rfl ?_
      refine z_iload C 3 dX0_liesWithin_35 rfl ?_
      refine z_icmp_eq C 52 dX0_liesWithin_37 rfl (fun _ => ?_) (fun _ => ?_)
      · exact z_jump (ls1 := [(0, .ref (B + v0)), (1, .ref (B + v1)), (2, .long v2), (4, .int v4), (5, .int v5), (6, .int v6)]) (Nat.le_of_ble_eq_true rfl) [0, 1, 2, 3, 4, 5] rfl (z_fX0_liesWithin_b52 C ht hr N k6 v0 v1 v2 v4 v5 v6 Mo h0 h1 hk6)
      · refine z_aload_n C 1 1 dX0_liesWithin_40 rfl rfl ?_
        refine z_iload C 5 dX0_liesWithin_41 rfl ?_
        refine z_callV_pB (As := [.int v6]) (rest := []) C rfl (ctX2_has (zG_of C) v1 v6 h1 Mo) cw_RX0_87 rfl (okM_X2_has) rfl cl2 h1 (okR_of rfl) (Nat.le_of_ble_eq_true rfl) dX0_liesWithin_43 (fun qj3 _ => ?_)
        refine z_if_neB C 52 dX0_liesWithin_46 rfl (fun _ => ?_) (fun _ => ?_)
        · exact z_jump (ls1 := [(0, .ref (B + v0)), (1, .ref (B + v1)), (2, .long v2), (4, .int v4), (5, .int v5), (6, .int v6)]) (Nat.le_of_ble_eq_true rfl) [0, 1, 2, 3, 4, 5] rfl (z_fX0_liesWithin_b52 C ht hr N k6 v0 v1 v2 v4 v5 v6 Mo h0 h1 hk6)
        · refine z_iinc C 5 4 (v := v5) (v1 := (v5 + (1 : Int32))) (ls1 := [(5, .int (v5 + (1 : Int32))), (0, .ref (B + v0)), (1, .ref (B + v1)), (2, .long v2), (4, .int v4), (6, .int v6)]) dX0_liesWithin_49 rfl rfl (by decide) rfl ?_
          exact z_jump (ls1 := [(0, .ref (B + v0)), (1, .ref (B + v1)), (2, .long v2), (4, .int v4), (5, .int (v5 + (1 : Int32))), (6, .int v6)]) (Nat.le_of_ble_eq_true rfl) [1, 2, 3, 4, 0, 5] rfl (z_fX0_liesWithin_b52 C ht hr N k6 v0 v1 v2 v4 (v5 + (1 : Int32)) v6 Mo h0 h1 hk6)
    · exact z_jump (ls1 := [(0, .ref (B + v0)), (1, .ref (B + v1)), (2, .long v2), (4, .int v4), (5, .int v5), (6, .int v6)]) (Nat.le_of_ble_eq_true rfl) [0, 1, 2, 3, 4, 5] rfl (z_fX0_liesWithin_b52 C ht hr N k6 v0 v1 v2 v4 v5 v6 Mo h0 h1 hk6)
theorem z_fX0_liesWithin_l6_i {p : Program} {l : Launch} {e : Env} {s : State} {m : MethodId} {args : Array Value} {below : List Frame} {meth : Method} {c : Code} {D : va_G} {cy : Nat → ClassId} {B : Nat} {kd : Nat → Nat} {n : Nat} {sa sv : Nat → Nat} (C : zC p l s m args meth c D cy B kd n sa sv RX0 cX0_liesWithin 7) (ht : ∀ x ∈ c.exceptionTable.toList, False) (hr : meth.sig.returnType = some (FieldType.int)) {b0 : Int32} {Mo : Mem} (N : Nat) (v0 : Nat) (v1 : Nat) (v2 : Int64) (v4 : Int32) (h0 : kd v0 = 0) (h1 : kd v1 = 2)  (fu : Nat) : ∀ (v5 : Int32) (v6 : Int32), Z p l e (rmz 1 0) s m args below meth c (vx_MQ below (QcR D cy B kd n ((pI Mo) b0)) (XcR D cy B kd n ((pI Mo) b0)) args s 0 (6 * 0) (AA B kd n)) D cy B kd n 7 b0 0 6 [(0, .ref (B + v0)), (1, .ref (B + v1)), (2, .long v2), (4, .int v4), (5, .int v5), (6, .int v6)] [] Mo (fX0_liesWithin_l6 N v0 v1 v2 v4 Mo fu v5 v6) := by
  induction fu with
  | zero => intro v5 v6; exact z_none
  | succ fu ih => intro v5 v6; exact z_fX0_liesWithin_l6_s C ht hr N v0 v1 v2 v4 (fX0_liesWithin_l6 N v0 v1 v2 v4 Mo fu) v5 v6 h0 h1 (fun v5 v6 => ih v5 v6)
theorem z_fX0_liesWithin_l6 {p : Program} {l : Launch} {e : Env} {s : State} {m : MethodId} {args : Array Value} {below : List Frame} {meth : Method} {c : Code} {D : va_G} {cy : Nat → ClassId} {B : Nat} {kd : Nat → Nat} {n : Nat} {sa sv : Nat → Nat} (C : zC p l s m args meth c D cy B kd n sa sv RX0 cX0_liesWithin 7) (ht : ∀ x ∈ c.exceptionTable.toList, False) (hr : meth.sig.returnType = some (FieldType.int)) {b0 : Int32} {Mo : Mem} (N : Nat) (v0 : Nat) (v1 : Nat) (v2 : Int64) (v4 : Int32) (fu : Nat) (v5 : Int32) (v6 : Int32) (h0 : kd v0 = 0) (h1 : kd v1 = 2)  : Z p l e (rmz 1 0) s m args below meth c (vx_MQ below (QcR D cy B kd n ((pI Mo) b0)) (XcR D cy B kd n ((pI Mo) b0)) args s 0 (6 * 0) (AA B kd n)) D cy B kd n 7 b0 0 6 [(0, .ref (B + v0)), (1, .ref (B + v1)), (2, .long v2), (4, .int v4), (5, .int v5), (6, .int v6)] [] Mo (fX0_liesWithin_l6 N v0 v1 v2 v4 Mo fu v5 v6) := z_fX0_liesWithin_l6_i C ht hr N v0 v1 v2 v4 h0 h1 fu v5 v6
set_option maxHeartbeats 4000000 in
set_option maxRecDepth 100000 in
theorem ctX0_liesWithin {l : Launch} {D : va_G} {cy : Nat → ClassId} {B : Nat} {kd : Nat → Nat} {n : Nat} {sa sv : Nat → Nat} (G : zG l kd n) (N : Nat) (v0 : Nat) (v1 : Nat) (v2 : Int64) (v4 : Int32) (h0 : kd v0 = 0) (h1 : kd v1 = 2) (Mo : Mem) : CT l D cy B kd n sa sv 1 0 yX0_liesWithin cX0_liesWithin 7 (some (FieldType.int)) (pI Mo) [.ref (B + v0), .ref (B + v1), .long v2, .int v4] Mo (fX0_liesWithin N v0 v1 v2 v4 Mo) := by
  refine ct_of (by decide) G.1 G.2 (Nat.le_of_ble_eq_true rfl) (ls := [(0, .ref (B + v0)), (1, .ref (B + v1)), (2, .long v2), (4, .int v4)]) rfl ?_
  intro p e s m args below meth c b0 C ht hr
  unfold fX0_liesWithin
  refine z_iconst C dX0_liesWithin_0 rfl ?_
  refine z_istore C 5 (ls1 := [(5, .int (0 : Int32)), (0, .ref (B + v0)), (1, .ref (B + v1)), (2, .long v2), (4, .int v4)]) dX0_liesWithin_1 (by decide) rfl ?_
  refine z_iconst C dX0_liesWithin_3 rfl ?_
  refine z_istore C 6 (ls1 := [(6, .int (0 : Int32)), (5, .int (0 : Int32)), (0, .ref (B + v0)), (1, .ref (B + v1)), (2, .long v2), (4, .int v4)]) dX0_liesWithin_4 (by decide) rfl ?_
  exact z_jump (ls1 := [(0, .ref (B + v0)), (1, .ref (B + v1)), (2, .long v2), (4, .int v4), (5, .int (0 : Int32)), (6, .int (0 : Int32))]) (Nat.le_of_ble_eq_true rfl) [2, 3, 4, 5, 1, 0] rfl (z_fX0_liesWithin_l6 C ht hr N v0 v1 v2 v4 N (0 : Int32) (0 : Int32) h0 h1)
set_option maxHeartbeats 4000000 in
set_option maxRecDepth 100000 in
theorem z_fX0_findWorst_b87 {p : Program} {l : Launch} {e : Env} {s : State} {m : MethodId} {args : Array Value} {below : List Frame} {meth : Method} {c : Code} {D : va_G} {cy : Nat → ClassId} {B : Nat} {kd : Nat → Nat} {n : Nat} {sa sv : Nat → Nat} (C : zC p l s m args meth c D cy B kd n sa sv RX0 cX0_findWorst 7) (ht : ∀ x ∈ c.exceptionTable.toList, False) (hr : meth.sig.returnType = some (FieldType.boolean)) {b0 : Bool × Mem}  (N : Nat) (k24 : Int32 → Mem → Option (Bool × Mem)) (v0 : Nat) (v1 : Nat) (v3 : Int64) (v5 : Int32) (M : Mem) (h0 : kd v0 = 0) (h1 : kd v1 = 5) (hk24 : ∀ (v5 : Int32) (M : Mem), Z p l e (rmz 4 0) s m args below meth c (vx_MQ below (QcR D cy B kd n (cvB b0)) (XcR D cy B kd n (cvB b0)) args s 0 (6 * 0) (AA B kd n)) D cy B kd n 7 b0 0 24 [(0, .ref (B + v0)), (1, .ref (B + v1)), (3, .long v3), (5, .int v5)] [] M (k24 v5 M)) : Z p l e (rmz 4 0) s m args below meth c (vx_MQ below (QcR D cy B kd n (cvB b0)) (XcR D cy B kd n (cvB b0)) args s 0 (6 * 0) (AA B kd n)) D cy B kd n 7 b0 0 87 [(0, .ref (B + v0)), (1, .ref (B + v1)), (3, .long v3), (5, .int v5)] [] M (fX0_findWorst_b87 N k24 v0 v1 v3 v5 M) := by
  unfold fX0_findWorst_b87
  refine z_iinc C 5 3 (v := v5) (v1 := (v5 + (1 : Int32))) (ls1 := [(5, .int (v5 + (1 : Int32))), (0, .ref (B + v0)), (1, .ref (B + v1)), (3, .long v3)]) dX0_findWorst_87 rfl rfl (by decide) rfl ?_
  refine z_goto C 24 dX0_findWorst_90 rfl ?_
  exact z_jump (ls1 := [(0, .ref (B + v0)), (1, .ref (B + v1)), (3, .long v3), (5, .int (v5 + (1 : Int32)))]) (Nat.le_of_ble_eq_true rfl) [1, 2, 3, 0] rfl (hk24 (v5 + (1 : Int32)) M)
set_option maxHeartbeats 4000000 in
set_option maxRecDepth 100000 in
theorem z_fX0_findWorst_l24_s {p : Program} {l : Launch} {e : Env} {s : State} {m : MethodId} {args : Array Value} {below : List Frame} {meth : Method} {c : Code} {D : va_G} {cy : Nat → ClassId} {B : Nat} {kd : Nat → Nat} {n : Nat} {sa sv : Nat → Nat} (C : zC p l s m args meth c D cy B kd n sa sv RX0 cX0_findWorst 7) (ht : ∀ x ∈ c.exceptionTable.toList, False) (hr : meth.sig.returnType = some (FieldType.boolean)) {b0 : Bool × Mem} (N : Nat) (v0 : Nat) (v1 : Nat) (v3 : Int64) (k24 : Int32 → Mem → Option (Bool × Mem)) (v5 : Int32) (M : Mem) (h0 : kd v0 = 0) (h1 : kd v1 = 5)  (hk24 : ∀ (v5 : Int32) (M : Mem), Z p l e (rmz 4 0) s m args below meth c (vx_MQ below (QcR D cy B kd n (cvB b0)) (XcR D cy B kd n (cvB b0)) args s 0 (6 * 0) (AA B kd n)) D cy B kd n 7 b0 0 24 [(0, .ref (B + v0)), (1, .ref (B + v1)), (3, .long v3), (5, .int v5)] [] M (k24 v5 M)) : Z p l e (rmz 4 0) s m args below meth c (vx_MQ below (QcR D cy B kd n (cvB b0)) (XcR D cy B kd n (cvB b0)) args s 0 (6 * 0) (AA B kd n)) D cy B kd n 7 b0 0 24 [(0, .ref (B + v0)), (1, .ref (B + v1)), (3, .long v3), (5, .int v5)] [] M (fX0_findWorst_l24_s N v0 v1 v3 k24 v5 M) := by
  unfold fX0_findWorst_l24_s
  refine z_iload C 3 dX0_findWorst_24 rfl ?_
  refine z_aload_n C 0 0 dX0_findWorst_26 rfl rfl ?_
  refine z_getI (k := 5) C cl0 h0 rfl gw_2_107 rfl dX0_findWorst_27 ?_
  refine z_icmp_ge C 93 dX0_findWorst_30 rfl (fun _ => ?_) (fun _ => ?_)
  · refine z_aload_n C 0 0 dX0_findWorst_93 rfl rfl ?_
    refine z_getI (k := 0) C cl0 h0 rfl gw_2_98 rfl dX0_findWorst_94 ?_
    refine z_iconst C dX0_findWorst_97 rfl ?_
    refine z_icmp_eq C 105 dX0_findWorst_98 rfl (fun _ => ?_) (fun _ => ?_)
    · refine z_iconst C dX0_findWorst_105 rfl ?_
      exact z_zret C (v := false) hr (Nat.le_of_ble_eq_true rfl) dX0_findWorst_106 rfl
    · refine z_iconst C dX0_findWorst_101 rfl ?_
      refine z_goto C 106 dX0_findWorst_102 rfl ?_
      exact z_zret C (v := true) hr (Nat.le_of_ble_eq_true rfl) dX0_findWorst_106 rfl
  · refine z_aload_n C 1 1 dX0_findWorst_33 rfl rfl ?_
    refine z_getR (k := 8) C cl5 h1 rfl gw_1_150 rfl dX0_findWorst_34 ?_
    have j1 : kd (v1 + 1) = 2 := zkd C h1 (k := 8) rfl
    refine z_iload C 3 dX0_findWorst_37 rfl ?_
    refine z_callV_pB (As := [.int v5]) (rest := []) C rfl (ctX2_has (zG_of C) (v1 + 1) v5 j1 M) cw_RX0_87 rfl (okM_X2_has) rfl cl2 j1 (okR_of rfl) (Nat.le_of_ble_eq_true rfl) dX0_findWorst_39 (fun qj2 _ => ?_)
    refine z_if_neB C 87 dX0_findWorst_42 rfl (fun _ => ?_) (fun _ => ?_)
    · exact z_jump (ls1 := [(0, .ref (B + v0)), (1, .ref (B + v1)), (3, .long v3), (5, .int v5)]) (Nat.le_of_ble_eq_true rfl) [0, 1, 2, 3] rfl (z_fX0_findWorst_b87 C ht hr N k24 v0 v1 v3 v5 M h0 h1 hk24)
    · refine z_aload_n C 0 0 dX0_findWorst_45 rfl rfl ?_
      refine z_aload_n C 1 1 dX0_findWorst_46 rfl rfl ?_
      refine z_getR (k := 8) C cl5 h1 rfl gw_1_150 rfl dX0_findWorst_47 ?_
      have j3 : kd (v1 + 1) = 2 := zkd C h1 (k := 8) rfl
      refine z_lload_n C 3 2 dX0_findWorst_50 rfl rfl ?_
      refine z_aload_n C 0 0 dX0_findWorst_51 rfl rfl ?_
      refine z_getR (k := 8) C cl0 h0 rfl gw_2_110 rfl dX0_findWorst_52 ?_
      have j4 : kd (v0 + 3) = 35 := zkd C h0 (k := 8) rfl
      refine z_iload C 3 dX0_findWorst_55 rfl ?_
      refine z_lald C j4 rfl (by decide) dX0_findWorst_57 (fun j5 => ?_)
      refine z_lor C dX0_findWorst_58 ?_
      refine z_iload C 3 dX0_findWorst_59 rfl ?_
      refine z_callV_pI (As := [.ref (B + (v1 + 1)), .long (v3 ||| (rJ M (v0 + 3) v5.toNatClampNeg)), .int v5]) (rest := []) C rfl (ctX0_liesWithin (zG_of C) N v0 (v1 + 1) (v3 ||| (rJ M (v0 + 3) v5.toNatClampNeg)) v5 h0 j3 M) cw_RX0_100 rfl (okM_X0_liesWithin) rfl cl0 h0 (okR_of rfl) (Nat.le_of_ble_eq_true rfl) dX0_findWorst_61 (fun qj6 _ => ?_)
      refine z_istore C 6 (ls1 := [(6, .int qj6), (0, .ref (B + v0)), (1, .ref (B + v1)), (3, .long v3), (5, .int v5)]) dX0_findWorst_64 (by decide) rfl ?_
      refine z_iload C 0 dX0_findWorst_66 rfl ?_
      refine z_aload_n C 0 1 dX0_findWorst_68 rfl rfl ?_
      refine z_getI (k := 1) C cl0 h0 rfl gw_2_100 rfl dX0_findWorst_69 ?_
      refine z_icmp_le C 87 dX0_findWorst_72 rfl (fun _ => ?_) (fun _ => ?_)
      · exact z_jump (ls1 := [(0, .ref (B + v0)), (1, .ref (B + v1)), (3, .long v3), (5, .int v5)]) (Nat.le_of_ble_eq_true rfl) [1, 2, 3, 4] rfl (z_fX0_findWorst_b87 C ht hr N k24 v0 v1 v3 v5 M h0 h1 hk24)
      · refine z_aload_n C 0 1 dX0_findWorst_75 rfl rfl ?_
        refine z_iload C 0 dX0_findWorst_76 rfl ?_
        refine z_putI (k := 1) C cl0 h0 rfl gw_2_100 rfl rfl rfl dX0_findWorst_78 ?_
        refine z_aload_n C 0 1 dX0_findWorst_81 rfl rfl ?_
        refine z_iload C 4 dX0_findWorst_82 rfl ?_
        refine z_putI (k := 0) C cl0 h0 rfl gw_2_98 rfl rfl rfl dX0_findWorst_84 ?_
        exact z_jump (ls1 := [(0, .ref (B + v0)), (1, .ref (B + v1)), (3, .long v3), (5, .int v5)]) (Nat.le_of_ble_eq_true rfl) [1, 2, 3, 4] rfl (z_fX0_findWorst_b87 C ht hr N k24 v0 v1 v3 v5 (wI (wI M v0 1 qj6) v0 0 v5) h0 h1 hk24)
theorem z_fX0_findWorst_l24_i {p : Program} {l : Launch} {e : Env} {s : State} {m : MethodId} {args : Array Value} {below : List Frame} {meth : Method} {c : Code} {D : va_G} {cy : Nat → ClassId} {B : Nat} {kd : Nat → Nat} {n : Nat} {sa sv : Nat → Nat} (C : zC p l s m args meth c D cy B kd n sa sv RX0 cX0_findWorst 7) (ht : ∀ x ∈ c.exceptionTable.toList, False) (hr : meth.sig.returnType = some (FieldType.boolean)) {b0 : Bool × Mem} (N : Nat) (v0 : Nat) (v1 : Nat) (v3 : Int64) (h0 : kd v0 = 0) (h1 : kd v1 = 5)  (fu : Nat) : ∀ (v5 : Int32) (M : Mem), Z p l e (rmz 4 0) s m args below meth c (vx_MQ below (QcR D cy B kd n (cvB b0)) (XcR D cy B kd n (cvB b0)) args s 0 (6 * 0) (AA B kd n)) D cy B kd n 7 b0 0 24 [(0, .ref (B + v0)), (1, .ref (B + v1)), (3, .long v3), (5, .int v5)] [] M (fX0_findWorst_l24 N v0 v1 v3 fu v5 M) := by
  induction fu with
  | zero => intro v5 M; exact z_none
  | succ fu ih => intro v5 M; exact z_fX0_findWorst_l24_s C ht hr N v0 v1 v3 (fX0_findWorst_l24 N v0 v1 v3 fu) v5 M h0 h1 (fun v5 M => ih v5 M)
theorem z_fX0_findWorst_l24 {p : Program} {l : Launch} {e : Env} {s : State} {m : MethodId} {args : Array Value} {below : List Frame} {meth : Method} {c : Code} {D : va_G} {cy : Nat → ClassId} {B : Nat} {kd : Nat → Nat} {n : Nat} {sa sv : Nat → Nat} (C : zC p l s m args meth c D cy B kd n sa sv RX0 cX0_findWorst 7) (ht : ∀ x ∈ c.exceptionTable.toList, False) (hr : meth.sig.returnType = some (FieldType.boolean)) {b0 : Bool × Mem} (N : Nat) (v0 : Nat) (v1 : Nat) (v3 : Int64) (fu : Nat) (v5 : Int32) (M : Mem) (h0 : kd v0 = 0) (h1 : kd v1 = 5)  : Z p l e (rmz 4 0) s m args below meth c (vx_MQ below (QcR D cy B kd n (cvB b0)) (XcR D cy B kd n (cvB b0)) args s 0 (6 * 0) (AA B kd n)) D cy B kd n 7 b0 0 24 [(0, .ref (B + v0)), (1, .ref (B + v1)), (3, .long v3), (5, .int v5)] [] M (fX0_findWorst_l24 N v0 v1 v3 fu v5 M) := z_fX0_findWorst_l24_i C ht hr N v0 v1 v3 h0 h1 fu v5 M
set_option maxHeartbeats 4000000 in
set_option maxRecDepth 100000 in
theorem ctX0_findWorst {l : Launch} {D : va_G} {cy : Nat → ClassId} {B : Nat} {kd : Nat → Nat} {n : Nat} {sa sv : Nat → Nat} (G : zG l kd n) (N : Nat) (v0 : Nat) (v1 : Nat) (v2 : Nat) (h0 : kd v0 = 0) (h1 : kd v1 = 5) (h2 : kd v2 = 6) (M : Mem) : CT l D cy B kd n sa sv 4 0 yX0_findWorst cX0_findWorst 7 (some (FieldType.boolean)) cvB [.ref (B + v0), .ref (B + v1), .ref (B + v2)] M (fX0_findWorst N v0 v1 v2 M) := by
  refine ct_of (by decide) G.1 G.2 (Nat.le_of_ble_eq_true rfl) (ls := [(0, .ref (B + v0)), (1, .ref (B + v1)), (2, .ref (B + v2))]) rfl ?_
  intro p e s m args below meth c b0 C ht hr
  unfold fX0_findWorst
  refine z_aload_n C 0 0 dX0_findWorst_0 rfl rfl ?_
  refine z_aload_n C 1 1 dX0_findWorst_1 rfl rfl ?_
  refine z_aload_n C 2 2 dX0_findWorst_2 rfl rfl ?_
  refine z_callV_V (As := [.ref (B + v1), .ref (B + v2)]) (rest := []) C rfl (ctX0_lay (zG_of C) N v0 v1 v2 h0 h1 h2 M) cw_RX0_51 rfl (okM_X0_lay) rfl cl0 h0 (okR_of rfl) (Nat.le_of_ble_eq_true rfl) dX0_findWorst_3 (fun qj1 _ => ?_)
  refine z_aload_n C 1 1 dX0_findWorst_6 rfl rfl ?_
  refine z_callV_pJ (As := []) (rest := []) C rfl (ctX5_bits (zG_of C) N v1 h1 qj1) cw_RX0_55 rfl (okM_X5_bits) rfl cl5 h1 (okR_of rfl) (Nat.le_of_ble_eq_true rfl) dX0_findWorst_7 (fun qj2 _ => ?_)
  refine z_lstore_n C 3 (ls1 := [(3, .long qj2), (0, .ref (B + v0)), (1, .ref (B + v1)), (2, .ref (B + v2))]) dX0_findWorst_10 rfl (by decide) rfl ?_
  refine z_aload_n C 0 1 dX0_findWorst_11 rfl rfl ?_
  refine z_iconst C dX0_findWorst_12 rfl ?_
  refine z_putI (k := 0) C cl0 h0 rfl gw_2_98 rfl rfl rfl dX0_findWorst_13 ?_
  refine z_aload_n C 0 1 dX0_findWorst_16 rfl rfl ?_
  refine z_iconst C dX0_findWorst_17 rfl ?_
  refine z_putI (k := 1) C cl0 h0 rfl gw_2_100 rfl rfl rfl dX0_findWorst_18 ?_
  refine z_iconst C dX0_findWorst_21 rfl ?_
  refine z_istore C 5 (ls1 := [(5, .int (0 : Int32)), (3, .long qj2), (0, .ref (B + v0)), (1, .ref (B + v1)), (2, .ref (B + v2))]) dX0_findWorst_22 (by decide) rfl ?_
  exact z_jump (ls1 := [(0, .ref (B + v0)), (1, .ref (B + v1)), (3, .long qj2), (5, .int (0 : Int32))]) (Nat.le_of_ble_eq_true rfl) [2, 3, 1, 0] rfl (z_fX0_findWorst_l24 C ht hr N v0 v1 qj2 N (0 : Int32) (wI (wI qj1 v0 0 (-1 : Int32)) v0 1 (-1 : Int32)) h0 h1)
set_option maxHeartbeats 4000000 in
set_option maxRecDepth 100000 in
theorem z_fX0_partOf_b45 {p : Program} {l : Launch} {e : Env} {s : State} {m : MethodId} {args : Array Value} {below : List Frame} {meth : Method} {c : Code} {D : va_G} {cy : Nat → ClassId} {B : Nat} {kd : Nat → Nat} {n : Nat} {sa sv : Nat → Nat} (C : zC p l s m args meth c D cy B kd n sa sv RX0 cX0_partOf 7) (ht : ∀ x ∈ c.exceptionTable.toList, False) (hr : meth.sig.returnType = some (FieldType.int)) {b0 : Int32}  (N : Nat) (k9 : Int32 → Int32 → Int32 → Option Int32) (v0 : Int64) (v2 : Int64) (v4 : Int32) (v5 : Int32) (v6 : Int32) (Mo : Mem) (hk9 : ∀ (v4 : Int32) (v5 : Int32) (v6 : Int32), Z p l e (rmz 0 0) s m args below meth c (vx_MQ below (QcR D cy B kd n ((pI Mo) b0)) (XcR D cy B kd n ((pI Mo) b0)) args s 0 (6 * 0) (AA B kd n)) D cy B kd n 7 b0 0 9 [(0, .long v0), (2, .long v2), (4, .int v4), (5, .int v5), (6, .int v6)] [] Mo (k9 v4 v5 v6)) : Z p l e (rmz 0 0) s m args below meth c (vx_MQ below (QcR D cy B kd n ((pI Mo) b0)) (XcR D cy B kd n ((pI Mo) b0)) args s 0 (6 * 0) (AA B kd n)) D cy B kd n 7 b0 0 45 [(0, .long v0), (2, .long v2), (4, .int v4), (5, .int v5), (6, .int v6)] [] Mo (fX0_partOf_b45 N k9 v0 v2 v4 v5 v6 Mo) := by
  unfold fX0_partOf_b45
  refine z_iinc C 6 4 (v := v6) (v1 := (v6 + (1 : Int32))) (ls1 := [(6, .int (v6 + (1 : Int32))), (0, .long v0), (2, .long v2), (4, .int v4), (5, .int v5)]) dX0_partOf_45 rfl rfl (by decide) rfl ?_
  refine z_goto C 9 dX0_partOf_48 rfl ?_
  exact z_jump (ls1 := [(0, .long v0), (2, .long v2), (4, .int v4), (5, .int v5), (6, .int (v6 + (1 : Int32)))]) (Nat.le_of_ble_eq_true rfl) [1, 2, 3, 4, 0] rfl (hk9 v4 v5 (v6 + (1 : Int32)))
set_option maxHeartbeats 4000000 in
set_option maxRecDepth 100000 in
theorem z_fX0_partOf_l9_s {p : Program} {l : Launch} {e : Env} {s : State} {m : MethodId} {args : Array Value} {below : List Frame} {meth : Method} {c : Code} {D : va_G} {cy : Nat → ClassId} {B : Nat} {kd : Nat → Nat} {n : Nat} {sa sv : Nat → Nat} (C : zC p l s m args meth c D cy B kd n sa sv RX0 cX0_partOf 7) (ht : ∀ x ∈ c.exceptionTable.toList, False) (hr : meth.sig.returnType = some (FieldType.int)) {b0 : Int32} {Mo : Mem} (N : Nat) (v0 : Int64) (v2 : Int64) (k9 : Int32 → Int32 → Int32 → Option Int32) (v4 : Int32) (v5 : Int32) (v6 : Int32)  (hk9 : ∀ (v4 : Int32) (v5 : Int32) (v6 : Int32), Z p l e (rmz 0 0) s m args below meth c (vx_MQ below (QcR D cy B kd n ((pI Mo) b0)) (XcR D cy B kd n ((pI Mo) b0)) args s 0 (6 * 0) (AA B kd n)) D cy B kd n 7 b0 0 9 [(0, .long v0), (2, .long v2), (4, .int v4), (5, .int v5), (6, .int v6)] [] Mo (k9 v4 v5 v6)) : Z p l e (rmz 0 0) s m args below meth c (vx_MQ below (QcR D cy B kd n ((pI Mo) b0)) (XcR D cy B kd n ((pI Mo) b0)) args s 0 (6 * 0) (AA B kd n)) D cy B kd n 7 b0 0 9 [(0, .long v0), (2, .long v2), (4, .int v4), (5, .int v5), (6, .int v6)] [] Mo (fX0_partOf_l9_s N v0 v2 Mo k9 v4 v5 v6) := by
  unfold fX0_partOf_l9_s
  refine z_iload C 4 dX0_partOf_9 rfl ?_
  refine z_bipush (v := 64) C dX0_partOf_11 rfl ?_
  refine z_icmp_ge C 51 dX0_partOf_13 rfl (fun _ => ?_) (fun _ => ?_)
  · refine z_iload C 2 dX0_partOf_51 rfl ?_
    exact z_iret C hr (Nat.le_of_ble_eq_true rfl) dX0_partOf_53 rfl
  · refine z_lload_n C 0 0 dX0_partOf_16 rfl rfl ?_
    refine z_iload C 4 dX0_partOf_17 rfl ?_
    refine z_lushr C dX0_partOf_19 ?_
    refine z_lconst (v := 1) C dX0_partOf_20 rfl ?_
    refine z_land C dX0_partOf_21 ?_
    refine z_lconst (v := 0) C dX0_partOf_22 rfl ?_
    refine z_lcmp_eq C 45 dX0_partOf_23 dX0_partOf_24 rfl (fun _ => ?_) (fun _ => ?_)
    · exact z_jump (ls1 := [(0, .long v0), (2, .long v2), (4, .int v4), (5, .int v5), (6, .int v6)]) (Nat.le_of_ble_eq_true rfl) [0, 1, 2, 3, 4] rfl (z_fX0_partOf_b45 C ht hr N k9 v0 v2 v4 v5 v6 Mo hk9)
    · refine z_iload C 2 dX0_partOf_27 rfl ?_
      refine z_lload_n C 2 1 dX0_partOf_29 rfl rfl ?_
      refine z_iload C 4 dX0_partOf_30 rfl ?_
      refine z_lushr C dX0_partOf_32 ?_
      refine z_lconst (v := 1) C dX0_partOf_33 rfl ?_
      refine z_land C dX0_partOf_34 ?_
      refine z_l2i C dX0_partOf_35 ?_
      refine z_iload C 3 dX0_partOf_36 rfl ?_
      refine z_ishl C dX0_partOf_38 ?_
      refine z_ior C dX0_partOf_39 ?_
      refine z_istore C 4 (ls1 := [(4, .int (v4 ||| (shlI (((ushrJ v2 v6) &&& (1 : Int64)).toInt32) v5))), (0, .long v0), (2, .long v2), (5, .int v5), (6, .int v6)]) dX0_partOf_40 (by decide) rfl ?_
      refine z_iinc C 5 3 (v := v5) (v1 := (v5 + (1 : Int32))) (ls1 := [(5, .int (v5 + (1 : Int32))), (4, .int (v4 ||| (shlI (((ushrJ v2 v6) &&& (1 : Int64)).toInt32) v5))), (0, .long v0), (2, .long v2), (6, .int v6)]) dX0_partOf_42 rfl rfl (by decide) rfl ?_
      exact z_jump (ls1 := [(0, .long v0), (2, .long v2), (4, .int (v4 ||| (shlI (((ushrJ v2 v6) &&& (1 : Int64)).toInt32) v5))), (5, .int (v5 + (1 : Int32))), (6, .int v6)]) (Nat.le_of_ble_eq_true rfl) [2, 3, 1, 0, 4] rfl (z_fX0_partOf_b45 C ht hr N k9 v0 v2 (v4 ||| (shlI (((ushrJ v2 v6) &&& (1 : Int64)).toInt32) v5)) (v5 + (1 : Int32)) v6 Mo hk9)
theorem z_fX0_partOf_l9_i {p : Program} {l : Launch} {e : Env} {s : State} {m : MethodId} {args : Array Value} {below : List Frame} {meth : Method} {c : Code} {D : va_G} {cy : Nat → ClassId} {B : Nat} {kd : Nat → Nat} {n : Nat} {sa sv : Nat → Nat} (C : zC p l s m args meth c D cy B kd n sa sv RX0 cX0_partOf 7) (ht : ∀ x ∈ c.exceptionTable.toList, False) (hr : meth.sig.returnType = some (FieldType.int)) {b0 : Int32} {Mo : Mem} (N : Nat) (v0 : Int64) (v2 : Int64)  (fu : Nat) : ∀ (v4 : Int32) (v5 : Int32) (v6 : Int32), Z p l e (rmz 0 0) s m args below meth c (vx_MQ below (QcR D cy B kd n ((pI Mo) b0)) (XcR D cy B kd n ((pI Mo) b0)) args s 0 (6 * 0) (AA B kd n)) D cy B kd n 7 b0 0 9 [(0, .long v0), (2, .long v2), (4, .int v4), (5, .int v5), (6, .int v6)] [] Mo (fX0_partOf_l9 N v0 v2 Mo fu v4 v5 v6) := by
  induction fu with
  | zero => intro v4 v5 v6; exact z_none
  | succ fu ih => intro v4 v5 v6; exact z_fX0_partOf_l9_s C ht hr N v0 v2 (fX0_partOf_l9 N v0 v2 Mo fu) v4 v5 v6 (fun v4 v5 v6 => ih v4 v5 v6)
theorem z_fX0_partOf_l9 {p : Program} {l : Launch} {e : Env} {s : State} {m : MethodId} {args : Array Value} {below : List Frame} {meth : Method} {c : Code} {D : va_G} {cy : Nat → ClassId} {B : Nat} {kd : Nat → Nat} {n : Nat} {sa sv : Nat → Nat} (C : zC p l s m args meth c D cy B kd n sa sv RX0 cX0_partOf 7) (ht : ∀ x ∈ c.exceptionTable.toList, False) (hr : meth.sig.returnType = some (FieldType.int)) {b0 : Int32} {Mo : Mem} (N : Nat) (v0 : Int64) (v2 : Int64) (fu : Nat) (v4 : Int32) (v5 : Int32) (v6 : Int32)  : Z p l e (rmz 0 0) s m args below meth c (vx_MQ below (QcR D cy B kd n ((pI Mo) b0)) (XcR D cy B kd n ((pI Mo) b0)) args s 0 (6 * 0) (AA B kd n)) D cy B kd n 7 b0 0 9 [(0, .long v0), (2, .long v2), (4, .int v4), (5, .int v5), (6, .int v6)] [] Mo (fX0_partOf_l9 N v0 v2 Mo fu v4 v5 v6) := z_fX0_partOf_l9_i C ht hr N v0 v2 fu v4 v5 v6
set_option maxHeartbeats 4000000 in
set_option maxRecDepth 100000 in
theorem ctX0_partOf {l : Launch} {D : va_G} {cy : Nat → ClassId} {B : Nat} {kd : Nat → Nat} {n : Nat} {sa sv : Nat → Nat} (G : zG l kd n) (N : Nat) (v0 : Int64) (v2 : Int64)  (Mo : Mem) : CT l D cy B kd n sa sv 0 0 yX0_partOf cX0_partOf 7 (some (FieldType.int)) (pI Mo) [.long v0, .long v2] Mo (fX0_partOf N v0 v2 Mo) := by
  refine ct_of (by decide) G.1 G.2 (Nat.le_of_ble_eq_true rfl) (ls := [(0, .long v0), (2, .long v2)]) rfl ?_
  intro p e s m args below meth c b0 C ht hr
  unfold fX0_partOf
  refine z_iconst C dX0_partOf_0 rfl ?_
  refine z_istore C 4 (ls1 := [(4, .int (0 : Int32)), (0, .long v0), (2, .long v2)]) dX0_partOf_1 (by decide) rfl ?_
  refine z_iconst C dX0_partOf_3 rfl ?_
  refine z_istore C 5 (ls1 := [(5, .int (0 : Int32)), (4, .int (0 : Int32)), (0, .long v0), (2, .long v2)]) dX0_partOf_4 (by decide) rfl ?_
  refine z_iconst C dX0_partOf_6 rfl ?_
  refine z_istore C 6 (ls1 := [(6, .int (0 : Int32)), (5, .int (0 : Int32)), (4, .int (0 : Int32)), (0, .long v0), (2, .long v2)]) dX0_partOf_7 (by decide) rfl ?_
  exact z_jump (ls1 := [(0, .long v0), (2, .long v2), (4, .int (0 : Int32)), (5, .int (0 : Int32)), (6, .int (0 : Int32))]) (Nat.le_of_ble_eq_true rfl) [3, 4, 2, 1, 0] rfl (z_fX0_partOf_l9 C ht hr N v0 v2 N (0 : Int32) (0 : Int32) (0 : Int32))
set_option maxHeartbeats 4000000 in
set_option maxRecDepth 100000 in
theorem z_fX0_addPart_l2_s {p : Program} {l : Launch} {e : Env} {s : State} {m : MethodId} {args : Array Value} {below : List Frame} {meth : Method} {c : Code} {D : va_G} {cy : Nat → ClassId} {B : Nat} {kd : Nat → Nat} {n : Nat} {sa sv : Nat → Nat} (C : zC p l s m args meth c D cy B kd n sa sv RX0 cX0_addPart 5) (ht : ∀ x ∈ c.exceptionTable.toList, False) (hr : meth.sig.returnType = none) {b0 : Mem} (N : Nat) (v0 : Nat) (v1 : Int32) (v2 : Int32) (k2 : Int32 → Mem → Option Mem) (v3 : Int32) (M : Mem) (h0 : kd v0 = 0)  (hk2 : ∀ (v3 : Int32) (M : Mem), Z p l e (rmz 1 0) s m args below meth c (vx_MQ below (QcR D cy B kd n (cvV b0)) (XcR D cy B kd n (cvV b0)) args s 0 (6 * 0) (AA B kd n)) D cy B kd n 5 b0 0 2 [(0, .ref (B + v0)), (1, .int v1), (2, .int v2), (3, .int v3)] [] M (k2 v3 M)) : Z p l e (rmz 1 0) s m args below meth c (vx_MQ below (QcR D cy B kd n (cvV b0)) (XcR D cy B kd n (cvV b0)) args s 0 (6 * 0) (AA B kd n)) D cy B kd n 5 b0 0 2 [(0, .ref (B + v0)), (1, .int v1), (2, .int v2), (3, .int v3)] [] M (fX0_addPart_l2_s N v0 v1 v2 k2 v3 M) := by
  unfold fX0_addPart_l2_s
  refine z_iload_n C 3 3 dX0_addPart_2 rfl rfl ?_
  refine z_iload_n C 2 2 dX0_addPart_3 rfl rfl ?_
  refine z_icmp_gt C 60 dX0_addPart_4 rfl (fun _ => ?_) (fun _ => ?_)
  · exact z_vret C hr (Nat.le_of_ble_eq_true rfl) dX0_addPart_60 rfl
  · refine z_iload_n C 3 3 dX0_addPart_7 rfl rfl ?_
    refine z_aload_n C 0 0 dX0_addPart_8 rfl rfl ?_
    refine z_getR (k := 9) C cl0 h0 rfl gw_2_111 rfl dX0_addPart_9 ?_
    have j1 : kd (v0 + 4) = 33 := zkd C h0 (k := 9) rfl
    refine z_alen (v := 64) C j1 (by decide) rfl dX0_addPart_12 ?_
    refine z_icmp_ge C 60 dX0_addPart_13 rfl (fun _ => ?_) (fun _ => ?_)
    · exact z_vret C hr (Nat.le_of_ble_eq_true rfl) dX0_addPart_60 rfl
    · refine z_iload_n C 3 3 dX0_addPart_16 rfl rfl ?_
      refine z_iload_n C 1 1 dX0_addPart_17 rfl rfl ?_
      refine z_ior C dX0_addPart_18 ?_
      refine z_aload_n C 0 0 dX0_addPart_19 rfl rfl ?_
      refine z_getR (k := 9) C cl0 h0 rfl gw_2_111 rfl dX0_addPart_20 ?_
      have j2 : kd (v0 + 4) = 33 := zkd C h0 (k := 9) rfl
      refine z_alen (v := 64) C j2 (by decide) rfl dX0_addPart_23 ?_
      refine z_iconst C dX0_addPart_24 rfl ?_
      refine z_isub C dX0_addPart_25 ?_
      refine z_iand C dX0_addPart_26 ?_
      refine z_istore C 4 (ls1 := [(4, .int ((v3 ||| v1) &&& ((64 : Int32) - (1 : Int32)))), (0, .ref (B + v0)), (1, .int v1), (2, .int v2), (3, .int v3)]) dX0_addPart_27 (by decide) rfl ?_
      refine z_aload_n C 0 1 dX0_addPart_29 rfl rfl ?_
      refine z_getR (k := 9) C cl0 h0 rfl gw_2_111 rfl dX0_addPart_30 ?_
      have j3 : kd (v0 + 4) = 33 := zkd C h0 (k := 9) rfl
      refine z_iload C 0 dX0_addPart_33 rfl ?_
      refine z_aload_n C 0 1 dX0_addPart_35 rfl rfl ?_
      refine z_getR (k := 9) C cl0 h0 rfl gw_2_111 rfl dX0_addPart_36 ?_
      have j4 : kd (v0 + 4) = 33 := zkd C h0 (k := 9) rfl
      refine z_iload C 0 dX0_addPart_39 rfl ?_
      refine z_iald C j4 rfl (by decide) dX0_addPart_41 (fun j5 => ?_)
      refine z_aload_n C 0 1 dX0_addPart_42 rfl rfl ?_
      refine z_getR (k := 9) C cl0 h0 rfl gw_2_111 rfl dX0_addPart_43 ?_
      have j6 : kd (v0 + 4) = 33 := zkd C h0 (k := 9) rfl
      refine z_iload_n C 3 4 dX0_addPart_46 rfl rfl ?_
      refine z_iald C j6 rfl (by decide) dX0_addPart_47 (fun j7 => ?_)
      refine z_iconst C dX0_addPart_48 rfl ?_
      refine z_iadd C dX0_addPart_49 ?_
      refine z_min C cw_RX0_32 ⟨Nat.le_of_ble_eq_true rfl, Nat.le_of_ble_eq_true rfl, Nat.le_of_ble_eq_true rfl, Nat.le_of_ble_eq_true rfl⟩ (Nat.le_of_ble_eq_true rfl) dX0_addPart_50 ?_
      refine z_iast C j3 rfl (by decide) dX0_addPart_53 (fun _ => ?_)
      refine z_iinc C 3 4 (v := v3) (v1 := (v3 + (1 : Int32))) (ls1 := [(3, .int (v3 + (1 : Int32))), (4, .int ((v3 ||| v1) &&& ((64 : Int32) - (1 : Int32)))), (0, .ref (B + v0)), (1, .int v1), (2, .int v2)]) dX0_addPart_54 rfl rfl (by decide) rfl ?_
      refine z_goto C 2 dX0_addPart_57 rfl ?_
      exact z_jump (ls1 := [(0, .ref (B + v0)), (1, .int v1), (2, .int v2), (3, .int (v3 + (1 : Int32)))]) (Nat.le_of_ble_eq_true rfl) [2, 3, 4, 0] rfl (hk2 (v3 + (1 : Int32)) (wI M (v0 + 4) (((v3 ||| v1) &&& ((64 : Int32) - (1 : Int32))).toNatClampNeg) (minI (rI M (v0 + 4) ((v3 ||| v1) &&& ((64 : Int32) - (1 : Int32))).toNatClampNeg) ((rI M (v0 + 4) v3.toNatClampNeg) + (1 : Int32)))))
theorem z_fX0_addPart_l2_i {p : Program} {l : Launch} {e : Env} {s : State} {m : MethodId} {args : Array Value} {below : List Frame} {meth : Method} {c : Code} {D : va_G} {cy : Nat → ClassId} {B : Nat} {kd : Nat → Nat} {n : Nat} {sa sv : Nat → Nat} (C : zC p l s m args meth c D cy B kd n sa sv RX0 cX0_addPart 5) (ht : ∀ x ∈ c.exceptionTable.toList, False) (hr : meth.sig.returnType = none) {b0 : Mem} (N : Nat) (v0 : Nat) (v1 : Int32) (v2 : Int32) (h0 : kd v0 = 0)  (fu : Nat) : ∀ (v3 : Int32) (M : Mem), Z p l e (rmz 1 0) s m args below meth c (vx_MQ below (QcR D cy B kd n (cvV b0)) (XcR D cy B kd n (cvV b0)) args s 0 (6 * 0) (AA B kd n)) D cy B kd n 5 b0 0 2 [(0, .ref (B + v0)), (1, .int v1), (2, .int v2), (3, .int v3)] [] M (fX0_addPart_l2 N v0 v1 v2 fu v3 M) := by
  induction fu with
  | zero => intro v3 M; exact z_none
  | succ fu ih => intro v3 M; exact z_fX0_addPart_l2_s C ht hr N v0 v1 v2 (fX0_addPart_l2 N v0 v1 v2 fu) v3 M h0 (fun v3 M => ih v3 M)
theorem z_fX0_addPart_l2 {p : Program} {l : Launch} {e : Env} {s : State} {m : MethodId} {args : Array Value} {below : List Frame} {meth : Method} {c : Code} {D : va_G} {cy : Nat → ClassId} {B : Nat} {kd : Nat → Nat} {n : Nat} {sa sv : Nat → Nat} (C : zC p l s m args meth c D cy B kd n sa sv RX0 cX0_addPart 5) (ht : ∀ x ∈ c.exceptionTable.toList, False) (hr : meth.sig.returnType = none) {b0 : Mem} (N : Nat) (v0 : Nat) (v1 : Int32) (v2 : Int32) (fu : Nat) (v3 : Int32) (M : Mem) (h0 : kd v0 = 0)  : Z p l e (rmz 1 0) s m args below meth c (vx_MQ below (QcR D cy B kd n (cvV b0)) (XcR D cy B kd n (cvV b0)) args s 0 (6 * 0) (AA B kd n)) D cy B kd n 5 b0 0 2 [(0, .ref (B + v0)), (1, .int v1), (2, .int v2), (3, .int v3)] [] M (fX0_addPart_l2 N v0 v1 v2 fu v3 M) := z_fX0_addPart_l2_i C ht hr N v0 v1 v2 h0 fu v3 M
set_option maxHeartbeats 4000000 in
set_option maxRecDepth 100000 in
theorem ctX0_addPart {l : Launch} {D : va_G} {cy : Nat → ClassId} {B : Nat} {kd : Nat → Nat} {n : Nat} {sa sv : Nat → Nat} (G : zG l kd n) (N : Nat) (v0 : Nat) (v1 : Int32) (v2 : Int32) (h0 : kd v0 = 0) (M : Mem) : CT l D cy B kd n sa sv 1 0 yX0_addPart cX0_addPart 5 (none) cvV [.ref (B + v0), .int v1, .int v2] M (fX0_addPart N v0 v1 v2 M) := by
  refine ct_of (by decide) G.1 G.2 (Nat.le_of_ble_eq_true rfl) (ls := [(0, .ref (B + v0)), (1, .int v1), (2, .int v2)]) rfl ?_
  intro p e s m args below meth c b0 C ht hr
  unfold fX0_addPart
  refine z_iconst C dX0_addPart_0 rfl ?_
  refine z_istore_n C 3 (ls1 := [(3, .int (0 : Int32)), (0, .ref (B + v0)), (1, .int v1), (2, .int v2)]) dX0_addPart_1 rfl (by decide) rfl ?_
  exact z_jump (ls1 := [(0, .ref (B + v0)), (1, .int v1), (2, .int v2), (3, .int (0 : Int32))]) (Nat.le_of_ble_eq_true rfl) [1, 2, 3, 0] rfl (z_fX0_addPart_l2 C ht hr N v0 v1 v2 N (0 : Int32) M h0)
set_option maxHeartbeats 4000000 in
set_option maxRecDepth 100000 in
theorem z_fX0_fewestHolding_b133 {p : Program} {l : Launch} {e : Env} {s : State} {m : MethodId} {args : Array Value} {below : List Frame} {meth : Method} {c : Code} {D : va_G} {cy : Nat → ClassId} {B : Nat} {kd : Nat → Nat} {n : Nat} {sa sv : Nat → Nat} (C : zC p l s m args meth c D cy B kd n sa sv RX0 cX0_fewestHolding 9) (ht : ∀ x ∈ c.exceptionTable.toList, False) (hr : meth.sig.returnType = some (FieldType.int)) {b0 : Int32 × Mem}  (N : Nat) (M : Mem)  : Z p l e (rmz 3 0) s m args below meth c (vx_MQ below (QcR D cy B kd n (cvI b0)) (XcR D cy B kd n (cvI b0)) args s 0 (6 * 0) (AA B kd n)) D cy B kd n 9 b0 0 133 [] [] M (fX0_fewestHolding_b133 N M) := by
  unfold fX0_fewestHolding_b133
  refine z_iconst C dX0_fewestHolding_133 rfl ?_
  exact z_iret C hr (Nat.le_of_ble_eq_true rfl) dX0_fewestHolding_134 rfl
set_option maxHeartbeats 4000000 in
set_option maxRecDepth 100000 in
theorem z_fX0_fewestHolding_b95 {p : Program} {l : Launch} {e : Env} {s : State} {m : MethodId} {args : Array Value} {below : List Frame} {meth : Method} {c : Code} {D : va_G} {cy : Nat → ClassId} {B : Nat} {kd : Nat → Nat} {n : Nat} {sa sv : Nat → Nat} (C : zC p l s m args meth c D cy B kd n sa sv RX0 cX0_fewestHolding 9) (ht : ∀ x ∈ c.exceptionTable.toList, False) (hr : meth.sig.returnType = some (FieldType.int)) {b0 : Int32 × Mem}  (N : Nat) (k45 : Int32 → Mem → Option (Int32 × Mem)) (v0 : Nat) (v1 : Nat) (v2 : Nat) (v4 : Int64) (v6 : Int32) (v7 : Int32) (M : Mem) (h0 : kd v0 = 0) (h1 : kd v1 = 5) (h2 : kd v2 = 6) (hk45 : ∀ (v7 : Int32) (M : Mem), Z p l e (rmz 3 0) s m args below meth c (vx_MQ below (QcR D cy B kd n (cvI b0)) (XcR D cy B kd n (cvI b0)) args s 0 (6 * 0) (AA B kd n)) D cy B kd n 9 b0 0 45 [(0, .ref (B + v0)), (1, .ref (B + v1)), (2, .ref (B + v2)), (4, .long v4), (6, .int v6), (7, .int v7)] [] M (k45 v7 M)) : Z p l e (rmz 3 0) s m args below meth c (vx_MQ below (QcR D cy B kd n (cvI b0)) (XcR D cy B kd n (cvI b0)) args s 0 (6 * 0) (AA B kd n)) D cy B kd n 9 b0 0 95 [(0, .ref (B + v0)), (1, .ref (B + v1)), (2, .ref (B + v2)), (4, .long v4), (6, .int v6), (7, .int v7)] [] M (fX0_fewestHolding_b95 N k45 v0 v1 v2 v4 v6 v7 M) := by
  unfold fX0_fewestHolding_b95
  refine z_iinc C 7 5 (v := v7) (v1 := (v7 + (1 : Int32))) (ls1 := [(7, .int (v7 + (1 : Int32))), (0, .ref (B + v0)), (1, .ref (B + v1)), (2, .ref (B + v2)), (4, .long v4), (6, .int v6)]) dX0_fewestHolding_95 rfl rfl (by decide) rfl ?_
  refine z_goto C 45 dX0_fewestHolding_98 rfl ?_
  exact z_jump (ls1 := [(0, .ref (B + v0)), (1, .ref (B + v1)), (2, .ref (B + v2)), (4, .long v4), (6, .int v6), (7, .int (v7 + (1 : Int32)))]) (Nat.le_of_ble_eq_true rfl) [1, 2, 3, 4, 5, 0] rfl (hk45 (v7 + (1 : Int32)) M)
set_option maxHeartbeats 4000000 in
set_option maxRecDepth 100000 in
theorem z_fX0_fewestHolding_l45_s {p : Program} {l : Launch} {e : Env} {s : State} {m : MethodId} {args : Array Value} {below : List Frame} {meth : Method} {c : Code} {D : va_G} {cy : Nat → ClassId} {B : Nat} {kd : Nat → Nat} {n : Nat} {sa sv : Nat → Nat} (C : zC p l s m args meth c D cy B kd n sa sv RX0 cX0_fewestHolding 9) (ht : ∀ x ∈ c.exceptionTable.toList, False) (hr : meth.sig.returnType = some (FieldType.int)) {b0 : Int32 × Mem} (N : Nat) (v0 : Nat) (v1 : Nat) (v2 : Nat) (v4 : Int64) (v6 : Int32) (k45 : Int32 → Mem → Option (Int32 × Mem)) (v7 : Int32) (M : Mem) (h0 : kd v0 = 0) (h1 : kd v1 = 5) (h2 : kd v2 = 6)  (hk45 : ∀ (v7 : Int32) (M : Mem), Z p l e (rmz 3 0) s m args below meth c (vx_MQ below (QcR D cy B kd n (cvI b0)) (XcR D cy B kd n (cvI b0)) args s 0 (6 * 0) (AA B kd n)) D cy B kd n 9 b0 0 45 [(0, .ref (B + v0)), (1, .ref (B + v1)), (2, .ref (B + v2)), (4, .long v4), (6, .int v6), (7, .int v7)] [] M (k45 v7 M)) : Z p l e (rmz 3 0) s m args below meth c (vx_MQ below (QcR D cy B kd n (cvI b0)) (XcR D cy B kd n (cvI b0)) args s 0 (6 * 0) (AA B kd n)) D cy B kd n 9 b0 0 45 [(0, .ref (B + v0)), (1, .ref (B + v1)), (2, .ref (B + v2)), (4, .long v4), (6, .int v6), (7, .int v7)] [] M (fX0_fewestHolding_l45_s N v0 v1 v2 v4 v6 k45 v7 M) := by
  unfold fX0_fewestHolding_l45_s
  refine z_iload C 5 dX0_fewestHolding_45 rfl ?_
  refine z_aload_n C 2 2 dX0_fewestHolding_47 rfl rfl ?_
  refine z_getI (k := 1) C cl6 h2 rfl gw_1_52 rfl dX0_fewestHolding_48 ?_
  refine z_icmp_ge C 101 dX0_fewestHolding_51 rfl (fun _ => ?_) (fun _ => ?_)
  · refine z_iload C 4 dX0_fewestHolding_101 rfl ?_
    refine z_aload_n C 0 0 dX0_fewestHolding_103 rfl rfl ?_
    refine z_getR (k := 9) C cl0 h0 rfl gw_2_111 rfl dX0_fewestHolding_104 ?_
    have j1 : kd (v0 + 4) = 33 := zkd C h0 (k := 9) rfl
    refine z_alen (v := 64) C j1 (by decide) rfl dX0_fewestHolding_107 ?_
    refine z_icmp_ge C 133 dX0_fewestHolding_108 rfl (fun _ => ?_) (fun _ => ?_)
    · exact z_jump (ls1 := []) (Nat.le_of_ble_eq_true rfl) [] rfl (z_fX0_fewestHolding_b133 C ht hr N M)
    · refine z_aload_n C 0 0 dX0_fewestHolding_111 rfl rfl ?_
      refine z_getR (k := 9) C cl0 h0 rfl gw_2_111 rfl dX0_fewestHolding_112 ?_
      have j2 : kd (v0 + 4) = 33 := zkd C h0 (k := 9) rfl
      refine z_iload C 4 dX0_fewestHolding_115 rfl ?_
      refine z_iald C j2 rfl (by decide) dX0_fewestHolding_117 (fun j3 => ?_)
      refine z_ldc C dX0_fewestHolding_118 gw_6_147 ?_
      refine z_icmp_ge C 133 dX0_fewestHolding_120 rfl (fun _ => ?_) (fun _ => ?_)
      · exact z_jump (ls1 := []) (Nat.le_of_ble_eq_true rfl) [] rfl (z_fX0_fewestHolding_b133 C ht hr N M)
      · refine z_aload_n C 0 0 dX0_fewestHolding_123 rfl rfl ?_
        refine z_getR (k := 9) C cl0 h0 rfl gw_2_111 rfl dX0_fewestHolding_124 ?_
        have j4 : kd (v0 + 4) = 33 := zkd C h0 (k := 9) rfl
        refine z_iload C 4 dX0_fewestHolding_127 rfl ?_
        refine z_iald C j4 rfl (by decide) dX0_fewestHolding_129 (fun j5 => ?_)
        refine z_goto C 134 dX0_fewestHolding_130 rfl ?_
        exact z_iret C hr (Nat.le_of_ble_eq_true rfl) dX0_fewestHolding_134 rfl
  · refine z_aload_n C 1 1 dX0_fewestHolding_54 rfl rfl ?_
    refine z_getR (k := 8) C cl5 h1 rfl gw_1_150 rfl dX0_fewestHolding_55 ?_
    have j6 : kd (v1 + 1) = 2 := zkd C h1 (k := 8) rfl
    refine z_iload C 5 dX0_fewestHolding_58 rfl ?_
    refine z_callV_pB (As := [.int v7]) (rest := []) C rfl (ctX2_has (zG_of C) (v1 + 1) v7 j6 M) cw_RX0_87 rfl (okM_X2_has) rfl cl2 j6 (okR_of rfl) (Nat.le_of_ble_eq_true rfl) dX0_fewestHolding_60 (fun qj7 _ => ?_)
    refine z_if_eqB C 95 dX0_fewestHolding_63 rfl (fun _ => ?_) (fun _ => ?_)
    · refine z_lload C 3 dX0_fewestHolding_66 rfl ?_
      refine z_aload_n C 2 2 dX0_fewestHolding_68 rfl rfl ?_
      refine z_iload C 5 dX0_fewestHolding_69 rfl ?_
      refine z_aload_n C 1 1 dX0_fewestHolding_71 rfl rfl ?_
      refine z_getI (k := 2) C cl5 h1 rfl gw_1_129 rfl dX0_fewestHolding_72 ?_
      refine z_aload_n C 1 1 dX0_fewestHolding_75 rfl rfl ?_
      refine z_getI (k := 3) C cl5 h1 rfl gw_1_133 rfl dX0_fewestHolding_76 ?_
      refine z_callV_J (As := [.int v7, .int (rI M v1 2), .int (rI M v1 3)]) (rest := [.long v4]) C rfl (ctX6_placesOf (zG_of C) N v2 v7 (rI M v1 2) (rI M v1 3) h2 M) cw_RX0_47 rfl (okM_X6_placesOf) rfl cl6 h2 (okR_of rfl) (Nat.le_of_ble_eq_true rfl) dX0_fewestHolding_79 (fun qj8 _ => ?_)
      refine z_callS_pI (As := [.long v4, .long qj8.1]) (rest := []) C rfl (ctX0_partOf (zG_of C) N v4 qj8.1 qj8.2) cw_RX0_111 (okM_X0_partOf) rfl (okR_of rfl) (Nat.le_of_ble_eq_true rfl) dX0_fewestHolding_82 (fun qj9 _ => ?_)
      refine z_istore C 8 (ls1 := [(8, .int qj9), (0, .ref (B + v0)), (1, .ref (B + v1)), (2, .ref (B + v2)), (4, .long v4), (6, .int v6), (7, .int v7)]) dX0_fewestHolding_85 (by decide) rfl ?_
      refine z_aload_n C 0 1 dX0_fewestHolding_87 rfl rfl ?_
      refine z_iload C 0 dX0_fewestHolding_88 rfl ?_
      refine z_iload C 5 dX0_fewestHolding_90 rfl ?_
      refine z_callV_V (As := [.int qj9, .int v6]) (rest := []) C rfl (ctX0_addPart (zG_of C) N v0 qj9 v6 h0 qj8.2) cw_RX0_115 rfl (okM_X0_addPart) rfl cl0 h0 (okR_of rfl) (Nat.le_of_ble_eq_true rfl) dX0_fewestHolding_92 (fun qj10 _ => ?_)
      exact z_jump (ls1 := [(0, .ref (B + v0)), (1, .ref (B + v1)), (2, .ref (B + v2)), (4, .long v4), (6, .int v6), (7, .int v7)]) (Nat.le_of_ble_eq_true rfl) [1, 2, 3, 4, 5, 6] rfl (z_fX0_fewestHolding_b95 C ht hr N k45 v0 v1 v2 v4 v6 v7 qj10 h0 h1 h2 hk45)
    · exact z_jump (ls1 := [(0, .ref (B + v0)), (1, .ref (B + v1)), (2, .ref (B + v2)), (4, .long v4), (6, .int v6), (7, .int v7)]) (Nat.le_of_ble_eq_true rfl) [0, 1, 2, 3, 4, 5] rfl (z_fX0_fewestHolding_b95 C ht hr N k45 v0 v1 v2 v4 v6 v7 M h0 h1 h2 hk45)
theorem z_fX0_fewestHolding_l45_i {p : Program} {l : Launch} {e : Env} {s : State} {m : MethodId} {args : Array Value} {below : List Frame} {meth : Method} {c : Code} {D : va_G} {cy : Nat → ClassId} {B : Nat} {kd : Nat → Nat} {n : Nat} {sa sv : Nat → Nat} (C : zC p l s m args meth c D cy B kd n sa sv RX0 cX0_fewestHolding 9) (ht : ∀ x ∈ c.exceptionTable.toList, False) (hr : meth.sig.returnType = some (FieldType.int)) {b0 : Int32 × Mem} (N : Nat) (v0 : Nat) (v1 : Nat) (v2 : Nat) (v4 : Int64) (v6 : Int32) (h0 : kd v0 = 0) (h1 : kd v1 = 5) (h2 : kd v2 = 6)  (fu : Nat) : ∀ (v7 : Int32) (M : Mem), Z p l e (rmz 3 0) s m args below meth c (vx_MQ below (QcR D cy B kd n (cvI b0)) (XcR D cy B kd n (cvI b0)) args s 0 (6 * 0) (AA B kd n)) D cy B kd n 9 b0 0 45 [(0, .ref (B + v0)), (1, .ref (B + v1)), (2, .ref (B + v2)), (4, .long v4), (6, .int v6), (7, .int v7)] [] M (fX0_fewestHolding_l45 N v0 v1 v2 v4 v6 fu v7 M) := by
  induction fu with
  | zero => intro v7 M; exact z_none
  | succ fu ih => intro v7 M; exact z_fX0_fewestHolding_l45_s C ht hr N v0 v1 v2 v4 v6 (fX0_fewestHolding_l45 N v0 v1 v2 v4 v6 fu) v7 M h0 h1 h2 (fun v7 M => ih v7 M)
theorem z_fX0_fewestHolding_l45 {p : Program} {l : Launch} {e : Env} {s : State} {m : MethodId} {args : Array Value} {below : List Frame} {meth : Method} {c : Code} {D : va_G} {cy : Nat → ClassId} {B : Nat} {kd : Nat → Nat} {n : Nat} {sa sv : Nat → Nat} (C : zC p l s m args meth c D cy B kd n sa sv RX0 cX0_fewestHolding 9) (ht : ∀ x ∈ c.exceptionTable.toList, False) (hr : meth.sig.returnType = some (FieldType.int)) {b0 : Int32 × Mem} (N : Nat) (v0 : Nat) (v1 : Nat) (v2 : Nat) (v4 : Int64) (v6 : Int32) (fu : Nat) (v7 : Int32) (M : Mem) (h0 : kd v0 = 0) (h1 : kd v1 = 5) (h2 : kd v2 = 6)  : Z p l e (rmz 3 0) s m args below meth c (vx_MQ below (QcR D cy B kd n (cvI b0)) (XcR D cy B kd n (cvI b0)) args s 0 (6 * 0) (AA B kd n)) D cy B kd n 9 b0 0 45 [(0, .ref (B + v0)), (1, .ref (B + v1)), (2, .ref (B + v2)), (4, .long v4), (6, .int v6), (7, .int v7)] [] M (fX0_fewestHolding_l45 N v0 v1 v2 v4 v6 fu v7 M) := z_fX0_fewestHolding_l45_i C ht hr N v0 v1 v2 v4 v6 h0 h1 h2 fu v7 M
set_option maxHeartbeats 4000000 in
set_option maxRecDepth 100000 in
theorem ctX0_fewestHolding {l : Launch} {D : va_G} {cy : Nat → ClassId} {B : Nat} {kd : Nat → Nat} {n : Nat} {sa sv : Nat → Nat} (G : zG l kd n) (N : Nat) (v0 : Nat) (v1 : Nat) (v2 : Nat) (v3 : Int32) (h0 : kd v0 = 0) (h1 : kd v1 = 5) (h2 : kd v2 = 6) (M : Mem) : CT l D cy B kd n sa sv 3 0 yX0_fewestHolding cX0_fewestHolding 9 (some (FieldType.int)) cvI [.ref (B + v0), .ref (B + v1), .ref (B + v2), .int v3] M (fX0_fewestHolding N v0 v1 v2 v3 M) := by
  refine ct_of (by decide) G.1 G.2 (Nat.le_of_ble_eq_true rfl) (ls := [(0, .ref (B + v0)), (1, .ref (B + v1)), (2, .ref (B + v2)), (3, .int v3)]) rfl ?_
  intro p e s m args below meth c b0 C ht hr
  unfold fX0_fewestHolding
  refine z_aload_n C 2 2 dX0_fewestHolding_0 rfl rfl ?_
  refine z_iload_n C 3 3 dX0_fewestHolding_1 rfl rfl ?_
  refine z_aload_n C 1 1 dX0_fewestHolding_2 rfl rfl ?_
  refine z_getI (k := 2) C cl5 h1 rfl gw_1_129 rfl dX0_fewestHolding_3 ?_
  refine z_aload_n C 1 1 dX0_fewestHolding_6 rfl rfl ?_
  refine z_getI (k := 3) C cl5 h1 rfl gw_1_133 rfl dX0_fewestHolding_7 ?_
  refine z_callV_J (As := [.int v3, .int (rI M v1 2), .int (rI M v1 3)]) (rest := []) C rfl (ctX6_placesOf (zG_of C) N v2 v3 (rI M v1 2) (rI M v1 3) h2 M) cw_RX0_47 rfl (okM_X6_placesOf) rfl cl6 h2 (okR_of rfl) (Nat.le_of_ble_eq_true rfl) dX0_fewestHolding_10 (fun qj1 _ => ?_)
  refine z_lstore C 4 (ls1 := [(4, .long qj1.1), (0, .ref (B + v0)), (1, .ref (B + v1)), (2, .ref (B + v2)), (3, .int v3)]) dX0_fewestHolding_13 (by decide) rfl ?_
  refine z_iconst C dX0_fewestHolding_15 rfl ?_
  refine z_lload C 0 dX0_fewestHolding_16 rfl ?_
  refine z_callS_pI (As := [.long qj1.1]) (rest := [.int (1 : Int32)]) C rfl (ctJ13_bitCount_95d88 (zG_of C) qj1.1 qj1.2) cw_RX0_81 (okM_J13_bitCount_95d88) rfl (okR_of rfl) (Nat.le_of_ble_eq_true rfl) dX0_fewestHolding_18 (fun qj2 _ => ?_)
  refine z_ishl C dX0_fewestHolding_21 ?_
  refine z_iconst C dX0_fewestHolding_22 rfl ?_
  refine z_isub C dX0_fewestHolding_23 ?_
  refine z_istore C 6 (ls1 := [(6, .int ((shlI (1 : Int32) qj2) - (1 : Int32))), (4, .long qj1.1), (0, .ref (B + v0)), (1, .ref (B + v1)), (2, .ref (B + v2)), (3, .int v3)]) dX0_fewestHolding_24 (by decide) rfl ?_
  refine z_aload_n C 0 2 dX0_fewestHolding_26 rfl rfl ?_
  refine z_getR (k := 9) C cl0 h0 rfl gw_2_111 rfl dX0_fewestHolding_27 ?_
  have j3 : kd (v0 + 4) = 33 := zkd C h0 (k := 9) rfl
  refine z_ldc C dX0_fewestHolding_30 gw_6_147 ?_
  refine z_callS_V (As := [.ref (B + (v0 + 4)), .int (1000000 : Int32)]) (rest := []) C rfl (ctJ7_fill_53178 (zG_of C) j3 rfl (by decide) (1000000 : Int32) qj1.2) cw_RX0_105 (okM_J7_fill_53178) rfl (okR_of rfl) (Nat.le_of_ble_eq_true rfl) dX0_fewestHolding_32 (fun qj4 _ => ?_)
  refine z_aload_n C 0 2 dX0_fewestHolding_35 rfl rfl ?_
  refine z_getR (k := 9) C cl0 h0 rfl gw_2_111 rfl dX0_fewestHolding_36 ?_
  have j5 : kd (v0 + 4) = 33 := zkd C h0 (k := 9) rfl
  refine z_iconst C dX0_fewestHolding_39 rfl ?_
  refine z_iconst C dX0_fewestHolding_40 rfl ?_
  refine z_iast C j5 rfl (by decide) dX0_fewestHolding_41 (fun _ => ?_)
  refine z_iconst C dX0_fewestHolding_42 rfl ?_
  refine z_istore C 7 (ls1 := [(7, .int (0 : Int32)), (6, .int ((shlI (1 : Int32) qj2) - (1 : Int32))), (4, .long qj1.1), (0, .ref (B + v0)), (1, .ref (B + v1)), (2, .ref (B + v2)), (3, .int v3)]) dX0_fewestHolding_43 (by decide) rfl ?_
  exact z_jump (ls1 := [(0, .ref (B + v0)), (1, .ref (B + v1)), (2, .ref (B + v2)), (4, .long qj1.1), (6, .int ((shlI (1 : Int32) qj2) - (1 : Int32))), (7, .int (0 : Int32))]) (Nat.le_of_ble_eq_true rfl) [3, 4, 5, 2, 1, 0] rfl (z_fX0_fewestHolding_l45 C ht hr N v0 v1 v2 qj1.1 ((shlI (1 : Int32) qj2) - (1 : Int32)) N (0 : Int32) (wI qj4 (v0 + 4) ((0 : Int32).toNatClampNeg) (0 : Int32)) h0 h1 h2)
set_option maxHeartbeats 4000000 in
set_option maxRecDepth 100000 in
theorem z_fX0_weigh_b150 {p : Program} {l : Launch} {e : Env} {s : State} {m : MethodId} {args : Array Value} {below : List Frame} {meth : Method} {c : Code} {D : va_G} {cy : Nat → ClassId} {B : Nat} {kd : Nat → Nat} {n : Nat} {sa sv : Nat → Nat} (C : zC p l s m args meth c D cy B kd n sa sv RX0 cX0_weigh 10) (ht : ∀ x ∈ c.exceptionTable.toList, False) (hr : meth.sig.returnType = none) {b0 : Mem}  (N : Nat) (v0 : Nat) (v3 : Int32) (v4 : Int32) (v7 : Int32) (v8 : Int32) (s0 : Bool) (M : Mem) (h0 : kd v0 = 0)  : Z p l e (rmz 2 0) s m args below meth c (vx_MQ below (QcR D cy B kd n (cvV b0)) (XcR D cy B kd n (cvV b0)) args s 0 (6 * 0) (AA B kd n)) D cy B kd n 10 b0 0 150 [(0, .ref (B + v0)), (3, .int v3), (4, .int v4), (7, .int v7), (8, .int v8)] [.int (bI s0)] M (fX0_weigh_b150 N v0 v3 v4 v7 v8 s0 M) := by
  unfold fX0_weigh_b150
  refine z_istore C 9 (ls1 := [(9, .int (bI s0)), (0, .ref (B + v0)), (3, .int v3), (4, .int v4), (7, .int v7), (8, .int v8)]) dX0_weigh_150 (by decide) rfl ?_
  refine z_iload C 0 dX0_weigh_152 rfl ?_
  refine z_if_eqB C 180 dX0_weigh_154 rfl (fun _ => ?_) (fun _ => ?_)
  · refine z_aload_n C 0 1 dX0_weigh_157 rfl rfl ?_
    refine z_iload_n C 3 2 dX0_weigh_158 rfl rfl ?_
    refine z_putI (k := 2) C cl0 h0 rfl gw_2_102 rfl rfl rfl dX0_weigh_159 ?_
    refine z_aload_n C 0 1 dX0_weigh_162 rfl rfl ?_
    refine z_iload C 3 dX0_weigh_163 rfl ?_
    refine z_putI (k := 3) C cl0 h0 rfl gw_2_104 rfl rfl rfl dX0_weigh_165 ?_
    refine z_aload_n C 0 1 dX0_weigh_168 rfl rfl ?_
    refine z_iload C 4 dX0_weigh_169 rfl ?_
    refine z_putI (k := 1) C cl0 h0 rfl gw_2_100 rfl rfl rfl dX0_weigh_171 ?_
    refine z_aload_n C 0 1 dX0_weigh_174 rfl rfl ?_
    refine z_iload C 5 dX0_weigh_175 rfl ?_
    refine z_putI (k := 4) C cl0 h0 rfl gw_2_106 rfl rfl rfl dX0_weigh_177 ?_
    exact z_vret C hr (Nat.le_of_ble_eq_true rfl) dX0_weigh_180 rfl
  · exact z_vret C hr (Nat.le_of_ble_eq_true rfl) dX0_weigh_180 rfl
set_option maxHeartbeats 4000000 in
set_option maxRecDepth 100000 in
theorem z_fX0_weigh_b145 {p : Program} {l : Launch} {e : Env} {s : State} {m : MethodId} {args : Array Value} {below : List Frame} {meth : Method} {c : Code} {D : va_G} {cy : Nat → ClassId} {B : Nat} {kd : Nat → Nat} {n : Nat} {sa sv : Nat → Nat} (C : zC p l s m args meth c D cy B kd n sa sv RX0 cX0_weigh 10) (ht : ∀ x ∈ c.exceptionTable.toList, False) (hr : meth.sig.returnType = none) {b0 : Mem}  (N : Nat) (v0 : Nat) (v3 : Int32) (v4 : Int32) (v7 : Int32) (v8 : Int32) (M : Mem) (h0 : kd v0 = 0)  : Z p l e (rmz 2 0) s m args below meth c (vx_MQ below (QcR D cy B kd n (cvV b0)) (XcR D cy B kd n (cvV b0)) args s 0 (6 * 0) (AA B kd n)) D cy B kd n 10 b0 0 145 [(0, .ref (B + v0)), (3, .int v3), (4, .int v4), (7, .int v7), (8, .int v8)] [] M (fX0_weigh_b145 N v0 v3 v4 v7 v8 M) := by
  unfold fX0_weigh_b145
  refine z_iconst C dX0_weigh_145 rfl ?_
  refine z_goto C 150 dX0_weigh_146 rfl ?_
  exact z_jump (ls1 := [(0, .ref (B + v0)), (3, .int v3), (4, .int v4), (7, .int v7), (8, .int v8)]) (Nat.le_of_ble_eq_true rfl) [0, 1, 2, 3, 4] rfl (z_fX0_weigh_b150 C ht hr N v0 v3 v4 v7 v8 true M h0)
set_option maxHeartbeats 4000000 in
set_option maxRecDepth 100000 in
theorem z_fX0_weigh_b149 {p : Program} {l : Launch} {e : Env} {s : State} {m : MethodId} {args : Array Value} {below : List Frame} {meth : Method} {c : Code} {D : va_G} {cy : Nat → ClassId} {B : Nat} {kd : Nat → Nat} {n : Nat} {sa sv : Nat → Nat} (C : zC p l s m args meth c D cy B kd n sa sv RX0 cX0_weigh 10) (ht : ∀ x ∈ c.exceptionTable.toList, False) (hr : meth.sig.returnType = none) {b0 : Mem}  (N : Nat) (v0 : Nat) (v3 : Int32) (v4 : Int32) (v7 : Int32) (v8 : Int32) (M : Mem) (h0 : kd v0 = 0)  : Z p l e (rmz 2 0) s m args below meth c (vx_MQ below (QcR D cy B kd n (cvV b0)) (XcR D cy B kd n (cvV b0)) args s 0 (6 * 0) (AA B kd n)) D cy B kd n 10 b0 0 149 [(0, .ref (B + v0)), (3, .int v3), (4, .int v4), (7, .int v7), (8, .int v8)] [] M (fX0_weigh_b149 N v0 v3 v4 v7 v8 M) := by
  unfold fX0_weigh_b149
  refine z_iconst C dX0_weigh_149 rfl ?_
  exact z_jump (ls1 := [(0, .ref (B + v0)), (3, .int v3), (4, .int v4), (7, .int v7), (8, .int v8)]) (Nat.le_of_ble_eq_true rfl) [0, 1, 2, 3, 4] rfl (z_fX0_weigh_b150 C ht hr N v0 v3 v4 v7 v8 false M h0)
set_option maxHeartbeats 4000000 in
set_option maxRecDepth 100000 in
theorem z_fX0_weigh_b63 {p : Program} {l : Launch} {e : Env} {s : State} {m : MethodId} {args : Array Value} {below : List Frame} {meth : Method} {c : Code} {D : va_G} {cy : Nat → ClassId} {B : Nat} {kd : Nat → Nat} {n : Nat} {sa sv : Nat → Nat} (C : zC p l s m args meth c D cy B kd n sa sv RX0 cX0_weigh 10) (ht : ∀ x ∈ c.exceptionTable.toList, False) (hr : meth.sig.returnType = none) {b0 : Mem}  (N : Nat) (k6 : Int64 → Int32 → Mem → Option Mem) (v0 : Nat) (v1 : Nat) (v2 : Nat) (v3 : Int32) (v4 : Int32) (v7 : Int32) (s0 : Int64) (s1 : Int64) (M : Mem) (h0 : kd v0 = 0) (h1 : kd v1 = 5) (h2 : kd v2 = 6) (hk6 : ∀ (v5 : Int64) (v7 : Int32) (M : Mem), Z p l e (rmz 2 0) s m args below meth c (vx_MQ below (QcR D cy B kd n (cvV b0)) (XcR D cy B kd n (cvV b0)) args s 0 (6 * 0) (AA B kd n)) D cy B kd n 10 b0 0 6 [(0, .ref (B + v0)), (1, .ref (B + v1)), (2, .ref (B + v2)), (3, .int v3), (4, .int v4), (5, .long v5), (7, .int v7)] [] M (k6 v5 v7 M)) : Z p l e (rmz 2 0) s m args below meth c (vx_MQ below (QcR D cy B kd n (cvV b0)) (XcR D cy B kd n (cvV b0)) args s 0 (6 * 0) (AA B kd n)) D cy B kd n 10 b0 0 63 [(0, .ref (B + v0)), (1, .ref (B + v1)), (2, .ref (B + v2)), (3, .int v3), (4, .int v4), (7, .int v7)] [.long s0, .long s1] M (fX0_weigh_b63 N k6 v0 v1 v2 v3 v4 v7 s0 s1 M) := by
  unfold fX0_weigh_b63
  refine z_lor C dX0_weigh_63 ?_
  refine z_lstore C 5 (ls1 := [(5, .long (s1 ||| s0)), (0, .ref (B + v0)), (1, .ref (B + v1)), (2, .ref (B + v2)), (3, .int v3), (4, .int v4), (7, .int v7)]) dX0_weigh_64 (by decide) rfl ?_
  refine z_iinc C 7 6 (v := v7) (v1 := (v7 + (1 : Int32))) (ls1 := [(7, .int (v7 + (1 : Int32))), (5, .long (s1 ||| s0)), (0, .ref (B + v0)), (1, .ref (B + v1)), (2, .ref (B + v2)), (3, .int v3), (4, .int v4)]) dX0_weigh_66 rfl rfl (by decide) rfl ?_
  refine z_goto C 6 dX0_weigh_69 rfl ?_
  exact z_jump (ls1 := [(0, .ref (B + v0)), (1, .ref (B + v1)), (2, .ref (B + v2)), (3, .int v3), (4, .int v4), (5, .long (s1 ||| s0)), (7, .int (v7 + (1 : Int32)))]) (Nat.le_of_ble_eq_true rfl) [2, 3, 4, 5, 6, 1, 0] rfl (hk6 (s1 ||| s0) (v7 + (1 : Int32)) M)
set_option maxHeartbeats 4000000 in
set_option maxRecDepth 100000 in
theorem z_fX0_weigh_l6_s {p : Program} {l : Launch} {e : Env} {s : State} {m : MethodId} {args : Array Value} {below : List Frame} {meth : Method} {c : Code} {D : va_G} {cy : Nat → ClassId} {B : Nat} {kd : Nat → Nat} {n : Nat} {sa sv : Nat → Nat} (C : zC p l s m args meth c D cy B kd n sa sv RX0 cX0_weigh 10) (ht : ∀ x ∈ c.exceptionTable.toList, False) (hr : meth.sig.returnType = none) {b0 : Mem} (N : Nat) (v0 : Nat) (v1 : Nat) (v2 : Nat) (v3 : Int32) (v4 : Int32) (k6 : Int64 → Int32 → Mem → Option Mem) (v5 : Int64) (v7 : Int32) (M : Mem) (h0 : kd v0 = 0) (h1 : kd v1 = 5) (h2 : kd v2 = 6)  (hk6 : ∀ (v5 : Int64) (v7 : Int32) (M : Mem), Z p l e (rmz 2 0) s m args below meth c (vx_MQ below (QcR D cy B kd n (cvV b0)) (XcR D cy B kd n (cvV b0)) args s 0 (6 * 0) (AA B kd n)) D cy B kd n 10 b0 0 6 [(0, .ref (B + v0)), (1, .ref (B + v1)), (2, .ref (B + v2)), (3, .int v3), (4, .int v4), (5, .long v5), (7, .int v7)] [] M (k6 v5 v7 M)) : Z p l e (rmz 2 0) s m args below meth c (vx_MQ below (QcR D cy B kd n (cvV b0)) (XcR D cy B kd n (cvV b0)) args s 0 (6 * 0) (AA B kd n)) D cy B kd n 10 b0 0 6 [(0, .ref (B + v0)), (1, .ref (B + v1)), (2, .ref (B + v2)), (3, .int v3), (4, .int v4), (5, .long v5), (7, .int v7)] [] M (fX0_weigh_l6_s N v0 v1 v2 v3 v4 k6 v5 v7 M) := by
  unfold fX0_weigh_l6_s
  refine z_iload C 6 dX0_weigh_6 rfl ?_
  refine z_aload_n C 0 0 dX0_weigh_8 rfl rfl ?_
  refine z_getI (k := 5) C cl0 h0 rfl gw_2_107 rfl dX0_weigh_9 ?_
  refine z_icmp_ge C 72 dX0_weigh_12 rfl (fun _ => ?_) (fun _ => ?_)
  · refine z_aload_n C 0 0 dX0_weigh_72 rfl rfl ?_
    refine z_aload_n C 1 1 dX0_weigh_73 rfl rfl ?_
    refine z_getR (k := 8) C cl5 h1 rfl gw_1_150 rfl dX0_weigh_74 ?_
    have j1 : kd (v1 + 1) = 2 := zkd C h1 (k := 8) rfl
    refine z_lload C 5 dX0_weigh_77 rfl ?_
    refine z_iconst C dX0_weigh_79 rfl ?_
    refine z_callV_pI (As := [.ref (B + (v1 + 1)), .long v5, .int (-1 : Int32)]) (rest := []) C rfl (ctX0_liesWithin (zG_of C) N v0 (v1 + 1) v5 (-1 : Int32) h0 j1 M) cw_RX0_100 rfl (okM_X0_liesWithin) rfl cl0 h0 (okR_of rfl) (Nat.le_of_ble_eq_true rfl) dX0_weigh_80 (fun qj2 _ => ?_)
    refine z_istore C 7 (ls1 := [(7, .int qj2), (0, .ref (B + v0)), (1, .ref (B + v1)), (2, .ref (B + v2)), (3, .int v3), (4, .int v4), (5, .long v5)]) dX0_weigh_83 (by decide) rfl ?_
    refine z_iload_n C 3 4 dX0_weigh_85 rfl rfl ?_
    refine z_iconst C dX0_weigh_86 rfl ?_
    refine z_iload C 5 dX0_weigh_87 rfl ?_
    refine z_imul C dX0_weigh_89 ?_
    refine z_iadd C dX0_weigh_90 ?_
    refine z_istore C 8 (ls1 := [(8, .int (v3 + ((4 : Int32) * v4))), (7, .int qj2), (0, .ref (B + v0)), (1, .ref (B + v1)), (2, .ref (B + v2)), (3, .int v3), (4, .int v4), (5, .long v5)]) dX0_weigh_91 (by decide) rfl ?_
    refine z_aload_n C 0 2 dX0_weigh_93 rfl rfl ?_
    refine z_getI (k := 2) C cl0 h0 rfl gw_2_102 rfl dX0_weigh_94 ?_
    refine z_iconst C dX0_weigh_97 rfl ?_
    refine z_icmp_eq C 145 dX0_weigh_98 rfl (fun _ => ?_) (fun _ => ?_)
    · exact z_jump (ls1 := [(0, .ref (B + v0)), (3, .int v3), (4, .int v4), (7, .int qj2), (8, .int (v3 + ((4 : Int32) * v4)))]) (Nat.le_of_ble_eq_true rfl) [2, 5, 6, 1, 0] rfl (z_fX0_weigh_b145 C ht hr N v0 v3 v4 qj2 (v3 + ((4 : Int32) * v4)) M h0)
    · refine z_iload C 1 dX0_weigh_101 rfl ?_
      refine z_aload_n C 0 2 dX0_weigh_103 rfl rfl ?_
      refine z_getI (k := 1) C cl0 h0 rfl gw_2_100 rfl dX0_weigh_104 ?_
      refine z_icmp_lt C 145 dX0_weigh_107 rfl (fun _ => ?_) (fun _ => ?_)
      · exact z_jump (ls1 := [(0, .ref (B + v0)), (3, .int v3), (4, .int v4), (7, .int qj2), (8, .int (v3 + ((4 : Int32) * v4)))]) (Nat.le_of_ble_eq_true rfl) [2, 5, 6, 1, 0] rfl (z_fX0_weigh_b145 C ht hr N v0 v3 v4 qj2 (v3 + ((4 : Int32) * v4)) M h0)
      · refine z_iload C 1 dX0_weigh_110 rfl ?_
        refine z_aload_n C 0 2 dX0_weigh_112 rfl rfl ?_
        refine z_getI (k := 1) C cl0 h0 rfl gw_2_100 rfl dX0_weigh_113 ?_
        refine z_icmp_ne C 149 dX0_weigh_116 rfl (fun _ => ?_) (fun _ => ?_)
        · refine z_iload C 0 dX0_weigh_119 rfl ?_
          refine z_aload_n C 0 2 dX0_weigh_121 rfl rfl ?_
          refine z_getI (k := 4) C cl0 h0 rfl gw_2_106 rfl dX0_weigh_122 ?_
          refine z_icmp_lt C 145 dX0_weigh_125 rfl (fun _ => ?_) (fun _ => ?_)
          · exact z_jump (ls1 := [(0, .ref (B + v0)), (3, .int v3), (4, .int v4), (7, .int qj2), (8, .int (v3 + ((4 : Int32) * v4)))]) (Nat.le_of_ble_eq_true rfl) [2, 5, 6, 1, 0] rfl (z_fX0_weigh_b145 C ht hr N v0 v3 v4 qj2 (v3 + ((4 : Int32) * v4)) M h0)
          · refine z_iload C 0 dX0_weigh_128 rfl ?_
            refine z_aload_n C 0 2 dX0_weigh_130 rfl rfl ?_
            refine z_getI (k := 4) C cl0 h0 rfl gw_2_106 rfl dX0_weigh_131 ?_
            refine z_icmp_ne C 149 dX0_weigh_134 rfl (fun _ => ?_) (fun _ => ?_)
            · refine z_iload_n C 3 5 dX0_weigh_137 rfl rfl ?_
              refine z_aload_n C 0 2 dX0_weigh_138 rfl rfl ?_
              refine z_getI (k := 2) C cl0 h0 rfl gw_2_102 rfl dX0_weigh_139 ?_
              refine z_icmp_ge C 149 dX0_weigh_142 rfl (fun _ => ?_) (fun _ => ?_)
              · exact z_jump (ls1 := [(0, .ref (B + v0)), (3, .int v3), (4, .int v4), (7, .int qj2), (8, .int (v3 + ((4 : Int32) * v4)))]) (Nat.le_of_ble_eq_true rfl) [2, 5, 6, 1, 0] rfl (z_fX0_weigh_b149 C ht hr N v0 v3 v4 qj2 (v3 + ((4 : Int32) * v4)) M h0)
              · exact z_jump (ls1 := [(0, .ref (B + v0)), (3, .int v3), (4, .int v4), (7, .int qj2), (8, .int (v3 + ((4 : Int32) * v4)))]) (Nat.le_of_ble_eq_true rfl) [2, 5, 6, 1, 0] rfl (z_fX0_weigh_b145 C ht hr N v0 v3 v4 qj2 (v3 + ((4 : Int32) * v4)) M h0)
            · exact z_jump (ls1 := [(0, .ref (B + v0)), (3, .int v3), (4, .int v4), (7, .int qj2), (8, .int (v3 + ((4 : Int32) * v4)))]) (Nat.le_of_ble_eq_true rfl) [2, 5, 6, 1, 0] rfl (z_fX0_weigh_b149 C ht hr N v0 v3 v4 qj2 (v3 + ((4 : Int32) * v4)) M h0)
        · exact z_jump (ls1 := [(0, .ref (B + v0)), (3, .int v3), (4, .int v4), (7, .int qj2), (8, .int (v3 + ((4 : Int32) * v4)))]) (Nat.le_of_ble_eq_true rfl) [2, 5, 6, 1, 0] rfl (z_fX0_weigh_b149 C ht hr N v0 v3 v4 qj2 (v3 + ((4 : Int32) * v4)) M h0)
  · refine z_aload_n C 0 0 dX0_weigh_15 rfl rfl ?_
    refine z_getR (k := 8) C cl0 h0 rfl gw_2_110 rfl dX0_weigh_16 ?_
    have j3 : kd (v0 + 3) = 35 := zkd C h0 (k := 8) rfl
    refine z_iload C 6 dX0_weigh_19 rfl ?_
    refine z_dup2 C dX0_weigh_21 rfl rfl ?_
    refine z_lald C j3 rfl (by decide) dX0_weigh_22 (fun j4 => ?_)
    refine z_lconst (v := 1) C dX0_weigh_23 rfl ?_
    refine z_aload_n C 2 2 dX0_weigh_24 rfl rfl ?_
    refine z_iload C 4 dX0_weigh_25 rfl ?_
    refine z_iconst C dX0_weigh_27 rfl ?_
    refine z_isub C dX0_weigh_28 ?_
    refine z_iload C 6 dX0_weigh_29 rfl ?_
    refine z_iload_n C 3 3 dX0_weigh_31 rfl rfl ?_
    refine z_callV_I (As := [.int (v4 - (1 : Int32)), .int v7, .int v3]) (rest := [.long (1 : Int64), .long (rJ M (v0 + 3) v7.toNatClampNeg), .int v7, .ref (B + (v0 + 3))]) C rfl (ctX6_placeOf (zG_of C) N v2 (v4 - (1 : Int32)) v7 v3 h2 M) cw_RX0_130 rfl (okM_X6_placeOf) rfl cl6 h2 (okR_of rfl) (Nat.le_of_ble_eq_true rfl) dX0_weigh_32 (fun qj5 _ => ?_)
    refine z_lshl C dX0_weigh_35 ?_
    refine z_lor C dX0_weigh_36 ?_
    refine z_last C j3 rfl (by decide) dX0_weigh_37 (fun _ => ?_)
    refine z_lload C 5 dX0_weigh_38 rfl ?_
    refine z_aload_n C 1 1 dX0_weigh_40 rfl rfl ?_
    refine z_getR (k := 8) C cl5 h1 rfl gw_1_150 rfl dX0_weigh_41 ?_
    have j6 : kd (v1 + 1) = 2 := zkd C h1 (k := 8) rfl
    refine z_iload C 6 dX0_weigh_44 rfl ?_
    refine z_callV_pB (As := [.int v7]) (rest := [.long v5]) C rfl (ctX2_has (zG_of C) (v1 + 1) v7 j6 (wJ qj5.2 (v0 + 3) v7.toNatClampNeg ((rJ M (v0 + 3) v7.toNatClampNeg) ||| (shlJ (1 : Int64) qj5.1)))) cw_RX0_87 rfl (okM_X2_has) rfl cl2 j6 (okR_of rfl) (Nat.le_of_ble_eq_true rfl) dX0_weigh_46 (fun qj7 _ => ?_)
    refine z_if_eqB C 62 dX0_weigh_49 rfl (fun _ => ?_) (fun _ => ?_)
    · refine z_aload_n C 0 0 dX0_weigh_52 rfl rfl ?_
      refine z_getR (k := 8) C cl0 h0 rfl gw_2_110 rfl dX0_weigh_53 ?_
      have j8 : kd (v0 + 3) = 35 := zkd C h0 (k := 8) rfl
      refine z_iload C 6 dX0_weigh_56 rfl ?_
      refine z_lald C j8 rfl (by decide) dX0_weigh_58 (fun j9 => ?_)
      refine z_goto C 63 dX0_weigh_59 rfl ?_
      exact z_jump (ls1 := [(0, .ref (B + v0)), (1, .ref (B + v1)), (2, .ref (B + v2)), (3, .int v3), (4, .int v4), (7, .int v7)]) (Nat.le_of_ble_eq_true rfl) [0, 1, 2, 3, 4, 6] rfl (z_fX0_weigh_b63 C ht hr N k6 v0 v1 v2 v3 v4 v7 (rJ (wJ qj5.2 (v0 + 3) v7.toNatClampNeg ((rJ M (v0 + 3) v7.toNatClampNeg) ||| (shlJ (1 : Int64) qj5.1))) (v0 + 3) v7.toNatClampNeg) v5 (wJ qj5.2 (v0 + 3) v7.toNatClampNeg ((rJ M (v0 + 3) v7.toNatClampNeg) ||| (shlJ (1 : Int64) qj5.1))) h0 h1 h2 hk6)
    · refine z_lconst (v := 0) C dX0_weigh_62 rfl ?_
      exact z_jump (ls1 := [(0, .ref (B + v0)), (1, .ref (B + v1)), (2, .ref (B + v2)), (3, .int v3), (4, .int v4), (7, .int v7)]) (Nat.le_of_ble_eq_true rfl) [0, 1, 2, 3, 4, 6] rfl (z_fX0_weigh_b63 C ht hr N k6 v0 v1 v2 v3 v4 v7 (0 : Int64) v5 (wJ qj5.2 (v0 + 3) v7.toNatClampNeg ((rJ M (v0 + 3) v7.toNatClampNeg) ||| (shlJ (1 : Int64) qj5.1))) h0 h1 h2 hk6)
theorem z_fX0_weigh_l6_i {p : Program} {l : Launch} {e : Env} {s : State} {m : MethodId} {args : Array Value} {below : List Frame} {meth : Method} {c : Code} {D : va_G} {cy : Nat → ClassId} {B : Nat} {kd : Nat → Nat} {n : Nat} {sa sv : Nat → Nat} (C : zC p l s m args meth c D cy B kd n sa sv RX0 cX0_weigh 10) (ht : ∀ x ∈ c.exceptionTable.toList, False) (hr : meth.sig.returnType = none) {b0 : Mem} (N : Nat) (v0 : Nat) (v1 : Nat) (v2 : Nat) (v3 : Int32) (v4 : Int32) (h0 : kd v0 = 0) (h1 : kd v1 = 5) (h2 : kd v2 = 6)  (fu : Nat) : ∀ (v5 : Int64) (v7 : Int32) (M : Mem), Z p l e (rmz 2 0) s m args below meth c (vx_MQ below (QcR D cy B kd n (cvV b0)) (XcR D cy B kd n (cvV b0)) args s 0 (6 * 0) (AA B kd n)) D cy B kd n 10 b0 0 6 [(0, .ref (B + v0)), (1, .ref (B + v1)), (2, .ref (B + v2)), (3, .int v3), (4, .int v4), (5, .long v5), (7, .int v7)] [] M (fX0_weigh_l6 N v0 v1 v2 v3 v4 fu v5 v7 M) := by
  induction fu with
  | zero => intro v5 v7 M; exact z_none
  | succ fu ih => intro v5 v7 M; exact z_fX0_weigh_l6_s C ht hr N v0 v1 v2 v3 v4 (fX0_weigh_l6 N v0 v1 v2 v3 v4 fu) v5 v7 M h0 h1 h2 (fun v5 v7 M => ih v5 v7 M)
theorem z_fX0_weigh_l6 {p : Program} {l : Launch} {e : Env} {s : State} {m : MethodId} {args : Array Value} {below : List Frame} {meth : Method} {c : Code} {D : va_G} {cy : Nat → ClassId} {B : Nat} {kd : Nat → Nat} {n : Nat} {sa sv : Nat → Nat} (C : zC p l s m args meth c D cy B kd n sa sv RX0 cX0_weigh 10) (ht : ∀ x ∈ c.exceptionTable.toList, False) (hr : meth.sig.returnType = none) {b0 : Mem} (N : Nat) (v0 : Nat) (v1 : Nat) (v2 : Nat) (v3 : Int32) (v4 : Int32) (fu : Nat) (v5 : Int64) (v7 : Int32) (M : Mem) (h0 : kd v0 = 0) (h1 : kd v1 = 5) (h2 : kd v2 = 6)  : Z p l e (rmz 2 0) s m args below meth c (vx_MQ below (QcR D cy B kd n (cvV b0)) (XcR D cy B kd n (cvV b0)) args s 0 (6 * 0) (AA B kd n)) D cy B kd n 10 b0 0 6 [(0, .ref (B + v0)), (1, .ref (B + v1)), (2, .ref (B + v2)), (3, .int v3), (4, .int v4), (5, .long v5), (7, .int v7)] [] M (fX0_weigh_l6 N v0 v1 v2 v3 v4 fu v5 v7 M) := z_fX0_weigh_l6_i C ht hr N v0 v1 v2 v3 v4 h0 h1 h2 fu v5 v7 M
set_option maxHeartbeats 4000000 in
set_option maxRecDepth 100000 in
theorem ctX0_weigh {l : Launch} {D : va_G} {cy : Nat → ClassId} {B : Nat} {kd : Nat → Nat} {n : Nat} {sa sv : Nat → Nat} (G : zG l kd n) (N : Nat) (v0 : Nat) (v1 : Nat) (v2 : Nat) (v3 : Int32) (v4 : Int32) (h0 : kd v0 = 0) (h1 : kd v1 = 5) (h2 : kd v2 = 6) (M : Mem) : CT l D cy B kd n sa sv 2 0 yX0_weigh cX0_weigh 10 (none) cvV [.ref (B + v0), .ref (B + v1), .ref (B + v2), .int v3, .int v4] M (fX0_weigh N v0 v1 v2 v3 v4 M) := by
  refine ct_of (by decide) G.1 G.2 (Nat.le_of_ble_eq_true rfl) (ls := [(0, .ref (B + v0)), (1, .ref (B + v1)), (2, .ref (B + v2)), (3, .int v3), (4, .int v4)]) rfl ?_
  intro p e s m args below meth c b0 C ht hr
  unfold fX0_weigh
  refine z_lconst (v := 0) C dX0_weigh_0 rfl ?_
  refine z_lstore C 5 (ls1 := [(5, .long (0 : Int64)), (0, .ref (B + v0)), (1, .ref (B + v1)), (2, .ref (B + v2)), (3, .int v3), (4, .int v4)]) dX0_weigh_1 (by decide) rfl ?_
  refine z_iconst C dX0_weigh_3 rfl ?_
  refine z_istore C 7 (ls1 := [(7, .int (0 : Int32)), (5, .long (0 : Int64)), (0, .ref (B + v0)), (1, .ref (B + v1)), (2, .ref (B + v2)), (3, .int v3), (4, .int v4)]) dX0_weigh_4 (by decide) rfl ?_
  exact z_jump (ls1 := [(0, .ref (B + v0)), (1, .ref (B + v1)), (2, .ref (B + v2)), (3, .int v3), (4, .int v4), (5, .long (0 : Int64)), (7, .int (0 : Int32))]) (Nat.le_of_ble_eq_true rfl) [2, 3, 4, 5, 6, 1, 0] rfl (z_fX0_weigh_l6 C ht hr N v0 v1 v2 v3 v4 N (0 : Int64) (0 : Int32) M h0 h1 h2)
set_option maxHeartbeats 4000000 in
set_option maxRecDepth 100000 in
theorem z_fX0_findChosen_b77 {p : Program} {l : Launch} {e : Env} {s : State} {m : MethodId} {args : Array Value} {below : List Frame} {meth : Method} {c : Code} {D : va_G} {cy : Nat → ClassId} {B : Nat} {kd : Nat → Nat} {n : Nat} {sa sv : Nat → Nat} (C : zC p l s m args meth c D cy B kd n sa sv RX0 cX0_findChosen 6) (ht : ∀ x ∈ c.exceptionTable.toList, False) (hr : meth.sig.returnType = some (FieldType.boolean)) {b0 : Bool × Mem}  (N : Nat) (k23 : Int32 → Mem → Option (Bool × Mem)) (v0 : Nat) (v1 : Nat) (v2 : Nat) (v3 : Int32) (v4 : Int32) (M : Mem) (h0 : kd v0 = 0) (h1 : kd v1 = 5) (h2 : kd v2 = 6) (hk23 : ∀ (v4 : Int32) (M : Mem), Z p l e (rmz 3 0) s m args below meth c (vx_MQ below (QcR D cy B kd n (cvB b0)) (XcR D cy B kd n (cvB b0)) args s 0 (6 * 0) (AA B kd n)) D cy B kd n 6 b0 0 23 [(0, .ref (B + v0)), (1, .ref (B + v1)), (2, .ref (B + v2)), (3, .int v3), (4, .int v4)] [] M (k23 v4 M)) : Z p l e (rmz 3 0) s m args below meth c (vx_MQ below (QcR D cy B kd n (cvB b0)) (XcR D cy B kd n (cvB b0)) args s 0 (6 * 0) (AA B kd n)) D cy B kd n 6 b0 0 77 [(0, .ref (B + v0)), (1, .ref (B + v1)), (2, .ref (B + v2)), (3, .int v3), (4, .int v4)] [] M (fX0_findChosen_b77 N k23 v0 v1 v2 v3 v4 M) := by
  unfold fX0_findChosen_b77
  refine z_iinc C 4 4 (v := v4) (v1 := (v4 + (8 : Int32))) (ls1 := [(4, .int (v4 + (8 : Int32))), (0, .ref (B + v0)), (1, .ref (B + v1)), (2, .ref (B + v2)), (3, .int v3)]) dX0_findChosen_77 rfl rfl (by decide) rfl ?_
  refine z_goto C 23 dX0_findChosen_80 rfl ?_
  exact z_jump (ls1 := [(0, .ref (B + v0)), (1, .ref (B + v1)), (2, .ref (B + v2)), (3, .int v3), (4, .int (v4 + (8 : Int32)))]) (Nat.le_of_ble_eq_true rfl) [1, 2, 3, 4, 0] rfl (hk23 (v4 + (8 : Int32)) M)
set_option maxHeartbeats 4000000 in
set_option maxRecDepth 100000 in
theorem z_fX0_findChosen_l41_s {p : Program} {l : Launch} {e : Env} {s : State} {m : MethodId} {args : Array Value} {below : List Frame} {meth : Method} {c : Code} {D : va_G} {cy : Nat → ClassId} {B : Nat} {kd : Nat → Nat} {n : Nat} {sa sv : Nat → Nat} (C : zC p l s m args meth c D cy B kd n sa sv RX0 cX0_findChosen 6) (ht : ∀ x ∈ c.exceptionTable.toList, False) (hr : meth.sig.returnType = some (FieldType.boolean)) {b0 : Bool × Mem} (N : Nat) (k23 : Int32 → Mem → Option (Bool × Mem)) (v0 : Nat) (v1 : Nat) (v2 : Nat) (v3 : Int32) (v4 : Int32) (k41 : Int32 → Mem → Option (Bool × Mem)) (v5 : Int32) (M : Mem) (h0 : kd v0 = 0) (h1 : kd v1 = 5) (h2 : kd v2 = 6) (hk23 : ∀ (v4 : Int32) (M : Mem), Z p l e (rmz 3 0) s m args below meth c (vx_MQ below (QcR D cy B kd n (cvB b0)) (XcR D cy B kd n (cvB b0)) args s 0 (6 * 0) (AA B kd n)) D cy B kd n 6 b0 0 23 [(0, .ref (B + v0)), (1, .ref (B + v1)), (2, .ref (B + v2)), (3, .int v3), (4, .int v4)] [] M (k23 v4 M)) (hk41 : ∀ (v5 : Int32) (M : Mem), Z p l e (rmz 3 0) s m args below meth c (vx_MQ below (QcR D cy B kd n (cvB b0)) (XcR D cy B kd n (cvB b0)) args s 0 (6 * 0) (AA B kd n)) D cy B kd n 6 b0 0 41 [(0, .ref (B + v0)), (1, .ref (B + v1)), (2, .ref (B + v2)), (3, .int v3), (4, .int v4), (5, .int v5)] [] M (k41 v5 M)) : Z p l e (rmz 3 0) s m args below meth c (vx_MQ below (QcR D cy B kd n (cvB b0)) (XcR D cy B kd n (cvB b0)) args s 0 (6 * 0) (AA B kd n)) D cy B kd n 6 b0 0 41 [(0, .ref (B + v0)), (1, .ref (B + v1)), (2, .ref (B + v2)), (3, .int v3), (4, .int v4), (5, .int v5)] [] M (fX0_findChosen_l41_s N k23 v0 v1 v2 v3 v4 k41 v5 M) := by
  unfold fX0_findChosen_l41_s
  refine z_iload C 5 dX0_findChosen_41 rfl ?_
  refine z_aload_n C 2 2 dX0_findChosen_43 rfl rfl ?_
  refine z_getI (k := 3) C cl6 h2 rfl gw_1_63 rfl dX0_findChosen_44 ?_
  refine z_icmp_gt C 77 dX0_findChosen_47 rfl (fun _ => ?_) (fun _ => ?_)
  · exact z_jump (ls1 := [(0, .ref (B + v0)), (1, .ref (B + v1)), (2, .ref (B + v2)), (3, .int v3), (4, .int v4)]) (Nat.le_of_ble_eq_true rfl) [0, 1, 2, 3, 4] rfl (z_fX0_findChosen_b77 C ht hr N k23 v0 v1 v2 v3 v4 M h0 h1 h2 hk23)
  · refine z_iload C 4 dX0_findChosen_50 rfl ?_
    refine z_iconst C dX0_findChosen_52 rfl ?_
    refine z_iload C 5 dX0_findChosen_53 rfl ?_
    refine z_imul C dX0_findChosen_55 ?_
    refine z_iadd C dX0_findChosen_56 ?_
    refine z_iload_n C 3 3 dX0_findChosen_57 rfl rfl ?_
    refine z_icmp_gt C 77 dX0_findChosen_58 rfl (fun _ => ?_) (fun _ => ?_)
    · exact z_jump (ls1 := [(0, .ref (B + v0)), (1, .ref (B + v1)), (2, .ref (B + v2)), (3, .int v3), (4, .int v4)]) (Nat.le_of_ble_eq_true rfl) [0, 1, 2, 3, 4] rfl (z_fX0_findChosen_b77 C ht hr N k23 v0 v1 v2 v3 v4 M h0 h1 h2 hk23)
    · refine z_aload_n C 0 0 dX0_findChosen_61 rfl rfl ?_
      refine z_aload_n C 1 1 dX0_findChosen_62 rfl rfl ?_
      refine z_aload_n C 2 2 dX0_findChosen_63 rfl rfl ?_
      refine z_iload C 4 dX0_findChosen_64 rfl ?_
      refine z_iload C 5 dX0_findChosen_66 rfl ?_
      refine z_callV_V (As := [.ref (B + v1), .ref (B + v2), .int v4, .int v5]) (rest := []) C rfl (ctX0_weigh (zG_of C) N v0 v1 v2 v4 v5 h0 h1 h2 M) cw_RX0_126 rfl (okM_X0_weigh) rfl cl0 h0 (okR_of rfl) (Nat.le_of_ble_eq_true rfl) dX0_findChosen_68 (fun qj1 _ => ?_)
      refine z_iinc C 5 5 (v := v5) (v1 := (v5 + (1 : Int32))) (ls1 := [(5, .int (v5 + (1 : Int32))), (0, .ref (B + v0)), (1, .ref (B + v1)), (2, .ref (B + v2)), (3, .int v3), (4, .int v4)]) dX0_findChosen_71 rfl rfl (by decide) rfl ?_
      refine z_goto C 41 dX0_findChosen_74 rfl ?_
      exact z_jump (ls1 := [(0, .ref (B + v0)), (1, .ref (B + v1)), (2, .ref (B + v2)), (3, .int v3), (4, .int v4), (5, .int (v5 + (1 : Int32)))]) (Nat.le_of_ble_eq_true rfl) [1, 2, 3, 4, 5, 0] rfl (hk41 (v5 + (1 : Int32)) qj1)
theorem z_fX0_findChosen_l41_i {p : Program} {l : Launch} {e : Env} {s : State} {m : MethodId} {args : Array Value} {below : List Frame} {meth : Method} {c : Code} {D : va_G} {cy : Nat → ClassId} {B : Nat} {kd : Nat → Nat} {n : Nat} {sa sv : Nat → Nat} (C : zC p l s m args meth c D cy B kd n sa sv RX0 cX0_findChosen 6) (ht : ∀ x ∈ c.exceptionTable.toList, False) (hr : meth.sig.returnType = some (FieldType.boolean)) {b0 : Bool × Mem} (N : Nat) (k23 : Int32 → Mem → Option (Bool × Mem)) (v0 : Nat) (v1 : Nat) (v2 : Nat) (v3 : Int32) (v4 : Int32) (h0 : kd v0 = 0) (h1 : kd v1 = 5) (h2 : kd v2 = 6) (hk23 : ∀ (v4 : Int32) (M : Mem), Z p l e (rmz 3 0) s m args below meth c (vx_MQ below (QcR D cy B kd n (cvB b0)) (XcR D cy B kd n (cvB b0)) args s 0 (6 * 0) (AA B kd n)) D cy B kd n 6 b0 0 23 [(0, .ref (B + v0)), (1, .ref (B + v1)), (2, .ref (B + v2)), (3, .int v3), (4, .int v4)] [] M (k23 v4 M)) (fu : Nat) : ∀ (v5 : Int32) (M : Mem), Z p l e (rmz 3 0) s m args below meth c (vx_MQ below (QcR D cy B kd n (cvB b0)) (XcR D cy B kd n (cvB b0)) args s 0 (6 * 0) (AA B kd n)) D cy B kd n 6 b0 0 41 [(0, .ref (B + v0)), (1, .ref (B + v1)), (2, .ref (B + v2)), (3, .int v3), (4, .int v4), (5, .int v5)] [] M (fX0_findChosen_l41 N k23 v0 v1 v2 v3 v4 fu v5 M) := by
  induction fu with
  | zero => intro v5 M; exact z_none
  | succ fu ih => intro v5 M; exact z_fX0_findChosen_l41_s C ht hr N k23 v0 v1 v2 v3 v4 (fX0_findChosen_l41 N k23 v0 v1 v2 v3 v4 fu) v5 M h0 h1 h2 hk23 (fun v5 M => ih v5 M)
theorem z_fX0_findChosen_l41 {p : Program} {l : Launch} {e : Env} {s : State} {m : MethodId} {args : Array Value} {below : List Frame} {meth : Method} {c : Code} {D : va_G} {cy : Nat → ClassId} {B : Nat} {kd : Nat → Nat} {n : Nat} {sa sv : Nat → Nat} (C : zC p l s m args meth c D cy B kd n sa sv RX0 cX0_findChosen 6) (ht : ∀ x ∈ c.exceptionTable.toList, False) (hr : meth.sig.returnType = some (FieldType.boolean)) {b0 : Bool × Mem} (N : Nat) (k23 : Int32 → Mem → Option (Bool × Mem)) (v0 : Nat) (v1 : Nat) (v2 : Nat) (v3 : Int32) (v4 : Int32) (fu : Nat) (v5 : Int32) (M : Mem) (h0 : kd v0 = 0) (h1 : kd v1 = 5) (h2 : kd v2 = 6) (hk23 : ∀ (v4 : Int32) (M : Mem), Z p l e (rmz 3 0) s m args below meth c (vx_MQ below (QcR D cy B kd n (cvB b0)) (XcR D cy B kd n (cvB b0)) args s 0 (6 * 0) (AA B kd n)) D cy B kd n 6 b0 0 23 [(0, .ref (B + v0)), (1, .ref (B + v1)), (2, .ref (B + v2)), (3, .int v3), (4, .int v4)] [] M (k23 v4 M)) : Z p l e (rmz 3 0) s m args below meth c (vx_MQ below (QcR D cy B kd n (cvB b0)) (XcR D cy B kd n (cvB b0)) args s 0 (6 * 0) (AA B kd n)) D cy B kd n 6 b0 0 41 [(0, .ref (B + v0)), (1, .ref (B + v1)), (2, .ref (B + v2)), (3, .int v3), (4, .int v4), (5, .int v5)] [] M (fX0_findChosen_l41 N k23 v0 v1 v2 v3 v4 fu v5 M) := z_fX0_findChosen_l41_i C ht hr N k23 v0 v1 v2 v3 v4 h0 h1 h2 hk23 fu v5 M
set_option maxHeartbeats 4000000 in
set_option maxRecDepth 100000 in
theorem z_fX0_findChosen_l23_s {p : Program} {l : Launch} {e : Env} {s : State} {m : MethodId} {args : Array Value} {below : List Frame} {meth : Method} {c : Code} {D : va_G} {cy : Nat → ClassId} {B : Nat} {kd : Nat → Nat} {n : Nat} {sa sv : Nat → Nat} (C : zC p l s m args meth c D cy B kd n sa sv RX0 cX0_findChosen 6) (ht : ∀ x ∈ c.exceptionTable.toList, False) (hr : meth.sig.returnType = some (FieldType.boolean)) {b0 : Bool × Mem} (N : Nat) (v0 : Nat) (v1 : Nat) (v2 : Nat) (v3 : Int32) (k23 : Int32 → Mem → Option (Bool × Mem)) (v4 : Int32) (M : Mem) (h0 : kd v0 = 0) (h1 : kd v1 = 5) (h2 : kd v2 = 6)  (hk23 : ∀ (v4 : Int32) (M : Mem), Z p l e (rmz 3 0) s m args below meth c (vx_MQ below (QcR D cy B kd n (cvB b0)) (XcR D cy B kd n (cvB b0)) args s 0 (6 * 0) (AA B kd n)) D cy B kd n 6 b0 0 23 [(0, .ref (B + v0)), (1, .ref (B + v1)), (2, .ref (B + v2)), (3, .int v3), (4, .int v4)] [] M (k23 v4 M)) : Z p l e (rmz 3 0) s m args below meth c (vx_MQ below (QcR D cy B kd n (cvB b0)) (XcR D cy B kd n (cvB b0)) args s 0 (6 * 0) (AA B kd n)) D cy B kd n 6 b0 0 23 [(0, .ref (B + v0)), (1, .ref (B + v1)), (2, .ref (B + v2)), (3, .int v3), (4, .int v4)] [] M (fX0_findChosen_l23_s N v0 v1 v2 v3 k23 v4 M) := by
  unfold fX0_findChosen_l23_s
  refine z_iload C 4 dX0_findChosen_23 rfl ?_
  refine z_bipush (v := 64) C dX0_findChosen_25 rfl ?_
  refine z_icmp_gt C 83 dX0_findChosen_27 rfl (fun _ => ?_) (fun _ => ?_)
  · refine z_aload_n C 0 0 dX0_findChosen_83 rfl rfl ?_
    refine z_getI (k := 2) C cl0 h0 rfl gw_2_102 rfl dX0_findChosen_84 ?_
    refine z_iconst C dX0_findChosen_87 rfl ?_
    refine z_icmp_eq C 95 dX0_findChosen_88 rfl (fun _ => ?_) (fun _ => ?_)
    · refine z_iconst C dX0_findChosen_95 rfl ?_
      exact z_zret C (v := false) hr (Nat.le_of_ble_eq_true rfl) dX0_findChosen_96 rfl
    · refine z_iconst C dX0_findChosen_91 rfl ?_
      refine z_goto C 96 dX0_findChosen_92 rfl ?_
      exact z_zret C (v := true) hr (Nat.le_of_ble_eq_true rfl) dX0_findChosen_96 rfl
  · refine z_aload_n C 0 0 dX0_findChosen_30 rfl rfl ?_
    refine z_getR (k := 8) C cl0 h0 rfl gw_2_110 rfl dX0_findChosen_31 ?_
    have j1 : kd (v0 + 3) = 35 := zkd C h0 (k := 8) rfl
    refine z_lconst (v := 0) C dX0_findChosen_34 rfl ?_
    refine z_callS_V (As := [.ref (B + (v0 + 3)), .long (0 : Int64)]) (rest := []) C rfl (ctJ7_fill_d0a16 (zG_of C) j1 rfl (by decide) (0 : Int64) M) cw_RX0_122 (okM_J7_fill_d0a16) rfl (okR_of rfl) (Nat.le_of_ble_eq_true rfl) dX0_findChosen_35 (fun qj2 _ => ?_)
    refine z_iconst C dX0_findChosen_38 rfl ?_
    refine z_istore C 5 (ls1 := [(5, .int (1 : Int32)), (0, .ref (B + v0)), (1, .ref (B + v1)), (2, .ref (B + v2)), (3, .int v3), (4, .int v4)]) dX0_findChosen_39 (by decide) rfl ?_
    exact z_jump (ls1 := [(0, .ref (B + v0)), (1, .ref (B + v1)), (2, .ref (B + v2)), (3, .int v3), (4, .int v4), (5, .int (1 : Int32))]) (Nat.le_of_ble_eq_true rfl) [1, 2, 3, 4, 5, 0] rfl (z_fX0_findChosen_l41 C ht hr N k23 v0 v1 v2 v3 v4 N (1 : Int32) qj2 h0 h1 h2 hk23)
theorem z_fX0_findChosen_l23_i {p : Program} {l : Launch} {e : Env} {s : State} {m : MethodId} {args : Array Value} {below : List Frame} {meth : Method} {c : Code} {D : va_G} {cy : Nat → ClassId} {B : Nat} {kd : Nat → Nat} {n : Nat} {sa sv : Nat → Nat} (C : zC p l s m args meth c D cy B kd n sa sv RX0 cX0_findChosen 6) (ht : ∀ x ∈ c.exceptionTable.toList, False) (hr : meth.sig.returnType = some (FieldType.boolean)) {b0 : Bool × Mem} (N : Nat) (v0 : Nat) (v1 : Nat) (v2 : Nat) (v3 : Int32) (h0 : kd v0 = 0) (h1 : kd v1 = 5) (h2 : kd v2 = 6)  (fu : Nat) : ∀ (v4 : Int32) (M : Mem), Z p l e (rmz 3 0) s m args below meth c (vx_MQ below (QcR D cy B kd n (cvB b0)) (XcR D cy B kd n (cvB b0)) args s 0 (6 * 0) (AA B kd n)) D cy B kd n 6 b0 0 23 [(0, .ref (B + v0)), (1, .ref (B + v1)), (2, .ref (B + v2)), (3, .int v3), (4, .int v4)] [] M (fX0_findChosen_l23 N v0 v1 v2 v3 fu v4 M) := by
  induction fu with
  | zero => intro v4 M; exact z_none
  | succ fu ih => intro v4 M; exact z_fX0_findChosen_l23_s C ht hr N v0 v1 v2 v3 (fX0_findChosen_l23 N v0 v1 v2 v3 fu) v4 M h0 h1 h2 (fun v4 M => ih v4 M)
theorem z_fX0_findChosen_l23 {p : Program} {l : Launch} {e : Env} {s : State} {m : MethodId} {args : Array Value} {below : List Frame} {meth : Method} {c : Code} {D : va_G} {cy : Nat → ClassId} {B : Nat} {kd : Nat → Nat} {n : Nat} {sa sv : Nat → Nat} (C : zC p l s m args meth c D cy B kd n sa sv RX0 cX0_findChosen 6) (ht : ∀ x ∈ c.exceptionTable.toList, False) (hr : meth.sig.returnType = some (FieldType.boolean)) {b0 : Bool × Mem} (N : Nat) (v0 : Nat) (v1 : Nat) (v2 : Nat) (v3 : Int32) (fu : Nat) (v4 : Int32) (M : Mem) (h0 : kd v0 = 0) (h1 : kd v1 = 5) (h2 : kd v2 = 6)  : Z p l e (rmz 3 0) s m args below meth c (vx_MQ below (QcR D cy B kd n (cvB b0)) (XcR D cy B kd n (cvB b0)) args s 0 (6 * 0) (AA B kd n)) D cy B kd n 6 b0 0 23 [(0, .ref (B + v0)), (1, .ref (B + v1)), (2, .ref (B + v2)), (3, .int v3), (4, .int v4)] [] M (fX0_findChosen_l23 N v0 v1 v2 v3 fu v4 M) := z_fX0_findChosen_l23_i C ht hr N v0 v1 v2 v3 h0 h1 h2 fu v4 M
set_option maxHeartbeats 4000000 in
set_option maxRecDepth 100000 in
theorem ctX0_findChosen {l : Launch} {D : va_G} {cy : Nat → ClassId} {B : Nat} {kd : Nat → Nat} {n : Nat} {sa sv : Nat → Nat} (G : zG l kd n) (N : Nat) (v0 : Nat) (v1 : Nat) (v2 : Nat) (v3 : Int32) (h0 : kd v0 = 0) (h1 : kd v1 = 5) (h2 : kd v2 = 6) (M : Mem) : CT l D cy B kd n sa sv 3 0 yX0_findChosen cX0_findChosen 6 (some (FieldType.boolean)) cvB [.ref (B + v0), .ref (B + v1), .ref (B + v2), .int v3] M (fX0_findChosen N v0 v1 v2 v3 M) := by
  refine ct_of (by decide) G.1 G.2 (Nat.le_of_ble_eq_true rfl) (ls := [(0, .ref (B + v0)), (1, .ref (B + v1)), (2, .ref (B + v2)), (3, .int v3)]) rfl ?_
  intro p e s m args below meth c b0 C ht hr
  unfold fX0_findChosen
  refine z_aload_n C 0 0 dX0_findChosen_0 rfl rfl ?_
  refine z_aload_n C 2 2 dX0_findChosen_1 rfl rfl ?_
  refine z_getI (k := 1) C cl6 h2 rfl gw_1_52 rfl dX0_findChosen_2 ?_
  refine z_sipush (v := 256) C dX0_findChosen_5 rfl ?_
  refine z_min C cw_RX0_32 ⟨Nat.le_of_ble_eq_true rfl, Nat.le_of_ble_eq_true rfl, Nat.le_of_ble_eq_true rfl, Nat.le_of_ble_eq_true rfl⟩ (Nat.le_of_ble_eq_true rfl) dX0_findChosen_8 ?_
  refine z_putI (k := 5) C cl0 h0 rfl gw_2_107 rfl rfl rfl dX0_findChosen_11 ?_
  refine z_aload_n C 0 0 dX0_findChosen_14 rfl rfl ?_
  refine z_iconst C dX0_findChosen_15 rfl ?_
  refine z_putI (k := 2) C cl0 h0 rfl gw_2_102 rfl rfl rfl dX0_findChosen_16 ?_
  refine z_bipush (v := 8) C dX0_findChosen_19 rfl ?_
  refine z_istore C 4 (ls1 := [(4, .int (8 : Int32)), (0, .ref (B + v0)), (1, .ref (B + v1)), (2, .ref (B + v2)), (3, .int v3)]) dX0_findChosen_21 (by decide) rfl ?_
  exact z_jump (ls1 := [(0, .ref (B + v0)), (1, .ref (B + v1)), (2, .ref (B + v2)), (3, .int v3), (4, .int (8 : Int32))]) (Nat.le_of_ble_eq_true rfl) [1, 2, 3, 4, 0] rfl (z_fX0_findChosen_l23 C ht hr N v0 v1 v2 v3 N (8 : Int32) (wI (wI M v0 5 (minI (rI M v2 1) (256 : Int32))) v0 2 (-1 : Int32)) h0 h1 h2)
