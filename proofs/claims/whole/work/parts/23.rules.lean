/-! X6_compute -/
def fX6_compute_b234 (N : Nat) (v0 : Nat) (M : Mem) : Option (Int32 × Mem) :=
  if inB (0 : Int32) 16 = true then some ((rI M (v0 + 6) (0 : Int32).toNatClampNeg), M) else none
def fX6_compute_b228 (N : Nat) (k6 : Int32 → Int32 → Mem → Option (Int32 × Mem)) (v0 : Nat) (v2 : Int32) (v3 : Int32) (v4 : Int32) (v5 : Int32) (v6 : Int32) (M : Mem) : Option (Int32 × Mem) :=
  k6 v5 (v6 + (1 : Int32)) M
def fX6_compute_b217 (N : Nat) (k6 : Int32 → Int32 → Mem → Option (Int32 × Mem)) (v0 : Nat) (v2 : Int32) (v3 : Int32) (v4 : Int32) (v5 : Int32) (v6 : Int32) (v8 : Int32) (M : Mem) : Option (Int32 × Mem) :=
  if inB (v5 - (1 : Int32)) 16 = true then fX6_compute_b228 N k6 v0 v2 v3 v4 v5 v6 (wI M (v0 + 6) ((v5 - (1 : Int32)).toNatClampNeg) v8) else none
def fX6_compute_b196 (N : Nat) (k6 : Int32 → Int32 → Mem → Option (Int32 × Mem)) (v0 : Nat) (v2 : Int32) (v3 : Int32) (v4 : Int32) (v5 : Int32) (v6 : Int32) (s0 : Int32) (M : Mem) : Option (Int32 × Mem) :=
  fX6_compute_b217 N k6 v0 v2 v3 v4 v5 v6 s0 M
def fX6_compute_b215 (N : Nat) (k6 : Int32 → Int32 → Mem → Option (Int32 × Mem)) (v0 : Nat) (v2 : Int32) (v3 : Int32) (v4 : Int32) (v5 : Int32) (v6 : Int32) (s0 : Int32) (M : Mem) : Option (Int32 × Mem) :=
  fX6_compute_b217 N k6 v0 v2 v3 v4 v5 v6 s0 M
def fX6_compute_b82 (N : Nat) (k6 : Int32 → Int32 → Mem → Option (Int32 × Mem)) (v0 : Nat) (v2 : Int32) (v3 : Int32) (v4 : Int32) (v5 : Int32) (v6 : Int32) (v7 : Int32) (M : Mem) : Option (Int32 × Mem) :=
  if (-3 : Int32) < v7 then fX6_compute_b228 N k6 v0 v2 v3 v4 v5 v6 M else if v5 < (2 : Int32) then fX6_compute_b228 N k6 v0 v2 v3 v4 v5 v6 M else if inB ((v5 + (-1 : Int32)) - (1 : Int32)) 16 = true then if inB (v5 + (-1 : Int32)) 16 = true then if v7 = (-6 : Int32) then if (rI M (v0 + 6) (v5 + (-1 : Int32)).toNatClampNeg) = 0 then fX6_compute_b196 N k6 v0 v2 v3 v4 (v5 + (-1 : Int32)) v6 (0 : Int32) M else if (rI M (v0 + 6) (v5 + (-1 : Int32)).toNatClampNeg) = 0 then none else fX6_compute_b196 N k6 v0 v2 v3 v4 (v5 + (-1 : Int32)) v6 ((rI M (v0 + 6) ((v5 + (-1 : Int32)) - (1 : Int32)).toNatClampNeg) / (rI M (v0 + 6) (v5 + (-1 : Int32)).toNatClampNeg)) M else if v7 = (-5 : Int32) then fX6_compute_b217 N k6 v0 v2 v3 v4 (v5 + (-1 : Int32)) v6 ((rI M (v0 + 6) ((v5 + (-1 : Int32)) - (1 : Int32)).toNatClampNeg) * (rI M (v0 + 6) (v5 + (-1 : Int32)).toNatClampNeg)) M else if v7 = (-4 : Int32) then fX6_compute_b217 N k6 v0 v2 v3 v4 (v5 + (-1 : Int32)) v6 ((rI M (v0 + 6) ((v5 + (-1 : Int32)) - (1 : Int32)).toNatClampNeg) - (rI M (v0 + 6) (v5 + (-1 : Int32)).toNatClampNeg)) M else if v7 = (-3 : Int32) then fX6_compute_b217 N k6 v0 v2 v3 v4 (v5 + (-1 : Int32)) v6 ((rI M (v0 + 6) ((v5 + (-1 : Int32)) - (1 : Int32)).toNatClampNeg) + (rI M (v0 + 6) (v5 + (-1 : Int32)).toNatClampNeg)) M else if (rI M (v0 + 6) (v5 + (-1 : Int32)).toNatClampNeg) = 0 then fX6_compute_b215 N k6 v0 v2 v3 v4 (v5 + (-1 : Int32)) v6 (0 : Int32) M else if (rI M (v0 + 6) (v5 + (-1 : Int32)).toNatClampNeg) = 0 then none else fX6_compute_b215 N k6 v0 v2 v3 v4 (v5 + (-1 : Int32)) v6 (remI (rI M (v0 + 6) ((v5 + (-1 : Int32)) - (1 : Int32)).toNatClampNeg) (rI M (v0 + 6) (v5 + (-1 : Int32)).toNatClampNeg)) M else none else none
def fX6_compute_b75 (N : Nat) (k6 : Int32 → Int32 → Mem → Option (Int32 × Mem)) (v0 : Nat) (v2 : Int32) (v3 : Int32) (v4 : Int32) (v5 : Int32) (v6 : Int32) (s0 : Int32) (s1 : Int32) (s2 : Nat) (M : Mem) : Option (Int32 × Mem) :=
  if inB s1 16 = true then fX6_compute_b228 N k6 v0 v2 v3 v4 (v5 + (1 : Int32)) v6 (wI M s2 s1.toNatClampNeg s0) else none
def fX6_compute_l6_s (N : Nat) (v0 : Nat) (v2 : Int32) (v3 : Int32) (v4 : Int32) (k6 : Int32 → Int32 → Mem → Option (Int32 × Mem)) (v5 : Int32) (v6 : Int32) (M : Mem) : Option (Int32 × Mem) :=
  if v2 ≤ v6 then fX6_compute_b234 N v0 M else if (600 : Int32) ≤ v6 then fX6_compute_b234 N v0 M else if inB v6 600 = true then if (rI M (v0 + 1) v6.toNatClampNeg) ≤ (-3 : Int32) then fX6_compute_b82 N k6 v0 v2 v3 v4 v5 v6 (rI M (v0 + 1) v6.toNatClampNeg) M else if (16 : Int32) ≤ v5 then fX6_compute_b82 N k6 v0 v2 v3 v4 v5 v6 (rI M (v0 + 1) v6.toNatClampNeg) M else if (rI M (v0 + 1) v6.toNatClampNeg) = (-1 : Int32) then fX6_compute_b75 N k6 v0 v2 v3 v4 v5 v6 v3 v5 (v0 + 6) M else if (rI M (v0 + 1) v6.toNatClampNeg) = (-2 : Int32) then fX6_compute_b75 N k6 v0 v2 v3 v4 v5 v6 v4 v5 (v0 + 6) M else fX6_compute_b75 N k6 v0 v2 v3 v4 v5 v6 (rI M (v0 + 1) v6.toNatClampNeg) v5 (v0 + 6) M else none
def fX6_compute_l6 (N : Nat) (v0 : Nat) (v2 : Int32) (v3 : Int32) (v4 : Int32) : Nat → Int32 → Int32 → Mem → Option (Int32 × Mem)
  | 0, _, _, _ => none
  | n + 1, v5, v6, M => fX6_compute_l6_s N v0 v2 v3 v4 (fX6_compute_l6 N v0 v2 v3 v4 n) v5 v6 M
def fX6_compute (N : Nat) (v0 : Nat) (v1 : Int32) (v2 : Int32) (v3 : Int32) (v4 : Int32) (M : Mem) : Option (Int32 × Mem) :=
  fX6_compute_l6 N v0 v2 v3 v4 N (0 : Int32) v1 M
/-! X6_placeOf -/
def fX6_placeOf_b18 (N : Nat) (M : Mem) : Option (Int32 × Mem) :=
  some ((0 : Int32), M)
def fX6_placeOf_b95 (N : Nat) (v3 : Int32) (s0 : Int32) (M : Mem) : Option (Int32 × Mem) :=
  (fX10_modulo s0 v3 M).bind fun qj1 => some (qj1, M)
def fX6_placeOf_b55 (N : Nat) (v0 : Nat) (v1 : Int32) (v2 : Int32) (v3 : Int32) (s0 : Bool) (M : Mem) : Option (Int32 × Mem) :=
  if s0 = true then if inB ((v1 * (256 : Int32)) + v2) 1536 = true then fX6_placeOf_b95 N v3 (rI M (v0 + 5) ((v1 * (256 : Int32)) + v2).toNatClampNeg) M else none else if inB v1 6 = true then if inB v1 6 = true then (fX6_compute N v0 (rI M (v0 + 2) v1.toNatClampNeg) (rI M (v0 + 3) v1.toNatClampNeg) v2 v3 M).bind fun qj7 => fX6_placeOf_b95 N v3 qj7.1 qj7.2 else none else none
def fX6_placeOf_b54 (N : Nat) (v0 : Nat) (v1 : Int32) (v2 : Int32) (v3 : Int32) (M : Mem) : Option (Int32 × Mem) :=
  fX6_placeOf_b55 N v0 v1 v2 v3 false M
def fX6_placeOf (N : Nat) (v0 : Nat) (v1 : Int32) (v2 : Int32) (v3 : Int32) (M : Mem) : Option (Int32 × Mem) :=
  if v1 < 0 then fX6_placeOf_b18 N M else if (rI M v0 3) ≤ v1 then fX6_placeOf_b18 N M else if v1 < (6 : Int32) then if ((shrI (rI M v0 7) v1) &&& (1 : Int32)) = 0 then if v2 < 0 then fX6_placeOf_b54 N v0 v1 v2 v3 M else if (rI M v0 1) ≤ v2 then fX6_placeOf_b54 N v0 v1 v2 v3 M else if (256 : Int32) ≤ v2 then fX6_placeOf_b54 N v0 v1 v2 v3 M else fX6_placeOf_b55 N v0 v1 v2 v3 true M else fX6_placeOf_b54 N v0 v1 v2 v3 M else fX6_placeOf_b18 N M
/-! X6_placesOf -/
def fX6_placesOf_l6_s (N : Nat) (v0 : Nat) (v1 : Int32) (v2 : Int32) (v3 : Int32) (k6 : Int64 → Int32 → Mem → Option (Int64 × Mem)) (v4 : Int64) (v6 : Int32) (M : Mem) : Option (Int64 × Mem) :=
  if v3 ≤ v6 then some (v4, M) else (fX6_placeOf N v0 v6 v1 v2 M).bind fun qj1 => k6 (v4 ||| (shlJ (1 : Int64) qj1.1)) (v6 + (1 : Int32)) qj1.2
def fX6_placesOf_l6 (N : Nat) (v0 : Nat) (v1 : Int32) (v2 : Int32) (v3 : Int32) : Nat → Int64 → Int32 → Mem → Option (Int64 × Mem)
  | 0, _, _, _ => none
  | n + 1, v4, v6, M => fX6_placesOf_l6_s N v0 v1 v2 v3 (fX6_placesOf_l6 N v0 v1 v2 v3 n) v4 v6 M
def fX6_placesOf (N : Nat) (v0 : Nat) (v1 : Int32) (v2 : Int32) (v3 : Int32) (M : Mem) : Option (Int64 × Mem) :=
  fX6_placesOf_l6 N v0 v1 v2 v3 N (0 : Int64) (0 : Int32) M
/-! X6_clear -/
def fX6_clear (v0 : Nat) (M : Mem) : Option Mem :=
  some (wI (wI (wI (wI (wI (wI (wI (wI M v0 0 (0 : Int32)) v0 1 (64 : Int32)) v0 2 (16 : Int32)) v0 3 (0 : Int32)) v0 4 (0 : Int32)) v0 5 (0 : Int32)) v0 6 (0 : Int32)) v0 7 (0 : Int32))
/-! X6_emitted -/
def fX6_emitted (v0 : Nat) (Mo : Mem) : Option Int32 :=
  some (rI Mo v0 4)
/-! X6_emit -/
def fX6_emit (v0 : Nat) (v1 : Int32) (M : Mem) : Option Mem :=
  if (600 : Int32) ≤ (rI M v0 4) then some M else if inB (rI M v0 4) 600 = true then some (wI (wI M (v0 + 1) ((rI M v0 4).toNatClampNeg) v1) v0 4 ((rI (wI M (v0 + 1) ((rI M v0 4).toNatClampNeg) v1) v0 4) + (1 : Int32))) else none
/-! X6_addMark -/
def fX6_addMark_b73 (N : Nat) (k39 : Int32 → Mem → Option Mem) (v0 : Nat) (v2 : Int32) (s0 : Int32) (s1 : Int32) (s2 : Nat) (M : Mem) : Option Mem :=
  k39 (v2 + (1 : Int32)) (wI M s2 7 (s1 ||| s0))
def fX6_addMark_l39_s (N : Nat) (v0 : Nat) (k39 : Int32 → Mem → Option Mem) (v2 : Int32) (M : Mem) : Option Mem :=
  if (rI M v0 4) ≤ v2 then some (wI M v0 3 ((rI M v0 3) + (1 : Int32))) else if inB v2 600 = true then if (rI M (v0 + 1) v2.toNatClampNeg) = (-2 : Int32) then fX6_addMark_b73 N k39 v0 v2 (shlI (1 : Int32) (rI M v0 3)) (rI M v0 7) v0 M else fX6_addMark_b73 N k39 v0 v2 (0 : Int32) (rI M v0 7) v0 M else none
def fX6_addMark_l39 (N : Nat) (v0 : Nat) : Nat → Int32 → Mem → Option Mem
  | 0, _, _ => none
  | n + 1, v2, M => fX6_addMark_l39_s N v0 (fX6_addMark_l39 N v0 n) v2 M
def fX6_addMark (N : Nat) (v0 : Nat) (v1 : Int32) (M : Mem) : Option Mem :=
  if (rI M v0 3) < (6 : Int32) then if inB (rI M v0 3) 6 = true then if inB (rI (wI M (v0 + 2) ((rI M v0 3).toNatClampNeg) v1) v0 3) 6 = true then fX6_addMark_l39 N v0 N (maxI v1 (0 : Int32)) (wI (wI M (v0 + 2) ((rI M v0 3).toNatClampNeg) v1) (v0 + 3) ((rI (wI M (v0 + 2) ((rI M v0 3).toNatClampNeg) v1) v0 3).toNatClampNeg) (rI (wI M (v0 + 2) ((rI M v0 3).toNatClampNeg) v1) v0 4)) else none else none else some M
/-! X6_setTag -/
def fX6_setTag (v0 : Nat) (v1 : Int32) (M : Mem) : Option Mem :=
  some (wI (wI M v0 5 v1) v0 6 (rI (wI M v0 5 v1) v0 4))
/-! X6_fillTables -/
def fX6_fillTables_b127 (N : Nat) (k2 : Int32 → Mem → Option Mem) (v0 : Nat) (v1 : Int32) (M : Mem) : Option Mem :=
  k2 (v1 + (1 : Int32)) M
def fX6_fillTables_b121 (N : Nat) (k2 : Int32 → Mem → Option Mem) (k66 : Int32 → Mem → Option Mem) (v0 : Nat) (v1 : Int32) (v3 : Int32) (M : Mem) : Option Mem :=
  k66 (v3 + (1 : Int32)) M
def fX6_fillTables_l66_s (N : Nat) (k2 : Int32 → Mem → Option Mem) (v0 : Nat) (v1 : Int32) (k66 : Int32 → Mem → Option Mem) (v3 : Int32) (M : Mem) : Option Mem :=
  if (rI M v0 3) ≤ v3 then fX6_fillTables_b127 N k2 v0 v1 M else if (6 : Int32) ≤ v3 then fX6_fillTables_b127 N k2 v0 v1 M else if ((shrI (rI M v0 7) v3) &&& (1 : Int32)) = 0 then if inB v3 6 = true then if inB v3 6 = true then (fX6_compute N v0 (rI M (v0 + 2) v3.toNatClampNeg) (rI M (v0 + 3) v3.toNatClampNeg) v1 (0 : Int32) M).bind fun qj6 => if inB ((v3 * (256 : Int32)) + v1) 1536 = true then fX6_fillTables_b121 N k2 k66 v0 v1 v3 (wI qj6.2 (v0 + 5) (((v3 * (256 : Int32)) + v1).toNatClampNeg) qj6.1) else none else none else none else fX6_fillTables_b121 N k2 k66 v0 v1 v3 M
def fX6_fillTables_l66 (N : Nat) (k2 : Int32 → Mem → Option Mem) (v0 : Nat) (v1 : Int32) : Nat → Int32 → Mem → Option Mem
  | 0, _, _ => none
  | n + 1, v3, M => fX6_fillTables_l66_s N k2 v0 v1 (fX6_fillTables_l66 N k2 v0 v1 n) v3 M
def fX6_fillTables_b49 (N : Nat) (k2 : Int32 → Mem → Option Mem) (v0 : Nat) (v1 : Int32) (s0 : Int32) (M : Mem) : Option Mem :=
  (fX10_modulo s0 (rI M v0 2) M).bind fun qj2 => if inB v1 256 = true then fX6_fillTables_l66 N k2 v0 v1 N (0 : Int32) (wI M (v0 + 4) v1.toNatClampNeg qj2) else none
def fX6_fillTables_l2_s (N : Nat) (v0 : Nat) (k2 : Int32 → Mem → Option Mem) (v1 : Int32) (M : Mem) : Option Mem :=
  if (rI M v0 1) ≤ v1 then some M else if (256 : Int32) ≤ v1 then some M else if (rI M v0 5) = (rI M v0 6) then fX6_fillTables_b49 N k2 v0 v1 v1 M else (fX6_compute N v0 (rI M v0 5) (rI M v0 6) v1 (rI M v0 2) M).bind fun qj1 => fX6_fillTables_b49 N k2 v0 v1 qj1.1 qj1.2
def fX6_fillTables_l2 (N : Nat) (v0 : Nat) : Nat → Int32 → Mem → Option Mem
  | 0, _, _ => none
  | n + 1, v1, M => fX6_fillTables_l2_s N v0 (fX6_fillTables_l2 N v0 n) v1 M
def fX6_fillTables (N : Nat) (v0 : Nat) (M : Mem) : Option Mem :=
  fX6_fillTables_l2 N v0 N (0 : Int32) M
/-! X6_tagOf -/
def fX6_tagOf_b20  (Mo : Mem) : Option Int32 :=
  some (0 : Int32)
def fX6_tagOf (v0 : Nat) (v1 : Int32) (Mo : Mem) : Option Int32 :=
  if v1 < 0 then fX6_tagOf_b20 Mo else if (256 : Int32) ≤ v1 then fX6_tagOf_b20 Mo else if inB v1 256 = true then some (rI Mo (v0 + 4) v1.toNatClampNeg) else none
/-! X6_valueOf -/
def fX6_valueOf_b33 (N : Nat) (M : Mem) : Option (Int32 × Mem) :=
  some ((0 : Int32), M)
def fX6_valueOf (N : Nat) (v0 : Nat) (v1 : Int32) (v2 : Int32) (v3 : Int32) (M : Mem) : Option (Int32 × Mem) :=
  if v1 < 0 then fX6_valueOf_b33 N M else if (rI M v0 3) ≤ v1 then fX6_valueOf_b33 N M else if inB v1 6 = true then if inB v1 6 = true then (fX6_compute N v0 (rI M (v0 + 2) v1.toNatClampNeg) (rI M (v0 + 3) v1.toNatClampNeg) v2 v3 M).bind fun qj5 => some (qj5.1, qj5.2) else none else none
/-! X6_copyFrom -/
def fX6_copyFrom (v0 : Nat) (v1 : Nat) (M : Mem) : Option Mem :=
  some (cpI (cpI (cpI (cpI (cpI (wI (wI (wI (wI (wI (wI (wI (wI M v0 0 (rI M v1 0)) v0 1 (rI (wI M v0 0 (rI M v1 0)) v1 1)) v0 2 (rI (wI (wI M v0 0 (rI M v1 0)) v0 1 (rI (wI M v0 0 (rI M v1 0)) v1 1)) v1 2)) v0 3 (rI (wI (wI (wI M v0 0 (rI M v1 0)) v0 1 (rI (wI M v0 0 (rI M v1 0)) v1 1)) v0 2 (rI (wI (wI M v0 0 (rI M v1 0)) v0 1 (rI (wI M v0 0 (rI M v1 0)) v1 1)) v1 2)) v1 3)) v0 4 (rI (wI (wI (wI (wI M v0 0 (rI M v1 0)) v0 1 (rI (wI M v0 0 (rI M v1 0)) v1 1)) v0 2 (rI (wI (wI M v0 0 (rI M v1 0)) v0 1 (rI (wI M v0 0 (rI M v1 0)) v1 1)) v1 2)) v0 3 (rI (wI (wI (wI M v0 0 (rI M v1 0)) v0 1 (rI (wI M v0 0 (rI M v1 0)) v1 1)) v0 2 (rI (wI (wI M v0 0 (rI M v1 0)) v0 1 (rI (wI M v0 0 (rI M v1 0)) v1 1)) v1 2)) v1 3)) v1 4)) v0 5 (rI (wI (wI (wI (wI (wI M v0 0 (rI M v1 0)) v0 1 (rI (wI M v0 0 (rI M v1 0)) v1 1)) v0 2 (rI (wI (wI M v0 0 (rI M v1 0)) v0 1 (rI (wI M v0 0 (rI M v1 0)) v1 1)) v1 2)) v0 3 (rI (wI (wI (wI M v0 0 (rI M v1 0)) v0 1 (rI (wI M v0 0 (rI M v1 0)) v1 1)) v0 2 (rI (wI (wI M v0 0 (rI M v1 0)) v0 1 (rI (wI M v0 0 (rI M v1 0)) v1 1)) v1 2)) v1 3)) v0 4 (rI (wI (wI (wI (wI M v0 0 (rI M v1 0)) v0 1 (rI (wI M v0 0 (rI M v1 0)) v1 1)) v0 2 (rI (wI (wI M v0 0 (rI M v1 0)) v0 1 (rI (wI M v0 0 (rI M v1 0)) v1 1)) v1 2)) v0 3 (rI (wI (wI (wI M v0 0 (rI M v1 0)) v0 1 (rI (wI M v0 0 (rI M v1 0)) v1 1)) v0 2 (rI (wI (wI M v0 0 (rI M v1 0)) v0 1 (rI (wI M v0 0 (rI M v1 0)) v1 1)) v1 2)) v1 3)) v1 4)) v1 5)) v0 6 (rI (wI (wI (wI (wI (wI (wI M v0 0 (rI M v1 0)) v0 1 (rI (wI M v0 0 (rI M v1 0)) v1 1)) v0 2 (rI (wI (wI M v0 0 (rI M v1 0)) v0 1 (rI (wI M v0 0 (rI M v1 0)) v1 1)) v1 2)) v0 3 (rI (wI (wI (wI M v0 0 (rI M v1 0)) v0 1 (rI (wI M v0 0 (rI M v1 0)) v1 1)) v0 2 (rI (wI (wI M v0 0 (rI M v1 0)) v0 1 (rI (wI M v0 0 (rI M v1 0)) v1 1)) v1 2)) v1 3)) v0 4 (rI (wI (wI (wI (wI M v0 0 (rI M v1 0)) v0 1 (rI (wI M v0 0 (rI M v1 0)) v1 1)) v0 2 (rI (wI (wI M v0 0 (rI M v1 0)) v0 1 (rI (wI M v0 0 (rI M v1 0)) v1 1)) v1 2)) v0 3 (rI (wI (wI (wI M v0 0 (rI M v1 0)) v0 1 (rI (wI M v0 0 (rI M v1 0)) v1 1)) v0 2 (rI (wI (wI M v0 0 (rI M v1 0)) v0 1 (rI (wI M v0 0 (rI M v1 0)) v1 1)) v1 2)) v1 3)) v1 4)) v0 5 (rI (wI (wI (wI (wI (wI M v0 0 (rI M v1 0)) v0 1 (rI (wI M v0 0 (rI M v1 0)) v1 1)) v0 2 (rI (wI (wI M v0 0 (rI M v1 0)) v0 1 (rI (wI M v0 0 (rI M v1 0)) v1 1)) v1 2)) v0 3 (rI (wI (wI (wI M v0 0 (rI M v1 0)) v0 1 (rI (wI M v0 0 (rI M v1 0)) v1 1)) v0 2 (rI (wI (wI M v0 0 (rI M v1 0)) v0 1 (rI (wI M v0 0 (rI M v1 0)) v1 1)) v1 2)) v1 3)) v0 4 (rI (wI (wI (wI (wI M v0 0 (rI M v1 0)) v0 1 (rI (wI M v0 0 (rI M v1 0)) v1 1)) v0 2 (rI (wI (wI M v0 0 (rI M v1 0)) v0 1 (rI (wI M v0 0 (rI M v1 0)) v1 1)) v1 2)) v0 3 (rI (wI (wI (wI M v0 0 (rI M v1 0)) v0 1 (rI (wI M v0 0 (rI M v1 0)) v1 1)) v0 2 (rI (wI (wI M v0 0 (rI M v1 0)) v0 1 (rI (wI M v0 0 (rI M v1 0)) v1 1)) v1 2)) v1 3)) v1 4)) v1 5)) v1 6)) v0 7 (rI (wI (wI (wI (wI (wI (wI (wI M v0 0 (rI M v1 0)) v0 1 (rI (wI M v0 0 (rI M v1 0)) v1 1)) v0 2 (rI (wI (wI M v0 0 (rI M v1 0)) v0 1 (rI (wI M v0 0 (rI M v1 0)) v1 1)) v1 2)) v0 3 (rI (wI (wI (wI M v0 0 (rI M v1 0)) v0 1 (rI (wI M v0 0 (rI M v1 0)) v1 1)) v0 2 (rI (wI (wI M v0 0 (rI M v1 0)) v0 1 (rI (wI M v0 0 (rI M v1 0)) v1 1)) v1 2)) v1 3)) v0 4 (rI (wI (wI (wI (wI M v0 0 (rI M v1 0)) v0 1 (rI (wI M v0 0 (rI M v1 0)) v1 1)) v0 2 (rI (wI (wI M v0 0 (rI M v1 0)) v0 1 (rI (wI M v0 0 (rI M v1 0)) v1 1)) v1 2)) v0 3 (rI (wI (wI (wI M v0 0 (rI M v1 0)) v0 1 (rI (wI M v0 0 (rI M v1 0)) v1 1)) v0 2 (rI (wI (wI M v0 0 (rI M v1 0)) v0 1 (rI (wI M v0 0 (rI M v1 0)) v1 1)) v1 2)) v1 3)) v1 4)) v0 5 (rI (wI (wI (wI (wI (wI M v0 0 (rI M v1 0)) v0 1 (rI (wI M v0 0 (rI M v1 0)) v1 1)) v0 2 (rI (wI (wI M v0 0 (rI M v1 0)) v0 1 (rI (wI M v0 0 (rI M v1 0)) v1 1)) v1 2)) v0 3 (rI (wI (wI (wI M v0 0 (rI M v1 0)) v0 1 (rI (wI M v0 0 (rI M v1 0)) v1 1)) v0 2 (rI (wI (wI M v0 0 (rI M v1 0)) v0 1 (rI (wI M v0 0 (rI M v1 0)) v1 1)) v1 2)) v1 3)) v0 4 (rI (wI (wI (wI (wI M v0 0 (rI M v1 0)) v0 1 (rI (wI M v0 0 (rI M v1 0)) v1 1)) v0 2 (rI (wI (wI M v0 0 (rI M v1 0)) v0 1 (rI (wI M v0 0 (rI M v1 0)) v1 1)) v1 2)) v0 3 (rI (wI (wI (wI M v0 0 (rI M v1 0)) v0 1 (rI (wI M v0 0 (rI M v1 0)) v1 1)) v0 2 (rI (wI (wI M v0 0 (rI M v1 0)) v0 1 (rI (wI M v0 0 (rI M v1 0)) v1 1)) v1 2)) v1 3)) v1 4)) v1 5)) v0 6 (rI (wI (wI (wI (wI (wI (wI M v0 0 (rI M v1 0)) v0 1 (rI (wI M v0 0 (rI M v1 0)) v1 1)) v0 2 (rI (wI (wI M v0 0 (rI M v1 0)) v0 1 (rI (wI M v0 0 (rI M v1 0)) v1 1)) v1 2)) v0 3 (rI (wI (wI (wI M v0 0 (rI M v1 0)) v0 1 (rI (wI M v0 0 (rI M v1 0)) v1 1)) v0 2 (rI (wI (wI M v0 0 (rI M v1 0)) v0 1 (rI (wI M v0 0 (rI M v1 0)) v1 1)) v1 2)) v1 3)) v0 4 (rI (wI (wI (wI (wI M v0 0 (rI M v1 0)) v0 1 (rI (wI M v0 0 (rI M v1 0)) v1 1)) v0 2 (rI (wI (wI M v0 0 (rI M v1 0)) v0 1 (rI (wI M v0 0 (rI M v1 0)) v1 1)) v1 2)) v0 3 (rI (wI (wI (wI M v0 0 (rI M v1 0)) v0 1 (rI (wI M v0 0 (rI M v1 0)) v1 1)) v0 2 (rI (wI (wI M v0 0 (rI M v1 0)) v0 1 (rI (wI M v0 0 (rI M v1 0)) v1 1)) v1 2)) v1 3)) v1 4)) v0 5 (rI (wI (wI (wI (wI (wI M v0 0 (rI M v1 0)) v0 1 (rI (wI M v0 0 (rI M v1 0)) v1 1)) v0 2 (rI (wI (wI M v0 0 (rI M v1 0)) v0 1 (rI (wI M v0 0 (rI M v1 0)) v1 1)) v1 2)) v0 3 (rI (wI (wI (wI M v0 0 (rI M v1 0)) v0 1 (rI (wI M v0 0 (rI M v1 0)) v1 1)) v0 2 (rI (wI (wI M v0 0 (rI M v1 0)) v0 1 (rI (wI M v0 0 (rI M v1 0)) v1 1)) v1 2)) v1 3)) v0 4 (rI (wI (wI (wI (wI M v0 0 (rI M v1 0)) v0 1 (rI (wI M v0 0 (rI M v1 0)) v1 1)) v0 2 (rI (wI (wI M v0 0 (rI M v1 0)) v0 1 (rI (wI M v0 0 (rI M v1 0)) v1 1)) v1 2)) v0 3 (rI (wI (wI (wI M v0 0 (rI M v1 0)) v0 1 (rI (wI M v0 0 (rI M v1 0)) v1 1)) v0 2 (rI (wI (wI M v0 0 (rI M v1 0)) v0 1 (rI (wI M v0 0 (rI M v1 0)) v1 1)) v1 2)) v1 3)) v1 4)) v1 5)) v1 6)) v1 7)) (v1 + 1) (v0 + 1) 600) (v1 + 2) (v0 + 2) 6) (v1 + 3) (v0 + 3) 6) (v1 + 4) (v0 + 4) 256) (v1 + 5) (v0 + 5) 1536)
set_option maxHeartbeats 4000000 in
set_option maxRecDepth 100000 in
theorem z_fX6_compute_b234 {p : Program} {l : Launch} {e : Env} {s : State} {m : MethodId} {args : Array Value} {below : List Frame} {meth : Method} {c : Code} {D : va_G} {cy : Nat → ClassId} {B : Nat} {kd : Nat → Nat} {n : Nat} {sa sv : Nat → Nat} (C : zC p l s m args meth c D cy B kd n sa sv RX6 cX6_compute 10) (ht : ∀ x ∈ c.exceptionTable.toList, False) (hr : meth.sig.returnType = some (FieldType.int)) {b0 : Int32 × Mem}  (N : Nat) (v0 : Nat) (M : Mem) (h0 : kd v0 = 6)  : Z p l e (rmz 0 0) s m args below meth c (vx_MQ below (QcR D cy B kd n (cvI b0)) (XcR D cy B kd n (cvI b0)) args s 0 (6 * 0) (AA B kd n)) D cy B kd n 10 b0 0 234 [(0, .ref (B + v0))] [] M (fX6_compute_b234 N v0 M) := by
  unfold fX6_compute_b234
  refine z_aload_n C 0 0 dX6_compute_234 rfl rfl ?_
  refine z_getR (k := 13) C cl6 h0 rfl gw_1_73 rfl dX6_compute_235 ?_
  have j1 : kd (v0 + 6) = 24 := zkd C h0 (k := 13) rfl
  refine z_iconst C dX6_compute_238 rfl ?_
  refine z_iald C j1 rfl (by decide) dX6_compute_239 (fun j2 => ?_)
  exact z_iret C hr (Nat.le_of_ble_eq_true rfl) dX6_compute_240 rfl
set_option maxHeartbeats 4000000 in
set_option maxRecDepth 100000 in
theorem z_fX6_compute_b228 {p : Program} {l : Launch} {e : Env} {s : State} {m : MethodId} {args : Array Value} {below : List Frame} {meth : Method} {c : Code} {D : va_G} {cy : Nat → ClassId} {B : Nat} {kd : Nat → Nat} {n : Nat} {sa sv : Nat → Nat} (C : zC p l s m args meth c D cy B kd n sa sv RX6 cX6_compute 10) (ht : ∀ x ∈ c.exceptionTable.toList, False) (hr : meth.sig.returnType = some (FieldType.int)) {b0 : Int32 × Mem}  (N : Nat) (k6 : Int32 → Int32 → Mem → Option (Int32 × Mem)) (v0 : Nat) (v2 : Int32) (v3 : Int32) (v4 : Int32) (v5 : Int32) (v6 : Int32) (M : Mem) (h0 : kd v0 = 6) (hk6 : ∀ (v5 : Int32) (v6 : Int32) (M : Mem), Z p l e (rmz 0 0) s m args below meth c (vx_MQ below (QcR D cy B kd n (cvI b0)) (XcR D cy B kd n (cvI b0)) args s 0 (6 * 0) (AA B kd n)) D cy B kd n 10 b0 0 6 [(0, .ref (B + v0)), (2, .int v2), (3, .int v3), (4, .int v4), (5, .int v5), (6, .int v6)] [] M (k6 v5 v6 M)) : Z p l e (rmz 0 0) s m args below meth c (vx_MQ below (QcR D cy B kd n (cvI b0)) (XcR D cy B kd n (cvI b0)) args s 0 (6 * 0) (AA B kd n)) D cy B kd n 10 b0 0 228 [(0, .ref (B + v0)), (2, .int v2), (3, .int v3), (4, .int v4), (5, .int v5), (6, .int v6)] [] M (fX6_compute_b228 N k6 v0 v2 v3 v4 v5 v6 M) := by
  unfold fX6_compute_b228
  refine z_iinc C 6 5 (v := v6) (v1 := (v6 + (1 : Int32))) (ls1 := [(6, .int (v6 + (1 : Int32))), (0, .ref (B + v0)), (2, .int v2), (3, .int v3), (4, .int v4), (5, .int v5)]) dX6_compute_228 rfl rfl (by decide) rfl ?_
  refine z_goto C 6 dX6_compute_231 rfl ?_
  exact z_jump (ls1 := [(0, .ref (B + v0)), (2, .int v2), (3, .int v3), (4, .int v4), (5, .int v5), (6, .int (v6 + (1 : Int32)))]) (Nat.le_of_ble_eq_true rfl) [1, 2, 3, 4, 5, 0] rfl (hk6 v5 (v6 + (1 : Int32)) M)
set_option maxHeartbeats 4000000 in
set_option maxRecDepth 100000 in
theorem z_fX6_compute_b217 {p : Program} {l : Launch} {e : Env} {s : State} {m : MethodId} {args : Array Value} {below : List Frame} {meth : Method} {c : Code} {D : va_G} {cy : Nat → ClassId} {B : Nat} {kd : Nat → Nat} {n : Nat} {sa sv : Nat → Nat} (C : zC p l s m args meth c D cy B kd n sa sv RX6 cX6_compute 10) (ht : ∀ x ∈ c.exceptionTable.toList, False) (hr : meth.sig.returnType = some (FieldType.int)) {b0 : Int32 × Mem}  (N : Nat) (k6 : Int32 → Int32 → Mem → Option (Int32 × Mem)) (v0 : Nat) (v2 : Int32) (v3 : Int32) (v4 : Int32) (v5 : Int32) (v6 : Int32) (v8 : Int32) (M : Mem) (h0 : kd v0 = 6) (hk6 : ∀ (v5 : Int32) (v6 : Int32) (M : Mem), Z p l e (rmz 0 0) s m args below meth c (vx_MQ below (QcR D cy B kd n (cvI b0)) (XcR D cy B kd n (cvI b0)) args s 0 (6 * 0) (AA B kd n)) D cy B kd n 10 b0 0 6 [(0, .ref (B + v0)), (2, .int v2), (3, .int v3), (4, .int v4), (5, .int v5), (6, .int v6)] [] M (k6 v5 v6 M)) : Z p l e (rmz 0 0) s m args below meth c (vx_MQ below (QcR D cy B kd n (cvI b0)) (XcR D cy B kd n (cvI b0)) args s 0 (6 * 0) (AA B kd n)) D cy B kd n 10 b0 0 217 [(0, .ref (B + v0)), (2, .int v2), (3, .int v3), (4, .int v4), (5, .int v5), (6, .int v6), (8, .int v8)] [] M (fX6_compute_b217 N k6 v0 v2 v3 v4 v5 v6 v8 M) := by
  unfold fX6_compute_b217
  refine z_aload_n C 0 0 dX6_compute_217 rfl rfl ?_
  refine z_getR (k := 13) C cl6 h0 rfl gw_1_73 rfl dX6_compute_218 ?_
  have j1 : kd (v0 + 6) = 24 := zkd C h0 (k := 13) rfl
  refine z_iload C 4 dX6_compute_221 rfl ?_
  refine z_iconst C dX6_compute_223 rfl ?_
  refine z_isub C dX6_compute_224 ?_
  refine z_iload C 6 dX6_compute_225 rfl ?_
  refine z_iast C j1 rfl (by decide) dX6_compute_227 (fun _ => ?_)
  exact z_jump (ls1 := [(0, .ref (B + v0)), (2, .int v2), (3, .int v3), (4, .int v4), (5, .int v5), (6, .int v6)]) (Nat.le_of_ble_eq_true rfl) [0, 1, 2, 3, 4, 5] rfl (z_fX6_compute_b228 C ht hr N k6 v0 v2 v3 v4 v5 v6 (wI M (v0 + 6) ((v5 - (1 : Int32)).toNatClampNeg) v8) h0 hk6)
set_option maxHeartbeats 4000000 in
set_option maxRecDepth 100000 in
theorem z_fX6_compute_b196 {p : Program} {l : Launch} {e : Env} {s : State} {m : MethodId} {args : Array Value} {below : List Frame} {meth : Method} {c : Code} {D : va_G} {cy : Nat → ClassId} {B : Nat} {kd : Nat → Nat} {n : Nat} {sa sv : Nat → Nat} (C : zC p l s m args meth c D cy B kd n sa sv RX6 cX6_compute 10) (ht : ∀ x ∈ c.exceptionTable.toList, False) (hr : meth.sig.returnType = some (FieldType.int)) {b0 : Int32 × Mem}  (N : Nat) (k6 : Int32 → Int32 → Mem → Option (Int32 × Mem)) (v0 : Nat) (v2 : Int32) (v3 : Int32) (v4 : Int32) (v5 : Int32) (v6 : Int32) (s0 : Int32) (M : Mem) (h0 : kd v0 = 6) (hk6 : ∀ (v5 : Int32) (v6 : Int32) (M : Mem), Z p l e (rmz 0 0) s m args below meth c (vx_MQ below (QcR D cy B kd n (cvI b0)) (XcR D cy B kd n (cvI b0)) args s 0 (6 * 0) (AA B kd n)) D cy B kd n 10 b0 0 6 [(0, .ref (B + v0)), (2, .int v2), (3, .int v3), (4, .int v4), (5, .int v5), (6, .int v6)] [] M (k6 v5 v6 M)) : Z p l e (rmz 0 0) s m args below meth c (vx_MQ below (QcR D cy B kd n (cvI b0)) (XcR D cy B kd n (cvI b0)) args s 0 (6 * 0) (AA B kd n)) D cy B kd n 10 b0 0 196 [(0, .ref (B + v0)), (2, .int v2), (3, .int v3), (4, .int v4), (5, .int v5), (6, .int v6)] [.int s0] M (fX6_compute_b196 N k6 v0 v2 v3 v4 v5 v6 s0 M) := by
  unfold fX6_compute_b196
  refine z_istore C 8 (ls1 := [(8, .int s0), (0, .ref (B + v0)), (2, .int v2), (3, .int v3), (4, .int v4), (5, .int v5), (6, .int v6)]) dX6_compute_196 (by decide) rfl ?_
  refine z_goto C 217 dX6_compute_198 rfl ?_
  exact z_jump (ls1 := [(0, .ref (B + v0)), (2, .int v2), (3, .int v3), (4, .int v4), (5, .int v5), (6, .int v6), (8, .int s0)]) (Nat.le_of_ble_eq_true rfl) [1, 2, 3, 4, 5, 6, 0] rfl (z_fX6_compute_b217 C ht hr N k6 v0 v2 v3 v4 v5 v6 s0 M h0 hk6)
set_option maxHeartbeats 4000000 in
set_option maxRecDepth 100000 in
theorem z_fX6_compute_b215 {p : Program} {l : Launch} {e : Env} {s : State} {m : MethodId} {args : Array Value} {below : List Frame} {meth : Method} {c : Code} {D : va_G} {cy : Nat → ClassId} {B : Nat} {kd : Nat → Nat} {n : Nat} {sa sv : Nat → Nat} (C : zC p l s m args meth c D cy B kd n sa sv RX6 cX6_compute 10) (ht : ∀ x ∈ c.exceptionTable.toList, False) (hr : meth.sig.returnType = some (FieldType.int)) {b0 : Int32 × Mem}  (N : Nat) (k6 : Int32 → Int32 → Mem → Option (Int32 × Mem)) (v0 : Nat) (v2 : Int32) (v3 : Int32) (v4 : Int32) (v5 : Int32) (v6 : Int32) (s0 : Int32) (M : Mem) (h0 : kd v0 = 6) (hk6 : ∀ (v5 : Int32) (v6 : Int32) (M : Mem), Z p l e (rmz 0 0) s m args below meth c (vx_MQ below (QcR D cy B kd n (cvI b0)) (XcR D cy B kd n (cvI b0)) args s 0 (6 * 0) (AA B kd n)) D cy B kd n 10 b0 0 6 [(0, .ref (B + v0)), (2, .int v2), (3, .int v3), (4, .int v4), (5, .int v5), (6, .int v6)] [] M (k6 v5 v6 M)) : Z p l e (rmz 0 0) s m args below meth c (vx_MQ below (QcR D cy B kd n (cvI b0)) (XcR D cy B kd n (cvI b0)) args s 0 (6 * 0) (AA B kd n)) D cy B kd n 10 b0 0 215 [(0, .ref (B + v0)), (2, .int v2), (3, .int v3), (4, .int v4), (5, .int v5), (6, .int v6)] [.int s0] M (fX6_compute_b215 N k6 v0 v2 v3 v4 v5 v6 s0 M) := by
  unfold fX6_compute_b215
  refine z_istore C 8 (ls1 := [(8, .int s0), (0, .ref (B + v0)), (2, .int v2), (3, .int v3), (4, .int v4), (5, .int v5), (6, .int v6)]) dX6_compute_215 (by decide) rfl ?_
  exact z_jump (ls1 := [(0, .ref (B + v0)), (2, .int v2), (3, .int v3), (4, .int v4), (5, .int v5), (6, .int v6), (8, .int s0)]) (Nat.le_of_ble_eq_true rfl) [1, 2, 3, 4, 5, 6, 0] rfl (z_fX6_compute_b217 C ht hr N k6 v0 v2 v3 v4 v5 v6 s0 M h0 hk6)
set_option maxHeartbeats 4000000 in
set_option maxRecDepth 100000 in
theorem z_fX6_compute_b82 {p : Program} {l : Launch} {e : Env} {s : State} {m : MethodId} {args : Array Value} {below : List Frame} {meth : Method} {c : Code} {D : va_G} {cy : Nat → ClassId} {B : Nat} {kd : Nat → Nat} {n : Nat} {sa sv : Nat → Nat} (C : zC p l s m args meth c D cy B kd n sa sv RX6 cX6_compute 10) (ht : ∀ x ∈ c.exceptionTable.toList, False) (hr : meth.sig.returnType = some (FieldType.int)) {b0 : Int32 × Mem}  (N : Nat) (k6 : Int32 → Int32 → Mem → Option (Int32 × Mem)) (v0 : Nat) (v2 : Int32) (v3 : Int32) (v4 : Int32) (v5 : Int32) (v6 : Int32) (v7 : Int32) (M : Mem) (h0 : kd v0 = 6) (hk6 : ∀ (v5 : Int32) (v6 : Int32) (M : Mem), Z p l e (rmz 0 0) s m args below meth c (vx_MQ below (QcR D cy B kd n (cvI b0)) (XcR D cy B kd n (cvI b0)) args s 0 (6 * 0) (AA B kd n)) D cy B kd n 10 b0 0 6 [(0, .ref (B + v0)), (2, .int v2), (3, .int v3), (4, .int v4), (5, .int v5), (6, .int v6)] [] M (k6 v5 v6 M)) : Z p l e (rmz 0 0) s m args below meth c (vx_MQ below (QcR D cy B kd n (cvI b0)) (XcR D cy B kd n (cvI b0)) args s 0 (6 * 0) (AA B kd n)) D cy B kd n 10 b0 0 82 [(0, .ref (B + v0)), (2, .int v2), (3, .int v3), (4, .int v4), (5, .int v5), (6, .int v6), (7, .int v7)] [] M (fX6_compute_b82 N k6 v0 v2 v3 v4 v5 v6 v7 M) := by
  unfold fX6_compute_b82
  refine z_iload C 6 dX6_compute_82 rfl ?_
  refine z_bipush (v := -3) C dX6_compute_84 rfl ?_
  refine z_icmp_gt C 228 dX6_compute_86 rfl (fun _ => ?_) (fun _ => ?_)
  · exact z_jump (ls1 := [(0, .ref (B + v0)), (2, .int v2), (3, .int v3), (4, .int v4), (5, .int v5), (6, .int v6)]) (Nat.le_of_ble_eq_true rfl) [0, 1, 2, 3, 4, 5] rfl (z_fX6_compute_b228 C ht hr N k6 v0 v2 v3 v4 v5 v6 M h0 hk6)
  · refine z_iload C 4 dX6_compute_89 rfl ?_
    refine z_iconst C dX6_compute_91 rfl ?_
    refine z_icmp_lt C 228 dX6_compute_92 rfl (fun _ => ?_) (fun _ => ?_)
    · exact z_jump (ls1 := [(0, .ref (B + v0)), (2, .int v2), (3, .int v3), (4, .int v4), (5, .int v5), (6, .int v6)]) (Nat.le_of_ble_eq_true rfl) [0, 1, 2, 3, 4, 5] rfl (z_fX6_compute_b228 C ht hr N k6 v0 v2 v3 v4 v5 v6 M h0 hk6)
    · refine z_iinc C 5 4 (v := v5) (v1 := (v5 + (-1 : Int32))) (ls1 := [(5, .int (v5 + (-1 : Int32))), (0, .ref (B + v0)), (2, .int v2), (3, .int v3), (4, .int v4), (6, .int v6), (7, .int v7)]) dX6_compute_95 rfl rfl (by decide) rfl ?_
      refine z_aload_n C 0 1 dX6_compute_98 rfl rfl ?_
      refine z_getR (k := 13) C cl6 h0 rfl gw_1_73 rfl dX6_compute_99 ?_
      have j1 : kd (v0 + 6) = 24 := zkd C h0 (k := 13) rfl
      refine z_iload C 0 dX6_compute_102 rfl ?_
      refine z_iconst C dX6_compute_104 rfl ?_
      refine z_isub C dX6_compute_105 ?_
      refine z_iald C j1 rfl (by decide) dX6_compute_106 (fun j2 => ?_)
      refine z_istore C 8 (ls1 := [(8, .int (rI M (v0 + 6) ((v5 + (-1 : Int32)) - (1 : Int32)).toNatClampNeg)), (5, .int (v5 + (-1 : Int32))), (0, .ref (B + v0)), (2, .int v2), (3, .int v3), (4, .int v4), (6, .int v6), (7, .int v7)]) dX6_compute_107 (by decide) rfl ?_
      refine z_aload_n C 0 2 dX6_compute_109 rfl rfl ?_
      refine z_getR (k := 13) C cl6 h0 rfl gw_1_73 rfl dX6_compute_110 ?_
      have j3 : kd (v0 + 6) = 24 := zkd C h0 (k := 13) rfl
      refine z_iload C 1 dX6_compute_113 rfl ?_
      refine z_iald C j3 rfl (by decide) dX6_compute_115 (fun j4 => ?_)
      refine z_istore C 9 (ls1 := [(9, .int (rI M (v0 + 6) (v5 + (-1 : Int32)).toNatClampNeg)), (8, .int (rI M (v0 + 6) ((v5 + (-1 : Int32)) - (1 : Int32)).toNatClampNeg)), (5, .int (v5 + (-1 : Int32))), (0, .ref (B + v0)), (2, .int v2), (3, .int v3), (4, .int v4), (6, .int v6), (7, .int v7)]) dX6_compute_116 (by decide) rfl ?_
      refine z_iload C 8 dX6_compute_118 rfl ?_
      refine z_ite (q := v7 = (-6 : Int32)) (fun j5 => ?_) (fun j6 => ?_)
      · refine z_tableZ C 182 (-6) dX6_compute_120 (by rw [j5]; decide) (by decide) (by decide) rfl rfl ?_
        refine z_iload C 0 dX6_compute_182 rfl ?_
        refine z_if_ne C 191 dX6_compute_184 rfl (fun _ => ?_) (fun _ => ?_)
        · refine z_iconst C dX6_compute_187 rfl ?_
          refine z_goto C 196 dX6_compute_188 rfl ?_
          exact z_jump (ls1 := [(0, .ref (B + v0)), (2, .int v2), (3, .int v3), (4, .int v4), (5, .int (v5 + (-1 : Int32))), (6, .int v6)]) (Nat.le_of_ble_eq_true rfl) [3, 4, 5, 6, 2, 7] rfl (z_fX6_compute_b196 C ht hr N k6 v0 v2 v3 v4 (v5 + (-1 : Int32)) v6 (0 : Int32) M h0 hk6)
        · refine z_iload C 1 dX6_compute_191 rfl ?_
          refine z_iload C 0 dX6_compute_193 rfl ?_
          refine z_idiv C dX6_compute_195 (fun _ => ?_)
          exact z_jump (ls1 := [(0, .ref (B + v0)), (2, .int v2), (3, .int v3), (4, .int v4), (5, .int (v5 + (-1 : Int32))), (6, .int v6)]) (Nat.le_of_ble_eq_true rfl) [3, 4, 5, 6, 2, 7] rfl (z_fX6_compute_b196 C ht hr N k6 v0 v2 v3 v4 (v5 + (-1 : Int32)) v6 ((rI M (v0 + 6) ((v5 + (-1 : Int32)) - (1 : Int32)).toNatClampNeg) / (rI M (v0 + 6) (v5 + (-1 : Int32)).toNatClampNeg)) M h0 hk6)
      refine z_ite (q := v7 = (-5 : Int32)) (fun j7 => ?_) (fun j8 => ?_)
      · refine z_tableZ C 172 (-5) dX6_compute_120 (by rw [j7]; decide) (by decide) (by decide) rfl rfl ?_
        refine z_iload C 1 dX6_compute_172 rfl ?_
        refine z_iload C 0 dX6_compute_174 rfl ?_
        refine z_imul C dX6_compute_176 ?_
        refine z_istore C 8 (ls1 := [(8, .int ((rI M (v0 + 6) ((v5 + (-1 : Int32)) - (1 : Int32)).toNatClampNeg) * (rI M (v0 + 6) (v5 + (-1 : Int32)).toNatClampNeg))), (9, .int (rI M (v0 + 6) (v5 + (-1 : Int32)).toNatClampNeg)), (5, .int (v5 + (-1 : Int32))), (0, .ref (B + v0)), (2, .int v2), (3, .int v3), (4, .int v4), (6, .int v6), (7, .int v7)]) dX6_compute_177 (by decide) rfl ?_
        refine z_goto C 217 dX6_compute_179 rfl ?_
        exact z_jump (ls1 := [(0, .ref (B + v0)), (2, .int v2), (3, .int v3), (4, .int v4), (5, .int (v5 + (-1 : Int32))), (6, .int v6), (8, .int ((rI M (v0 + 6) ((v5 + (-1 : Int32)) - (1 : Int32)).toNatClampNeg) * (rI M (v0 + 6) (v5 + (-1 : Int32)).toNatClampNeg)))]) (Nat.le_of_ble_eq_true rfl) [3, 4, 5, 6, 2, 7, 0] rfl (z_fX6_compute_b217 C ht hr N k6 v0 v2 v3 v4 (v5 + (-1 : Int32)) v6 ((rI M (v0 + 6) ((v5 + (-1 : Int32)) - (1 : Int32)).toNatClampNeg) * (rI M (v0 + 6) (v5 + (-1 : Int32)).toNatClampNeg)) M h0 hk6)
      refine z_ite (q := v7 = (-4 : Int32)) (fun j9 => ?_) (fun j10 => ?_)
      · refine z_tableZ C 162 (-4) dX6_compute_120 (by rw [j9]; decide) (by decide) (by decide) rfl rfl ?_
        refine z_iload C 1 dX6_compute_162 rfl ?_
        refine z_iload C 0 dX6_compute_164 rfl ?_
        refine z_isub C dX6_compute_166 ?_
        refine z_istore C 8 (ls1 := [(8, .int ((rI M (v0 + 6) ((v5 + (-1 : Int32)) - (1 : Int32)).toNatClampNeg) - (rI M (v0 + 6) (v5 + (-1 : Int32)).toNatClampNeg))), (9, .int (rI M (v0 + 6) (v5 + (-1 : Int32)).toNatClampNeg)), (5, .int (v5 + (-1 : Int32))), (0, .ref (B + v0)), (2, .int v2), (3, .int v3), (4, .int v4), (6, .int v6), (7, .int v7)]) dX6_compute_167 (by decide) rfl ?_
        refine z_goto C 217 dX6_compute_169 rfl ?_
        exact z_jump (ls1 := [(0, .ref (B + v0)), (2, .int v2), (3, .int v3), (4, .int v4), (5, .int (v5 + (-1 : Int32))), (6, .int v6), (8, .int ((rI M (v0 + 6) ((v5 + (-1 : Int32)) - (1 : Int32)).toNatClampNeg) - (rI M (v0 + 6) (v5 + (-1 : Int32)).toNatClampNeg)))]) (Nat.le_of_ble_eq_true rfl) [3, 4, 5, 6, 2, 7, 0] rfl (z_fX6_compute_b217 C ht hr N k6 v0 v2 v3 v4 (v5 + (-1 : Int32)) v6 ((rI M (v0 + 6) ((v5 + (-1 : Int32)) - (1 : Int32)).toNatClampNeg) - (rI M (v0 + 6) (v5 + (-1 : Int32)).toNatClampNeg)) M h0 hk6)
      refine z_ite (q := v7 = (-3 : Int32)) (fun j11 => ?_) (fun j12 => ?_)
      · refine z_tableZ C 152 (-3) dX6_compute_120 (by rw [j11]; decide) (by decide) (by decide) rfl rfl ?_
        refine z_iload C 1 dX6_compute_152 rfl ?_
        refine z_iload C 0 dX6_compute_154 rfl ?_
        refine z_iadd C dX6_compute_156 ?_
        refine z_istore C 8 (ls1 := [(8, .int ((rI M (v0 + 6) ((v5 + (-1 : Int32)) - (1 : Int32)).toNatClampNeg) + (rI M (v0 + 6) (v5 + (-1 : Int32)).toNatClampNeg))), (9, .int (rI M (v0 + 6) (v5 + (-1 : Int32)).toNatClampNeg)), (5, .int (v5 + (-1 : Int32))), (0, .ref (B + v0)), (2, .int v2), (3, .int v3), (4, .int v4), (6, .int v6), (7, .int v7)]) dX6_compute_157 (by decide) rfl ?_
        refine z_goto C 217 dX6_compute_159 rfl ?_
        exact z_jump (ls1 := [(0, .ref (B + v0)), (2, .int v2), (3, .int v3), (4, .int v4), (5, .int (v5 + (-1 : Int32))), (6, .int v6), (8, .int ((rI M (v0 + 6) ((v5 + (-1 : Int32)) - (1 : Int32)).toNatClampNeg) + (rI M (v0 + 6) (v5 + (-1 : Int32)).toNatClampNeg)))]) (Nat.le_of_ble_eq_true rfl) [3, 4, 5, 6, 2, 7, 0] rfl (z_fX6_compute_b217 C ht hr N k6 v0 v2 v3 v4 (v5 + (-1 : Int32)) v6 ((rI M (v0 + 6) ((v5 + (-1 : Int32)) - (1 : Int32)).toNatClampNeg) + (rI M (v0 + 6) (v5 + (-1 : Int32)).toNatClampNeg)) M h0 hk6)
      have j6t := lv_neT (a := -6) j6 (by decide)
      have j8t := lv_neT (a := -5) j8 (by decide)
      have j10t := lv_neT (a := -4) j10 (by decide)
      have j12t := lv_neT (a := -3) j12 (by decide)
      refine z_tableOut C 201 dX6_compute_120 (by omega) rfl ?_
      refine z_iload C 0 dX6_compute_201 rfl ?_
      refine z_if_ne C 210 dX6_compute_203 rfl (fun _ => ?_) (fun _ => ?_)
      · refine z_iconst C dX6_compute_206 rfl ?_
        refine z_goto C 215 dX6_compute_207 rfl ?_
        exact z_jump (ls1 := [(0, .ref (B + v0)), (2, .int v2), (3, .int v3), (4, .int v4), (5, .int (v5 + (-1 : Int32))), (6, .int v6)]) (Nat.le_of_ble_eq_true rfl) [3, 4, 5, 6, 2, 7] rfl (z_fX6_compute_b215 C ht hr N k6 v0 v2 v3 v4 (v5 + (-1 : Int32)) v6 (0 : Int32) M h0 hk6)
      · refine z_iload C 1 dX6_compute_210 rfl ?_
        refine z_iload C 0 dX6_compute_212 rfl ?_
        refine z_irem C dX6_compute_214 (fun _ => ?_)
        exact z_jump (ls1 := [(0, .ref (B + v0)), (2, .int v2), (3, .int v3), (4, .int v4), (5, .int (v5 + (-1 : Int32))), (6, .int v6)]) (Nat.le_of_ble_eq_true rfl) [3, 4, 5, 6, 2, 7] rfl (z_fX6_compute_b215 C ht hr N k6 v0 v2 v3 v4 (v5 + (-1 : Int32)) v6 (remI (rI M (v0 + 6) ((v5 + (-1 : Int32)) - (1 : Int32)).toNatClampNeg) (rI M (v0 + 6) (v5 + (-1 : Int32)).toNatClampNeg)) M h0 hk6)
set_option maxHeartbeats 4000000 in
set_option maxRecDepth 100000 in
theorem z_fX6_compute_b75 {p : Program} {l : Launch} {e : Env} {s : State} {m : MethodId} {args : Array Value} {below : List Frame} {meth : Method} {c : Code} {D : va_G} {cy : Nat → ClassId} {B : Nat} {kd : Nat → Nat} {n : Nat} {sa sv : Nat → Nat} (C : zC p l s m args meth c D cy B kd n sa sv RX6 cX6_compute 10) (ht : ∀ x ∈ c.exceptionTable.toList, False) (hr : meth.sig.returnType = some (FieldType.int)) {b0 : Int32 × Mem}  (N : Nat) (k6 : Int32 → Int32 → Mem → Option (Int32 × Mem)) (v0 : Nat) (v2 : Int32) (v3 : Int32) (v4 : Int32) (v5 : Int32) (v6 : Int32) (s0 : Int32) (s1 : Int32) (s2 : Nat) (M : Mem) (h0 : kd v0 = 6) (hs2 : kd s2 = 24) (hk6 : ∀ (v5 : Int32) (v6 : Int32) (M : Mem), Z p l e (rmz 0 0) s m args below meth c (vx_MQ below (QcR D cy B kd n (cvI b0)) (XcR D cy B kd n (cvI b0)) args s 0 (6 * 0) (AA B kd n)) D cy B kd n 10 b0 0 6 [(0, .ref (B + v0)), (2, .int v2), (3, .int v3), (4, .int v4), (5, .int v5), (6, .int v6)] [] M (k6 v5 v6 M)) : Z p l e (rmz 0 0) s m args below meth c (vx_MQ below (QcR D cy B kd n (cvI b0)) (XcR D cy B kd n (cvI b0)) args s 0 (6 * 0) (AA B kd n)) D cy B kd n 10 b0 0 75 [(0, .ref (B + v0)), (2, .int v2), (3, .int v3), (4, .int v4), (5, .int v5), (6, .int v6)] [.int s0, .int s1, .ref (B + s2)] M (fX6_compute_b75 N k6 v0 v2 v3 v4 v5 v6 s0 s1 s2 M) := by
  unfold fX6_compute_b75
  refine z_iast C hs2 rfl (by decide) dX6_compute_75 (fun _ => ?_)
  refine z_iinc C 5 4 (v := v5) (v1 := (v5 + (1 : Int32))) (ls1 := [(5, .int (v5 + (1 : Int32))), (0, .ref (B + v0)), (2, .int v2), (3, .int v3), (4, .int v4), (6, .int v6)]) dX6_compute_76 rfl rfl (by decide) rfl ?_
  refine z_goto C 228 dX6_compute_79 rfl ?_
  exact z_jump (ls1 := [(0, .ref (B + v0)), (2, .int v2), (3, .int v3), (4, .int v4), (5, .int (v5 + (1 : Int32))), (6, .int v6)]) (Nat.le_of_ble_eq_true rfl) [1, 2, 3, 4, 0, 5] rfl (z_fX6_compute_b228 C ht hr N k6 v0 v2 v3 v4 (v5 + (1 : Int32)) v6 (wI M s2 s1.toNatClampNeg s0) h0 hk6)
set_option maxHeartbeats 4000000 in
set_option maxRecDepth 100000 in
theorem z_fX6_compute_l6_s {p : Program} {l : Launch} {e : Env} {s : State} {m : MethodId} {args : Array Value} {below : List Frame} {meth : Method} {c : Code} {D : va_G} {cy : Nat → ClassId} {B : Nat} {kd : Nat → Nat} {n : Nat} {sa sv : Nat → Nat} (C : zC p l s m args meth c D cy B kd n sa sv RX6 cX6_compute 10) (ht : ∀ x ∈ c.exceptionTable.toList, False) (hr : meth.sig.returnType = some (FieldType.int)) {b0 : Int32 × Mem} (N : Nat) (v0 : Nat) (v2 : Int32) (v3 : Int32) (v4 : Int32) (k6 : Int32 → Int32 → Mem → Option (Int32 × Mem)) (v5 : Int32) (v6 : Int32) (M : Mem) (h0 : kd v0 = 6)  (hk6 : ∀ (v5 : Int32) (v6 : Int32) (M : Mem), Z p l e (rmz 0 0) s m args below meth c (vx_MQ below (QcR D cy B kd n (cvI b0)) (XcR D cy B kd n (cvI b0)) args s 0 (6 * 0) (AA B kd n)) D cy B kd n 10 b0 0 6 [(0, .ref (B + v0)), (2, .int v2), (3, .int v3), (4, .int v4), (5, .int v5), (6, .int v6)] [] M (k6 v5 v6 M)) : Z p l e (rmz 0 0) s m args below meth c (vx_MQ below (QcR D cy B kd n (cvI b0)) (XcR D cy B kd n (cvI b0)) args s 0 (6 * 0) (AA B kd n)) D cy B kd n 10 b0 0 6 [(0, .ref (B + v0)), (2, .int v2), (3, .int v3), (4, .int v4), (5, .int v5), (6, .int v6)] [] M (fX6_compute_l6_s N v0 v2 v3 v4 k6 v5 v6 M) := by
  unfold fX6_compute_l6_s
  refine z_iload C 5 dX6_compute_6 rfl ?_
  refine z_iload_n C 2 1 dX6_compute_8 rfl rfl ?_
  refine z_icmp_ge C 234 dX6_compute_9 rfl (fun _ => ?_) (fun _ => ?_)
  · exact z_jump (ls1 := [(0, .ref (B + v0))]) (Nat.le_of_ble_eq_true rfl) [0] rfl (z_fX6_compute_b234 C ht hr N v0 M h0)
  · refine z_iload C 5 dX6_compute_12 rfl ?_
    refine z_aload_n C 0 0 dX6_compute_14 rfl rfl ?_
    refine z_getR (k := 8) C cl6 h0 rfl gw_1_68 rfl dX6_compute_15 ?_
    have j1 : kd (v0 + 1) = 20 := zkd C h0 (k := 8) rfl
    refine z_alen (v := 600) C j1 (by decide) rfl dX6_compute_18 ?_
    refine z_icmp_ge C 234 dX6_compute_19 rfl (fun _ => ?_) (fun _ => ?_)
    · exact z_jump (ls1 := [(0, .ref (B + v0))]) (Nat.le_of_ble_eq_true rfl) [0] rfl (z_fX6_compute_b234 C ht hr N v0 M h0)
    · refine z_aload_n C 0 0 dX6_compute_22 rfl rfl ?_
      refine z_getR (k := 8) C cl6 h0 rfl gw_1_68 rfl dX6_compute_23 ?_
      have j2 : kd (v0 + 1) = 20 := zkd C h0 (k := 8) rfl
      refine z_iload C 5 dX6_compute_26 rfl ?_
      refine z_iald C j2 rfl (by decide) dX6_compute_28 (fun j3 => ?_)
      refine z_istore C 7 (ls1 := [(7, .int (rI M (v0 + 1) v6.toNatClampNeg)), (0, .ref (B + v0)), (2, .int v2), (3, .int v3), (4, .int v4), (5, .int v5), (6, .int v6)]) dX6_compute_29 (by decide) rfl ?_
      refine z_iload C 0 dX6_compute_31 rfl ?_
      refine z_bipush (v := -3) C dX6_compute_33 rfl ?_
      refine z_icmp_le C 82 dX6_compute_35 rfl (fun _ => ?_) (fun _ => ?_)
      · exact z_jump (ls1 := [(0, .ref (B + v0)), (2, .int v2), (3, .int v3), (4, .int v4), (5, .int v5), (6, .int v6), (7, .int (rI M (v0 + 1) v6.toNatClampNeg))]) (Nat.le_of_ble_eq_true rfl) [1, 2, 3, 4, 5, 6, 0] rfl (z_fX6_compute_b82 C ht hr N k6 v0 v2 v3 v4 v5 v6 (rI M (v0 + 1) v6.toNatClampNeg) M h0 hk6)
      · refine z_iload C 5 dX6_compute_38 rfl ?_
        refine z_bipush (v := 16) C dX6_compute_40 rfl ?_
        refine z_icmp_ge C 82 dX6_compute_42 rfl (fun _ => ?_) (fun _ => ?_)
        · exact z_jump (ls1 := [(0, .ref (B + v0)), (2, .int v2), (3, .int v3), (4, .int v4), (5, .int v5), (6, .int v6), (7, .int (rI M (v0 + 1) v6.toNatClampNeg))]) (Nat.le_of_ble_eq_true rfl) [1, 2, 3, 4, 5, 6, 0] rfl (z_fX6_compute_b82 C ht hr N k6 v0 v2 v3 v4 v5 v6 (rI M (v0 + 1) v6.toNatClampNeg) M h0 hk6)
        · refine z_aload_n C 0 1 dX6_compute_45 rfl rfl ?_
          refine z_getR (k := 13) C cl6 h0 rfl gw_1_73 rfl dX6_compute_46 ?_
          have j4 : kd (v0 + 6) = 24 := zkd C h0 (k := 13) rfl
          refine z_iload C 5 dX6_compute_49 rfl ?_
          refine z_iload C 0 dX6_compute_51 rfl ?_
          refine z_iconst C dX6_compute_53 rfl ?_
          refine z_icmp_ne C 61 dX6_compute_54 rfl (fun _ => ?_) (fun _ => ?_)
          · refine z_iload_n C 3 3 dX6_compute_57 rfl rfl ?_
            refine z_goto C 75 dX6_compute_58 rfl ?_
            exact z_jump (ls1 := [(0, .ref (B + v0)), (2, .int v2), (3, .int v3), (4, .int v4), (5, .int v5), (6, .int v6)]) (Nat.le_of_ble_eq_true rfl) [1, 2, 3, 4, 5, 6] rfl (z_fX6_compute_b75 C ht hr N k6 v0 v2 v3 v4 v5 v6 v3 v5 (v0 + 6) M h0 j4 hk6)
          · refine z_iload C 0 dX6_compute_61 rfl ?_
            refine z_bipush (v := -2) C dX6_compute_63 rfl ?_
            refine z_icmp_ne C 73 dX6_compute_65 rfl (fun _ => ?_) (fun _ => ?_)
            · refine z_iload C 4 dX6_compute_68 rfl ?_
              refine z_goto C 75 dX6_compute_70 rfl ?_
              exact z_jump (ls1 := [(0, .ref (B + v0)), (2, .int v2), (3, .int v3), (4, .int v4), (5, .int v5), (6, .int v6)]) (Nat.le_of_ble_eq_true rfl) [1, 2, 3, 4, 5, 6] rfl (z_fX6_compute_b75 C ht hr N k6 v0 v2 v3 v4 v5 v6 v4 v5 (v0 + 6) M h0 j4 hk6)
            · refine z_iload C 0 dX6_compute_73 rfl ?_
              exact z_jump (ls1 := [(0, .ref (B + v0)), (2, .int v2), (3, .int v3), (4, .int v4), (5, .int v5), (6, .int v6)]) (Nat.le_of_ble_eq_true rfl) [1, 2, 3, 4, 5, 6] rfl (z_fX6_compute_b75 C ht hr N k6 v0 v2 v3 v4 v5 v6 (rI M (v0 + 1) v6.toNatClampNeg) v5 (v0 + 6) M h0 j4 hk6)
theorem z_fX6_compute_l6_i {p : Program} {l : Launch} {e : Env} {s : State} {m : MethodId} {args : Array Value} {below : List Frame} {meth : Method} {c : Code} {D : va_G} {cy : Nat → ClassId} {B : Nat} {kd : Nat → Nat} {n : Nat} {sa sv : Nat → Nat} (C : zC p l s m args meth c D cy B kd n sa sv RX6 cX6_compute 10) (ht : ∀ x ∈ c.exceptionTable.toList, False) (hr : meth.sig.returnType = some (FieldType.int)) {b0 : Int32 × Mem} (N : Nat) (v0 : Nat) (v2 : Int32) (v3 : Int32) (v4 : Int32) (h0 : kd v0 = 6)  (fu : Nat) : ∀ (v5 : Int32) (v6 : Int32) (M : Mem), Z p l e (rmz 0 0) s m args below meth c (vx_MQ below (QcR D cy B kd n (cvI b0)) (XcR D cy B kd n (cvI b0)) args s 0 (6 * 0) (AA B kd n)) D cy B kd n 10 b0 0 6 [(0, .ref (B + v0)), (2, .int v2), (3, .int v3), (4, .int v4), (5, .int v5), (6, .int v6)] [] M (fX6_compute_l6 N v0 v2 v3 v4 fu v5 v6 M) := by
  induction fu with
  | zero => intro v5 v6 M; exact z_none
  | succ fu ih => intro v5 v6 M; exact z_fX6_compute_l6_s C ht hr N v0 v2 v3 v4 (fX6_compute_l6 N v0 v2 v3 v4 fu) v5 v6 M h0 (fun v5 v6 M => ih v5 v6 M)
theorem z_fX6_compute_l6 {p : Program} {l : Launch} {e : Env} {s : State} {m : MethodId} {args : Array Value} {below : List Frame} {meth : Method} {c : Code} {D : va_G} {cy : Nat → ClassId} {B : Nat} {kd : Nat → Nat} {n : Nat} {sa sv : Nat → Nat} (C : zC p l s m args meth c D cy B kd n sa sv RX6 cX6_compute 10) (ht : ∀ x ∈ c.exceptionTable.toList, False) (hr : meth.sig.returnType = some (FieldType.int)) {b0 : Int32 × Mem} (N : Nat) (v0 : Nat) (v2 : Int32) (v3 : Int32) (v4 : Int32) (fu : Nat) (v5 : Int32) (v6 : Int32) (M : Mem) (h0 : kd v0 = 6)  : Z p l e (rmz 0 0) s m args below meth c (vx_MQ below (QcR D cy B kd n (cvI b0)) (XcR D cy B kd n (cvI b0)) args s 0 (6 * 0) (AA B kd n)) D cy B kd n 10 b0 0 6 [(0, .ref (B + v0)), (2, .int v2), (3, .int v3), (4, .int v4), (5, .int v5), (6, .int v6)] [] M (fX6_compute_l6 N v0 v2 v3 v4 fu v5 v6 M) := z_fX6_compute_l6_i C ht hr N v0 v2 v3 v4 h0 fu v5 v6 M
set_option maxHeartbeats 4000000 in
set_option maxRecDepth 100000 in
theorem ctX6_compute {l : Launch} {D : va_G} {cy : Nat → ClassId} {B : Nat} {kd : Nat → Nat} {n : Nat} {sa sv : Nat → Nat} (G : zG l kd n) (N : Nat) (v0 : Nat) (v1 : Int32) (v2 : Int32) (v3 : Int32) (v4 : Int32) (h0 : kd v0 = 6) (M : Mem) : CT l D cy B kd n sa sv 0 0 yX6_compute cX6_compute 10 (some (FieldType.int)) cvI [.ref (B + v0), .int v1, .int v2, .int v3, .int v4] M (fX6_compute N v0 v1 v2 v3 v4 M) := by
  refine ct_of (by decide) G.1 G.2 (Nat.le_of_ble_eq_true rfl) (ls := [(0, .ref (B + v0)), (1, .int v1), (2, .int v2), (3, .int v3), (4, .int v4)]) rfl ?_
  intro p e s m args below meth c b0 C ht hr
  unfold fX6_compute
  refine z_iconst C dX6_compute_0 rfl ?_
  refine z_istore C 5 (ls1 := [(5, .int (0 : Int32)), (0, .ref (B + v0)), (1, .int v1), (2, .int v2), (3, .int v3), (4, .int v4)]) dX6_compute_1 (by decide) rfl ?_
  refine z_iload_n C 1 2 dX6_compute_3 rfl rfl ?_
  refine z_istore C 6 (ls1 := [(6, .int v1), (5, .int (0 : Int32)), (0, .ref (B + v0)), (1, .int v1), (2, .int v2), (3, .int v3), (4, .int v4)]) dX6_compute_4 (by decide) rfl ?_
  exact z_jump (ls1 := [(0, .ref (B + v0)), (2, .int v2), (3, .int v3), (4, .int v4), (5, .int (0 : Int32)), (6, .int v1)]) (Nat.le_of_ble_eq_true rfl) [2, 4, 5, 6, 1, 0] rfl (z_fX6_compute_l6 C ht hr N v0 v2 v3 v4 N (0 : Int32) v1 M h0)
set_option maxHeartbeats 4000000 in
set_option maxRecDepth 100000 in
theorem z_fX6_placeOf_b18 {p : Program} {l : Launch} {e : Env} {s : State} {m : MethodId} {args : Array Value} {below : List Frame} {meth : Method} {c : Code} {D : va_G} {cy : Nat → ClassId} {B : Nat} {kd : Nat → Nat} {n : Nat} {sa sv : Nat → Nat} (C : zC p l s m args meth c D cy B kd n sa sv RX6 cX6_placeOf 6) (ht : ∀ x ∈ c.exceptionTable.toList, False) (hr : meth.sig.returnType = some (FieldType.int)) {b0 : Int32 × Mem}  (N : Nat) (M : Mem)  : Z p l e (rmz 1 0) s m args below meth c (vx_MQ below (QcR D cy B kd n (cvI b0)) (XcR D cy B kd n (cvI b0)) args s 0 (6 * 0) (AA B kd n)) D cy B kd n 6 b0 0 18 [] [] M (fX6_placeOf_b18 N M) := by
  unfold fX6_placeOf_b18
  refine z_iconst C dX6_placeOf_18 rfl ?_
  exact z_iret C hr (Nat.le_of_ble_eq_true rfl) dX6_placeOf_19 rfl
set_option maxHeartbeats 4000000 in
set_option maxRecDepth 100000 in
theorem z_fX6_placeOf_b95 {p : Program} {l : Launch} {e : Env} {s : State} {m : MethodId} {args : Array Value} {below : List Frame} {meth : Method} {c : Code} {D : va_G} {cy : Nat → ClassId} {B : Nat} {kd : Nat → Nat} {n : Nat} {sa sv : Nat → Nat} (C : zC p l s m args meth c D cy B kd n sa sv RX6 cX6_placeOf 6) (ht : ∀ x ∈ c.exceptionTable.toList, False) (hr : meth.sig.returnType = some (FieldType.int)) {b0 : Int32 × Mem}  (N : Nat) (v3 : Int32) (s0 : Int32) (M : Mem)  : Z p l e (rmz 1 0) s m args below meth c (vx_MQ below (QcR D cy B kd n (cvI b0)) (XcR D cy B kd n (cvI b0)) args s 0 (6 * 0) (AA B kd n)) D cy B kd n 6 b0 0 95 [(3, .int v3)] [.int s0] M (fX6_placeOf_b95 N v3 s0 M) := by
  unfold fX6_placeOf_b95
  refine z_istore C 5 (ls1 := [(5, .int s0), (3, .int v3)]) dX6_placeOf_95 (by decide) rfl ?_
  refine z_iload C 0 dX6_placeOf_97 rfl ?_
  refine z_iload_n C 3 1 dX6_placeOf_99 rfl rfl ?_
  refine z_callSN_pI (As := [.int s0, .int v3]) (rest := []) C rfl (ctX10_modulo (zG_of C) s0 v3 M) cw_RX6_65 nw_RX6_65 (okM_X10_modulo) rfl (okR_of rfl) (Nat.le_of_ble_eq_true rfl) dX6_placeOf_100 (fun qj1 _ => ?_)
  exact z_iret C hr (Nat.le_of_ble_eq_true rfl) dX6_placeOf_103 rfl
set_option maxHeartbeats 4000000 in
set_option maxRecDepth 100000 in
theorem z_fX6_placeOf_b55 {p : Program} {l : Launch} {e : Env} {s : State} {m : MethodId} {args : Array Value} {below : List Frame} {meth : Method} {c : Code} {D : va_G} {cy : Nat → ClassId} {B : Nat} {kd : Nat → Nat} {n : Nat} {sa sv : Nat → Nat} (C : zC p l s m args meth c D cy B kd n sa sv RX6 cX6_placeOf 6) (ht : ∀ x ∈ c.exceptionTable.toList, False) (hr : meth.sig.returnType = some (FieldType.int)) {b0 : Int32 × Mem}  (N : Nat) (v0 : Nat) (v1 : Int32) (v2 : Int32) (v3 : Int32) (s0 : Bool) (M : Mem) (h0 : kd v0 = 6)  : Z p l e (rmz 1 0) s m args below meth c (vx_MQ below (QcR D cy B kd n (cvI b0)) (XcR D cy B kd n (cvI b0)) args s 0 (6 * 0) (AA B kd n)) D cy B kd n 6 b0 0 55 [(0, .ref (B + v0)), (1, .int v1), (2, .int v2), (3, .int v3)] [.int (bI s0)] M (fX6_placeOf_b55 N v0 v1 v2 v3 s0 M) := by
  unfold fX6_placeOf_b55
  refine z_istore C 4 (ls1 := [(4, .int (bI s0)), (0, .ref (B + v0)), (1, .int v1), (2, .int v2), (3, .int v3)]) dX6_placeOf_55 (by decide) rfl ?_
  refine z_iload C 0 dX6_placeOf_57 rfl ?_
  refine z_if_eqB C 77 dX6_placeOf_59 rfl (fun _ => ?_) (fun _ => ?_)
  · refine z_aload_n C 0 1 dX6_placeOf_62 rfl rfl ?_
    refine z_getR (k := 12) C cl6 h0 rfl gw_1_72 rfl dX6_placeOf_63 ?_
    have j1 : kd (v0 + 5) = 23 := zkd C h0 (k := 12) rfl
    refine z_iload_n C 1 2 dX6_placeOf_66 rfl rfl ?_
    refine z_sipush (v := 256) C dX6_placeOf_67 rfl ?_
    refine z_imul C dX6_placeOf_70 ?_
    refine z_iload_n C 2 3 dX6_placeOf_71 rfl rfl ?_
    refine z_iadd C dX6_placeOf_72 ?_
    refine z_iald C j1 rfl (by decide) dX6_placeOf_73 (fun j2 => ?_)
    refine z_goto C 95 dX6_placeOf_74 rfl ?_
    exact z_jump (ls1 := [(3, .int v3)]) (Nat.le_of_ble_eq_true rfl) [4] rfl (z_fX6_placeOf_b95 C ht hr N v3 (rI M (v0 + 5) ((v1 * (256 : Int32)) + v2).toNatClampNeg) M)
  · refine z_aload_n C 0 1 dX6_placeOf_77 rfl rfl ?_
    refine z_aload_n C 0 1 dX6_placeOf_78 rfl rfl ?_
    refine z_getR (k := 9) C cl6 h0 rfl gw_1_69 rfl dX6_placeOf_79 ?_
    have j3 : kd (v0 + 2) = 21 := zkd C h0 (k := 9) rfl
    refine z_iload_n C 1 2 dX6_placeOf_82 rfl rfl ?_
    refine z_iald C j3 rfl (by decide) dX6_placeOf_83 (fun j4 => ?_)
    refine z_aload_n C 0 1 dX6_placeOf_84 rfl rfl ?_
    refine z_getR (k := 10) C cl6 h0 rfl gw_1_70 rfl dX6_placeOf_85 ?_
    have j5 : kd (v0 + 3) = 21 := zkd C h0 (k := 10) rfl
    refine z_iload_n C 1 2 dX6_placeOf_88 rfl rfl ?_
    refine z_iald C j5 rfl (by decide) dX6_placeOf_89 (fun j6 => ?_)
    refine z_iload_n C 2 3 dX6_placeOf_90 rfl rfl ?_
    refine z_iload_n C 3 4 dX6_placeOf_91 rfl rfl ?_
    refine z_callV_I (As := [.int (rI M (v0 + 2) v1.toNatClampNeg), .int (rI M (v0 + 3) v1.toNatClampNeg), .int v2, .int v3]) (rest := []) C rfl (ctX6_compute (zG_of C) N v0 (rI M (v0 + 2) v1.toNatClampNeg) (rI M (v0 + 3) v1.toNatClampNeg) v2 v3 h0 M) cw_RX6_61 rfl (okM_X6_compute) rfl cl6 h0 (okR_of rfl) (Nat.le_of_ble_eq_true rfl) dX6_placeOf_92 (fun qj7 _ => ?_)
    exact z_jump (ls1 := [(3, .int v3)]) (Nat.le_of_ble_eq_true rfl) [4] rfl (z_fX6_placeOf_b95 C ht hr N v3 qj7.1 qj7.2)
set_option maxHeartbeats 4000000 in
set_option maxRecDepth 100000 in
theorem z_fX6_placeOf_b54 {p : Program} {l : Launch} {e : Env} {s : State} {m : MethodId} {args : Array Value} {below : List Frame} {meth : Method} {c : Code} {D : va_G} {cy : Nat → ClassId} {B : Nat} {kd : Nat → Nat} {n : Nat} {sa sv : Nat → Nat} (C : zC p l s m args meth c D cy B kd n sa sv RX6 cX6_placeOf 6) (ht : ∀ x ∈ c.exceptionTable.toList, False) (hr : meth.sig.returnType = some (FieldType.int)) {b0 : Int32 × Mem}  (N : Nat) (v0 : Nat) (v1 : Int32) (v2 : Int32) (v3 : Int32) (M : Mem) (h0 : kd v0 = 6)  : Z p l e (rmz 1 0) s m args below meth c (vx_MQ below (QcR D cy B kd n (cvI b0)) (XcR D cy B kd n (cvI b0)) args s 0 (6 * 0) (AA B kd n)) D cy B kd n 6 b0 0 54 [(0, .ref (B + v0)), (1, .int v1), (2, .int v2), (3, .int v3)] [] M (fX6_placeOf_b54 N v0 v1 v2 v3 M) := by
  unfold fX6_placeOf_b54
  refine z_iconst C dX6_placeOf_54 rfl ?_
  exact z_jump (ls1 := [(0, .ref (B + v0)), (1, .int v1), (2, .int v2), (3, .int v3)]) (Nat.le_of_ble_eq_true rfl) [0, 1, 2, 3] rfl (z_fX6_placeOf_b55 C ht hr N v0 v1 v2 v3 false M h0)
set_option maxHeartbeats 4000000 in
set_option maxRecDepth 100000 in
theorem ctX6_placeOf {l : Launch} {D : va_G} {cy : Nat → ClassId} {B : Nat} {kd : Nat → Nat} {n : Nat} {sa sv : Nat → Nat} (G : zG l kd n) (N : Nat) (v0 : Nat) (v1 : Int32) (v2 : Int32) (v3 : Int32) (h0 : kd v0 = 6) (M : Mem) : CT l D cy B kd n sa sv 1 0 yX6_placeOf cX6_placeOf 6 (some (FieldType.int)) cvI [.ref (B + v0), .int v1, .int v2, .int v3] M (fX6_placeOf N v0 v1 v2 v3 M) := by
  refine ct_of (by decide) G.1 G.2 (Nat.le_of_ble_eq_true rfl) (ls := [(0, .ref (B + v0)), (1, .int v1), (2, .int v2), (3, .int v3)]) rfl ?_
  intro p e s m args below meth c b0 C ht hr
  unfold fX6_placeOf
  refine z_iload_n C 1 1 dX6_placeOf_0 rfl rfl ?_
  refine z_if_lt C 18 dX6_placeOf_1 rfl (fun _ => ?_) (fun _ => ?_)
  · exact z_jump (ls1 := []) (Nat.le_of_ble_eq_true rfl) [] rfl (z_fX6_placeOf_b18 C ht hr N M)
  · refine z_iload_n C 1 1 dX6_placeOf_4 rfl rfl ?_
    refine z_aload_n C 0 0 dX6_placeOf_5 rfl rfl ?_
    refine z_getI (k := 3) C cl6 h0 rfl gw_1_60 rfl dX6_placeOf_6 ?_
    refine z_icmp_ge C 18 dX6_placeOf_9 rfl (fun _ => ?_) (fun _ => ?_)
    · exact z_jump (ls1 := []) (Nat.le_of_ble_eq_true rfl) [] rfl (z_fX6_placeOf_b18 C ht hr N M)
    · refine z_iload_n C 1 1 dX6_placeOf_12 rfl rfl ?_
      refine z_bipush (v := 6) C dX6_placeOf_13 rfl ?_
      refine z_icmp_lt C 20 dX6_placeOf_15 rfl (fun _ => ?_) (fun _ => ?_)
      · refine z_aload_n C 0 0 dX6_placeOf_20 rfl rfl ?_
        refine z_getI (k := 7) C cl6 h0 rfl gw_1_67 rfl dX6_placeOf_21 ?_
        refine z_iload_n C 1 1 dX6_placeOf_24 rfl rfl ?_
        refine z_ishr C dX6_placeOf_25 ?_
        refine z_iconst C dX6_placeOf_26 rfl ?_
        refine z_iand C dX6_placeOf_27 ?_
        refine z_if_ne C 54 dX6_placeOf_28 rfl (fun _ => ?_) (fun _ => ?_)
        · refine z_iload_n C 2 2 dX6_placeOf_31 rfl rfl ?_
          refine z_if_lt C 54 dX6_placeOf_32 rfl (fun _ => ?_) (fun _ => ?_)
          · exact z_jump (ls1 := [(0, .ref (B + v0)), (1, .int v1), (2, .int v2), (3, .int v3)]) (Nat.le_of_ble_eq_true rfl) [0, 1, 2, 3] rfl (z_fX6_placeOf_b54 C ht hr N v0 v1 v2 v3 M h0)
          · refine z_iload_n C 2 2 dX6_placeOf_35 rfl rfl ?_
            refine z_aload_n C 0 0 dX6_placeOf_36 rfl rfl ?_
            refine z_getI (k := 1) C cl6 h0 rfl gw_1_53 rfl dX6_placeOf_37 ?_
            refine z_icmp_ge C 54 dX6_placeOf_40 rfl (fun _ => ?_) (fun _ => ?_)
            · exact z_jump (ls1 := [(0, .ref (B + v0)), (1, .int v1), (2, .int v2), (3, .int v3)]) (Nat.le_of_ble_eq_true rfl) [0, 1, 2, 3] rfl (z_fX6_placeOf_b54 C ht hr N v0 v1 v2 v3 M h0)
            · refine z_iload_n C 2 2 dX6_placeOf_43 rfl rfl ?_
              refine z_sipush (v := 256) C dX6_placeOf_44 rfl ?_
              refine z_icmp_ge C 54 dX6_placeOf_47 rfl (fun _ => ?_) (fun _ => ?_)
              · exact z_jump (ls1 := [(0, .ref (B + v0)), (1, .int v1), (2, .int v2), (3, .int v3)]) (Nat.le_of_ble_eq_true rfl) [0, 1, 2, 3] rfl (z_fX6_placeOf_b54 C ht hr N v0 v1 v2 v3 M h0)
              · refine z_iconst C dX6_placeOf_50 rfl ?_
                refine z_goto C 55 dX6_placeOf_51 rfl ?_
                exact z_jump (ls1 := [(0, .ref (B + v0)), (1, .int v1), (2, .int v2), (3, .int v3)]) (Nat.le_of_ble_eq_true rfl) [0, 1, 2, 3] rfl (z_fX6_placeOf_b55 C ht hr N v0 v1 v2 v3 true M h0)
        · exact z_jump (ls1 := [(0, .ref (B + v0)), (1, .int v1), (2, .int v2), (3, .int v3)]) (Nat.le_of_ble_eq_true rfl) [0, 1, 2, 3] rfl (z_fX6_placeOf_b54 C ht hr N v0 v1 v2 v3 M h0)
      · exact z_jump (ls1 := []) (Nat.le_of_ble_eq_true rfl) [] rfl (z_fX6_placeOf_b18 C ht hr N M)
set_option maxHeartbeats 4000000 in
set_option maxRecDepth 100000 in
theorem z_fX6_placesOf_l6_s {p : Program} {l : Launch} {e : Env} {s : State} {m : MethodId} {args : Array Value} {below : List Frame} {meth : Method} {c : Code} {D : va_G} {cy : Nat → ClassId} {B : Nat} {kd : Nat → Nat} {n : Nat} {sa sv : Nat → Nat} (C : zC p l s m args meth c D cy B kd n sa sv RX6 cX6_placesOf 7) (ht : ∀ x ∈ c.exceptionTable.toList, False) (hr : meth.sig.returnType = some (FieldType.long)) {b0 : Int64 × Mem} (N : Nat) (v0 : Nat) (v1 : Int32) (v2 : Int32) (v3 : Int32) (k6 : Int64 → Int32 → Mem → Option (Int64 × Mem)) (v4 : Int64) (v6 : Int32) (M : Mem) (h0 : kd v0 = 6)  (hk6 : ∀ (v4 : Int64) (v6 : Int32) (M : Mem), Z p l e (rmz 2 0) s m args below meth c (vx_MQ below (QcR D cy B kd n (cvJ b0)) (XcR D cy B kd n (cvJ b0)) args s 0 (6 * 0) (AA B kd n)) D cy B kd n 7 b0 0 6 [(0, .ref (B + v0)), (1, .int v1), (2, .int v2), (3, .int v3), (4, .long v4), (6, .int v6)] [] M (k6 v4 v6 M)) : Z p l e (rmz 2 0) s m args below meth c (vx_MQ below (QcR D cy B kd n (cvJ b0)) (XcR D cy B kd n (cvJ b0)) args s 0 (6 * 0) (AA B kd n)) D cy B kd n 7 b0 0 6 [(0, .ref (B + v0)), (1, .int v1), (2, .int v2), (3, .int v3), (4, .long v4), (6, .int v6)] [] M (fX6_placesOf_l6_s N v0 v1 v2 v3 k6 v4 v6 M) := by
  unfold fX6_placesOf_l6_s
  refine z_iload C 5 dX6_placesOf_6 rfl ?_
  refine z_iload_n C 3 3 dX6_placesOf_8 rfl rfl ?_
  refine z_icmp_ge C 33 dX6_placesOf_9 rfl (fun _ => ?_) (fun _ => ?_)
  · refine z_lload C 4 dX6_placesOf_33 rfl ?_
    exact z_lret C hr (Nat.le_of_ble_eq_true rfl) dX6_placesOf_35 rfl
  · refine z_lload C 4 dX6_placesOf_12 rfl ?_
    refine z_lconst (v := 1) C dX6_placesOf_14 rfl ?_
    refine z_aload_n C 0 0 dX6_placesOf_15 rfl rfl ?_
    refine z_iload C 5 dX6_placesOf_16 rfl ?_
    refine z_iload_n C 1 1 dX6_placesOf_18 rfl rfl ?_
    refine z_iload_n C 2 2 dX6_placesOf_19 rfl rfl ?_
    refine z_callV_I (As := [.int v6, .int v1, .int v2]) (rest := [.long (1 : Int64), .long v4]) C rfl (ctX6_placeOf (zG_of C) N v0 v6 v1 v2 h0 M) cw_RX6_68 rfl (okM_X6_placeOf) rfl cl6 h0 (okR_of rfl) (Nat.le_of_ble_eq_true rfl) dX6_placesOf_20 (fun qj1 _ => ?_)
    refine z_lshl C dX6_placesOf_23 ?_
    refine z_lor C dX6_placesOf_24 ?_
    refine z_lstore C 4 (ls1 := [(4, .long (v4 ||| (shlJ (1 : Int64) qj1.1))), (0, .ref (B + v0)), (1, .int v1), (2, .int v2), (3, .int v3), (6, .int v6)]) dX6_placesOf_25 (by decide) rfl ?_
    refine z_iinc C 6 5 (v := v6) (v1 := (v6 + (1 : Int32))) (ls1 := [(6, .int (v6 + (1 : Int32))), (4, .long (v4 ||| (shlJ (1 : Int64) qj1.1))), (0, .ref (B + v0)), (1, .int v1), (2, .int v2), (3, .int v3)]) dX6_placesOf_27 rfl rfl (by decide) rfl ?_
    refine z_goto C 6 dX6_placesOf_30 rfl ?_
    exact z_jump (ls1 := [(0, .ref (B + v0)), (1, .int v1), (2, .int v2), (3, .int v3), (4, .long (v4 ||| (shlJ (1 : Int64) qj1.1))), (6, .int (v6 + (1 : Int32)))]) (Nat.le_of_ble_eq_true rfl) [2, 3, 4, 5, 1, 0] rfl (hk6 (v4 ||| (shlJ (1 : Int64) qj1.1)) (v6 + (1 : Int32)) qj1.2)
theorem z_fX6_placesOf_l6_i {p : Program} {l : Launch} {e : Env} {s : State} {m : MethodId} {args : Array Value} {below : List Frame} {meth : Method} {c : Code} {D : va_G} {cy : Nat → ClassId} {B : Nat} {kd : Nat → Nat} {n : Nat} {sa sv : Nat → Nat} (C : zC p l s m args meth c D cy B kd n sa sv RX6 cX6_placesOf 7) (ht : ∀ x ∈ c.exceptionTable.toList, False) (hr : meth.sig.returnType = some (FieldType.long)) {b0 : Int64 × Mem} (N : Nat) (v0 : Nat) (v1 : Int32) (v2 : Int32) (v3 : Int32) (h0 : kd v0 = 6)  (fu : Nat) : ∀ (v4 : Int64) (v6 : Int32) (M : Mem), Z p l e (rmz 2 0) s m args below meth c (vx_MQ below (QcR D cy B kd n (cvJ b0)) (XcR D cy B kd n (cvJ b0)) args s 0 (6 * 0) (AA B kd n)) D cy B kd n 7 b0 0 6 [(0, .ref (B + v0)), (1, .int v1), (2, .int v2), (3, .int v3), (4, .long v4), (6, .int v6)] [] M (fX6_placesOf_l6 N v0 v1 v2 v3 fu v4 v6 M) := by
  induction fu with
  | zero => intro v4 v6 M; exact z_none
  | succ fu ih => intro v4 v6 M; exact z_fX6_placesOf_l6_s C ht hr N v0 v1 v2 v3 (fX6_placesOf_l6 N v0 v1 v2 v3 fu) v4 v6 M h0 (fun v4 v6 M => ih v4 v6 M)
theorem z_fX6_placesOf_l6 {p : Program} {l : Launch} {e : Env} {s : State} {m : MethodId} {args : Array Value} {below : List Frame} {meth : Method} {c : Code} {D : va_G} {cy : Nat → ClassId} {B : Nat} {kd : Nat → Nat} {n : Nat} {sa sv : Nat → Nat} (C : zC p l s m args meth c D cy B kd n sa sv RX6 cX6_placesOf 7) (ht : ∀ x ∈ c.exceptionTable.toList, False) (hr : meth.sig.returnType = some (FieldType.long)) {b0 : Int64 × Mem} (N : Nat) (v0 : Nat) (v1 : Int32) (v2 : Int32) (v3 : Int32) (fu : Nat) (v4 : Int64) (v6 : Int32) (M : Mem) (h0 : kd v0 = 6)  : Z p l e (rmz 2 0) s m args below meth c (vx_MQ below (QcR D cy B kd n (cvJ b0)) (XcR D cy B kd n (cvJ b0)) args s 0 (6 * 0) (AA B kd n)) D cy B kd n 7 b0 0 6 [(0, .ref (B + v0)), (1, .int v1), (2, .int v2), (3, .int v3), (4, .long v4), (6, .int v6)] [] M (fX6_placesOf_l6 N v0 v1 v2 v3 fu v4 v6 M) := z_fX6_placesOf_l6_i C ht hr N v0 v1 v2 v3 h0 fu v4 v6 M
set_option maxHeartbeats 4000000 in
set_option maxRecDepth 100000 in
theorem ctX6_placesOf {l : Launch} {D : va_G} {cy : Nat → ClassId} {B : Nat} {kd : Nat → Nat} {n : Nat} {sa sv : Nat → Nat} (G : zG l kd n) (N : Nat) (v0 : Nat) (v1 : Int32) (v2 : Int32) (v3 : Int32) (h0 : kd v0 = 6) (M : Mem) : CT l D cy B kd n sa sv 2 0 yX6_placesOf cX6_placesOf 7 (some (FieldType.long)) cvJ [.ref (B + v0), .int v1, .int v2, .int v3] M (fX6_placesOf N v0 v1 v2 v3 M) := by
  refine ct_of (by decide) G.1 G.2 (Nat.le_of_ble_eq_true rfl) (ls := [(0, .ref (B + v0)), (1, .int v1), (2, .int v2), (3, .int v3)]) rfl ?_
  intro p e s m args below meth c b0 C ht hr
  unfold fX6_placesOf
  refine z_lconst (v := 0) C dX6_placesOf_0 rfl ?_
  refine z_lstore C 4 (ls1 := [(4, .long (0 : Int64)), (0, .ref (B + v0)), (1, .int v1), (2, .int v2), (3, .int v3)]) dX6_placesOf_1 (by decide) rfl ?_
  refine z_iconst C dX6_placesOf_3 rfl ?_
  refine z_istore C 6 (ls1 := [(6, .int (0 : Int32)), (4, .long (0 : Int64)), (0, .ref (B + v0)), (1, .int v1), (2, .int v2), (3, .int v3)]) dX6_placesOf_4 (by decide) rfl ?_
  exact z_jump (ls1 := [(0, .ref (B + v0)), (1, .int v1), (2, .int v2), (3, .int v3), (4, .long (0 : Int64)), (6, .int (0 : Int32))]) (Nat.le_of_ble_eq_true rfl) [2, 3, 4, 5, 1, 0] rfl (z_fX6_placesOf_l6 C ht hr N v0 v1 v2 v3 N (0 : Int64) (0 : Int32) M h0)
set_option maxHeartbeats 4000000 in
set_option maxRecDepth 100000 in
theorem ctX6_clear {l : Launch} {D : va_G} {cy : Nat → ClassId} {B : Nat} {kd : Nat → Nat} {n : Nat} {sa sv : Nat → Nat} (G : zG l kd n) (v0 : Nat) (h0 : kd v0 = 6) (M : Mem) : CT l D cy B kd n sa sv 0 0 yX6_clear cX6_clear 1 (none) cvV [.ref (B + v0)] M (fX6_clear v0 M) := by
  refine ct_of (by decide) G.1 G.2 (Nat.le_of_ble_eq_true rfl) (ls := [(0, .ref (B + v0))]) rfl ?_
  intro p e s m args below meth c b0 C ht hr
  unfold fX6_clear
  refine z_aload_n C 0 0 dX6_clear_0 rfl rfl ?_
  refine z_iconst C dX6_clear_1 rfl ?_
  refine z_putI (k := 0) C cl6 h0 rfl gw_1_49 rfl rfl rfl dX6_clear_2 ?_
  refine z_aload_n C 0 0 dX6_clear_5 rfl rfl ?_
  refine z_bipush (v := 64) C dX6_clear_6 rfl ?_
  refine z_putI (k := 1) C cl6 h0 rfl gw_1_53 rfl rfl rfl dX6_clear_8 ?_
  refine z_aload_n C 0 0 dX6_clear_11 rfl rfl ?_
  refine z_bipush (v := 16) C dX6_clear_12 rfl ?_
  refine z_putI (k := 2) C cl6 h0 rfl gw_1_57 rfl rfl rfl dX6_clear_14 ?_
  refine z_aload_n C 0 0 dX6_clear_17 rfl rfl ?_
  refine z_iconst C dX6_clear_18 rfl ?_
  refine z_putI (k := 3) C cl6 h0 rfl gw_1_60 rfl rfl rfl dX6_clear_19 ?_
  refine z_aload_n C 0 0 dX6_clear_22 rfl rfl ?_
  refine z_iconst C dX6_clear_23 rfl ?_
  refine z_putI (k := 4) C cl6 h0 rfl gw_1_64 rfl rfl rfl dX6_clear_24 ?_
  refine z_aload_n C 0 0 dX6_clear_27 rfl rfl ?_
  refine z_iconst C dX6_clear_28 rfl ?_
  refine z_putI (k := 5) C cl6 h0 rfl gw_1_65 rfl rfl rfl dX6_clear_29 ?_
  refine z_aload_n C 0 0 dX6_clear_32 rfl rfl ?_
  refine z_iconst C dX6_clear_33 rfl ?_
  refine z_putI (k := 6) C cl6 h0 rfl gw_1_66 rfl rfl rfl dX6_clear_34 ?_
  refine z_aload_n C 0 0 dX6_clear_37 rfl rfl ?_
  refine z_iconst C dX6_clear_38 rfl ?_
  refine z_putI (k := 7) C cl6 h0 rfl gw_1_67 rfl rfl rfl dX6_clear_39 ?_
  exact z_vret C hr (Nat.le_of_ble_eq_true rfl) dX6_clear_42 rfl
set_option maxHeartbeats 4000000 in
set_option maxRecDepth 100000 in
theorem ctX6_emitted {l : Launch} {D : va_G} {cy : Nat → ClassId} {B : Nat} {kd : Nat → Nat} {n : Nat} {sa sv : Nat → Nat} (G : zG l kd n) (v0 : Nat) (h0 : kd v0 = 6) (Mo : Mem) : CT l D cy B kd n sa sv 0 0 yX6_emitted cX6_emitted 1 (some (FieldType.int)) (pI Mo) [.ref (B + v0)] Mo (fX6_emitted v0 Mo) := by
  refine ct_of (by decide) G.1 G.2 (Nat.le_of_ble_eq_true rfl) (ls := [(0, .ref (B + v0))]) rfl ?_
  intro p e s m args below meth c b0 C ht hr
  unfold fX6_emitted
  refine z_aload_n C 0 0 dX6_emitted_0 rfl rfl ?_
  refine z_getI (k := 4) C cl6 h0 rfl gw_1_64 rfl dX6_emitted_1 ?_
  exact z_iret C hr (Nat.le_of_ble_eq_true rfl) dX6_emitted_4 rfl
set_option maxHeartbeats 4000000 in
set_option maxRecDepth 100000 in
theorem ctX6_emit {l : Launch} {D : va_G} {cy : Nat → ClassId} {B : Nat} {kd : Nat → Nat} {n : Nat} {sa sv : Nat → Nat} (G : zG l kd n) (v0 : Nat) (v1 : Int32) (h0 : kd v0 = 6) (M : Mem) : CT l D cy B kd n sa sv 0 0 yX6_emit cX6_emit 2 (none) cvV [.ref (B + v0), .int v1] M (fX6_emit v0 v1 M) := by
  refine ct_of (by decide) G.1 G.2 (Nat.le_of_ble_eq_true rfl) (ls := [(0, .ref (B + v0)), (1, .int v1)]) rfl ?_
  intro p e s m args below meth c b0 C ht hr
  unfold fX6_emit
  refine z_aload_n C 0 0 dX6_emit_0 rfl rfl ?_
  refine z_getI (k := 4) C cl6 h0 rfl gw_1_64 rfl dX6_emit_1 ?_
  refine z_aload_n C 0 0 dX6_emit_4 rfl rfl ?_
  refine z_getR (k := 8) C cl6 h0 rfl gw_1_68 rfl dX6_emit_5 ?_
  have j1 : kd (v0 + 1) = 20 := zkd C h0 (k := 8) rfl
  refine z_alen (v := 600) C j1 (by decide) rfl dX6_emit_8 ?_
  refine z_icmp_ge C 32 dX6_emit_9 rfl (fun _ => ?_) (fun _ => ?_)
  · exact z_vret C hr (Nat.le_of_ble_eq_true rfl) dX6_emit_32 rfl
  · refine z_aload_n C 0 0 dX6_emit_12 rfl rfl ?_
    refine z_getR (k := 8) C cl6 h0 rfl gw_1_68 rfl dX6_emit_13 ?_
    have j2 : kd (v0 + 1) = 20 := zkd C h0 (k := 8) rfl
    refine z_aload_n C 0 0 dX6_emit_16 rfl rfl ?_
    refine z_getI (k := 4) C cl6 h0 rfl gw_1_64 rfl dX6_emit_17 ?_
    refine z_iload_n C 1 1 dX6_emit_20 rfl rfl ?_
    refine z_iast C j2 rfl (by decide) dX6_emit_21 (fun _ => ?_)
    refine z_aload_n C 0 0 dX6_emit_22 rfl rfl ?_
    refine z_dup C dX6_emit_23 rfl ?_
    refine z_getI (k := 4) C cl6 h0 rfl gw_1_64 rfl dX6_emit_24 ?_
    refine z_iconst C dX6_emit_27 rfl ?_
    refine z_iadd C dX6_emit_28 ?_
    refine z_putI (k := 4) C cl6 h0 rfl gw_1_64 rfl rfl rfl dX6_emit_29 ?_
    exact z_vret C hr (Nat.le_of_ble_eq_true rfl) dX6_emit_32 rfl
set_option maxHeartbeats 4000000 in
set_option maxRecDepth 100000 in
theorem z_fX6_addMark_b73 {p : Program} {l : Launch} {e : Env} {s : State} {m : MethodId} {args : Array Value} {below : List Frame} {meth : Method} {c : Code} {D : va_G} {cy : Nat → ClassId} {B : Nat} {kd : Nat → Nat} {n : Nat} {sa sv : Nat → Nat} (C : zC p l s m args meth c D cy B kd n sa sv RX6 cX6_addMark 3) (ht : ∀ x ∈ c.exceptionTable.toList, False) (hr : meth.sig.returnType = none) {b0 : Mem}  (N : Nat) (k39 : Int32 → Mem → Option Mem) (v0 : Nat) (v2 : Int32) (s0 : Int32) (s1 : Int32) (s2 : Nat) (M : Mem) (h0 : kd v0 = 6) (hs2 : kd s2 = 6) (hk39 : ∀ (v2 : Int32) (M : Mem), Z p l e (rmz 1 0) s m args below meth c (vx_MQ below (QcR D cy B kd n (cvV b0)) (XcR D cy B kd n (cvV b0)) args s 0 (6 * 0) (AA B kd n)) D cy B kd n 3 b0 0 39 [(0, .ref (B + v0)), (2, .int v2)] [] M (k39 v2 M)) : Z p l e (rmz 1 0) s m args below meth c (vx_MQ below (QcR D cy B kd n (cvV b0)) (XcR D cy B kd n (cvV b0)) args s 0 (6 * 0) (AA B kd n)) D cy B kd n 3 b0 0 73 [(0, .ref (B + v0)), (2, .int v2)] [.int s0, .int s1, .ref (B + s2)] M (fX6_addMark_b73 N k39 v0 v2 s0 s1 s2 M) := by
  unfold fX6_addMark_b73
  refine z_ior C dX6_addMark_73 ?_
  refine z_putI (k := 7) C cl6 hs2 rfl gw_1_67 rfl rfl rfl dX6_addMark_74 ?_
  refine z_iinc C 2 1 (v := v2) (v1 := (v2 + (1 : Int32))) (ls1 := [(2, .int (v2 + (1 : Int32))), (0, .ref (B + v0))]) dX6_addMark_77 rfl rfl (by decide) rfl ?_
  refine z_goto C 39 dX6_addMark_80 rfl ?_
  exact z_jump (ls1 := [(0, .ref (B + v0)), (2, .int (v2 + (1 : Int32)))]) (Nat.le_of_ble_eq_true rfl) [1, 0] rfl (hk39 (v2 + (1 : Int32)) (wI M s2 7 (s1 ||| s0)))
set_option maxHeartbeats 4000000 in
set_option maxRecDepth 100000 in
theorem z_fX6_addMark_l39_s {p : Program} {l : Launch} {e : Env} {s : State} {m : MethodId} {args : Array Value} {below : List Frame} {meth : Method} {c : Code} {D : va_G} {cy : Nat → ClassId} {B : Nat} {kd : Nat → Nat} {n : Nat} {sa sv : Nat → Nat} (C : zC p l s m args meth c D cy B kd n sa sv RX6 cX6_addMark 3) (ht : ∀ x ∈ c.exceptionTable.toList, False) (hr : meth.sig.returnType = none) {b0 : Mem} (N : Nat) (v0 : Nat) (k39 : Int32 → Mem → Option Mem) (v2 : Int32) (M : Mem) (h0 : kd v0 = 6)  (hk39 : ∀ (v2 : Int32) (M : Mem), Z p l e (rmz 1 0) s m args below meth c (vx_MQ below (QcR D cy B kd n (cvV b0)) (XcR D cy B kd n (cvV b0)) args s 0 (6 * 0) (AA B kd n)) D cy B kd n 3 b0 0 39 [(0, .ref (B + v0)), (2, .int v2)] [] M (k39 v2 M)) : Z p l e (rmz 1 0) s m args below meth c (vx_MQ below (QcR D cy B kd n (cvV b0)) (XcR D cy B kd n (cvV b0)) args s 0 (6 * 0) (AA B kd n)) D cy B kd n 3 b0 0 39 [(0, .ref (B + v0)), (2, .int v2)] [] M (fX6_addMark_l39_s N v0 k39 v2 M) := by
  unfold fX6_addMark_l39_s
  refine z_iload_n C 2 1 dX6_addMark_39 rfl rfl ?_
  refine z_aload_n C 0 0 dX6_addMark_40 rfl rfl ?_
  refine z_getI (k := 4) C cl6 h0 rfl gw_1_64 rfl dX6_addMark_41 ?_
  refine z_icmp_ge C 83 dX6_addMark_44 rfl (fun _ => ?_) (fun _ => ?_)
  · refine z_aload_n C 0 0 dX6_addMark_83 rfl rfl ?_
    refine z_dup C dX6_addMark_84 rfl ?_
    refine z_getI (k := 3) C cl6 h0 rfl gw_1_60 rfl dX6_addMark_85 ?_
    refine z_iconst C dX6_addMark_88 rfl ?_
    refine z_iadd C dX6_addMark_89 ?_
    refine z_putI (k := 3) C cl6 h0 rfl gw_1_60 rfl rfl rfl dX6_addMark_90 ?_
    exact z_vret C hr (Nat.le_of_ble_eq_true rfl) dX6_addMark_93 rfl
  · refine z_aload_n C 0 0 dX6_addMark_47 rfl rfl ?_
    refine z_dup C dX6_addMark_48 rfl ?_
    refine z_getI (k := 7) C cl6 h0 rfl gw_1_67 rfl dX6_addMark_49 ?_
    refine z_aload_n C 0 0 dX6_addMark_52 rfl rfl ?_
    refine z_getR (k := 8) C cl6 h0 rfl gw_1_68 rfl dX6_addMark_53 ?_
    have j1 : kd (v0 + 1) = 20 := zkd C h0 (k := 8) rfl
    refine z_iload_n C 2 1 dX6_addMark_56 rfl rfl ?_
    refine z_iald C j1 rfl (by decide) dX6_addMark_57 (fun j2 => ?_)
    refine z_bipush (v := -2) C dX6_addMark_58 rfl ?_
    refine z_icmp_ne C 72 dX6_addMark_60 rfl (fun _ => ?_) (fun _ => ?_)
    · refine z_iconst C dX6_addMark_63 rfl ?_
      refine z_aload_n C 0 0 dX6_addMark_64 rfl rfl ?_
      refine z_getI (k := 3) C cl6 h0 rfl gw_1_60 rfl dX6_addMark_65 ?_
      refine z_ishl C dX6_addMark_68 ?_
      refine z_goto C 73 dX6_addMark_69 rfl ?_
      exact z_jump (ls1 := [(0, .ref (B + v0)), (2, .int v2)]) (Nat.le_of_ble_eq_true rfl) [0, 1] rfl (z_fX6_addMark_b73 C ht hr N k39 v0 v2 (shlI (1 : Int32) (rI M v0 3)) (rI M v0 7) v0 M h0 h0 hk39)
    · refine z_iconst C dX6_addMark_72 rfl ?_
      exact z_jump (ls1 := [(0, .ref (B + v0)), (2, .int v2)]) (Nat.le_of_ble_eq_true rfl) [0, 1] rfl (z_fX6_addMark_b73 C ht hr N k39 v0 v2 (0 : Int32) (rI M v0 7) v0 M h0 h0 hk39)
theorem z_fX6_addMark_l39_i {p : Program} {l : Launch} {e : Env} {s : State} {m : MethodId} {args : Array Value} {below : List Frame} {meth : Method} {c : Code} {D : va_G} {cy : Nat → ClassId} {B : Nat} {kd : Nat → Nat} {n : Nat} {sa sv : Nat → Nat} (C : zC p l s m args meth c D cy B kd n sa sv RX6 cX6_addMark 3) (ht : ∀ x ∈ c.exceptionTable.toList, False) (hr : meth.sig.returnType = none) {b0 : Mem} (N : Nat) (v0 : Nat) (h0 : kd v0 = 6)  (fu : Nat) : ∀ (v2 : Int32) (M : Mem), Z p l e (rmz 1 0) s m args below meth c (vx_MQ below (QcR D cy B kd n (cvV b0)) (XcR D cy B kd n (cvV b0)) args s 0 (6 * 0) (AA B kd n)) D cy B kd n 3 b0 0 39 [(0, .ref (B + v0)), (2, .int v2)] [] M (fX6_addMark_l39 N v0 fu v2 M) := by
  induction fu with
  | zero => intro v2 M; exact z_none
  | succ fu ih => intro v2 M; exact z_fX6_addMark_l39_s C ht hr N v0 (fX6_addMark_l39 N v0 fu) v2 M h0 (fun v2 M => ih v2 M)
theorem z_fX6_addMark_l39 {p : Program} {l : Launch} {e : Env} {s : State} {m : MethodId} {args : Array Value} {below : List Frame} {meth : Method} {c : Code} {D : va_G} {cy : Nat → ClassId} {B : Nat} {kd : Nat → Nat} {n : Nat} {sa sv : Nat → Nat} (C : zC p l s m args meth c D cy B kd n sa sv RX6 cX6_addMark 3) (ht : ∀ x ∈ c.exceptionTable.toList, False) (hr : meth.sig.returnType = none) {b0 : Mem} (N : Nat) (v0 : Nat) (fu : Nat) (v2 : Int32) (M : Mem) (h0 : kd v0 = 6)  : Z p l e (rmz 1 0) s m args below meth c (vx_MQ below (QcR D cy B kd n (cvV b0)) (XcR D cy B kd n (cvV b0)) args s 0 (6 * 0) (AA B kd n)) D cy B kd n 3 b0 0 39 [(0, .ref (B + v0)), (2, .int v2)] [] M (fX6_addMark_l39 N v0 fu v2 M) := z_fX6_addMark_l39_i C ht hr N v0 h0 fu v2 M
set_option maxHeartbeats 4000000 in
set_option maxRecDepth 100000 in
theorem ctX6_addMark {l : Launch} {D : va_G} {cy : Nat → ClassId} {B : Nat} {kd : Nat → Nat} {n : Nat} {sa sv : Nat → Nat} (G : zG l kd n) (N : Nat) (v0 : Nat) (v1 : Int32) (h0 : kd v0 = 6) (M : Mem) : CT l D cy B kd n sa sv 1 0 yX6_addMark cX6_addMark 3 (none) cvV [.ref (B + v0), .int v1] M (fX6_addMark N v0 v1 M) := by
  refine ct_of (by decide) G.1 G.2 (Nat.le_of_ble_eq_true rfl) (ls := [(0, .ref (B + v0)), (1, .int v1)]) rfl ?_
  intro p e s m args below meth c b0 C ht hr
  unfold fX6_addMark
  refine z_aload_n C 0 0 dX6_addMark_0 rfl rfl ?_
  refine z_getI (k := 3) C cl6 h0 rfl gw_1_60 rfl dX6_addMark_1 ?_
  refine z_bipush (v := 6) C dX6_addMark_4 rfl ?_
  refine z_icmp_lt C 10 dX6_addMark_6 rfl (fun _ => ?_) (fun _ => ?_)
  · refine z_aload_n C 0 0 dX6_addMark_10 rfl rfl ?_
    refine z_getR (k := 9) C cl6 h0 rfl gw_1_69 rfl dX6_addMark_11 ?_
    have j1 : kd (v0 + 2) = 21 := zkd C h0 (k := 9) rfl
    refine z_aload_n C 0 0 dX6_addMark_14 rfl rfl ?_
    refine z_getI (k := 3) C cl6 h0 rfl gw_1_60 rfl dX6_addMark_15 ?_
    refine z_iload_n C 1 1 dX6_addMark_18 rfl rfl ?_
    refine z_iast C j1 rfl (by decide) dX6_addMark_19 (fun _ => ?_)
    refine z_aload_n C 0 0 dX6_addMark_20 rfl rfl ?_
    refine z_getR (k := 10) C cl6 h0 rfl gw_1_70 rfl dX6_addMark_21 ?_
    have j2 : kd (v0 + 3) = 21 := zkd C h0 (k := 10) rfl
    refine z_aload_n C 0 0 dX6_addMark_24 rfl rfl ?_
    refine z_getI (k := 3) C cl6 h0 rfl gw_1_60 rfl dX6_addMark_25 ?_
    refine z_aload_n C 0 0 dX6_addMark_28 rfl rfl ?_
    refine z_getI (k := 4) C cl6 h0 rfl gw_1_64 rfl dX6_addMark_29 ?_
    refine z_iast C j2 rfl (by decide) dX6_addMark_32 (fun _ => ?_)
    refine z_iload_n C 1 1 dX6_addMark_33 rfl rfl ?_
    refine z_iconst C dX6_addMark_34 rfl ?_
    refine z_max C cw_RX6_55 ⟨Nat.le_of_ble_eq_true rfl, Nat.le_of_ble_eq_true rfl, Nat.le_of_ble_eq_true rfl, Nat.le_of_ble_eq_true rfl⟩ (Nat.le_of_ble_eq_true rfl) dX6_addMark_35 ?_
    refine z_istore_n C 2 (ls1 := [(2, .int (maxI v1 (0 : Int32))), (0, .ref (B + v0)), (1, .int v1)]) dX6_addMark_38 rfl (by decide) rfl ?_
    exact z_jump (ls1 := [(0, .ref (B + v0)), (2, .int (maxI v1 (0 : Int32)))]) (Nat.le_of_ble_eq_true rfl) [1, 0] rfl (z_fX6_addMark_l39 C ht hr N v0 N (maxI v1 (0 : Int32)) (wI (wI M (v0 + 2) ((rI M v0 3).toNatClampNeg) v1) (v0 + 3) ((rI (wI M (v0 + 2) ((rI M v0 3).toNatClampNeg) v1) v0 3).toNatClampNeg) (rI (wI M (v0 + 2) ((rI M v0 3).toNatClampNeg) v1) v0 4)) h0)
  · exact z_vret C hr (Nat.le_of_ble_eq_true rfl) dX6_addMark_9 rfl
set_option maxHeartbeats 4000000 in
set_option maxRecDepth 100000 in
theorem ctX6_setTag {l : Launch} {D : va_G} {cy : Nat → ClassId} {B : Nat} {kd : Nat → Nat} {n : Nat} {sa sv : Nat → Nat} (G : zG l kd n) (v0 : Nat) (v1 : Int32) (h0 : kd v0 = 6) (M : Mem) : CT l D cy B kd n sa sv 0 0 yX6_setTag cX6_setTag 2 (none) cvV [.ref (B + v0), .int v1] M (fX6_setTag v0 v1 M) := by
  refine ct_of (by decide) G.1 G.2 (Nat.le_of_ble_eq_true rfl) (ls := [(0, .ref (B + v0)), (1, .int v1)]) rfl ?_
  intro p e s m args below meth c b0 C ht hr
  unfold fX6_setTag
  refine z_aload_n C 0 0 dX6_setTag_0 rfl rfl ?_
  refine z_iload_n C 1 1 dX6_setTag_1 rfl rfl ?_
  refine z_putI (k := 5) C cl6 h0 rfl gw_1_65 rfl rfl rfl dX6_setTag_2 ?_
  refine z_aload_n C 0 0 dX6_setTag_5 rfl rfl ?_
  refine z_aload_n C 0 0 dX6_setTag_6 rfl rfl ?_
  refine z_getI (k := 4) C cl6 h0 rfl gw_1_64 rfl dX6_setTag_7 ?_
  refine z_putI (k := 6) C cl6 h0 rfl gw_1_66 rfl rfl rfl dX6_setTag_10 ?_
  exact z_vret C hr (Nat.le_of_ble_eq_true rfl) dX6_setTag_13 rfl
set_option maxHeartbeats 4000000 in
set_option maxRecDepth 100000 in
theorem z_fX6_fillTables_b127 {p : Program} {l : Launch} {e : Env} {s : State} {m : MethodId} {args : Array Value} {below : List Frame} {meth : Method} {c : Code} {D : va_G} {cy : Nat → ClassId} {B : Nat} {kd : Nat → Nat} {n : Nat} {sa sv : Nat → Nat} (C : zC p l s m args meth c D cy B kd n sa sv RX6 cX6_fillTables 4) (ht : ∀ x ∈ c.exceptionTable.toList, False) (hr : meth.sig.returnType = none) {b0 : Mem}  (N : Nat) (k2 : Int32 → Mem → Option Mem) (v0 : Nat) (v1 : Int32) (M : Mem) (h0 : kd v0 = 6) (hk2 : ∀ (v1 : Int32) (M : Mem), Z p l e (rmz 1 0) s m args below meth c (vx_MQ below (QcR D cy B kd n (cvV b0)) (XcR D cy B kd n (cvV b0)) args s 0 (6 * 0) (AA B kd n)) D cy B kd n 4 b0 0 2 [(0, .ref (B + v0)), (1, .int v1)] [] M (k2 v1 M)) : Z p l e (rmz 1 0) s m args below meth c (vx_MQ below (QcR D cy B kd n (cvV b0)) (XcR D cy B kd n (cvV b0)) args s 0 (6 * 0) (AA B kd n)) D cy B kd n 4 b0 0 127 [(0, .ref (B + v0)), (1, .int v1)] [] M (fX6_fillTables_b127 N k2 v0 v1 M) := by
  unfold fX6_fillTables_b127
  refine z_iinc C 1 1 (v := v1) (v1 := (v1 + (1 : Int32))) (ls1 := [(1, .int (v1 + (1 : Int32))), (0, .ref (B + v0))]) dX6_fillTables_127 rfl rfl (by decide) rfl ?_
  refine z_goto C 2 dX6_fillTables_130 rfl ?_
  exact z_jump (ls1 := [(0, .ref (B + v0)), (1, .int (v1 + (1 : Int32)))]) (Nat.le_of_ble_eq_true rfl) [1, 0] rfl (hk2 (v1 + (1 : Int32)) M)
set_option maxHeartbeats 4000000 in
set_option maxRecDepth 100000 in
theorem z_fX6_fillTables_b121 {p : Program} {l : Launch} {e : Env} {s : State} {m : MethodId} {args : Array Value} {below : List Frame} {meth : Method} {c : Code} {D : va_G} {cy : Nat → ClassId} {B : Nat} {kd : Nat → Nat} {n : Nat} {sa sv : Nat → Nat} (C : zC p l s m args meth c D cy B kd n sa sv RX6 cX6_fillTables 4) (ht : ∀ x ∈ c.exceptionTable.toList, False) (hr : meth.sig.returnType = none) {b0 : Mem}  (N : Nat) (k2 : Int32 → Mem → Option Mem) (k66 : Int32 → Mem → Option Mem) (v0 : Nat) (v1 : Int32) (v3 : Int32) (M : Mem) (h0 : kd v0 = 6) (hk2 : ∀ (v1 : Int32) (M : Mem), Z p l e (rmz 1 0) s m args below meth c (vx_MQ below (QcR D cy B kd n (cvV b0)) (XcR D cy B kd n (cvV b0)) args s 0 (6 * 0) (AA B kd n)) D cy B kd n 4 b0 0 2 [(0, .ref (B + v0)), (1, .int v1)] [] M (k2 v1 M)) (hk66 : ∀ (v3 : Int32) (M : Mem), Z p l e (rmz 1 0) s m args below meth c (vx_MQ below (QcR D cy B kd n (cvV b0)) (XcR D cy B kd n (cvV b0)) args s 0 (6 * 0) (AA B kd n)) D cy B kd n 4 b0 0 66 [(0, .ref (B + v0)), (1, .int v1), (3, .int v3)] [] M (k66 v3 M)) : Z p l e (rmz 1 0) s m args below meth c (vx_MQ below (QcR D cy B kd n (cvV b0)) (XcR D cy B kd n (cvV b0)) args s 0 (6 * 0) (AA B kd n)) D cy B kd n 4 b0 0 121 [(0, .ref (B + v0)), (1, .int v1), (3, .int v3)] [] M (fX6_fillTables_b121 N k2 k66 v0 v1 v3 M) := by
  unfold fX6_fillTables_b121
  refine z_iinc C 3 2 (v := v3) (v1 := (v3 + (1 : Int32))) (ls1 := [(3, .int (v3 + (1 : Int32))), (0, .ref (B + v0)), (1, .int v1)]) dX6_fillTables_121 rfl rfl (by decide) rfl ?_
  refine z_goto C 66 dX6_fillTables_124 rfl ?_
  exact z_jump (ls1 := [(0, .ref (B + v0)), (1, .int v1), (3, .int (v3 + (1 : Int32)))]) (Nat.le_of_ble_eq_true rfl) [1, 2, 0] rfl (hk66 (v3 + (1 : Int32)) M)
set_option maxHeartbeats 4000000 in
set_option maxRecDepth 100000 in
theorem z_fX6_fillTables_l66_s {p : Program} {l : Launch} {e : Env} {s : State} {m : MethodId} {args : Array Value} {below : List Frame} {meth : Method} {c : Code} {D : va_G} {cy : Nat → ClassId} {B : Nat} {kd : Nat → Nat} {n : Nat} {sa sv : Nat → Nat} (C : zC p l s m args meth c D cy B kd n sa sv RX6 cX6_fillTables 4) (ht : ∀ x ∈ c.exceptionTable.toList, False) (hr : meth.sig.returnType = none) {b0 : Mem} (N : Nat) (k2 : Int32 → Mem → Option Mem) (v0 : Nat) (v1 : Int32) (k66 : Int32 → Mem → Option Mem) (v3 : Int32) (M : Mem) (h0 : kd v0 = 6) (hk2 : ∀ (v1 : Int32) (M : Mem), Z p l e (rmz 1 0) s m args below meth c (vx_MQ below (QcR D cy B kd n (cvV b0)) (XcR D cy B kd n (cvV b0)) args s 0 (6 * 0) (AA B kd n)) D cy B kd n 4 b0 0 2 [(0, .ref (B + v0)), (1, .int v1)] [] M (k2 v1 M)) (hk66 : ∀ (v3 : Int32) (M : Mem), Z p l e (rmz 1 0) s m args below meth c (vx_MQ below (QcR D cy B kd n (cvV b0)) (XcR D cy B kd n (cvV b0)) args s 0 (6 * 0) (AA B kd n)) D cy B kd n 4 b0 0 66 [(0, .ref (B + v0)), (1, .int v1), (3, .int v3)] [] M (k66 v3 M)) : Z p l e (rmz 1 0) s m args below meth c (vx_MQ below (QcR D cy B kd n (cvV b0)) (XcR D cy B kd n (cvV b0)) args s 0 (6 * 0) (AA B kd n)) D cy B kd n 4 b0 0 66 [(0, .ref (B + v0)), (1, .int v1), (3, .int v3)] [] M (fX6_fillTables_l66_s N k2 v0 v1 k66 v3 M) := by
  unfold fX6_fillTables_l66_s
  refine z_iload_n C 3 2 dX6_fillTables_66 rfl rfl ?_
  refine z_aload_n C 0 0 dX6_fillTables_67 rfl rfl ?_
  refine z_getI (k := 3) C cl6 h0 rfl gw_1_60 rfl dX6_fillTables_68 ?_
  refine z_icmp_ge C 127 dX6_fillTables_71 rfl (fun _ => ?_) (fun _ => ?_)
  · exact z_jump (ls1 := [(0, .ref (B + v0)), (1, .int v1)]) (Nat.le_of_ble_eq_true rfl) [0, 1] rfl (z_fX6_fillTables_b127 C ht hr N k2 v0 v1 M h0 hk2)
  · refine z_iload_n C 3 2 dX6_fillTables_74 rfl rfl ?_
    refine z_bipush (v := 6) C dX6_fillTables_75 rfl ?_
    refine z_icmp_ge C 127 dX6_fillTables_77 rfl (fun _ => ?_) (fun _ => ?_)
    · exact z_jump (ls1 := [(0, .ref (B + v0)), (1, .int v1)]) (Nat.le_of_ble_eq_true rfl) [0, 1] rfl (z_fX6_fillTables_b127 C ht hr N k2 v0 v1 M h0 hk2)
    · refine z_aload_n C 0 0 dX6_fillTables_80 rfl rfl ?_
      refine z_getI (k := 7) C cl6 h0 rfl gw_1_67 rfl dX6_fillTables_81 ?_
      refine z_iload_n C 3 2 dX6_fillTables_84 rfl rfl ?_
      refine z_ishr C dX6_fillTables_85 ?_
      refine z_iconst C dX6_fillTables_86 rfl ?_
      refine z_iand C dX6_fillTables_87 ?_
      refine z_if_ne C 121 dX6_fillTables_88 rfl (fun _ => ?_) (fun _ => ?_)
      · refine z_aload_n C 0 0 dX6_fillTables_91 rfl rfl ?_
        refine z_getR (k := 12) C cl6 h0 rfl gw_1_72 rfl dX6_fillTables_92 ?_
        have j1 : kd (v0 + 5) = 23 := zkd C h0 (k := 12) rfl
        refine z_iload_n C 3 2 dX6_fillTables_95 rfl rfl ?_
        refine z_sipush (v := 256) C dX6_fillTables_96 rfl ?_
        refine z_imul C dX6_fillTables_99 ?_
        refine z_iload_n C 1 1 dX6_fillTables_100 rfl rfl ?_
        refine z_iadd C dX6_fillTables_101 ?_
        refine z_aload_n C 0 0 dX6_fillTables_102 rfl rfl ?_
        refine z_aload_n C 0 0 dX6_fillTables_103 rfl rfl ?_
        refine z_getR (k := 9) C cl6 h0 rfl gw_1_69 rfl dX6_fillTables_104 ?_
        have j2 : kd (v0 + 2) = 21 := zkd C h0 (k := 9) rfl
        refine z_iload_n C 3 2 dX6_fillTables_107 rfl rfl ?_
        refine z_iald C j2 rfl (by decide) dX6_fillTables_108 (fun j3 => ?_)
        refine z_aload_n C 0 0 dX6_fillTables_109 rfl rfl ?_
        refine z_getR (k := 10) C cl6 h0 rfl gw_1_70 rfl dX6_fillTables_110 ?_
        have j4 : kd (v0 + 3) = 21 := zkd C h0 (k := 10) rfl
        refine z_iload_n C 3 2 dX6_fillTables_113 rfl rfl ?_
        refine z_iald C j4 rfl (by decide) dX6_fillTables_114 (fun j5 => ?_)
        refine z_iload_n C 1 1 dX6_fillTables_115 rfl rfl ?_
        refine z_iconst C dX6_fillTables_116 rfl ?_
        refine z_callV_I (As := [.int (rI M (v0 + 2) v3.toNatClampNeg), .int (rI M (v0 + 3) v3.toNatClampNeg), .int v1, .int (0 : Int32)]) (rest := [.int ((v3 * (256 : Int32)) + v1), .ref (B + (v0 + 5))]) C rfl (ctX6_compute (zG_of C) N v0 (rI M (v0 + 2) v3.toNatClampNeg) (rI M (v0 + 3) v3.toNatClampNeg) v1 (0 : Int32) h0 M) cw_RX6_61 rfl (okM_X6_compute) rfl cl6 h0 (okR_of rfl) (Nat.le_of_ble_eq_true rfl) dX6_fillTables_117 (fun qj6 _ => ?_)
        refine z_iast C j1 rfl (by decide) dX6_fillTables_120 (fun _ => ?_)
        exact z_jump (ls1 := [(0, .ref (B + v0)), (1, .int v1), (3, .int v3)]) (Nat.le_of_ble_eq_true rfl) [0, 1, 2] rfl (z_fX6_fillTables_b121 C ht hr N k2 k66 v0 v1 v3 (wI qj6.2 (v0 + 5) (((v3 * (256 : Int32)) + v1).toNatClampNeg) qj6.1) h0 hk2 hk66)
      · exact z_jump (ls1 := [(0, .ref (B + v0)), (1, .int v1), (3, .int v3)]) (Nat.le_of_ble_eq_true rfl) [0, 1, 2] rfl (z_fX6_fillTables_b121 C ht hr N k2 k66 v0 v1 v3 M h0 hk2 hk66)
theorem z_fX6_fillTables_l66_i {p : Program} {l : Launch} {e : Env} {s : State} {m : MethodId} {args : Array Value} {below : List Frame} {meth : Method} {c : Code} {D : va_G} {cy : Nat → ClassId} {B : Nat} {kd : Nat → Nat} {n : Nat} {sa sv : Nat → Nat} (C : zC p l s m args meth c D cy B kd n sa sv RX6 cX6_fillTables 4) (ht : ∀ x ∈ c.exceptionTable.toList, False) (hr : meth.sig.returnType = none) {b0 : Mem} (N : Nat) (k2 : Int32 → Mem → Option Mem) (v0 : Nat) (v1 : Int32) (h0 : kd v0 = 6) (hk2 : ∀ (v1 : Int32) (M : Mem), Z p l e (rmz 1 0) s m args below meth c (vx_MQ below (QcR D cy B kd n (cvV b0)) (XcR D cy B kd n (cvV b0)) args s 0 (6 * 0) (AA B kd n)) D cy B kd n 4 b0 0 2 [(0, .ref (B + v0)), (1, .int v1)] [] M (k2 v1 M)) (fu : Nat) : ∀ (v3 : Int32) (M : Mem), Z p l e (rmz 1 0) s m args below meth c (vx_MQ below (QcR D cy B kd n (cvV b0)) (XcR D cy B kd n (cvV b0)) args s 0 (6 * 0) (AA B kd n)) D cy B kd n 4 b0 0 66 [(0, .ref (B + v0)), (1, .int v1), (3, .int v3)] [] M (fX6_fillTables_l66 N k2 v0 v1 fu v3 M) := by
  induction fu with
  | zero => intro v3 M; exact z_none
  | succ fu ih => intro v3 M; exact z_fX6_fillTables_l66_s C ht hr N k2 v0 v1 (fX6_fillTables_l66 N k2 v0 v1 fu) v3 M h0 hk2 (fun v3 M => ih v3 M)
theorem z_fX6_fillTables_l66 {p : Program} {l : Launch} {e : Env} {s : State} {m : MethodId} {args : Array Value} {below : List Frame} {meth : Method} {c : Code} {D : va_G} {cy : Nat → ClassId} {B : Nat} {kd : Nat → Nat} {n : Nat} {sa sv : Nat → Nat} (C : zC p l s m args meth c D cy B kd n sa sv RX6 cX6_fillTables 4) (ht : ∀ x ∈ c.exceptionTable.toList, False) (hr : meth.sig.returnType = none) {b0 : Mem} (N : Nat) (k2 : Int32 → Mem → Option Mem) (v0 : Nat) (v1 : Int32) (fu : Nat) (v3 : Int32) (M : Mem) (h0 : kd v0 = 6) (hk2 : ∀ (v1 : Int32) (M : Mem), Z p l e (rmz 1 0) s m args below meth c (vx_MQ below (QcR D cy B kd n (cvV b0)) (XcR D cy B kd n (cvV b0)) args s 0 (6 * 0) (AA B kd n)) D cy B kd n 4 b0 0 2 [(0, .ref (B + v0)), (1, .int v1)] [] M (k2 v1 M)) : Z p l e (rmz 1 0) s m args below meth c (vx_MQ below (QcR D cy B kd n (cvV b0)) (XcR D cy B kd n (cvV b0)) args s 0 (6 * 0) (AA B kd n)) D cy B kd n 4 b0 0 66 [(0, .ref (B + v0)), (1, .int v1), (3, .int v3)] [] M (fX6_fillTables_l66 N k2 v0 v1 fu v3 M) := z_fX6_fillTables_l66_i C ht hr N k2 v0 v1 h0 hk2 fu v3 M
set_option maxHeartbeats 4000000 in
set_option maxRecDepth 100000 in
theorem z_fX6_fillTables_b49 {p : Program} {l : Launch} {e : Env} {s : State} {m : MethodId} {args : Array Value} {below : List Frame} {meth : Method} {c : Code} {D : va_G} {cy : Nat → ClassId} {B : Nat} {kd : Nat → Nat} {n : Nat} {sa sv : Nat → Nat} (C : zC p l s m args meth c D cy B kd n sa sv RX6 cX6_fillTables 4) (ht : ∀ x ∈ c.exceptionTable.toList, False) (hr : meth.sig.returnType = none) {b0 : Mem}  (N : Nat) (k2 : Int32 → Mem → Option Mem) (v0 : Nat) (v1 : Int32) (s0 : Int32) (M : Mem) (h0 : kd v0 = 6) (hk2 : ∀ (v1 : Int32) (M : Mem), Z p l e (rmz 1 0) s m args below meth c (vx_MQ below (QcR D cy B kd n (cvV b0)) (XcR D cy B kd n (cvV b0)) args s 0 (6 * 0) (AA B kd n)) D cy B kd n 4 b0 0 2 [(0, .ref (B + v0)), (1, .int v1)] [] M (k2 v1 M)) : Z p l e (rmz 1 0) s m args below meth c (vx_MQ below (QcR D cy B kd n (cvV b0)) (XcR D cy B kd n (cvV b0)) args s 0 (6 * 0) (AA B kd n)) D cy B kd n 4 b0 0 49 [(0, .ref (B + v0)), (1, .int v1)] [.int s0] M (fX6_fillTables_b49 N k2 v0 v1 s0 M) := by
  unfold fX6_fillTables_b49
  refine z_istore_n C 2 (ls1 := [(2, .int s0), (0, .ref (B + v0)), (1, .int v1)]) dX6_fillTables_49 rfl (by decide) rfl ?_
  refine z_aload_n C 0 1 dX6_fillTables_50 rfl rfl ?_
  refine z_getR (k := 11) C cl6 h0 rfl gw_1_71 rfl dX6_fillTables_51 ?_
  have j1 : kd (v0 + 4) = 22 := zkd C h0 (k := 11) rfl
  refine z_iload_n C 1 2 dX6_fillTables_54 rfl rfl ?_
  refine z_iload_n C 2 0 dX6_fillTables_55 rfl rfl ?_
  refine z_aload_n C 0 1 dX6_fillTables_56 rfl rfl ?_
  refine z_getI (k := 2) C cl6 h0 rfl gw_1_57 rfl dX6_fillTables_57 ?_
  refine z_callSN_pI (As := [.int s0, .int (rI M v0 2)]) (rest := [.int v1, .ref (B + (v0 + 4))]) C rfl (ctX10_modulo (zG_of C) s0 (rI M v0 2) M) cw_RX6_65 nw_RX6_65 (okM_X10_modulo) rfl (okR_of rfl) (Nat.le_of_ble_eq_true rfl) dX6_fillTables_60 (fun qj2 _ => ?_)
  refine z_iast C j1 rfl (by decide) dX6_fillTables_63 (fun _ => ?_)
  refine z_iconst C dX6_fillTables_64 rfl ?_
  refine z_istore_n C 3 (ls1 := [(3, .int (0 : Int32)), (2, .int s0), (0, .ref (B + v0)), (1, .int v1)]) dX6_fillTables_65 rfl (by decide) rfl ?_
  exact z_jump (ls1 := [(0, .ref (B + v0)), (1, .int v1), (3, .int (0 : Int32))]) (Nat.le_of_ble_eq_true rfl) [2, 3, 0] rfl (z_fX6_fillTables_l66 C ht hr N k2 v0 v1 N (0 : Int32) (wI M (v0 + 4) v1.toNatClampNeg qj2) h0 hk2)
set_option maxHeartbeats 4000000 in
set_option maxRecDepth 100000 in
theorem z_fX6_fillTables_l2_s {p : Program} {l : Launch} {e : Env} {s : State} {m : MethodId} {args : Array Value} {below : List Frame} {meth : Method} {c : Code} {D : va_G} {cy : Nat → ClassId} {B : Nat} {kd : Nat → Nat} {n : Nat} {sa sv : Nat → Nat} (C : zC p l s m args meth c D cy B kd n sa sv RX6 cX6_fillTables 4) (ht : ∀ x ∈ c.exceptionTable.toList, False) (hr : meth.sig.returnType = none) {b0 : Mem} (N : Nat) (v0 : Nat) (k2 : Int32 → Mem → Option Mem) (v1 : Int32) (M : Mem) (h0 : kd v0 = 6)  (hk2 : ∀ (v1 : Int32) (M : Mem), Z p l e (rmz 1 0) s m args below meth c (vx_MQ below (QcR D cy B kd n (cvV b0)) (XcR D cy B kd n (cvV b0)) args s 0 (6 * 0) (AA B kd n)) D cy B kd n 4 b0 0 2 [(0, .ref (B + v0)), (1, .int v1)] [] M (k2 v1 M)) : Z p l e (rmz 1 0) s m args below meth c (vx_MQ below (QcR D cy B kd n (cvV b0)) (XcR D cy B kd n (cvV b0)) args s 0 (6 * 0) (AA B kd n)) D cy B kd n 4 b0 0 2 [(0, .ref (B + v0)), (1, .int v1)] [] M (fX6_fillTables_l2_s N v0 k2 v1 M) := by
  unfold fX6_fillTables_l2_s
  refine z_iload_n C 1 1 dX6_fillTables_2 rfl rfl ?_
  refine z_aload_n C 0 0 dX6_fillTables_3 rfl rfl ?_
  refine z_getI (k := 1) C cl6 h0 rfl gw_1_53 rfl dX6_fillTables_4 ?_
  refine z_icmp_ge C 133 dX6_fillTables_7 rfl (fun _ => ?_) (fun _ => ?_)
  · exact z_vret C hr (Nat.le_of_ble_eq_true rfl) dX6_fillTables_133 rfl
  · refine z_iload_n C 1 1 dX6_fillTables_10 rfl rfl ?_
    refine z_sipush (v := 256) C dX6_fillTables_11 rfl ?_
    refine z_icmp_ge C 133 dX6_fillTables_14 rfl (fun _ => ?_) (fun _ => ?_)
    · exact z_vret C hr (Nat.le_of_ble_eq_true rfl) dX6_fillTables_133 rfl
    · refine z_aload_n C 0 0 dX6_fillTables_17 rfl rfl ?_
      refine z_getI (k := 5) C cl6 h0 rfl gw_1_65 rfl dX6_fillTables_18 ?_
      refine z_aload_n C 0 0 dX6_fillTables_21 rfl rfl ?_
      refine z_getI (k := 6) C cl6 h0 rfl gw_1_66 rfl dX6_fillTables_22 ?_
      refine z_icmp_ne C 32 dX6_fillTables_25 rfl (fun _ => ?_) (fun _ => ?_)
      · refine z_iload_n C 1 1 dX6_fillTables_28 rfl rfl ?_
        refine z_goto C 49 dX6_fillTables_29 rfl ?_
        exact z_jump (ls1 := [(0, .ref (B + v0)), (1, .int v1)]) (Nat.le_of_ble_eq_true rfl) [0, 1] rfl (z_fX6_fillTables_b49 C ht hr N k2 v0 v1 v1 M h0 hk2)
      · refine z_aload_n C 0 0 dX6_fillTables_32 rfl rfl ?_
        refine z_aload_n C 0 0 dX6_fillTables_33 rfl rfl ?_
        refine z_getI (k := 5) C cl6 h0 rfl gw_1_65 rfl dX6_fillTables_34 ?_
        refine z_aload_n C 0 0 dX6_fillTables_37 rfl rfl ?_
        refine z_getI (k := 6) C cl6 h0 rfl gw_1_66 rfl dX6_fillTables_38 ?_
        refine z_iload_n C 1 1 dX6_fillTables_41 rfl rfl ?_
        refine z_aload_n C 0 0 dX6_fillTables_42 rfl rfl ?_
        refine z_getI (k := 2) C cl6 h0 rfl gw_1_57 rfl dX6_fillTables_43 ?_
        refine z_callV_I (As := [.int (rI M v0 5), .int (rI M v0 6), .int v1, .int (rI M v0 2)]) (rest := []) C rfl (ctX6_compute (zG_of C) N v0 (rI M v0 5) (rI M v0 6) v1 (rI M v0 2) h0 M) cw_RX6_61 rfl (okM_X6_compute) rfl cl6 h0 (okR_of rfl) (Nat.le_of_ble_eq_true rfl) dX6_fillTables_46 (fun qj1 _ => ?_)
        exact z_jump (ls1 := [(0, .ref (B + v0)), (1, .int v1)]) (Nat.le_of_ble_eq_true rfl) [0, 1] rfl (z_fX6_fillTables_b49 C ht hr N k2 v0 v1 qj1.1 qj1.2 h0 hk2)
theorem z_fX6_fillTables_l2_i {p : Program} {l : Launch} {e : Env} {s : State} {m : MethodId} {args : Array Value} {below : List Frame} {meth : Method} {c : Code} {D : va_G} {cy : Nat → ClassId} {B : Nat} {kd : Nat → Nat} {n : Nat} {sa sv : Nat → Nat} (C : zC p l s m args meth c D cy B kd n sa sv RX6 cX6_fillTables 4) (ht : ∀ x ∈ c.exceptionTable.toList, False) (hr : meth.sig.returnType = none) {b0 : Mem} (N : Nat) (v0 : Nat) (h0 : kd v0 = 6)  (fu : Nat) : ∀ (v1 : Int32) (M : Mem), Z p l e (rmz 1 0) s m args below meth c (vx_MQ below (QcR D cy B kd n (cvV b0)) (XcR D cy B kd n (cvV b0)) args s 0 (6 * 0) (AA B kd n)) D cy B kd n 4 b0 0 2 [(0, .ref (B + v0)), (1, .int v1)] [] M (fX6_fillTables_l2 N v0 fu v1 M) := by
  induction fu with
  | zero => intro v1 M; exact z_none
  | succ fu ih => intro v1 M; exact z_fX6_fillTables_l2_s C ht hr N v0 (fX6_fillTables_l2 N v0 fu) v1 M h0 (fun v1 M => ih v1 M)
theorem z_fX6_fillTables_l2 {p : Program} {l : Launch} {e : Env} {s : State} {m : MethodId} {args : Array Value} {below : List Frame} {meth : Method} {c : Code} {D : va_G} {cy : Nat → ClassId} {B : Nat} {kd : Nat → Nat} {n : Nat} {sa sv : Nat → Nat} (C : zC p l s m args meth c D cy B kd n sa sv RX6 cX6_fillTables 4) (ht : ∀ x ∈ c.exceptionTable.toList, False) (hr : meth.sig.returnType = none) {b0 : Mem} (N : Nat) (v0 : Nat) (fu : Nat) (v1 : Int32) (M : Mem) (h0 : kd v0 = 6)  : Z p l e (rmz 1 0) s m args below meth c (vx_MQ below (QcR D cy B kd n (cvV b0)) (XcR D cy B kd n (cvV b0)) args s 0 (6 * 0) (AA B kd n)) D cy B kd n 4 b0 0 2 [(0, .ref (B + v0)), (1, .int v1)] [] M (fX6_fillTables_l2 N v0 fu v1 M) := z_fX6_fillTables_l2_i C ht hr N v0 h0 fu v1 M
set_option maxHeartbeats 4000000 in
set_option maxRecDepth 100000 in
theorem ctX6_fillTables {l : Launch} {D : va_G} {cy : Nat → ClassId} {B : Nat} {kd : Nat → Nat} {n : Nat} {sa sv : Nat → Nat} (G : zG l kd n) (N : Nat) (v0 : Nat) (h0 : kd v0 = 6) (M : Mem) : CT l D cy B kd n sa sv 1 0 yX6_fillTables cX6_fillTables 4 (none) cvV [.ref (B + v0)] M (fX6_fillTables N v0 M) := by
  refine ct_of (by decide) G.1 G.2 (Nat.le_of_ble_eq_true rfl) (ls := [(0, .ref (B + v0))]) rfl ?_
  intro p e s m args below meth c b0 C ht hr
  unfold fX6_fillTables
  refine z_iconst C dX6_fillTables_0 rfl ?_
  refine z_istore_n C 1 (ls1 := [(1, .int (0 : Int32)), (0, .ref (B + v0))]) dX6_fillTables_1 rfl (by decide) rfl ?_
  exact z_jump (ls1 := [(0, .ref (B + v0)), (1, .int (0 : Int32))]) (Nat.le_of_ble_eq_true rfl) [1, 0] rfl (z_fX6_fillTables_l2 C ht hr N v0 N (0 : Int32) M h0)
set_option maxHeartbeats 4000000 in
set_option maxRecDepth 100000 in
theorem z_fX6_tagOf_b20 {p : Program} {l : Launch} {e : Env} {s : State} {m : MethodId} {args : Array Value} {below : List Frame} {meth : Method} {c : Code} {D : va_G} {cy : Nat → ClassId} {B : Nat} {kd : Nat → Nat} {n : Nat} {sa sv : Nat → Nat} (C : zC p l s m args meth c D cy B kd n sa sv RX6 cX6_tagOf 2) (ht : ∀ x ∈ c.exceptionTable.toList, False) (hr : meth.sig.returnType = some (FieldType.int)) {b0 : Int32}   (Mo : Mem)  : Z p l e (rmz 0 0) s m args below meth c (vx_MQ below (QcR D cy B kd n ((pI Mo) b0)) (XcR D cy B kd n ((pI Mo) b0)) args s 0 (6 * 0) (AA B kd n)) D cy B kd n 2 b0 0 20 [] [] Mo (fX6_tagOf_b20 Mo) := by
  unfold fX6_tagOf_b20
  refine z_iconst C dX6_tagOf_20 rfl ?_
  exact z_iret C hr (Nat.le_of_ble_eq_true rfl) dX6_tagOf_21 rfl
set_option maxHeartbeats 4000000 in
set_option maxRecDepth 100000 in
theorem ctX6_tagOf {l : Launch} {D : va_G} {cy : Nat → ClassId} {B : Nat} {kd : Nat → Nat} {n : Nat} {sa sv : Nat → Nat} (G : zG l kd n) (v0 : Nat) (v1 : Int32) (h0 : kd v0 = 6) (Mo : Mem) : CT l D cy B kd n sa sv 0 0 yX6_tagOf cX6_tagOf 2 (some (FieldType.int)) (pI Mo) [.ref (B + v0), .int v1] Mo (fX6_tagOf v0 v1 Mo) := by
  refine ct_of (by decide) G.1 G.2 (Nat.le_of_ble_eq_true rfl) (ls := [(0, .ref (B + v0)), (1, .int v1)]) rfl ?_
  intro p e s m args below meth c b0 C ht hr
  unfold fX6_tagOf
  refine z_iload_n C 1 1 dX6_tagOf_0 rfl rfl ?_
  refine z_if_lt C 20 dX6_tagOf_1 rfl (fun _ => ?_) (fun _ => ?_)
  · exact z_jump (ls1 := []) (Nat.le_of_ble_eq_true rfl) [] rfl (z_fX6_tagOf_b20 C ht hr Mo)
  · refine z_iload_n C 1 1 dX6_tagOf_4 rfl rfl ?_
    refine z_sipush (v := 256) C dX6_tagOf_5 rfl ?_
    refine z_icmp_ge C 20 dX6_tagOf_8 rfl (fun _ => ?_) (fun _ => ?_)
    · exact z_jump (ls1 := []) (Nat.le_of_ble_eq_true rfl) [] rfl (z_fX6_tagOf_b20 C ht hr Mo)
    · refine z_aload_n C 0 0 dX6_tagOf_11 rfl rfl ?_
      refine z_getR (k := 11) C cl6 h0 rfl gw_1_71 rfl dX6_tagOf_12 ?_
      have j1 : kd (v0 + 4) = 22 := zkd C h0 (k := 11) rfl
      refine z_iload_n C 1 1 dX6_tagOf_15 rfl rfl ?_
      refine z_iald C j1 rfl (by decide) dX6_tagOf_16 (fun j2 => ?_)
      refine z_goto C 21 dX6_tagOf_17 rfl ?_
      exact z_iret C hr (Nat.le_of_ble_eq_true rfl) dX6_tagOf_21 rfl
set_option maxHeartbeats 4000000 in
set_option maxRecDepth 100000 in
theorem z_fX6_valueOf_b33 {p : Program} {l : Launch} {e : Env} {s : State} {m : MethodId} {args : Array Value} {below : List Frame} {meth : Method} {c : Code} {D : va_G} {cy : Nat → ClassId} {B : Nat} {kd : Nat → Nat} {n : Nat} {sa sv : Nat → Nat} (C : zC p l s m args meth c D cy B kd n sa sv RX6 cX6_valueOf 4) (ht : ∀ x ∈ c.exceptionTable.toList, False) (hr : meth.sig.returnType = some (FieldType.int)) {b0 : Int32 × Mem}  (N : Nat) (M : Mem)  : Z p l e (rmz 1 0) s m args below meth c (vx_MQ below (QcR D cy B kd n (cvI b0)) (XcR D cy B kd n (cvI b0)) args s 0 (6 * 0) (AA B kd n)) D cy B kd n 4 b0 0 33 [] [] M (fX6_valueOf_b33 N M) := by
  unfold fX6_valueOf_b33
  refine z_iconst C dX6_valueOf_33 rfl ?_
  exact z_iret C hr (Nat.le_of_ble_eq_true rfl) dX6_valueOf_34 rfl
set_option maxHeartbeats 4000000 in
set_option maxRecDepth 100000 in
theorem ctX6_valueOf {l : Launch} {D : va_G} {cy : Nat → ClassId} {B : Nat} {kd : Nat → Nat} {n : Nat} {sa sv : Nat → Nat} (G : zG l kd n) (N : Nat) (v0 : Nat) (v1 : Int32) (v2 : Int32) (v3 : Int32) (h0 : kd v0 = 6) (M : Mem) : CT l D cy B kd n sa sv 1 0 yX6_valueOf cX6_valueOf 4 (some (FieldType.int)) cvI [.ref (B + v0), .int v1, .int v2, .int v3] M (fX6_valueOf N v0 v1 v2 v3 M) := by
  refine ct_of (by decide) G.1 G.2 (Nat.le_of_ble_eq_true rfl) (ls := [(0, .ref (B + v0)), (1, .int v1), (2, .int v2), (3, .int v3)]) rfl ?_
  intro p e s m args below meth c b0 C ht hr
  unfold fX6_valueOf
  refine z_iload_n C 1 1 dX6_valueOf_0 rfl rfl ?_
  refine z_if_lt C 33 dX6_valueOf_1 rfl (fun _ => ?_) (fun _ => ?_)
  · exact z_jump (ls1 := []) (Nat.le_of_ble_eq_true rfl) [] rfl (z_fX6_valueOf_b33 C ht hr N M)
  · refine z_iload_n C 1 1 dX6_valueOf_4 rfl rfl ?_
    refine z_aload_n C 0 0 dX6_valueOf_5 rfl rfl ?_
    refine z_getI (k := 3) C cl6 h0 rfl gw_1_60 rfl dX6_valueOf_6 ?_
    refine z_icmp_ge C 33 dX6_valueOf_9 rfl (fun _ => ?_) (fun _ => ?_)
    · exact z_jump (ls1 := []) (Nat.le_of_ble_eq_true rfl) [] rfl (z_fX6_valueOf_b33 C ht hr N M)
    · refine z_aload_n C 0 0 dX6_valueOf_12 rfl rfl ?_
      refine z_aload_n C 0 0 dX6_valueOf_13 rfl rfl ?_
      refine z_getR (k := 9) C cl6 h0 rfl gw_1_69 rfl dX6_valueOf_14 ?_
      have j1 : kd (v0 + 2) = 21 := zkd C h0 (k := 9) rfl
      refine z_iload_n C 1 1 dX6_valueOf_17 rfl rfl ?_
      refine z_iald C j1 rfl (by decide) dX6_valueOf_18 (fun j2 => ?_)
      refine z_aload_n C 0 0 dX6_valueOf_19 rfl rfl ?_
      refine z_getR (k := 10) C cl6 h0 rfl gw_1_70 rfl dX6_valueOf_20 ?_
      have j3 : kd (v0 + 3) = 21 := zkd C h0 (k := 10) rfl
      refine z_iload_n C 1 1 dX6_valueOf_23 rfl rfl ?_
      refine z_iald C j3 rfl (by decide) dX6_valueOf_24 (fun j4 => ?_)
      refine z_iload_n C 2 2 dX6_valueOf_25 rfl rfl ?_
      refine z_iload_n C 3 3 dX6_valueOf_26 rfl rfl ?_
      refine z_callV_I (As := [.int (rI M (v0 + 2) v1.toNatClampNeg), .int (rI M (v0 + 3) v1.toNatClampNeg), .int v2, .int v3]) (rest := []) C rfl (ctX6_compute (zG_of C) N v0 (rI M (v0 + 2) v1.toNatClampNeg) (rI M (v0 + 3) v1.toNatClampNeg) v2 v3 h0 M) cw_RX6_61 rfl (okM_X6_compute) rfl cl6 h0 (okR_of rfl) (Nat.le_of_ble_eq_true rfl) dX6_valueOf_27 (fun qj5 _ => ?_)
      refine z_goto C 34 dX6_valueOf_30 rfl ?_
      exact z_iret C hr (Nat.le_of_ble_eq_true rfl) dX6_valueOf_34 rfl
set_option maxHeartbeats 4000000 in
set_option maxRecDepth 100000 in
theorem ctX6_copyFrom {l : Launch} {D : va_G} {cy : Nat → ClassId} {B : Nat} {kd : Nat → Nat} {n : Nat} {sa sv : Nat → Nat} (G : zG l kd n) (v0 : Nat) (v1 : Nat) (h0 : kd v0 = 6) (h1 : kd v1 = 6) (M : Mem) : CT l D cy B kd n sa sv 0 0 yX6_copyFrom cX6_copyFrom 2 (none) cvV [.ref (B + v0), .ref (B + v1)] M (fX6_copyFrom v0 v1 M) := by
  refine ct_of (by decide) G.1 G.2 (Nat.le_of_ble_eq_true rfl) (ls := [(0, .ref (B + v0)), (1, .ref (B + v1))]) rfl ?_
  intro p e s m args below meth c b0 C ht hr
  unfold fX6_copyFrom
  refine z_aload_n C 0 0 dX6_copyFrom_0 rfl rfl ?_
  refine z_aload_n C 1 1 dX6_copyFrom_1 rfl rfl ?_
  refine z_getI (k := 0) C cl6 h1 rfl gw_1_49 rfl dX6_copyFrom_2 ?_
  refine z_putI (k := 0) C cl6 h0 rfl gw_1_49 rfl rfl rfl dX6_copyFrom_5 ?_
  refine z_aload_n C 0 0 dX6_copyFrom_8 rfl rfl ?_
  refine z_aload_n C 1 1 dX6_copyFrom_9 rfl rfl ?_
  refine z_getI (k := 1) C cl6 h1 rfl gw_1_53 rfl dX6_copyFrom_10 ?_
  refine z_putI (k := 1) C cl6 h0 rfl gw_1_53 rfl rfl rfl dX6_copyFrom_13 ?_
  refine z_aload_n C 0 0 dX6_copyFrom_16 rfl rfl ?_
  refine z_aload_n C 1 1 dX6_copyFrom_17 rfl rfl ?_
  refine z_getI (k := 2) C cl6 h1 rfl gw_1_57 rfl dX6_copyFrom_18 ?_
  refine z_putI (k := 2) C cl6 h0 rfl gw_1_57 rfl rfl rfl dX6_copyFrom_21 ?_
  refine z_aload_n C 0 0 dX6_copyFrom_24 rfl rfl ?_
  refine z_aload_n C 1 1 dX6_copyFrom_25 rfl rfl ?_
  refine z_getI (k := 3) C cl6 h1 rfl gw_1_60 rfl dX6_copyFrom_26 ?_
  refine z_putI (k := 3) C cl6 h0 rfl gw_1_60 rfl rfl rfl dX6_copyFrom_29 ?_
  refine z_aload_n C 0 0 dX6_copyFrom_32 rfl rfl ?_
  refine z_aload_n C 1 1 dX6_copyFrom_33 rfl rfl ?_
  refine z_getI (k := 4) C cl6 h1 rfl gw_1_64 rfl dX6_copyFrom_34 ?_
  refine z_putI (k := 4) C cl6 h0 rfl gw_1_64 rfl rfl rfl dX6_copyFrom_37 ?_
  refine z_aload_n C 0 0 dX6_copyFrom_40 rfl rfl ?_
  refine z_aload_n C 1 1 dX6_copyFrom_41 rfl rfl ?_
  refine z_getI (k := 5) C cl6 h1 rfl gw_1_65 rfl dX6_copyFrom_42 ?_
  refine z_putI (k := 5) C cl6 h0 rfl gw_1_65 rfl rfl rfl dX6_copyFrom_45 ?_
  refine z_aload_n C 0 0 dX6_copyFrom_48 rfl rfl ?_
  refine z_aload_n C 1 1 dX6_copyFrom_49 rfl rfl ?_
  refine z_getI (k := 6) C cl6 h1 rfl gw_1_66 rfl dX6_copyFrom_50 ?_
  refine z_putI (k := 6) C cl6 h0 rfl gw_1_66 rfl rfl rfl dX6_copyFrom_53 ?_
  refine z_aload_n C 0 0 dX6_copyFrom_56 rfl rfl ?_
  refine z_aload_n C 1 1 dX6_copyFrom_57 rfl rfl ?_
  refine z_getI (k := 7) C cl6 h1 rfl gw_1_67 rfl dX6_copyFrom_58 ?_
  refine z_putI (k := 7) C cl6 h0 rfl gw_1_67 rfl rfl rfl dX6_copyFrom_61 ?_
  refine z_aload_n C 1 1 dX6_copyFrom_64 rfl rfl ?_
  refine z_getR (k := 8) C cl6 h1 rfl gw_1_68 rfl dX6_copyFrom_65 ?_
  have j1 : kd (v1 + 1) = 20 := zkd C h1 (k := 8) rfl
  refine z_iconst C dX6_copyFrom_68 rfl ?_
  refine z_aload_n C 0 0 dX6_copyFrom_69 rfl rfl ?_
  refine z_getR (k := 8) C cl6 h0 rfl gw_1_68 rfl dX6_copyFrom_70 ?_
  have j2 : kd (v0 + 1) = 20 := zkd C h0 (k := 8) rfl
  refine z_iconst C dX6_copyFrom_73 rfl ?_
  refine z_aload_n C 0 0 dX6_copyFrom_74 rfl rfl ?_
  refine z_getR (k := 8) C cl6 h0 rfl gw_1_68 rfl dX6_copyFrom_75 ?_
  have j3 : kd (v0 + 1) = 20 := zkd C h0 (k := 8) rfl
  refine z_alen (v := 600) C j3 (by decide) rfl dX6_copyFrom_78 ?_
  refine z_copyI C j1 j2 rfl rfl (by decide) (by decide) cp_RX6_72 copyWords ⟨Nat.le_of_ble_eq_true rfl, Nat.le_of_ble_eq_true rfl⟩ (Nat.le_of_ble_eq_true rfl) dX6_copyFrom_79 ?_
  refine z_aload_n C 1 1 dX6_copyFrom_82 rfl rfl ?_
  refine z_getR (k := 9) C cl6 h1 rfl gw_1_69 rfl dX6_copyFrom_83 ?_
  have j4 : kd (v1 + 2) = 21 := zkd C h1 (k := 9) rfl
  refine z_iconst C dX6_copyFrom_86 rfl ?_
  refine z_aload_n C 0 0 dX6_copyFrom_87 rfl rfl ?_
  refine z_getR (k := 9) C cl6 h0 rfl gw_1_69 rfl dX6_copyFrom_88 ?_
  have j5 : kd (v0 + 2) = 21 := zkd C h0 (k := 9) rfl
  refine z_iconst C dX6_copyFrom_91 rfl ?_
  refine z_aload_n C 0 0 dX6_copyFrom_92 rfl rfl ?_
  refine z_getR (k := 9) C cl6 h0 rfl gw_1_69 rfl dX6_copyFrom_93 ?_
  have j6 : kd (v0 + 2) = 21 := zkd C h0 (k := 9) rfl
  refine z_alen (v := 6) C j6 (by decide) rfl dX6_copyFrom_96 ?_
  refine z_copyI C j4 j5 rfl rfl (by decide) (by decide) cp_RX6_72 copyWords ⟨Nat.le_of_ble_eq_true rfl, Nat.le_of_ble_eq_true rfl⟩ (Nat.le_of_ble_eq_true rfl) dX6_copyFrom_97 ?_
  refine z_aload_n C 1 1 dX6_copyFrom_100 rfl rfl ?_
  refine z_getR (k := 10) C cl6 h1 rfl gw_1_70 rfl dX6_copyFrom_101 ?_
  have j7 : kd (v1 + 3) = 21 := zkd C h1 (k := 10) rfl
  refine z_iconst C dX6_copyFrom_104 rfl ?_
  refine z_aload_n C 0 0 dX6_copyFrom_105 rfl rfl ?_
  refine z_getR (k := 10) C cl6 h0 rfl gw_1_70 rfl dX6_copyFrom_106 ?_
  have j8 : kd (v0 + 3) = 21 := zkd C h0 (k := 10) rfl
  refine z_iconst C dX6_copyFrom_109 rfl ?_
  refine z_aload_n C 0 0 dX6_copyFrom_110 rfl rfl ?_
  refine z_getR (k := 10) C cl6 h0 rfl gw_1_70 rfl dX6_copyFrom_111 ?_
  have j9 : kd (v0 + 3) = 21 := zkd C h0 (k := 10) rfl
  refine z_alen (v := 6) C j9 (by decide) rfl dX6_copyFrom_114 ?_
  refine z_copyI C j7 j8 rfl rfl (by decide) (by decide) cp_RX6_72 copyWords ⟨Nat.le_of_ble_eq_true rfl, Nat.le_of_ble_eq_true rfl⟩ (Nat.le_of_ble_eq_true rfl) dX6_copyFrom_115 ?_
  refine z_aload_n C 1 1 dX6_copyFrom_118 rfl rfl ?_
  refine z_getR (k := 11) C cl6 h1 rfl gw_1_71 rfl dX6_copyFrom_119 ?_
  have j10 : kd (v1 + 4) = 22 := zkd C h1 (k := 11) rfl
  refine z_iconst C dX6_copyFrom_122 rfl ?_
  refine z_aload_n C 0 0 dX6_copyFrom_123 rfl rfl ?_
  refine z_getR (k := 11) C cl6 h0 rfl gw_1_71 rfl dX6_copyFrom_124 ?_
  have j11 : kd (v0 + 4) = 22 := zkd C h0 (k := 11) rfl
  refine z_iconst C dX6_copyFrom_127 rfl ?_
  refine z_aload_n C 0 0 dX6_copyFrom_128 rfl rfl ?_
  refine z_getR (k := 11) C cl6 h0 rfl gw_1_71 rfl dX6_copyFrom_129 ?_
  have j12 : kd (v0 + 4) = 22 := zkd C h0 (k := 11) rfl
  refine z_alen (v := 256) C j12 (by decide) rfl dX6_copyFrom_132 ?_
  refine z_copyI C j10 j11 rfl rfl (by decide) (by decide) cp_RX6_72 copyWords ⟨Nat.le_of_ble_eq_true rfl, Nat.le_of_ble_eq_true rfl⟩ (Nat.le_of_ble_eq_true rfl) dX6_copyFrom_133 ?_
  refine z_aload_n C 1 1 dX6_copyFrom_136 rfl rfl ?_
  refine z_getR (k := 12) C cl6 h1 rfl gw_1_72 rfl dX6_copyFrom_137 ?_
  have j13 : kd (v1 + 5) = 23 := zkd C h1 (k := 12) rfl
  refine z_iconst C dX6_copyFrom_140 rfl ?_
  refine z_aload_n C 0 0 dX6_copyFrom_141 rfl rfl ?_
  refine z_getR (k := 12) C cl6 h0 rfl gw_1_72 rfl dX6_copyFrom_142 ?_
  have j14 : kd (v0 + 5) = 23 := zkd C h0 (k := 12) rfl
  refine z_iconst C dX6_copyFrom_145 rfl ?_
  refine z_aload_n C 0 0 dX6_copyFrom_146 rfl rfl ?_
  refine z_getR (k := 12) C cl6 h0 rfl gw_1_72 rfl dX6_copyFrom_147 ?_
  have j15 : kd (v0 + 5) = 23 := zkd C h0 (k := 12) rfl
  refine z_alen (v := 1536) C j15 (by decide) rfl dX6_copyFrom_150 ?_
  refine z_copyI C j13 j14 rfl rfl (by decide) (by decide) cp_RX6_72 copyWords ⟨Nat.le_of_ble_eq_true rfl, Nat.le_of_ble_eq_true rfl⟩ (Nat.le_of_ble_eq_true rfl) dX6_copyFrom_151 ?_
  exact z_vret C hr (Nat.le_of_ble_eq_true rfl) dX6_copyFrom_154 rfl
