/-! X11_begins -/
def fX11_begins_l31_s (N : Nat) (v0 : Nat) (k31 : Int32 → Mem → Option Mem) (v1 : Int32) (M : Mem) : Option Mem :=
  if (4 : Int32) ≤ v1 then some M else if inB (((1220 : Int32) + ((512 : Int32) * v1)) + (0 : Int32)) 3268 = true then k31 (v1 + (1 : Int32)) (wI M v0 ((((1220 : Int32) + ((512 : Int32) * v1)) + (0 : Int32)).toNatClampNeg) (-1 : Int32)) else none
def fX11_begins_l31 (N : Nat) (v0 : Nat) : Nat → Int32 → Mem → Option Mem
  | 0, _, _ => none
  | n + 1, v1, M => fX11_begins_l31_s N v0 (fX11_begins_l31 N v0 n) v1 M
def fX11_begins_l2_s (N : Nat) (v0 : Nat) (k2 : Int32 → Mem → Option Mem) (v1 : Int32) (M : Mem) : Option Mem :=
  if (3268 : Int32) ≤ v1 then if inB (1 : Int32) 3268 = true then if inB (2 : Int32) 3268 = true then fX11_begins_l31 N v0 N (0 : Int32) (wI (wI M v0 ((1 : Int32).toNatClampNeg) (64 : Int32)) v0 ((2 : Int32).toNatClampNeg) (16 : Int32)) else none else none else if inB v1 3268 = true then k2 (v1 + (1 : Int32)) (wI M v0 v1.toNatClampNeg (0 : Int32)) else none
def fX11_begins_l2 (N : Nat) (v0 : Nat) : Nat → Int32 → Mem → Option Mem
  | 0, _, _ => none
  | n + 1, v1, M => fX11_begins_l2_s N v0 (fX11_begins_l2 N v0 n) v1 M
def fX11_begins (N : Nat) (v0 : Nat) (M : Mem) : Option Mem :=
  fX11_begins_l2 N v0 N (0 : Int32) M
/-! X11_thrown -/
def fX11_thrown (v0 : Nat) (Mo : Mem) : Option Int32 :=
  some (rI Mo v0 5)
/-! X11_fails -/
def fX11_fails (v0 : Nat) (v1 : Int32) (M : Mem) : Option (Int32 × Mem) :=
  some ((0 : Int32), wI M v0 5 v1)
/-! X11_within -/
def fX11_within_b17  (Mo : Mem) : Option Bool :=
  some false
def fX11_within (v0 : Int64) (v2 : Int64) (v4 : Int64) (Mo : Mem) : Option Bool :=
  if v0 < v2 then fX11_within_b17 Mo else if v4 < v0 then fX11_within_b17 Mo else some true
/-! X11_feed -/
def fX11_feed_b76 (N : Nat) (k23 : Int32 → Mem → Option (Int32 × Mem)) (v0 : Nat) (v1 : Int32) (v2 : Int32) (v3 : Int32) (v4 : Int32) (v5 : Int32) (v6 : Int32) (s0 : Int32) (M : Mem) : Option (Int32 × Mem) :=
  if inB (rI M v0 7) 600 = true then k23 (v6 + (1 : Int32)) (wI (wI M (v0 + 6) ((rI M v0 7).toNatClampNeg) ((ushrI s0 ((24 : Int32) - ((8 : Int32) * (v6 &&& (3 : Int32))))) &&& (255 : Int32))) v0 7 ((rI (wI M (v0 + 6) ((rI M v0 7).toNatClampNeg) ((ushrI s0 ((24 : Int32) - ((8 : Int32) * (v6 &&& (3 : Int32))))) &&& (255 : Int32))) v0 7) + (1 : Int32))) else none
def fX11_feed_l23_s (N : Nat) (v0 : Nat) (v1 : Int32) (v2 : Int32) (v3 : Int32) (v4 : Int32) (v5 : Int32) (k23 : Int32 → Mem → Option (Int32 × Mem)) (v6 : Int32) (M : Mem) : Option (Int32 × Mem) :=
  if (20 : Int32) ≤ v6 then some ((rI M v0 7), M) else if (4 : Int32) ≤ v6 then if (8 : Int32) ≤ v6 then if (12 : Int32) ≤ v6 then if (16 : Int32) ≤ v6 then fX11_feed_b76 N k23 v0 v1 v2 v3 v4 v5 v6 v5 M else fX11_feed_b76 N k23 v0 v1 v2 v3 v4 v5 v6 v4 M else fX11_feed_b76 N k23 v0 v1 v2 v3 v4 v5 v6 v3 M else fX11_feed_b76 N k23 v0 v1 v2 v3 v4 v5 v6 v2 M else fX11_feed_b76 N k23 v0 v1 v2 v3 v4 v5 v6 v1 M
def fX11_feed_l23 (N : Nat) (v0 : Nat) (v1 : Int32) (v2 : Int32) (v3 : Int32) (v4 : Int32) (v5 : Int32) : Nat → Int32 → Mem → Option (Int32 × Mem)
  | 0, _, _ => none
  | n + 1, v6, M => fX11_feed_l23_s N v0 v1 v2 v3 v4 v5 (fX11_feed_l23 N v0 v1 v2 v3 v4 v5 n) v6 M
def fX11_feed (N : Nat) (v0 : Nat) (v1 : Int32) (v2 : Int32) (v3 : Int32) (v4 : Int32) (v5 : Int32) (M : Mem) : Option (Int32 × Mem) :=
  if ((rI (wI M v0 5 (0 : Int32)) v0 7) + (20 : Int32)) ≤ (600 : Int32) then fX11_feed_l23 N v0 v1 v2 v3 v4 v5 N (0 : Int32) (wI M v0 5 (0 : Int32)) else some ((-1 : Int32), wI M v0 5 (0 : Int32))
/-! X11_see -/
def fX11_see (v0 : Nat) (v1 : Int32) (Mo : Mem) : Option Int32 :=
  if (rI Mo v0 8) ≤ v1 then some (0 : Int32) else if inB v1 600 = true then some (rI Mo (v0 + 6) v1.toNatClampNeg) else none
/-! X11_isLetter -/
def fX11_isLetter_b16  (Mo : Mem) : Option Bool :=
  some false
def fX11_isLetter (v0 : Int32) (Mo : Mem) : Option Bool :=
  if v0 < (97 : Int32) then fX11_isLetter_b16 Mo else if (122 : Int32) < v0 then fX11_isLetter_b16 Mo else some true
/-! X11_isDigit -/
def fX11_isDigit_b16  (Mo : Mem) : Option Bool :=
  some false
def fX11_isDigit (v0 : Int32) (Mo : Mem) : Option Bool :=
  if v0 < (48 : Int32) then fX11_isDigit_b16 Mo else if (57 : Int32) < v0 then fX11_isDigit_b16 Mo else some true
/-! X11_isMark -/
def fX11_isMark_b48  (Mo : Mem) : Option Bool :=
  some true
def fX11_isMark (v0 : Int32) (Mo : Mem) : Option Bool :=
  if v0 = (59 : Int32) then fX11_isMark_b48 Mo else if v0 = (40 : Int32) then fX11_isMark_b48 Mo else if v0 = (41 : Int32) then fX11_isMark_b48 Mo else if v0 = (43 : Int32) then fX11_isMark_b48 Mo else if v0 = (45 : Int32) then fX11_isMark_b48 Mo else if v0 = (42 : Int32) then fX11_isMark_b48 Mo else if v0 = (47 : Int32) then fX11_isMark_b48 Mo else if v0 = (37 : Int32) then fX11_isMark_b48 Mo else some false
/-! X11_reads -/
def fX11_reads_l94_s (N : Nat) (v0 : Nat) (k94 : Mem → Option Mem) (M : Mem) : Option Mem :=
  (fX11_see v0 (rI M v0 9) M).bind fun qj1 => (fX11_isLetter qj1 M).bind fun qj2 => if qj2 = true then k94 (wI M v0 9 ((rI M v0 9) + (1 : Int32))) else some (wI M v0 11 (1 : Int32))
def fX11_reads_l94 (N : Nat) (v0 : Nat) : Nat → Mem → Option Mem
  | 0, _ => none
  | n + 1, M => fX11_reads_l94_s N v0 (fX11_reads_l94 N v0 n) M
def fX11_reads_b196 (N : Nat) (k141 : Mem → Option Mem) (v0 : Nat) (s0 : Int32) (s1 : Nat) (M : Mem) : Option Mem :=
  k141 (wI (wI M s1 12 s0) v0 9 ((rI (wI M s1 12 s0) v0 9) + (1 : Int32)))
def fX11_reads_b231 (N : Nat) (s0 : Int32) (s1 : Nat) (M : Mem) : Option Mem :=
  some (wI M s1 11 s0)
def fX11_reads_l141_s (N : Nat) (v0 : Nat) (k141 : Mem → Option Mem) (M : Mem) : Option Mem :=
  (fX11_see v0 (rI M v0 9) M).bind fun qj1 => (fX11_isDigit qj1 M).bind fun qj2 => if qj2 = true then if (5 : Int32) ≤ ((rI M v0 9) - (rI M v0 10)) then fX11_reads_b196 N k141 v0 (rI M v0 12) v0 M else if inB (rI M v0 9) 600 = true then fX11_reads_b196 N k141 v0 ((((10 : Int32) * (rI M v0 12)) + (rI M (v0 + 6) (rI M v0 9).toNatClampNeg)) - (48 : Int32)) v0 M else none else if ((rI M v0 9) - (rI M v0 10)) ≤ (5 : Int32) then fX11_reads_b231 N (2 : Int32) v0 M else fX11_reads_b231 N (4 : Int32) v0 M
def fX11_reads_l141 (N : Nat) (v0 : Nat) : Nat → Mem → Option Mem
  | 0, _ => none
  | n + 1, M => fX11_reads_l141_s N v0 (fX11_reads_l141 N v0 n) M
def fX11_reads_b250 (N : Nat) (v0 : Nat) (v1 : Int32) (s0 : Int32) (s1 : Nat) (M : Mem) : Option Mem :=
  some (wI (wI (wI M s1 11 s0) v0 12 v1) v0 9 ((rI (wI (wI M s1 11 s0) v0 12 v1) v0 9) + (1 : Int32)))
def fX11_reads_b52 (N : Nat) (v0 : Nat) (M : Mem) : Option Mem :=
  if (rI (wI M v0 10 (rI M v0 9)) v0 9) < (rI (wI M v0 10 (rI M v0 9)) v0 8) then if inB (rI (wI M v0 10 (rI M v0 9)) v0 9) 600 = true then (fX11_isLetter (rI (wI M v0 10 (rI M v0 9)) (v0 + 6) (rI (wI M v0 10 (rI M v0 9)) v0 9).toNatClampNeg) (wI M v0 10 (rI M v0 9))).bind fun qj3 => if qj3 = true then fX11_reads_l94 N v0 N (wI M v0 10 (rI M v0 9)) else (fX11_isDigit (rI (wI M v0 10 (rI M v0 9)) (v0 + 6) (rI (wI M v0 10 (rI M v0 9)) v0 9).toNatClampNeg) (wI M v0 10 (rI M v0 9))).bind fun qj4 => if qj4 = true then fX11_reads_l141 N v0 N (wI (wI M v0 10 (rI M v0 9)) v0 12 (0 : Int32)) else (fX11_isMark (rI (wI M v0 10 (rI M v0 9)) (v0 + 6) (rI (wI M v0 10 (rI M v0 9)) v0 9).toNatClampNeg) (wI M v0 10 (rI M v0 9))).bind fun qj5 => if qj5 = true then fX11_reads_b250 N v0 (rI (wI M v0 10 (rI M v0 9)) (v0 + 6) (rI (wI M v0 10 (rI M v0 9)) v0 9).toNatClampNeg) (3 : Int32) v0 (wI M v0 10 (rI M v0 9)) else fX11_reads_b250 N v0 (rI (wI M v0 10 (rI M v0 9)) (v0 + 6) (rI (wI M v0 10 (rI M v0 9)) v0 9).toNatClampNeg) (4 : Int32) v0 (wI M v0 10 (rI M v0 9)) else none else some (wI (wI M v0 10 (rI M v0 9)) v0 11 (0 : Int32))
def fX11_reads_b39 (N : Nat) (k0 : Mem → Option Mem) (v0 : Nat) (M : Mem) : Option Mem :=
  k0 (wI M v0 9 ((rI M v0 9) + (1 : Int32)))
def fX11_reads_l0_s (N : Nat) (v0 : Nat) (k0 : Mem → Option Mem) (M : Mem) : Option Mem :=
  if (rI M v0 8) ≤ (rI M v0 9) then fX11_reads_b52 N v0 M else if inB (rI M v0 9) 600 = true then if (rI M (v0 + 6) (rI M v0 9).toNatClampNeg) = (32 : Int32) then fX11_reads_b39 N k0 v0 M else if inB (rI M v0 9) 600 = true then if (rI M (v0 + 6) (rI M v0 9).toNatClampNeg) = (10 : Int32) then fX11_reads_b39 N k0 v0 M else fX11_reads_b52 N v0 M else none else none
def fX11_reads_l0 (N : Nat) (v0 : Nat) : Nat → Mem → Option Mem
  | 0, _ => none
  | n + 1, M => fX11_reads_l0_s N v0 (fX11_reads_l0 N v0 n) M
def fX11_reads (N : Nat) (v0 : Nat) (M : Mem) : Option Mem :=
  fX11_reads_l0 N v0 N M
/-! X11_isSign -/
def fX11_isSign_b27  (Mo : Mem) : Option Bool :=
  some false
def fX11_isSign (v0 : Nat) (v1 : Int32) (Mo : Mem) : Option Bool :=
  if (rI Mo v0 14) = 0 then if (rI Mo v0 11) = (3 : Int32) then if (rI Mo v0 12) = v1 then some true else fX11_isSign_b27 Mo else fX11_isSign_b27 Mo else fX11_isSign_b27 Mo
/-! X11_tookSign -/
def fX11_tookSign_b14 (N : Nat) (v2 : Bool) (M : Mem) : Option (Bool × Mem) :=
  some (v2, M)
def fX11_tookSign (N : Nat) (v0 : Nat) (v1 : Int32) (M : Mem) : Option (Bool × Mem) :=
  (fX11_isSign v0 v1 M).bind fun qj1 => if qj1 = true then (fX11_reads N v0 M).bind fun qj2 => fX11_tookSign_b14 N qj1 qj2 else fX11_tookSign_b14 N qj1 M
/-! X11_blames -/
def fX11_blames_b22  (v0 : Nat) (s0 : Int32) (s1 : Nat) (M : Mem) : Option Mem :=
  some (wI (wI M s1 14 s0) v0 15 (rI (wI M s1 14 s0) v0 10))
def fX11_blames (v0 : Nat) (v1 : Int32) (M : Mem) : Option Mem :=
  if (rI M v0 14) = 0 then if (rI M v0 11) = (4 : Int32) then fX11_blames_b22 v0 (1 : Int32) v0 M else fX11_blames_b22 v0 v1 v0 M else some M
/-! X11_isWord -/
def fX11_isWord_b82 (N : Nat) (v2 : Bool) (Mo : Mem) : Option Bool :=
  some v2
def fX11_isWord_b75 (N : Nat) (k39 : Bool → Int32 → Option Bool) (v0 : Nat) (v1 : Nat) (v3 : Int32) (s0 : Bool) (Mo : Mem) : Option Bool :=
  k39 s0 (v3 + (1 : Int32))
def fX11_isWord_l39_s (N : Nat) (v0 : Nat) (v1 : Nat) (Mo : Mem) (k39 : Bool → Int32 → Option Bool) (v2 : Bool) (v3 : Int32) : Option Bool :=
  if v2 = true then (fJ0_length_8abf5 v1 Mo).bind fun qj1 => if qj1 ≤ v3 then fX11_isWord_b82 N v2 Mo else if inB ((rI Mo v0 10) + v3) 600 = true then (fJ0_charAt_5068e v1 v3 Mo).bind fun qj4 => if (rI Mo (v0 + 6) ((rI Mo v0 10) + v3).toNatClampNeg) = qj4 then fX11_isWord_b75 N k39 v0 v1 v3 true Mo else fX11_isWord_b75 N k39 v0 v1 v3 false Mo else none else fX11_isWord_b82 N v2 Mo
def fX11_isWord_l39 (N : Nat) (v0 : Nat) (v1 : Nat) (Mo : Mem) : Nat → Bool → Int32 → Option Bool
  | 0, _, _ => none
  | n + 1, v2, v3 => fX11_isWord_l39_s N v0 v1 Mo (fX11_isWord_l39 N v0 v1 Mo n) v2 v3
def fX11_isWord_b36 (N : Nat) (v0 : Nat) (v1 : Nat) (s0 : Bool) (Mo : Mem) : Option Bool :=
  fX11_isWord_l39 N v0 v1 Mo N s0 (0 : Int32)
def fX11_isWord_b35 (N : Nat) (v0 : Nat) (v1 : Nat) (Mo : Mem) : Option Bool :=
  fX11_isWord_b36 N v0 v1 false Mo
def fX11_isWord (N : Nat) (v0 : Nat) (v1 : Nat) (Mo : Mem) : Option Bool :=
  if (rI Mo v0 14) = 0 then if (rI Mo v0 11) = (1 : Int32) then (fJ0_length_8abf5 v1 Mo).bind fun qj1 => if ((rI Mo v0 9) - (rI Mo v0 10)) = qj1 then fX11_isWord_b36 N v0 v1 true Mo else fX11_isWord_b35 N v0 v1 Mo else fX11_isWord_b35 N v0 v1 Mo else fX11_isWord_b35 N v0 v1 Mo
/-! X11_took -/
def fX11_took_b14 (N : Nat) (v2 : Bool) (M : Mem) : Option (Bool × Mem) :=
  some (v2, M)
def fX11_took (N : Nat) (v0 : Nat) (v1 : Nat) (M : Mem) : Option (Bool × Mem) :=
  (fX11_isWord N v0 v1 M).bind fun qj1 => if qj1 = true then (fX11_reads N v0 M).bind fun qj2 => fX11_took_b14 N qj1 qj2 else fX11_took_b14 N qj1 M
/-! X11_number -/
def fX11_number_b52 (N : Nat) (v0 : Nat) (v1 : Int32) (v3 : Int32) (M : Mem) : Option (Int32 × Mem) :=
  if (rI M v0 14) = 0 then some (v3, M) else some (v1, M)
def fX11_number_b36 (N : Nat) (v0 : Nat) (v1 : Int32) (M : Mem) : Option (Int32 × Mem) :=
  if (rI M v0 14) = 0 then (fX11_reads N v0 M).bind fun qj1 => fX11_number_b52 N v0 v1 (rI M v0 12) qj1 else fX11_number_b52 N v0 v1 (rI M v0 12) M
def fX11_number (N : Nat) (v0 : Nat) (v1 : Int32) (v2 : Int32) (M : Mem) : Option (Int32 × Mem) :=
  if (rI M v0 11) = (2 : Int32) then (fX11_within ((rI M v0 12).toInt64) v1.toInt64 v2.toInt64 M).bind fun qj1 => if qj1 = true then fX11_number_b36 N v0 v1 M else (fX11_blames v0 (3 : Int32) M).bind fun qj2 => fX11_number_b36 N v0 v1 qj2 else (fX11_blames v0 (2 : Int32) M).bind fun qj3 => fX11_number_b36 N v0 v1 qj3
/-! X11_code -/
def fX11_code (v0 : Nat) (v1 : Int32) (v2 : Int32) (M : Mem) : Option Mem :=
  if (rI M v0 14) = 0 then if inB (18 : Int32) 3268 = true then if inB ((20 : Int32) + ((2 : Int32) * (rI M (v0 + 2) (18 : Int32).toNatClampNeg))) 3268 = true then if inB (18 : Int32) 3268 = true then if inB (((20 : Int32) + ((2 : Int32) * (rI (wI M (v0 + 2) (((20 : Int32) + ((2 : Int32) * (rI M (v0 + 2) (18 : Int32).toNatClampNeg))).toNatClampNeg) v1) (v0 + 2) (18 : Int32).toNatClampNeg))) + (1 : Int32)) 3268 = true then if inB (18 : Int32) 3268 = true then if inB (18 : Int32) 3268 = true then some (wI (wI (wI M (v0 + 2) (((20 : Int32) + ((2 : Int32) * (rI M (v0 + 2) (18 : Int32).toNatClampNeg))).toNatClampNeg) v1) (v0 + 2) ((((20 : Int32) + ((2 : Int32) * (rI (wI M (v0 + 2) (((20 : Int32) + ((2 : Int32) * (rI M (v0 + 2) (18 : Int32).toNatClampNeg))).toNatClampNeg) v1) (v0 + 2) (18 : Int32).toNatClampNeg))) + (1 : Int32)).toNatClampNeg) v2) (v0 + 2) ((18 : Int32).toNatClampNeg) ((rI (wI (wI M (v0 + 2) (((20 : Int32) + ((2 : Int32) * (rI M (v0 + 2) (18 : Int32).toNatClampNeg))).toNatClampNeg) v1) (v0 + 2) ((((20 : Int32) + ((2 : Int32) * (rI (wI M (v0 + 2) (((20 : Int32) + ((2 : Int32) * (rI M (v0 + 2) (18 : Int32).toNatClampNeg))).toNatClampNeg) v1) (v0 + 2) (18 : Int32).toNatClampNeg))) + (1 : Int32)).toNatClampNeg) v2) (v0 + 2) (18 : Int32).toNatClampNeg) + (1 : Int32))) else none else none else none else none else none else none else some M
/-! the recursive reading -/
def fX11_readUnit_b77 (rs : Nat → Mem → Option Mem) (N : Nat) (v0 : Nat) (M : Mem) : Option Mem :=
  some (wI M v0 13 ((rI M v0 13) - (1 : Int32)))
def fX11_readUnit_b63 (rs : Nat → Mem → Option Mem) (N : Nat) (v0 : Nat) (M : Mem) : Option Mem :=
  (fX11_tookSign N v0 (41 : Int32) M).bind fun qj1 => if qj1.1 = true then fX11_readUnit_b77 rs N v0 qj1.2 else (fX11_blames v0 (2 : Int32) qj1.2).bind fun qj2 => fX11_readUnit_b77 rs N v0 qj2
def fX11_readUnit_b52 (rs : Nat → Mem → Option Mem) (N : Nat) (v0 : Nat) (M : Mem) : Option Mem :=
  if (rI M v0 14) = 0 then (rs v0 M).bind fun qj1 => fX11_readUnit_b63 rs N v0 qj1 else fX11_readUnit_b63 rs N v0 M
def fX11_readUnit_b31 (rs : Nat → Mem → Option Mem) (N : Nat) (v0 : Nat) (M : Mem) : Option Mem :=
  if (rI (wI M v0 13 ((rI M v0 13) + (1 : Int32))) v0 14) = 0 then (fX11_reads N v0 (wI M v0 13 ((rI M v0 13) + (1 : Int32)))).bind fun qj1 => fX11_readUnit_b52 rs N v0 qj1 else fX11_readUnit_b52 rs N v0 (wI M v0 13 ((rI M v0 13) + (1 : Int32)))
def fX11_readUnit (rs : Nat → Mem → Option Mem) (N : Nat) (v0 : Nat) (M : Mem) : Option Mem :=
  if (rI M v0 14) = 0 then (fX11_isSign v0 (40 : Int32) M).bind fun qj1 => if qj1 = true then if (rI M v0 13) = (6 : Int32) then (fX11_blames v0 (5 : Int32) M).bind fun qj2 => fX11_readUnit_b31 rs N v0 qj2 else fX11_readUnit_b31 rs N v0 M else if (rI M v0 11) = (2 : Int32) then (fX11_code v0 (0 : Int32) (rI M v0 12) M).bind fun qj3 => (fX11_reads N v0 qj3).bind fun qj4 => some qj4 else (fX11_took N v0 37 M).bind fun qj5 => if qj5.1 = true then (fX11_code v0 (1 : Int32) (0 : Int32) qj5.2).bind fun qj6 => some qj6 else (fX11_took N v0 38 qj5.2).bind fun qj7 => if qj7.1 = true then (fX11_code v0 (2 : Int32) (0 : Int32) qj7.2).bind fun qj8 => some qj8 else (fX11_blames v0 (2 : Int32) qj7.2).bind fun qj9 => some qj9 else some M
def fX11_readProduct_b31 (rs : Nat → Mem → Option Mem) (N : Nat) (k4 : Mem → Option Mem) (v0 : Nat) (M : Mem) : Option Mem :=
  (fX11_reads N v0 M).bind fun qj1 => (fX11_readUnit rs N v0 qj1).bind fun qj2 => (fX11_code v0 (rI M v0 12) (0 : Int32) qj2).bind fun qj3 => k4 qj3
def fX11_readProduct_l4_s (rs : Nat → Mem → Option Mem) (N : Nat) (v0 : Nat) (k4 : Mem → Option Mem) (M : Mem) : Option Mem :=
  (fX11_isSign v0 (42 : Int32) M).bind fun qj1 => if qj1 = true then fX11_readProduct_b31 rs N k4 v0 M else (fX11_isSign v0 (47 : Int32) M).bind fun qj2 => if qj2 = true then fX11_readProduct_b31 rs N k4 v0 M else (fX11_isSign v0 (37 : Int32) M).bind fun qj3 => if qj3 = true then fX11_readProduct_b31 rs N k4 v0 M else some M
def fX11_readProduct_l4 (rs : Nat → Mem → Option Mem) (N : Nat) (v0 : Nat) : Nat → Mem → Option Mem
  | 0, _ => none
  | n + 1, M => fX11_readProduct_l4_s rs N v0 (fX11_readProduct_l4 rs N v0 n) M
def fX11_readProduct (rs : Nat → Mem → Option Mem) (N : Nat) (v0 : Nat) (M : Mem) : Option Mem :=
  (fX11_readUnit rs N v0 M).bind fun qj1 => fX11_readProduct_l4 rs N v0 N qj1
def fX11_readSumB_b22 (rs : Nat → Mem → Option Mem) (N : Nat) (k4 : Mem → Option Mem) (v0 : Nat) (M : Mem) : Option Mem :=
  (fX11_reads N v0 M).bind fun qj1 => (fX11_readProduct rs N v0 qj1).bind fun qj2 => (fX11_code v0 (rI M v0 12) (0 : Int32) qj2).bind fun qj3 => k4 qj3
def fX11_readSumB_l4_s (rs : Nat → Mem → Option Mem) (N : Nat) (v0 : Nat) (k4 : Mem → Option Mem) (M : Mem) : Option Mem :=
  (fX11_isSign v0 (43 : Int32) M).bind fun qj1 => if qj1 = true then fX11_readSumB_b22 rs N k4 v0 M else (fX11_isSign v0 (45 : Int32) M).bind fun qj2 => if qj2 = true then fX11_readSumB_b22 rs N k4 v0 M else some M
def fX11_readSumB_l4 (rs : Nat → Mem → Option Mem) (N : Nat) (v0 : Nat) : Nat → Mem → Option Mem
  | 0, _ => none
  | n + 1, M => fX11_readSumB_l4_s rs N v0 (fX11_readSumB_l4 rs N v0 n) M
def fX11_readSumB (rs : Nat → Mem → Option Mem) (N : Nat) (v0 : Nat) (M : Mem) : Option Mem :=
  (fX11_readProduct rs N v0 M).bind fun qj1 => fX11_readSumB_l4 rs N v0 N qj1
def fX11_readSumD (N : Nat) : Nat → Nat → Mem → Option Mem
  | 0, _, _ => none
  | d + 1, v0, M => fX11_readSumB (fX11_readSumD N d) N v0 M
def fX11_readSum (N : Nat) (v0 : Nat) (M : Mem) : Option Mem := fX11_readSumD N 8 v0 M
/-! X11_readFor -/
def fX11_readFor (N : Nat) (v0 : Nat) (v1 : Int32) (M : Mem) : Option Mem :=
  if (rI M v0 14) = 0 then (fX11_reads N v0 M).bind fun qj1 => if inB (18 : Int32) 3268 = true then (fX11_readSum N v0 qj1).bind fun qj4 => if (rI qj4 v0 14) = 0 then if inB ((4 : Int32) + ((2 : Int32) * v1)) 3268 = true then if inB (18 : Int32) 3268 = true then if inB (((4 : Int32) + ((2 : Int32) * v1)) + (1 : Int32)) 3268 = true then if (6 : Int32) ≤ v1 then some (wI (wI qj4 (v0 + 2) (((4 : Int32) + ((2 : Int32) * v1)).toNatClampNeg) (rI qj1 (v0 + 2) (18 : Int32).toNatClampNeg)) (v0 + 2) ((((4 : Int32) + ((2 : Int32) * v1)) + (1 : Int32)).toNatClampNeg) (rI (wI qj4 (v0 + 2) (((4 : Int32) + ((2 : Int32) * v1)).toNatClampNeg) (rI qj1 (v0 + 2) (18 : Int32).toNatClampNeg)) (v0 + 2) (18 : Int32).toNatClampNeg)) else if inB (3 : Int32) 3268 = true then if inB (3 : Int32) 3268 = true then some (wI (wI (wI qj4 (v0 + 2) (((4 : Int32) + ((2 : Int32) * v1)).toNatClampNeg) (rI qj1 (v0 + 2) (18 : Int32).toNatClampNeg)) (v0 + 2) ((((4 : Int32) + ((2 : Int32) * v1)) + (1 : Int32)).toNatClampNeg) (rI (wI qj4 (v0 + 2) (((4 : Int32) + ((2 : Int32) * v1)).toNatClampNeg) (rI qj1 (v0 + 2) (18 : Int32).toNatClampNeg)) (v0 + 2) (18 : Int32).toNatClampNeg)) (v0 + 2) ((3 : Int32).toNatClampNeg) ((rI (wI (wI qj4 (v0 + 2) (((4 : Int32) + ((2 : Int32) * v1)).toNatClampNeg) (rI qj1 (v0 + 2) (18 : Int32).toNatClampNeg)) (v0 + 2) ((((4 : Int32) + ((2 : Int32) * v1)) + (1 : Int32)).toNatClampNeg) (rI (wI qj4 (v0 + 2) (((4 : Int32) + ((2 : Int32) * v1)).toNatClampNeg) (rI qj1 (v0 + 2) (18 : Int32).toNatClampNeg)) (v0 + 2) (18 : Int32).toNatClampNeg)) (v0 + 2) (3 : Int32).toNatClampNeg) + (1 : Int32))) else none else none else none else none else none else some qj4 else none else some M
/-! X11_readLine -/
def fX11_readLine_b126 (N : Nat) (v0 : Nat) (M : Mem) : Option Mem :=
  if (rI M v0 14) = 0 then if inB (0 : Int32) 3268 = true then if inB (0 : Int32) 3268 = true then some (wI M (v0 + 2) ((0 : Int32).toNatClampNeg) ((rI M (v0 + 2) (0 : Int32).toNatClampNeg) + (1 : Int32))) else none else none else some M
def fX11_readLine_b112 (N : Nat) (v0 : Nat) (M : Mem) : Option Mem :=
  (fX11_tookSign N v0 (59 : Int32) M).bind fun qj1 => if qj1.1 = true then fX11_readLine_b126 N v0 qj1.2 else (fX11_blames v0 (2 : Int32) qj1.2).bind fun qj2 => fX11_readLine_b126 N v0 qj2
def fX11_readLine_b76 (N : Nat) (v0 : Nat) (M : Mem) : Option Mem :=
  if inB (3 : Int32) 3268 = true then (fX11_readFor N v0 (rI M (v0 + 2) (3 : Int32).toNatClampNeg) M).bind fun qj3 => fX11_readLine_b112 N v0 qj3 else none
def fX11_readLine (N : Nat) (v0 : Nat) (M : Mem) : Option Mem :=
  (fX11_took N v0 34 M).bind fun qj1 => if qj1.1 = true then (fX11_number N v0 (2 : Int32) (256 : Int32) qj1.2).bind fun qj3 => if inB (1 : Int32) 3268 = true then fX11_readLine_b112 N v0 (wI qj3.2 (v0 + 2) ((1 : Int32).toNatClampNeg) qj3.1) else none else (fX11_took N v0 35 qj1.2).bind fun qj4 => if qj4.1 = true then (fX11_number N v0 (2 : Int32) (64 : Int32) qj4.2).bind fun qj6 => if inB (2 : Int32) 3268 = true then fX11_readLine_b112 N v0 (wI qj6.2 (v0 + 2) ((2 : Int32).toNatClampNeg) qj6.1) else none else (fX11_isWord N v0 36 qj4.2).bind fun qj7 => if qj7 = true then if inB (3 : Int32) 3268 = true then if (rI qj4.2 (v0 + 2) (3 : Int32).toNatClampNeg) = (6 : Int32) then (fX11_blames v0 (4 : Int32) qj4.2).bind fun qj10 => fX11_readLine_b76 N v0 qj10 else fX11_readLine_b76 N v0 qj4.2 else none else (fX11_isWord N v0 39 qj4.2).bind fun qj11 => if qj11 = true then (fX11_readFor N v0 (6 : Int32) qj4.2).bind fun qj12 => fX11_readLine_b112 N v0 qj12 else (fX11_blames v0 (2 : Int32) qj4.2).bind fun qj13 => fX11_readLine_b112 N v0 qj13
/-! X11_rules -/
def fX11_rules_l126_s (N : Nat) (v0 : Nat) (k126 : Int32 → Mem → Option (Int32 × Mem)) (v2 : Int32) (M : Mem) : Option (Int32 × Mem) :=
  if (3268 : Int32) ≤ v2 then if inB (0 : Int32) 3268 = true then some ((rI M (v0 + 1) (0 : Int32).toNatClampNeg), M) else none else if inB v2 3268 = true then if inB v2 3268 = true then k126 (v2 + (1 : Int32)) (wI M (v0 + 1) v2.toNatClampNeg (rI M (v0 + 2) v2.toNatClampNeg)) else none else none
def fX11_rules_l126 (N : Nat) (v0 : Nat) : Nat → Int32 → Mem → Option (Int32 × Mem)
  | 0, _, _ => none
  | n + 1, v2, M => fX11_rules_l126_s N v0 (fX11_rules_l126 N v0 n) v2 M
def fX11_rules_b106 (N : Nat) (v0 : Nat) (s0 : Int32) (s1 : Nat) (M : Mem) : Option (Int32 × Mem) :=
  if (rI (wI M s1 17 s0) v0 14) = 0 then fX11_rules_l126 N v0 N (0 : Int32) (wI M s1 17 s0) else some (((-10 : Int32) - (rI (wI M s1 17 s0) v0 14)), wI M s1 17 s0)
def fX11_rules_b82 (N : Nat) (v0 : Nat) (M : Mem) : Option (Int32 × Mem) :=
  if (rI (wI M v0 16 (rI M v0 14)) v0 14) = 0 then fX11_rules_b106 N v0 (-1 : Int32) v0 (wI M v0 16 (rI M v0 14)) else fX11_rules_b106 N v0 (rI (wI M v0 16 (rI M v0 14)) v0 15) v0 (wI M v0 16 (rI M v0 14))
def fX11_rules_l61_s (N : Nat) (v0 : Nat) (k61 : Mem → Option (Int32 × Mem)) (M : Mem) : Option (Int32 × Mem) :=
  if (rI M v0 14) = 0 then if (rI M v0 11) = 0 then fX11_rules_b82 N v0 M else (fX11_readLine N v0 M).bind fun qj1 => k61 qj1 else fX11_rules_b82 N v0 M
def fX11_rules_l61 (N : Nat) (v0 : Nat) : Nat → Mem → Option (Int32 × Mem)
  | 0, _ => none
  | n + 1, M => fX11_rules_l61_s N v0 (fX11_rules_l61 N v0 n) M
def fX11_rules (N : Nat) (v0 : Nat) (v1 : Int32) (M : Mem) : Option (Int32 × Mem) :=
  (fX11_within v1.toInt64 (0 : Int64) ((rI (wI M v0 5 (0 : Int32)) v0 7).toInt64) (wI M v0 5 (0 : Int32))).bind fun qj1 => if qj1 = true then (fX11_begins N (v0 + 2) (wI (wI (wI (wI (wI (wI M v0 5 (0 : Int32)) v0 8 v1) v0 7 (0 : Int32)) v0 9 (0 : Int32)) v0 14 (0 : Int32)) v0 13 (0 : Int32))).bind fun qj3 => (fX11_reads N v0 qj3).bind fun qj4 => fX11_rules_l61 N v0 N qj4 else (fX11_fails v0 (1 : Int32) (wI M v0 5 (0 : Int32))).bind fun qj5 => some (qj5.1, qj5.2)
/-! X11_fault -/
def fX11_fault (v0 : Nat) (v1 : Int32) (M : Mem) : Option (Int32 × Mem) :=
  if v1 = 0 then some ((rI (wI M v0 5 (0 : Int32)) v0 16), wI M v0 5 (0 : Int32)) else if v1 = (1 : Int32) then some ((rI (wI M v0 5 (0 : Int32)) v0 17), wI M v0 5 (0 : Int32)) else some ((-1 : Int32), wI M v0 5 (0 : Int32))
/-! X11_joins -/
def fX11_joins (v0 : Int32) (v1 : Int32) (v2 : Int32) (Mo : Mem) : Option Int32 :=
  if v0 = (43 : Int32) then some (v1 + v2) else if v0 = (45 : Int32) then some (v1 - v2) else if v0 = (42 : Int32) then some (v1 * v2) else if v2 = 0 then some (0 : Int32) else if v0 = (47 : Int32) then if v2 = 0 then none else some (v1 / v2) else if v2 = 0 then none else some (remI v1 v2)
/-! X11_valueOf -/
def fX11_valueOf_b131 (N : Nat) (k20 : Int32 → Int32 → Mem → Option (Int32 × Mem)) (v0 : Nat) (v1 : Int32) (v2 : Int32) (v3 : Int32) (v4 : Int32) (v5 : Int32) (M : Mem) : Option (Int32 × Mem) :=
  k20 v4 (v5 + (2 : Int32)) M
def fX11_valueOf_b91 (N : Nat) (k20 : Int32 → Int32 → Mem → Option (Int32 × Mem)) (v0 : Nat) (v1 : Int32) (v2 : Int32) (v3 : Int32) (v4 : Int32) (v5 : Int32) (s0 : Int32) (s1 : Int32) (s2 : Nat) (M : Mem) : Option (Int32 × Mem) :=
  if inB s1 300 = true then fX11_valueOf_b131 N k20 v0 v1 v2 v3 (v4 + (1 : Int32)) v5 (wI M s2 s1.toNatClampNeg s0) else none
def fX11_valueOf_l20_s (N : Nat) (v0 : Nat) (v1 : Int32) (v2 : Int32) (v3 : Int32) (k20 : Int32 → Int32 → Mem → Option (Int32 × Mem)) (v4 : Int32) (v5 : Int32) (M : Mem) : Option (Int32 × Mem) :=
  if inB (((4 : Int32) + ((2 : Int32) * v1)) + (1 : Int32)) 3268 = true then if ((20 : Int32) + ((2 : Int32) * (rI M (v0 + 1) (((4 : Int32) + ((2 : Int32) * v1)) + (1 : Int32)).toNatClampNeg))) ≤ v5 then if inB (0 : Int32) 300 = true then some ((rI M (v0 + 7) (0 : Int32).toNatClampNeg), M) else none else if inB v5 3268 = true then if (2 : Int32) < (rI M (v0 + 1) v5.toNatClampNeg) then if inB ((v4 + (-1 : Int32)) - (1 : Int32)) 300 = true then if inB (v4 + (-1 : Int32)) 300 = true then (fX11_joins (rI M (v0 + 1) v5.toNatClampNeg) (rI M (v0 + 7) ((v4 + (-1 : Int32)) - (1 : Int32)).toNatClampNeg) (rI M (v0 + 7) (v4 + (-1 : Int32)).toNatClampNeg) M).bind fun qj12 => if inB ((v4 + (-1 : Int32)) - (1 : Int32)) 300 = true then fX11_valueOf_b131 N k20 v0 v1 v2 v3 (v4 + (-1 : Int32)) v5 (wI M (v0 + 7) (((v4 + (-1 : Int32)) - (1 : Int32)).toNatClampNeg) qj12) else none else none else none else if (rI M (v0 + 1) v5.toNatClampNeg) = 0 then if inB (v5 + (1 : Int32)) 3268 = true then fX11_valueOf_b91 N k20 v0 v1 v2 v3 v4 v5 (rI M (v0 + 1) (v5 + (1 : Int32)).toNatClampNeg) v4 (v0 + 7) M else none else if (rI M (v0 + 1) v5.toNatClampNeg) = (1 : Int32) then fX11_valueOf_b91 N k20 v0 v1 v2 v3 v4 v5 v2 v4 (v0 + 7) M else fX11_valueOf_b91 N k20 v0 v1 v2 v3 v4 v5 v3 v4 (v0 + 7) M else none else none
def fX11_valueOf_l20 (N : Nat) (v0 : Nat) (v1 : Int32) (v2 : Int32) (v3 : Int32) : Nat → Int32 → Int32 → Mem → Option (Int32 × Mem)
  | 0, _, _, _ => none
  | n + 1, v4, v5, M => fX11_valueOf_l20_s N v0 v1 v2 v3 (fX11_valueOf_l20 N v0 v1 v2 v3 n) v4 v5 M
def fX11_valueOf (N : Nat) (v0 : Nat) (v1 : Int32) (v2 : Int32) (v3 : Int32) (M : Mem) : Option (Int32 × Mem) :=
  if inB ((4 : Int32) + ((2 : Int32) * v1)) 3268 = true then fX11_valueOf_l20 N v0 v1 v2 v3 N (0 : Int32) ((20 : Int32) + ((2 : Int32) * (rI M (v0 + 1) ((4 : Int32) + ((2 : Int32) * v1)).toNatClampNeg))) M else none
/-! X11_modulo -/
def fX11_modulo (v0 : Int32) (v1 : Int32) (Mo : Mem) : Option Int32 :=
  if v1 = 0 then none else if v1 = 0 then none else some (remI ((remI v0 v1) + v1) v1)
/-! X11_placeOf -/
def fX11_placeOf (N : Nat) (v0 : Nat) (v1 : Int32) (v2 : Int32) (v3 : Int32) (M : Mem) : Option (Int32 × Mem) :=
  (fX11_valueOf N v0 v1 v2 v3 M).bind fun qj1 => (fX11_modulo qj1.1 v3 qj1.2).bind fun qj2 => some (qj2, qj1.2)
/-! X11_tagOf -/
def fX11_tagOf_b22 (N : Nat) (v0 : Nat) (v1 : Int32) (s0 : Bool) (M : Mem) : Option (Int32 × Mem) :=
  if s0 = true then if inB (2 : Int32) 3268 = true then if (rI M (v0 + 1) (2 : Int32).toNatClampNeg) = 0 then none else some ((remI v1 (rI M (v0 + 1) (2 : Int32).toNatClampNeg)), M) else none else if inB (2 : Int32) 3268 = true then (fX11_valueOf N v0 (6 : Int32) v1 (rI M (v0 + 1) (2 : Int32).toNatClampNeg) M).bind fun qj5 => if inB (2 : Int32) 3268 = true then (fX11_modulo qj5.1 (rI qj5.2 (v0 + 1) (2 : Int32).toNatClampNeg) qj5.2).bind fun qj8 => some (qj8, qj5.2) else none else none
def fX11_tagOf (N : Nat) (v0 : Nat) (v1 : Int32) (M : Mem) : Option (Int32 × Mem) :=
  if inB (16 : Int32) 3268 = true then if inB (17 : Int32) 3268 = true then if (rI M (v0 + 1) (16 : Int32).toNatClampNeg) = (rI M (v0 + 1) (17 : Int32).toNatClampNeg) then fX11_tagOf_b22 N v0 v1 true M else fX11_tagOf_b22 N v0 v1 false M else none else none
/-! X11_markFault -/
def fX11_markFault (v0 : Nat) (v1 : Int32) (v2 : Int32) (Mo : Mem) : Option Int32 :=
  if inB (3 : Int32) 3268 = true then (fX11_within v1.toInt64 (0 : Int64) (((rI Mo (v0 + 1) (3 : Int32).toNatClampNeg) - (1 : Int32)).toInt64) Mo).bind fun qj3 => if qj3 = true then (fX11_within v2.toInt64 (1 : Int64) (128 : Int64) Mo).bind fun qj4 => if qj4 = true then some (0 : Int32) else some (2 : Int32) else some (1 : Int32) else none
/-! X11_value -/
def fX11_value (N : Nat) (v0 : Nat) (v1 : Int32) (v2 : Int32) (v3 : Int32) (M : Mem) : Option (Int32 × Mem) :=
  (fX11_markFault v0 v1 v3 M).bind fun qj1 => if (rI (wI M v0 5 qj1) v0 5) ≤ 0 then (fX11_valueOf N v0 v1 v2 v3 (wI M v0 5 qj1)).bind fun qj2 => some (qj2.1, qj2.2) else some ((0 : Int32), wI M v0 5 qj1)
/-! X11_place -/
def fX11_place (N : Nat) (v0 : Nat) (v1 : Int32) (v2 : Int32) (v3 : Int32) (M : Mem) : Option (Int32 × Mem) :=
  (fX11_markFault v0 v1 v3 M).bind fun qj1 => if (rI (wI M v0 5 qj1) v0 5) ≤ 0 then (fX11_placeOf N v0 v1 v2 v3 (wI M v0 5 qj1)).bind fun qj2 => some (qj2.1, qj2.2) else some ((0 : Int32), wI M v0 5 qj1)
/-! X11_isName -/
def fX11_isName (v0 : Nat) (v1 : Int64) (Mo : Mem) : Option Bool :=
  if inB (1 : Int32) 3268 = true then (fX11_within v1 (0 : Int64) (((rI Mo (v0 + 1) (1 : Int32).toNatClampNeg) - (1 : Int32)).toInt64) Mo).bind fun qj3 => some qj3 else none
/-! X11_tag -/
def fX11_tag (N : Nat) (v0 : Nat) (v1 : Int32) (M : Mem) : Option (Int32 × Mem) :=
  (fX11_isName v0 v1.toInt64 (wI M v0 5 (0 : Int32))).bind fun qj1 => if qj1 = true then (fX11_tagOf N v0 v1 (wI M v0 5 (0 : Int32))).bind fun qj2 => some (qj2.1, qj2.2) else (fX11_fails v0 (1 : Int32) (wI M v0 5 (0 : Int32))).bind fun qj3 => some (qj3.1, qj3.2)
/-! X11_get -/
def fX11_get (v0 : Nat) (v1 : Int32) (v2 : Int32) (Mo : Mem) : Option Int32 :=
  if inB (((1220 : Int32) + ((512 : Int32) * v1)) + v2) 3268 = true then some (rI Mo (v0 + 1) (((1220 : Int32) + ((512 : Int32) * v1)) + v2).toNatClampNeg) else none
/-! X11_set -/
def fX11_set (v0 : Nat) (v1 : Int32) (v2 : Int32) (v3 : Int32) (M : Mem) : Option Mem :=
  if inB (((1220 : Int32) + ((512 : Int32) * v1)) + v2) 3268 = true then some (wI M (v0 + 1) ((((1220 : Int32) + ((512 : Int32) * v1)) + v2).toNatClampNeg) v3) else none
/-! X11_isRow -/
def fX11_isRow_b26  (Mo : Mem) : Option Bool :=
  some false
def fX11_isRow (v0 : Nat) (v1 : Int32) (Mo : Mem) : Option Bool :=
  (fX11_within v1.toInt64 (0 : Int64) (3 : Int64) Mo).bind fun qj1 => if qj1 = true then (fX11_get v0 v1 (0 : Int32) Mo).bind fun qj2 => if qj2 = (-1 : Int32) then fX11_isRow_b26 Mo else some true else fX11_isRow_b26 Mo
/-! X11_all -/
def fX11_all_b10  (Mo : Mem) : Option Int32 :=
  some (16 : Int32)
def fX11_all (v0 : Nat) (v1 : Int32) (Mo : Mem) : Option Int32 :=
  if v1 = (2 : Int32) then fX11_all_b10 Mo else if v1 = (3 : Int32) then fX11_all_b10 Mo else some (64 : Int32)
/-! X11_make -/
def fX11_make_l192_s (N : Nat) (v0 : Nat) (v1 : Int32) (v2 : Int32) (v3 : Int32) (v4 : Int32) (v5 : Int32) (k192 : Int32 → Mem → Option Mem) (v8 : Int32) (M : Mem) : Option Mem :=
  if (512 : Int32) ≤ v8 then (fX11_set v0 v1 (0 : Int32) v2 M).bind fun qj1 => (fX11_set v0 v1 (1 : Int32) v3 qj1).bind fun qj2 => (fX11_set v0 v1 (2 : Int32) v4 qj2).bind fun qj3 => (fX11_set v0 v1 (3 : Int32) v5 qj3).bind fun qj4 => (fX11_set v0 v1 (4 : Int32) (1 : Int32) qj4).bind fun qj5 => some qj5 else (fX11_set v0 v1 v8 (0 : Int32) M).bind fun qj6 => k192 (v8 + (1 : Int32)) qj6
def fX11_make_l192 (N : Nat) (v0 : Nat) (v1 : Int32) (v2 : Int32) (v3 : Int32) (v4 : Int32) (v5 : Int32) : Nat → Int32 → Mem → Option Mem
  | 0, _, _ => none
  | n + 1, v8, M => fX11_make_l192_s N v0 v1 v2 v3 v4 v5 (fX11_make_l192 N v0 v1 v2 v3 v4 v5 n) v8 M
def fX11_make_b181 (N : Nat) (v0 : Nat) (v1 : Int32) (v2 : Int32) (v3 : Int32) (v4 : Int32) (v5 : Int32) (M : Mem) : Option Mem :=
  if (rI M v0 5) ≤ 0 then fX11_make_l192 N v0 v1 v2 v3 v4 v5 N (0 : Int32) M else some M
def fX11_make_b162 (N : Nat) (v0 : Nat) (v1 : Int32) (v2 : Int32) (v3 : Int32) (v4 : Int32) (v5 : Int32) (s0 : Bool) (M : Mem) : Option Mem :=
  if (rI M v0 5) = 0 then if s0 = true then fX11_make_b181 N v0 v1 v2 v3 v4 v5 M else fX11_make_b181 N v0 v1 v2 v3 v4 v5 (wI M v0 5 (2 : Int32)) else fX11_make_b181 N v0 v1 v2 v3 v4 v5 M
def fX11_make_b157 (N : Nat) (v0 : Nat) (v1 : Int32) (v2 : Int32) (v3 : Int32) (v4 : Int32) (v5 : Int32) (M : Mem) : Option Mem :=
  fX11_make_b162 N v0 v1 v2 v3 v4 v5 true M
def fX11_make_b161 (N : Nat) (v0 : Nat) (v1 : Int32) (v2 : Int32) (v3 : Int32) (v4 : Int32) (v5 : Int32) (M : Mem) : Option Mem :=
  fX11_make_b162 N v0 v1 v2 v3 v4 v5 false M
def fX11_make_b103 (N : Nat) (v0 : Nat) (v1 : Int32) (v2 : Int32) (v3 : Int32) (v4 : Int32) (v5 : Int32) (s0 : Bool) (M : Mem) : Option Mem :=
  if s0 = true then if v2 = (2 : Int32) then (fX11_within v5.toInt64 (1 : Int64) (4 : Int64) M).bind fun qj1 => if qj1 = true then fX11_make_b157 N v0 v1 v2 v3 v4 v5 M else fX11_make_b161 N v0 v1 v2 v3 v4 v5 M else if v2 = (3 : Int32) then (fX11_within v5.toInt64 (1 : Int64) (20 : Int64) M).bind fun qj2 => if qj2 = true then fX11_make_b157 N v0 v1 v2 v3 v4 v5 M else fX11_make_b161 N v0 v1 v2 v3 v4 v5 M else if v5 = 0 then fX11_make_b157 N v0 v1 v2 v3 v4 v5 M else fX11_make_b161 N v0 v1 v2 v3 v4 v5 M else fX11_make_b161 N v0 v1 v2 v3 v4 v5 M
def fX11_make_b98 (N : Nat) (v0 : Nat) (v1 : Int32) (v2 : Int32) (v3 : Int32) (v4 : Int32) (v5 : Int32) (M : Mem) : Option Mem :=
  fX11_make_b103 N v0 v1 v2 v3 v4 v5 true M
def fX11_make_b102 (N : Nat) (v0 : Nat) (v1 : Int32) (v2 : Int32) (v3 : Int32) (v4 : Int32) (v5 : Int32) (M : Mem) : Option Mem :=
  fX11_make_b103 N v0 v1 v2 v3 v4 v5 false M
def fX11_make_b45 (N : Nat) (v0 : Nat) (v1 : Int32) (v2 : Int32) (v3 : Int32) (v4 : Int32) (v5 : Int32) (s0 : Int32) (M : Mem) : Option Mem :=
  (fX11_within v2.toInt64 (0 : Int64) (4 : Int64) M).bind fun qj1 => if qj1 = true then (fX11_all v0 v2 M).bind fun qj2 => (fX11_within v3.toInt64 (1 : Int64) qj2.toInt64 M).bind fun qj3 => if qj3 = true then (fX11_within v4.toInt64 (1 : Int64) s0.toInt64 M).bind fun qj4 => if qj4 = true then if v2 = (2 : Int32) then if v4 = (2 : Int32) then fX11_make_b98 N v0 v1 v2 v3 v4 v5 M else fX11_make_b102 N v0 v1 v2 v3 v4 v5 M else fX11_make_b98 N v0 v1 v2 v3 v4 v5 M else fX11_make_b102 N v0 v1 v2 v3 v4 v5 M else fX11_make_b102 N v0 v1 v2 v3 v4 v5 M else fX11_make_b102 N v0 v1 v2 v3 v4 v5 M
def fX11_make_b18 (N : Nat) (v0 : Nat) (v1 : Int32) (v2 : Int32) (v3 : Int32) (v4 : Int32) (v5 : Int32) (s0 : Bool) (s1 : Nat) (M : Mem) : Option Mem :=
  if v2 = (4 : Int32) then if inB (3 : Int32) 3268 = true then fX11_make_b45 N v0 v1 v2 v3 v4 v5 (minI (3 : Int32) (rI (wI M s1 5 (bI s0)) (v0 + 1) (3 : Int32).toNatClampNeg)) (wI M s1 5 (bI s0)) else none else if inB (3 : Int32) 3268 = true then fX11_make_b45 N v0 v1 v2 v3 v4 v5 (rI (wI M s1 5 (bI s0)) (v0 + 1) (3 : Int32).toNatClampNeg) (wI M s1 5 (bI s0)) else none
def fX11_make (N : Nat) (v0 : Nat) (v1 : Int32) (v2 : Int32) (v3 : Int32) (v4 : Int32) (v5 : Int32) (M : Mem) : Option Mem :=
  (fX11_within v1.toInt64 (0 : Int64) (3 : Int64) M).bind fun qj1 => if qj1 = true then fX11_make_b18 N v0 v1 v2 v3 v4 v5 false v0 M else fX11_make_b18 N v0 v1 v2 v3 v4 v5 true v0 M
/-! X11_isIn -/
def fX11_isIn (v0 : Nat) (v1 : Int32) (v2 : Int32) (Mo : Mem) : Option Bool :=
  (fX11_get v0 v1 ((250 : Int32) + v2) Mo).bind fun qj1 => if qj1 = (1 : Int32) then some true else some false
/-! X11_many -/
def fX11_many_l4_s (N : Nat) (v0 : Nat) (v1 : Int32) (Mo : Mem) (k4 : Int32 → Int32 → Option Int32) (v2 : Int32) (v3 : Int32) : Option Int32 :=
  if inB (1 : Int32) 3268 = true then if (rI Mo (v0 + 1) (1 : Int32).toNatClampNeg) ≤ v3 then some v2 else (fX11_get v0 v1 ((250 : Int32) + v3) Mo).bind fun qj3 => k4 (v2 + qj3) (v3 + (1 : Int32)) else none
def fX11_many_l4 (N : Nat) (v0 : Nat) (v1 : Int32) (Mo : Mem) : Nat → Int32 → Int32 → Option Int32
  | 0, _, _ => none
  | n + 1, v2, v3 => fX11_many_l4_s N v0 v1 Mo (fX11_many_l4 N v0 v1 Mo n) v2 v3
def fX11_many (N : Nat) (v0 : Nat) (v1 : Int32) (Mo : Mem) : Option Int32 :=
  fX11_many_l4 N v0 v1 Mo N (0 : Int32) (0 : Int32)
/-! X11_of -/
def fX11_of (N : Nat) (v0 : Nat) (v1 : Int32) (v2 : Int32) (M : Mem) : Option (Int32 × Mem) :=
  (fX11_isRow v0 v1 (wI M v0 5 (0 : Int32))).bind fun qj1 => if qj1 = true then (fX11_within v2.toInt64 (0 : Int64) (6 : Int64) (wI M v0 5 (0 : Int32))).bind fun qj2 => if qj2 = true then if (4 : Int32) ≤ v2 then if v2 = (4 : Int32) then (fX11_many N v0 v1 (wI M v0 5 (0 : Int32))).bind fun qj3 => some (qj3, wI M v0 5 (0 : Int32)) else (fX11_get v0 v1 (v2 - (1 : Int32)) (wI M v0 5 (0 : Int32))).bind fun qj4 => some (qj4, wI M v0 5 (0 : Int32)) else (fX11_get v0 v1 v2 (wI M v0 5 (0 : Int32))).bind fun qj5 => some (qj5, wI M v0 5 (0 : Int32)) else (fX11_fails v0 (2 : Int32) (wI M v0 5 (0 : Int32))).bind fun qj6 => some (qj6.1, qj6.2) else (fX11_fails v0 (1 : Int32) (wI M v0 5 (0 : Int32))).bind fun qj7 => some (qj7.1, qj7.2)
/-! X11_layerAt -/
def fX11_layerAt (v0 : Nat) (v1 : Int32) (v2 : Int32) (Mo : Mem) : Option Int32 :=
  (fX11_get v0 v1 (1 : Int32) Mo).bind fun qj1 => some ((10 : Int32) + (qj1 * ((shlI (1 : Int32) v2) - (1 : Int32))))
/-! X11_slotAt -/
def fX11_slotAt (v0 : Nat) (v1 : Int32) (v2 : Int32) (v3 : Int32) (Mo : Mem) : Option Int32 :=
  (fX11_get v0 v1 (3 : Int32) Mo).bind fun qj1 => some (((10 : Int32) + (qj1 * v2)) + v3)
/-! X11_guestIn -/
def fX11_guestIn (v0 : Nat) (v1 : Int32) (v2 : Int32) (v3 : Int32) (Mo : Mem) : Option Int32 :=
  (fX11_slotAt v0 v1 v2 v3 Mo).bind fun qj1 => (fX11_get v0 v1 qj1 Mo).bind fun qj2 => some (qj2 - (1 : Int32))
/-! X11_cell -/
def fX11_cell_b128 (N : Nat) (k98 : Int32 → Int32 → Option (Int32 × Mem)) (v0 : Nat) (v1 : Int32) (v2 : Int32) (v5 : Int32) (s0 : Bool) (s1 : Int32) (M : Mem) : Option (Int32 × Mem) :=
  k98 (s1 + (bI s0)) (v5 + (1 : Int32))
def fX11_cell_l98_s (N : Nat) (v0 : Nat) (v1 : Int32) (v2 : Int32) (M : Mem) (k98 : Int32 → Int32 → Option (Int32 × Mem)) (v4 : Int32) (v5 : Int32) : Option (Int32 × Mem) :=
  (fX11_get v0 v1 (3 : Int32) M).bind fun qj1 => if qj1 ≤ v5 then some (v4, M) else (fX11_guestIn v0 v1 v2 v5 M).bind fun qj2 => if qj2 = (-1 : Int32) then fX11_cell_b128 N k98 v0 v1 v2 v5 false v4 M else fX11_cell_b128 N k98 v0 v1 v2 v5 true v4 M
def fX11_cell_l98 (N : Nat) (v0 : Nat) (v1 : Int32) (v2 : Int32) (M : Mem) : Nat → Int32 → Int32 → Option (Int32 × Mem)
  | 0, _, _ => none
  | n + 1, v4, v5 => fX11_cell_l98_s N v0 v1 v2 M (fX11_cell_l98 N v0 v1 v2 M n) v4 v5
def fX11_cell_b52 (N : Nat) (v0 : Nat) (v1 : Int32) (v2 : Int32) (s0 : Int32) (M : Mem) : Option (Int32 × Mem) :=
  (fX11_within v2.toInt64 (0 : Int64) ((s0 - (1 : Int32)).toInt64) M).bind fun qj1 => if qj1 = true then (fX11_get v0 v1 (0 : Int32) M).bind fun qj2 => if qj2 = (2 : Int32) then fX11_cell_l98 N v0 v1 v2 M N (0 : Int32) (0 : Int32) else (fX11_get v0 v1 ((10 : Int32) + v2) M).bind fun qj3 => some (qj3, M) else (fX11_fails v0 (2 : Int32) M).bind fun qj4 => some (qj4.1, qj4.2)
def fX11_cell (N : Nat) (v0 : Nat) (v1 : Int32) (v2 : Int32) (M : Mem) : Option (Int32 × Mem) :=
  (fX11_isRow v0 v1 (wI M v0 5 (0 : Int32))).bind fun qj1 => if qj1 = true then (fX11_get v0 v1 (0 : Int32) (wI M v0 5 (0 : Int32))).bind fun qj2 => if qj2 = (3 : Int32) then (fX11_get v0 v1 (4 : Int32) (wI M v0 5 (0 : Int32))).bind fun qj3 => (fX11_layerAt v0 v1 qj3 (wI M v0 5 (0 : Int32))).bind fun qj4 => fX11_cell_b52 N v0 v1 v2 (qj4 - (10 : Int32)) (wI M v0 5 (0 : Int32)) else (fX11_get v0 v1 (1 : Int32) (wI M v0 5 (0 : Int32))).bind fun qj5 => fX11_cell_b52 N v0 v1 v2 qj5 (wI M v0 5 (0 : Int32)) else (fX11_fails v0 (1 : Int32) (wI M v0 5 (0 : Int32))).bind fun qj6 => some (qj6.1, qj6.2)
/-! X11_guest -/
def fX11_guest_b71  (v0 : Nat) (M : Mem) : Option (Int32 × Mem) :=
  (fX11_fails v0 (3 : Int32) M).bind fun qj1 => some (qj1.1, qj1.2)
def fX11_guest (v0 : Nat) (v1 : Int32) (v2 : Int32) (v3 : Int32) (M : Mem) : Option (Int32 × Mem) :=
  (fX11_isRow v0 v1 (wI M v0 5 (0 : Int32))).bind fun qj1 => if qj1 = true then (fX11_get v0 v1 (0 : Int32) (wI M v0 5 (0 : Int32))).bind fun qj2 => if qj2 = (2 : Int32) then (fX11_get v0 v1 (1 : Int32) (wI M v0 5 (0 : Int32))).bind fun qj3 => (fX11_within v2.toInt64 (0 : Int64) ((qj3 - (1 : Int32)).toInt64) (wI M v0 5 (0 : Int32))).bind fun qj4 => if qj4 = true then (fX11_get v0 v1 (3 : Int32) (wI M v0 5 (0 : Int32))).bind fun qj5 => (fX11_within v3.toInt64 (0 : Int64) ((qj5 - (1 : Int32)).toInt64) (wI M v0 5 (0 : Int32))).bind fun qj6 => if qj6 = true then (fX11_guestIn v0 v1 v2 v3 (wI M v0 5 (0 : Int32))).bind fun qj7 => some (qj7, wI M v0 5 (0 : Int32)) else fX11_guest_b71 v0 (wI M v0 5 (0 : Int32)) else fX11_guest_b71 v0 (wI M v0 5 (0 : Int32)) else (fX11_fails v0 (2 : Int32) (wI M v0 5 (0 : Int32))).bind fun qj8 => some (qj8.1, qj8.2) else (fX11_fails v0 (1 : Int32) (wI M v0 5 (0 : Int32))).bind fun qj9 => some (qj9.1, qj9.2)
/-! X11_spot -/
def fX11_spot (N : Nat) (v0 : Nat) (v1 : Int32) (v2 : Int32) (v3 : Int32) (M : Mem) : Option (Int32 × Mem) :=
  (fX11_get v0 v1 (1 : Int32) M).bind fun qj1 => (fX11_placeOf N v0 v2 v3 qj1 M).bind fun qj2 => some (qj2.1, qj2.2)
/-! X11_isTagged -/
def fX11_isTagged_b44 (N : Nat) (k3 : Int32 → Mem → Option (Bool × Mem)) (v0 : Nat) (v1 : Int32) (v2 : Int32) (v3 : Int32) (v4 : Int32) (M : Mem) : Option (Bool × Mem) :=
  k3 (v4 + (1 : Int32)) M
def fX11_isTagged_l3_s (N : Nat) (v0 : Nat) (v1 : Int32) (v2 : Int32) (v3 : Int32) (k3 : Int32 → Mem → Option (Bool × Mem)) (v4 : Int32) (M : Mem) : Option (Bool × Mem) :=
  (fX11_get v0 v1 (3 : Int32) M).bind fun qj1 => if qj1 ≤ v4 then some (false, M) else (fX11_guestIn v0 v1 v2 v4 M).bind fun qj2 => if qj2 = (-1 : Int32) then fX11_isTagged_b44 N k3 v0 v1 v2 v3 v4 M else (fX11_guestIn v0 v1 v2 v4 M).bind fun qj3 => (fX11_tagOf N v0 qj3 M).bind fun qj4 => if qj4.1 = v3 then some (true, qj4.2) else fX11_isTagged_b44 N k3 v0 v1 v2 v3 v4 qj4.2
def fX11_isTagged_l3 (N : Nat) (v0 : Nat) (v1 : Int32) (v2 : Int32) (v3 : Int32) : Nat → Int32 → Mem → Option (Bool × Mem)
  | 0, _, _ => none
  | n + 1, v4, M => fX11_isTagged_l3_s N v0 v1 v2 v3 (fX11_isTagged_l3 N v0 v1 v2 v3 n) v4 M
def fX11_isTagged (N : Nat) (v0 : Nat) (v1 : Int32) (v2 : Int32) (v3 : Int32) (M : Mem) : Option (Bool × Mem) :=
  fX11_isTagged_l3 N v0 v1 v2 v3 N (0 : Int32) M
/-! X11_freeSlot -/
def fX11_freeSlot_l2_s (N : Nat) (v0 : Nat) (v1 : Int32) (v2 : Int32) (Mo : Mem) (k2 : Int32 → Option Int32) (v3 : Int32) : Option Int32 :=
  (fX11_get v0 v1 (3 : Int32) Mo).bind fun qj1 => if qj1 ≤ v3 then some (-1 : Int32) else (fX11_guestIn v0 v1 v2 v3 Mo).bind fun qj2 => if qj2 = (-1 : Int32) then some v3 else k2 (v3 + (1 : Int32))
def fX11_freeSlot_l2 (N : Nat) (v0 : Nat) (v1 : Int32) (v2 : Int32) (Mo : Mem) : Nat → Int32 → Option Int32
  | 0, _ => none
  | n + 1, v3 => fX11_freeSlot_l2_s N v0 v1 v2 Mo (fX11_freeSlot_l2 N v0 v1 v2 Mo n) v3
def fX11_freeSlot (N : Nat) (v0 : Nat) (v1 : Int32) (v2 : Int32) (Mo : Mem) : Option Int32 :=
  fX11_freeSlot_l2 N v0 v1 v2 Mo N (0 : Int32)
/-! X11_otherNest -/
def fX11_otherNest (N : Nat) (v0 : Nat) (v1 : Int32) (v2 : Int32) (v3 : Int32) (M : Mem) : Option (Int32 × Mem) :=
  (fX11_spot N v0 v1 (0 : Int32) v3 M).bind fun qj1 => (fX11_spot N v0 v1 (1 : Int32) v3 qj1.2).bind fun qj2 => if qj1.1 = qj2.1 then some ((-1 : Int32), qj2.2) else if qj1.1 = v2 then some (qj2.1, qj2.2) else some (qj1.1, qj2.2)
/-! X11_pushes -/
def fX11_pushes_l14_s (N : Nat) (v0 : Nat) (v1 : Int32) (v2 : Int32) (k14 : Int32 → Int32 → Int32 → Mem → Option Mem) (v4 : Int32) (v5 : Int32) (v6 : Int32) (M : Mem) : Option Mem :=
  if inB v5 16 = true then if (rI M (v0 + 9) v5.toNatClampNeg) = (-1 : Int32) then (fX11_slotAt v0 v1 v5 v6 M).bind fun qj3 => (fX11_set v0 v1 qj3 (v2 + (1 : Int32)) M).bind fun qj4 => (fX11_set v0 v1 (5 : Int32) v4 qj4).bind fun qj5 => some qj5 else if inB v5 16 = true then (fX11_slotAt v0 v1 v5 v6 M).bind fun qj8 => (fX11_guestIn v0 v1 ((rI M (v0 + 9) v5.toNatClampNeg) / (4 : Int32)) (remI (rI M (v0 + 9) v5.toNatClampNeg) (4 : Int32)) M).bind fun qj9 => (fX11_set v0 v1 qj8 (qj9 + (1 : Int32)) M).bind fun qj10 => k14 (v4 + (1 : Int32)) ((rI M (v0 + 9) v5.toNatClampNeg) / (4 : Int32)) (remI (rI M (v0 + 9) v5.toNatClampNeg) (4 : Int32)) qj10 else none else none
def fX11_pushes_l14 (N : Nat) (v0 : Nat) (v1 : Int32) (v2 : Int32) : Nat → Int32 → Int32 → Int32 → Mem → Option Mem
  | 0, _, _, _, _ => none
  | n + 1, v4, v5, v6, M => fX11_pushes_l14_s N v0 v1 v2 (fX11_pushes_l14 N v0 v1 v2 n) v4 v5 v6 M
def fX11_pushes (N : Nat) (v0 : Nat) (v1 : Int32) (v2 : Int32) (v3 : Int32) (M : Mem) : Option Mem :=
  (fX11_freeSlot N v0 v1 v3 M).bind fun qj1 => fX11_pushes_l14 N v0 v1 v2 N (0 : Int32) v3 qj1 M
/-! X11_nestPuts -/
def fX11_nestPuts_b314 (N : Nat) (k186 : Int32 → Int32 → Mem → Option (Bool × Mem)) (k196 : Int32 → Int32 → Mem → Option (Bool × Mem)) (v0 : Nat) (v1 : Int32) (v2 : Int32) (v6 : Int32) (v7 : Int32) (v8 : Int32) (M : Mem) : Option (Bool × Mem) :=
  k196 v6 (v8 + (1 : Int32)) M
def fX11_nestPuts_l196_s (N : Nat) (k186 : Int32 → Int32 → Mem → Option (Bool × Mem)) (v0 : Nat) (v1 : Int32) (v2 : Int32) (v7 : Int32) (k196 : Int32 → Int32 → Mem → Option (Bool × Mem)) (v6 : Int32) (v8 : Int32) (M : Mem) : Option (Bool × Mem) :=
  (fX11_get v0 v1 (3 : Int32) M).bind fun qj1 => if qj1 ≤ v8 then k186 v6 (v7 + (1 : Int32)) M else if inB v7 16 = true then if inB v7 16 = true then (fX11_guestIn v0 v1 (rI M (v0 + 8) v7.toNatClampNeg) v8 M).bind fun qj6 => (fX11_otherNest N v0 v1 (rI M (v0 + 8) v7.toNatClampNeg) qj6 M).bind fun qj7 => if qj7.1 = (-1 : Int32) then fX11_nestPuts_b314 N k186 k196 v0 v1 v2 v6 v7 v8 qj7.2 else if inB qj7.1 16 = true then if (rI qj7.2 (v0 + 10) qj7.1.toNatClampNeg) = 0 then if inB qj7.1 16 = true then if inB v7 16 = true then if inB qj7.1 16 = true then (fX11_freeSlot N v0 v1 qj7.1 (wI (wI qj7.2 (v0 + 10) qj7.1.toNatClampNeg (vp_nar .boolean (1 : Int32))) (v0 + 9) qj7.1.toNatClampNeg (((4 : Int32) * (rI (wI qj7.2 (v0 + 10) qj7.1.toNatClampNeg (vp_nar .boolean (1 : Int32))) (v0 + 8) v7.toNatClampNeg)) + v8))).bind fun qj14 => if qj14 = (-1 : Int32) then if inB v6 16 = true then fX11_nestPuts_b314 N k186 k196 v0 v1 v2 (v6 + (1 : Int32)) v7 v8 (wI (wI (wI qj7.2 (v0 + 10) qj7.1.toNatClampNeg (vp_nar .boolean (1 : Int32))) (v0 + 9) qj7.1.toNatClampNeg (((4 : Int32) * (rI (wI qj7.2 (v0 + 10) qj7.1.toNatClampNeg (vp_nar .boolean (1 : Int32))) (v0 + 8) v7.toNatClampNeg)) + v8)) (v0 + 8) v6.toNatClampNeg qj7.1) else none else (fX11_pushes N v0 v1 v2 qj7.1 (wI (wI qj7.2 (v0 + 10) qj7.1.toNatClampNeg (vp_nar .boolean (1 : Int32))) (v0 + 9) qj7.1.toNatClampNeg (((4 : Int32) * (rI (wI qj7.2 (v0 + 10) qj7.1.toNatClampNeg (vp_nar .boolean (1 : Int32))) (v0 + 8) v7.toNatClampNeg)) + v8))).bind fun qj16 => some (true, qj16) else none else none else none else fX11_nestPuts_b314 N k186 k196 v0 v1 v2 v6 v7 v8 qj7.2 else none else none else none
def fX11_nestPuts_l196 (N : Nat) (k186 : Int32 → Int32 → Mem → Option (Bool × Mem)) (v0 : Nat) (v1 : Int32) (v2 : Int32) (v7 : Int32) : Nat → Int32 → Int32 → Mem → Option (Bool × Mem)
  | 0, _, _, _ => none
  | n + 1, v6, v8, M => fX11_nestPuts_l196_s N k186 v0 v1 v2 v7 (fX11_nestPuts_l196 N k186 v0 v1 v2 v7 n) v6 v8 M
def fX11_nestPuts_l186_s (N : Nat) (v0 : Nat) (v1 : Int32) (v2 : Int32) (k186 : Int32 → Int32 → Mem → Option (Bool × Mem)) (v6 : Int32) (v7 : Int32) (M : Mem) : Option (Bool × Mem) :=
  if v6 ≤ v7 then some (false, M) else fX11_nestPuts_l196 N k186 v0 v1 v2 v7 N v6 (0 : Int32) M
def fX11_nestPuts_l186 (N : Nat) (v0 : Nat) (v1 : Int32) (v2 : Int32) : Nat → Int32 → Int32 → Mem → Option (Bool × Mem)
  | 0, _, _, _ => none
  | n + 1, v6, v7, M => fX11_nestPuts_l186_s N v0 v1 v2 (fX11_nestPuts_l186 N v0 v1 v2 n) v6 v7 M
def fX11_nestPuts_b177 (N : Nat) (k117 : Int32 → Int32 → Mem → Option (Bool × Mem)) (v0 : Nat) (v1 : Int32) (v2 : Int32) (v3 : Int32) (v4 : Int32) (v6 : Int32) (v7 : Int32) (M : Mem) : Option (Bool × Mem) :=
  k117 v6 (v7 + (1 : Int32)) M
def fX11_nestPuts_b134 (N : Nat) (k117 : Int32 → Int32 → Mem → Option (Bool × Mem)) (v0 : Nat) (v1 : Int32) (v2 : Int32) (v3 : Int32) (v4 : Int32) (v6 : Int32) (v7 : Int32) (s0 : Int32) (M : Mem) : Option (Bool × Mem) :=
  if inB s0 16 = true then if (rI M (v0 + 10) s0.toNatClampNeg) = 0 then if inB s0 16 = true then if inB s0 16 = true then if inB v6 16 = true then fX11_nestPuts_b177 N k117 v0 v1 v2 v3 v4 (v6 + (1 : Int32)) v7 (wI (wI (wI M (v0 + 10) s0.toNatClampNeg (vp_nar .boolean (1 : Int32))) (v0 + 9) s0.toNatClampNeg (-1 : Int32)) (v0 + 8) v6.toNatClampNeg s0) else none else none else none else fX11_nestPuts_b177 N k117 v0 v1 v2 v3 v4 v6 v7 M else none
def fX11_nestPuts_l117_s (N : Nat) (v0 : Nat) (v1 : Int32) (v2 : Int32) (v3 : Int32) (v4 : Int32) (k117 : Int32 → Int32 → Mem → Option (Bool × Mem)) (v6 : Int32) (v7 : Int32) (M : Mem) : Option (Bool × Mem) :=
  if (2 : Int32) ≤ v7 then fX11_nestPuts_l186 N v0 v1 v2 N v6 (0 : Int32) M else if v7 = 0 then fX11_nestPuts_b134 N k117 v0 v1 v2 v3 v4 v6 v7 v3 M else fX11_nestPuts_b134 N k117 v0 v1 v2 v3 v4 v6 v7 v4 M
def fX11_nestPuts_l117 (N : Nat) (v0 : Nat) (v1 : Int32) (v2 : Int32) (v3 : Int32) (v4 : Int32) : Nat → Int32 → Int32 → Mem → Option (Bool × Mem)
  | 0, _, _, _ => none
  | n + 1, v6, v7, M => fX11_nestPuts_l117_s N v0 v1 v2 v3 v4 (fX11_nestPuts_l117 N v0 v1 v2 v3 v4 n) v6 v7 M
def fX11_nestPuts_l90_s (N : Nat) (v0 : Nat) (v1 : Int32) (v2 : Int32) (v3 : Int32) (v4 : Int32) (k90 : Int32 → Mem → Option (Bool × Mem)) (v6 : Int32) (M : Mem) : Option (Bool × Mem) :=
  if (16 : Int32) ≤ v6 then fX11_nestPuts_l117 N v0 v1 v2 v3 v4 N (0 : Int32) (0 : Int32) M else if inB v6 16 = true then k90 (v6 + (1 : Int32)) (wI M (v0 + 10) v6.toNatClampNeg (vp_nar .boolean (0 : Int32))) else none
def fX11_nestPuts_l90 (N : Nat) (v0 : Nat) (v1 : Int32) (v2 : Int32) (v3 : Int32) (v4 : Int32) : Nat → Int32 → Mem → Option (Bool × Mem)
  | 0, _, _ => none
  | n + 1, v6, M => fX11_nestPuts_l90_s N v0 v1 v2 v3 v4 (fX11_nestPuts_l90 N v0 v1 v2 v3 v4 n) v6 M
def fX11_nestPuts_b48 (N : Nat) (v0 : Nat) (v1 : Int32) (v2 : Int32) (v3 : Int32) (v4 : Int32) (s0 : Int32) (M : Mem) : Option (Bool × Mem) :=
  if s0 = (-1 : Int32) then fX11_nestPuts_l90 N v0 v1 v2 v3 v4 N (0 : Int32) M else (fX11_freeSlot N v0 v1 s0 M).bind fun qj1 => (fX11_slotAt v0 v1 s0 qj1 M).bind fun qj2 => (fX11_set v0 v1 qj2 (v2 + (1 : Int32)) M).bind fun qj3 => (fX11_set v0 v1 (5 : Int32) (0 : Int32) qj3).bind fun qj4 => some (true, qj4)
def fX11_nestPuts (N : Nat) (v0 : Nat) (v1 : Int32) (v2 : Int32) (M : Mem) : Option (Bool × Mem) :=
  (fX11_spot N v0 v1 (0 : Int32) v2 M).bind fun qj1 => (fX11_spot N v0 v1 (1 : Int32) v2 qj1.2).bind fun qj2 => (fX11_freeSlot N v0 v1 qj1.1 qj2.2).bind fun qj3 => if qj3 = (-1 : Int32) then (fX11_freeSlot N v0 v1 qj2.1 qj2.2).bind fun qj4 => if qj4 = (-1 : Int32) then fX11_nestPuts_b48 N v0 v1 v2 qj1.1 qj2.1 (-1 : Int32) qj2.2 else fX11_nestPuts_b48 N v0 v1 v2 qj1.1 qj2.1 qj2.1 qj2.2 else fX11_nestPuts_b48 N v0 v1 v2 qj1.1 qj2.1 qj1.1 qj2.2
/-! X11_areSet -/
def fX11_areSet_l3_s (N : Nat) (v0 : Nat) (v1 : Int32) (v2 : Int32) (v3 : Int32) (v4 : Int32) (k3 : Int32 → Mem → Option (Bool × Mem)) (v5 : Int32) (M : Mem) : Option (Bool × Mem) :=
  (fX11_get v0 v1 (2 : Int32) M).bind fun qj1 => if qj1 ≤ v5 then some (true, M) else (fX11_placeOf N v0 v5 v4 v3 M).bind fun qj2 => (fX11_get v0 v1 (v2 + qj2.1) qj2.2).bind fun qj3 => if qj3 = 0 then some (false, qj2.2) else k3 (v5 + (1 : Int32)) qj2.2
def fX11_areSet_l3 (N : Nat) (v0 : Nat) (v1 : Int32) (v2 : Int32) (v3 : Int32) (v4 : Int32) : Nat → Int32 → Mem → Option (Bool × Mem)
  | 0, _, _ => none
  | n + 1, v5, M => fX11_areSet_l3_s N v0 v1 v2 v3 v4 (fX11_areSet_l3 N v0 v1 v2 v3 v4 n) v5 M
def fX11_areSet (N : Nat) (v0 : Nat) (v1 : Int32) (v2 : Int32) (v3 : Int32) (v4 : Int32) (M : Mem) : Option (Bool × Mem) :=
  fX11_areSet_l3 N v0 v1 v2 v3 v4 N (0 : Int32) M
/-! X11_says -/
def fX11_says_b52 (N : Nat) (M : Mem) : Option (Bool × Mem) :=
  some (true, M)
def fX11_says_l69_s (N : Nat) (v0 : Nat) (v1 : Int32) (v2 : Int32) (k69 : Int32 → Int32 → Mem → Option (Bool × Mem)) (v4 : Int32) (v5 : Int32) (M : Mem) : Option (Bool × Mem) :=
  (fX11_get v0 v1 (2 : Int32) M).bind fun qj1 => if qj1 ≤ v5 then (fX11_tagOf N v0 v2 M).bind fun qj2 => if v4 = qj2.1 then some (true, qj2.2) else some (false, qj2.2) else (fX11_spot N v0 v1 v5 v2 M).bind fun qj3 => (fX11_get v0 v1 ((10 : Int32) + qj3.1) qj3.2).bind fun qj4 => k69 (v4 ^^^ qj4) (v5 + (1 : Int32)) qj3.2
def fX11_says_l69 (N : Nat) (v0 : Nat) (v1 : Int32) (v2 : Int32) : Nat → Int32 → Int32 → Mem → Option (Bool × Mem)
  | 0, _, _, _ => none
  | n + 1, v4, v5, M => fX11_says_l69_s N v0 v1 v2 (fX11_says_l69 N v0 v1 v2 n) v4 v5 M
def fX11_says_l126_s (N : Nat) (v0 : Nat) (v1 : Int32) (v2 : Int32) (k126 : Int32 → Mem → Option (Bool × Mem)) (v4 : Int32) (M : Mem) : Option (Bool × Mem) :=
  (fX11_get v0 v1 (4 : Int32) M).bind fun qj1 => if qj1 ≤ v4 then some (false, M) else (fX11_layerAt v0 v1 v4 M).bind fun qj2 => (fX11_get v0 v1 (1 : Int32) M).bind fun qj3 => (fX11_areSet N v0 v1 qj2 (shlI qj3 v4) v2 M).bind fun qj4 => if qj4.1 = true then some (true, qj4.2) else k126 (v4 + (1 : Int32)) qj4.2
def fX11_says_l126 (N : Nat) (v0 : Nat) (v1 : Int32) (v2 : Int32) : Nat → Int32 → Mem → Option (Bool × Mem)
  | 0, _, _ => none
  | n + 1, v4, M => fX11_says_l126_s N v0 v1 v2 (fX11_says_l126 N v0 v1 v2 n) v4 M
def fX11_says (N : Nat) (v0 : Nat) (v1 : Int32) (v2 : Int32) (M : Mem) : Option (Bool × Mem) :=
  (fX11_get v0 v1 (0 : Int32) M).bind fun qj1 => if qj1 = (2 : Int32) then (fX11_spot N v0 v1 (0 : Int32) v2 M).bind fun qj2 => (fX11_tagOf N v0 v2 qj2.2).bind fun qj3 => (fX11_isTagged N v0 v1 qj2.1 qj3.1 qj3.2).bind fun qj4 => if qj4.1 = true then fX11_says_b52 N qj4.2 else (fX11_spot N v0 v1 (1 : Int32) v2 qj4.2).bind fun qj5 => (fX11_tagOf N v0 v2 qj5.2).bind fun qj6 => (fX11_isTagged N v0 v1 qj5.1 qj6.1 qj6.2).bind fun qj7 => if qj7.1 = true then fX11_says_b52 N qj7.2 else some (false, qj7.2) else if qj1 = (4 : Int32) then fX11_says_l69 N v0 v1 v2 N (0 : Int32) (0 : Int32) M else fX11_says_l126 N v0 v1 v2 N (0 : Int32) M
/-! X11_nameFault -/
def fX11_nameFault (v0 : Nat) (v1 : Int32) (v2 : Int32) (Mo : Mem) : Option Int32 :=
  (fX11_isRow v0 v1 Mo).bind fun qj1 => if qj1 = true then (fX11_isName v0 v2.toInt64 Mo).bind fun qj2 => if qj2 = true then some (0 : Int32) else some (2 : Int32) else some (1 : Int32)
/-! X11_yes -/
def fX11_yes_b30 (N : Nat) (M : Mem) : Option (Bool × Mem) :=
  some (false, M)
def fX11_yes (N : Nat) (v0 : Nat) (v1 : Int32) (v2 : Int32) (M : Mem) : Option (Bool × Mem) :=
  (fX11_nameFault v0 v1 v2 M).bind fun qj1 => if (rI (wI M v0 5 qj1) v0 5) = 0 then (fX11_says N v0 v1 v2 (wI M v0 5 qj1)).bind fun qj2 => if qj2.1 = true then some (true, qj2.2) else fX11_yes_b30 N qj2.2 else fX11_yes_b30 N (wI M v0 5 qj1)
/-! X11_isPut -/
def fX11_isPut_b30  (M : Mem) : Option (Bool × Mem) :=
  some (false, M)
def fX11_isPut (v0 : Nat) (v1 : Int32) (v2 : Int32) (M : Mem) : Option (Bool × Mem) :=
  (fX11_nameFault v0 v1 v2 M).bind fun qj1 => if (rI (wI M v0 5 qj1) v0 5) = 0 then (fX11_isIn v0 v1 v2 (wI M v0 5 qj1)).bind fun qj2 => if qj2 = true then some (true, wI M v0 5 qj1) else fX11_isPut_b30 (wI M v0 5 qj1) else fX11_isPut_b30 (wI M v0 5 qj1)
/-! X11_puts -/
def fX11_puts_b181 (N : Nat) (v0 : Nat) (v1 : Int32) (v2 : Int32) (M : Mem) : Option (Bool × Mem) :=
  (fX11_set v0 v1 ((250 : Int32) + v2) (1 : Int32) M).bind fun qj1 => some (true, qj1)
def fX11_puts_b172 (N : Nat) (k108 : Int32 → Mem → Option (Bool × Mem)) (v0 : Nat) (v1 : Int32) (v2 : Int32) (v3 : Int32) (v4 : Int32) (v5 : Int32) (s0 : Int32) (s1 : Int32) (s2 : Int32) (s3 : Nat) (M : Mem) : Option (Bool × Mem) :=
  (fX11_set s3 s2 s1 s0 M).bind fun qj1 => k108 (v5 + (1 : Int32)) qj1
def fX11_puts_l108_s (N : Nat) (v0 : Nat) (v1 : Int32) (v2 : Int32) (v3 : Int32) (v4 : Int32) (k108 : Int32 → Mem → Option (Bool × Mem)) (v5 : Int32) (M : Mem) : Option (Bool × Mem) :=
  (fX11_get v0 v1 (2 : Int32) M).bind fun qj1 => if qj1 ≤ v5 then fX11_puts_b181 N v0 v1 v2 M else (fX11_layerAt v0 v1 v4 M).bind fun qj2 => (fX11_get v0 v1 (1 : Int32) M).bind fun qj3 => (fX11_placeOf N v0 v5 v2 (shlI qj3 v4) M).bind fun qj4 => if v3 = (1 : Int32) then (fX11_get v0 v1 (qj2 + qj4.1) qj4.2).bind fun qj5 => fX11_puts_b172 N k108 v0 v1 v2 v3 v4 v5 (minI (15 : Int32) (qj5 + (1 : Int32))) (qj2 + qj4.1) v1 v0 qj4.2 else fX11_puts_b172 N k108 v0 v1 v2 v3 v4 v5 (1 : Int32) (qj2 + qj4.1) v1 v0 qj4.2
def fX11_puts_l108 (N : Nat) (v0 : Nat) (v1 : Int32) (v2 : Int32) (v3 : Int32) (v4 : Int32) : Nat → Int32 → Mem → Option (Bool × Mem)
  | 0, _, _ => none
  | n + 1, v5, M => fX11_puts_l108_s N v0 v1 v2 v3 v4 (fX11_puts_l108 N v0 v1 v2 v3 v4 n) v5 M
def fX11_puts_b105 (N : Nat) (v0 : Nat) (v1 : Int32) (v2 : Int32) (v3 : Int32) (v4 : Int32) (M : Mem) : Option (Bool × Mem) :=
  fX11_puts_l108 N v0 v1 v2 v3 v4 N (0 : Int32) M
def fX11_puts_b78 (N : Nat) (v0 : Nat) (v1 : Int32) (v2 : Int32) (v3 : Int32) (v4 : Int32) (M : Mem) : Option (Bool × Mem) :=
  if v3 = (3 : Int32) then (fX11_get v0 v1 ((6 : Int32) + v4) M).bind fun qj1 => (fX11_set v0 v1 ((6 : Int32) + v4) (qj1 + (1 : Int32)) M).bind fun qj2 => fX11_puts_b105 N v0 v1 v2 v3 v4 qj2 else fX11_puts_b105 N v0 v1 v2 v3 v4 M
def fX11_puts (N : Nat) (v0 : Nat) (v1 : Int32) (v2 : Int32) (M : Mem) : Option (Bool × Mem) :=
  (fX11_get v0 v1 (0 : Int32) M).bind fun qj1 => if qj1 = (2 : Int32) then (fX11_nestPuts N v0 v1 v2 M).bind fun qj2 => if qj2.1 = true then fX11_puts_b181 N v0 v1 v2 qj2.2 else some (false, qj2.2) else (fX11_get v0 v1 (4 : Int32) M).bind fun qj3 => if qj1 = (3 : Int32) then (fX11_get v0 v1 ((6 : Int32) + (qj3 - (1 : Int32))) M).bind fun qj4 => (fX11_get v0 v1 (3 : Int32) M).bind fun qj5 => if qj4 = qj5 then if (qj3 - (1 : Int32)) = (3 : Int32) then some (false, M) else (fX11_set v0 v1 (4 : Int32) (((qj3 - (1 : Int32)) + (1 : Int32)) + (1 : Int32)) M).bind fun qj6 => fX11_puts_b78 N v0 v1 v2 qj1 ((qj3 - (1 : Int32)) + (1 : Int32)) qj6 else fX11_puts_b78 N v0 v1 v2 qj1 (qj3 - (1 : Int32)) M else fX11_puts_b78 N v0 v1 v2 qj1 (qj3 - (1 : Int32)) M
/-! X11_putsOr -/
def fX11_putsOr (N : Nat) (v0 : Nat) (v1 : Int32) (v2 : Int32) (M : Mem) : Option (Int32 × Mem) :=
  (fX11_isIn v0 v1 v2 M).bind fun qj1 => if qj1 = true then some ((1 : Int32), M) else (fX11_puts N v0 v1 v2 M).bind fun qj2 => if qj2.1 = true then some ((0 : Int32), qj2.2) else some ((-1 : Int32), qj2.2)
/-! X11_put -/
def fX11_put_b41 (N : Nat) (v0 : Nat) (v1 : Int32) (v2 : Int32) (s0 : Int32) (s1 : Nat) (M : Mem) : Option (Int32 × Mem) :=
  if (rI (wI M s1 5 s0) v0 5) ≤ 0 then (fX11_putsOr N v0 v1 v2 (wI M s1 5 s0)).bind fun qj1 => some (qj1.1, qj1.2) else some ((0 : Int32), wI M s1 5 s0)
def fX11_put (N : Nat) (v0 : Nat) (v1 : Int32) (v2 : Int32) (M : Mem) : Option (Int32 × Mem) :=
  (fX11_isRow v0 v1 M).bind fun qj1 => if qj1 = true then (fX11_get v0 v1 (0 : Int32) M).bind fun qj2 => if qj2 = (4 : Int32) then fX11_put_b41 N v0 v1 v2 (2 : Int32) v0 M else (fX11_isName v0 v2.toInt64 M).bind fun qj3 => if qj3 = true then fX11_put_b41 N v0 v1 v2 (0 : Int32) v0 M else fX11_put_b41 N v0 v1 v2 (3 : Int32) v0 M else fX11_put_b41 N v0 v1 v2 (1 : Int32) v0 M
/-! X11_take -/
def fX11_take_b70 (N : Nat) (M : Mem) : Option (Bool × Mem) :=
  some (false, M)
def fX11_take_b151 (N : Nat) (k95 : Int32 → Mem → Option (Bool × Mem)) (v0 : Nat) (v1 : Int32) (v2 : Int32) (v3 : Int32) (M : Mem) : Option (Bool × Mem) :=
  k95 (v3 + (1 : Int32)) M
def fX11_take_l95_s (N : Nat) (v0 : Nat) (v1 : Int32) (v2 : Int32) (k95 : Int32 → Mem → Option (Bool × Mem)) (v3 : Int32) (M : Mem) : Option (Bool × Mem) :=
  (fX11_get v0 v1 (2 : Int32) M).bind fun qj1 => if qj1 ≤ v3 then some (true, M) else (fX11_spot N v0 v1 v3 v2 M).bind fun qj2 => (fX11_get v0 v1 ((10 : Int32) + qj2.1) qj2.2).bind fun qj3 => (fX11_within qj3.toInt64 (1 : Int64) (14 : Int64) qj2.2).bind fun qj4 => if qj4 = true then (fX11_get v0 v1 ((10 : Int32) + qj2.1) qj2.2).bind fun qj5 => (fX11_set v0 v1 ((10 : Int32) + qj2.1) (qj5 - (1 : Int32)) qj2.2).bind fun qj6 => fX11_take_b151 N k95 v0 v1 v2 v3 qj6 else fX11_take_b151 N k95 v0 v1 v2 v3 qj2.2
def fX11_take_l95 (N : Nat) (v0 : Nat) (v1 : Int32) (v2 : Int32) : Nat → Int32 → Mem → Option (Bool × Mem)
  | 0, _, _ => none
  | n + 1, v3, M => fX11_take_l95_s N v0 v1 v2 (fX11_take_l95 N v0 v1 v2 n) v3 M
def fX11_take_b197 (N : Nat) (k162 : Int32 → Mem → Option (Bool × Mem)) (v0 : Nat) (v1 : Int32) (v2 : Int32) (v3 : Int32) (M : Mem) : Option (Bool × Mem) :=
  k162 (v3 + (1 : Int32)) M
def fX11_take_l162_s (N : Nat) (v0 : Nat) (v1 : Int32) (v2 : Int32) (k162 : Int32 → Mem → Option (Bool × Mem)) (v3 : Int32) (M : Mem) : Option (Bool × Mem) :=
  (fX11_get v0 v1 (1 : Int32) M).bind fun qj1 => (fX11_slotAt v0 v1 qj1 (0 : Int32) M).bind fun qj2 => if qj2 ≤ v3 then some (true, M) else (fX11_get v0 v1 v3 M).bind fun qj3 => if qj3 = (v2 + (1 : Int32)) then (fX11_set v0 v1 v3 (0 : Int32) M).bind fun qj4 => fX11_take_b197 N k162 v0 v1 v2 v3 qj4 else fX11_take_b197 N k162 v0 v1 v2 v3 M
def fX11_take_l162 (N : Nat) (v0 : Nat) (v1 : Int32) (v2 : Int32) : Nat → Int32 → Mem → Option (Bool × Mem)
  | 0, _, _ => none
  | n + 1, v3, M => fX11_take_l162_s N v0 v1 v2 (fX11_take_l162 N v0 v1 v2 n) v3 M
def fX11_take_b51 (N : Nat) (v0 : Nat) (v1 : Int32) (v2 : Int32) (s0 : Int32) (s1 : Nat) (M : Mem) : Option (Bool × Mem) :=
  if 0 < (rI (wI M s1 5 s0) v0 5) then fX11_take_b70 N (wI M s1 5 s0) else (fX11_isIn v0 v1 v2 (wI M s1 5 s0)).bind fun qj1 => if qj1 = true then (fX11_set v0 v1 ((250 : Int32) + v2) (0 : Int32) (wI M s1 5 s0)).bind fun qj2 => (fX11_get v0 v1 (0 : Int32) qj2).bind fun qj3 => if qj3 = (1 : Int32) then fX11_take_l95 N v0 v1 v2 N (0 : Int32) qj2 else fX11_take_l162 N v0 v1 v2 N (10 : Int32) qj2 else fX11_take_b70 N (wI M s1 5 s0)
def fX11_take_b37 (N : Nat) (v0 : Nat) (v1 : Int32) (v2 : Int32) (s0 : Nat) (M : Mem) : Option (Bool × Mem) :=
  (fX11_isName v0 v2.toInt64 M).bind fun qj1 => if qj1 = true then fX11_take_b51 N v0 v1 v2 (0 : Int32) s0 M else fX11_take_b51 N v0 v1 v2 (3 : Int32) s0 M
def fX11_take (N : Nat) (v0 : Nat) (v1 : Int32) (v2 : Int32) (M : Mem) : Option (Bool × Mem) :=
  (fX11_isRow v0 v1 M).bind fun qj1 => if qj1 = true then (fX11_get v0 v1 (0 : Int32) M).bind fun qj2 => if qj2 = (1 : Int32) then fX11_take_b37 N v0 v1 v2 v0 M else (fX11_get v0 v1 (0 : Int32) M).bind fun qj3 => if qj3 = (2 : Int32) then fX11_take_b37 N v0 v1 v2 v0 M else fX11_take_b51 N v0 v1 v2 (2 : Int32) v0 M else fX11_take_b51 N v0 v1 v2 (1 : Int32) v0 M
/-! X11_isCounted -/
def fX11_isCounted_b9  (Mo : Mem) : Option Bool :=
  some true
def fX11_isCounted (v0 : Int32) (Mo : Mem) : Option Bool :=
  if v0 = 0 then fX11_isCounted_b9 Mo else if v0 = (1 : Int32) then fX11_isCounted_b9 Mo else some false
/-! X11_together -/
def fX11_together (v0 : Nat) (v1 : Int32) (v2 : Int32) (v3 : Int32) (Mo : Mem) : Option Int32 :=
  (fX11_get v0 v1 (0 : Int32) Mo).bind fun qj1 => if qj1 = 0 then some (v2 ||| v3) else some (minI (15 : Int32) (v2 + v3))
/-! X11_join -/
def fX11_join_b167 (N : Nat) (k137 : Int32 → Mem → Option (Int32 × Mem)) (v0 : Nat) (v1 : Int32) (v2 : Int32) (v3 : Int32) (M : Mem) : Option (Int32 × Mem) :=
  k137 (v3 + (1 : Int32)) M
def fX11_join_l137_s (N : Nat) (v0 : Nat) (v1 : Int32) (v2 : Int32) (k137 : Int32 → Mem → Option (Int32 × Mem)) (v3 : Int32) (M : Mem) : Option (Int32 × Mem) :=
  if inB (1 : Int32) 3268 = true then if (rI M (v0 + 1) (1 : Int32).toNatClampNeg) ≤ v3 then (fX11_many N v0 v1 M).bind fun qj3 => some (qj3, M) else (fX11_isIn v0 v2 v3 M).bind fun qj4 => if qj4 = true then (fX11_set v0 v1 ((250 : Int32) + v3) (1 : Int32) M).bind fun qj5 => fX11_join_b167 N k137 v0 v1 v2 v3 qj5 else fX11_join_b167 N k137 v0 v1 v2 v3 M else none
def fX11_join_l137 (N : Nat) (v0 : Nat) (v1 : Int32) (v2 : Int32) : Nat → Int32 → Mem → Option (Int32 × Mem)
  | 0, _, _ => none
  | n + 1, v3, M => fX11_join_l137_s N v0 v1 v2 (fX11_join_l137 N v0 v1 v2 n) v3 M
def fX11_join_l93_s (N : Nat) (v0 : Nat) (v1 : Int32) (v2 : Int32) (k93 : Int32 → Mem → Option (Int32 × Mem)) (v3 : Int32) (M : Mem) : Option (Int32 × Mem) :=
  (fX11_get v0 v1 (1 : Int32) M).bind fun qj1 => if ((10 : Int32) + qj1) ≤ v3 then fX11_join_l137 N v0 v1 v2 N (0 : Int32) M else (fX11_get v0 v1 v3 M).bind fun qj2 => (fX11_get v0 v2 v3 M).bind fun qj3 => (fX11_together v0 v1 qj2 qj3 M).bind fun qj4 => (fX11_set v0 v1 v3 qj4 M).bind fun qj5 => k93 (v3 + (1 : Int32)) qj5
def fX11_join_l93 (N : Nat) (v0 : Nat) (v1 : Int32) (v2 : Int32) : Nat → Int32 → Mem → Option (Int32 × Mem)
  | 0, _, _ => none
  | n + 1, v3, M => fX11_join_l93_s N v0 v1 v2 (fX11_join_l93 N v0 v1 v2 n) v3 M
def fX11_join_l29_s (N : Nat) (v0 : Nat) (v1 : Int32) (v2 : Int32) (M : Mem) (k29 : Int32 → Option (Int32 × Mem)) (v3 : Int32) : Option (Int32 × Mem) :=
  if (2 : Int32) < v3 then (fX11_get v0 v1 (0 : Int32) M).bind fun qj1 => (fX11_isCounted qj1 M).bind fun qj2 => if qj2 = true then if v1 = v2 then (fX11_fails v0 (3 : Int32) M).bind fun qj3 => some (qj3.1, qj3.2) else fX11_join_l93 N v0 v1 v2 N (10 : Int32) M else (fX11_fails v0 (2 : Int32) M).bind fun qj4 => some (qj4.1, qj4.2) else (fX11_get v0 v1 v3 M).bind fun qj5 => (fX11_get v0 v2 v3 M).bind fun qj6 => if qj5 = qj6 then k29 (v3 + (1 : Int32)) else (fX11_fails v0 (2 : Int32) M).bind fun qj7 => some (qj7.1, qj7.2)
def fX11_join_l29 (N : Nat) (v0 : Nat) (v1 : Int32) (v2 : Int32) (M : Mem) : Nat → Int32 → Option (Int32 × Mem)
  | 0, _ => none
  | n + 1, v3 => fX11_join_l29_s N v0 v1 v2 M (fX11_join_l29 N v0 v1 v2 M n) v3
def fX11_join_b21 (N : Nat) (v0 : Nat) (M : Mem) : Option (Int32 × Mem) :=
  (fX11_fails v0 (1 : Int32) M).bind fun qj1 => some (qj1.1, qj1.2)
def fX11_join (N : Nat) (v0 : Nat) (v1 : Int32) (v2 : Int32) (M : Mem) : Option (Int32 × Mem) :=
  (fX11_isRow v0 v1 (wI M v0 5 (0 : Int32))).bind fun qj1 => if qj1 = true then (fX11_isRow v0 v2 (wI M v0 5 (0 : Int32))).bind fun qj2 => if qj2 = true then fX11_join_l29 N v0 v1 v2 (wI M v0 5 (0 : Int32)) N (0 : Int32) else fX11_join_b21 N v0 (wI M v0 5 (0 : Int32)) else fX11_join_b21 N v0 (wI M v0 5 (0 : Int32))
/-! X11_halve -/
def fX11_halve_b43 (N : Nat) (v0 : Nat) (M : Mem) : Option (Int32 × Mem) :=
  (fX11_fails v0 (2 : Int32) M).bind fun qj1 => some (qj1.1, qj1.2)
def fX11_halve_l61_s (N : Nat) (v0 : Nat) (v1 : Int32) (v2 : Int32) (k61 : Int32 → Mem → Option (Int32 × Mem)) (v3 : Int32) (M : Mem) : Option (Int32 × Mem) :=
  if ((10 : Int32) + v2) ≤ v3 then (fX11_set v0 v1 (1 : Int32) v2 M).bind fun qj1 => some (v2, qj1) else (fX11_get v0 v1 v3 M).bind fun qj2 => (fX11_get v0 v1 (v3 + v2) M).bind fun qj3 => (fX11_together v0 v1 qj2 qj3 M).bind fun qj4 => (fX11_set v0 v1 v3 qj4 M).bind fun qj5 => (fX11_set v0 v1 (v3 + v2) (0 : Int32) qj5).bind fun qj6 => k61 (v3 + (1 : Int32)) qj6
def fX11_halve_l61 (N : Nat) (v0 : Nat) (v1 : Int32) (v2 : Int32) : Nat → Int32 → Mem → Option (Int32 × Mem)
  | 0, _, _ => none
  | n + 1, v3, M => fX11_halve_l61_s N v0 v1 v2 (fX11_halve_l61 N v0 v1 v2 n) v3 M
def fX11_halve (N : Nat) (v0 : Nat) (v1 : Int32) (M : Mem) : Option (Int32 × Mem) :=
  (fX11_isRow v0 v1 (wI M v0 5 (0 : Int32))).bind fun qj1 => if qj1 = true then (fX11_get v0 v1 (0 : Int32) (wI M v0 5 (0 : Int32))).bind fun qj2 => (fX11_isCounted qj2 (wI M v0 5 (0 : Int32))).bind fun qj3 => if qj3 = true then (fX11_get v0 v1 (1 : Int32) (wI M v0 5 (0 : Int32))).bind fun qj4 => if (remI qj4 (2 : Int32)) = (1 : Int32) then fX11_halve_b43 N v0 (wI M v0 5 (0 : Int32)) else (fX11_get v0 v1 (1 : Int32) (wI M v0 5 (0 : Int32))).bind fun qj5 => fX11_halve_l61 N v0 v1 (qj5 / (2 : Int32)) N (10 : Int32) (wI M v0 5 (0 : Int32)) else fX11_halve_b43 N v0 (wI M v0 5 (0 : Int32)) else (fX11_fails v0 (1 : Int32) (wI M v0 5 (0 : Int32))).bind fun qj6 => some (qj6.1, qj6.2)
/-! X11_grow -/
def fX11_grow_b172 (N : Nat) (k112 : Int32 → Mem → Option (Int32 × Mem)) (v0 : Nat) (v1 : Int32) (v2 : Int32) (M : Mem) : Option (Int32 × Mem) :=
  k112 (v2 + (1 : Int32)) M
def fX11_grow_l145_s (N : Nat) (v0 : Nat) (v1 : Int32) (k145 : Int32 → Mem → Option (Int32 × Mem)) (v3 : Int32) (M : Mem) : Option (Int32 × Mem) :=
  if (512 : Int32) ≤ v3 then some ((-1 : Int32), M) else if inB v3 512 = true then (fX11_set v0 v1 v3 (rI M (v0 + 4) v3.toNatClampNeg) M).bind fun qj3 => k145 (v3 + (1 : Int32)) qj3 else none
def fX11_grow_l145 (N : Nat) (v0 : Nat) (v1 : Int32) : Nat → Int32 → Mem → Option (Int32 × Mem)
  | 0, _, _ => none
  | n + 1, v3, M => fX11_grow_l145_s N v0 v1 (fX11_grow_l145 N v0 v1 n) v3 M
def fX11_grow_l112_s (N : Nat) (v0 : Nat) (v1 : Int32) (k112 : Int32 → Mem → Option (Int32 × Mem)) (v2 : Int32) (M : Mem) : Option (Int32 × Mem) :=
  if inB (1 : Int32) 3268 = true then if (rI M (v0 + 1) (1 : Int32).toNatClampNeg) ≤ v2 then (fX11_get v0 v1 (1 : Int32) M).bind fun qj3 => some (qj3, M) else (fX11_isIn v0 v1 v2 M).bind fun qj4 => if qj4 = true then (fX11_nestPuts N v0 v1 v2 M).bind fun qj5 => if qj5.1 = true then fX11_grow_b172 N k112 v0 v1 v2 qj5.2 else fX11_grow_l145 N v0 v1 N (0 : Int32) qj5.2 else fX11_grow_b172 N k112 v0 v1 v2 M else none
def fX11_grow_l112 (N : Nat) (v0 : Nat) (v1 : Int32) : Nat → Int32 → Mem → Option (Int32 × Mem)
  | 0, _, _ => none
  | n + 1, v2, M => fX11_grow_l112_s N v0 v1 (fX11_grow_l112 N v0 v1 n) v2 M
def fX11_grow_l76_s (N : Nat) (v0 : Nat) (v1 : Int32) (k76 : Int32 → Mem → Option (Int32 × Mem)) (v2 : Int32) (M : Mem) : Option (Int32 × Mem) :=
  if (250 : Int32) ≤ v2 then (fX11_get v0 v1 (1 : Int32) M).bind fun qj1 => (fX11_set v0 v1 (1 : Int32) ((2 : Int32) * qj1) M).bind fun qj2 => fX11_grow_l112 N v0 v1 N (0 : Int32) qj2 else (fX11_set v0 v1 v2 (0 : Int32) M).bind fun qj3 => k76 (v2 + (1 : Int32)) qj3
def fX11_grow_l76 (N : Nat) (v0 : Nat) (v1 : Int32) : Nat → Int32 → Mem → Option (Int32 × Mem)
  | 0, _, _ => none
  | n + 1, v2, M => fX11_grow_l76_s N v0 v1 (fX11_grow_l76 N v0 v1 n) v2 M
def fX11_grow_l48_s (N : Nat) (v0 : Nat) (v1 : Int32) (k48 : Int32 → Mem → Option (Int32 × Mem)) (v2 : Int32) (M : Mem) : Option (Int32 × Mem) :=
  if (512 : Int32) ≤ v2 then fX11_grow_l76 N v0 v1 N (10 : Int32) M else (fX11_get v0 v1 v2 M).bind fun qj2 => if inB v2 512 = true then k48 (v2 + (1 : Int32)) (wI M (v0 + 4) v2.toNatClampNeg qj2) else none
def fX11_grow_l48 (N : Nat) (v0 : Nat) (v1 : Int32) : Nat → Int32 → Mem → Option (Int32 × Mem)
  | 0, _, _ => none
  | n + 1, v2, M => fX11_grow_l48_s N v0 v1 (fX11_grow_l48 N v0 v1 n) v2 M
def fX11_grow_b40 (N : Nat) (v0 : Nat) (M : Mem) : Option (Int32 × Mem) :=
  (fX11_fails v0 (2 : Int32) M).bind fun qj1 => some (qj1.1, qj1.2)
def fX11_grow (N : Nat) (v0 : Nat) (v1 : Int32) (M : Mem) : Option (Int32 × Mem) :=
  (fX11_isRow v0 v1 (wI M v0 5 (0 : Int32))).bind fun qj1 => if qj1 = true then (fX11_get v0 v1 (0 : Int32) (wI M v0 5 (0 : Int32))).bind fun qj2 => if qj2 = (2 : Int32) then (fX11_get v0 v1 (1 : Int32) (wI M v0 5 (0 : Int32))).bind fun qj3 => if qj3 ≤ (8 : Int32) then fX11_grow_l48 N v0 v1 N (0 : Int32) (wI M v0 5 (0 : Int32)) else fX11_grow_b40 N v0 (wI M v0 5 (0 : Int32)) else fX11_grow_b40 N v0 (wI M v0 5 (0 : Int32)) else (fX11_fails v0 (1 : Int32) (wI M v0 5 (0 : Int32))).bind fun qj4 => some (qj4.1, qj4.2)
/-! X11_areNames -/
def fX11_areNames_b80 (N : Nat) (k2 : Int32 → Option Bool) (v0 : Nat) (v1 : Int32) (v2 : Bool) (v3 : Int32) (Mo : Mem) : Option Bool :=
  k2 (v3 + (1 : Int32))
def fX11_areNames_l35_s (N : Nat) (k2 : Int32 → Option Bool) (v0 : Nat) (v1 : Int32) (v2 : Bool) (v3 : Int32) (Mo : Mem) (k35 : Int32 → Option Bool) (v4 : Int32) : Option Bool :=
  if v3 ≤ v4 then fX11_areNames_b80 N k2 v0 v1 v2 v3 Mo else if v2 = true then if inB (((40 : Int32) * v1) + v4) 160 = true then if inB (((40 : Int32) * v1) + v3) 160 = true then if (rJ Mo (v0 + 24) (((40 : Int32) * v1) + v4).toNatClampNeg) = (rJ Mo (v0 + 24) (((40 : Int32) * v1) + v3).toNatClampNeg) then some false else k35 (v4 + (1 : Int32)) else none else none else fX11_areNames_b80 N k2 v0 v1 v2 v3 Mo
def fX11_areNames_l35 (N : Nat) (k2 : Int32 → Option Bool) (v0 : Nat) (v1 : Int32) (v2 : Bool) (v3 : Int32) (Mo : Mem) : Nat → Int32 → Option Bool
  | 0, _ => none
  | n + 1, v4 => fX11_areNames_l35_s N k2 v0 v1 v2 v3 Mo (fX11_areNames_l35 N k2 v0 v1 v2 v3 Mo n) v4
def fX11_areNames_l2_s (N : Nat) (v0 : Nat) (v1 : Int32) (v2 : Bool) (Mo : Mem) (k2 : Int32 → Option Bool) (v3 : Int32) : Option Bool :=
  if inB v1 4 = true then if (rI Mo (v0 + 23) v1.toNatClampNeg) ≤ v3 then some true else if inB (((40 : Int32) * v1) + v3) 160 = true then (fX11_isName v0 (rJ Mo (v0 + 24) (((40 : Int32) * v1) + v3).toNatClampNeg) Mo).bind fun qj5 => if qj5 = true then fX11_areNames_l35 N k2 v0 v1 v2 v3 Mo N (0 : Int32) else some false else none else none
def fX11_areNames_l2 (N : Nat) (v0 : Nat) (v1 : Int32) (v2 : Bool) (Mo : Mem) : Nat → Int32 → Option Bool
  | 0, _ => none
  | n + 1, v3 => fX11_areNames_l2_s N v0 v1 v2 Mo (fX11_areNames_l2 N v0 v1 v2 Mo n) v3
def fX11_areNames (N : Nat) (v0 : Nat) (v1 : Int32) (v2 : Bool) (Mo : Mem) : Option Bool :=
  fX11_areNames_l2 N v0 v1 v2 Mo N (0 : Int32)
/-! X11_inTray -/
def fX11_inTray (v0 : Nat) (v1 : Int32) (v2 : Int32) (Mo : Mem) : Option Int32 :=
  if inB (((40 : Int32) * v1) + v2) 160 = true then some ((rJ Mo (v0 + 24) (((40 : Int32) * v1) + v2).toNatClampNeg).toInt32) else none
/-! X11_canSolve -/
def fX11_canSolve_b213 (N : Nat) (k186 : Int32 → Option (Bool × Mem)) (v0 : Nat) (v2 : Int32) (v3 : Int32) (M : Mem) : Option (Bool × Mem) :=
  k186 (v3 + (1 : Int32))
def fX11_canSolve_l186_s (N : Nat) (v0 : Nat) (v2 : Int32) (M : Mem) (k186 : Int32 → Option (Bool × Mem)) (v3 : Int32) : Option (Bool × Mem) :=
  if v2 ≤ v3 then some (true, M) else if inB v3 40 = true then if (rJ M (v0 + 11) v3.toNatClampNeg) = (0 : Int64) then if inB v3 40 = true then if (rI M (v0 + 12) v3.toNatClampNeg) = 0 then fX11_canSolve_b213 N k186 v0 v2 v3 M else some (false, M) else none else fX11_canSolve_b213 N k186 v0 v2 v3 M else none
def fX11_canSolve_l186 (N : Nat) (v0 : Nat) (v2 : Int32) (M : Mem) : Nat → Int32 → Option (Bool × Mem)
  | 0, _ => none
  | n + 1, v3 => fX11_canSolve_l186_s N v0 v2 M (fX11_canSolve_l186 N v0 v2 M n) v3
def fX11_canSolve_b178 (N : Nat) (k2 : Int32 → Mem → Option (Bool × Mem)) (v0 : Nat) (v1 : Int32) (v2 : Int32) (v3 : Int32) (M : Mem) : Option (Bool × Mem) :=
  k2 (v3 + (1 : Int32)) M
def fX11_canSolve_b172 (N : Nat) (k2 : Int32 → Mem → Option (Bool × Mem)) (k106 : Int32 → Mem → Option (Bool × Mem)) (v0 : Nat) (v1 : Int32) (v2 : Int32) (v3 : Int32) (v4 : Int32) (v5 : Int32) (M : Mem) : Option (Bool × Mem) :=
  k106 (v5 + (1 : Int32)) M
def fX11_canSolve_l106_s (N : Nat) (k2 : Int32 → Mem → Option (Bool × Mem)) (v0 : Nat) (v1 : Int32) (v2 : Int32) (v3 : Int32) (v4 : Int32) (k106 : Int32 → Mem → Option (Bool × Mem)) (v5 : Int32) (M : Mem) : Option (Bool × Mem) :=
  if v2 ≤ v5 then fX11_canSolve_b178 N k2 v0 v1 v2 v3 M else if v5 = v4 then fX11_canSolve_b172 N k2 k106 v0 v1 v2 v3 v4 v5 M else if inB v5 40 = true then if ((shrJ (rJ M (v0 + 11) v5.toNatClampNeg) v3) &&& (1 : Int64)) = (0 : Int64) then fX11_canSolve_b172 N k2 k106 v0 v1 v2 v3 v4 v5 M else if inB v5 40 = true then if inB v4 40 = true then if inB v5 40 = true then if inB v5 40 = true then if inB v4 40 = true then if inB v5 40 = true then fX11_canSolve_b172 N k2 k106 v0 v1 v2 v3 v4 v5 (wI (wJ M (v0 + 11) v5.toNatClampNeg ((rJ M (v0 + 11) v5.toNatClampNeg) ^^^ (rJ M (v0 + 11) v4.toNatClampNeg))) (v0 + 12) v5.toNatClampNeg ((rI (wJ M (v0 + 11) v5.toNatClampNeg ((rJ M (v0 + 11) v5.toNatClampNeg) ^^^ (rJ M (v0 + 11) v4.toNatClampNeg))) (v0 + 12) v5.toNatClampNeg) ^^^ (rI (wJ M (v0 + 11) v5.toNatClampNeg ((rJ M (v0 + 11) v5.toNatClampNeg) ^^^ (rJ M (v0 + 11) v4.toNatClampNeg))) (v0 + 12) v4.toNatClampNeg))) else none else none else none else none else none else none else none
def fX11_canSolve_l106 (N : Nat) (k2 : Int32 → Mem → Option (Bool × Mem)) (v0 : Nat) (v1 : Int32) (v2 : Int32) (v3 : Int32) (v4 : Int32) : Nat → Int32 → Mem → Option (Bool × Mem)
  | 0, _, _ => none
  | n + 1, v5, M => fX11_canSolve_l106_s N k2 v0 v1 v2 v3 v4 (fX11_canSolve_l106 N k2 v0 v1 v2 v3 v4 n) v5 M
def fX11_canSolve_b78 (N : Nat) (k2 : Int32 → Mem → Option (Bool × Mem)) (v0 : Nat) (v1 : Int32) (v2 : Int32) (v3 : Int32) (M : Mem) : Option (Bool × Mem) :=
  if inB v3 64 = true then if (rI M (v0 + 13) v3.toNatClampNeg) = (-1 : Int32) then fX11_canSolve_b178 N k2 v0 v1 v2 v3 M else if inB (rI M (v0 + 13) v3.toNatClampNeg) 40 = true then fX11_canSolve_l106 N k2 v0 v1 v2 v3 (rI M (v0 + 13) v3.toNatClampNeg) N (0 : Int32) (wI M (v0 + 14) ((rI M (v0 + 13) v3.toNatClampNeg).toNatClampNeg) (vp_nar .boolean (1 : Int32))) else none else none
def fX11_canSolve_b72 (N : Nat) (k2 : Int32 → Mem → Option (Bool × Mem)) (k22 : Int32 → Mem → Option (Bool × Mem)) (v0 : Nat) (v1 : Int32) (v2 : Int32) (v3 : Int32) (v4 : Int32) (M : Mem) : Option (Bool × Mem) :=
  k22 (v4 + (1 : Int32)) M
def fX11_canSolve_l22_s (N : Nat) (k2 : Int32 → Mem → Option (Bool × Mem)) (v0 : Nat) (v1 : Int32) (v2 : Int32) (v3 : Int32) (k22 : Int32 → Mem → Option (Bool × Mem)) (v4 : Int32) (M : Mem) : Option (Bool × Mem) :=
  if v2 ≤ v4 then fX11_canSolve_b78 N k2 v0 v1 v2 v3 M else if inB v3 64 = true then if (rI M (v0 + 13) v3.toNatClampNeg) = (-1 : Int32) then if inB v4 40 = true then if (rI M (v0 + 14) v4.toNatClampNeg) = 0 then if inB v4 40 = true then if ((shrJ (rJ M (v0 + 11) v4.toNatClampNeg) v3) &&& (1 : Int64)) = (1 : Int64) then if inB v3 64 = true then fX11_canSolve_b72 N k2 k22 v0 v1 v2 v3 v4 (wI M (v0 + 13) v3.toNatClampNeg v4) else none else fX11_canSolve_b72 N k2 k22 v0 v1 v2 v3 v4 M else none else fX11_canSolve_b72 N k2 k22 v0 v1 v2 v3 v4 M else none else fX11_canSolve_b78 N k2 v0 v1 v2 v3 M else none
def fX11_canSolve_l22 (N : Nat) (k2 : Int32 → Mem → Option (Bool × Mem)) (v0 : Nat) (v1 : Int32) (v2 : Int32) (v3 : Int32) : Nat → Int32 → Mem → Option (Bool × Mem)
  | 0, _, _ => none
  | n + 1, v4, M => fX11_canSolve_l22_s N k2 v0 v1 v2 v3 (fX11_canSolve_l22 N k2 v0 v1 v2 v3 n) v4 M
def fX11_canSolve_l2_s (N : Nat) (v0 : Nat) (v1 : Int32) (v2 : Int32) (k2 : Int32 → Mem → Option (Bool × Mem)) (v3 : Int32) (M : Mem) : Option (Bool × Mem) :=
  (fX11_get v0 v1 (1 : Int32) M).bind fun qj1 => if qj1 ≤ v3 then fX11_canSolve_l186 N v0 v2 M N (0 : Int32) else if inB v3 64 = true then fX11_canSolve_l22 N k2 v0 v1 v2 v3 N (0 : Int32) (wI M (v0 + 13) v3.toNatClampNeg (-1 : Int32)) else none
def fX11_canSolve_l2 (N : Nat) (v0 : Nat) (v1 : Int32) (v2 : Int32) : Nat → Int32 → Mem → Option (Bool × Mem)
  | 0, _, _ => none
  | n + 1, v3, M => fX11_canSolve_l2_s N v0 v1 v2 (fX11_canSolve_l2 N v0 v1 v2 n) v3 M
def fX11_canSolve (N : Nat) (v0 : Nat) (v1 : Int32) (v2 : Int32) (M : Mem) : Option (Bool × Mem) :=
  fX11_canSolve_l2 N v0 v1 v2 N (0 : Int32) M
/-! X11_isTray -/
def fX11_isTray (v0 : Int32) (Mo : Mem) : Option Bool :=
  (fX11_within v0.toInt64 (0 : Int64) (3 : Int64) Mo).bind fun qj1 => some qj1
/-! X11_rowTrayFault -/
def fX11_rowTrayFault_b15  (Mo : Mem) : Option Int32 :=
  some (1 : Int32)
def fX11_rowTrayFault (v0 : Nat) (v1 : Int32) (v2 : Int32) (Mo : Mem) : Option Int32 :=
  (fX11_isRow v0 v1 Mo).bind fun qj1 => if qj1 = true then (fX11_isTray v2 Mo).bind fun qj2 => if qj2 = true then some (0 : Int32) else fX11_rowTrayFault_b15 Mo else fX11_rowTrayFault_b15 Mo
/-! X11_solve -/
def fX11_solve_l277_s (N : Nat) (v0 : Nat) (v1 : Int32) (v2 : Int32) (v3 : Int32) (k277 : Int32 → Mem → Option (Int32 × Mem)) (v4 : Int32) (M : Mem) : Option (Int32 × Mem) :=
  if v3 ≤ v4 then some (v3, M) else (fX11_inTray v0 v2 v4 M).bind fun qj1 => (fX11_set v0 v1 ((250 : Int32) + qj1) (1 : Int32) M).bind fun qj2 => k277 (v4 + (1 : Int32)) qj2
def fX11_solve_l277 (N : Nat) (v0 : Nat) (v1 : Int32) (v2 : Int32) (v3 : Int32) : Nat → Int32 → Mem → Option (Int32 × Mem)
  | 0, _, _ => none
  | n + 1, v4, M => fX11_solve_l277_s N v0 v1 v2 v3 (fX11_solve_l277 N v0 v1 v2 v3 n) v4 M
def fX11_solve_l245_s (N : Nat) (v0 : Nat) (v1 : Int32) (v2 : Int32) (v3 : Int32) (k245 : Int32 → Mem → Option (Int32 × Mem)) (v4 : Int32) (M : Mem) : Option (Int32 × Mem) :=
  if inB (1 : Int32) 3268 = true then if (rI M (v0 + 1) (1 : Int32).toNatClampNeg) ≤ v4 then fX11_solve_l277 N v0 v1 v2 v3 N (0 : Int32) M else (fX11_set v0 v1 ((250 : Int32) + v4) (0 : Int32) M).bind fun qj3 => k245 (v4 + (1 : Int32)) qj3 else none
def fX11_solve_l245 (N : Nat) (v0 : Nat) (v1 : Int32) (v2 : Int32) (v3 : Int32) : Nat → Int32 → Mem → Option (Int32 × Mem)
  | 0, _, _ => none
  | n + 1, v4, M => fX11_solve_l245_s N v0 v1 v2 v3 (fX11_solve_l245 N v0 v1 v2 v3 n) v4 M
def fX11_solve_b233 (N : Nat) (k188 : Int32 → Mem → Option (Int32 × Mem)) (v0 : Nat) (v1 : Int32) (v2 : Int32) (v3 : Int32) (v4 : Int32) (s0 : Int32) (s1 : Int32) (s2 : Int32) (s3 : Nat) (M : Mem) : Option (Int32 × Mem) :=
  (fX11_set s3 s2 s1 s0 M).bind fun qj1 => k188 (v4 + (1 : Int32)) qj1
def fX11_solve_l188_s (N : Nat) (v0 : Nat) (v1 : Int32) (v2 : Int32) (v3 : Int32) (k188 : Int32 → Mem → Option (Int32 × Mem)) (v4 : Int32) (M : Mem) : Option (Int32 × Mem) :=
  (fX11_get v0 v1 (1 : Int32) M).bind fun qj1 => if qj1 ≤ v4 then fX11_solve_l245 N v0 v1 v2 v3 N (0 : Int32) M else if inB v4 64 = true then if (rI M (v0 + 13) v4.toNatClampNeg) = (-1 : Int32) then fX11_solve_b233 N k188 v0 v1 v2 v3 v4 (0 : Int32) ((10 : Int32) + v4) v1 v0 M else if inB v4 64 = true then if inB (rI M (v0 + 13) v4.toNatClampNeg) 40 = true then fX11_solve_b233 N k188 v0 v1 v2 v3 v4 (rI M (v0 + 12) (rI M (v0 + 13) v4.toNatClampNeg).toNatClampNeg) ((10 : Int32) + v4) v1 v0 M else none else none else none
def fX11_solve_l188 (N : Nat) (v0 : Nat) (v1 : Int32) (v2 : Int32) (v3 : Int32) : Nat → Int32 → Mem → Option (Int32 × Mem)
  | 0, _, _ => none
  | n + 1, v4, M => fX11_solve_l188_s N v0 v1 v2 v3 (fX11_solve_l188 N v0 v1 v2 v3 n) v4 M
def fX11_solve_l125_s (N : Nat) (k82 : Int32 → Mem → Option (Int32 × Mem)) (v0 : Nat) (v1 : Int32) (v2 : Int32) (v3 : Int32) (v4 : Int32) (k125 : Int32 → Mem → Option (Int32 × Mem)) (v5 : Int32) (M : Mem) : Option (Int32 × Mem) :=
  (fX11_get v0 v1 (2 : Int32) M).bind fun qj1 => if qj1 ≤ v5 then k82 (v4 + (1 : Int32)) M else if inB v4 40 = true then (fX11_inTray v0 v2 v4 M).bind fun qj4 => (fX11_spot N v0 v1 v5 qj4 M).bind fun qj5 => if inB v4 40 = true then k125 (v5 + (1 : Int32)) (wJ qj5.2 (v0 + 11) v4.toNatClampNeg ((rJ M (v0 + 11) v4.toNatClampNeg) ^^^ (shlJ (1 : Int64) qj5.1))) else none else none
def fX11_solve_l125 (N : Nat) (k82 : Int32 → Mem → Option (Int32 × Mem)) (v0 : Nat) (v1 : Int32) (v2 : Int32) (v3 : Int32) (v4 : Int32) : Nat → Int32 → Mem → Option (Int32 × Mem)
  | 0, _, _ => none
  | n + 1, v5, M => fX11_solve_l125_s N k82 v0 v1 v2 v3 v4 (fX11_solve_l125 N k82 v0 v1 v2 v3 v4 n) v5 M
def fX11_solve_l82_s (N : Nat) (v0 : Nat) (v1 : Int32) (v2 : Int32) (v3 : Int32) (k82 : Int32 → Mem → Option (Int32 × Mem)) (v4 : Int32) (M : Mem) : Option (Int32 × Mem) :=
  if v3 ≤ v4 then (fX11_canSolve N v0 v1 v3 M).bind fun qj1 => if qj1.1 = true then fX11_solve_l188 N v0 v1 v2 v3 N (0 : Int32) qj1.2 else some ((-1 : Int32), qj1.2) else if inB v4 40 = true then if inB v4 40 = true then (fX11_inTray v0 v2 v4 (wI (wJ M (v0 + 11) v4.toNatClampNeg (0 : Int64)) (v0 + 14) v4.toNatClampNeg (vp_nar .boolean (0 : Int32)))).bind fun qj5 => (fX11_tagOf N v0 qj5 (wI (wJ M (v0 + 11) v4.toNatClampNeg (0 : Int64)) (v0 + 14) v4.toNatClampNeg (vp_nar .boolean (0 : Int32)))).bind fun qj6 => if inB v4 40 = true then fX11_solve_l125 N k82 v0 v1 v2 v3 v4 N (0 : Int32) (wI qj6.2 (v0 + 12) v4.toNatClampNeg qj6.1) else none else none else none
def fX11_solve_l82 (N : Nat) (v0 : Nat) (v1 : Int32) (v2 : Int32) (v3 : Int32) : Nat → Int32 → Mem → Option (Int32 × Mem)
  | 0, _, _ => none
  | n + 1, v4, M => fX11_solve_l82_s N v0 v1 v2 v3 (fX11_solve_l82 N v0 v1 v2 v3 n) v4 M
def fX11_solve_b63 (N : Nat) (v0 : Nat) (v1 : Int32) (v2 : Int32) (M : Mem) : Option (Int32 × Mem) :=
  if (rI M v0 5) ≤ 0 then if inB v2 4 = true then fX11_solve_l82 N v0 v1 v2 (rI M (v0 + 23) v2.toNatClampNeg) N (0 : Int32) M else none else some ((0 : Int32), M)
def fX11_solve_b42 (N : Nat) (v0 : Nat) (v1 : Int32) (v2 : Int32) (M : Mem) : Option (Int32 × Mem) :=
  if (rI M v0 5) = 0 then (fX11_areNames N v0 v2 true M).bind fun qj1 => if qj1 = true then fX11_solve_b63 N v0 v1 v2 M else fX11_solve_b63 N v0 v1 v2 (wI M v0 5 (3 : Int32)) else fX11_solve_b63 N v0 v1 v2 M
def fX11_solve_b37 (N : Nat) (v0 : Nat) (v1 : Int32) (v2 : Int32) (M : Mem) : Option (Int32 × Mem) :=
  fX11_solve_b42 N v0 v1 v2 (wI M v0 5 (2 : Int32))
def fX11_solve (N : Nat) (v0 : Nat) (v1 : Int32) (v2 : Int32) (M : Mem) : Option (Int32 × Mem) :=
  (fX11_rowTrayFault v0 v1 v2 M).bind fun qj1 => if (rI (wI M v0 5 qj1) v0 5) = 0 then (fX11_get v0 v1 (0 : Int32) (wI M v0 5 qj1)).bind fun qj2 => if qj2 = (4 : Int32) then if inB v2 4 = true then if (rI (wI M v0 5 qj1) (v0 + 22) v2.toNatClampNeg) = (-1 : Int32) then fX11_solve_b37 N v0 v1 v2 (wI M v0 5 qj1) else fX11_solve_b42 N v0 v1 v2 (wI M v0 5 qj1) else none else fX11_solve_b37 N v0 v1 v2 (wI M v0 5 qj1) else fX11_solve_b42 N v0 v1 v2 (wI M v0 5 qj1)
/-! X11_isLie -/
def fX11_isLie_b22 (N : Nat) (M : Mem) : Option (Bool × Mem) :=
  some (false, M)
def fX11_isLie (N : Nat) (v0 : Nat) (v1 : Int32) (v2 : Int32) (M : Mem) : Option (Bool × Mem) :=
  (fX11_isIn v0 v1 v2 M).bind fun qj1 => if qj1 = true then fX11_isLie_b22 N M else (fX11_says N v0 v1 v2 M).bind fun qj2 => if qj2.1 = true then some (true, qj2.2) else fX11_isLie_b22 N qj2.2
/-! X11_lies -/
def fX11_lies_b29 (N : Nat) (k4 : Int32 → Int32 → Mem → Option (Int32 × Mem)) (v0 : Nat) (v1 : Int32) (v3 : Int32) (s0 : Bool) (s1 : Int32) (M : Mem) : Option (Int32 × Mem) :=
  k4 (s1 + (bI s0)) (v3 + (1 : Int32)) M
def fX11_lies_l4_s (N : Nat) (v0 : Nat) (v1 : Int32) (k4 : Int32 → Int32 → Mem → Option (Int32 × Mem)) (v2 : Int32) (v3 : Int32) (M : Mem) : Option (Int32 × Mem) :=
  if inB (1 : Int32) 3268 = true then if (rI M (v0 + 1) (1 : Int32).toNatClampNeg) ≤ v3 then some (v2, M) else (fX11_isLie N v0 v1 v3 M).bind fun qj3 => if qj3.1 = true then fX11_lies_b29 N k4 v0 v1 v3 true v2 qj3.2 else fX11_lies_b29 N k4 v0 v1 v3 false v2 qj3.2 else none
def fX11_lies_l4 (N : Nat) (v0 : Nat) (v1 : Int32) : Nat → Int32 → Int32 → Mem → Option (Int32 × Mem)
  | 0, _, _, _ => none
  | n + 1, v2, v3, M => fX11_lies_l4_s N v0 v1 (fX11_lies_l4 N v0 v1 n) v2 v3 M
def fX11_lies (N : Nat) (v0 : Nat) (v1 : Int32) (M : Mem) : Option (Int32 × Mem) :=
  fX11_lies_l4 N v0 v1 N (0 : Int32) (0 : Int32) M
/-! X11_lying -/
def fX11_lying_b103 (N : Nat) (v3 : Int32) (s0 : Int32) (s1 : Nat) (M : Mem) : Option (Bool × Mem) :=
  if v3 ≤ 0 then some (false, wI M s1 27 s0) else some (true, wI M s1 27 s0)
def fX11_lying_b87 (N : Nat) (v0 : Nat) (v3 : Int32) (v4 : Int32) (s0 : Int32) (s1 : Nat) (M : Mem) : Option (Bool × Mem) :=
  if v3 = 0 then fX11_lying_b103 N v3 (0 : Int32) v0 (wI M s1 26 s0) else if v4 = 0 then none else fX11_lying_b103 N v3 (v3 / v4) v0 (wI M s1 26 s0)
def fX11_lying_b74 (N : Nat) (v0 : Nat) (v2 : Int32) (v3 : Int32) (v4 : Int32) (M : Mem) : Option (Bool × Mem) :=
  if v3 = 0 then fX11_lying_b87 N v0 v3 v4 (0 : Int32) v0 M else if v4 = 0 then none else fX11_lying_b87 N v0 v3 v4 (v2 / v4) v0 M
def fX11_lying_b68 (N : Nat) (k48 : Int32 → Option (Bool × Mem)) (v0 : Nat) (v2 : Int32) (v3 : Int32) (v4 : Int32) (M : Mem) : Option (Bool × Mem) :=
  k48 (v4 + (-1 : Int32))
def fX11_lying_l48_s (N : Nat) (v0 : Nat) (v2 : Int32) (v3 : Int32) (M : Mem) (k48 : Int32 → Option (Bool × Mem)) (v4 : Int32) : Option (Bool × Mem) :=
  if v4 ≤ (1 : Int32) then fX11_lying_b74 N v0 v2 v3 v4 M else if v4 = 0 then none else if (remI v2 v4) = 0 then if v4 = 0 then none else if (remI v3 v4) = 0 then fX11_lying_b74 N v0 v2 v3 v4 M else fX11_lying_b68 N k48 v0 v2 v3 v4 M else fX11_lying_b68 N k48 v0 v2 v3 v4 M
def fX11_lying_l48 (N : Nat) (v0 : Nat) (v2 : Int32) (v3 : Int32) (M : Mem) : Nat → Int32 → Option (Bool × Mem)
  | 0, _ => none
  | n + 1, v4 => fX11_lying_l48_s N v0 v2 v3 M (fX11_lying_l48 N v0 v2 v3 M n) v4
def fX11_lying_b14 (N : Nat) (v0 : Nat) (v1 : Int32) (s0 : Bool) (s1 : Nat) (M : Mem) : Option (Bool × Mem) :=
  if (rI (wI M s1 5 (bI s0)) v0 5) ≤ 0 then (fX11_lies N v0 v1 (wI M s1 5 (bI s0))).bind fun qj1 => if inB (1 : Int32) 3268 = true then (fX11_many N v0 v1 qj1.2).bind fun qj4 => fX11_lying_l48 N v0 qj1.1 ((rI qj1.2 (v0 + 1) (1 : Int32).toNatClampNeg) - qj4) qj1.2 N ((rI qj1.2 (v0 + 1) (1 : Int32).toNatClampNeg) - qj4) else none else some (false, wI M s1 5 (bI s0))
def fX11_lying (N : Nat) (v0 : Nat) (v1 : Int32) (M : Mem) : Option (Bool × Mem) :=
  (fX11_isRow v0 v1 M).bind fun qj1 => if qj1 = true then fX11_lying_b14 N v0 v1 false v0 M else fX11_lying_b14 N v0 v1 true v0 M
/-! X11_upper -/
def fX11_upper (v0 : Nat) (M : Mem) : Option (Int32 × Mem) :=
  some ((rI (wI M v0 5 (0 : Int32)) v0 26), wI M v0 5 (0 : Int32))
/-! X11_lower -/
def fX11_lower (v0 : Nat) (M : Mem) : Option (Int32 × Mem) :=
  some ((rI (wI M v0 5 (0 : Int32)) v0 27), wI M v0 5 (0 : Int32))
/-! X11_lie -/
def fX11_lie_b58 (N : Nat) (k24 : Int32 → Int32 → Mem → Option (Int32 × Mem)) (v0 : Nat) (v1 : Int32) (v3 : Int32) (v4 : Int32) (M : Mem) : Option (Int32 × Mem) :=
  k24 v3 (v4 + (1 : Int32)) M
def fX11_lie_l24_s (N : Nat) (v0 : Nat) (v1 : Int32) (k24 : Int32 → Int32 → Mem → Option (Int32 × Mem)) (v3 : Int32) (v4 : Int32) (M : Mem) : Option (Int32 × Mem) :=
  if inB (1 : Int32) 3268 = true then if (rI M (v0 + 1) (1 : Int32).toNatClampNeg) ≤ v4 then some ((-1 : Int32), M) else (fX11_isLie N v0 v1 v4 M).bind fun qj3 => if qj3.1 = true then if v3 = 0 then some (v4, qj3.2) else fX11_lie_b58 N k24 v0 v1 (v3 + (-1 : Int32)) v4 qj3.2 else fX11_lie_b58 N k24 v0 v1 v3 v4 qj3.2 else none
def fX11_lie_l24 (N : Nat) (v0 : Nat) (v1 : Int32) : Nat → Int32 → Int32 → Mem → Option (Int32 × Mem)
  | 0, _, _, _ => none
  | n + 1, v3, v4, M => fX11_lie_l24_s N v0 v1 (fX11_lie_l24 N v0 v1 n) v3 v4 M
def fX11_lie (N : Nat) (v0 : Nat) (v1 : Int32) (v2 : Int32) (M : Mem) : Option (Int32 × Mem) :=
  (fX11_isRow v0 v1 (wI M v0 5 (0 : Int32))).bind fun qj1 => if qj1 = true then fX11_lie_l24 N v0 v1 N v2 (0 : Int32) (wI M v0 5 (0 : Int32)) else (fX11_fails v0 (1 : Int32) (wI M v0 5 (0 : Int32))).bind fun qj2 => some (qj2.1, qj2.2)
/-! X11_wronged -/
def fX11_wronged_b112 (N : Nat) (k47 : Int32 → Int32 → Mem → Option (Int32 × Mem)) (v0 : Nat) (v1 : Int32) (v2 : Int32) (v3 : Int32) (v4 : Int32) (v5 : Int32) (M : Mem) : Option (Int32 × Mem) :=
  k47 v4 (v5 + (1 : Int32)) M
def fX11_wronged_l47_s (N : Nat) (v0 : Nat) (v1 : Int32) (v2 : Int32) (v3 : Int32) (k47 : Int32 → Int32 → Mem → Option (Int32 × Mem)) (v4 : Int32) (v5 : Int32) (M : Mem) : Option (Int32 × Mem) :=
  if inB v2 4 = true then if (rI M (v0 + 23) v2.toNatClampNeg) ≤ v5 then if v3 = (-1 : Int32) then some (v4, M) else some ((-1 : Int32), M) else if inB (((40 : Int32) * v2) + v5) 160 = true then (fX11_isName v0 (rJ M (v0 + 24) (((40 : Int32) * v2) + v5).toNatClampNeg) M).bind fun qj5 => if qj5 = true then (fX11_inTray v0 v2 v5 M).bind fun qj6 => (fX11_isLie N v0 v1 qj6 M).bind fun qj7 => if qj7.1 = true then if v4 = v3 then (fX11_inTray v0 v2 v5 qj7.2).bind fun qj8 => some (qj8, qj7.2) else fX11_wronged_b112 N k47 v0 v1 v2 v3 (v4 + (1 : Int32)) v5 qj7.2 else fX11_wronged_b112 N k47 v0 v1 v2 v3 v4 v5 qj7.2 else fX11_wronged_b112 N k47 v0 v1 v2 v3 v4 v5 M else none else none
def fX11_wronged_l47 (N : Nat) (v0 : Nat) (v1 : Int32) (v2 : Int32) (v3 : Int32) : Nat → Int32 → Int32 → Mem → Option (Int32 × Mem)
  | 0, _, _, _ => none
  | n + 1, v4, v5, M => fX11_wronged_l47_s N v0 v1 v2 v3 (fX11_wronged_l47 N v0 v1 v2 v3 n) v4 v5 M
def fX11_wronged_b32 (N : Nat) (v0 : Nat) (v1 : Int32) (v2 : Int32) (v3 : Int32) (M : Mem) : Option (Int32 × Mem) :=
  if (rI M v0 5) ≤ 0 then fX11_wronged_l47 N v0 v1 v2 v3 N (0 : Int32) (0 : Int32) M else some ((0 : Int32), M)
def fX11_wronged (N : Nat) (v0 : Nat) (v1 : Int32) (v2 : Int32) (v3 : Int32) (M : Mem) : Option (Int32 × Mem) :=
  (fX11_rowTrayFault v0 v1 v2 M).bind fun qj1 => if (rI (wI M v0 5 qj1) v0 5) = 0 then if inB v2 4 = true then if (rI (wI M v0 5 qj1) (v0 + 22) v2.toNatClampNeg) = (-1 : Int32) then fX11_wronged_b32 N v0 v1 v2 v3 (wI (wI M v0 5 qj1) v0 5 (2 : Int32)) else fX11_wronged_b32 N v0 v1 v2 v3 (wI M v0 5 qj1) else none else fX11_wronged_b32 N v0 v1 v2 v3 (wI M v0 5 qj1)
/-! X11_worse -/
def fX11_worse_b21 (N : Nat) (v0 : Nat) (M : Mem) : Option (Int32 × Mem) :=
  (fX11_fails v0 (1 : Int32) M).bind fun qj1 => some (qj1.1, qj1.2)
def fX11_worse (N : Nat) (v0 : Nat) (v1 : Int32) (v2 : Int32) (M : Mem) : Option (Int32 × Mem) :=
  (fX11_isRow v0 v1 (wI M v0 5 (0 : Int32))).bind fun qj1 => if qj1 = true then (fX11_isRow v0 v2 (wI M v0 5 (0 : Int32))).bind fun qj2 => if qj2 = true then (fX11_lies N v0 v1 (wI M v0 5 (0 : Int32))).bind fun qj3 => (fX11_lies N v0 v2 qj3.2).bind fun qj4 => some ((qj3.1 - qj4.1), qj4.2) else fX11_worse_b21 N v0 (wI M v0 5 (0 : Int32)) else fX11_worse_b21 N v0 (wI M v0 5 (0 : Int32))
/-! X11_layBits -/
def fX11_layBits_b71 (N : Nat) (k23 : Int32 → Mem → Option Mem) (v0 : Nat) (v1 : Int32) (v2 : Int32) (v3 : Int32) (M : Mem) : Option Mem :=
  k23 (v3 + (1 : Int32)) M
def fX11_layBits_l36_s (N : Nat) (k23 : Int32 → Mem → Option Mem) (v0 : Nat) (v1 : Int32) (v2 : Int32) (v3 : Int32) (k36 : Int32 → Mem → Option Mem) (v4 : Int32) (M : Mem) : Option Mem :=
  if v2 ≤ v4 then fX11_layBits_b71 N k23 v0 v1 v2 v3 M else if inB v3 256 = true then if (rI M (v0 + 16) v3.toNatClampNeg) = 0 then fX11_layBits_b71 N k23 v0 v1 v2 v3 M else (fX11_placeOf N v0 v4 v3 v1 M).bind fun qj4 => if inB qj4.1 64 = true then k36 (v4 + (1 : Int32)) (wI qj4.2 (v0 + 15) qj4.1.toNatClampNeg (vp_nar .boolean (1 : Int32))) else none else none
def fX11_layBits_l36 (N : Nat) (k23 : Int32 → Mem → Option Mem) (v0 : Nat) (v1 : Int32) (v2 : Int32) (v3 : Int32) : Nat → Int32 → Mem → Option Mem
  | 0, _, _ => none
  | n + 1, v4, M => fX11_layBits_l36_s N k23 v0 v1 v2 v3 (fX11_layBits_l36 N k23 v0 v1 v2 v3 n) v4 M
def fX11_layBits_l23_s (N : Nat) (v0 : Nat) (v1 : Int32) (v2 : Int32) (k23 : Int32 → Mem → Option Mem) (v3 : Int32) (M : Mem) : Option Mem :=
  if inB (1 : Int32) 3268 = true then if (rI M (v0 + 1) (1 : Int32).toNatClampNeg) ≤ v3 then some M else fX11_layBits_l36 N k23 v0 v1 v2 v3 N (0 : Int32) M else none
def fX11_layBits_l23 (N : Nat) (v0 : Nat) (v1 : Int32) (v2 : Int32) : Nat → Int32 → Mem → Option Mem
  | 0, _, _ => none
  | n + 1, v3, M => fX11_layBits_l23_s N v0 v1 v2 (fX11_layBits_l23 N v0 v1 v2 n) v3 M
def fX11_layBits_l2_s (N : Nat) (v0 : Nat) (v1 : Int32) (v2 : Int32) (k2 : Int32 → Mem → Option Mem) (v3 : Int32) (M : Mem) : Option Mem :=
  if (64 : Int32) ≤ v3 then fX11_layBits_l23 N v0 v1 v2 N (0 : Int32) M else if inB v3 64 = true then k2 (v3 + (1 : Int32)) (wI M (v0 + 15) v3.toNatClampNeg (vp_nar .boolean (0 : Int32))) else none
def fX11_layBits_l2 (N : Nat) (v0 : Nat) (v1 : Int32) (v2 : Int32) : Nat → Int32 → Mem → Option Mem
  | 0, _, _ => none
  | n + 1, v3, M => fX11_layBits_l2_s N v0 v1 v2 (fX11_layBits_l2 N v0 v1 v2 n) v3 M
def fX11_layBits (N : Nat) (v0 : Nat) (v1 : Int32) (v2 : Int32) (M : Mem) : Option Mem :=
  fX11_layBits_l2 N v0 v1 v2 N (0 : Int32) M
/-! X11_isSaid -/
def fX11_isSaid_l3_s (N : Nat) (v0 : Nat) (v1 : Int32) (v2 : Int32) (v3 : Int32) (k3 : Int32 → Mem → Option (Bool × Mem)) (v4 : Int32) (M : Mem) : Option (Bool × Mem) :=
  if v2 ≤ v4 then some (true, M) else (fX11_placeOf N v0 v4 v3 v1 M).bind fun qj2 => if inB qj2.1 64 = true then if (rI qj2.2 (v0 + 15) qj2.1.toNatClampNeg) = 0 then some (false, qj2.2) else k3 (v4 + (1 : Int32)) qj2.2 else none
def fX11_isSaid_l3 (N : Nat) (v0 : Nat) (v1 : Int32) (v2 : Int32) (v3 : Int32) : Nat → Int32 → Mem → Option (Bool × Mem)
  | 0, _, _ => none
  | n + 1, v4, M => fX11_isSaid_l3_s N v0 v1 v2 v3 (fX11_isSaid_l3 N v0 v1 v2 v3 n) v4 M
def fX11_isSaid (N : Nat) (v0 : Nat) (v1 : Int32) (v2 : Int32) (v3 : Int32) (M : Mem) : Option (Bool × Mem) :=
  fX11_isSaid_l3 N v0 v1 v2 v3 N (0 : Int32) M
/-! X11_takesPut -/
def fX11_takesPut_l2_s (N : Nat) (v0 : Nat) (v1 : Int32) (k2 : Int32 → Mem → Option Mem) (v2 : Int32) (M : Mem) : Option Mem :=
  if inB (1 : Int32) 3268 = true then if (rI M (v0 + 1) (1 : Int32).toNatClampNeg) ≤ v2 then some M else (fX11_isIn v0 v1 v2 M).bind fun qj4 => if inB v2 256 = true then k2 (v2 + (1 : Int32)) (wI M (v0 + 16) v2.toNatClampNeg (vp_nar .boolean (bI qj4))) else none else none
def fX11_takesPut_l2 (N : Nat) (v0 : Nat) (v1 : Int32) : Nat → Int32 → Mem → Option Mem
  | 0, _, _ => none
  | n + 1, v2, M => fX11_takesPut_l2_s N v0 v1 (fX11_takesPut_l2 N v0 v1 n) v2 M
def fX11_takesPut (N : Nat) (v0 : Nat) (v1 : Int32) (M : Mem) : Option Mem :=
  fX11_takesPut_l2 N v0 v1 N (0 : Int32) M
/-! X11_cascade -/
def fX11_cascade_l449_s (N : Nat) (k282 : Int32 → Int32 → Int32 → Mem → Option (Int32 × Mem)) (v0 : Nat) (v3 : Int32) (v4 : Int32) (v6 : Int32) (v7 : Int32) (v8 : Int32) (v9 : Int32) (k449 : Int32 → Mem → Option (Int32 × Mem)) (v12 : Int32) (M : Mem) : Option (Int32 × Mem) :=
  if inB (1 : Int32) 3268 = true then if (rI M (v0 + 1) (1 : Int32).toNatClampNeg) ≤ v12 then k282 v7 v8 (v9 + (1 : Int32)) M else if inB v12 256 = true then if inB v12 256 = true then if inB v12 256 = true then if inB v12 256 = true then k449 (v12 + (1 : Int32)) (wI (wI M (v0 + 17) v12.toNatClampNeg (vp_nar .boolean (rI M (v0 + 16) v12.toNatClampNeg))) (v0 + 16) v12.toNatClampNeg (vp_nar .boolean (rI (wI M (v0 + 17) v12.toNatClampNeg (vp_nar .boolean (rI M (v0 + 16) v12.toNatClampNeg))) (v0 + 18) v12.toNatClampNeg))) else none else none else none else none else none
def fX11_cascade_l449 (N : Nat) (k282 : Int32 → Int32 → Int32 → Mem → Option (Int32 × Mem)) (v0 : Nat) (v3 : Int32) (v4 : Int32) (v6 : Int32) (v7 : Int32) (v8 : Int32) (v9 : Int32) : Nat → Int32 → Mem → Option (Int32 × Mem)
  | 0, _, _ => none
  | n + 1, v12, M => fX11_cascade_l449_s N k282 v0 v3 v4 v6 v7 v8 v9 (fX11_cascade_l449 N k282 v0 v3 v4 v6 v7 v8 v9 n) v12 M
def fX11_cascade_b406 (N : Nat) (k282 : Int32 → Int32 → Int32 → Mem → Option (Int32 × Mem)) (k323 : Int32 → Int32 → Int32 → Mem → Option (Int32 × Mem)) (v0 : Nat) (v3 : Int32) (v4 : Int32) (v6 : Int32) (v7 : Int32) (v8 : Int32) (v9 : Int32) (v10 : Int32) (v12 : Int32) (s0 : Bool) (s1 : Int32) (M : Mem) : Option (Int32 × Mem) :=
  k323 v7 (s1 + (bI s0)) (v12 + (1 : Int32)) M
def fX11_cascade_b388 (N : Nat) (k282 : Int32 → Int32 → Int32 → Mem → Option (Int32 × Mem)) (k323 : Int32 → Int32 → Int32 → Mem → Option (Int32 × Mem)) (v0 : Nat) (v3 : Int32) (v4 : Int32) (v6 : Int32) (v7 : Int32) (v8 : Int32) (v9 : Int32) (v10 : Int32) (v11 : Int32) (v12 : Int32) (s0 : Bool) (s1 : Int32) (s2 : Nat) (M : Mem) : Option (Int32 × Mem) :=
  if inB s1 256 = true then if inB v12 256 = true then if (rI (wI M s2 s1.toNatClampNeg (vp_nar .boolean (bI s0))) (v0 + 18) v12.toNatClampNeg) = 0 then fX11_cascade_b406 N k282 k323 v0 v3 v4 v6 v7 v8 v9 v10 v12 false v11 (wI M s2 s1.toNatClampNeg (vp_nar .boolean (bI s0))) else fX11_cascade_b406 N k282 k323 v0 v3 v4 v6 v7 v8 v9 v10 v12 true v11 (wI M s2 s1.toNatClampNeg (vp_nar .boolean (bI s0))) else none else none
def fX11_cascade_b387 (N : Nat) (k282 : Int32 → Int32 → Int32 → Mem → Option (Int32 × Mem)) (k323 : Int32 → Int32 → Int32 → Mem → Option (Int32 × Mem)) (v0 : Nat) (v3 : Int32) (v4 : Int32) (v6 : Int32) (v7 : Int32) (v8 : Int32) (v9 : Int32) (v10 : Int32) (v11 : Int32) (v12 : Int32) (s0 : Int32) (s1 : Nat) (M : Mem) : Option (Int32 × Mem) :=
  fX11_cascade_b388 N k282 k323 v0 v3 v4 v6 v7 v8 v9 v10 v11 v12 false s0 s1 M
def fX11_cascade_b351 (N : Nat) (k282 : Int32 → Int32 → Int32 → Mem → Option (Int32 × Mem)) (k323 : Int32 → Int32 → Int32 → Mem → Option (Int32 × Mem)) (v0 : Nat) (v3 : Int32) (v4 : Int32) (v6 : Int32) (v8 : Int32) (v9 : Int32) (v10 : Int32) (v11 : Int32) (v12 : Int32) (s0 : Bool) (s1 : Int32) (M : Mem) : Option (Int32 × Mem) :=
  if inB v12 256 = true then if (rI M (v0 + 17) v12.toNatClampNeg) = 0 then fX11_cascade_b387 N k282 k323 v0 v3 v4 v6 (s1 + (bI s0)) v8 v9 v10 v11 v12 v12 (v0 + 18) M else (fX11_isSaid N v0 v10 v6 v12 M).bind fun qj4 => if qj4.1 = true then fX11_cascade_b388 N k282 k323 v0 v3 v4 v6 (s1 + (bI s0)) v8 v9 v10 v11 v12 true v12 (v0 + 18) qj4.2 else fX11_cascade_b387 N k282 k323 v0 v3 v4 v6 (s1 + (bI s0)) v8 v9 v10 v11 v12 v12 (v0 + 18) qj4.2 else none
def fX11_cascade_l323_s (N : Nat) (k282 : Int32 → Int32 → Int32 → Mem → Option (Int32 × Mem)) (v0 : Nat) (v3 : Int32) (v4 : Int32) (v6 : Int32) (v8 : Int32) (v9 : Int32) (v10 : Int32) (k323 : Int32 → Int32 → Int32 → Mem → Option (Int32 × Mem)) (v7 : Int32) (v11 : Int32) (v12 : Int32) (M : Mem) : Option (Int32 × Mem) :=
  if inB (1 : Int32) 3268 = true then if (rI M (v0 + 1) (1 : Int32).toNatClampNeg) ≤ v12 then if v11 = 0 then if v4 = 0 then some ((v9 + (1 : Int32)), M) else if v4 = (1 : Int32) then some (v7, M) else some (v8, M) else fX11_cascade_l449 N k282 v0 v3 v4 v6 v7 v8 v9 N (0 : Int32) M else if inB v12 256 = true then if (rI M (v0 + 16) v12.toNatClampNeg) = 0 then fX11_cascade_b351 N k282 k323 v0 v3 v4 v6 v8 v9 v10 v11 v12 false v7 M else fX11_cascade_b351 N k282 k323 v0 v3 v4 v6 v8 v9 v10 v11 v12 true v7 M else none else none
def fX11_cascade_l323 (N : Nat) (k282 : Int32 → Int32 → Int32 → Mem → Option (Int32 × Mem)) (v0 : Nat) (v3 : Int32) (v4 : Int32) (v6 : Int32) (v8 : Int32) (v9 : Int32) (v10 : Int32) : Nat → Int32 → Int32 → Int32 → Mem → Option (Int32 × Mem)
  | 0, _, _, _, _ => none
  | n + 1, v7, v11, v12, M => fX11_cascade_l323_s N k282 v0 v3 v4 v6 v8 v9 v10 (fX11_cascade_l323 N k282 v0 v3 v4 v6 v8 v9 v10 n) v7 v11 v12 M
def fX11_cascade_l282_s (N : Nat) (v0 : Nat) (v3 : Int32) (v4 : Int32) (v6 : Int32) (k282 : Int32 → Int32 → Int32 → Mem → Option (Int32 × Mem)) (v7 : Int32) (v8 : Int32) (v9 : Int32) (M : Mem) : Option (Int32 × Mem) :=
  if inB v3 4 = true then if (rI M (v0 + 23) v3.toNatClampNeg) ≤ v9 then some ((-1 : Int32), M) else (fX11_inTray v0 v3 v9 M).bind fun qj3 => (fX11_layBits N v0 qj3 v6 M).bind fun qj4 => fX11_cascade_l323 N k282 v0 v3 v4 v6 (v8 + qj3) v9 qj3 N v7 (0 : Int32) (0 : Int32) qj4 else none
def fX11_cascade_l282 (N : Nat) (v0 : Nat) (v3 : Int32) (v4 : Int32) (v6 : Int32) : Nat → Int32 → Int32 → Int32 → Mem → Option (Int32 × Mem)
  | 0, _, _, _, _ => none
  | n + 1, v7, v8, v9, M => fX11_cascade_l282_s N v0 v3 v4 v6 (fX11_cascade_l282 N v0 v3 v4 v6 n) v7 v8 v9 M
def fX11_cascade_b266 (N : Nat) (k224 : Int32 → Mem → Option (Int32 × Mem)) (v0 : Nat) (v1 : Int32) (v2 : Int32) (v3 : Int32) (v4 : Int32) (v6 : Int32) (v7 : Int32) (s0 : Bool) (s1 : Int32) (s2 : Nat) (M : Mem) : Option (Int32 × Mem) :=
  if inB s1 256 = true then k224 (v7 + (1 : Int32)) (wI M s2 s1.toNatClampNeg (vp_nar .boolean (bI s0))) else none
def fX11_cascade_l224_s (N : Nat) (v0 : Nat) (v1 : Int32) (v2 : Int32) (v3 : Int32) (v4 : Int32) (v6 : Int32) (k224 : Int32 → Mem → Option (Int32 × Mem)) (v7 : Int32) (M : Mem) : Option (Int32 × Mem) :=
  if inB v2 4 = true then if (rI M (v0 + 23) v2.toNatClampNeg) ≤ v7 then fX11_cascade_l282 N v0 v3 v4 v6 N (0 : Int32) (0 : Int32) (0 : Int32) M else (fX11_inTray v0 v2 v7 M).bind fun qj4 => (fX11_inTray v0 v2 v7 M).bind fun qj5 => (fX11_isIn v0 v1 qj5 M).bind fun qj6 => if qj6 = true then fX11_cascade_b266 N k224 v0 v1 v2 v3 v4 v6 v7 false qj4 (v0 + 17) M else fX11_cascade_b266 N k224 v0 v1 v2 v3 v4 v6 v7 true qj4 (v0 + 17) M else none
def fX11_cascade_l224 (N : Nat) (v0 : Nat) (v1 : Int32) (v2 : Int32) (v3 : Int32) (v4 : Int32) (v6 : Int32) : Nat → Int32 → Mem → Option (Int32 × Mem)
  | 0, _, _ => none
  | n + 1, v7, M => fX11_cascade_l224_s N v0 v1 v2 v3 v4 v6 (fX11_cascade_l224 N v0 v1 v2 v3 v4 v6 n) v7 M
def fX11_cascade_l196_s (N : Nat) (v0 : Nat) (v1 : Int32) (v2 : Int32) (v3 : Int32) (v4 : Int32) (v6 : Int32) (k196 : Int32 → Mem → Option (Int32 × Mem)) (v7 : Int32) (M : Mem) : Option (Int32 × Mem) :=
  if inB (1 : Int32) 3268 = true then if (rI M (v0 + 1) (1 : Int32).toNatClampNeg) ≤ v7 then fX11_cascade_l224 N v0 v1 v2 v3 v4 v6 N (0 : Int32) M else if inB v7 256 = true then k196 (v7 + (1 : Int32)) (wI M (v0 + 17) v7.toNatClampNeg (vp_nar .boolean (0 : Int32))) else none else none
def fX11_cascade_l196 (N : Nat) (v0 : Nat) (v1 : Int32) (v2 : Int32) (v3 : Int32) (v4 : Int32) (v6 : Int32) : Nat → Int32 → Mem → Option (Int32 × Mem)
  | 0, _, _ => none
  | n + 1, v7, M => fX11_cascade_l196_s N v0 v1 v2 v3 v4 v6 (fX11_cascade_l196 N v0 v1 v2 v3 v4 v6 n) v7 M
def fX11_cascade_b171 (N : Nat) (v0 : Nat) (v1 : Int32) (v2 : Int32) (v3 : Int32) (v4 : Int32) (M : Mem) : Option (Int32 × Mem) :=
  if (rI M v0 5) ≤ 0 then (fX11_get v0 v1 (2 : Int32) M).bind fun qj1 => (fX11_takesPut N v0 v1 M).bind fun qj2 => fX11_cascade_l196 N v0 v1 v2 v3 v4 qj1 N (0 : Int32) qj2 else some ((0 : Int32), M)
def fX11_cascade_b154 (N : Nat) (v0 : Nat) (v1 : Int32) (v2 : Int32) (v3 : Int32) (v4 : Int32) (v5 : Bool) (M : Mem) : Option (Int32 × Mem) :=
  if (rI M v0 5) = 0 then if v5 = true then fX11_cascade_b171 N v0 v1 v2 v3 v4 M else fX11_cascade_b171 N v0 v1 v2 v3 v4 (wI M v0 5 (3 : Int32)) else fX11_cascade_b171 N v0 v1 v2 v3 v4 M
def fX11_cascade_l111_s (N : Nat) (v0 : Nat) (v1 : Int32) (v2 : Int32) (v3 : Int32) (v4 : Int32) (M : Mem) (k111 : Bool → Int32 → Option (Int32 × Mem)) (v5 : Bool) (v6 : Int32) : Option (Int32 × Mem) :=
  if v5 = true then if inB v3 4 = true then if (rI M (v0 + 23) v3.toNatClampNeg) ≤ v6 then fX11_cascade_b154 N v0 v1 v2 v3 v4 v5 M else if inB (((40 : Int32) * v3) + v6) 160 = true then (fX11_within (rJ M (v0 + 24) (((40 : Int32) * v3) + v6).toNatClampNeg) (1 : Int64) (64 : Int64) M).bind fun qj5 => k111 qj5 (v6 + (1 : Int32)) else none else none else fX11_cascade_b154 N v0 v1 v2 v3 v4 v5 M
def fX11_cascade_l111 (N : Nat) (v0 : Nat) (v1 : Int32) (v2 : Int32) (v3 : Int32) (v4 : Int32) (M : Mem) : Nat → Bool → Int32 → Option (Int32 × Mem)
  | 0, _, _ => none
  | n + 1, v5, v6 => fX11_cascade_l111_s N v0 v1 v2 v3 v4 M (fX11_cascade_l111 N v0 v1 v2 v3 v4 M n) v5 v6
def fX11_cascade_b106 (N : Nat) (v0 : Nat) (v1 : Int32) (v2 : Int32) (v3 : Int32) (v4 : Int32) (s0 : Bool) (M : Mem) : Option (Int32 × Mem) :=
  fX11_cascade_l111 N v0 v1 v2 v3 v4 M N s0 (0 : Int32)
def fX11_cascade_b105 (N : Nat) (v0 : Nat) (v1 : Int32) (v2 : Int32) (v3 : Int32) (v4 : Int32) (M : Mem) : Option (Int32 × Mem) :=
  fX11_cascade_b106 N v0 v1 v2 v3 v4 false M
def fX11_cascade_b72 (N : Nat) (v0 : Nat) (v1 : Int32) (v2 : Int32) (v3 : Int32) (v4 : Int32) (M : Mem) : Option (Int32 × Mem) :=
  if (rI M v0 5) = 0 then (fX11_within v4.toInt64 (0 : Int64) (2 : Int64) M).bind fun qj1 => if qj1 = true then (fX11_areNames N v0 v2 false M).bind fun qj2 => if qj2 = true then fX11_cascade_b106 N v0 v1 v2 v3 v4 true M else fX11_cascade_b105 N v0 v1 v2 v3 v4 M else fX11_cascade_b105 N v0 v1 v2 v3 v4 M else fX11_cascade_b105 N v0 v1 v2 v3 v4 M
def fX11_cascade_b67 (N : Nat) (v0 : Nat) (v1 : Int32) (v2 : Int32) (v3 : Int32) (v4 : Int32) (M : Mem) : Option (Int32 × Mem) :=
  fX11_cascade_b72 N v0 v1 v2 v3 v4 (wI M v0 5 (2 : Int32))
def fX11_cascade_b28 (N : Nat) (v0 : Nat) (v1 : Int32) (v2 : Int32) (v3 : Int32) (v4 : Int32) (s0 : Bool) (s1 : Nat) (M : Mem) : Option (Int32 × Mem) :=
  if (rI (wI M s1 5 (bI s0)) v0 5) = 0 then (fX11_get v0 v1 (0 : Int32) (wI M s1 5 (bI s0))).bind fun qj1 => if qj1 = 0 then if inB v2 4 = true then if (rI (wI M s1 5 (bI s0)) (v0 + 22) v2.toNatClampNeg) = (-1 : Int32) then fX11_cascade_b67 N v0 v1 v2 v3 v4 (wI M s1 5 (bI s0)) else if inB v3 4 = true then if (rI (wI M s1 5 (bI s0)) (v0 + 22) v3.toNatClampNeg) = (-1 : Int32) then fX11_cascade_b67 N v0 v1 v2 v3 v4 (wI M s1 5 (bI s0)) else fX11_cascade_b72 N v0 v1 v2 v3 v4 (wI M s1 5 (bI s0)) else none else none else fX11_cascade_b67 N v0 v1 v2 v3 v4 (wI M s1 5 (bI s0)) else fX11_cascade_b72 N v0 v1 v2 v3 v4 (wI M s1 5 (bI s0))
def fX11_cascade_b23 (N : Nat) (v0 : Nat) (v1 : Int32) (v2 : Int32) (v3 : Int32) (v4 : Int32) (s0 : Nat) (M : Mem) : Option (Int32 × Mem) :=
  fX11_cascade_b28 N v0 v1 v2 v3 v4 true s0 M
def fX11_cascade (N : Nat) (v0 : Nat) (v1 : Int32) (v2 : Int32) (v3 : Int32) (v4 : Int32) (M : Mem) : Option (Int32 × Mem) :=
  (fX11_isRow v0 v1 M).bind fun qj1 => if qj1 = true then (fX11_isTray v2 M).bind fun qj2 => if qj2 = true then (fX11_isTray v3 M).bind fun qj3 => if qj3 = true then fX11_cascade_b28 N v0 v1 v2 v3 v4 false v0 M else fX11_cascade_b23 N v0 v1 v2 v3 v4 v0 M else fX11_cascade_b23 N v0 v1 v2 v3 v4 v0 M else fX11_cascade_b23 N v0 v1 v2 v3 v4 v0 M
/-! X11_askFault -/
def fX11_askFault_b32  (v3 : Int32) (Mo : Mem) : Option Int32 :=
  some v3
def fX11_askFault_b30  (Mo : Mem) : Option Int32 :=
  fX11_askFault_b32 (2 : Int32) Mo
def fX11_askFault (v0 : Nat) (v1 : Int32) (v2 : Int32) (Mo : Mem) : Option Int32 :=
  (fX11_rowTrayFault v0 v1 v2 Mo).bind fun qj1 => if qj1 = 0 then (fX11_get v0 v1 (0 : Int32) Mo).bind fun qj2 => if qj2 = 0 then if inB v2 4 = true then if (rI Mo (v0 + 22) v2.toNatClampNeg) = (-1 : Int32) then fX11_askFault_b30 Mo else fX11_askFault_b32 qj1 Mo else none else fX11_askFault_b30 Mo else fX11_askFault_b32 qj1 Mo
/-! X11_learns -/
def fX11_learns_b119 (N : Nat) (k48 : Int32 → Mem → Option Mem) (v0 : Nat) (v1 : Int32) (v2 : Int32) (v3 : Int32) (M : Mem) : Option Mem :=
  k48 (v3 + (1 : Int32)) M
def fX11_learns_l77_s (N : Nat) (k48 : Int32 → Mem → Option Mem) (v0 : Nat) (v1 : Int32) (v2 : Int32) (v3 : Int32) (v4 : Int32) (k77 : Int32 → Mem → Option Mem) (v5 : Int32) (M : Mem) : Option Mem :=
  (fX11_get v0 v1 (2 : Int32) M).bind fun qj1 => if qj1 ≤ v5 then fX11_learns_b119 N k48 v0 v1 v2 v3 M else (fX11_says N v0 v1 v4 M).bind fun qj2 => if qj2.1 = true then (fX11_spot N v0 v1 v5 v4 qj2.2).bind fun qj4 => if inB qj4.1 64 = true then k77 (v5 + (1 : Int32)) (wI qj4.2 (v0 + 19) qj4.1.toNatClampNeg (vp_nar .boolean (1 : Int32))) else none else fX11_learns_b119 N k48 v0 v1 v2 v3 qj2.2
def fX11_learns_l77 (N : Nat) (k48 : Int32 → Mem → Option Mem) (v0 : Nat) (v1 : Int32) (v2 : Int32) (v3 : Int32) (v4 : Int32) : Nat → Int32 → Mem → Option Mem
  | 0, _, _ => none
  | n + 1, v5, M => fX11_learns_l77_s N k48 v0 v1 v2 v3 v4 (fX11_learns_l77 N k48 v0 v1 v2 v3 v4 n) v5 M
def fX11_learns_l48_s (N : Nat) (v0 : Nat) (v1 : Int32) (v2 : Int32) (k48 : Int32 → Mem → Option Mem) (v3 : Int32) (M : Mem) : Option Mem :=
  if inB v2 4 = true then if (rI M (v0 + 23) v2.toNatClampNeg) ≤ v3 then some M else (fX11_inTray v0 v2 v3 M).bind fun qj3 => if inB qj3 256 = true then fX11_learns_l77 N k48 v0 v1 v2 v3 qj3 N (0 : Int32) (wI M (v0 + 20) qj3.toNatClampNeg (vp_nar .boolean (1 : Int32))) else none else none
def fX11_learns_l48 (N : Nat) (v0 : Nat) (v1 : Int32) (v2 : Int32) : Nat → Int32 → Mem → Option Mem
  | 0, _, _ => none
  | n + 1, v3, M => fX11_learns_l48_s N v0 v1 v2 (fX11_learns_l48 N v0 v1 v2 n) v3 M
def fX11_learns_l23_s (N : Nat) (v0 : Nat) (v1 : Int32) (v2 : Int32) (k23 : Int32 → Mem → Option Mem) (v3 : Int32) (M : Mem) : Option Mem :=
  if inB (1 : Int32) 3268 = true then if (rI M (v0 + 1) (1 : Int32).toNatClampNeg) ≤ v3 then fX11_learns_l48 N v0 v1 v2 N (0 : Int32) M else if inB v3 256 = true then k23 (v3 + (1 : Int32)) (wI M (v0 + 20) v3.toNatClampNeg (vp_nar .boolean (0 : Int32))) else none else none
def fX11_learns_l23 (N : Nat) (v0 : Nat) (v1 : Int32) (v2 : Int32) : Nat → Int32 → Mem → Option Mem
  | 0, _, _ => none
  | n + 1, v3, M => fX11_learns_l23_s N v0 v1 v2 (fX11_learns_l23 N v0 v1 v2 n) v3 M
def fX11_learns_l2_s (N : Nat) (v0 : Nat) (v1 : Int32) (v2 : Int32) (k2 : Int32 → Mem → Option Mem) (v3 : Int32) (M : Mem) : Option Mem :=
  if (64 : Int32) ≤ v3 then fX11_learns_l23 N v0 v1 v2 N (0 : Int32) M else if inB v3 64 = true then k2 (v3 + (1 : Int32)) (wI M (v0 + 19) v3.toNatClampNeg (vp_nar .boolean (0 : Int32))) else none
def fX11_learns_l2 (N : Nat) (v0 : Nat) (v1 : Int32) (v2 : Int32) : Nat → Int32 → Mem → Option Mem
  | 0, _, _ => none
  | n + 1, v3, M => fX11_learns_l2_s N v0 v1 v2 (fX11_learns_l2 N v0 v1 v2 n) v3 M
def fX11_learns (N : Nat) (v0 : Nat) (v1 : Int32) (v2 : Int32) (M : Mem) : Option Mem :=
  fX11_learns_l2 N v0 v1 v2 N (0 : Int32) M
/-! X11_unknown -/
def fX11_unknown_b95 (N : Nat) (k5 : Int32 → Int32 → Mem → Option (Int32 × Mem)) (v0 : Nat) (v1 : Int32) (v2 : Int32) (v4 : Int32) (s0 : Bool) (s1 : Int32) (M : Mem) : Option (Int32 × Mem) :=
  k5 (s1 + (bI s0)) (v4 + (1 : Int32)) M
def fX11_unknown_b76 (N : Nat) (k5 : Int32 → Int32 → Mem → Option (Int32 × Mem)) (k46 : Bool → Int32 → Mem → Option (Int32 × Mem)) (v0 : Nat) (v1 : Int32) (v2 : Int32) (v3 : Int32) (v4 : Int32) (v5 : Int32) (v7 : Int32) (s0 : Bool) (M : Mem) : Option (Int32 × Mem) :=
  k46 s0 (v7 + (1 : Int32)) M
def fX11_unknown_b75 (N : Nat) (k5 : Int32 → Int32 → Mem → Option (Int32 × Mem)) (k46 : Bool → Int32 → Mem → Option (Int32 × Mem)) (v0 : Nat) (v1 : Int32) (v2 : Int32) (v3 : Int32) (v4 : Int32) (v5 : Int32) (v7 : Int32) (M : Mem) : Option (Int32 × Mem) :=
  fX11_unknown_b76 N k5 k46 v0 v1 v2 v3 v4 v5 v7 false M
def fX11_unknown_l46_s (N : Nat) (k5 : Int32 → Int32 → Mem → Option (Int32 × Mem)) (v0 : Nat) (v1 : Int32) (v2 : Int32) (v3 : Int32) (v4 : Int32) (v5 : Int32) (k46 : Bool → Int32 → Mem → Option (Int32 × Mem)) (v6 : Bool) (v7 : Int32) (M : Mem) : Option (Int32 × Mem) :=
  if v4 ≤ v7 then if v6 = true then fX11_unknown_b95 N k5 v0 v1 v2 v4 true v3 M else fX11_unknown_b95 N k5 v0 v1 v2 v4 false v3 M else if v6 = true then (fX11_spot N v0 v1 v7 v2 M).bind fun qj1 => if qj1.1 = v5 then fX11_unknown_b75 N k5 k46 v0 v1 v2 v3 v4 v5 v7 qj1.2 else fX11_unknown_b76 N k5 k46 v0 v1 v2 v3 v4 v5 v7 true qj1.2 else fX11_unknown_b75 N k5 k46 v0 v1 v2 v3 v4 v5 v7 M
def fX11_unknown_l46 (N : Nat) (k5 : Int32 → Int32 → Mem → Option (Int32 × Mem)) (v0 : Nat) (v1 : Int32) (v2 : Int32) (v3 : Int32) (v4 : Int32) (v5 : Int32) : Nat → Bool → Int32 → Mem → Option (Int32 × Mem)
  | 0, _, _, _ => none
  | n + 1, v6, v7, M => fX11_unknown_l46_s N k5 v0 v1 v2 v3 v4 v5 (fX11_unknown_l46 N k5 v0 v1 v2 v3 v4 v5 n) v6 v7 M
def fX11_unknown_b41 (N : Nat) (k5 : Int32 → Int32 → Mem → Option (Int32 × Mem)) (v0 : Nat) (v1 : Int32) (v2 : Int32) (v3 : Int32) (v4 : Int32) (v5 : Int32) (s0 : Bool) (M : Mem) : Option (Int32 × Mem) :=
  fX11_unknown_l46 N k5 v0 v1 v2 v3 v4 v5 N s0 (0 : Int32) M
def fX11_unknown_l5_s (N : Nat) (v0 : Nat) (v1 : Int32) (v2 : Int32) (k5 : Int32 → Int32 → Mem → Option (Int32 × Mem)) (v3 : Int32) (v4 : Int32) (M : Mem) : Option (Int32 × Mem) :=
  (fX11_get v0 v1 (2 : Int32) M).bind fun qj1 => if qj1 ≤ v4 then some (v3, M) else (fX11_spot N v0 v1 v4 v2 M).bind fun qj2 => if inB qj2.1 64 = true then if (rI qj2.2 (v0 + 19) qj2.1.toNatClampNeg) = 0 then fX11_unknown_b41 N k5 v0 v1 v2 v3 v4 qj2.1 true qj2.2 else fX11_unknown_b41 N k5 v0 v1 v2 v3 v4 qj2.1 false qj2.2 else none
def fX11_unknown_l5 (N : Nat) (v0 : Nat) (v1 : Int32) (v2 : Int32) : Nat → Int32 → Int32 → Mem → Option (Int32 × Mem)
  | 0, _, _, _ => none
  | n + 1, v3, v4, M => fX11_unknown_l5_s N v0 v1 v2 (fX11_unknown_l5 N v0 v1 v2 n) v3 v4 M
def fX11_unknown (N : Nat) (v0 : Nat) (v1 : Int32) (v2 : Int32) (M : Mem) : Option (Int32 × Mem) :=
  fX11_unknown_l5 N v0 v1 v2 N (0 : Int32) (0 : Int32) M
/-! X11_learn -/
def fX11_learn_b160 (N : Nat) (v4 : Int32) (M : Mem) : Option (Int32 × Mem) :=
  some (v4, M)
def fX11_learn_b151 (N : Nat) (k104 : Int32 → Int32 → Mem → Option (Int32 × Mem)) (v0 : Nat) (v1 : Int32) (v3 : Int32) (v5 : Int32) (s0 : Bool) (s1 : Int32) (M : Mem) : Option (Int32 × Mem) :=
  k104 (s1 + (bI s0)) (v5 + (1 : Int32)) M
def fX11_learn_b146 (N : Nat) (k104 : Int32 → Int32 → Mem → Option (Int32 × Mem)) (v0 : Nat) (v1 : Int32) (v3 : Int32) (v5 : Int32) (s0 : Int32) (M : Mem) : Option (Int32 × Mem) :=
  fX11_learn_b151 N k104 v0 v1 v3 v5 true s0 M
def fX11_learn_b150 (N : Nat) (k104 : Int32 → Int32 → Mem → Option (Int32 × Mem)) (v0 : Nat) (v1 : Int32) (v3 : Int32) (v5 : Int32) (s0 : Int32) (M : Mem) : Option (Int32 × Mem) :=
  fX11_learn_b151 N k104 v0 v1 v3 v5 false s0 M
def fX11_learn_l104_s (N : Nat) (v0 : Nat) (v1 : Int32) (v3 : Int32) (k104 : Int32 → Int32 → Mem → Option (Int32 × Mem)) (v4 : Int32) (v5 : Int32) (M : Mem) : Option (Int32 × Mem) :=
  if inB (1 : Int32) 3268 = true then if (rI M (v0 + 1) (1 : Int32).toNatClampNeg) ≤ v5 then fX11_learn_b160 N v4 M else if v3 ≤ 0 then fX11_learn_b160 N v4 M else (fX11_unknown N v0 v1 v5 M).bind fun qj3 => if qj3.1 = 0 then if v3 = (2 : Int32) then if inB v5 256 = true then if (rI qj3.2 (v0 + 20) v5.toNatClampNeg) = 0 then fX11_learn_b146 N k104 v0 v1 v3 v5 v4 qj3.2 else fX11_learn_b150 N k104 v0 v1 v3 v5 v4 qj3.2 else none else fX11_learn_b146 N k104 v0 v1 v3 v5 v4 qj3.2 else fX11_learn_b150 N k104 v0 v1 v3 v5 v4 qj3.2 else none
def fX11_learn_l104 (N : Nat) (v0 : Nat) (v1 : Int32) (v3 : Int32) : Nat → Int32 → Int32 → Mem → Option (Int32 × Mem)
  | 0, _, _, _ => none
  | n + 1, v4, v5, M => fX11_learn_l104_s N v0 v1 v3 (fX11_learn_l104 N v0 v1 v3 n) v4 v5 M
def fX11_learn_b101 (N : Nat) (v0 : Nat) (v1 : Int32) (v3 : Int32) (v4 : Int32) (M : Mem) : Option (Int32 × Mem) :=
  fX11_learn_l104 N v0 v1 v3 N v4 (0 : Int32) M
def fX11_learn_b92 (N : Nat) (k64 : Int32 → Int32 → Option (Int32 × Mem)) (v0 : Nat) (v1 : Int32) (v3 : Int32) (v5 : Int32) (s0 : Bool) (s1 : Int32) (M : Mem) : Option (Int32 × Mem) :=
  k64 (s1 + (bI s0)) (v5 + (1 : Int32))
def fX11_learn_l64_s (N : Nat) (v0 : Nat) (v1 : Int32) (v3 : Int32) (M : Mem) (k64 : Int32 → Int32 → Option (Int32 × Mem)) (v4 : Int32) (v5 : Int32) : Option (Int32 × Mem) :=
  if (64 : Int32) ≤ v5 then fX11_learn_b101 N v0 v1 v3 v4 M else if v3 = 0 then if inB v5 64 = true then if (rI M (v0 + 19) v5.toNatClampNeg) = 0 then fX11_learn_b92 N k64 v0 v1 v3 v5 false v4 M else fX11_learn_b92 N k64 v0 v1 v3 v5 true v4 M else none else fX11_learn_b101 N v0 v1 v3 v4 M
def fX11_learn_l64 (N : Nat) (v0 : Nat) (v1 : Int32) (v3 : Int32) (M : Mem) : Nat → Int32 → Int32 → Option (Int32 × Mem)
  | 0, _, _ => none
  | n + 1, v4, v5 => fX11_learn_l64_s N v0 v1 v3 M (fX11_learn_l64 N v0 v1 v3 M n) v4 v5
def fX11_learn_b43 (N : Nat) (v0 : Nat) (v1 : Int32) (v2 : Int32) (v3 : Int32) (M : Mem) : Option (Int32 × Mem) :=
  if (rI M v0 5) ≤ 0 then (fX11_learns N v0 v1 v2 M).bind fun qj1 => fX11_learn_l64 N v0 v1 v3 qj1 N (0 : Int32) (0 : Int32) else some ((0 : Int32), M)
def fX11_learn_b38 (N : Nat) (v0 : Nat) (v1 : Int32) (v2 : Int32) (v3 : Int32) (M : Mem) : Option (Int32 × Mem) :=
  fX11_learn_b43 N v0 v1 v2 v3 (wI M v0 5 (3 : Int32))
def fX11_learn (N : Nat) (v0 : Nat) (v1 : Int32) (v2 : Int32) (v3 : Int32) (M : Mem) : Option (Int32 × Mem) :=
  (fX11_askFault v0 v1 v2 M).bind fun qj1 => if (rI (wI M v0 5 qj1) v0 5) = 0 then (fX11_within v3.toInt64 (0 : Int64) (2 : Int64) (wI M v0 5 qj1)).bind fun qj2 => if qj2 = true then (fX11_areNames N v0 v2 false (wI M v0 5 qj1)).bind fun qj3 => if qj3 = true then fX11_learn_b43 N v0 v1 v2 v3 (wI M v0 5 qj1) else fX11_learn_b38 N v0 v1 v2 v3 (wI M v0 5 qj1) else fX11_learn_b38 N v0 v1 v2 v3 (wI M v0 5 qj1) else fX11_learn_b43 N v0 v1 v2 v3 (wI M v0 5 qj1)
/-! X11_ask -/
def fX11_ask_b96 (N : Nat) (k51 : Int32 → Int32 → Mem → Option (Int32 × Mem)) (v0 : Nat) (v1 : Int32) (v3 : Int32) (v4 : Int32) (M : Mem) : Option (Int32 × Mem) :=
  k51 v3 (v4 + (1 : Int32)) M
def fX11_ask_b93 (N : Nat) (k51 : Int32 → Int32 → Mem → Option (Int32 × Mem)) (v0 : Nat) (v1 : Int32) (v4 : Int32) (M : Mem) : Option (Int32 × Mem) :=
  fX11_ask_b96 N k51 v0 v1 v4 v4 M
def fX11_ask_l51_s (N : Nat) (v0 : Nat) (v1 : Int32) (k51 : Int32 → Int32 → Mem → Option (Int32 × Mem)) (v3 : Int32) (v4 : Int32) (M : Mem) : Option (Int32 × Mem) :=
  if inB (1 : Int32) 3268 = true then if (rI M (v0 + 1) (1 : Int32).toNatClampNeg) ≤ v4 then some (v3, M) else if inB v4 256 = true then if (rI M (v0 + 20) v4.toNatClampNeg) = 0 then if v3 = (-1 : Int32) then fX11_ask_b93 N k51 v0 v1 v4 M else (fX11_unknown N v0 v1 v4 M).bind fun qj5 => (fX11_unknown N v0 v1 v3 qj5.2).bind fun qj6 => if qj5.1 ≤ qj6.1 then fX11_ask_b96 N k51 v0 v1 v3 v4 qj6.2 else fX11_ask_b93 N k51 v0 v1 v4 qj6.2 else fX11_ask_b96 N k51 v0 v1 v3 v4 M else none else none
def fX11_ask_l51 (N : Nat) (v0 : Nat) (v1 : Int32) : Nat → Int32 → Int32 → Mem → Option (Int32 × Mem)
  | 0, _, _, _ => none
  | n + 1, v3, v4, M => fX11_ask_l51_s N v0 v1 (fX11_ask_l51 N v0 v1 n) v3 v4 M
def fX11_ask_b31 (N : Nat) (v0 : Nat) (v1 : Int32) (v2 : Int32) (M : Mem) : Option (Int32 × Mem) :=
  if (rI M v0 5) ≤ 0 then (fX11_learns N v0 v1 v2 M).bind fun qj1 => fX11_ask_l51 N v0 v1 N (-1 : Int32) (0 : Int32) qj1 else some ((0 : Int32), M)
def fX11_ask (N : Nat) (v0 : Nat) (v1 : Int32) (v2 : Int32) (M : Mem) : Option (Int32 × Mem) :=
  (fX11_askFault v0 v1 v2 M).bind fun qj1 => if (rI (wI M v0 5 qj1) v0 5) = 0 then (fX11_areNames N v0 v2 false (wI M v0 5 qj1)).bind fun qj2 => if qj2 = true then fX11_ask_b31 N v0 v1 v2 (wI M v0 5 qj1) else fX11_ask_b31 N v0 v1 v2 (wI (wI M v0 5 qj1) v0 5 (3 : Int32)) else fX11_ask_b31 N v0 v1 v2 (wI M v0 5 qj1)
/-! X11_liesWith -/
def fX11_liesWith_b138 (N : Nat) (k84 : Int32 → Int32 → Mem → Option (Int32 × Mem)) (v0 : Nat) (v1 : Int32) (v2 : Int32) (v4 : Int32) (s0 : Bool) (s1 : Int32) (M : Mem) : Option (Int32 × Mem) :=
  k84 (s1 + (bI s0)) (v4 + (1 : Int32)) M
def fX11_liesWith_b137 (N : Nat) (k84 : Int32 → Int32 → Mem → Option (Int32 × Mem)) (v0 : Nat) (v1 : Int32) (v2 : Int32) (v4 : Int32) (s0 : Int32) (M : Mem) : Option (Int32 × Mem) :=
  fX11_liesWith_b138 N k84 v0 v1 v2 v4 false s0 M
def fX11_liesWith_l84_s (N : Nat) (v0 : Nat) (v1 : Int32) (v2 : Int32) (k84 : Int32 → Int32 → Mem → Option (Int32 × Mem)) (v3 : Int32) (v4 : Int32) (M : Mem) : Option (Int32 × Mem) :=
  if inB (1 : Int32) 3268 = true then if (rI M (v0 + 1) (1 : Int32).toNatClampNeg) ≤ v4 then some (v3, M) else if v4 = v2 then fX11_liesWith_b137 N k84 v0 v1 v2 v4 v3 M else (fX11_isIn v0 v1 v4 M).bind fun qj3 => if qj3 = true then fX11_liesWith_b137 N k84 v0 v1 v2 v4 v3 M else (fX11_get v0 v1 (1 : Int32) M).bind fun qj4 => (fX11_get v0 v1 (2 : Int32) M).bind fun qj5 => (fX11_isSaid N v0 qj4 qj5 v4 M).bind fun qj6 => if qj6.1 = true then fX11_liesWith_b138 N k84 v0 v1 v2 v4 true v3 qj6.2 else fX11_liesWith_b137 N k84 v0 v1 v2 v4 v3 qj6.2 else none
def fX11_liesWith_l84 (N : Nat) (v0 : Nat) (v1 : Int32) (v2 : Int32) : Nat → Int32 → Int32 → Mem → Option (Int32 × Mem)
  | 0, _, _, _ => none
  | n + 1, v3, v4, M => fX11_liesWith_l84_s N v0 v1 v2 (fX11_liesWith_l84 N v0 v1 v2 n) v3 v4 M
def fX11_liesWith_l50_s (N : Nat) (v0 : Nat) (v1 : Int32) (v2 : Int32) (k50 : Int32 → Mem → Option (Int32 × Mem)) (v3 : Int32) (M : Mem) : Option (Int32 × Mem) :=
  (fX11_get v0 v1 (2 : Int32) M).bind fun qj1 => if qj1 ≤ v3 then fX11_liesWith_l84 N v0 v1 v2 N (0 : Int32) (0 : Int32) M else (fX11_spot N v0 v1 v3 v2 M).bind fun qj3 => if inB qj3.1 64 = true then k50 (v3 + (1 : Int32)) (wI qj3.2 (v0 + 15) qj3.1.toNatClampNeg (vp_nar .boolean (1 : Int32))) else none
def fX11_liesWith_l50 (N : Nat) (v0 : Nat) (v1 : Int32) (v2 : Int32) : Nat → Int32 → Mem → Option (Int32 × Mem)
  | 0, _, _ => none
  | n + 1, v3, M => fX11_liesWith_l50_s N v0 v1 v2 (fX11_liesWith_l50 N v0 v1 v2 n) v3 M
def fX11_liesWith_b41 (N : Nat) (k2 : Int32 → Mem → Option (Int32 × Mem)) (v0 : Nat) (v1 : Int32) (v2 : Int32) (v3 : Int32) (s0 : Bool) (s1 : Int32) (s2 : Nat) (M : Mem) : Option (Int32 × Mem) :=
  if inB s1 64 = true then k2 (v3 + (1 : Int32)) (wI M s2 s1.toNatClampNeg (vp_nar .boolean (bI s0))) else none
def fX11_liesWith_b40 (N : Nat) (k2 : Int32 → Mem → Option (Int32 × Mem)) (v0 : Nat) (v1 : Int32) (v2 : Int32) (v3 : Int32) (s0 : Int32) (s1 : Nat) (M : Mem) : Option (Int32 × Mem) :=
  fX11_liesWith_b41 N k2 v0 v1 v2 v3 false s0 s1 M
def fX11_liesWith_l2_s (N : Nat) (v0 : Nat) (v1 : Int32) (v2 : Int32) (k2 : Int32 → Mem → Option (Int32 × Mem)) (v3 : Int32) (M : Mem) : Option (Int32 × Mem) :=
  if (64 : Int32) ≤ v3 then fX11_liesWith_l50 N v0 v1 v2 N (0 : Int32) M else (fX11_get v0 v1 (1 : Int32) M).bind fun qj2 => if qj2 ≤ v3 then fX11_liesWith_b40 N k2 v0 v1 v2 v3 v3 (v0 + 15) M else (fX11_get v0 v1 ((10 : Int32) + v3) M).bind fun qj3 => if qj3 = (1 : Int32) then fX11_liesWith_b41 N k2 v0 v1 v2 v3 true v3 (v0 + 15) M else fX11_liesWith_b40 N k2 v0 v1 v2 v3 v3 (v0 + 15) M
def fX11_liesWith_l2 (N : Nat) (v0 : Nat) (v1 : Int32) (v2 : Int32) : Nat → Int32 → Mem → Option (Int32 × Mem)
  | 0, _, _ => none
  | n + 1, v3, M => fX11_liesWith_l2_s N v0 v1 v2 (fX11_liesWith_l2 N v0 v1 v2 n) v3 M
def fX11_liesWith (N : Nat) (v0 : Nat) (v1 : Int32) (v2 : Int32) (M : Mem) : Option (Int32 × Mem) :=
  fX11_liesWith_l2 N v0 v1 v2 N (0 : Int32) M
/-! X11_worst -/
def fX11_worst_b111 (N : Nat) (k61 : Int32 → Int32 → Int32 → Mem → Option (Int32 × Mem)) (v0 : Nat) (v1 : Int32) (v2 : Int32) (v3 : Int32) (v4 : Int32) (v5 : Int32) (M : Mem) : Option (Int32 × Mem) :=
  k61 v3 v4 (v5 + (1 : Int32)) M
def fX11_worst_l61_s (N : Nat) (v0 : Nat) (v1 : Int32) (v2 : Int32) (k61 : Int32 → Int32 → Int32 → Mem → Option (Int32 × Mem)) (v3 : Int32) (v4 : Int32) (v5 : Int32) (M : Mem) : Option (Int32 × Mem) :=
  if inB (1 : Int32) 3268 = true then if (rI M (v0 + 1) (1 : Int32).toNatClampNeg) ≤ v5 then if v2 = 0 then some (v3, M) else some (v4, M) else (fX11_isIn v0 v1 v5 M).bind fun qj3 => if qj3 = true then fX11_worst_b111 N k61 v0 v1 v2 v3 v4 v5 M else (fX11_liesWith N v0 v1 v5 M).bind fun qj4 => if v4 < qj4.1 then fX11_worst_b111 N k61 v0 v1 v2 v5 qj4.1 v5 qj4.2 else fX11_worst_b111 N k61 v0 v1 v2 v3 v4 v5 qj4.2 else none
def fX11_worst_l61 (N : Nat) (v0 : Nat) (v1 : Int32) (v2 : Int32) : Nat → Int32 → Int32 → Int32 → Mem → Option (Int32 × Mem)
  | 0, _, _, _, _ => none
  | n + 1, v3, v4, v5, M => fX11_worst_l61_s N v0 v1 v2 (fX11_worst_l61 N v0 v1 v2 n) v3 v4 v5 M
def fX11_worst_b41 (N : Nat) (v0 : Nat) (v1 : Int32) (v2 : Int32) (s0 : Int32) (s1 : Nat) (M : Mem) : Option (Int32 × Mem) :=
  if (rI (wI M s1 5 s0) v0 5) ≤ 0 then fX11_worst_l61 N v0 v1 v2 N (-1 : Int32) (-1 : Int32) (0 : Int32) (wI M s1 5 s0) else some ((0 : Int32), wI M s1 5 s0)
def fX11_worst (N : Nat) (v0 : Nat) (v1 : Int32) (v2 : Int32) (M : Mem) : Option (Int32 × Mem) :=
  (fX11_isRow v0 v1 M).bind fun qj1 => if qj1 = true then (fX11_get v0 v1 (0 : Int32) M).bind fun qj2 => if qj2 = 0 then (fX11_within v2.toInt64 (0 : Int64) (1 : Int64) M).bind fun qj3 => if qj3 = true then fX11_worst_b41 N v0 v1 v2 (0 : Int32) v0 M else fX11_worst_b41 N v0 v1 v2 (3 : Int32) v0 M else fX11_worst_b41 N v0 v1 v2 (2 : Int32) v0 M else fX11_worst_b41 N v0 v1 v2 (1 : Int32) v0 M
/-! X11_blame -/
def fX11_blame_b242 (N : Nat) (k98 : Int32 → Mem → Option (Int32 × Mem)) (v0 : Nat) (v1 : Int32) (v2 : Int32) (v3 : Int32) (v4 : Int32) (M : Mem) : Option (Int32 × Mem) :=
  k98 (v4 + (1 : Int32)) M
def fX11_blame_l199_s (N : Nat) (k98 : Int32 → Mem → Option (Int32 × Mem)) (v0 : Nat) (v1 : Int32) (v2 : Int32) (v3 : Int32) (v4 : Int32) (v5 : Int32) (k199 : Int32 → Mem → Option (Int32 × Mem)) (v6 : Int32) (M : Mem) : Option (Int32 × Mem) :=
  if v6 < 0 then fX11_blame_b242 N k98 v0 v1 v2 v3 v4 M else if inB (v6 ||| v5) 64 = true then if inB v6 64 = true then if inB (v6 ||| v5) 64 = true then k199 (v6 + (-1 : Int32)) (wI M (v0 + 21) ((v6 ||| v5).toNatClampNeg) (minI (rI M (v0 + 21) (v6 ||| v5).toNatClampNeg) ((rI M (v0 + 21) v6.toNatClampNeg) + (1 : Int32)))) else none else none else none
def fX11_blame_l199 (N : Nat) (k98 : Int32 → Mem → Option (Int32 × Mem)) (v0 : Nat) (v1 : Int32) (v2 : Int32) (v3 : Int32) (v4 : Int32) (v5 : Int32) : Nat → Int32 → Mem → Option (Int32 × Mem)
  | 0, _, _ => none
  | n + 1, v6, M => fX11_blame_l199_s N k98 v0 v1 v2 v3 v4 v5 (fX11_blame_l199 N k98 v0 v1 v2 v3 v4 v5 n) v6 M
def fX11_blame_b184 (N : Nat) (k98 : Int32 → Mem → Option (Int32 × Mem)) (k128 : Int32 → Int32 → Mem → Option (Int32 × Mem)) (k144 : Int32 → Int32 → Mem → Option (Int32 × Mem)) (v0 : Nat) (v1 : Int32) (v2 : Int32) (v3 : Int32) (v4 : Int32) (v5 : Int32) (v6 : Int32) (v7 : Int32) (M : Mem) : Option (Int32 × Mem) :=
  k144 v5 (v7 + (1 : Int32)) M
def fX11_blame_l144_s (N : Nat) (k98 : Int32 → Mem → Option (Int32 × Mem)) (k128 : Int32 → Int32 → Mem → Option (Int32 × Mem)) (v0 : Nat) (v1 : Int32) (v2 : Int32) (v3 : Int32) (v4 : Int32) (v6 : Int32) (k144 : Int32 → Int32 → Mem → Option (Int32 × Mem)) (v5 : Int32) (v7 : Int32) (M : Mem) : Option (Int32 × Mem) :=
  (fX11_get v0 v1 (2 : Int32) M).bind fun qj1 => if qj1 ≤ v7 then k128 v5 (v6 + (1 : Int32)) M else (fX11_spot N v0 v1 v7 v4 M).bind fun qj2 => (fX11_spot N v0 v1 v6 v2 qj2.2).bind fun qj3 => if qj2.1 = qj3.1 then fX11_blame_b184 N k98 k128 k144 v0 v1 v2 v3 v4 (v5 ||| (shlI (1 : Int32) v6)) v6 v7 qj3.2 else fX11_blame_b184 N k98 k128 k144 v0 v1 v2 v3 v4 v5 v6 v7 qj3.2
def fX11_blame_l144 (N : Nat) (k98 : Int32 → Mem → Option (Int32 × Mem)) (k128 : Int32 → Int32 → Mem → Option (Int32 × Mem)) (v0 : Nat) (v1 : Int32) (v2 : Int32) (v3 : Int32) (v4 : Int32) (v6 : Int32) : Nat → Int32 → Int32 → Mem → Option (Int32 × Mem)
  | 0, _, _, _ => none
  | n + 1, v5, v7, M => fX11_blame_l144_s N k98 k128 v0 v1 v2 v3 v4 v6 (fX11_blame_l144 N k98 k128 v0 v1 v2 v3 v4 v6 n) v5 v7 M
def fX11_blame_l128_s (N : Nat) (k98 : Int32 → Mem → Option (Int32 × Mem)) (v0 : Nat) (v1 : Int32) (v2 : Int32) (v3 : Int32) (v4 : Int32) (k128 : Int32 → Int32 → Mem → Option (Int32 × Mem)) (v5 : Int32) (v6 : Int32) (M : Mem) : Option (Int32 × Mem) :=
  (fX11_get v0 v1 (2 : Int32) M).bind fun qj1 => if (qj1 - (1 : Int32)) < v6 then fX11_blame_l199 N k98 v0 v1 v2 v3 v4 v5 N v3 M else fX11_blame_l144 N k98 k128 v0 v1 v2 v3 v4 v6 N v5 (0 : Int32) M
def fX11_blame_l128 (N : Nat) (k98 : Int32 → Mem → Option (Int32 × Mem)) (v0 : Nat) (v1 : Int32) (v2 : Int32) (v3 : Int32) (v4 : Int32) : Nat → Int32 → Int32 → Mem → Option (Int32 × Mem)
  | 0, _, _, _ => none
  | n + 1, v5, v6, M => fX11_blame_l128_s N k98 v0 v1 v2 v3 v4 (fX11_blame_l128 N k98 v0 v1 v2 v3 v4 n) v5 v6 M
def fX11_blame_l98_s (N : Nat) (v0 : Nat) (v1 : Int32) (v2 : Int32) (v3 : Int32) (k98 : Int32 → Mem → Option (Int32 × Mem)) (v4 : Int32) (M : Mem) : Option (Int32 × Mem) :=
  if inB (1 : Int32) 3268 = true then if (rI M (v0 + 1) (1 : Int32).toNatClampNeg) ≤ v4 then if inB v3 64 = true then if (rI M (v0 + 21) v3.toNatClampNeg) < (1000 : Int32) then if inB v3 64 = true then some ((rI M (v0 + 21) v3.toNatClampNeg), M) else none else some ((-1 : Int32), M) else none else (fX11_isIn v0 v1 v4 M).bind fun qj7 => if qj7 = true then fX11_blame_l128 N k98 v0 v1 v2 v3 v4 N (0 : Int32) (0 : Int32) M else fX11_blame_b242 N k98 v0 v1 v2 v3 v4 M else none
def fX11_blame_l98 (N : Nat) (v0 : Nat) (v1 : Int32) (v2 : Int32) (v3 : Int32) : Nat → Int32 → Mem → Option (Int32 × Mem)
  | 0, _, _ => none
  | n + 1, v4, M => fX11_blame_l98_s N v0 v1 v2 v3 (fX11_blame_l98 N v0 v1 v2 v3 n) v4 M
def fX11_blame_l66_s (N : Nat) (v0 : Nat) (v1 : Int32) (v2 : Int32) (v3 : Int32) (k66 : Int32 → Mem → Option (Int32 × Mem)) (v4 : Int32) (M : Mem) : Option (Int32 × Mem) :=
  if v3 < v4 then if inB (0 : Int32) 64 = true then fX11_blame_l98 N v0 v1 v2 v3 N (0 : Int32) (wI M (v0 + 21) ((0 : Int32).toNatClampNeg) (0 : Int32)) else none else if inB v4 64 = true then k66 (v4 + (1 : Int32)) (wI M (v0 + 21) v4.toNatClampNeg (1000 : Int32)) else none
def fX11_blame_l66 (N : Nat) (v0 : Nat) (v1 : Int32) (v2 : Int32) (v3 : Int32) : Nat → Int32 → Mem → Option (Int32 × Mem)
  | 0, _, _ => none
  | n + 1, v4, M => fX11_blame_l66_s N v0 v1 v2 v3 (fX11_blame_l66 N v0 v1 v2 v3 n) v4 M
def fX11_blame_b40 (N : Nat) (v0 : Nat) (v1 : Int32) (v2 : Int32) (s0 : Int32) (s1 : Nat) (M : Mem) : Option (Int32 × Mem) :=
  if (rI (wI M s1 5 s0) v0 5) ≤ 0 then (fX11_get v0 v1 (2 : Int32) (wI M s1 5 s0)).bind fun qj1 => fX11_blame_l66 N v0 v1 v2 ((shlI (1 : Int32) qj1) - (1 : Int32)) N (1 : Int32) (wI M s1 5 s0) else some ((0 : Int32), wI M s1 5 s0)
def fX11_blame (N : Nat) (v0 : Nat) (v1 : Int32) (v2 : Int32) (M : Mem) : Option (Int32 × Mem) :=
  (fX11_isRow v0 v1 M).bind fun qj1 => if qj1 = true then (fX11_get v0 v1 (0 : Int32) M).bind fun qj2 => if qj2 = 0 then (fX11_isName v0 v2.toInt64 M).bind fun qj3 => if qj3 = true then fX11_blame_b40 N v0 v1 v2 (0 : Int32) v0 M else fX11_blame_b40 N v0 v1 v2 (3 : Int32) v0 M else fX11_blame_b40 N v0 v1 v2 (2 : Int32) v0 M else fX11_blame_b40 N v0 v1 v2 (1 : Int32) v0 M
/-! X11_liesBy -/
def fX11_liesBy_b51 (N : Nat) (k12 : Int32 → Int32 → Mem → Option (Int32 × Mem)) (v0 : Nat) (v1 : Int32) (v2 : Int32) (v3 : Int32) (v5 : Int32) (s0 : Bool) (s1 : Int32) (M : Mem) : Option (Int32 × Mem) :=
  k12 (s1 + (bI s0)) (v5 + (1 : Int32)) M
def fX11_liesBy_b50 (N : Nat) (k12 : Int32 → Int32 → Mem → Option (Int32 × Mem)) (v0 : Nat) (v1 : Int32) (v2 : Int32) (v3 : Int32) (v5 : Int32) (s0 : Int32) (M : Mem) : Option (Int32 × Mem) :=
  fX11_liesBy_b51 N k12 v0 v1 v2 v3 v5 false s0 M
def fX11_liesBy_l12_s (N : Nat) (v0 : Nat) (v1 : Int32) (v2 : Int32) (v3 : Int32) (k12 : Int32 → Int32 → Mem → Option (Int32 × Mem)) (v4 : Int32) (v5 : Int32) (M : Mem) : Option (Int32 × Mem) :=
  if inB (1 : Int32) 3268 = true then if (rI M (v0 + 1) (1 : Int32).toNatClampNeg) ≤ v5 then some (v4, M) else (fX11_isIn v0 v1 v5 M).bind fun qj3 => if qj3 = true then fX11_liesBy_b50 N k12 v0 v1 v2 v3 v5 v4 M else (fX11_isSaid N v0 v2 v3 v5 M).bind fun qj4 => if qj4.1 = true then fX11_liesBy_b51 N k12 v0 v1 v2 v3 v5 true v4 qj4.2 else fX11_liesBy_b50 N k12 v0 v1 v2 v3 v5 v4 qj4.2 else none
def fX11_liesBy_l12 (N : Nat) (v0 : Nat) (v1 : Int32) (v2 : Int32) (v3 : Int32) : Nat → Int32 → Int32 → Mem → Option (Int32 × Mem)
  | 0, _, _, _ => none
  | n + 1, v4, v5, M => fX11_liesBy_l12_s N v0 v1 v2 v3 (fX11_liesBy_l12 N v0 v1 v2 v3 n) v4 v5 M
def fX11_liesBy (N : Nat) (v0 : Nat) (v1 : Int32) (v2 : Int32) (v3 : Int32) (M : Mem) : Option (Int32 × Mem) :=
  (fX11_layBits N v0 v2 v3 M).bind fun qj1 => fX11_liesBy_l12 N v0 v1 v2 v3 N (0 : Int32) (0 : Int32) qj1
/-! X11_choose -/
def fX11_choose_b168 (N : Nat) (k71 : Int32 → Int32 → Int32 → Int32 → Mem → Option (Int32 × Mem)) (k81 : Int32 → Int32 → Int32 → Int32 → Mem → Option (Int32 × Mem)) (v0 : Nat) (v1 : Int32) (v2 : Int32) (v3 : Int32) (v4 : Int32) (v5 : Int32) (v6 : Int32) (v7 : Int32) (v8 : Int32) (M : Mem) : Option (Int32 × Mem) :=
  k81 v4 v5 v6 (v8 + (8 : Int32)) M
def fX11_choose_b156 (N : Nat) (k71 : Int32 → Int32 → Int32 → Int32 → Mem → Option (Int32 × Mem)) (k81 : Int32 → Int32 → Int32 → Int32 → Mem → Option (Int32 × Mem)) (v0 : Nat) (v1 : Int32) (v2 : Int32) (v3 : Int32) (v7 : Int32) (v8 : Int32) (v9 : Int32) (v10 : Int32) (M : Mem) : Option (Int32 × Mem) :=
  fX11_choose_b168 N k71 k81 v0 v1 v2 v3 v8 v9 v10 v7 v8 M
def fX11_choose_l81_s (N : Nat) (k71 : Int32 → Int32 → Int32 → Int32 → Mem → Option (Int32 × Mem)) (v0 : Nat) (v1 : Int32) (v2 : Int32) (v3 : Int32) (v7 : Int32) (k81 : Int32 → Int32 → Int32 → Int32 → Mem → Option (Int32 × Mem)) (v4 : Int32) (v5 : Int32) (v6 : Int32) (v8 : Int32) (M : Mem) : Option (Int32 × Mem) :=
  if (64 : Int32) < v8 then k71 v4 v5 v6 (v7 + (1 : Int32)) M else if (v8 + ((4 : Int32) * ((v7 - v8) / (4 : Int32)))) = v7 then if inB (3 : Int32) 3268 = true then (fX11_within (((v7 - v8) / (4 : Int32)).toInt64) (1 : Int64) ((rI M (v0 + 1) (3 : Int32).toNatClampNeg).toInt64) M).bind fun qj3 => if qj3 = true then (fX11_liesBy N v0 v1 v8 ((v7 - v8) / (4 : Int32)) M).bind fun qj4 => if v6 = (-1 : Int32) then fX11_choose_b156 N k71 k81 v0 v1 v2 v3 v7 v8 ((v7 - v8) / (4 : Int32)) qj4.1 qj4.2 else if qj4.1 < v6 then fX11_choose_b156 N k71 k81 v0 v1 v2 v3 v7 v8 ((v7 - v8) / (4 : Int32)) qj4.1 qj4.2 else fX11_choose_b168 N k71 k81 v0 v1 v2 v3 v4 v5 v6 v7 v8 qj4.2 else fX11_choose_b168 N k71 k81 v0 v1 v2 v3 v4 v5 v6 v7 v8 M else none else fX11_choose_b168 N k71 k81 v0 v1 v2 v3 v4 v5 v6 v7 v8 M
def fX11_choose_l81 (N : Nat) (k71 : Int32 → Int32 → Int32 → Int32 → Mem → Option (Int32 × Mem)) (v0 : Nat) (v1 : Int32) (v2 : Int32) (v3 : Int32) (v7 : Int32) : Nat → Int32 → Int32 → Int32 → Int32 → Mem → Option (Int32 × Mem)
  | 0, _, _, _, _, _ => none
  | n + 1, v4, v5, v6, v8, M => fX11_choose_l81_s N k71 v0 v1 v2 v3 v7 (fX11_choose_l81 N k71 v0 v1 v2 v3 v7 n) v4 v5 v6 v8 M
def fX11_choose_l71_s (N : Nat) (v0 : Nat) (v1 : Int32) (v2 : Int32) (v3 : Int32) (k71 : Int32 → Int32 → Int32 → Int32 → Mem → Option (Int32 × Mem)) (v4 : Int32) (v5 : Int32) (v6 : Int32) (v7 : Int32) (M : Mem) : Option (Int32 × Mem) :=
  if v2 < v7 then if v3 = 0 then some (v4, M) else if v3 = (1 : Int32) then some (v5, M) else some (v6, M) else fX11_choose_l81 N k71 v0 v1 v2 v3 v7 N v4 v5 v6 (8 : Int32) M
def fX11_choose_l71 (N : Nat) (v0 : Nat) (v1 : Int32) (v2 : Int32) (v3 : Int32) : Nat → Int32 → Int32 → Int32 → Int32 → Mem → Option (Int32 × Mem)
  | 0, _, _, _, _, _ => none
  | n + 1, v4, v5, v6, v7, M => fX11_choose_l71_s N v0 v1 v2 v3 (fX11_choose_l71 N v0 v1 v2 v3 n) v4 v5 v6 v7 M
def fX11_choose_b42 (N : Nat) (v0 : Nat) (v1 : Int32) (v2 : Int32) (v3 : Int32) (s0 : Int32) (s1 : Nat) (M : Mem) : Option (Int32 × Mem) :=
  if (rI (wI M s1 5 s0) v0 5) ≤ 0 then (fX11_takesPut N v0 v1 (wI M s1 5 s0)).bind fun qj1 => fX11_choose_l71 N v0 v1 v2 v3 N (-1 : Int32) (-1 : Int32) (-1 : Int32) (0 : Int32) qj1 else some ((0 : Int32), wI M s1 5 s0)
def fX11_choose_b41 (N : Nat) (v0 : Nat) (v1 : Int32) (v2 : Int32) (v3 : Int32) (s0 : Nat) (M : Mem) : Option (Int32 × Mem) :=
  fX11_choose_b42 N v0 v1 v2 v3 (2 : Int32) s0 M
def fX11_choose (N : Nat) (v0 : Nat) (v1 : Int32) (v2 : Int32) (v3 : Int32) (M : Mem) : Option (Int32 × Mem) :=
  (fX11_isRow v0 v1 M).bind fun qj1 => if qj1 = true then (fX11_within v2.toInt64 (0 : Int64) (999 : Int64) M).bind fun qj2 => if qj2 = true then (fX11_within v3.toInt64 (0 : Int64) (2 : Int64) M).bind fun qj3 => if qj3 = true then fX11_choose_b42 N v0 v1 v2 v3 (0 : Int32) v0 M else fX11_choose_b41 N v0 v1 v2 v3 v0 M else fX11_choose_b41 N v0 v1 v2 v3 v0 M else fX11_choose_b42 N v0 v1 v2 v3 (1 : Int32) v0 M
/-! X11_tray -/
def fX11_tray_l69_s (N : Nat) (v0 : Nat) (v1 : Int32) (k69 : Int32 → Mem → Option Mem) (v4 : Int32) (M : Mem) : Option Mem :=
  if (40 : Int32) ≤ v4 then some M else if inB (((40 : Int32) * v1) + v4) 160 = true then k69 (v4 + (1 : Int32)) (wJ M (v0 + 24) ((((40 : Int32) * v1) + v4).toNatClampNeg) (0 : Int64)) else none
def fX11_tray_l69 (N : Nat) (v0 : Nat) (v1 : Int32) : Nat → Int32 → Mem → Option Mem
  | 0, _, _ => none
  | n + 1, v4, M => fX11_tray_l69_s N v0 v1 (fX11_tray_l69 N v0 v1 n) v4 M
def fX11_tray_b41 (N : Nat) (v0 : Nat) (v1 : Int32) (v2 : Int32) (v3 : Int32) (s0 : Int32) (s1 : Nat) (M : Mem) : Option Mem :=
  if (rI (wI M s1 5 s0) v0 5) ≤ 0 then if inB v1 4 = true then if inB v1 4 = true then fX11_tray_l69 N v0 v1 N (0 : Int32) (wI (wI (wI M s1 5 s0) (v0 + 22) v1.toNatClampNeg v2) (v0 + 23) v1.toNatClampNeg v3) else none else none else some (wI M s1 5 s0)
def fX11_tray_b36 (N : Nat) (v0 : Nat) (v1 : Int32) (v2 : Int32) (v3 : Int32) (s0 : Nat) (M : Mem) : Option Mem :=
  fX11_tray_b41 N v0 v1 v2 v3 (2 : Int32) s0 M
def fX11_tray (N : Nat) (v0 : Nat) (v1 : Int32) (v2 : Int32) (v3 : Int32) (M : Mem) : Option Mem :=
  (fX11_isTray v1 M).bind fun qj1 => if qj1 = true then (fX11_within v2.toInt64 (0 : Int64) (3 : Int64) M).bind fun qj2 => if qj2 = true then (fX11_within v3.toInt64 (0 : Int64) (40 : Int64) M).bind fun qj3 => if qj3 = true then fX11_tray_b41 N v0 v1 v2 v3 (0 : Int32) v0 M else fX11_tray_b36 N v0 v1 v2 v3 v0 M else fX11_tray_b36 N v0 v1 v2 v3 v0 M else fX11_tray_b41 N v0 v1 v2 v3 (1 : Int32) v0 M
/-! X11_write -/
def fX11_write (v0 : Nat) (v1 : Int32) (v2 : Int32) (v3 : Int64) (M : Mem) : Option (Int64 × Mem) :=
  (fX11_isTray v1 (wI M v0 5 (0 : Int32))).bind fun qj1 => if qj1 = true then if inB v1 4 = true then if (rI (wI M v0 5 (0 : Int32)) (v0 + 22) v1.toNatClampNeg) = (-1 : Int32) then (fX11_fails v0 (2 : Int32) (wI M v0 5 (0 : Int32))).bind fun qj4 => some (qj4.1.toInt64, qj4.2) else if inB v1 4 = true then (fX11_within v2.toInt64 (0 : Int64) (((rI (wI M v0 5 (0 : Int32)) (v0 + 23) v1.toNatClampNeg) - (1 : Int32)).toInt64) (wI M v0 5 (0 : Int32))).bind fun qj7 => if qj7 = true then if inB v1 4 = true then if inB (((40 : Int32) * v1) + v2) 160 = true then if inB (((40 : Int32) * v1) + v2) 160 = true then some ((rJ (wJ (wI M v0 5 (0 : Int32)) (v0 + 24) ((((40 : Int32) * v1) + v2).toNatClampNeg) (shrJ (shlJ v3 ((64 : Int32) - (shlI (8 : Int32) (rI (wI M v0 5 (0 : Int32)) (v0 + 22) v1.toNatClampNeg)))) ((64 : Int32) - (shlI (8 : Int32) (rI (wI M v0 5 (0 : Int32)) (v0 + 22) v1.toNatClampNeg))))) (v0 + 24) (((40 : Int32) * v1) + v2).toNatClampNeg), wJ (wI M v0 5 (0 : Int32)) (v0 + 24) ((((40 : Int32) * v1) + v2).toNatClampNeg) (shrJ (shlJ v3 ((64 : Int32) - (shlI (8 : Int32) (rI (wI M v0 5 (0 : Int32)) (v0 + 22) v1.toNatClampNeg)))) ((64 : Int32) - (shlI (8 : Int32) (rI (wI M v0 5 (0 : Int32)) (v0 + 22) v1.toNatClampNeg))))) else none else none else none else (fX11_fails v0 (3 : Int32) (wI M v0 5 (0 : Int32))).bind fun qj13 => some (qj13.1.toInt64, qj13.2) else none else none else (fX11_fails v0 (1 : Int32) (wI M v0 5 (0 : Int32))).bind fun qj14 => some (qj14.1.toInt64, qj14.2)
/-! X11_pour -/
def fX11_pour_b102 (N : Nat) (v3 : Int32) (M : Mem) : Option (Int32 × Mem) :=
  some (v3, M)
def fX11_pour_l53_s (N : Nat) (v0 : Nat) (v1 : Int32) (v2 : Int32) (k53 : Int32 → Mem → Option (Int32 × Mem)) (v3 : Int32) (M : Mem) : Option (Int32 × Mem) :=
  if inB v2 4 = true then if (rI M (v0 + 23) v2.toNatClampNeg) ≤ v3 then fX11_pour_b102 N v3 M else if inB (((40 : Int32) * v2) + v3) 160 = true then (fX11_isName v0 (rJ M (v0 + 24) (((40 : Int32) * v2) + v3).toNatClampNeg) M).bind fun qj5 => if qj5 = true then (fX11_inTray v0 v2 v3 M).bind fun qj6 => (fX11_putsOr N v0 v1 qj6 M).bind fun qj7 => if qj7.1 = (-1 : Int32) then fX11_pour_b102 N v3 qj7.2 else k53 (v3 + (1 : Int32)) qj7.2 else fX11_pour_b102 N v3 M else none else none
def fX11_pour_l53 (N : Nat) (v0 : Nat) (v1 : Int32) (v2 : Int32) : Nat → Int32 → Mem → Option (Int32 × Mem)
  | 0, _, _ => none
  | n + 1, v3, M => fX11_pour_l53_s N v0 v1 v2 (fX11_pour_l53 N v0 v1 v2 n) v3 M
def fX11_pour_b42 (N : Nat) (v0 : Nat) (v1 : Int32) (v2 : Int32) (M : Mem) : Option (Int32 × Mem) :=
  if (rI M v0 5) ≤ 0 then fX11_pour_l53 N v0 v1 v2 N (0 : Int32) M else some ((0 : Int32), M)
def fX11_pour_b37 (N : Nat) (v0 : Nat) (v1 : Int32) (v2 : Int32) (M : Mem) : Option (Int32 × Mem) :=
  fX11_pour_b42 N v0 v1 v2 (wI M v0 5 (2 : Int32))
def fX11_pour (N : Nat) (v0 : Nat) (v1 : Int32) (v2 : Int32) (M : Mem) : Option (Int32 × Mem) :=
  (fX11_rowTrayFault v0 v1 v2 M).bind fun qj1 => if (rI (wI M v0 5 qj1) v0 5) = 0 then (fX11_get v0 v1 (0 : Int32) (wI M v0 5 qj1)).bind fun qj2 => if qj2 = (4 : Int32) then fX11_pour_b37 N v0 v1 v2 (wI M v0 5 qj1) else if inB v2 4 = true then if (rI (wI M v0 5 qj1) (v0 + 22) v2.toNatClampNeg) = (-1 : Int32) then fX11_pour_b37 N v0 v1 v2 (wI M v0 5 qj1) else fX11_pour_b42 N v0 v1 v2 (wI M v0 5 qj1) else none else fX11_pour_b42 N v0 v1 v2 (wI M v0 5 qj1)
/-! X11_image -/
def fX11_image_l38_s (N : Nat) (v0 : Nat) (v1 : Int32) (k38 : Int32 → Mem → Option Mem) (v2 : Int32) (M : Mem) : Option Mem :=
  if (3268 : Int32) ≤ v2 then some M else if inB v2 3268 = true then if inB (((3268 : Int32) * v1) + v2) 9804 = true then k38 (v2 + (1 : Int32)) (wI M (v0 + 3) ((((3268 : Int32) * v1) + v2).toNatClampNeg) (rI M (v0 + 1) v2.toNatClampNeg)) else none else none
def fX11_image_l38 (N : Nat) (v0 : Nat) (v1 : Int32) : Nat → Int32 → Mem → Option Mem
  | 0, _, _ => none
  | n + 1, v2, M => fX11_image_l38_s N v0 v1 (fX11_image_l38 N v0 v1 n) v2 M
def fX11_image_b18 (N : Nat) (v0 : Nat) (v1 : Int32) (s0 : Bool) (s1 : Nat) (M : Mem) : Option Mem :=
  if (rI (wI M s1 5 (bI s0)) v0 5) ≤ 0 then if inB v1 3 = true then fX11_image_l38 N v0 v1 N (0 : Int32) (wI (wI M s1 5 (bI s0)) (v0 + 5) v1.toNatClampNeg (vp_nar .boolean (1 : Int32))) else none else some (wI M s1 5 (bI s0))
def fX11_image (N : Nat) (v0 : Nat) (v1 : Int32) (M : Mem) : Option Mem :=
  (fX11_within v1.toInt64 (0 : Int64) (2 : Int64) M).bind fun qj1 => if qj1 = true then fX11_image_b18 N v0 v1 false v0 M else fX11_image_b18 N v0 v1 true v0 M
/-! X11_restore -/
def fX11_restore_l44_s (N : Nat) (v0 : Nat) (v1 : Int32) (k44 : Int32 → Mem → Option Mem) (v2 : Int32) (M : Mem) : Option Mem :=
  if (3268 : Int32) ≤ v2 then some M else if inB (((3268 : Int32) * v1) + v2) 9804 = true then if inB v2 3268 = true then k44 (v2 + (1 : Int32)) (wI M (v0 + 1) v2.toNatClampNeg (rI M (v0 + 3) (((3268 : Int32) * v1) + v2).toNatClampNeg)) else none else none
def fX11_restore_l44 (N : Nat) (v0 : Nat) (v1 : Int32) : Nat → Int32 → Mem → Option Mem
  | 0, _, _ => none
  | n + 1, v2, M => fX11_restore_l44_s N v0 v1 (fX11_restore_l44 N v0 v1 n) v2 M
def fX11_restore_b31 (N : Nat) (v0 : Nat) (v1 : Int32) (s0 : Int32) (s1 : Nat) (M : Mem) : Option Mem :=
  if (rI (wI M s1 5 s0) v0 5) ≤ 0 then fX11_restore_l44 N v0 v1 N (0 : Int32) (wI M s1 5 s0) else some (wI M s1 5 s0)
def fX11_restore (N : Nat) (v0 : Nat) (v1 : Int32) (M : Mem) : Option Mem :=
  (fX11_within v1.toInt64 (0 : Int64) (2 : Int64) M).bind fun qj1 => if qj1 = true then if inB v1 3 = true then if (rI M (v0 + 5) v1.toNatClampNeg) = 0 then fX11_restore_b31 N v0 v1 (2 : Int32) v0 M else fX11_restore_b31 N v0 v1 (0 : Int32) v0 M else none else fX11_restore_b31 N v0 v1 (1 : Int32) v0 M
/-! X11_count -/
def fX11_count_b30 (N : Nat) (k9 : Int32 → Int32 → Option (Int32 × Mem)) (v0 : Nat) (v1 : Int32) (v3 : Int32) (s0 : Int32) (s1 : Int32) (M : Mem) : Option (Int32 × Mem) :=
  k9 (s1 ||| s0) (v3 + (1 : Int32))
def fX11_count_l9_s (N : Nat) (v0 : Nat) (v1 : Int32) (M : Mem) (k9 : Int32 → Int32 → Option (Int32 × Mem)) (v2 : Int32) (v3 : Int32) : Option (Int32 × Mem) :=
  if (4 : Int32) ≤ v3 then (fX11_within v1.toInt64 (0 : Int64) (3 : Int64) M).bind fun qj1 => if qj1 = true then if inB v1 3268 = true then some ((rI M (v0 + 1) v1.toNatClampNeg), M) else none else if v1 = (4 : Int32) then some (v2, M) else if v1 = (5 : Int32) then some ((rI M v0 7), M) else some ((-1 : Int32), M) else (fX11_isRow v0 v3 M).bind fun qj4 => if qj4 = true then fX11_count_b30 N k9 v0 v1 v3 (shlI (1 : Int32) v3) v2 M else fX11_count_b30 N k9 v0 v1 v3 (0 : Int32) v2 M
def fX11_count_l9 (N : Nat) (v0 : Nat) (v1 : Int32) (M : Mem) : Nat → Int32 → Int32 → Option (Int32 × Mem)
  | 0, _, _ => none
  | n + 1, v2, v3 => fX11_count_l9_s N v0 v1 M (fX11_count_l9 N v0 v1 M n) v2 v3
def fX11_count (N : Nat) (v0 : Nat) (v1 : Int32) (M : Mem) : Option (Int32 × Mem) :=
  fX11_count_l9 N v0 v1 (wI M v0 5 (0 : Int32)) N (0 : Int32) (0 : Int32)
