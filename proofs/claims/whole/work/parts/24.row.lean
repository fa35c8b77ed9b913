/-! X5_cellAt -/
def fX5_cellAt_b22  (Mo : Mem) : Option Int32 :=
  some (0 : Int32)
def fX5_cellAt (v0 : Nat) (v1 : Int32) (Mo : Mem) : Option Int32 :=
  if v1 < 0 then fX5_cellAt_b22 Mo else if (240 : Int32) ≤ v1 then fX5_cellAt_b22 Mo else if inB v1 240 = true then some (rI Mo (v0 + 3) v1.toNatClampNeg) else none
/-! X5_bits -/
def fX5_bits_b26 (N : Nat) (k4 : Int64 → Int32 → Option Int64) (v0 : Nat) (v3 : Int32) (s0 : Int64) (s1 : Int64) (Mo : Mem) : Option Int64 :=
  k4 (s1 ||| (shlJ s0 v3)) (v3 + (1 : Int32))
def fX5_bits_l4_s (N : Nat) (v0 : Nat) (Mo : Mem) (k4 : Int64 → Int32 → Option Int64) (v1 : Int64) (v3 : Int32) : Option Int64 :=
  if (rI Mo v0 2) ≤ v3 then some v1 else (fX5_cellAt v0 v3 Mo).bind fun qj1 => if qj1 = 0 then fX5_bits_b26 N k4 v0 v3 (0 : Int64) v1 Mo else fX5_bits_b26 N k4 v0 v3 (1 : Int64) v1 Mo
def fX5_bits_l4 (N : Nat) (v0 : Nat) (Mo : Mem) : Nat → Int64 → Int32 → Option Int64
  | 0, _, _ => none
  | n + 1, v1, v3 => fX5_bits_l4_s N v0 Mo (fX5_bits_l4 N v0 Mo n) v1 v3
def fX5_bits (N : Nat) (v0 : Nat) (Mo : Mem) : Option Int64 :=
  fX5_bits_l4 N v0 Mo N (0 : Int64) (0 : Int32)
/-! X5_guestAt -/
def fX5_guestAt (v0 : Nat) (v1 : Int32) (v2 : Int32) (Mo : Mem) : Option Int32 :=
  (fX5_cellAt v0 ((v1 * (rI Mo v0 4)) + v2) Mo).bind fun qj1 => some (qj1 - (1 : Int32))
/-! X5_freeSlot -/
def fX5_freeSlot_l2_s (N : Nat) (v0 : Nat) (v1 : Int32) (Mo : Mem) (k2 : Int32 → Option Int32) (v2 : Int32) : Option Int32 :=
  if (rI Mo v0 4) ≤ v2 then some (-1 : Int32) else (fX5_guestAt v0 v1 v2 Mo).bind fun qj1 => if qj1 = (-1 : Int32) then some v2 else k2 (v2 + (1 : Int32))
def fX5_freeSlot_l2 (N : Nat) (v0 : Nat) (v1 : Int32) (Mo : Mem) : Nat → Int32 → Option Int32
  | 0, _ => none
  | n + 1, v2 => fX5_freeSlot_l2_s N v0 v1 Mo (fX5_freeSlot_l2 N v0 v1 Mo n) v2
def fX5_freeSlot (N : Nat) (v0 : Nat) (v1 : Int32) (Mo : Mem) : Option Int32 :=
  fX5_freeSlot_l2 N v0 v1 Mo N (0 : Int32)
/-! X5_setCell -/
def fX5_setCell (v0 : Nat) (v1 : Int32) (v2 : Int32) (M : Mem) : Option Mem :=
  if v1 < 0 then some M else if (240 : Int32) ≤ v1 then some M else if inB v1 240 = true then some (wI M (v0 + 3) v1.toNatClampNeg v2) else none
/-! X5_setGuest -/
def fX5_setGuest (v0 : Nat) (v1 : Int32) (v2 : Int32) (v3 : Int32) (M : Mem) : Option Mem :=
  (fX5_setCell v0 ((v1 * (rI M v0 4)) + v2) (v3 + (1 : Int32)) M).bind fun qj1 => some qj1
/-! X5_clearCells -/
def fX5_clearCells (N : Nat) (v0 : Nat) (M : Mem) : Option Mem :=
  (some (fillI M (v0 + 3) 240 (0 : Int32))).bind fun qj2 => some qj2
/-! X5_begin -/
def fX5_begin (N : Nat) (v0 : Nat) (v1 : Int32) (v2 : Int32) (v3 : Int32) (v4 : Int32) (M : Mem) : Option Mem :=
  (fX2_clear N (v0 + 1) (wI (wI (wI (wI (wI (wI (wI (wI M v0 0 (1 : Int32)) v0 1 v1) v0 2 v2) v0 3 v3) v0 4 v4) v0 5 (1 : Int32)) v0 6 (0 : Int32)) v0 7 (0 : Int32))).bind fun qj2 => (fX5_clearCells N v0 qj2).bind fun qj3 => some qj3
/-! X5_layerStart -/
def fX5_layerStart (v0 : Nat) (v1 : Int32) (Mo : Mem) : Option Int32 :=
  some ((rI Mo v0 2) * ((shlI (1 : Int32) v1) - (1 : Int32)))
/-! X5_places -/
def fX5_places (v0 : Nat) (Mo : Mem) : Option Int32 :=
  if (rI Mo v0 1) = (3 : Int32) then (fX5_layerStart v0 (rI Mo v0 5) Mo).bind fun qj1 => some qj1 else some (rI Mo v0 2)
/-! X5_layerSize -/
def fX5_layerSize (v0 : Nat) (v1 : Int32) (Mo : Mem) : Option Int32 :=
  some (shlI (rI Mo v0 2) v1)
/-! X5_isPlain -/
def fX5_isPlain_b15  (Mo : Mem) : Option Bool :=
  some true
def fX5_isPlain (v0 : Nat) (Mo : Mem) : Option Bool :=
  if (rI Mo v0 1) = 0 then fX5_isPlain_b15 Mo else if (rI Mo v0 1) = (1 : Int32) then fX5_isPlain_b15 Mo else some false
/-! X5_fullCell -/
def fX5_fullCell (v0 : Nat) (Mo : Mem) : Option Int32 :=
  if (rI Mo v0 1) = (1 : Int32) then some (15 : Int32) else some (1 : Int32)
/-! X5_hasGuestLike -/
def fX5_hasGuestLike_b43 (N : Nat) (k3 : Int32 → Option Bool) (v0 : Nat) (v1 : Nat) (v2 : Int32) (v3 : Int32) (v4 : Int32) (Mo : Mem) : Option Bool :=
  k3 (v4 + (1 : Int32))
def fX5_hasGuestLike_l3_s (N : Nat) (v0 : Nat) (v1 : Nat) (v2 : Int32) (v3 : Int32) (Mo : Mem) (k3 : Int32 → Option Bool) (v4 : Int32) : Option Bool :=
  if (rI Mo v0 4) ≤ v4 then some false else (fX5_guestAt v0 v3 v4 Mo).bind fun qj1 => if qj1 = (-1 : Int32) then fX5_hasGuestLike_b43 N k3 v0 v1 v2 v3 v4 Mo else (fX6_tagOf v1 qj1 Mo).bind fun qj2 => (fX6_tagOf v1 v2 Mo).bind fun qj3 => if qj2 = qj3 then some true else fX5_hasGuestLike_b43 N k3 v0 v1 v2 v3 v4 Mo
def fX5_hasGuestLike_l3 (N : Nat) (v0 : Nat) (v1 : Nat) (v2 : Int32) (v3 : Int32) (Mo : Mem) : Nat → Int32 → Option Bool
  | 0, _ => none
  | n + 1, v4 => fX5_hasGuestLike_l3_s N v0 v1 v2 v3 Mo (fX5_hasGuestLike_l3 N v0 v1 v2 v3 Mo n) v4
def fX5_hasGuestLike (N : Nat) (v0 : Nat) (v1 : Nat) (v2 : Int32) (v3 : Int32) (Mo : Mem) : Option Bool :=
  fX5_hasGuestLike_l3 N v0 v1 v2 v3 Mo N (0 : Int32)
/-! X5_together -/
def fX5_together_l5_s (N : Nat) (v0 : Nat) (v1 : Nat) (v2 : Int32) (k5 : Int32 → Int32 → Mem → Option (Int32 × Mem)) (v3 : Int32) (v4 : Int32) (M : Mem) : Option (Int32 × Mem) :=
  if (rI M v0 3) ≤ v4 then some (v3, M) else (fX6_placeOf N v1 v4 v2 (rI M v0 2) M).bind fun qj1 => (fX5_cellAt v0 qj1.1 qj1.2).bind fun qj2 => k5 (v3 ^^^ qj2) (v4 + (1 : Int32)) qj1.2
def fX5_together_l5 (N : Nat) (v0 : Nat) (v1 : Nat) (v2 : Int32) : Nat → Int32 → Int32 → Mem → Option (Int32 × Mem)
  | 0, _, _, _ => none
  | n + 1, v3, v4, M => fX5_together_l5_s N v0 v1 v2 (fX5_together_l5 N v0 v1 v2 n) v3 v4 M
def fX5_together (N : Nat) (v0 : Nat) (v1 : Nat) (v2 : Int32) (M : Mem) : Option (Int32 × Mem) :=
  fX5_together_l5 N v0 v1 v2 N (0 : Int32) (0 : Int32) M
/-! X5_allAbove0 -/
def fX5_allAbove0_l3_s (N : Nat) (v0 : Nat) (v1 : Nat) (v2 : Int32) (v3 : Int32) (v4 : Int32) (k3 : Int32 → Mem → Option (Bool × Mem)) (v5 : Int32) (M : Mem) : Option (Bool × Mem) :=
  if (rI M v0 3) ≤ v5 then some (true, M) else (fX6_placeOf N v1 v5 v2 v4 M).bind fun qj1 => (fX5_cellAt v0 (v3 + qj1.1) qj1.2).bind fun qj2 => if qj2 = 0 then some (false, qj1.2) else k3 (v5 + (1 : Int32)) qj1.2
def fX5_allAbove0_l3 (N : Nat) (v0 : Nat) (v1 : Nat) (v2 : Int32) (v3 : Int32) (v4 : Int32) : Nat → Int32 → Mem → Option (Bool × Mem)
  | 0, _, _ => none
  | n + 1, v5, M => fX5_allAbove0_l3_s N v0 v1 v2 v3 v4 (fX5_allAbove0_l3 N v0 v1 v2 v3 v4 n) v5 M
def fX5_allAbove0 (N : Nat) (v0 : Nat) (v1 : Nat) (v2 : Int32) (v3 : Int32) (v4 : Int32) (M : Mem) : Option (Bool × Mem) :=
  fX5_allAbove0_l3 N v0 v1 v2 v3 v4 N (0 : Int32) M
/-! X5_says -/
def fX5_says_b46 (N : Nat) (M : Mem) : Option (Bool × Mem) :=
  some (true, M)
def fX5_says_l82_s (N : Nat) (v0 : Nat) (v1 : Nat) (v2 : Int32) (k82 : Int32 → Mem → Option (Bool × Mem)) (v3 : Int32) (M : Mem) : Option (Bool × Mem) :=
  if (rI M v0 5) ≤ v3 then some (false, M) else (fX5_layerStart v0 v3 M).bind fun qj1 => (fX5_layerSize v0 v3 M).bind fun qj2 => (fX5_allAbove0 N v0 v1 v2 qj1 qj2 M).bind fun qj3 => if qj3.1 = true then some (true, qj3.2) else k82 (v3 + (1 : Int32)) qj3.2
def fX5_says_l82 (N : Nat) (v0 : Nat) (v1 : Nat) (v2 : Int32) : Nat → Int32 → Mem → Option (Bool × Mem)
  | 0, _, _ => none
  | n + 1, v3, M => fX5_says_l82_s N v0 v1 v2 (fX5_says_l82 N v0 v1 v2 n) v3 M
def fX5_says (N : Nat) (v0 : Nat) (v1 : Nat) (v2 : Int32) (M : Mem) : Option (Bool × Mem) :=
  if (rI M v0 1) = (2 : Int32) then (fX6_placeOf N v1 (0 : Int32) v2 (rI M v0 2) M).bind fun qj1 => (fX5_hasGuestLike N v0 v1 v2 qj1.1 qj1.2).bind fun qj2 => if qj2 = true then fX5_says_b46 N qj1.2 else (fX6_placeOf N v1 (1 : Int32) v2 (rI qj1.2 v0 2) qj1.2).bind fun qj3 => (fX5_hasGuestLike N v0 v1 v2 qj3.1 qj3.2).bind fun qj4 => if qj4 = true then fX5_says_b46 N qj3.2 else some (false, qj3.2) else if (rI M v0 1) = (4 : Int32) then (fX5_together N v0 v1 v2 M).bind fun qj5 => (fX6_tagOf v1 v2 qj5.2).bind fun qj6 => if qj5.1 = qj6 then some (true, qj5.2) else some (false, qj5.2) else fX5_says_l82 N v0 v1 v2 N (0 : Int32) M
/-! X5_raise -/
def fX5_raise_l3_s (N : Nat) (v0 : Nat) (v1 : Nat) (v2 : Int32) (v3 : Int32) (v4 : Int32) (k3 : Int32 → Mem → Option Mem) (v5 : Int32) (M : Mem) : Option Mem :=
  if (rI M v0 3) ≤ v5 then some M else (fX6_placeOf N v1 v5 v2 v4 M).bind fun qj1 => (fX5_cellAt v0 (v3 + qj1.1) qj1.2).bind fun qj2 => (fX5_fullCell v0 qj1.2).bind fun qj3 => (fX5_setCell v0 (v3 + qj1.1) (minI (qj2 + (1 : Int32)) qj3) qj1.2).bind fun qj4 => k3 (v5 + (1 : Int32)) qj4
def fX5_raise_l3 (N : Nat) (v0 : Nat) (v1 : Nat) (v2 : Int32) (v3 : Int32) (v4 : Int32) : Nat → Int32 → Mem → Option Mem
  | 0, _, _ => none
  | n + 1, v5, M => fX5_raise_l3_s N v0 v1 v2 v3 v4 (fX5_raise_l3 N v0 v1 v2 v3 v4 n) v5 M
def fX5_raise (N : Nat) (v0 : Nat) (v1 : Nat) (v2 : Int32) (v3 : Int32) (v4 : Int32) (M : Mem) : Option Mem :=
  fX5_raise_l3 N v0 v1 v2 v3 v4 N (0 : Int32) M
/-! X5_mark -/
def fX5_mark_b44 (N : Nat) (v0 : Nat) (v1 : Nat) (v2 : Int32) (M : Mem) : Option (Bool × Mem) :=
  (fX5_layerStart v0 ((rI M v0 5) - (1 : Int32)) M).bind fun qj1 => (fX5_layerSize v0 ((rI M v0 5) - (1 : Int32)) M).bind fun qj2 => (fX5_raise N v0 v1 v2 qj1 qj2 M).bind fun qj3 => some (true, wI qj3 v0 7 ((rI qj3 v0 7) + (1 : Int32)))
def fX5_mark (N : Nat) (v0 : Nat) (v1 : Nat) (v2 : Int32) (M : Mem) : Option (Bool × Mem) :=
  if (rI M v0 1) = (3 : Int32) then if (rI M v0 7) < (rI M v0 4) then fX5_mark_b44 N v0 v1 v2 M else if (rI M v0 5) < (4 : Int32) then fX5_mark_b44 N v0 v1 v2 (wI (wI M v0 5 ((rI M v0 5) + (1 : Int32))) v0 7 (0 : Int32)) else some (false, M) else fX5_mark_b44 N v0 v1 v2 M
/-! X5_unmark -/
def fX5_unmark_b52 (N : Nat) (k2 : Int32 → Mem → Option Mem) (v0 : Nat) (v1 : Nat) (v2 : Int32) (v3 : Int32) (M : Mem) : Option Mem :=
  k2 (v3 + (1 : Int32)) M
def fX5_unmark_l2_s (N : Nat) (v0 : Nat) (v1 : Nat) (v2 : Int32) (k2 : Int32 → Mem → Option Mem) (v3 : Int32) (M : Mem) : Option Mem :=
  if (rI M v0 3) ≤ v3 then some M else (fX6_placeOf N v1 v3 v2 (rI M v0 2) M).bind fun qj1 => (fX5_cellAt v0 qj1.1 qj1.2).bind fun qj2 => if qj2 ≤ 0 then fX5_unmark_b52 N k2 v0 v1 v2 v3 qj1.2 else if (15 : Int32) ≤ qj2 then fX5_unmark_b52 N k2 v0 v1 v2 v3 qj1.2 else (fX5_setCell v0 qj1.1 (qj2 - (1 : Int32)) qj1.2).bind fun qj3 => fX5_unmark_b52 N k2 v0 v1 v2 v3 qj3
def fX5_unmark_l2 (N : Nat) (v0 : Nat) (v1 : Nat) (v2 : Int32) : Nat → Int32 → Mem → Option Mem
  | 0, _, _ => none
  | n + 1, v3, M => fX5_unmark_l2_s N v0 v1 v2 (fX5_unmark_l2 N v0 v1 v2 n) v3 M
def fX5_unmark (N : Nat) (v0 : Nat) (v1 : Nat) (v2 : Int32) (M : Mem) : Option Mem :=
  fX5_unmark_l2 N v0 v1 v2 N (0 : Int32) M
/-! X5_absorb -/
def fX5_absorb_l2_s (N : Nat) (v0 : Nat) (v1 : Nat) (k2 : Int32 → Mem → Option Mem) (v2 : Int32) (M : Mem) : Option Mem :=
  if (rI M v0 2) ≤ v2 then (fX2_addAll N (v0 + 1) (v1 + 1) M).bind fun qj3 => some qj3 else (fX5_cellAt v0 v2 M).bind fun qj4 => (fX5_cellAt v1 v2 M).bind fun qj5 => (fX5_fullCell v0 M).bind fun qj6 => (fX5_setCell v0 v2 (minI (qj4 + qj5) qj6) M).bind fun qj7 => k2 (v2 + (1 : Int32)) qj7
def fX5_absorb_l2 (N : Nat) (v0 : Nat) (v1 : Nat) : Nat → Int32 → Mem → Option Mem
  | 0, _, _ => none
  | n + 1, v2, M => fX5_absorb_l2_s N v0 v1 (fX5_absorb_l2 N v0 v1 n) v2 M
def fX5_absorb (N : Nat) (v0 : Nat) (v1 : Nat) (M : Mem) : Option Mem :=
  fX5_absorb_l2 N v0 v1 N (0 : Int32) M
/-! X5_fold -/
def fX5_fold_l9_s (N : Nat) (v0 : Nat) (v1 : Int32) (k9 : Int32 → Mem → Option Mem) (v2 : Int32) (M : Mem) : Option Mem :=
  if v1 ≤ v2 then some (wI M v0 2 v1) else (fX5_cellAt v0 v2 M).bind fun qj1 => (fX5_cellAt v0 (v2 + v1) M).bind fun qj2 => (fX5_fullCell v0 M).bind fun qj3 => (fX5_setCell v0 v2 (minI (qj1 + qj2) qj3) M).bind fun qj4 => (fX5_setCell v0 (v2 + v1) (0 : Int32) qj4).bind fun qj5 => k9 (v2 + (1 : Int32)) qj5
def fX5_fold_l9 (N : Nat) (v0 : Nat) (v1 : Int32) : Nat → Int32 → Mem → Option Mem
  | 0, _, _ => none
  | n + 1, v2, M => fX5_fold_l9_s N v0 v1 (fX5_fold_l9 N v0 v1 n) v2 M
def fX5_fold (N : Nat) (v0 : Nat) (M : Mem) : Option Mem :=
  fX5_fold_l9 N v0 ((rI M v0 2) / (2 : Int32)) N (0 : Int32) M
/-! X5_guestsIn -/
def fX5_guestsIn_b25 (N : Nat) (k4 : Int32 → Int32 → Option Int32) (v0 : Nat) (v1 : Int32) (v2 : Int32) (v3 : Int32) (Mo : Mem) : Option Int32 :=
  k4 v2 (v3 + (1 : Int32))
def fX5_guestsIn_l4_s (N : Nat) (v0 : Nat) (v1 : Int32) (Mo : Mem) (k4 : Int32 → Int32 → Option Int32) (v2 : Int32) (v3 : Int32) : Option Int32 :=
  if (rI Mo v0 4) ≤ v3 then some v2 else (fX5_guestAt v0 v1 v3 Mo).bind fun qj1 => if qj1 = (-1 : Int32) then fX5_guestsIn_b25 N k4 v0 v1 v2 v3 Mo else fX5_guestsIn_b25 N k4 v0 v1 (v2 + (1 : Int32)) v3 Mo
def fX5_guestsIn_l4 (N : Nat) (v0 : Nat) (v1 : Int32) (Mo : Mem) : Nat → Int32 → Int32 → Option Int32
  | 0, _, _ => none
  | n + 1, v2, v3 => fX5_guestsIn_l4_s N v0 v1 Mo (fX5_guestsIn_l4 N v0 v1 Mo n) v2 v3
def fX5_guestsIn (N : Nat) (v0 : Nat) (v1 : Int32) (Mo : Mem) : Option Int32 :=
  fX5_guestsIn_l4 N v0 v1 Mo N (0 : Int32) (0 : Int32)
/-! X5_freeGuest -/
def fX5_freeGuest_b32 (N : Nat) (k2 : Int32 → Mem → Option Mem) (v0 : Nat) (v1 : Int32) (v2 : Int32) (M : Mem) : Option Mem :=
  k2 (v2 + (1 : Int32)) M
def fX5_freeGuest_l2_s (N : Nat) (v0 : Nat) (v1 : Int32) (k2 : Int32 → Mem → Option Mem) (v2 : Int32) (M : Mem) : Option Mem :=
  if ((rI M v0 2) * (rI M v0 4)) ≤ v2 then some M else (fX5_cellAt v0 v2 M).bind fun qj1 => if qj1 = (v1 + (1 : Int32)) then (fX5_setCell v0 v2 (0 : Int32) M).bind fun qj2 => fX5_freeGuest_b32 N k2 v0 v1 v2 qj2 else fX5_freeGuest_b32 N k2 v0 v1 v2 M
def fX5_freeGuest_l2 (N : Nat) (v0 : Nat) (v1 : Int32) : Nat → Int32 → Mem → Option Mem
  | 0, _, _ => none
  | n + 1, v2, M => fX5_freeGuest_l2_s N v0 v1 (fX5_freeGuest_l2 N v0 v1 n) v2 M
def fX5_freeGuest (N : Nat) (v0 : Nat) (v1 : Int32) (M : Mem) : Option Mem :=
  fX5_freeGuest_l2 N v0 v1 N (0 : Int32) M
/-! X5_copyFrom -/
def fX5_copyFrom (v0 : Nat) (v1 : Nat) (M : Mem) : Option Mem :=
  if (rI M v1 0) = 0 ∨ (rI M v1 0) = 1 then (fX2_copyFrom (v0 + 1) (v1 + 1) (wI (wI (wI (wI (wI (wI (wI (wI M v0 0 (rI M v1 0)) v0 1 (rI (wI M v0 0 (rI M v1 0)) v1 1)) v0 2 (rI (wI (wI M v0 0 (rI M v1 0)) v0 1 (rI (wI M v0 0 (rI M v1 0)) v1 1)) v1 2)) v0 3 (rI (wI (wI (wI M v0 0 (rI M v1 0)) v0 1 (rI (wI M v0 0 (rI M v1 0)) v1 1)) v0 2 (rI (wI (wI M v0 0 (rI M v1 0)) v0 1 (rI (wI M v0 0 (rI M v1 0)) v1 1)) v1 2)) v1 3)) v0 4 (rI (wI (wI (wI (wI M v0 0 (rI M v1 0)) v0 1 (rI (wI M v0 0 (rI M v1 0)) v1 1)) v0 2 (rI (wI (wI M v0 0 (rI M v1 0)) v0 1 (rI (wI M v0 0 (rI M v1 0)) v1 1)) v1 2)) v0 3 (rI (wI (wI (wI M v0 0 (rI M v1 0)) v0 1 (rI (wI M v0 0 (rI M v1 0)) v1 1)) v0 2 (rI (wI (wI M v0 0 (rI M v1 0)) v0 1 (rI (wI M v0 0 (rI M v1 0)) v1 1)) v1 2)) v1 3)) v1 4)) v0 5 (rI (wI (wI (wI (wI (wI M v0 0 (rI M v1 0)) v0 1 (rI (wI M v0 0 (rI M v1 0)) v1 1)) v0 2 (rI (wI (wI M v0 0 (rI M v1 0)) v0 1 (rI (wI M v0 0 (rI M v1 0)) v1 1)) v1 2)) v0 3 (rI (wI (wI (wI M v0 0 (rI M v1 0)) v0 1 (rI (wI M v0 0 (rI M v1 0)) v1 1)) v0 2 (rI (wI (wI M v0 0 (rI M v1 0)) v0 1 (rI (wI M v0 0 (rI M v1 0)) v1 1)) v1 2)) v1 3)) v0 4 (rI (wI (wI (wI (wI M v0 0 (rI M v1 0)) v0 1 (rI (wI M v0 0 (rI M v1 0)) v1 1)) v0 2 (rI (wI (wI M v0 0 (rI M v1 0)) v0 1 (rI (wI M v0 0 (rI M v1 0)) v1 1)) v1 2)) v0 3 (rI (wI (wI (wI M v0 0 (rI M v1 0)) v0 1 (rI (wI M v0 0 (rI M v1 0)) v1 1)) v0 2 (rI (wI (wI M v0 0 (rI M v1 0)) v0 1 (rI (wI M v0 0 (rI M v1 0)) v1 1)) v1 2)) v1 3)) v1 4)) v1 5)) v0 6 (rI (wI (wI (wI (wI (wI (wI M v0 0 (rI M v1 0)) v0 1 (rI (wI M v0 0 (rI M v1 0)) v1 1)) v0 2 (rI (wI (wI M v0 0 (rI M v1 0)) v0 1 (rI (wI M v0 0 (rI M v1 0)) v1 1)) v1 2)) v0 3 (rI (wI (wI (wI M v0 0 (rI M v1 0)) v0 1 (rI (wI M v0 0 (rI M v1 0)) v1 1)) v0 2 (rI (wI (wI M v0 0 (rI M v1 0)) v0 1 (rI (wI M v0 0 (rI M v1 0)) v1 1)) v1 2)) v1 3)) v0 4 (rI (wI (wI (wI (wI M v0 0 (rI M v1 0)) v0 1 (rI (wI M v0 0 (rI M v1 0)) v1 1)) v0 2 (rI (wI (wI M v0 0 (rI M v1 0)) v0 1 (rI (wI M v0 0 (rI M v1 0)) v1 1)) v1 2)) v0 3 (rI (wI (wI (wI M v0 0 (rI M v1 0)) v0 1 (rI (wI M v0 0 (rI M v1 0)) v1 1)) v0 2 (rI (wI (wI M v0 0 (rI M v1 0)) v0 1 (rI (wI M v0 0 (rI M v1 0)) v1 1)) v1 2)) v1 3)) v1 4)) v0 5 (rI (wI (wI (wI (wI (wI M v0 0 (rI M v1 0)) v0 1 (rI (wI M v0 0 (rI M v1 0)) v1 1)) v0 2 (rI (wI (wI M v0 0 (rI M v1 0)) v0 1 (rI (wI M v0 0 (rI M v1 0)) v1 1)) v1 2)) v0 3 (rI (wI (wI (wI M v0 0 (rI M v1 0)) v0 1 (rI (wI M v0 0 (rI M v1 0)) v1 1)) v0 2 (rI (wI (wI M v0 0 (rI M v1 0)) v0 1 (rI (wI M v0 0 (rI M v1 0)) v1 1)) v1 2)) v1 3)) v0 4 (rI (wI (wI (wI (wI M v0 0 (rI M v1 0)) v0 1 (rI (wI M v0 0 (rI M v1 0)) v1 1)) v0 2 (rI (wI (wI M v0 0 (rI M v1 0)) v0 1 (rI (wI M v0 0 (rI M v1 0)) v1 1)) v1 2)) v0 3 (rI (wI (wI (wI M v0 0 (rI M v1 0)) v0 1 (rI (wI M v0 0 (rI M v1 0)) v1 1)) v0 2 (rI (wI (wI M v0 0 (rI M v1 0)) v0 1 (rI (wI M v0 0 (rI M v1 0)) v1 1)) v1 2)) v1 3)) v1 4)) v1 5)) v1 6)) v0 7 (rI (wI (wI (wI (wI (wI (wI (wI M v0 0 (rI M v1 0)) v0 1 (rI (wI M v0 0 (rI M v1 0)) v1 1)) v0 2 (rI (wI (wI M v0 0 (rI M v1 0)) v0 1 (rI (wI M v0 0 (rI M v1 0)) v1 1)) v1 2)) v0 3 (rI (wI (wI (wI M v0 0 (rI M v1 0)) v0 1 (rI (wI M v0 0 (rI M v1 0)) v1 1)) v0 2 (rI (wI (wI M v0 0 (rI M v1 0)) v0 1 (rI (wI M v0 0 (rI M v1 0)) v1 1)) v1 2)) v1 3)) v0 4 (rI (wI (wI (wI (wI M v0 0 (rI M v1 0)) v0 1 (rI (wI M v0 0 (rI M v1 0)) v1 1)) v0 2 (rI (wI (wI M v0 0 (rI M v1 0)) v0 1 (rI (wI M v0 0 (rI M v1 0)) v1 1)) v1 2)) v0 3 (rI (wI (wI (wI M v0 0 (rI M v1 0)) v0 1 (rI (wI M v0 0 (rI M v1 0)) v1 1)) v0 2 (rI (wI (wI M v0 0 (rI M v1 0)) v0 1 (rI (wI M v0 0 (rI M v1 0)) v1 1)) v1 2)) v1 3)) v1 4)) v0 5 (rI (wI (wI (wI (wI (wI M v0 0 (rI M v1 0)) v0 1 (rI (wI M v0 0 (rI M v1 0)) v1 1)) v0 2 (rI (wI (wI M v0 0 (rI M v1 0)) v0 1 (rI (wI M v0 0 (rI M v1 0)) v1 1)) v1 2)) v0 3 (rI (wI (wI (wI M v0 0 (rI M v1 0)) v0 1 (rI (wI M v0 0 (rI M v1 0)) v1 1)) v0 2 (rI (wI (wI M v0 0 (rI M v1 0)) v0 1 (rI (wI M v0 0 (rI M v1 0)) v1 1)) v1 2)) v1 3)) v0 4 (rI (wI (wI (wI (wI M v0 0 (rI M v1 0)) v0 1 (rI (wI M v0 0 (rI M v1 0)) v1 1)) v0 2 (rI (wI (wI M v0 0 (rI M v1 0)) v0 1 (rI (wI M v0 0 (rI M v1 0)) v1 1)) v1 2)) v0 3 (rI (wI (wI (wI M v0 0 (rI M v1 0)) v0 1 (rI (wI M v0 0 (rI M v1 0)) v1 1)) v0 2 (rI (wI (wI M v0 0 (rI M v1 0)) v0 1 (rI (wI M v0 0 (rI M v1 0)) v1 1)) v1 2)) v1 3)) v1 4)) v1 5)) v0 6 (rI (wI (wI (wI (wI (wI (wI M v0 0 (rI M v1 0)) v0 1 (rI (wI M v0 0 (rI M v1 0)) v1 1)) v0 2 (rI (wI (wI M v0 0 (rI M v1 0)) v0 1 (rI (wI M v0 0 (rI M v1 0)) v1 1)) v1 2)) v0 3 (rI (wI (wI (wI M v0 0 (rI M v1 0)) v0 1 (rI (wI M v0 0 (rI M v1 0)) v1 1)) v0 2 (rI (wI (wI M v0 0 (rI M v1 0)) v0 1 (rI (wI M v0 0 (rI M v1 0)) v1 1)) v1 2)) v1 3)) v0 4 (rI (wI (wI (wI (wI M v0 0 (rI M v1 0)) v0 1 (rI (wI M v0 0 (rI M v1 0)) v1 1)) v0 2 (rI (wI (wI M v0 0 (rI M v1 0)) v0 1 (rI (wI M v0 0 (rI M v1 0)) v1 1)) v1 2)) v0 3 (rI (wI (wI (wI M v0 0 (rI M v1 0)) v0 1 (rI (wI M v0 0 (rI M v1 0)) v1 1)) v0 2 (rI (wI (wI M v0 0 (rI M v1 0)) v0 1 (rI (wI M v0 0 (rI M v1 0)) v1 1)) v1 2)) v1 3)) v1 4)) v0 5 (rI (wI (wI (wI (wI (wI M v0 0 (rI M v1 0)) v0 1 (rI (wI M v0 0 (rI M v1 0)) v1 1)) v0 2 (rI (wI (wI M v0 0 (rI M v1 0)) v0 1 (rI (wI M v0 0 (rI M v1 0)) v1 1)) v1 2)) v0 3 (rI (wI (wI (wI M v0 0 (rI M v1 0)) v0 1 (rI (wI M v0 0 (rI M v1 0)) v1 1)) v0 2 (rI (wI (wI M v0 0 (rI M v1 0)) v0 1 (rI (wI M v0 0 (rI M v1 0)) v1 1)) v1 2)) v1 3)) v0 4 (rI (wI (wI (wI (wI M v0 0 (rI M v1 0)) v0 1 (rI (wI M v0 0 (rI M v1 0)) v1 1)) v0 2 (rI (wI (wI M v0 0 (rI M v1 0)) v0 1 (rI (wI M v0 0 (rI M v1 0)) v1 1)) v1 2)) v0 3 (rI (wI (wI (wI M v0 0 (rI M v1 0)) v0 1 (rI (wI M v0 0 (rI M v1 0)) v1 1)) v0 2 (rI (wI (wI M v0 0 (rI M v1 0)) v0 1 (rI (wI M v0 0 (rI M v1 0)) v1 1)) v1 2)) v1 3)) v1 4)) v1 5)) v1 6)) v1 7))).bind fun qj3 => some (cpI qj3 (v1 + 3) (v0 + 3) 240) else none
set_option maxHeartbeats 4000000 in
set_option maxRecDepth 100000 in
theorem z_fX5_cellAt_b22 {p : Program} {l : Launch} {e : Env} {s : State} {m : MethodId} {args : Array Value} {below : List Frame} {meth : Method} {c : Code} {D : va_G} {cy : Nat → ClassId} {B : Nat} {kd : Nat → Nat} {n : Nat} {sa sv : Nat → Nat} (C : zC p l s m args meth c D cy B kd n sa sv RX5 cX5_cellAt 2) (ht : ∀ x ∈ c.exceptionTable.toList, False) (hr : meth.sig.returnType = some (FieldType.int)) {b0 : Int32}   (Mo : Mem)  : Z p l e (rmz 0 0) s m args below meth c (vx_MQ below (QcR D cy B kd n ((pI Mo) b0)) (XcR D cy B kd n ((pI Mo) b0)) args s 0 (6 * 0) (AA B kd n)) D cy B kd n 2 b0 0 22 [] [] Mo (fX5_cellAt_b22 Mo) := by
  unfold fX5_cellAt_b22
  refine z_iconst C dX5_cellAt_22 rfl ?_
  exact z_iret C hr (Nat.le_of_ble_eq_true rfl) dX5_cellAt_23 rfl
set_option maxHeartbeats 4000000 in
set_option maxRecDepth 100000 in
theorem ctX5_cellAt {l : Launch} {D : va_G} {cy : Nat → ClassId} {B : Nat} {kd : Nat → Nat} {n : Nat} {sa sv : Nat → Nat} (G : zG l kd n) (v0 : Nat) (v1 : Int32) (h0 : kd v0 = 5) (Mo : Mem) : CT l D cy B kd n sa sv 0 0 yX5_cellAt cX5_cellAt 2 (some (FieldType.int)) (pI Mo) [.ref (B + v0), .int v1] Mo (fX5_cellAt v0 v1 Mo) := by
  refine ct_of (by decide) G.1 G.2 (Nat.le_of_ble_eq_true rfl) (ls := [(0, .ref (B + v0)), (1, .int v1)]) rfl ?_
  intro p e s m args below meth c b0 C ht hr
  unfold fX5_cellAt
  refine z_iload_n C 1 1 dX5_cellAt_0 rfl rfl ?_
  refine z_if_lt C 22 dX5_cellAt_1 rfl (fun _ => ?_) (fun _ => ?_)
  · exact z_jump (ls1 := []) (Nat.le_of_ble_eq_true rfl) [] rfl (z_fX5_cellAt_b22 C ht hr Mo)
  · refine z_iload_n C 1 1 dX5_cellAt_4 rfl rfl ?_
    refine z_aload_n C 0 0 dX5_cellAt_5 rfl rfl ?_
    refine z_getR (k := 9) C cl5 h0 rfl gw_1_152 rfl dX5_cellAt_6 ?_
    have j1 : kd (v0 + 3) = 26 := zkd C h0 (k := 9) rfl
    refine z_alen (v := 240) C j1 (by decide) rfl dX5_cellAt_9 ?_
    refine z_icmp_ge C 22 dX5_cellAt_10 rfl (fun _ => ?_) (fun _ => ?_)
    · exact z_jump (ls1 := []) (Nat.le_of_ble_eq_true rfl) [] rfl (z_fX5_cellAt_b22 C ht hr Mo)
    · refine z_aload_n C 0 0 dX5_cellAt_13 rfl rfl ?_
      refine z_getR (k := 9) C cl5 h0 rfl gw_1_152 rfl dX5_cellAt_14 ?_
      have j2 : kd (v0 + 3) = 26 := zkd C h0 (k := 9) rfl
      refine z_iload_n C 1 1 dX5_cellAt_17 rfl rfl ?_
      refine z_iald C j2 rfl (by decide) dX5_cellAt_18 (fun j3 => ?_)
      refine z_goto C 23 dX5_cellAt_19 rfl ?_
      exact z_iret C hr (Nat.le_of_ble_eq_true rfl) dX5_cellAt_23 rfl
set_option maxHeartbeats 4000000 in
set_option maxRecDepth 100000 in
theorem z_fX5_bits_b26 {p : Program} {l : Launch} {e : Env} {s : State} {m : MethodId} {args : Array Value} {below : List Frame} {meth : Method} {c : Code} {D : va_G} {cy : Nat → ClassId} {B : Nat} {kd : Nat → Nat} {n : Nat} {sa sv : Nat → Nat} (C : zC p l s m args meth c D cy B kd n sa sv RX5 cX5_bits 4) (ht : ∀ x ∈ c.exceptionTable.toList, False) (hr : meth.sig.returnType = some (FieldType.long)) {b0 : Int64}  (N : Nat) (k4 : Int64 → Int32 → Option Int64) (v0 : Nat) (v3 : Int32) (s0 : Int64) (s1 : Int64) (Mo : Mem) (h0 : kd v0 = 5) (hk4 : ∀ (v1 : Int64) (v3 : Int32), Z p l e (rmz 1 0) s m args below meth c (vx_MQ below (QcR D cy B kd n ((pJ Mo) b0)) (XcR D cy B kd n ((pJ Mo) b0)) args s 0 (6 * 0) (AA B kd n)) D cy B kd n 4 b0 0 4 [(0, .ref (B + v0)), (1, .long v1), (3, .int v3)] [] Mo (k4 v1 v3)) : Z p l e (rmz 1 0) s m args below meth c (vx_MQ below (QcR D cy B kd n ((pJ Mo) b0)) (XcR D cy B kd n ((pJ Mo) b0)) args s 0 (6 * 0) (AA B kd n)) D cy B kd n 4 b0 0 26 [(0, .ref (B + v0)), (3, .int v3)] [.long s0, .long s1] Mo (fX5_bits_b26 N k4 v0 v3 s0 s1 Mo) := by
  unfold fX5_bits_b26
  refine z_iload_n C 3 1 dX5_bits_26 rfl rfl ?_
  refine z_lshl C dX5_bits_27 ?_
  refine z_lor C dX5_bits_28 ?_
  refine z_lstore_n C 1 (ls1 := [(1, .long (s1 ||| (shlJ s0 v3))), (0, .ref (B + v0)), (3, .int v3)]) dX5_bits_29 rfl (by decide) rfl ?_
  refine z_iinc C 3 2 (v := v3) (v1 := (v3 + (1 : Int32))) (ls1 := [(3, .int (v3 + (1 : Int32))), (1, .long (s1 ||| (shlJ s0 v3))), (0, .ref (B + v0))]) dX5_bits_30 rfl rfl (by decide) rfl ?_
  refine z_goto C 4 dX5_bits_33 rfl ?_
  exact z_jump (ls1 := [(0, .ref (B + v0)), (1, .long (s1 ||| (shlJ s0 v3))), (3, .int (v3 + (1 : Int32)))]) (Nat.le_of_ble_eq_true rfl) [2, 1, 0] rfl (hk4 (s1 ||| (shlJ s0 v3)) (v3 + (1 : Int32)))
set_option maxHeartbeats 4000000 in
set_option maxRecDepth 100000 in
theorem z_fX5_bits_l4_s {p : Program} {l : Launch} {e : Env} {s : State} {m : MethodId} {args : Array Value} {below : List Frame} {meth : Method} {c : Code} {D : va_G} {cy : Nat → ClassId} {B : Nat} {kd : Nat → Nat} {n : Nat} {sa sv : Nat → Nat} (C : zC p l s m args meth c D cy B kd n sa sv RX5 cX5_bits 4) (ht : ∀ x ∈ c.exceptionTable.toList, False) (hr : meth.sig.returnType = some (FieldType.long)) {b0 : Int64} {Mo : Mem} (N : Nat) (v0 : Nat) (k4 : Int64 → Int32 → Option Int64) (v1 : Int64) (v3 : Int32) (h0 : kd v0 = 5)  (hk4 : ∀ (v1 : Int64) (v3 : Int32), Z p l e (rmz 1 0) s m args below meth c (vx_MQ below (QcR D cy B kd n ((pJ Mo) b0)) (XcR D cy B kd n ((pJ Mo) b0)) args s 0 (6 * 0) (AA B kd n)) D cy B kd n 4 b0 0 4 [(0, .ref (B + v0)), (1, .long v1), (3, .int v3)] [] Mo (k4 v1 v3)) : Z p l e (rmz 1 0) s m args below meth c (vx_MQ below (QcR D cy B kd n ((pJ Mo) b0)) (XcR D cy B kd n ((pJ Mo) b0)) args s 0 (6 * 0) (AA B kd n)) D cy B kd n 4 b0 0 4 [(0, .ref (B + v0)), (1, .long v1), (3, .int v3)] [] Mo (fX5_bits_l4_s N v0 Mo k4 v1 v3) := by
  unfold fX5_bits_l4_s
  refine z_iload_n C 3 2 dX5_bits_4 rfl rfl ?_
  refine z_aload_n C 0 0 dX5_bits_5 rfl rfl ?_
  refine z_getI (k := 2) C cl5 h0 rfl gw_1_128 rfl dX5_bits_6 ?_
  refine z_icmp_ge C 36 dX5_bits_9 rfl (fun _ => ?_) (fun _ => ?_)
  · refine z_lload_n C 1 1 dX5_bits_36 rfl rfl ?_
    exact z_lret C hr (Nat.le_of_ble_eq_true rfl) dX5_bits_37 rfl
  · refine z_lload_n C 1 1 dX5_bits_12 rfl rfl ?_
    refine z_aload_n C 0 0 dX5_bits_13 rfl rfl ?_
    refine z_iload_n C 3 2 dX5_bits_14 rfl rfl ?_
    refine z_callV_pI (As := [.int v3]) (rest := [.long v1]) C rfl (ctX5_cellAt (zG_of C) v0 v3 h0 Mo) cw_RX5_88 rfl (okM_X5_cellAt) rfl cl5 h0 (okR_of rfl) (Nat.le_of_ble_eq_true rfl) dX5_bits_15 (fun qj1 _ => ?_)
    refine z_if_ne C 25 dX5_bits_18 rfl (fun _ => ?_) (fun _ => ?_)
    · refine z_lconst (v := 0) C dX5_bits_21 rfl ?_
      refine z_goto C 26 dX5_bits_22 rfl ?_
      exact z_jump (ls1 := [(0, .ref (B + v0)), (3, .int v3)]) (Nat.le_of_ble_eq_true rfl) [0, 2] rfl (z_fX5_bits_b26 C ht hr N k4 v0 v3 (0 : Int64) v1 Mo h0 hk4)
    · refine z_lconst (v := 1) C dX5_bits_25 rfl ?_
      exact z_jump (ls1 := [(0, .ref (B + v0)), (3, .int v3)]) (Nat.le_of_ble_eq_true rfl) [0, 2] rfl (z_fX5_bits_b26 C ht hr N k4 v0 v3 (1 : Int64) v1 Mo h0 hk4)
theorem z_fX5_bits_l4_i {p : Program} {l : Launch} {e : Env} {s : State} {m : MethodId} {args : Array Value} {below : List Frame} {meth : Method} {c : Code} {D : va_G} {cy : Nat → ClassId} {B : Nat} {kd : Nat → Nat} {n : Nat} {sa sv : Nat → Nat} (C : zC p l s m args meth c D cy B kd n sa sv RX5 cX5_bits 4) (ht : ∀ x ∈ c.exceptionTable.toList, False) (hr : meth.sig.returnType = some (FieldType.long)) {b0 : Int64} {Mo : Mem} (N : Nat) (v0 : Nat) (h0 : kd v0 = 5)  (fu : Nat) : ∀ (v1 : Int64) (v3 : Int32), Z p l e (rmz 1 0) s m args below meth c (vx_MQ below (QcR D cy B kd n ((pJ Mo) b0)) (XcR D cy B kd n ((pJ Mo) b0)) args s 0 (6 * 0) (AA B kd n)) D cy B kd n 4 b0 0 4 [(0, .ref (B + v0)), (1, .long v1), (3, .int v3)] [] Mo (fX5_bits_l4 N v0 Mo fu v1 v3) := by
  induction fu with
  | zero => intro v1 v3; exact z_none
  | succ fu ih => intro v1 v3; exact z_fX5_bits_l4_s C ht hr N v0 (fX5_bits_l4 N v0 Mo fu) v1 v3 h0 (fun v1 v3 => ih v1 v3)
theorem z_fX5_bits_l4 {p : Program} {l : Launch} {e : Env} {s : State} {m : MethodId} {args : Array Value} {below : List Frame} {meth : Method} {c : Code} {D : va_G} {cy : Nat → ClassId} {B : Nat} {kd : Nat → Nat} {n : Nat} {sa sv : Nat → Nat} (C : zC p l s m args meth c D cy B kd n sa sv RX5 cX5_bits 4) (ht : ∀ x ∈ c.exceptionTable.toList, False) (hr : meth.sig.returnType = some (FieldType.long)) {b0 : Int64} {Mo : Mem} (N : Nat) (v0 : Nat) (fu : Nat) (v1 : Int64) (v3 : Int32) (h0 : kd v0 = 5)  : Z p l e (rmz 1 0) s m args below meth c (vx_MQ below (QcR D cy B kd n ((pJ Mo) b0)) (XcR D cy B kd n ((pJ Mo) b0)) args s 0 (6 * 0) (AA B kd n)) D cy B kd n 4 b0 0 4 [(0, .ref (B + v0)), (1, .long v1), (3, .int v3)] [] Mo (fX5_bits_l4 N v0 Mo fu v1 v3) := z_fX5_bits_l4_i C ht hr N v0 h0 fu v1 v3
set_option maxHeartbeats 4000000 in
set_option maxRecDepth 100000 in
theorem ctX5_bits {l : Launch} {D : va_G} {cy : Nat → ClassId} {B : Nat} {kd : Nat → Nat} {n : Nat} {sa sv : Nat → Nat} (G : zG l kd n) (N : Nat) (v0 : Nat) (h0 : kd v0 = 5) (Mo : Mem) : CT l D cy B kd n sa sv 1 0 yX5_bits cX5_bits 4 (some (FieldType.long)) (pJ Mo) [.ref (B + v0)] Mo (fX5_bits N v0 Mo) := by
  refine ct_of (by decide) G.1 G.2 (Nat.le_of_ble_eq_true rfl) (ls := [(0, .ref (B + v0))]) rfl ?_
  intro p e s m args below meth c b0 C ht hr
  unfold fX5_bits
  refine z_lconst (v := 0) C dX5_bits_0 rfl ?_
  refine z_lstore_n C 1 (ls1 := [(1, .long (0 : Int64)), (0, .ref (B + v0))]) dX5_bits_1 rfl (by decide) rfl ?_
  refine z_iconst C dX5_bits_2 rfl ?_
  refine z_istore_n C 3 (ls1 := [(3, .int (0 : Int32)), (1, .long (0 : Int64)), (0, .ref (B + v0))]) dX5_bits_3 rfl (by decide) rfl ?_
  exact z_jump (ls1 := [(0, .ref (B + v0)), (1, .long (0 : Int64)), (3, .int (0 : Int32))]) (Nat.le_of_ble_eq_true rfl) [2, 1, 0] rfl (z_fX5_bits_l4 C ht hr N v0 N (0 : Int64) (0 : Int32) h0)
set_option maxHeartbeats 4000000 in
set_option maxRecDepth 100000 in
theorem ctX5_guestAt {l : Launch} {D : va_G} {cy : Nat → ClassId} {B : Nat} {kd : Nat → Nat} {n : Nat} {sa sv : Nat → Nat} (G : zG l kd n) (v0 : Nat) (v1 : Int32) (v2 : Int32) (h0 : kd v0 = 5) (Mo : Mem) : CT l D cy B kd n sa sv 1 0 yX5_guestAt cX5_guestAt 3 (some (FieldType.int)) (pI Mo) [.ref (B + v0), .int v1, .int v2] Mo (fX5_guestAt v0 v1 v2 Mo) := by
  refine ct_of (by decide) G.1 G.2 (Nat.le_of_ble_eq_true rfl) (ls := [(0, .ref (B + v0)), (1, .int v1), (2, .int v2)]) rfl ?_
  intro p e s m args below meth c b0 C ht hr
  unfold fX5_guestAt
  refine z_aload_n C 0 0 dX5_guestAt_0 rfl rfl ?_
  refine z_iload_n C 1 1 dX5_guestAt_1 rfl rfl ?_
  refine z_aload_n C 0 0 dX5_guestAt_2 rfl rfl ?_
  refine z_getI (k := 4) C cl5 h0 rfl gw_1_137 rfl dX5_guestAt_3 ?_
  refine z_imul C dX5_guestAt_6 ?_
  refine z_iload_n C 2 2 dX5_guestAt_7 rfl rfl ?_
  refine z_iadd C dX5_guestAt_8 ?_
  refine z_callV_pI (As := [.int ((v1 * (rI Mo v0 4)) + v2)]) (rest := []) C rfl (ctX5_cellAt (zG_of C) v0 ((v1 * (rI Mo v0 4)) + v2) h0 Mo) cw_RX5_88 rfl (okM_X5_cellAt) rfl cl5 h0 (okR_of rfl) (Nat.le_of_ble_eq_true rfl) dX5_guestAt_9 (fun qj1 _ => ?_)
  refine z_iconst C dX5_guestAt_12 rfl ?_
  refine z_isub C dX5_guestAt_13 ?_
  exact z_iret C hr (Nat.le_of_ble_eq_true rfl) dX5_guestAt_14 rfl
set_option maxHeartbeats 4000000 in
set_option maxRecDepth 100000 in
theorem z_fX5_freeSlot_l2_s {p : Program} {l : Launch} {e : Env} {s : State} {m : MethodId} {args : Array Value} {below : List Frame} {meth : Method} {c : Code} {D : va_G} {cy : Nat → ClassId} {B : Nat} {kd : Nat → Nat} {n : Nat} {sa sv : Nat → Nat} (C : zC p l s m args meth c D cy B kd n sa sv RX5 cX5_freeSlot 3) (ht : ∀ x ∈ c.exceptionTable.toList, False) (hr : meth.sig.returnType = some (FieldType.int)) {b0 : Int32} {Mo : Mem} (N : Nat) (v0 : Nat) (v1 : Int32) (k2 : Int32 → Option Int32) (v2 : Int32) (h0 : kd v0 = 5)  (hk2 : ∀ (v2 : Int32), Z p l e (rmz 2 0) s m args below meth c (vx_MQ below (QcR D cy B kd n ((pI Mo) b0)) (XcR D cy B kd n ((pI Mo) b0)) args s 0 (6 * 0) (AA B kd n)) D cy B kd n 3 b0 0 2 [(0, .ref (B + v0)), (1, .int v1), (2, .int v2)] [] Mo (k2 v2)) : Z p l e (rmz 2 0) s m args below meth c (vx_MQ below (QcR D cy B kd n ((pI Mo) b0)) (XcR D cy B kd n ((pI Mo) b0)) args s 0 (6 * 0) (AA B kd n)) D cy B kd n 3 b0 0 2 [(0, .ref (B + v0)), (1, .int v1), (2, .int v2)] [] Mo (fX5_freeSlot_l2_s N v0 v1 Mo k2 v2) := by
  unfold fX5_freeSlot_l2_s
  refine z_iload_n C 2 2 dX5_freeSlot_2 rfl rfl ?_
  refine z_aload_n C 0 0 dX5_freeSlot_3 rfl rfl ?_
  refine z_getI (k := 4) C cl5 h0 rfl gw_1_137 rfl dX5_freeSlot_4 ?_
  refine z_icmp_ge C 28 dX5_freeSlot_7 rfl (fun _ => ?_) (fun _ => ?_)
  · refine z_iconst C dX5_freeSlot_28 rfl ?_
    exact z_iret C hr (Nat.le_of_ble_eq_true rfl) dX5_freeSlot_29 rfl
  · refine z_aload_n C 0 0 dX5_freeSlot_10 rfl rfl ?_
    refine z_iload_n C 1 1 dX5_freeSlot_11 rfl rfl ?_
    refine z_iload_n C 2 2 dX5_freeSlot_12 rfl rfl ?_
    refine z_callV_pI (As := [.int v1, .int v2]) (rest := []) C rfl (ctX5_guestAt (zG_of C) v0 v1 v2 h0 Mo) cw_RX5_113 rfl (okM_X5_guestAt) rfl cl5 h0 (okR_of rfl) (Nat.le_of_ble_eq_true rfl) dX5_freeSlot_13 (fun qj1 _ => ?_)
    refine z_iconst C dX5_freeSlot_16 rfl ?_
    refine z_icmp_ne C 22 dX5_freeSlot_17 rfl (fun _ => ?_) (fun _ => ?_)
    · refine z_iload_n C 2 2 dX5_freeSlot_20 rfl rfl ?_
      exact z_iret C hr (Nat.le_of_ble_eq_true rfl) dX5_freeSlot_21 rfl
    · refine z_iinc C 2 2 (v := v2) (v1 := (v2 + (1 : Int32))) (ls1 := [(2, .int (v2 + (1 : Int32))), (0, .ref (B + v0)), (1, .int v1)]) dX5_freeSlot_22 rfl rfl (by decide) rfl ?_
      refine z_goto C 2 dX5_freeSlot_25 rfl ?_
      exact z_jump (ls1 := [(0, .ref (B + v0)), (1, .int v1), (2, .int (v2 + (1 : Int32)))]) (Nat.le_of_ble_eq_true rfl) [1, 2, 0] rfl (hk2 (v2 + (1 : Int32)))
theorem z_fX5_freeSlot_l2_i {p : Program} {l : Launch} {e : Env} {s : State} {m : MethodId} {args : Array Value} {below : List Frame} {meth : Method} {c : Code} {D : va_G} {cy : Nat → ClassId} {B : Nat} {kd : Nat → Nat} {n : Nat} {sa sv : Nat → Nat} (C : zC p l s m args meth c D cy B kd n sa sv RX5 cX5_freeSlot 3) (ht : ∀ x ∈ c.exceptionTable.toList, False) (hr : meth.sig.returnType = some (FieldType.int)) {b0 : Int32} {Mo : Mem} (N : Nat) (v0 : Nat) (v1 : Int32) (h0 : kd v0 = 5)  (fu : Nat) : ∀ (v2 : Int32), Z p l e (rmz 2 0) s m args below meth c (vx_MQ below (QcR D cy B kd n ((pI Mo) b0)) (XcR D cy B kd n ((pI Mo) b0)) args s 0 (6 * 0) (AA B kd n)) D cy B kd n 3 b0 0 2 [(0, .ref (B + v0)), (1, .int v1), (2, .int v2)] [] Mo (fX5_freeSlot_l2 N v0 v1 Mo fu v2) := by
  induction fu with
  | zero => intro v2; exact z_none
  | succ fu ih => intro v2; exact z_fX5_freeSlot_l2_s C ht hr N v0 v1 (fX5_freeSlot_l2 N v0 v1 Mo fu) v2 h0 (fun v2 => ih v2)
theorem z_fX5_freeSlot_l2 {p : Program} {l : Launch} {e : Env} {s : State} {m : MethodId} {args : Array Value} {below : List Frame} {meth : Method} {c : Code} {D : va_G} {cy : Nat → ClassId} {B : Nat} {kd : Nat → Nat} {n : Nat} {sa sv : Nat → Nat} (C : zC p l s m args meth c D cy B kd n sa sv RX5 cX5_freeSlot 3) (ht : ∀ x ∈ c.exceptionTable.toList, False) (hr : meth.sig.returnType = some (FieldType.int)) {b0 : Int32} {Mo : Mem} (N : Nat) (v0 : Nat) (v1 : Int32) (fu : Nat) (v2 : Int32) (h0 : kd v0 = 5)  : Z p l e (rmz 2 0) s m args below meth c (vx_MQ below (QcR D cy B kd n ((pI Mo) b0)) (XcR D cy B kd n ((pI Mo) b0)) args s 0 (6 * 0) (AA B kd n)) D cy B kd n 3 b0 0 2 [(0, .ref (B + v0)), (1, .int v1), (2, .int v2)] [] Mo (fX5_freeSlot_l2 N v0 v1 Mo fu v2) := z_fX5_freeSlot_l2_i C ht hr N v0 v1 h0 fu v2
set_option maxHeartbeats 4000000 in
set_option maxRecDepth 100000 in
theorem ctX5_freeSlot {l : Launch} {D : va_G} {cy : Nat → ClassId} {B : Nat} {kd : Nat → Nat} {n : Nat} {sa sv : Nat → Nat} (G : zG l kd n) (N : Nat) (v0 : Nat) (v1 : Int32) (h0 : kd v0 = 5) (Mo : Mem) : CT l D cy B kd n sa sv 2 0 yX5_freeSlot cX5_freeSlot 3 (some (FieldType.int)) (pI Mo) [.ref (B + v0), .int v1] Mo (fX5_freeSlot N v0 v1 Mo) := by
  refine ct_of (by decide) G.1 G.2 (Nat.le_of_ble_eq_true rfl) (ls := [(0, .ref (B + v0)), (1, .int v1)]) rfl ?_
  intro p e s m args below meth c b0 C ht hr
  unfold fX5_freeSlot
  refine z_iconst C dX5_freeSlot_0 rfl ?_
  refine z_istore_n C 2 (ls1 := [(2, .int (0 : Int32)), (0, .ref (B + v0)), (1, .int v1)]) dX5_freeSlot_1 rfl (by decide) rfl ?_
  exact z_jump (ls1 := [(0, .ref (B + v0)), (1, .int v1), (2, .int (0 : Int32))]) (Nat.le_of_ble_eq_true rfl) [1, 2, 0] rfl (z_fX5_freeSlot_l2 C ht hr N v0 v1 N (0 : Int32) h0)
set_option maxHeartbeats 4000000 in
set_option maxRecDepth 100000 in
theorem ctX5_setCell {l : Launch} {D : va_G} {cy : Nat → ClassId} {B : Nat} {kd : Nat → Nat} {n : Nat} {sa sv : Nat → Nat} (G : zG l kd n) (v0 : Nat) (v1 : Int32) (v2 : Int32) (h0 : kd v0 = 5) (M : Mem) : CT l D cy B kd n sa sv 0 0 yX5_setCell cX5_setCell 3 (none) cvV [.ref (B + v0), .int v1, .int v2] M (fX5_setCell v0 v1 v2 M) := by
  refine ct_of (by decide) G.1 G.2 (Nat.le_of_ble_eq_true rfl) (ls := [(0, .ref (B + v0)), (1, .int v1), (2, .int v2)]) rfl ?_
  intro p e s m args below meth c b0 C ht hr
  unfold fX5_setCell
  refine z_iload_n C 1 1 dX5_setCell_0 rfl rfl ?_
  refine z_if_lt C 20 dX5_setCell_1 rfl (fun _ => ?_) (fun _ => ?_)
  · exact z_vret C hr (Nat.le_of_ble_eq_true rfl) dX5_setCell_20 rfl
  · refine z_iload_n C 1 1 dX5_setCell_4 rfl rfl ?_
    refine z_aload_n C 0 0 dX5_setCell_5 rfl rfl ?_
    refine z_getR (k := 9) C cl5 h0 rfl gw_1_152 rfl dX5_setCell_6 ?_
    have j1 : kd (v0 + 3) = 26 := zkd C h0 (k := 9) rfl
    refine z_alen (v := 240) C j1 (by decide) rfl dX5_setCell_9 ?_
    refine z_icmp_ge C 20 dX5_setCell_10 rfl (fun _ => ?_) (fun _ => ?_)
    · exact z_vret C hr (Nat.le_of_ble_eq_true rfl) dX5_setCell_20 rfl
    · refine z_aload_n C 0 0 dX5_setCell_13 rfl rfl ?_
      refine z_getR (k := 9) C cl5 h0 rfl gw_1_152 rfl dX5_setCell_14 ?_
      have j2 : kd (v0 + 3) = 26 := zkd C h0 (k := 9) rfl
      refine z_iload_n C 1 1 dX5_setCell_17 rfl rfl ?_
      refine z_iload_n C 2 2 dX5_setCell_18 rfl rfl ?_
      refine z_iast C j2 rfl (by decide) dX5_setCell_19 (fun _ => ?_)
      exact z_vret C hr (Nat.le_of_ble_eq_true rfl) dX5_setCell_20 rfl
set_option maxHeartbeats 4000000 in
set_option maxRecDepth 100000 in
theorem ctX5_setGuest {l : Launch} {D : va_G} {cy : Nat → ClassId} {B : Nat} {kd : Nat → Nat} {n : Nat} {sa sv : Nat → Nat} (G : zG l kd n) (v0 : Nat) (v1 : Int32) (v2 : Int32) (v3 : Int32) (h0 : kd v0 = 5) (M : Mem) : CT l D cy B kd n sa sv 1 0 yX5_setGuest cX5_setGuest 4 (none) cvV [.ref (B + v0), .int v1, .int v2, .int v3] M (fX5_setGuest v0 v1 v2 v3 M) := by
  refine ct_of (by decide) G.1 G.2 (Nat.le_of_ble_eq_true rfl) (ls := [(0, .ref (B + v0)), (1, .int v1), (2, .int v2), (3, .int v3)]) rfl ?_
  intro p e s m args below meth c b0 C ht hr
  unfold fX5_setGuest
  refine z_aload_n C 0 0 dX5_setGuest_0 rfl rfl ?_
  refine z_iload_n C 1 1 dX5_setGuest_1 rfl rfl ?_
  refine z_aload_n C 0 0 dX5_setGuest_2 rfl rfl ?_
  refine z_getI (k := 4) C cl5 h0 rfl gw_1_137 rfl dX5_setGuest_3 ?_
  refine z_imul C dX5_setGuest_6 ?_
  refine z_iload_n C 2 2 dX5_setGuest_7 rfl rfl ?_
  refine z_iadd C dX5_setGuest_8 ?_
  refine z_iload_n C 3 3 dX5_setGuest_9 rfl rfl ?_
  refine z_iconst C dX5_setGuest_10 rfl ?_
  refine z_iadd C dX5_setGuest_11 ?_
  refine z_callV_V (As := [.int ((v1 * (rI M v0 4)) + v2), .int (v3 + (1 : Int32))]) (rest := []) C rfl (ctX5_setCell (zG_of C) v0 ((v1 * (rI M v0 4)) + v2) (v3 + (1 : Int32)) h0 M) cw_RX5_105 rfl (okM_X5_setCell) rfl cl5 h0 (okR_of rfl) (Nat.le_of_ble_eq_true rfl) dX5_setGuest_12 (fun qj1 _ => ?_)
  exact z_vret C hr (Nat.le_of_ble_eq_true rfl) dX5_setGuest_15 rfl
set_option maxHeartbeats 4000000 in
set_option maxRecDepth 100000 in
theorem ctX5_clearCells {l : Launch} {D : va_G} {cy : Nat → ClassId} {B : Nat} {kd : Nat → Nat} {n : Nat} {sa sv : Nat → Nat} (G : zG l kd n) (N : Nat) (v0 : Nat) (h0 : kd v0 = 5) (M : Mem) : CT l D cy B kd n sa sv 1 0 yX5_clearCells cX5_clearCells 1 (none) cvV [.ref (B + v0)] M (fX5_clearCells N v0 M) := by
  refine ct_of (by decide) G.1 G.2 (Nat.le_of_ble_eq_true rfl) (ls := [(0, .ref (B + v0))]) rfl ?_
  intro p e s m args below meth c b0 C ht hr
  unfold fX5_clearCells
  refine z_aload_n C 0 0 dX5_clearCells_0 rfl rfl ?_
  refine z_getR (k := 9) C cl5 h0 rfl gw_1_152 rfl dX5_clearCells_1 ?_
  have j1 : kd (v0 + 3) = 26 := zkd C h0 (k := 9) rfl
  refine z_iconst C dX5_clearCells_4 rfl ?_
  refine z_callS_V (As := [.ref (B + (v0 + 3)), .int (0 : Int32)]) (rest := []) C rfl (ctJ7_fill_53178 (zG_of C) j1 rfl (by decide) (0 : Int32) M) cw_RX5_54 (okM_J7_fill_53178) rfl (okR_of rfl) (Nat.le_of_ble_eq_true rfl) dX5_clearCells_5 (fun qj2 _ => ?_)
  exact z_vret C hr (Nat.le_of_ble_eq_true rfl) dX5_clearCells_8 rfl
set_option maxHeartbeats 4000000 in
set_option maxRecDepth 100000 in
theorem ctX5_begin {l : Launch} {D : va_G} {cy : Nat → ClassId} {B : Nat} {kd : Nat → Nat} {n : Nat} {sa sv : Nat → Nat} (G : zG l kd n) (N : Nat) (v0 : Nat) (v1 : Int32) (v2 : Int32) (v3 : Int32) (v4 : Int32) (h0 : kd v0 = 5) (M : Mem) : CT l D cy B kd n sa sv 2 0 yX5_begin cX5_begin 5 (none) cvV [.ref (B + v0), .int v1, .int v2, .int v3, .int v4] M (fX5_begin N v0 v1 v2 v3 v4 M) := by
  refine ct_of (by decide) G.1 G.2 (Nat.le_of_ble_eq_true rfl) (ls := [(0, .ref (B + v0)), (1, .int v1), (2, .int v2), (3, .int v3), (4, .int v4)]) rfl ?_
  intro p e s m args below meth c b0 C ht hr
  unfold fX5_begin
  refine z_aload_n C 0 0 dX5_begin_0 rfl rfl ?_
  refine z_iconst C dX5_begin_1 rfl ?_
  refine z_putZ (k := 0) C cl5 h0 rfl gw_1_122 rfl rfl rfl (narB true) (fitB true) dX5_begin_2 ?_
  refine z_aload_n C 0 0 dX5_begin_5 rfl rfl ?_
  refine z_iload_n C 1 1 dX5_begin_6 rfl rfl ?_
  refine z_putI (k := 1) C cl5 h0 rfl gw_1_125 rfl rfl rfl dX5_begin_7 ?_
  refine z_aload_n C 0 0 dX5_begin_10 rfl rfl ?_
  refine z_iload_n C 2 2 dX5_begin_11 rfl rfl ?_
  refine z_putI (k := 2) C cl5 h0 rfl gw_1_128 rfl rfl rfl dX5_begin_12 ?_
  refine z_aload_n C 0 0 dX5_begin_15 rfl rfl ?_
  refine z_iload_n C 3 3 dX5_begin_16 rfl rfl ?_
  refine z_putI (k := 3) C cl5 h0 rfl gw_1_132 rfl rfl rfl dX5_begin_17 ?_
  refine z_aload_n C 0 0 dX5_begin_20 rfl rfl ?_
  refine z_iload C 4 dX5_begin_21 rfl ?_
  refine z_putI (k := 4) C cl5 h0 rfl gw_1_137 rfl rfl rfl dX5_begin_23 ?_
  refine z_aload_n C 0 0 dX5_begin_26 rfl rfl ?_
  refine z_iconst C dX5_begin_27 rfl ?_
  refine z_putI (k := 5) C cl5 h0 rfl gw_1_140 rfl rfl rfl dX5_begin_28 ?_
  refine z_aload_n C 0 0 dX5_begin_31 rfl rfl ?_
  refine z_iconst C dX5_begin_32 rfl ?_
  refine z_putI (k := 6) C cl5 h0 rfl gw_1_142 rfl rfl rfl dX5_begin_33 ?_
  refine z_aload_n C 0 0 dX5_begin_36 rfl rfl ?_
  refine z_iconst C dX5_begin_37 rfl ?_
  refine z_putI (k := 7) C cl5 h0 rfl gw_1_145 rfl rfl rfl dX5_begin_38 ?_
  refine z_aload_n C 0 0 dX5_begin_41 rfl rfl ?_
  refine z_getR (k := 8) C cl5 h0 rfl gw_1_146 rfl dX5_begin_42 ?_
  have j1 : kd (v0 + 1) = 2 := zkd C h0 (k := 8) rfl
  refine z_callV_V (As := []) (rest := []) C rfl (ctX2_clear (zG_of C) N (v0 + 1) j1 (wI (wI (wI (wI (wI (wI (wI (wI M v0 0 (1 : Int32)) v0 1 v1) v0 2 v2) v0 3 v3) v0 4 v4) v0 5 (1 : Int32)) v0 6 (0 : Int32)) v0 7 (0 : Int32))) cw_RX5_48 rfl (okM_X2_clear) rfl cl2 j1 (okR_of rfl) (Nat.le_of_ble_eq_true rfl) dX5_begin_45 (fun qj2 _ => ?_)
  refine z_aload_n C 0 0 dX5_begin_48 rfl rfl ?_
  refine z_callV_V (As := []) (rest := []) C rfl (ctX5_clearCells (zG_of C) N v0 h0 qj2) cw_RX5_51 rfl (okM_X5_clearCells) rfl cl5 h0 (okR_of rfl) (Nat.le_of_ble_eq_true rfl) dX5_begin_49 (fun qj3 _ => ?_)
  exact z_vret C hr (Nat.le_of_ble_eq_true rfl) dX5_begin_52 rfl
set_option maxHeartbeats 4000000 in
set_option maxRecDepth 100000 in
theorem ctX5_layerStart {l : Launch} {D : va_G} {cy : Nat → ClassId} {B : Nat} {kd : Nat → Nat} {n : Nat} {sa sv : Nat → Nat} (G : zG l kd n) (v0 : Nat) (v1 : Int32) (h0 : kd v0 = 5) (Mo : Mem) : CT l D cy B kd n sa sv 0 0 yX5_layerStart cX5_layerStart 2 (some (FieldType.int)) (pI Mo) [.ref (B + v0), .int v1] Mo (fX5_layerStart v0 v1 Mo) := by
  refine ct_of (by decide) G.1 G.2 (Nat.le_of_ble_eq_true rfl) (ls := [(0, .ref (B + v0)), (1, .int v1)]) rfl ?_
  intro p e s m args below meth c b0 C ht hr
  unfold fX5_layerStart
  refine z_aload_n C 0 0 dX5_layerStart_0 rfl rfl ?_
  refine z_getI (k := 2) C cl5 h0 rfl gw_1_128 rfl dX5_layerStart_1 ?_
  refine z_iconst C dX5_layerStart_4 rfl ?_
  refine z_iload_n C 1 1 dX5_layerStart_5 rfl rfl ?_
  refine z_ishl C dX5_layerStart_6 ?_
  refine z_iconst C dX5_layerStart_7 rfl ?_
  refine z_isub C dX5_layerStart_8 ?_
  refine z_imul C dX5_layerStart_9 ?_
  exact z_iret C hr (Nat.le_of_ble_eq_true rfl) dX5_layerStart_10 rfl
set_option maxHeartbeats 4000000 in
set_option maxRecDepth 100000 in
theorem ctX5_places {l : Launch} {D : va_G} {cy : Nat → ClassId} {B : Nat} {kd : Nat → Nat} {n : Nat} {sa sv : Nat → Nat} (G : zG l kd n) (v0 : Nat) (h0 : kd v0 = 5) (Mo : Mem) : CT l D cy B kd n sa sv 1 0 yX5_places cX5_places 1 (some (FieldType.int)) (pI Mo) [.ref (B + v0)] Mo (fX5_places v0 Mo) := by
  refine ct_of (by decide) G.1 G.2 (Nat.le_of_ble_eq_true rfl) (ls := [(0, .ref (B + v0))]) rfl ?_
  intro p e s m args below meth c b0 C ht hr
  unfold fX5_places
  refine z_aload_n C 0 0 dX5_places_0 rfl rfl ?_
  refine z_getI (k := 1) C cl5 h0 rfl gw_1_125 rfl dX5_places_1 ?_
  refine z_iconst C dX5_places_4 rfl ?_
  refine z_icmp_ne C 19 dX5_places_5 rfl (fun _ => ?_) (fun _ => ?_)
  · refine z_aload_n C 0 0 dX5_places_8 rfl rfl ?_
    refine z_aload_n C 0 0 dX5_places_9 rfl rfl ?_
    refine z_getI (k := 5) C cl5 h0 rfl gw_1_140 rfl dX5_places_10 ?_
    refine z_callV_pI (As := [.int (rI Mo v0 5)]) (rest := []) C rfl (ctX5_layerStart (zG_of C) v0 (rI Mo v0 5) h0 Mo) cw_RX5_60 rfl (okM_X5_layerStart) rfl cl5 h0 (okR_of rfl) (Nat.le_of_ble_eq_true rfl) dX5_places_13 (fun qj1 _ => ?_)
    refine z_goto C 23 dX5_places_16 rfl ?_
    exact z_iret C hr (Nat.le_of_ble_eq_true rfl) dX5_places_23 rfl
  · refine z_aload_n C 0 0 dX5_places_19 rfl rfl ?_
    refine z_getI (k := 2) C cl5 h0 rfl gw_1_128 rfl dX5_places_20 ?_
    exact z_iret C hr (Nat.le_of_ble_eq_true rfl) dX5_places_23 rfl
set_option maxHeartbeats 4000000 in
set_option maxRecDepth 100000 in
theorem ctX5_layerSize {l : Launch} {D : va_G} {cy : Nat → ClassId} {B : Nat} {kd : Nat → Nat} {n : Nat} {sa sv : Nat → Nat} (G : zG l kd n) (v0 : Nat) (v1 : Int32) (h0 : kd v0 = 5) (Mo : Mem) : CT l D cy B kd n sa sv 0 0 yX5_layerSize cX5_layerSize 2 (some (FieldType.int)) (pI Mo) [.ref (B + v0), .int v1] Mo (fX5_layerSize v0 v1 Mo) := by
  refine ct_of (by decide) G.1 G.2 (Nat.le_of_ble_eq_true rfl) (ls := [(0, .ref (B + v0)), (1, .int v1)]) rfl ?_
  intro p e s m args below meth c b0 C ht hr
  unfold fX5_layerSize
  refine z_aload_n C 0 0 dX5_layerSize_0 rfl rfl ?_
  refine z_getI (k := 2) C cl5 h0 rfl gw_1_128 rfl dX5_layerSize_1 ?_
  refine z_iload_n C 1 1 dX5_layerSize_4 rfl rfl ?_
  refine z_ishl C dX5_layerSize_5 ?_
  exact z_iret C hr (Nat.le_of_ble_eq_true rfl) dX5_layerSize_6 rfl
set_option maxHeartbeats 4000000 in
set_option maxRecDepth 100000 in
theorem z_fX5_isPlain_b15 {p : Program} {l : Launch} {e : Env} {s : State} {m : MethodId} {args : Array Value} {below : List Frame} {meth : Method} {c : Code} {D : va_G} {cy : Nat → ClassId} {B : Nat} {kd : Nat → Nat} {n : Nat} {sa sv : Nat → Nat} (C : zC p l s m args meth c D cy B kd n sa sv RX5 cX5_isPlain 1) (ht : ∀ x ∈ c.exceptionTable.toList, False) (hr : meth.sig.returnType = some (FieldType.boolean)) {b0 : Bool}   (Mo : Mem)  : Z p l e (rmz 0 0) s m args below meth c (vx_MQ below (QcR D cy B kd n ((pB Mo) b0)) (XcR D cy B kd n ((pB Mo) b0)) args s 0 (6 * 0) (AA B kd n)) D cy B kd n 1 b0 0 15 [] [] Mo (fX5_isPlain_b15 Mo) := by
  unfold fX5_isPlain_b15
  refine z_iconst C dX5_isPlain_15 rfl ?_
  refine z_goto C 20 dX5_isPlain_16 rfl ?_
  exact z_zret C (v := true) hr (Nat.le_of_ble_eq_true rfl) dX5_isPlain_20 rfl
set_option maxHeartbeats 4000000 in
set_option maxRecDepth 100000 in
theorem ctX5_isPlain {l : Launch} {D : va_G} {cy : Nat → ClassId} {B : Nat} {kd : Nat → Nat} {n : Nat} {sa sv : Nat → Nat} (G : zG l kd n) (v0 : Nat) (h0 : kd v0 = 5) (Mo : Mem) : CT l D cy B kd n sa sv 0 0 yX5_isPlain cX5_isPlain 1 (some (FieldType.boolean)) (pB Mo) [.ref (B + v0)] Mo (fX5_isPlain v0 Mo) := by
  refine ct_of (by decide) G.1 G.2 (Nat.le_of_ble_eq_true rfl) (ls := [(0, .ref (B + v0))]) rfl ?_
  intro p e s m args below meth c b0 C ht hr
  unfold fX5_isPlain
  refine z_aload_n C 0 0 dX5_isPlain_0 rfl rfl ?_
  refine z_getI (k := 1) C cl5 h0 rfl gw_1_125 rfl dX5_isPlain_1 ?_
  refine z_if_eq C 15 dX5_isPlain_4 rfl (fun _ => ?_) (fun _ => ?_)
  · exact z_jump (ls1 := []) (Nat.le_of_ble_eq_true rfl) [] rfl (z_fX5_isPlain_b15 C ht hr Mo)
  · refine z_aload_n C 0 0 dX5_isPlain_7 rfl rfl ?_
    refine z_getI (k := 1) C cl5 h0 rfl gw_1_125 rfl dX5_isPlain_8 ?_
    refine z_iconst C dX5_isPlain_11 rfl ?_
    refine z_icmp_ne C 19 dX5_isPlain_12 rfl (fun _ => ?_) (fun _ => ?_)
    · exact z_jump (ls1 := []) (Nat.le_of_ble_eq_true rfl) [] rfl (z_fX5_isPlain_b15 C ht hr Mo)
    · refine z_iconst C dX5_isPlain_19 rfl ?_
      exact z_zret C (v := false) hr (Nat.le_of_ble_eq_true rfl) dX5_isPlain_20 rfl
set_option maxHeartbeats 4000000 in
set_option maxRecDepth 100000 in
theorem ctX5_fullCell {l : Launch} {D : va_G} {cy : Nat → ClassId} {B : Nat} {kd : Nat → Nat} {n : Nat} {sa sv : Nat → Nat} (G : zG l kd n) (v0 : Nat) (h0 : kd v0 = 5) (Mo : Mem) : CT l D cy B kd n sa sv 0 0 yX5_fullCell cX5_fullCell 1 (some (FieldType.int)) (pI Mo) [.ref (B + v0)] Mo (fX5_fullCell v0 Mo) := by
  refine ct_of (by decide) G.1 G.2 (Nat.le_of_ble_eq_true rfl) (ls := [(0, .ref (B + v0))]) rfl ?_
  intro p e s m args below meth c b0 C ht hr
  unfold fX5_fullCell
  refine z_aload_n C 0 0 dX5_fullCell_0 rfl rfl ?_
  refine z_getI (k := 1) C cl5 h0 rfl gw_1_125 rfl dX5_fullCell_1 ?_
  refine z_iconst C dX5_fullCell_4 rfl ?_
  refine z_icmp_ne C 13 dX5_fullCell_5 rfl (fun _ => ?_) (fun _ => ?_)
  · refine z_bipush (v := 15) C dX5_fullCell_8 rfl ?_
    refine z_goto C 14 dX5_fullCell_10 rfl ?_
    exact z_iret C hr (Nat.le_of_ble_eq_true rfl) dX5_fullCell_14 rfl
  · refine z_iconst C dX5_fullCell_13 rfl ?_
    exact z_iret C hr (Nat.le_of_ble_eq_true rfl) dX5_fullCell_14 rfl
set_option maxHeartbeats 4000000 in
set_option maxRecDepth 100000 in
theorem z_fX5_hasGuestLike_b43 {p : Program} {l : Launch} {e : Env} {s : State} {m : MethodId} {args : Array Value} {below : List Frame} {meth : Method} {c : Code} {D : va_G} {cy : Nat → ClassId} {B : Nat} {kd : Nat → Nat} {n : Nat} {sa sv : Nat → Nat} (C : zC p l s m args meth c D cy B kd n sa sv RX5 cX5_hasGuestLike 6) (ht : ∀ x ∈ c.exceptionTable.toList, False) (hr : meth.sig.returnType = some (FieldType.boolean)) {b0 : Bool}  (N : Nat) (k3 : Int32 → Option Bool) (v0 : Nat) (v1 : Nat) (v2 : Int32) (v3 : Int32) (v4 : Int32) (Mo : Mem) (h0 : kd v0 = 5) (h1 : kd v1 = 6) (hk3 : ∀ (v4 : Int32), Z p l e (rmz 2 0) s m args below meth c (vx_MQ below (QcR D cy B kd n ((pB Mo) b0)) (XcR D cy B kd n ((pB Mo) b0)) args s 0 (6 * 0) (AA B kd n)) D cy B kd n 6 b0 0 3 [(0, .ref (B + v0)), (1, .ref (B + v1)), (2, .int v2), (3, .int v3), (4, .int v4)] [] Mo (k3 v4)) : Z p l e (rmz 2 0) s m args below meth c (vx_MQ below (QcR D cy B kd n ((pB Mo) b0)) (XcR D cy B kd n ((pB Mo) b0)) args s 0 (6 * 0) (AA B kd n)) D cy B kd n 6 b0 0 43 [(0, .ref (B + v0)), (1, .ref (B + v1)), (2, .int v2), (3, .int v3), (4, .int v4)] [] Mo (fX5_hasGuestLike_b43 N k3 v0 v1 v2 v3 v4 Mo) := by
  unfold fX5_hasGuestLike_b43
  refine z_iinc C 4 4 (v := v4) (v1 := (v4 + (1 : Int32))) (ls1 := [(4, .int (v4 + (1 : Int32))), (0, .ref (B + v0)), (1, .ref (B + v1)), (2, .int v2), (3, .int v3)]) dX5_hasGuestLike_43 rfl rfl (by decide) rfl ?_
  refine z_goto C 3 dX5_hasGuestLike_46 rfl ?_
  exact z_jump (ls1 := [(0, .ref (B + v0)), (1, .ref (B + v1)), (2, .int v2), (3, .int v3), (4, .int (v4 + (1 : Int32)))]) (Nat.le_of_ble_eq_true rfl) [1, 2, 3, 4, 0] rfl (hk3 (v4 + (1 : Int32)))
set_option maxHeartbeats 4000000 in
set_option maxRecDepth 100000 in
theorem z_fX5_hasGuestLike_l3_s {p : Program} {l : Launch} {e : Env} {s : State} {m : MethodId} {args : Array Value} {below : List Frame} {meth : Method} {c : Code} {D : va_G} {cy : Nat → ClassId} {B : Nat} {kd : Nat → Nat} {n : Nat} {sa sv : Nat → Nat} (C : zC p l s m args meth c D cy B kd n sa sv RX5 cX5_hasGuestLike 6) (ht : ∀ x ∈ c.exceptionTable.toList, False) (hr : meth.sig.returnType = some (FieldType.boolean)) {b0 : Bool} {Mo : Mem} (N : Nat) (v0 : Nat) (v1 : Nat) (v2 : Int32) (v3 : Int32) (k3 : Int32 → Option Bool) (v4 : Int32) (h0 : kd v0 = 5) (h1 : kd v1 = 6)  (hk3 : ∀ (v4 : Int32), Z p l e (rmz 2 0) s m args below meth c (vx_MQ below (QcR D cy B kd n ((pB Mo) b0)) (XcR D cy B kd n ((pB Mo) b0)) args s 0 (6 * 0) (AA B kd n)) D cy B kd n 6 b0 0 3 [(0, .ref (B + v0)), (1, .ref (B + v1)), (2, .int v2), (3, .int v3), (4, .int v4)] [] Mo (k3 v4)) : Z p l e (rmz 2 0) s m args below meth c (vx_MQ below (QcR D cy B kd n ((pB Mo) b0)) (XcR D cy B kd n ((pB Mo) b0)) args s 0 (6 * 0) (AA B kd n)) D cy B kd n 6 b0 0 3 [(0, .ref (B + v0)), (1, .ref (B + v1)), (2, .int v2), (3, .int v3), (4, .int v4)] [] Mo (fX5_hasGuestLike_l3_s N v0 v1 v2 v3 Mo k3 v4) := by
  unfold fX5_hasGuestLike_l3_s
  refine z_iload C 4 dX5_hasGuestLike_3 rfl ?_
  refine z_aload_n C 0 0 dX5_hasGuestLike_5 rfl rfl ?_
  refine z_getI (k := 4) C cl5 h0 rfl gw_1_137 rfl dX5_hasGuestLike_6 ?_
  refine z_icmp_ge C 49 dX5_hasGuestLike_9 rfl (fun _ => ?_) (fun _ => ?_)
  · refine z_iconst C dX5_hasGuestLike_49 rfl ?_
    exact z_zret C (v := false) hr (Nat.le_of_ble_eq_true rfl) dX5_hasGuestLike_50 rfl
  · refine z_aload_n C 0 0 dX5_hasGuestLike_12 rfl rfl ?_
    refine z_iload_n C 3 3 dX5_hasGuestLike_13 rfl rfl ?_
    refine z_iload C 4 dX5_hasGuestLike_14 rfl ?_
    refine z_callV_pI (As := [.int v3, .int v4]) (rest := []) C rfl (ctX5_guestAt (zG_of C) v0 v3 v4 h0 Mo) cw_RX5_113 rfl (okM_X5_guestAt) rfl cl5 h0 (okR_of rfl) (Nat.le_of_ble_eq_true rfl) dX5_hasGuestLike_16 (fun qj1 _ => ?_)
    refine z_istore C 5 (ls1 := [(5, .int qj1), (0, .ref (B + v0)), (1, .ref (B + v1)), (2, .int v2), (3, .int v3), (4, .int v4)]) dX5_hasGuestLike_19 (by decide) rfl ?_
    refine z_iload C 0 dX5_hasGuestLike_21 rfl ?_
    refine z_iconst C dX5_hasGuestLike_23 rfl ?_
    refine z_icmp_eq C 43 dX5_hasGuestLike_24 rfl (fun _ => ?_) (fun _ => ?_)
    · exact z_jump (ls1 := [(0, .ref (B + v0)), (1, .ref (B + v1)), (2, .int v2), (3, .int v3), (4, .int v4)]) (Nat.le_of_ble_eq_true rfl) [1, 2, 3, 4, 5] rfl (z_fX5_hasGuestLike_b43 C ht hr N k3 v0 v1 v2 v3 v4 Mo h0 h1 hk3)
    · refine z_aload_n C 1 2 dX5_hasGuestLike_27 rfl rfl ?_
      refine z_iload C 0 dX5_hasGuestLike_28 rfl ?_
      refine z_callV_pI (As := [.int qj1]) (rest := []) C rfl (ctX6_tagOf (zG_of C) v1 qj1 h1 Mo) cw_RX5_78 rfl (okM_X6_tagOf) rfl cl6 h1 (okR_of rfl) (Nat.le_of_ble_eq_true rfl) dX5_hasGuestLike_30 (fun qj2 _ => ?_)
      refine z_aload_n C 1 2 dX5_hasGuestLike_33 rfl rfl ?_
      refine z_iload_n C 2 3 dX5_hasGuestLike_34 rfl rfl ?_
      refine z_callV_pI (As := [.int v2]) (rest := [.int qj2]) C rfl (ctX6_tagOf (zG_of C) v1 v2 h1 Mo) cw_RX5_78 rfl (okM_X6_tagOf) rfl cl6 h1 (okR_of rfl) (Nat.le_of_ble_eq_true rfl) dX5_hasGuestLike_35 (fun qj3 _ => ?_)
      refine z_icmp_ne C 43 dX5_hasGuestLike_38 rfl (fun _ => ?_) (fun _ => ?_)
      · refine z_iconst C dX5_hasGuestLike_41 rfl ?_
        exact z_zret C (v := true) hr (Nat.le_of_ble_eq_true rfl) dX5_hasGuestLike_42 rfl
      · exact z_jump (ls1 := [(0, .ref (B + v0)), (1, .ref (B + v1)), (2, .int v2), (3, .int v3), (4, .int v4)]) (Nat.le_of_ble_eq_true rfl) [1, 2, 3, 4, 5] rfl (z_fX5_hasGuestLike_b43 C ht hr N k3 v0 v1 v2 v3 v4 Mo h0 h1 hk3)
theorem z_fX5_hasGuestLike_l3_i {p : Program} {l : Launch} {e : Env} {s : State} {m : MethodId} {args : Array Value} {below : List Frame} {meth : Method} {c : Code} {D : va_G} {cy : Nat → ClassId} {B : Nat} {kd : Nat → Nat} {n : Nat} {sa sv : Nat → Nat} (C : zC p l s m args meth c D cy B kd n sa sv RX5 cX5_hasGuestLike 6) (ht : ∀ x ∈ c.exceptionTable.toList, False) (hr : meth.sig.returnType = some (FieldType.boolean)) {b0 : Bool} {Mo : Mem} (N : Nat) (v0 : Nat) (v1 : Nat) (v2 : Int32) (v3 : Int32) (h0 : kd v0 = 5) (h1 : kd v1 = 6)  (fu : Nat) : ∀ (v4 : Int32), Z p l e (rmz 2 0) s m args below meth c (vx_MQ below (QcR D cy B kd n ((pB Mo) b0)) (XcR D cy B kd n ((pB Mo) b0)) args s 0 (6 * 0) (AA B kd n)) D cy B kd n 6 b0 0 3 [(0, .ref (B + v0)), (1, .ref (B + v1)), (2, .int v2), (3, .int v3), (4, .int v4)] [] Mo (fX5_hasGuestLike_l3 N v0 v1 v2 v3 Mo fu v4) := by
  induction fu with
  | zero => intro v4; exact z_none
  | succ fu ih => intro v4; exact z_fX5_hasGuestLike_l3_s C ht hr N v0 v1 v2 v3 (fX5_hasGuestLike_l3 N v0 v1 v2 v3 Mo fu) v4 h0 h1 (fun v4 => ih v4)
theorem z_fX5_hasGuestLike_l3 {p : Program} {l : Launch} {e : Env} {s : State} {m : MethodId} {args : Array Value} {below : List Frame} {meth : Method} {c : Code} {D : va_G} {cy : Nat → ClassId} {B : Nat} {kd : Nat → Nat} {n : Nat} {sa sv : Nat → Nat} (C : zC p l s m args meth c D cy B kd n sa sv RX5 cX5_hasGuestLike 6) (ht : ∀ x ∈ c.exceptionTable.toList, False) (hr : meth.sig.returnType = some (FieldType.boolean)) {b0 : Bool} {Mo : Mem} (N : Nat) (v0 : Nat) (v1 : Nat) (v2 : Int32) (v3 : Int32) (fu : Nat) (v4 : Int32) (h0 : kd v0 = 5) (h1 : kd v1 = 6)  : Z p l e (rmz 2 0) s m args below meth c (vx_MQ below (QcR D cy B kd n ((pB Mo) b0)) (XcR D cy B kd n ((pB Mo) b0)) args s 0 (6 * 0) (AA B kd n)) D cy B kd n 6 b0 0 3 [(0, .ref (B + v0)), (1, .ref (B + v1)), (2, .int v2), (3, .int v3), (4, .int v4)] [] Mo (fX5_hasGuestLike_l3 N v0 v1 v2 v3 Mo fu v4) := z_fX5_hasGuestLike_l3_i C ht hr N v0 v1 v2 v3 h0 h1 fu v4
set_option maxHeartbeats 4000000 in
set_option maxRecDepth 100000 in
theorem ctX5_hasGuestLike {l : Launch} {D : va_G} {cy : Nat → ClassId} {B : Nat} {kd : Nat → Nat} {n : Nat} {sa sv : Nat → Nat} (G : zG l kd n) (N : Nat) (v0 : Nat) (v1 : Nat) (v2 : Int32) (v3 : Int32) (h0 : kd v0 = 5) (h1 : kd v1 = 6) (Mo : Mem) : CT l D cy B kd n sa sv 2 0 yX5_hasGuestLike cX5_hasGuestLike 6 (some (FieldType.boolean)) (pB Mo) [.ref (B + v0), .ref (B + v1), .int v2, .int v3] Mo (fX5_hasGuestLike N v0 v1 v2 v3 Mo) := by
  refine ct_of (by decide) G.1 G.2 (Nat.le_of_ble_eq_true rfl) (ls := [(0, .ref (B + v0)), (1, .ref (B + v1)), (2, .int v2), (3, .int v3)]) rfl ?_
  intro p e s m args below meth c b0 C ht hr
  unfold fX5_hasGuestLike
  refine z_iconst C dX5_hasGuestLike_0 rfl ?_
  refine z_istore C 4 (ls1 := [(4, .int (0 : Int32)), (0, .ref (B + v0)), (1, .ref (B + v1)), (2, .int v2), (3, .int v3)]) dX5_hasGuestLike_1 (by decide) rfl ?_
  exact z_jump (ls1 := [(0, .ref (B + v0)), (1, .ref (B + v1)), (2, .int v2), (3, .int v3), (4, .int (0 : Int32))]) (Nat.le_of_ble_eq_true rfl) [1, 2, 3, 4, 0] rfl (z_fX5_hasGuestLike_l3 C ht hr N v0 v1 v2 v3 N (0 : Int32) h0 h1)
set_option maxHeartbeats 4000000 in
set_option maxRecDepth 100000 in
theorem z_fX5_together_l5_s {p : Program} {l : Launch} {e : Env} {s : State} {m : MethodId} {args : Array Value} {below : List Frame} {meth : Method} {c : Code} {D : va_G} {cy : Nat → ClassId} {B : Nat} {kd : Nat → Nat} {n : Nat} {sa sv : Nat → Nat} (C : zC p l s m args meth c D cy B kd n sa sv RX5 cX5_together 5) (ht : ∀ x ∈ c.exceptionTable.toList, False) (hr : meth.sig.returnType = some (FieldType.int)) {b0 : Int32 × Mem} (N : Nat) (v0 : Nat) (v1 : Nat) (v2 : Int32) (k5 : Int32 → Int32 → Mem → Option (Int32 × Mem)) (v3 : Int32) (v4 : Int32) (M : Mem) (h0 : kd v0 = 5) (h1 : kd v1 = 6)  (hk5 : ∀ (v3 : Int32) (v4 : Int32) (M : Mem), Z p l e (rmz 2 0) s m args below meth c (vx_MQ below (QcR D cy B kd n (cvI b0)) (XcR D cy B kd n (cvI b0)) args s 0 (6 * 0) (AA B kd n)) D cy B kd n 5 b0 0 5 [(0, .ref (B + v0)), (1, .ref (B + v1)), (2, .int v2), (3, .int v3), (4, .int v4)] [] M (k5 v3 v4 M)) : Z p l e (rmz 2 0) s m args below meth c (vx_MQ below (QcR D cy B kd n (cvI b0)) (XcR D cy B kd n (cvI b0)) args s 0 (6 * 0) (AA B kd n)) D cy B kd n 5 b0 0 5 [(0, .ref (B + v0)), (1, .ref (B + v1)), (2, .int v2), (3, .int v3), (4, .int v4)] [] M (fX5_together_l5_s N v0 v1 v2 k5 v3 v4 M) := by
  unfold fX5_together_l5_s
  refine z_iload C 4 dX5_together_5 rfl ?_
  refine z_aload_n C 0 0 dX5_together_7 rfl rfl ?_
  refine z_getI (k := 3) C cl5 h0 rfl gw_1_132 rfl dX5_together_8 ?_
  refine z_icmp_ge C 38 dX5_together_11 rfl (fun _ => ?_) (fun _ => ?_)
  · refine z_iload_n C 3 3 dX5_together_38 rfl rfl ?_
    exact z_iret C hr (Nat.le_of_ble_eq_true rfl) dX5_together_39 rfl
  · refine z_iload_n C 3 3 dX5_together_14 rfl rfl ?_
    refine z_aload_n C 0 0 dX5_together_15 rfl rfl ?_
    refine z_aload_n C 1 1 dX5_together_16 rfl rfl ?_
    refine z_iload C 4 dX5_together_17 rfl ?_
    refine z_iload_n C 2 2 dX5_together_19 rfl rfl ?_
    refine z_aload_n C 0 0 dX5_together_20 rfl rfl ?_
    refine z_getI (k := 2) C cl5 h0 rfl gw_1_128 rfl dX5_together_21 ?_
    refine z_callV_I (As := [.int v4, .int v2, .int (rI M v0 2)]) (rest := [.ref (B + v0), .int v3]) C rfl (ctX6_placeOf (zG_of C) N v1 v4 v2 (rI M v0 2) h1 M) cw_RX5_64 rfl (okM_X6_placeOf) rfl cl6 h1 (okR_of rfl) (Nat.le_of_ble_eq_true rfl) dX5_together_24 (fun qj1 _ => ?_)
    refine z_callV_pI (As := [.int qj1.1]) (rest := [.int v3]) C rfl (ctX5_cellAt (zG_of C) v0 qj1.1 h0 qj1.2) cw_RX5_88 rfl (okM_X5_cellAt) rfl cl5 h0 (okR_of rfl) (Nat.le_of_ble_eq_true rfl) dX5_together_27 (fun qj2 _ => ?_)
    refine z_ixor C dX5_together_30 ?_
    refine z_istore_n C 3 (ls1 := [(3, .int (v3 ^^^ qj2)), (0, .ref (B + v0)), (1, .ref (B + v1)), (2, .int v2), (4, .int v4)]) dX5_together_31 rfl (by decide) rfl ?_
    refine z_iinc C 4 4 (v := v4) (v1 := (v4 + (1 : Int32))) (ls1 := [(4, .int (v4 + (1 : Int32))), (3, .int (v3 ^^^ qj2)), (0, .ref (B + v0)), (1, .ref (B + v1)), (2, .int v2)]) dX5_together_32 rfl rfl (by decide) rfl ?_
    refine z_goto C 5 dX5_together_35 rfl ?_
    exact z_jump (ls1 := [(0, .ref (B + v0)), (1, .ref (B + v1)), (2, .int v2), (3, .int (v3 ^^^ qj2)), (4, .int (v4 + (1 : Int32)))]) (Nat.le_of_ble_eq_true rfl) [2, 3, 4, 1, 0] rfl (hk5 (v3 ^^^ qj2) (v4 + (1 : Int32)) qj1.2)
theorem z_fX5_together_l5_i {p : Program} {l : Launch} {e : Env} {s : State} {m : MethodId} {args : Array Value} {below : List Frame} {meth : Method} {c : Code} {D : va_G} {cy : Nat → ClassId} {B : Nat} {kd : Nat → Nat} {n : Nat} {sa sv : Nat → Nat} (C : zC p l s m args meth c D cy B kd n sa sv RX5 cX5_together 5) (ht : ∀ x ∈ c.exceptionTable.toList, False) (hr : meth.sig.returnType = some (FieldType.int)) {b0 : Int32 × Mem} (N : Nat) (v0 : Nat) (v1 : Nat) (v2 : Int32) (h0 : kd v0 = 5) (h1 : kd v1 = 6)  (fu : Nat) : ∀ (v3 : Int32) (v4 : Int32) (M : Mem), Z p l e (rmz 2 0) s m args below meth c (vx_MQ below (QcR D cy B kd n (cvI b0)) (XcR D cy B kd n (cvI b0)) args s 0 (6 * 0) (AA B kd n)) D cy B kd n 5 b0 0 5 [(0, .ref (B + v0)), (1, .ref (B + v1)), (2, .int v2), (3, .int v3), (4, .int v4)] [] M (fX5_together_l5 N v0 v1 v2 fu v3 v4 M) := by
  induction fu with
  | zero => intro v3 v4 M; exact z_none
  | succ fu ih => intro v3 v4 M; exact z_fX5_together_l5_s C ht hr N v0 v1 v2 (fX5_together_l5 N v0 v1 v2 fu) v3 v4 M h0 h1 (fun v3 v4 M => ih v3 v4 M)
theorem z_fX5_together_l5 {p : Program} {l : Launch} {e : Env} {s : State} {m : MethodId} {args : Array Value} {below : List Frame} {meth : Method} {c : Code} {D : va_G} {cy : Nat → ClassId} {B : Nat} {kd : Nat → Nat} {n : Nat} {sa sv : Nat → Nat} (C : zC p l s m args meth c D cy B kd n sa sv RX5 cX5_together 5) (ht : ∀ x ∈ c.exceptionTable.toList, False) (hr : meth.sig.returnType = some (FieldType.int)) {b0 : Int32 × Mem} (N : Nat) (v0 : Nat) (v1 : Nat) (v2 : Int32) (fu : Nat) (v3 : Int32) (v4 : Int32) (M : Mem) (h0 : kd v0 = 5) (h1 : kd v1 = 6)  : Z p l e (rmz 2 0) s m args below meth c (vx_MQ below (QcR D cy B kd n (cvI b0)) (XcR D cy B kd n (cvI b0)) args s 0 (6 * 0) (AA B kd n)) D cy B kd n 5 b0 0 5 [(0, .ref (B + v0)), (1, .ref (B + v1)), (2, .int v2), (3, .int v3), (4, .int v4)] [] M (fX5_together_l5 N v0 v1 v2 fu v3 v4 M) := z_fX5_together_l5_i C ht hr N v0 v1 v2 h0 h1 fu v3 v4 M
set_option maxHeartbeats 4000000 in
set_option maxRecDepth 100000 in
theorem ctX5_together {l : Launch} {D : va_G} {cy : Nat → ClassId} {B : Nat} {kd : Nat → Nat} {n : Nat} {sa sv : Nat → Nat} (G : zG l kd n) (N : Nat) (v0 : Nat) (v1 : Nat) (v2 : Int32) (h0 : kd v0 = 5) (h1 : kd v1 = 6) (M : Mem) : CT l D cy B kd n sa sv 2 0 yX5_together cX5_together 5 (some (FieldType.int)) cvI [.ref (B + v0), .ref (B + v1), .int v2] M (fX5_together N v0 v1 v2 M) := by
  refine ct_of (by decide) G.1 G.2 (Nat.le_of_ble_eq_true rfl) (ls := [(0, .ref (B + v0)), (1, .ref (B + v1)), (2, .int v2)]) rfl ?_
  intro p e s m args below meth c b0 C ht hr
  unfold fX5_together
  refine z_iconst C dX5_together_0 rfl ?_
  refine z_istore_n C 3 (ls1 := [(3, .int (0 : Int32)), (0, .ref (B + v0)), (1, .ref (B + v1)), (2, .int v2)]) dX5_together_1 rfl (by decide) rfl ?_
  refine z_iconst C dX5_together_2 rfl ?_
  refine z_istore C 4 (ls1 := [(4, .int (0 : Int32)), (3, .int (0 : Int32)), (0, .ref (B + v0)), (1, .ref (B + v1)), (2, .int v2)]) dX5_together_3 (by decide) rfl ?_
  exact z_jump (ls1 := [(0, .ref (B + v0)), (1, .ref (B + v1)), (2, .int v2), (3, .int (0 : Int32)), (4, .int (0 : Int32))]) (Nat.le_of_ble_eq_true rfl) [2, 3, 4, 1, 0] rfl (z_fX5_together_l5 C ht hr N v0 v1 v2 N (0 : Int32) (0 : Int32) M h0 h1)
set_option maxHeartbeats 4000000 in
set_option maxRecDepth 100000 in
theorem z_fX5_allAbove0_l3_s {p : Program} {l : Launch} {e : Env} {s : State} {m : MethodId} {args : Array Value} {below : List Frame} {meth : Method} {c : Code} {D : va_G} {cy : Nat → ClassId} {B : Nat} {kd : Nat → Nat} {n : Nat} {sa sv : Nat → Nat} (C : zC p l s m args meth c D cy B kd n sa sv RX5 cX5_allAbove0 6) (ht : ∀ x ∈ c.exceptionTable.toList, False) (hr : meth.sig.returnType = some (FieldType.boolean)) {b0 : Bool × Mem} (N : Nat) (v0 : Nat) (v1 : Nat) (v2 : Int32) (v3 : Int32) (v4 : Int32) (k3 : Int32 → Mem → Option (Bool × Mem)) (v5 : Int32) (M : Mem) (h0 : kd v0 = 5) (h1 : kd v1 = 6)  (hk3 : ∀ (v5 : Int32) (M : Mem), Z p l e (rmz 2 0) s m args below meth c (vx_MQ below (QcR D cy B kd n (cvB b0)) (XcR D cy B kd n (cvB b0)) args s 0 (6 * 0) (AA B kd n)) D cy B kd n 6 b0 0 3 [(0, .ref (B + v0)), (1, .ref (B + v1)), (2, .int v2), (3, .int v3), (4, .int v4), (5, .int v5)] [] M (k3 v5 M)) : Z p l e (rmz 2 0) s m args below meth c (vx_MQ below (QcR D cy B kd n (cvB b0)) (XcR D cy B kd n (cvB b0)) args s 0 (6 * 0) (AA B kd n)) D cy B kd n 6 b0 0 3 [(0, .ref (B + v0)), (1, .ref (B + v1)), (2, .int v2), (3, .int v3), (4, .int v4), (5, .int v5)] [] M (fX5_allAbove0_l3_s N v0 v1 v2 v3 v4 k3 v5 M) := by
  unfold fX5_allAbove0_l3_s
  refine z_iload C 5 dX5_allAbove0_3 rfl ?_
  refine z_aload_n C 0 0 dX5_allAbove0_5 rfl rfl ?_
  refine z_getI (k := 3) C cl5 h0 rfl gw_1_132 rfl dX5_allAbove0_6 ?_
  refine z_icmp_ge C 38 dX5_allAbove0_9 rfl (fun _ => ?_) (fun _ => ?_)
  · refine z_iconst C dX5_allAbove0_38 rfl ?_
    exact z_zret C (v := true) hr (Nat.le_of_ble_eq_true rfl) dX5_allAbove0_39 rfl
  · refine z_aload_n C 0 0 dX5_allAbove0_12 rfl rfl ?_
    refine z_iload_n C 3 3 dX5_allAbove0_13 rfl rfl ?_
    refine z_aload_n C 1 1 dX5_allAbove0_14 rfl rfl ?_
    refine z_iload C 5 dX5_allAbove0_15 rfl ?_
    refine z_iload_n C 2 2 dX5_allAbove0_17 rfl rfl ?_
    refine z_iload C 4 dX5_allAbove0_18 rfl ?_
    refine z_callV_I (As := [.int v5, .int v2, .int v4]) (rest := [.int v3, .ref (B + v0)]) C rfl (ctX6_placeOf (zG_of C) N v1 v5 v2 v4 h1 M) cw_RX5_64 rfl (okM_X6_placeOf) rfl cl6 h1 (okR_of rfl) (Nat.le_of_ble_eq_true rfl) dX5_allAbove0_20 (fun qj1 _ => ?_)
    refine z_iadd C dX5_allAbove0_23 ?_
    refine z_callV_pI (As := [.int (v3 + qj1.1)]) (rest := []) C rfl (ctX5_cellAt (zG_of C) v0 (v3 + qj1.1) h0 qj1.2) cw_RX5_88 rfl (okM_X5_cellAt) rfl cl5 h0 (okR_of rfl) (Nat.le_of_ble_eq_true rfl) dX5_allAbove0_24 (fun qj2 _ => ?_)
    refine z_if_ne C 32 dX5_allAbove0_27 rfl (fun _ => ?_) (fun _ => ?_)
    · refine z_iconst C dX5_allAbove0_30 rfl ?_
      exact z_zret C (v := false) hr (Nat.le_of_ble_eq_true rfl) dX5_allAbove0_31 rfl
    · refine z_iinc C 5 5 (v := v5) (v1 := (v5 + (1 : Int32))) (ls1 := [(5, .int (v5 + (1 : Int32))), (0, .ref (B + v0)), (1, .ref (B + v1)), (2, .int v2), (3, .int v3), (4, .int v4)]) dX5_allAbove0_32 rfl rfl (by decide) rfl ?_
      refine z_goto C 3 dX5_allAbove0_35 rfl ?_
      exact z_jump (ls1 := [(0, .ref (B + v0)), (1, .ref (B + v1)), (2, .int v2), (3, .int v3), (4, .int v4), (5, .int (v5 + (1 : Int32)))]) (Nat.le_of_ble_eq_true rfl) [1, 2, 3, 4, 5, 0] rfl (hk3 (v5 + (1 : Int32)) qj1.2)
theorem z_fX5_allAbove0_l3_i {p : Program} {l : Launch} {e : Env} {s : State} {m : MethodId} {args : Array Value} {below : List Frame} {meth : Method} {c : Code} {D : va_G} {cy : Nat → ClassId} {B : Nat} {kd : Nat → Nat} {n : Nat} {sa sv : Nat → Nat} (C : zC p l s m args meth c D cy B kd n sa sv RX5 cX5_allAbove0 6) (ht : ∀ x ∈ c.exceptionTable.toList, False) (hr : meth.sig.returnType = some (FieldType.boolean)) {b0 : Bool × Mem} (N : Nat) (v0 : Nat) (v1 : Nat) (v2 : Int32) (v3 : Int32) (v4 : Int32) (h0 : kd v0 = 5) (h1 : kd v1 = 6)  (fu : Nat) : ∀ (v5 : Int32) (M : Mem), Z p l e (rmz 2 0) s m args below meth c (vx_MQ below (QcR D cy B kd n (cvB b0)) (XcR D cy B kd n (cvB b0)) args s 0 (6 * 0) (AA B kd n)) D cy B kd n 6 b0 0 3 [(0, .ref (B + v0)), (1, .ref (B + v1)), (2, .int v2), (3, .int v3), (4, .int v4), (5, .int v5)] [] M (fX5_allAbove0_l3 N v0 v1 v2 v3 v4 fu v5 M) := by
  induction fu with
  | zero => intro v5 M; exact z_none
  | succ fu ih => intro v5 M; exact z_fX5_allAbove0_l3_s C ht hr N v0 v1 v2 v3 v4 (fX5_allAbove0_l3 N v0 v1 v2 v3 v4 fu) v5 M h0 h1 (fun v5 M => ih v5 M)
theorem z_fX5_allAbove0_l3 {p : Program} {l : Launch} {e : Env} {s : State} {m : MethodId} {args : Array Value} {below : List Frame} {meth : Method} {c : Code} {D : va_G} {cy : Nat → ClassId} {B : Nat} {kd : Nat → Nat} {n : Nat} {sa sv : Nat → Nat} (C : zC p l s m args meth c D cy B kd n sa sv RX5 cX5_allAbove0 6) (ht : ∀ x ∈ c.exceptionTable.toList, False) (hr : meth.sig.returnType = some (FieldType.boolean)) {b0 : Bool × Mem} (N : Nat) (v0 : Nat) (v1 : Nat) (v2 : Int32) (v3 : Int32) (v4 : Int32) (fu : Nat) (v5 : Int32) (M : Mem) (h0 : kd v0 = 5) (h1 : kd v1 = 6)  : Z p l e (rmz 2 0) s m args below meth c (vx_MQ below (QcR D cy B kd n (cvB b0)) (XcR D cy B kd n (cvB b0)) args s 0 (6 * 0) (AA B kd n)) D cy B kd n 6 b0 0 3 [(0, .ref (B + v0)), (1, .ref (B + v1)), (2, .int v2), (3, .int v3), (4, .int v4), (5, .int v5)] [] M (fX5_allAbove0_l3 N v0 v1 v2 v3 v4 fu v5 M) := z_fX5_allAbove0_l3_i C ht hr N v0 v1 v2 v3 v4 h0 h1 fu v5 M
set_option maxHeartbeats 4000000 in
set_option maxRecDepth 100000 in
theorem ctX5_allAbove0 {l : Launch} {D : va_G} {cy : Nat → ClassId} {B : Nat} {kd : Nat → Nat} {n : Nat} {sa sv : Nat → Nat} (G : zG l kd n) (N : Nat) (v0 : Nat) (v1 : Nat) (v2 : Int32) (v3 : Int32) (v4 : Int32) (h0 : kd v0 = 5) (h1 : kd v1 = 6) (M : Mem) : CT l D cy B kd n sa sv 2 0 yX5_allAbove0 cX5_allAbove0 6 (some (FieldType.boolean)) cvB [.ref (B + v0), .ref (B + v1), .int v2, .int v3, .int v4] M (fX5_allAbove0 N v0 v1 v2 v3 v4 M) := by
  refine ct_of (by decide) G.1 G.2 (Nat.le_of_ble_eq_true rfl) (ls := [(0, .ref (B + v0)), (1, .ref (B + v1)), (2, .int v2), (3, .int v3), (4, .int v4)]) rfl ?_
  intro p e s m args below meth c b0 C ht hr
  unfold fX5_allAbove0
  refine z_iconst C dX5_allAbove0_0 rfl ?_
  refine z_istore C 5 (ls1 := [(5, .int (0 : Int32)), (0, .ref (B + v0)), (1, .ref (B + v1)), (2, .int v2), (3, .int v3), (4, .int v4)]) dX5_allAbove0_1 (by decide) rfl ?_
  exact z_jump (ls1 := [(0, .ref (B + v0)), (1, .ref (B + v1)), (2, .int v2), (3, .int v3), (4, .int v4), (5, .int (0 : Int32))]) (Nat.le_of_ble_eq_true rfl) [1, 2, 3, 4, 5, 0] rfl (z_fX5_allAbove0_l3 C ht hr N v0 v1 v2 v3 v4 N (0 : Int32) M h0 h1)
set_option maxHeartbeats 4000000 in
set_option maxRecDepth 100000 in
theorem z_fX5_says_b46 {p : Program} {l : Launch} {e : Env} {s : State} {m : MethodId} {args : Array Value} {below : List Frame} {meth : Method} {c : Code} {D : va_G} {cy : Nat → ClassId} {B : Nat} {kd : Nat → Nat} {n : Nat} {sa sv : Nat → Nat} (C : zC p l s m args meth c D cy B kd n sa sv RX5 cX5_says 4) (ht : ∀ x ∈ c.exceptionTable.toList, False) (hr : meth.sig.returnType = some (FieldType.boolean)) {b0 : Bool × Mem}  (N : Nat) (M : Mem)  : Z p l e (rmz 3 0) s m args below meth c (vx_MQ below (QcR D cy B kd n (cvB b0)) (XcR D cy B kd n (cvB b0)) args s 0 (6 * 0) (AA B kd n)) D cy B kd n 4 b0 0 46 [] [] M (fX5_says_b46 N M) := by
  unfold fX5_says_b46
  refine z_iconst C dX5_says_46 rfl ?_
  refine z_goto C 51 dX5_says_47 rfl ?_
  exact z_zret C (v := true) hr (Nat.le_of_ble_eq_true rfl) dX5_says_51 rfl
set_option maxHeartbeats 4000000 in
set_option maxRecDepth 100000 in
theorem z_fX5_says_l82_s {p : Program} {l : Launch} {e : Env} {s : State} {m : MethodId} {args : Array Value} {below : List Frame} {meth : Method} {c : Code} {D : va_G} {cy : Nat → ClassId} {B : Nat} {kd : Nat → Nat} {n : Nat} {sa sv : Nat → Nat} (C : zC p l s m args meth c D cy B kd n sa sv RX5 cX5_says 4) (ht : ∀ x ∈ c.exceptionTable.toList, False) (hr : meth.sig.returnType = some (FieldType.boolean)) {b0 : Bool × Mem} (N : Nat) (v0 : Nat) (v1 : Nat) (v2 : Int32) (k82 : Int32 → Mem → Option (Bool × Mem)) (v3 : Int32) (M : Mem) (h0 : kd v0 = 5) (h1 : kd v1 = 6)  (hk82 : ∀ (v3 : Int32) (M : Mem), Z p l e (rmz 3 0) s m args below meth c (vx_MQ below (QcR D cy B kd n (cvB b0)) (XcR D cy B kd n (cvB b0)) args s 0 (6 * 0) (AA B kd n)) D cy B kd n 4 b0 0 82 [(0, .ref (B + v0)), (1, .ref (B + v1)), (2, .int v2), (3, .int v3)] [] M (k82 v3 M)) : Z p l e (rmz 3 0) s m args below meth c (vx_MQ below (QcR D cy B kd n (cvB b0)) (XcR D cy B kd n (cvB b0)) args s 0 (6 * 0) (AA B kd n)) D cy B kd n 4 b0 0 82 [(0, .ref (B + v0)), (1, .ref (B + v1)), (2, .int v2), (3, .int v3)] [] M (fX5_says_l82_s N v0 v1 v2 k82 v3 M) := by
  unfold fX5_says_l82_s
  refine z_iload_n C 3 3 dX5_says_82 rfl rfl ?_
  refine z_aload_n C 0 0 dX5_says_83 rfl rfl ?_
  refine z_getI (k := 5) C cl5 h0 rfl gw_1_140 rfl dX5_says_84 ?_
  refine z_icmp_ge C 117 dX5_says_87 rfl (fun _ => ?_) (fun _ => ?_)
  · refine z_iconst C dX5_says_117 rfl ?_
    exact z_zret C (v := false) hr (Nat.le_of_ble_eq_true rfl) dX5_says_118 rfl
  · refine z_aload_n C 0 0 dX5_says_90 rfl rfl ?_
    refine z_aload_n C 1 1 dX5_says_91 rfl rfl ?_
    refine z_iload_n C 2 2 dX5_says_92 rfl rfl ?_
    refine z_aload_n C 0 0 dX5_says_93 rfl rfl ?_
    refine z_iload_n C 3 3 dX5_says_94 rfl rfl ?_
    refine z_callV_pI (As := [.int v3]) (rest := [.int v2, .ref (B + v1), .ref (B + v0)]) C rfl (ctX5_layerStart (zG_of C) v0 v3 h0 M) cw_RX5_60 rfl (okM_X5_layerStart) rfl cl5 h0 (okR_of rfl) (Nat.le_of_ble_eq_true rfl) dX5_says_95 (fun qj1 _ => ?_)
    refine z_aload_n C 0 0 dX5_says_98 rfl rfl ?_
    refine z_iload_n C 3 3 dX5_says_99 rfl rfl ?_
    refine z_callV_pI (As := [.int v3]) (rest := [.int qj1, .int v2, .ref (B + v1), .ref (B + v0)]) C rfl (ctX5_layerSize (zG_of C) v0 v3 h0 M) cw_RX5_81 rfl (okM_X5_layerSize) rfl cl5 h0 (okR_of rfl) (Nat.le_of_ble_eq_true rfl) dX5_says_100 (fun qj2 _ => ?_)
    refine z_callV_B (As := [.ref (B + v1), .int v2, .int qj1, .int qj2]) (rest := []) C rfl (ctX5_allAbove0 (zG_of C) N v0 v1 v2 qj1 qj2 h0 h1 M) cw_RX5_84 rfl (okM_X5_allAbove0) rfl cl5 h0 (okR_of rfl) (Nat.le_of_ble_eq_true rfl) dX5_says_103 (fun qj3 _ => ?_)
    refine z_if_eqB C 111 dX5_says_106 rfl (fun _ => ?_) (fun _ => ?_)
    · refine z_iconst C dX5_says_109 rfl ?_
      exact z_zret C (v := true) hr (Nat.le_of_ble_eq_true rfl) dX5_says_110 rfl
    · refine z_iinc C 3 3 (v := v3) (v1 := (v3 + (1 : Int32))) (ls1 := [(3, .int (v3 + (1 : Int32))), (0, .ref (B + v0)), (1, .ref (B + v1)), (2, .int v2)]) dX5_says_111 rfl rfl (by decide) rfl ?_
      refine z_goto C 82 dX5_says_114 rfl ?_
      exact z_jump (ls1 := [(0, .ref (B + v0)), (1, .ref (B + v1)), (2, .int v2), (3, .int (v3 + (1 : Int32)))]) (Nat.le_of_ble_eq_true rfl) [1, 2, 3, 0] rfl (hk82 (v3 + (1 : Int32)) qj3.2)
theorem z_fX5_says_l82_i {p : Program} {l : Launch} {e : Env} {s : State} {m : MethodId} {args : Array Value} {below : List Frame} {meth : Method} {c : Code} {D : va_G} {cy : Nat → ClassId} {B : Nat} {kd : Nat → Nat} {n : Nat} {sa sv : Nat → Nat} (C : zC p l s m args meth c D cy B kd n sa sv RX5 cX5_says 4) (ht : ∀ x ∈ c.exceptionTable.toList, False) (hr : meth.sig.returnType = some (FieldType.boolean)) {b0 : Bool × Mem} (N : Nat) (v0 : Nat) (v1 : Nat) (v2 : Int32) (h0 : kd v0 = 5) (h1 : kd v1 = 6)  (fu : Nat) : ∀ (v3 : Int32) (M : Mem), Z p l e (rmz 3 0) s m args below meth c (vx_MQ below (QcR D cy B kd n (cvB b0)) (XcR D cy B kd n (cvB b0)) args s 0 (6 * 0) (AA B kd n)) D cy B kd n 4 b0 0 82 [(0, .ref (B + v0)), (1, .ref (B + v1)), (2, .int v2), (3, .int v3)] [] M (fX5_says_l82 N v0 v1 v2 fu v3 M) := by
  induction fu with
  | zero => intro v3 M; exact z_none
  | succ fu ih => intro v3 M; exact z_fX5_says_l82_s C ht hr N v0 v1 v2 (fX5_says_l82 N v0 v1 v2 fu) v3 M h0 h1 (fun v3 M => ih v3 M)
theorem z_fX5_says_l82 {p : Program} {l : Launch} {e : Env} {s : State} {m : MethodId} {args : Array Value} {below : List Frame} {meth : Method} {c : Code} {D : va_G} {cy : Nat → ClassId} {B : Nat} {kd : Nat → Nat} {n : Nat} {sa sv : Nat → Nat} (C : zC p l s m args meth c D cy B kd n sa sv RX5 cX5_says 4) (ht : ∀ x ∈ c.exceptionTable.toList, False) (hr : meth.sig.returnType = some (FieldType.boolean)) {b0 : Bool × Mem} (N : Nat) (v0 : Nat) (v1 : Nat) (v2 : Int32) (fu : Nat) (v3 : Int32) (M : Mem) (h0 : kd v0 = 5) (h1 : kd v1 = 6)  : Z p l e (rmz 3 0) s m args below meth c (vx_MQ below (QcR D cy B kd n (cvB b0)) (XcR D cy B kd n (cvB b0)) args s 0 (6 * 0) (AA B kd n)) D cy B kd n 4 b0 0 82 [(0, .ref (B + v0)), (1, .ref (B + v1)), (2, .int v2), (3, .int v3)] [] M (fX5_says_l82 N v0 v1 v2 fu v3 M) := z_fX5_says_l82_i C ht hr N v0 v1 v2 h0 h1 fu v3 M
set_option maxHeartbeats 4000000 in
set_option maxRecDepth 100000 in
theorem ctX5_says {l : Launch} {D : va_G} {cy : Nat → ClassId} {B : Nat} {kd : Nat → Nat} {n : Nat} {sa sv : Nat → Nat} (G : zG l kd n) (N : Nat) (v0 : Nat) (v1 : Nat) (v2 : Int32) (h0 : kd v0 = 5) (h1 : kd v1 = 6) (M : Mem) : CT l D cy B kd n sa sv 3 0 yX5_says cX5_says 4 (some (FieldType.boolean)) cvB [.ref (B + v0), .ref (B + v1), .int v2] M (fX5_says N v0 v1 v2 M) := by
  refine ct_of (by decide) G.1 G.2 (Nat.le_of_ble_eq_true rfl) (ls := [(0, .ref (B + v0)), (1, .ref (B + v1)), (2, .int v2)]) rfl ?_
  intro p e s m args below meth c b0 C ht hr
  unfold fX5_says
  refine z_aload_n C 0 0 dX5_says_0 rfl rfl ?_
  refine z_getI (k := 1) C cl5 h0 rfl gw_1_125 rfl dX5_says_1 ?_
  refine z_iconst C dX5_says_4 rfl ?_
  refine z_icmp_ne C 52 dX5_says_5 rfl (fun _ => ?_) (fun _ => ?_)
  · refine z_aload_n C 0 0 dX5_says_8 rfl rfl ?_
    refine z_aload_n C 1 1 dX5_says_9 rfl rfl ?_
    refine z_iload_n C 2 2 dX5_says_10 rfl rfl ?_
    refine z_aload_n C 1 1 dX5_says_11 rfl rfl ?_
    refine z_iconst C dX5_says_12 rfl ?_
    refine z_iload_n C 2 2 dX5_says_13 rfl rfl ?_
    refine z_aload_n C 0 0 dX5_says_14 rfl rfl ?_
    refine z_getI (k := 2) C cl5 h0 rfl gw_1_128 rfl dX5_says_15 ?_
    refine z_callV_I (As := [.int (0 : Int32), .int v2, .int (rI M v0 2)]) (rest := [.int v2, .ref (B + v1), .ref (B + v0)]) C rfl (ctX6_placeOf (zG_of C) N v1 (0 : Int32) v2 (rI M v0 2) h1 M) cw_RX5_64 rfl (okM_X6_placeOf) rfl cl6 h1 (okR_of rfl) (Nat.le_of_ble_eq_true rfl) dX5_says_18 (fun qj1 _ => ?_)
    refine z_callV_pB (As := [.ref (B + v1), .int v2, .int qj1.1]) (rest := []) C rfl (ctX5_hasGuestLike (zG_of C) N v0 v1 v2 qj1.1 h0 h1 qj1.2) cw_RX5_70 rfl (okM_X5_hasGuestLike) rfl cl5 h0 (okR_of rfl) (Nat.le_of_ble_eq_true rfl) dX5_says_21 (fun qj2 _ => ?_)
    refine z_if_neB C 46 dX5_says_24 rfl (fun _ => ?_) (fun _ => ?_)
    · exact z_jump (ls1 := []) (Nat.le_of_ble_eq_true rfl) [] rfl (z_fX5_says_b46 C ht hr N qj1.2)
    · refine z_aload_n C 0 0 dX5_says_27 rfl rfl ?_
      refine z_aload_n C 1 1 dX5_says_28 rfl rfl ?_
      refine z_iload_n C 2 2 dX5_says_29 rfl rfl ?_
      refine z_aload_n C 1 1 dX5_says_30 rfl rfl ?_
      refine z_iconst C dX5_says_31 rfl ?_
      refine z_iload_n C 2 2 dX5_says_32 rfl rfl ?_
      refine z_aload_n C 0 0 dX5_says_33 rfl rfl ?_
      refine z_getI (k := 2) C cl5 h0 rfl gw_1_128 rfl dX5_says_34 ?_
      refine z_callV_I (As := [.int (1 : Int32), .int v2, .int (rI qj1.2 v0 2)]) (rest := [.int v2, .ref (B + v1), .ref (B + v0)]) C rfl (ctX6_placeOf (zG_of C) N v1 (1 : Int32) v2 (rI qj1.2 v0 2) h1 qj1.2) cw_RX5_64 rfl (okM_X6_placeOf) rfl cl6 h1 (okR_of rfl) (Nat.le_of_ble_eq_true rfl) dX5_says_37 (fun qj3 _ => ?_)
      refine z_callV_pB (As := [.ref (B + v1), .int v2, .int qj3.1]) (rest := []) C rfl (ctX5_hasGuestLike (zG_of C) N v0 v1 v2 qj3.1 h0 h1 qj3.2) cw_RX5_70 rfl (okM_X5_hasGuestLike) rfl cl5 h0 (okR_of rfl) (Nat.le_of_ble_eq_true rfl) dX5_says_40 (fun qj4 _ => ?_)
      refine z_if_eqB C 50 dX5_says_43 rfl (fun _ => ?_) (fun _ => ?_)
      · exact z_jump (ls1 := []) (Nat.le_of_ble_eq_true rfl) [] rfl (z_fX5_says_b46 C ht hr N qj3.2)
      · refine z_iconst C dX5_says_50 rfl ?_
        exact z_zret C (v := false) hr (Nat.le_of_ble_eq_true rfl) dX5_says_51 rfl
  · refine z_aload_n C 0 0 dX5_says_52 rfl rfl ?_
    refine z_getI (k := 1) C cl5 h0 rfl gw_1_125 rfl dX5_says_53 ?_
    refine z_iconst C dX5_says_56 rfl ?_
    refine z_icmp_ne C 80 dX5_says_57 rfl (fun _ => ?_) (fun _ => ?_)
    · refine z_aload_n C 0 0 dX5_says_60 rfl rfl ?_
      refine z_aload_n C 1 1 dX5_says_61 rfl rfl ?_
      refine z_iload_n C 2 2 dX5_says_62 rfl rfl ?_
      refine z_callV_I (As := [.ref (B + v1), .int v2]) (rest := []) C rfl (ctX5_together (zG_of C) N v0 v1 v2 h0 h1 M) cw_RX5_74 rfl (okM_X5_together) rfl cl5 h0 (okR_of rfl) (Nat.le_of_ble_eq_true rfl) dX5_says_63 (fun qj5 _ => ?_)
      refine z_aload_n C 1 1 dX5_says_66 rfl rfl ?_
      refine z_iload_n C 2 2 dX5_says_67 rfl rfl ?_
      refine z_callV_pI (As := [.int v2]) (rest := [.int qj5.1]) C rfl (ctX6_tagOf (zG_of C) v1 v2 h1 qj5.2) cw_RX5_78 rfl (okM_X6_tagOf) rfl cl6 h1 (okR_of rfl) (Nat.le_of_ble_eq_true rfl) dX5_says_68 (fun qj6 _ => ?_)
      refine z_icmp_ne C 78 dX5_says_71 rfl (fun _ => ?_) (fun _ => ?_)
      · refine z_iconst C dX5_says_74 rfl ?_
        refine z_goto C 79 dX5_says_75 rfl ?_
        exact z_zret C (v := true) hr (Nat.le_of_ble_eq_true rfl) dX5_says_79 rfl
      · refine z_iconst C dX5_says_78 rfl ?_
        exact z_zret C (v := false) hr (Nat.le_of_ble_eq_true rfl) dX5_says_79 rfl
    · refine z_iconst C dX5_says_80 rfl ?_
      refine z_istore_n C 3 (ls1 := [(3, .int (0 : Int32)), (0, .ref (B + v0)), (1, .ref (B + v1)), (2, .int v2)]) dX5_says_81 rfl (by decide) rfl ?_
      exact z_jump (ls1 := [(0, .ref (B + v0)), (1, .ref (B + v1)), (2, .int v2), (3, .int (0 : Int32))]) (Nat.le_of_ble_eq_true rfl) [1, 2, 3, 0] rfl (z_fX5_says_l82 C ht hr N v0 v1 v2 N (0 : Int32) M h0 h1)
set_option maxHeartbeats 4000000 in
set_option maxRecDepth 100000 in
theorem z_fX5_raise_l3_s {p : Program} {l : Launch} {e : Env} {s : State} {m : MethodId} {args : Array Value} {below : List Frame} {meth : Method} {c : Code} {D : va_G} {cy : Nat → ClassId} {B : Nat} {kd : Nat → Nat} {n : Nat} {sa sv : Nat → Nat} (C : zC p l s m args meth c D cy B kd n sa sv RX5 cX5_raise 7) (ht : ∀ x ∈ c.exceptionTable.toList, False) (hr : meth.sig.returnType = none) {b0 : Mem} (N : Nat) (v0 : Nat) (v1 : Nat) (v2 : Int32) (v3 : Int32) (v4 : Int32) (k3 : Int32 → Mem → Option Mem) (v5 : Int32) (M : Mem) (h0 : kd v0 = 5) (h1 : kd v1 = 6)  (hk3 : ∀ (v5 : Int32) (M : Mem), Z p l e (rmz 2 0) s m args below meth c (vx_MQ below (QcR D cy B kd n (cvV b0)) (XcR D cy B kd n (cvV b0)) args s 0 (6 * 0) (AA B kd n)) D cy B kd n 7 b0 0 3 [(0, .ref (B + v0)), (1, .ref (B + v1)), (2, .int v2), (3, .int v3), (4, .int v4), (5, .int v5)] [] M (k3 v5 M)) : Z p l e (rmz 2 0) s m args below meth c (vx_MQ below (QcR D cy B kd n (cvV b0)) (XcR D cy B kd n (cvV b0)) args s 0 (6 * 0) (AA B kd n)) D cy B kd n 7 b0 0 3 [(0, .ref (B + v0)), (1, .ref (B + v1)), (2, .int v2), (3, .int v3), (4, .int v4), (5, .int v5)] [] M (fX5_raise_l3_s N v0 v1 v2 v3 v4 k3 v5 M) := by
  unfold fX5_raise_l3_s
  refine z_iload C 5 dX5_raise_3 rfl ?_
  refine z_aload_n C 0 0 dX5_raise_5 rfl rfl ?_
  refine z_getI (k := 3) C cl5 h0 rfl gw_1_132 rfl dX5_raise_6 ?_
  refine z_icmp_ge C 52 dX5_raise_9 rfl (fun _ => ?_) (fun _ => ?_)
  · exact z_vret C hr (Nat.le_of_ble_eq_true rfl) dX5_raise_52 rfl
  · refine z_iload_n C 3 3 dX5_raise_12 rfl rfl ?_
    refine z_aload_n C 1 1 dX5_raise_13 rfl rfl ?_
    refine z_iload C 5 dX5_raise_14 rfl ?_
    refine z_iload_n C 2 2 dX5_raise_16 rfl rfl ?_
    refine z_iload C 4 dX5_raise_17 rfl ?_
    refine z_callV_I (As := [.int v5, .int v2, .int v4]) (rest := [.int v3]) C rfl (ctX6_placeOf (zG_of C) N v1 v5 v2 v4 h1 M) cw_RX5_64 rfl (okM_X6_placeOf) rfl cl6 h1 (okR_of rfl) (Nat.le_of_ble_eq_true rfl) dX5_raise_19 (fun qj1 _ => ?_)
    refine z_iadd C dX5_raise_22 ?_
    refine z_istore C 6 (ls1 := [(6, .int (v3 + qj1.1)), (0, .ref (B + v0)), (1, .ref (B + v1)), (2, .int v2), (3, .int v3), (4, .int v4), (5, .int v5)]) dX5_raise_23 (by decide) rfl ?_
    refine z_aload_n C 0 1 dX5_raise_25 rfl rfl ?_
    refine z_iload C 0 dX5_raise_26 rfl ?_
    refine z_aload_n C 0 1 dX5_raise_28 rfl rfl ?_
    refine z_iload C 0 dX5_raise_29 rfl ?_
    refine z_callV_pI (As := [.int (v3 + qj1.1)]) (rest := [.int (v3 + qj1.1), .ref (B + v0)]) C rfl (ctX5_cellAt (zG_of C) v0 (v3 + qj1.1) h0 qj1.2) cw_RX5_88 rfl (okM_X5_cellAt) rfl cl5 h0 (okR_of rfl) (Nat.le_of_ble_eq_true rfl) dX5_raise_31 (fun qj2 _ => ?_)
    refine z_iconst C dX5_raise_34 rfl ?_
    refine z_iadd C dX5_raise_35 ?_
    refine z_aload_n C 0 1 dX5_raise_36 rfl rfl ?_
    refine z_callV_pI (As := []) (rest := [.int (qj2 + (1 : Int32)), .int (v3 + qj1.1), .ref (B + v0)]) C rfl (ctX5_fullCell (zG_of C) v0 h0 qj1.2) cw_RX5_95 rfl (okM_X5_fullCell) rfl cl5 h0 (okR_of rfl) (Nat.le_of_ble_eq_true rfl) dX5_raise_37 (fun qj3 _ => ?_)
    refine z_min C cw_RX5_99 ⟨Nat.le_of_ble_eq_true rfl, Nat.le_of_ble_eq_true rfl, Nat.le_of_ble_eq_true rfl, Nat.le_of_ble_eq_true rfl⟩ (Nat.le_of_ble_eq_true rfl) dX5_raise_40 ?_
    refine z_callV_V (As := [.int (v3 + qj1.1), .int (minI (qj2 + (1 : Int32)) qj3)]) (rest := []) C rfl (ctX5_setCell (zG_of C) v0 (v3 + qj1.1) (minI (qj2 + (1 : Int32)) qj3) h0 qj1.2) cw_RX5_105 rfl (okM_X5_setCell) rfl cl5 h0 (okR_of rfl) (Nat.le_of_ble_eq_true rfl) dX5_raise_43 (fun qj4 _ => ?_)
    refine z_iinc C 5 6 (v := v5) (v1 := (v5 + (1 : Int32))) (ls1 := [(5, .int (v5 + (1 : Int32))), (6, .int (v3 + qj1.1)), (0, .ref (B + v0)), (1, .ref (B + v1)), (2, .int v2), (3, .int v3), (4, .int v4)]) dX5_raise_46 rfl rfl (by decide) rfl ?_
    refine z_goto C 3 dX5_raise_49 rfl ?_
    exact z_jump (ls1 := [(0, .ref (B + v0)), (1, .ref (B + v1)), (2, .int v2), (3, .int v3), (4, .int v4), (5, .int (v5 + (1 : Int32)))]) (Nat.le_of_ble_eq_true rfl) [2, 3, 4, 5, 6, 0] rfl (hk3 (v5 + (1 : Int32)) qj4)
theorem z_fX5_raise_l3_i {p : Program} {l : Launch} {e : Env} {s : State} {m : MethodId} {args : Array Value} {below : List Frame} {meth : Method} {c : Code} {D : va_G} {cy : Nat → ClassId} {B : Nat} {kd : Nat → Nat} {n : Nat} {sa sv : Nat → Nat} (C : zC p l s m args meth c D cy B kd n sa sv RX5 cX5_raise 7) (ht : ∀ x ∈ c.exceptionTable.toList, False) (hr : meth.sig.returnType = none) {b0 : Mem} (N : Nat) (v0 : Nat) (v1 : Nat) (v2 : Int32) (v3 : Int32) (v4 : Int32) (h0 : kd v0 = 5) (h1 : kd v1 = 6)  (fu : Nat) : ∀ (v5 : Int32) (M : Mem), Z p l e (rmz 2 0) s m args below meth c (vx_MQ below (QcR D cy B kd n (cvV b0)) (XcR D cy B kd n (cvV b0)) args s 0 (6 * 0) (AA B kd n)) D cy B kd n 7 b0 0 3 [(0, .ref (B + v0)), (1, .ref (B + v1)), (2, .int v2), (3, .int v3), (4, .int v4), (5, .int v5)] [] M (fX5_raise_l3 N v0 v1 v2 v3 v4 fu v5 M) := by
  induction fu with
  | zero => intro v5 M; exact z_none
  | succ fu ih => intro v5 M; exact z_fX5_raise_l3_s C ht hr N v0 v1 v2 v3 v4 (fX5_raise_l3 N v0 v1 v2 v3 v4 fu) v5 M h0 h1 (fun v5 M => ih v5 M)
theorem z_fX5_raise_l3 {p : Program} {l : Launch} {e : Env} {s : State} {m : MethodId} {args : Array Value} {below : List Frame} {meth : Method} {c : Code} {D : va_G} {cy : Nat → ClassId} {B : Nat} {kd : Nat → Nat} {n : Nat} {sa sv : Nat → Nat} (C : zC p l s m args meth c D cy B kd n sa sv RX5 cX5_raise 7) (ht : ∀ x ∈ c.exceptionTable.toList, False) (hr : meth.sig.returnType = none) {b0 : Mem} (N : Nat) (v0 : Nat) (v1 : Nat) (v2 : Int32) (v3 : Int32) (v4 : Int32) (fu : Nat) (v5 : Int32) (M : Mem) (h0 : kd v0 = 5) (h1 : kd v1 = 6)  : Z p l e (rmz 2 0) s m args below meth c (vx_MQ below (QcR D cy B kd n (cvV b0)) (XcR D cy B kd n (cvV b0)) args s 0 (6 * 0) (AA B kd n)) D cy B kd n 7 b0 0 3 [(0, .ref (B + v0)), (1, .ref (B + v1)), (2, .int v2), (3, .int v3), (4, .int v4), (5, .int v5)] [] M (fX5_raise_l3 N v0 v1 v2 v3 v4 fu v5 M) := z_fX5_raise_l3_i C ht hr N v0 v1 v2 v3 v4 h0 h1 fu v5 M
set_option maxHeartbeats 4000000 in
set_option maxRecDepth 100000 in
theorem ctX5_raise {l : Launch} {D : va_G} {cy : Nat → ClassId} {B : Nat} {kd : Nat → Nat} {n : Nat} {sa sv : Nat → Nat} (G : zG l kd n) (N : Nat) (v0 : Nat) (v1 : Nat) (v2 : Int32) (v3 : Int32) (v4 : Int32) (h0 : kd v0 = 5) (h1 : kd v1 = 6) (M : Mem) : CT l D cy B kd n sa sv 2 0 yX5_raise cX5_raise 7 (none) cvV [.ref (B + v0), .ref (B + v1), .int v2, .int v3, .int v4] M (fX5_raise N v0 v1 v2 v3 v4 M) := by
  refine ct_of (by decide) G.1 G.2 (Nat.le_of_ble_eq_true rfl) (ls := [(0, .ref (B + v0)), (1, .ref (B + v1)), (2, .int v2), (3, .int v3), (4, .int v4)]) rfl ?_
  intro p e s m args below meth c b0 C ht hr
  unfold fX5_raise
  refine z_iconst C dX5_raise_0 rfl ?_
  refine z_istore C 5 (ls1 := [(5, .int (0 : Int32)), (0, .ref (B + v0)), (1, .ref (B + v1)), (2, .int v2), (3, .int v3), (4, .int v4)]) dX5_raise_1 (by decide) rfl ?_
  exact z_jump (ls1 := [(0, .ref (B + v0)), (1, .ref (B + v1)), (2, .int v2), (3, .int v3), (4, .int v4), (5, .int (0 : Int32))]) (Nat.le_of_ble_eq_true rfl) [1, 2, 3, 4, 5, 0] rfl (z_fX5_raise_l3 C ht hr N v0 v1 v2 v3 v4 N (0 : Int32) M h0 h1)
set_option maxHeartbeats 4000000 in
set_option maxRecDepth 100000 in
theorem z_fX5_mark_b44 {p : Program} {l : Launch} {e : Env} {s : State} {m : MethodId} {args : Array Value} {below : List Frame} {meth : Method} {c : Code} {D : va_G} {cy : Nat → ClassId} {B : Nat} {kd : Nat → Nat} {n : Nat} {sa sv : Nat → Nat} (C : zC p l s m args meth c D cy B kd n sa sv RX5 cX5_mark 3) (ht : ∀ x ∈ c.exceptionTable.toList, False) (hr : meth.sig.returnType = some (FieldType.boolean)) {b0 : Bool × Mem}  (N : Nat) (v0 : Nat) (v1 : Nat) (v2 : Int32) (M : Mem) (h0 : kd v0 = 5) (h1 : kd v1 = 6)  : Z p l e (rmz 3 0) s m args below meth c (vx_MQ below (QcR D cy B kd n (cvB b0)) (XcR D cy B kd n (cvB b0)) args s 0 (6 * 0) (AA B kd n)) D cy B kd n 3 b0 0 44 [(0, .ref (B + v0)), (1, .ref (B + v1)), (2, .int v2)] [] M (fX5_mark_b44 N v0 v1 v2 M) := by
  unfold fX5_mark_b44
  refine z_aload_n C 0 0 dX5_mark_44 rfl rfl ?_
  refine z_aload_n C 1 1 dX5_mark_45 rfl rfl ?_
  refine z_iload_n C 2 2 dX5_mark_46 rfl rfl ?_
  refine z_aload_n C 0 0 dX5_mark_47 rfl rfl ?_
  refine z_aload_n C 0 0 dX5_mark_48 rfl rfl ?_
  refine z_getI (k := 5) C cl5 h0 rfl gw_1_140 rfl dX5_mark_49 ?_
  refine z_iconst C dX5_mark_52 rfl ?_
  refine z_isub C dX5_mark_53 ?_
  refine z_callV_pI (As := [.int ((rI M v0 5) - (1 : Int32))]) (rest := [.int v2, .ref (B + v1), .ref (B + v0)]) C rfl (ctX5_layerStart (zG_of C) v0 ((rI M v0 5) - (1 : Int32)) h0 M) cw_RX5_60 rfl (okM_X5_layerStart) rfl cl5 h0 (okR_of rfl) (Nat.le_of_ble_eq_true rfl) dX5_mark_54 (fun qj1 _ => ?_)
  refine z_aload_n C 0 0 dX5_mark_57 rfl rfl ?_
  refine z_aload_n C 0 0 dX5_mark_58 rfl rfl ?_
  refine z_getI (k := 5) C cl5 h0 rfl gw_1_140 rfl dX5_mark_59 ?_
  refine z_iconst C dX5_mark_62 rfl ?_
  refine z_isub C dX5_mark_63 ?_
  refine z_callV_pI (As := [.int ((rI M v0 5) - (1 : Int32))]) (rest := [.int qj1, .int v2, .ref (B + v1), .ref (B + v0)]) C rfl (ctX5_layerSize (zG_of C) v0 ((rI M v0 5) - (1 : Int32)) h0 M) cw_RX5_81 rfl (okM_X5_layerSize) rfl cl5 h0 (okR_of rfl) (Nat.le_of_ble_eq_true rfl) dX5_mark_64 (fun qj2 _ => ?_)
  refine z_callV_V (As := [.ref (B + v1), .int v2, .int qj1, .int qj2]) (rest := []) C rfl (ctX5_raise (zG_of C) N v0 v1 v2 qj1 qj2 h0 h1 M) cw_RX5_91 rfl (okM_X5_raise) rfl cl5 h0 (okR_of rfl) (Nat.le_of_ble_eq_true rfl) dX5_mark_67 (fun qj3 _ => ?_)
  refine z_aload_n C 0 0 dX5_mark_70 rfl rfl ?_
  refine z_dup C dX5_mark_71 rfl ?_
  refine z_getI (k := 7) C cl5 h0 rfl gw_1_145 rfl dX5_mark_72 ?_
  refine z_iconst C dX5_mark_75 rfl ?_
  refine z_iadd C dX5_mark_76 ?_
  refine z_putI (k := 7) C cl5 h0 rfl gw_1_145 rfl rfl rfl dX5_mark_77 ?_
  refine z_iconst C dX5_mark_80 rfl ?_
  exact z_zret C (v := true) hr (Nat.le_of_ble_eq_true rfl) dX5_mark_81 rfl
set_option maxHeartbeats 4000000 in
set_option maxRecDepth 100000 in
theorem ctX5_mark {l : Launch} {D : va_G} {cy : Nat → ClassId} {B : Nat} {kd : Nat → Nat} {n : Nat} {sa sv : Nat → Nat} (G : zG l kd n) (N : Nat) (v0 : Nat) (v1 : Nat) (v2 : Int32) (h0 : kd v0 = 5) (h1 : kd v1 = 6) (M : Mem) : CT l D cy B kd n sa sv 3 0 yX5_mark cX5_mark 3 (some (FieldType.boolean)) cvB [.ref (B + v0), .ref (B + v1), .int v2] M (fX5_mark N v0 v1 v2 M) := by
  refine ct_of (by decide) G.1 G.2 (Nat.le_of_ble_eq_true rfl) (ls := [(0, .ref (B + v0)), (1, .ref (B + v1)), (2, .int v2)]) rfl ?_
  intro p e s m args below meth c b0 C ht hr
  unfold fX5_mark
  refine z_aload_n C 0 0 dX5_mark_0 rfl rfl ?_
  refine z_getI (k := 1) C cl5 h0 rfl gw_1_125 rfl dX5_mark_1 ?_
  refine z_iconst C dX5_mark_4 rfl ?_
  refine z_icmp_ne C 44 dX5_mark_5 rfl (fun _ => ?_) (fun _ => ?_)
  · refine z_aload_n C 0 0 dX5_mark_8 rfl rfl ?_
    refine z_getI (k := 7) C cl5 h0 rfl gw_1_145 rfl dX5_mark_9 ?_
    refine z_aload_n C 0 0 dX5_mark_12 rfl rfl ?_
    refine z_getI (k := 4) C cl5 h0 rfl gw_1_137 rfl dX5_mark_13 ?_
    refine z_icmp_lt C 44 dX5_mark_16 rfl (fun _ => ?_) (fun _ => ?_)
    · exact z_jump (ls1 := [(0, .ref (B + v0)), (1, .ref (B + v1)), (2, .int v2)]) (Nat.le_of_ble_eq_true rfl) [0, 1, 2] rfl (z_fX5_mark_b44 C ht hr N v0 v1 v2 M h0 h1)
    · refine z_aload_n C 0 0 dX5_mark_19 rfl rfl ?_
      refine z_getI (k := 5) C cl5 h0 rfl gw_1_140 rfl dX5_mark_20 ?_
      refine z_iconst C dX5_mark_23 rfl ?_
      refine z_icmp_lt C 29 dX5_mark_24 rfl (fun _ => ?_) (fun _ => ?_)
      · refine z_aload_n C 0 0 dX5_mark_29 rfl rfl ?_
        refine z_dup C dX5_mark_30 rfl ?_
        refine z_getI (k := 5) C cl5 h0 rfl gw_1_140 rfl dX5_mark_31 ?_
        refine z_iconst C dX5_mark_34 rfl ?_
        refine z_iadd C dX5_mark_35 ?_
        refine z_putI (k := 5) C cl5 h0 rfl gw_1_140 rfl rfl rfl dX5_mark_36 ?_
        refine z_aload_n C 0 0 dX5_mark_39 rfl rfl ?_
        refine z_iconst C dX5_mark_40 rfl ?_
        refine z_putI (k := 7) C cl5 h0 rfl gw_1_145 rfl rfl rfl dX5_mark_41 ?_
        exact z_jump (ls1 := [(0, .ref (B + v0)), (1, .ref (B + v1)), (2, .int v2)]) (Nat.le_of_ble_eq_true rfl) [0, 1, 2] rfl (z_fX5_mark_b44 C ht hr N v0 v1 v2 (wI (wI M v0 5 ((rI M v0 5) + (1 : Int32))) v0 7 (0 : Int32)) h0 h1)
      · refine z_iconst C dX5_mark_27 rfl ?_
        exact z_zret C (v := false) hr (Nat.le_of_ble_eq_true rfl) dX5_mark_28 rfl
  · exact z_jump (ls1 := [(0, .ref (B + v0)), (1, .ref (B + v1)), (2, .int v2)]) (Nat.le_of_ble_eq_true rfl) [0, 1, 2] rfl (z_fX5_mark_b44 C ht hr N v0 v1 v2 M h0 h1)
set_option maxHeartbeats 4000000 in
set_option maxRecDepth 100000 in
theorem z_fX5_unmark_b52 {p : Program} {l : Launch} {e : Env} {s : State} {m : MethodId} {args : Array Value} {below : List Frame} {meth : Method} {c : Code} {D : va_G} {cy : Nat → ClassId} {B : Nat} {kd : Nat → Nat} {n : Nat} {sa sv : Nat → Nat} (C : zC p l s m args meth c D cy B kd n sa sv RX5 cX5_unmark 6) (ht : ∀ x ∈ c.exceptionTable.toList, False) (hr : meth.sig.returnType = none) {b0 : Mem}  (N : Nat) (k2 : Int32 → Mem → Option Mem) (v0 : Nat) (v1 : Nat) (v2 : Int32) (v3 : Int32) (M : Mem) (h0 : kd v0 = 5) (h1 : kd v1 = 6) (hk2 : ∀ (v3 : Int32) (M : Mem), Z p l e (rmz 2 0) s m args below meth c (vx_MQ below (QcR D cy B kd n (cvV b0)) (XcR D cy B kd n (cvV b0)) args s 0 (6 * 0) (AA B kd n)) D cy B kd n 6 b0 0 2 [(0, .ref (B + v0)), (1, .ref (B + v1)), (2, .int v2), (3, .int v3)] [] M (k2 v3 M)) : Z p l e (rmz 2 0) s m args below meth c (vx_MQ below (QcR D cy B kd n (cvV b0)) (XcR D cy B kd n (cvV b0)) args s 0 (6 * 0) (AA B kd n)) D cy B kd n 6 b0 0 52 [(0, .ref (B + v0)), (1, .ref (B + v1)), (2, .int v2), (3, .int v3)] [] M (fX5_unmark_b52 N k2 v0 v1 v2 v3 M) := by
  unfold fX5_unmark_b52
  refine z_iinc C 3 3 (v := v3) (v1 := (v3 + (1 : Int32))) (ls1 := [(3, .int (v3 + (1 : Int32))), (0, .ref (B + v0)), (1, .ref (B + v1)), (2, .int v2)]) dX5_unmark_52 rfl rfl (by decide) rfl ?_
  refine z_goto C 2 dX5_unmark_55 rfl ?_
  exact z_jump (ls1 := [(0, .ref (B + v0)), (1, .ref (B + v1)), (2, .int v2), (3, .int (v3 + (1 : Int32)))]) (Nat.le_of_ble_eq_true rfl) [1, 2, 3, 0] rfl (hk2 (v3 + (1 : Int32)) M)
set_option maxHeartbeats 4000000 in
set_option maxRecDepth 100000 in
theorem z_fX5_unmark_l2_s {p : Program} {l : Launch} {e : Env} {s : State} {m : MethodId} {args : Array Value} {below : List Frame} {meth : Method} {c : Code} {D : va_G} {cy : Nat → ClassId} {B : Nat} {kd : Nat → Nat} {n : Nat} {sa sv : Nat → Nat} (C : zC p l s m args meth c D cy B kd n sa sv RX5 cX5_unmark 6) (ht : ∀ x ∈ c.exceptionTable.toList, False) (hr : meth.sig.returnType = none) {b0 : Mem} (N : Nat) (v0 : Nat) (v1 : Nat) (v2 : Int32) (k2 : Int32 → Mem → Option Mem) (v3 : Int32) (M : Mem) (h0 : kd v0 = 5) (h1 : kd v1 = 6)  (hk2 : ∀ (v3 : Int32) (M : Mem), Z p l e (rmz 2 0) s m args below meth c (vx_MQ below (QcR D cy B kd n (cvV b0)) (XcR D cy B kd n (cvV b0)) args s 0 (6 * 0) (AA B kd n)) D cy B kd n 6 b0 0 2 [(0, .ref (B + v0)), (1, .ref (B + v1)), (2, .int v2), (3, .int v3)] [] M (k2 v3 M)) : Z p l e (rmz 2 0) s m args below meth c (vx_MQ below (QcR D cy B kd n (cvV b0)) (XcR D cy B kd n (cvV b0)) args s 0 (6 * 0) (AA B kd n)) D cy B kd n 6 b0 0 2 [(0, .ref (B + v0)), (1, .ref (B + v1)), (2, .int v2), (3, .int v3)] [] M (fX5_unmark_l2_s N v0 v1 v2 k2 v3 M) := by
  unfold fX5_unmark_l2_s
  refine z_iload_n C 3 3 dX5_unmark_2 rfl rfl ?_
  refine z_aload_n C 0 0 dX5_unmark_3 rfl rfl ?_
  refine z_getI (k := 3) C cl5 h0 rfl gw_1_132 rfl dX5_unmark_4 ?_
  refine z_icmp_ge C 58 dX5_unmark_7 rfl (fun _ => ?_) (fun _ => ?_)
  · exact z_vret C hr (Nat.le_of_ble_eq_true rfl) dX5_unmark_58 rfl
  · refine z_aload_n C 1 1 dX5_unmark_10 rfl rfl ?_
    refine z_iload_n C 3 3 dX5_unmark_11 rfl rfl ?_
    refine z_iload_n C 2 2 dX5_unmark_12 rfl rfl ?_
    refine z_aload_n C 0 0 dX5_unmark_13 rfl rfl ?_
    refine z_getI (k := 2) C cl5 h0 rfl gw_1_128 rfl dX5_unmark_14 ?_
    refine z_callV_I (As := [.int v3, .int v2, .int (rI M v0 2)]) (rest := []) C rfl (ctX6_placeOf (zG_of C) N v1 v3 v2 (rI M v0 2) h1 M) cw_RX5_64 rfl (okM_X6_placeOf) rfl cl6 h1 (okR_of rfl) (Nat.le_of_ble_eq_true rfl) dX5_unmark_17 (fun qj1 _ => ?_)
    refine z_istore C 4 (ls1 := [(4, .int qj1.1), (0, .ref (B + v0)), (1, .ref (B + v1)), (2, .int v2), (3, .int v3)]) dX5_unmark_20 (by decide) rfl ?_
    refine z_aload_n C 0 1 dX5_unmark_22 rfl rfl ?_
    refine z_iload C 0 dX5_unmark_23 rfl ?_
    refine z_callV_pI (As := [.int qj1.1]) (rest := []) C rfl (ctX5_cellAt (zG_of C) v0 qj1.1 h0 qj1.2) cw_RX5_88 rfl (okM_X5_cellAt) rfl cl5 h0 (okR_of rfl) (Nat.le_of_ble_eq_true rfl) dX5_unmark_25 (fun qj2 _ => ?_)
    refine z_istore C 5 (ls1 := [(5, .int qj2), (4, .int qj1.1), (0, .ref (B + v0)), (1, .ref (B + v1)), (2, .int v2), (3, .int v3)]) dX5_unmark_28 (by decide) rfl ?_
    refine z_iload C 0 dX5_unmark_30 rfl ?_
    refine z_if_le C 52 dX5_unmark_32 rfl (fun _ => ?_) (fun _ => ?_)
    · exact z_jump (ls1 := [(0, .ref (B + v0)), (1, .ref (B + v1)), (2, .int v2), (3, .int v3)]) (Nat.le_of_ble_eq_true rfl) [2, 3, 4, 5] rfl (z_fX5_unmark_b52 C ht hr N k2 v0 v1 v2 v3 qj1.2 h0 h1 hk2)
    · refine z_iload C 0 dX5_unmark_35 rfl ?_
      refine z_bipush (v := 15) C dX5_unmark_37 rfl ?_
      refine z_icmp_ge C 52 dX5_unmark_39 rfl (fun _ => ?_) (fun _ => ?_)
      · exact z_jump (ls1 := [(0, .ref (B + v0)), (1, .ref (B + v1)), (2, .int v2), (3, .int v3)]) (Nat.le_of_ble_eq_true rfl) [2, 3, 4, 5] rfl (z_fX5_unmark_b52 C ht hr N k2 v0 v1 v2 v3 qj1.2 h0 h1 hk2)
      · refine z_aload_n C 0 2 dX5_unmark_42 rfl rfl ?_
        refine z_iload C 1 dX5_unmark_43 rfl ?_
        refine z_iload C 0 dX5_unmark_45 rfl ?_
        refine z_iconst C dX5_unmark_47 rfl ?_
        refine z_isub C dX5_unmark_48 ?_
        refine z_callV_V (As := [.int qj1.1, .int (qj2 - (1 : Int32))]) (rest := []) C rfl (ctX5_setCell (zG_of C) v0 qj1.1 (qj2 - (1 : Int32)) h0 qj1.2) cw_RX5_105 rfl (okM_X5_setCell) rfl cl5 h0 (okR_of rfl) (Nat.le_of_ble_eq_true rfl) dX5_unmark_49 (fun qj3 _ => ?_)
        exact z_jump (ls1 := [(0, .ref (B + v0)), (1, .ref (B + v1)), (2, .int v2), (3, .int v3)]) (Nat.le_of_ble_eq_true rfl) [2, 3, 4, 5] rfl (z_fX5_unmark_b52 C ht hr N k2 v0 v1 v2 v3 qj3 h0 h1 hk2)
theorem z_fX5_unmark_l2_i {p : Program} {l : Launch} {e : Env} {s : State} {m : MethodId} {args : Array Value} {below : List Frame} {meth : Method} {c : Code} {D : va_G} {cy : Nat → ClassId} {B : Nat} {kd : Nat → Nat} {n : Nat} {sa sv : Nat → Nat} (C : zC p l s m args meth c D cy B kd n sa sv RX5 cX5_unmark 6) (ht : ∀ x ∈ c.exceptionTable.toList, False) (hr : meth.sig.returnType = none) {b0 : Mem} (N : Nat) (v0 : Nat) (v1 : Nat) (v2 : Int32) (h0 : kd v0 = 5) (h1 : kd v1 = 6)  (fu : Nat) : ∀ (v3 : Int32) (M : Mem), Z p l e (rmz 2 0) s m args below meth c (vx_MQ below (QcR D cy B kd n (cvV b0)) (XcR D cy B kd n (cvV b0)) args s 0 (6 * 0) (AA B kd n)) D cy B kd n 6 b0 0 2 [(0, .ref (B + v0)), (1, .ref (B + v1)), (2, .int v2), (3, .int v3)] [] M (fX5_unmark_l2 N v0 v1 v2 fu v3 M) := by
  induction fu with
  | zero => intro v3 M; exact z_none
  | succ fu ih => intro v3 M; exact z_fX5_unmark_l2_s C ht hr N v0 v1 v2 (fX5_unmark_l2 N v0 v1 v2 fu) v3 M h0 h1 (fun v3 M => ih v3 M)
theorem z_fX5_unmark_l2 {p : Program} {l : Launch} {e : Env} {s : State} {m : MethodId} {args : Array Value} {below : List Frame} {meth : Method} {c : Code} {D : va_G} {cy : Nat → ClassId} {B : Nat} {kd : Nat → Nat} {n : Nat} {sa sv : Nat → Nat} (C : zC p l s m args meth c D cy B kd n sa sv RX5 cX5_unmark 6) (ht : ∀ x ∈ c.exceptionTable.toList, False) (hr : meth.sig.returnType = none) {b0 : Mem} (N : Nat) (v0 : Nat) (v1 : Nat) (v2 : Int32) (fu : Nat) (v3 : Int32) (M : Mem) (h0 : kd v0 = 5) (h1 : kd v1 = 6)  : Z p l e (rmz 2 0) s m args below meth c (vx_MQ below (QcR D cy B kd n (cvV b0)) (XcR D cy B kd n (cvV b0)) args s 0 (6 * 0) (AA B kd n)) D cy B kd n 6 b0 0 2 [(0, .ref (B + v0)), (1, .ref (B + v1)), (2, .int v2), (3, .int v3)] [] M (fX5_unmark_l2 N v0 v1 v2 fu v3 M) := z_fX5_unmark_l2_i C ht hr N v0 v1 v2 h0 h1 fu v3 M
set_option maxHeartbeats 4000000 in
set_option maxRecDepth 100000 in
theorem ctX5_unmark {l : Launch} {D : va_G} {cy : Nat → ClassId} {B : Nat} {kd : Nat → Nat} {n : Nat} {sa sv : Nat → Nat} (G : zG l kd n) (N : Nat) (v0 : Nat) (v1 : Nat) (v2 : Int32) (h0 : kd v0 = 5) (h1 : kd v1 = 6) (M : Mem) : CT l D cy B kd n sa sv 2 0 yX5_unmark cX5_unmark 6 (none) cvV [.ref (B + v0), .ref (B + v1), .int v2] M (fX5_unmark N v0 v1 v2 M) := by
  refine ct_of (by decide) G.1 G.2 (Nat.le_of_ble_eq_true rfl) (ls := [(0, .ref (B + v0)), (1, .ref (B + v1)), (2, .int v2)]) rfl ?_
  intro p e s m args below meth c b0 C ht hr
  unfold fX5_unmark
  refine z_iconst C dX5_unmark_0 rfl ?_
  refine z_istore_n C 3 (ls1 := [(3, .int (0 : Int32)), (0, .ref (B + v0)), (1, .ref (B + v1)), (2, .int v2)]) dX5_unmark_1 rfl (by decide) rfl ?_
  exact z_jump (ls1 := [(0, .ref (B + v0)), (1, .ref (B + v1)), (2, .int v2), (3, .int (0 : Int32))]) (Nat.le_of_ble_eq_true rfl) [1, 2, 3, 0] rfl (z_fX5_unmark_l2 C ht hr N v0 v1 v2 N (0 : Int32) M h0 h1)
set_option maxHeartbeats 4000000 in
set_option maxRecDepth 100000 in
theorem z_fX5_absorb_l2_s {p : Program} {l : Launch} {e : Env} {s : State} {m : MethodId} {args : Array Value} {below : List Frame} {meth : Method} {c : Code} {D : va_G} {cy : Nat → ClassId} {B : Nat} {kd : Nat → Nat} {n : Nat} {sa sv : Nat → Nat} (C : zC p l s m args meth c D cy B kd n sa sv RX5 cX5_absorb 3) (ht : ∀ x ∈ c.exceptionTable.toList, False) (hr : meth.sig.returnType = none) {b0 : Mem} (N : Nat) (v0 : Nat) (v1 : Nat) (k2 : Int32 → Mem → Option Mem) (v2 : Int32) (M : Mem) (h0 : kd v0 = 5) (h1 : kd v1 = 5)  (hk2 : ∀ (v2 : Int32) (M : Mem), Z p l e (rmz 1 0) s m args below meth c (vx_MQ below (QcR D cy B kd n (cvV b0)) (XcR D cy B kd n (cvV b0)) args s 0 (6 * 0) (AA B kd n)) D cy B kd n 3 b0 0 2 [(0, .ref (B + v0)), (1, .ref (B + v1)), (2, .int v2)] [] M (k2 v2 M)) : Z p l e (rmz 1 0) s m args below meth c (vx_MQ below (QcR D cy B kd n (cvV b0)) (XcR D cy B kd n (cvV b0)) args s 0 (6 * 0) (AA B kd n)) D cy B kd n 3 b0 0 2 [(0, .ref (B + v0)), (1, .ref (B + v1)), (2, .int v2)] [] M (fX5_absorb_l2_s N v0 v1 k2 v2 M) := by
  unfold fX5_absorb_l2_s
  refine z_iload_n C 2 2 dX5_absorb_2 rfl rfl ?_
  refine z_aload_n C 0 0 dX5_absorb_3 rfl rfl ?_
  refine z_getI (k := 2) C cl5 h0 rfl gw_1_128 rfl dX5_absorb_4 ?_
  refine z_icmp_ge C 39 dX5_absorb_7 rfl (fun _ => ?_) (fun _ => ?_)
  · refine z_aload_n C 0 0 dX5_absorb_39 rfl rfl ?_
    refine z_getR (k := 8) C cl5 h0 rfl gw_1_146 rfl dX5_absorb_40 ?_
    have j1 : kd (v0 + 1) = 2 := zkd C h0 (k := 8) rfl
    refine z_aload_n C 1 1 dX5_absorb_43 rfl rfl ?_
    refine z_getR (k := 8) C cl5 h1 rfl gw_1_146 rfl dX5_absorb_44 ?_
    have j2 : kd (v1 + 1) = 2 := zkd C h1 (k := 8) rfl
    refine z_callV_V (As := [.ref (B + (v1 + 1))]) (rest := []) C rfl (ctX2_addAll (zG_of C) N (v0 + 1) (v1 + 1) j1 j2 M) cw_RX5_109 rfl (okM_X2_addAll) rfl cl2 j1 (okR_of rfl) (Nat.le_of_ble_eq_true rfl) dX5_absorb_47 (fun qj3 _ => ?_)
    exact z_vret C hr (Nat.le_of_ble_eq_true rfl) dX5_absorb_50 rfl
  · refine z_aload_n C 0 0 dX5_absorb_10 rfl rfl ?_
    refine z_iload_n C 2 2 dX5_absorb_11 rfl rfl ?_
    refine z_aload_n C 0 0 dX5_absorb_12 rfl rfl ?_
    refine z_iload_n C 2 2 dX5_absorb_13 rfl rfl ?_
    refine z_callV_pI (As := [.int v2]) (rest := [.int v2, .ref (B + v0)]) C rfl (ctX5_cellAt (zG_of C) v0 v2 h0 M) cw_RX5_88 rfl (okM_X5_cellAt) rfl cl5 h0 (okR_of rfl) (Nat.le_of_ble_eq_true rfl) dX5_absorb_14 (fun qj4 _ => ?_)
    refine z_aload_n C 1 1 dX5_absorb_17 rfl rfl ?_
    refine z_iload_n C 2 2 dX5_absorb_18 rfl rfl ?_
    refine z_callV_pI (As := [.int v2]) (rest := [.int qj4, .int v2, .ref (B + v0)]) C rfl (ctX5_cellAt (zG_of C) v1 v2 h1 M) cw_RX5_88 rfl (okM_X5_cellAt) rfl cl5 h1 (okR_of rfl) (Nat.le_of_ble_eq_true rfl) dX5_absorb_19 (fun qj5 _ => ?_)
    refine z_iadd C dX5_absorb_22 ?_
    refine z_aload_n C 0 0 dX5_absorb_23 rfl rfl ?_
    refine z_callV_pI (As := []) (rest := [.int (qj4 + qj5), .int v2, .ref (B + v0)]) C rfl (ctX5_fullCell (zG_of C) v0 h0 M) cw_RX5_95 rfl (okM_X5_fullCell) rfl cl5 h0 (okR_of rfl) (Nat.le_of_ble_eq_true rfl) dX5_absorb_24 (fun qj6 _ => ?_)
    refine z_min C cw_RX5_99 ⟨Nat.le_of_ble_eq_true rfl, Nat.le_of_ble_eq_true rfl, Nat.le_of_ble_eq_true rfl, Nat.le_of_ble_eq_true rfl⟩ (Nat.le_of_ble_eq_true rfl) dX5_absorb_27 ?_
    refine z_callV_V (As := [.int v2, .int (minI (qj4 + qj5) qj6)]) (rest := []) C rfl (ctX5_setCell (zG_of C) v0 v2 (minI (qj4 + qj5) qj6) h0 M) cw_RX5_105 rfl (okM_X5_setCell) rfl cl5 h0 (okR_of rfl) (Nat.le_of_ble_eq_true rfl) dX5_absorb_30 (fun qj7 _ => ?_)
    refine z_iinc C 2 2 (v := v2) (v1 := (v2 + (1 : Int32))) (ls1 := [(2, .int (v2 + (1 : Int32))), (0, .ref (B + v0)), (1, .ref (B + v1))]) dX5_absorb_33 rfl rfl (by decide) rfl ?_
    refine z_goto C 2 dX5_absorb_36 rfl ?_
    exact z_jump (ls1 := [(0, .ref (B + v0)), (1, .ref (B + v1)), (2, .int (v2 + (1 : Int32)))]) (Nat.le_of_ble_eq_true rfl) [1, 2, 0] rfl (hk2 (v2 + (1 : Int32)) qj7)
theorem z_fX5_absorb_l2_i {p : Program} {l : Launch} {e : Env} {s : State} {m : MethodId} {args : Array Value} {below : List Frame} {meth : Method} {c : Code} {D : va_G} {cy : Nat → ClassId} {B : Nat} {kd : Nat → Nat} {n : Nat} {sa sv : Nat → Nat} (C : zC p l s m args meth c D cy B kd n sa sv RX5 cX5_absorb 3) (ht : ∀ x ∈ c.exceptionTable.toList, False) (hr : meth.sig.returnType = none) {b0 : Mem} (N : Nat) (v0 : Nat) (v1 : Nat) (h0 : kd v0 = 5) (h1 : kd v1 = 5)  (fu : Nat) : ∀ (v2 : Int32) (M : Mem), Z p l e (rmz 1 0) s m args below meth c (vx_MQ below (QcR D cy B kd n (cvV b0)) (XcR D cy B kd n (cvV b0)) args s 0 (6 * 0) (AA B kd n)) D cy B kd n 3 b0 0 2 [(0, .ref (B + v0)), (1, .ref (B + v1)), (2, .int v2)] [] M (fX5_absorb_l2 N v0 v1 fu v2 M) := by
  induction fu with
  | zero => intro v2 M; exact z_none
  | succ fu ih => intro v2 M; exact z_fX5_absorb_l2_s C ht hr N v0 v1 (fX5_absorb_l2 N v0 v1 fu) v2 M h0 h1 (fun v2 M => ih v2 M)
theorem z_fX5_absorb_l2 {p : Program} {l : Launch} {e : Env} {s : State} {m : MethodId} {args : Array Value} {below : List Frame} {meth : Method} {c : Code} {D : va_G} {cy : Nat → ClassId} {B : Nat} {kd : Nat → Nat} {n : Nat} {sa sv : Nat → Nat} (C : zC p l s m args meth c D cy B kd n sa sv RX5 cX5_absorb 3) (ht : ∀ x ∈ c.exceptionTable.toList, False) (hr : meth.sig.returnType = none) {b0 : Mem} (N : Nat) (v0 : Nat) (v1 : Nat) (fu : Nat) (v2 : Int32) (M : Mem) (h0 : kd v0 = 5) (h1 : kd v1 = 5)  : Z p l e (rmz 1 0) s m args below meth c (vx_MQ below (QcR D cy B kd n (cvV b0)) (XcR D cy B kd n (cvV b0)) args s 0 (6 * 0) (AA B kd n)) D cy B kd n 3 b0 0 2 [(0, .ref (B + v0)), (1, .ref (B + v1)), (2, .int v2)] [] M (fX5_absorb_l2 N v0 v1 fu v2 M) := z_fX5_absorb_l2_i C ht hr N v0 v1 h0 h1 fu v2 M
set_option maxHeartbeats 4000000 in
set_option maxRecDepth 100000 in
theorem ctX5_absorb {l : Launch} {D : va_G} {cy : Nat → ClassId} {B : Nat} {kd : Nat → Nat} {n : Nat} {sa sv : Nat → Nat} (G : zG l kd n) (N : Nat) (v0 : Nat) (v1 : Nat) (h0 : kd v0 = 5) (h1 : kd v1 = 5) (M : Mem) : CT l D cy B kd n sa sv 1 0 yX5_absorb cX5_absorb 3 (none) cvV [.ref (B + v0), .ref (B + v1)] M (fX5_absorb N v0 v1 M) := by
  refine ct_of (by decide) G.1 G.2 (Nat.le_of_ble_eq_true rfl) (ls := [(0, .ref (B + v0)), (1, .ref (B + v1))]) rfl ?_
  intro p e s m args below meth c b0 C ht hr
  unfold fX5_absorb
  refine z_iconst C dX5_absorb_0 rfl ?_
  refine z_istore_n C 2 (ls1 := [(2, .int (0 : Int32)), (0, .ref (B + v0)), (1, .ref (B + v1))]) dX5_absorb_1 rfl (by decide) rfl ?_
  exact z_jump (ls1 := [(0, .ref (B + v0)), (1, .ref (B + v1)), (2, .int (0 : Int32))]) (Nat.le_of_ble_eq_true rfl) [1, 2, 0] rfl (z_fX5_absorb_l2 C ht hr N v0 v1 N (0 : Int32) M h0 h1)
set_option maxHeartbeats 4000000 in
set_option maxRecDepth 100000 in
theorem z_fX5_fold_l9_s {p : Program} {l : Launch} {e : Env} {s : State} {m : MethodId} {args : Array Value} {below : List Frame} {meth : Method} {c : Code} {D : va_G} {cy : Nat → ClassId} {B : Nat} {kd : Nat → Nat} {n : Nat} {sa sv : Nat → Nat} (C : zC p l s m args meth c D cy B kd n sa sv RX5 cX5_fold 3) (ht : ∀ x ∈ c.exceptionTable.toList, False) (hr : meth.sig.returnType = none) {b0 : Mem} (N : Nat) (v0 : Nat) (v1 : Int32) (k9 : Int32 → Mem → Option Mem) (v2 : Int32) (M : Mem) (h0 : kd v0 = 5)  (hk9 : ∀ (v2 : Int32) (M : Mem), Z p l e (rmz 1 0) s m args below meth c (vx_MQ below (QcR D cy B kd n (cvV b0)) (XcR D cy B kd n (cvV b0)) args s 0 (6 * 0) (AA B kd n)) D cy B kd n 3 b0 0 9 [(0, .ref (B + v0)), (1, .int v1), (2, .int v2)] [] M (k9 v2 M)) : Z p l e (rmz 1 0) s m args below meth c (vx_MQ below (QcR D cy B kd n (cvV b0)) (XcR D cy B kd n (cvV b0)) args s 0 (6 * 0) (AA B kd n)) D cy B kd n 3 b0 0 9 [(0, .ref (B + v0)), (1, .int v1), (2, .int v2)] [] M (fX5_fold_l9_s N v0 v1 k9 v2 M) := by
  unfold fX5_fold_l9_s
  refine z_iload_n C 2 2 dX5_fold_9 rfl rfl ?_
  refine z_iload_n C 1 1 dX5_fold_10 rfl rfl ?_
  refine z_icmp_ge C 53 dX5_fold_11 rfl (fun _ => ?_) (fun _ => ?_)
  · refine z_aload_n C 0 0 dX5_fold_53 rfl rfl ?_
    refine z_iload_n C 1 1 dX5_fold_54 rfl rfl ?_
    refine z_putI (k := 2) C cl5 h0 rfl gw_1_128 rfl rfl rfl dX5_fold_55 ?_
    exact z_vret C hr (Nat.le_of_ble_eq_true rfl) dX5_fold_58 rfl
  · refine z_aload_n C 0 0 dX5_fold_14 rfl rfl ?_
    refine z_iload_n C 2 2 dX5_fold_15 rfl rfl ?_
    refine z_aload_n C 0 0 dX5_fold_16 rfl rfl ?_
    refine z_iload_n C 2 2 dX5_fold_17 rfl rfl ?_
    refine z_callV_pI (As := [.int v2]) (rest := [.int v2, .ref (B + v0)]) C rfl (ctX5_cellAt (zG_of C) v0 v2 h0 M) cw_RX5_88 rfl (okM_X5_cellAt) rfl cl5 h0 (okR_of rfl) (Nat.le_of_ble_eq_true rfl) dX5_fold_18 (fun qj1 _ => ?_)
    refine z_aload_n C 0 0 dX5_fold_21 rfl rfl ?_
    refine z_iload_n C 2 2 dX5_fold_22 rfl rfl ?_
    refine z_iload_n C 1 1 dX5_fold_23 rfl rfl ?_
    refine z_iadd C dX5_fold_24 ?_
    refine z_callV_pI (As := [.int (v2 + v1)]) (rest := [.int qj1, .int v2, .ref (B + v0)]) C rfl (ctX5_cellAt (zG_of C) v0 (v2 + v1) h0 M) cw_RX5_88 rfl (okM_X5_cellAt) rfl cl5 h0 (okR_of rfl) (Nat.le_of_ble_eq_true rfl) dX5_fold_25 (fun qj2 _ => ?_)
    refine z_iadd C dX5_fold_28 ?_
    refine z_aload_n C 0 0 dX5_fold_29 rfl rfl ?_
    refine z_callV_pI (As := []) (rest := [.int (qj1 + qj2), .int v2, .ref (B + v0)]) C rfl (ctX5_fullCell (zG_of C) v0 h0 M) cw_RX5_95 rfl (okM_X5_fullCell) rfl cl5 h0 (okR_of rfl) (Nat.le_of_ble_eq_true rfl) dX5_fold_30 (fun qj3 _ => ?_)
    refine z_min C cw_RX5_99 ⟨Nat.le_of_ble_eq_true rfl, Nat.le_of_ble_eq_true rfl, Nat.le_of_ble_eq_true rfl, Nat.le_of_ble_eq_true rfl⟩ (Nat.le_of_ble_eq_true rfl) dX5_fold_33 ?_
    refine z_callV_V (As := [.int v2, .int (minI (qj1 + qj2) qj3)]) (rest := []) C rfl (ctX5_setCell (zG_of C) v0 v2 (minI (qj1 + qj2) qj3) h0 M) cw_RX5_105 rfl (okM_X5_setCell) rfl cl5 h0 (okR_of rfl) (Nat.le_of_ble_eq_true rfl) dX5_fold_36 (fun qj4 _ => ?_)
    refine z_aload_n C 0 0 dX5_fold_39 rfl rfl ?_
    refine z_iload_n C 2 2 dX5_fold_40 rfl rfl ?_
    refine z_iload_n C 1 1 dX5_fold_41 rfl rfl ?_
    refine z_iadd C dX5_fold_42 ?_
    refine z_iconst C dX5_fold_43 rfl ?_
    refine z_callV_V (As := [.int (v2 + v1), .int (0 : Int32)]) (rest := []) C rfl (ctX5_setCell (zG_of C) v0 (v2 + v1) (0 : Int32) h0 qj4) cw_RX5_105 rfl (okM_X5_setCell) rfl cl5 h0 (okR_of rfl) (Nat.le_of_ble_eq_true rfl) dX5_fold_44 (fun qj5 _ => ?_)
    refine z_iinc C 2 2 (v := v2) (v1 := (v2 + (1 : Int32))) (ls1 := [(2, .int (v2 + (1 : Int32))), (0, .ref (B + v0)), (1, .int v1)]) dX5_fold_47 rfl rfl (by decide) rfl ?_
    refine z_goto C 9 dX5_fold_50 rfl ?_
    exact z_jump (ls1 := [(0, .ref (B + v0)), (1, .int v1), (2, .int (v2 + (1 : Int32)))]) (Nat.le_of_ble_eq_true rfl) [1, 2, 0] rfl (hk9 (v2 + (1 : Int32)) qj5)
theorem z_fX5_fold_l9_i {p : Program} {l : Launch} {e : Env} {s : State} {m : MethodId} {args : Array Value} {below : List Frame} {meth : Method} {c : Code} {D : va_G} {cy : Nat → ClassId} {B : Nat} {kd : Nat → Nat} {n : Nat} {sa sv : Nat → Nat} (C : zC p l s m args meth c D cy B kd n sa sv RX5 cX5_fold 3) (ht : ∀ x ∈ c.exceptionTable.toList, False) (hr : meth.sig.returnType = none) {b0 : Mem} (N : Nat) (v0 : Nat) (v1 : Int32) (h0 : kd v0 = 5)  (fu : Nat) : ∀ (v2 : Int32) (M : Mem), Z p l e (rmz 1 0) s m args below meth c (vx_MQ below (QcR D cy B kd n (cvV b0)) (XcR D cy B kd n (cvV b0)) args s 0 (6 * 0) (AA B kd n)) D cy B kd n 3 b0 0 9 [(0, .ref (B + v0)), (1, .int v1), (2, .int v2)] [] M (fX5_fold_l9 N v0 v1 fu v2 M) := by
  induction fu with
  | zero => intro v2 M; exact z_none
  | succ fu ih => intro v2 M; exact z_fX5_fold_l9_s C ht hr N v0 v1 (fX5_fold_l9 N v0 v1 fu) v2 M h0 (fun v2 M => ih v2 M)
theorem z_fX5_fold_l9 {p : Program} {l : Launch} {e : Env} {s : State} {m : MethodId} {args : Array Value} {below : List Frame} {meth : Method} {c : Code} {D : va_G} {cy : Nat → ClassId} {B : Nat} {kd : Nat → Nat} {n : Nat} {sa sv : Nat → Nat} (C : zC p l s m args meth c D cy B kd n sa sv RX5 cX5_fold 3) (ht : ∀ x ∈ c.exceptionTable.toList, False) (hr : meth.sig.returnType = none) {b0 : Mem} (N : Nat) (v0 : Nat) (v1 : Int32) (fu : Nat) (v2 : Int32) (M : Mem) (h0 : kd v0 = 5)  : Z p l e (rmz 1 0) s m args below meth c (vx_MQ below (QcR D cy B kd n (cvV b0)) (XcR D cy B kd n (cvV b0)) args s 0 (6 * 0) (AA B kd n)) D cy B kd n 3 b0 0 9 [(0, .ref (B + v0)), (1, .int v1), (2, .int v2)] [] M (fX5_fold_l9 N v0 v1 fu v2 M) := z_fX5_fold_l9_i C ht hr N v0 v1 h0 fu v2 M
set_option maxHeartbeats 4000000 in
set_option maxRecDepth 100000 in
theorem ctX5_fold {l : Launch} {D : va_G} {cy : Nat → ClassId} {B : Nat} {kd : Nat → Nat} {n : Nat} {sa sv : Nat → Nat} (G : zG l kd n) (N : Nat) (v0 : Nat) (h0 : kd v0 = 5) (M : Mem) : CT l D cy B kd n sa sv 1 0 yX5_fold cX5_fold 3 (none) cvV [.ref (B + v0)] M (fX5_fold N v0 M) := by
  refine ct_of (by decide) G.1 G.2 (Nat.le_of_ble_eq_true rfl) (ls := [(0, .ref (B + v0))]) rfl ?_
  intro p e s m args below meth c b0 C ht hr
  unfold fX5_fold
  refine z_aload_n C 0 0 dX5_fold_0 rfl rfl ?_
  refine z_getI (k := 2) C cl5 h0 rfl gw_1_128 rfl dX5_fold_1 ?_
  refine z_iconst C dX5_fold_4 rfl ?_
  refine z_idivK C dX5_fold_5 (by decide) ?_
  refine z_istore_n C 1 (ls1 := [(1, .int ((rI M v0 2) / (2 : Int32))), (0, .ref (B + v0))]) dX5_fold_6 rfl (by decide) rfl ?_
  refine z_iconst C dX5_fold_7 rfl ?_
  refine z_istore_n C 2 (ls1 := [(2, .int (0 : Int32)), (1, .int ((rI M v0 2) / (2 : Int32))), (0, .ref (B + v0))]) dX5_fold_8 rfl (by decide) rfl ?_
  exact z_jump (ls1 := [(0, .ref (B + v0)), (1, .int ((rI M v0 2) / (2 : Int32))), (2, .int (0 : Int32))]) (Nat.le_of_ble_eq_true rfl) [2, 1, 0] rfl (z_fX5_fold_l9 C ht hr N v0 ((rI M v0 2) / (2 : Int32)) N (0 : Int32) M h0)
set_option maxHeartbeats 4000000 in
set_option maxRecDepth 100000 in
theorem z_fX5_guestsIn_b25 {p : Program} {l : Launch} {e : Env} {s : State} {m : MethodId} {args : Array Value} {below : List Frame} {meth : Method} {c : Code} {D : va_G} {cy : Nat → ClassId} {B : Nat} {kd : Nat → Nat} {n : Nat} {sa sv : Nat → Nat} (C : zC p l s m args meth c D cy B kd n sa sv RX5 cX5_guestsIn 4) (ht : ∀ x ∈ c.exceptionTable.toList, False) (hr : meth.sig.returnType = some (FieldType.int)) {b0 : Int32}  (N : Nat) (k4 : Int32 → Int32 → Option Int32) (v0 : Nat) (v1 : Int32) (v2 : Int32) (v3 : Int32) (Mo : Mem) (h0 : kd v0 = 5) (hk4 : ∀ (v2 : Int32) (v3 : Int32), Z p l e (rmz 2 0) s m args below meth c (vx_MQ below (QcR D cy B kd n ((pI Mo) b0)) (XcR D cy B kd n ((pI Mo) b0)) args s 0 (6 * 0) (AA B kd n)) D cy B kd n 4 b0 0 4 [(0, .ref (B + v0)), (1, .int v1), (2, .int v2), (3, .int v3)] [] Mo (k4 v2 v3)) : Z p l e (rmz 2 0) s m args below meth c (vx_MQ below (QcR D cy B kd n ((pI Mo) b0)) (XcR D cy B kd n ((pI Mo) b0)) args s 0 (6 * 0) (AA B kd n)) D cy B kd n 4 b0 0 25 [(0, .ref (B + v0)), (1, .int v1), (2, .int v2), (3, .int v3)] [] Mo (fX5_guestsIn_b25 N k4 v0 v1 v2 v3 Mo) := by
  unfold fX5_guestsIn_b25
  refine z_iinc C 3 3 (v := v3) (v1 := (v3 + (1 : Int32))) (ls1 := [(3, .int (v3 + (1 : Int32))), (0, .ref (B + v0)), (1, .int v1), (2, .int v2)]) dX5_guestsIn_25 rfl rfl (by decide) rfl ?_
  refine z_goto C 4 dX5_guestsIn_28 rfl ?_
  exact z_jump (ls1 := [(0, .ref (B + v0)), (1, .int v1), (2, .int v2), (3, .int (v3 + (1 : Int32)))]) (Nat.le_of_ble_eq_true rfl) [1, 2, 3, 0] rfl (hk4 v2 (v3 + (1 : Int32)))
set_option maxHeartbeats 4000000 in
set_option maxRecDepth 100000 in
theorem z_fX5_guestsIn_l4_s {p : Program} {l : Launch} {e : Env} {s : State} {m : MethodId} {args : Array Value} {below : List Frame} {meth : Method} {c : Code} {D : va_G} {cy : Nat → ClassId} {B : Nat} {kd : Nat → Nat} {n : Nat} {sa sv : Nat → Nat} (C : zC p l s m args meth c D cy B kd n sa sv RX5 cX5_guestsIn 4) (ht : ∀ x ∈ c.exceptionTable.toList, False) (hr : meth.sig.returnType = some (FieldType.int)) {b0 : Int32} {Mo : Mem} (N : Nat) (v0 : Nat) (v1 : Int32) (k4 : Int32 → Int32 → Option Int32) (v2 : Int32) (v3 : Int32) (h0 : kd v0 = 5)  (hk4 : ∀ (v2 : Int32) (v3 : Int32), Z p l e (rmz 2 0) s m args below meth c (vx_MQ below (QcR D cy B kd n ((pI Mo) b0)) (XcR D cy B kd n ((pI Mo) b0)) args s 0 (6 * 0) (AA B kd n)) D cy B kd n 4 b0 0 4 [(0, .ref (B + v0)), (1, .int v1), (2, .int v2), (3, .int v3)] [] Mo (k4 v2 v3)) : Z p l e (rmz 2 0) s m args below meth c (vx_MQ below (QcR D cy B kd n ((pI Mo) b0)) (XcR D cy B kd n ((pI Mo) b0)) args s 0 (6 * 0) (AA B kd n)) D cy B kd n 4 b0 0 4 [(0, .ref (B + v0)), (1, .int v1), (2, .int v2), (3, .int v3)] [] Mo (fX5_guestsIn_l4_s N v0 v1 Mo k4 v2 v3) := by
  unfold fX5_guestsIn_l4_s
  refine z_iload_n C 3 3 dX5_guestsIn_4 rfl rfl ?_
  refine z_aload_n C 0 0 dX5_guestsIn_5 rfl rfl ?_
  refine z_getI (k := 4) C cl5 h0 rfl gw_1_137 rfl dX5_guestsIn_6 ?_
  refine z_icmp_ge C 31 dX5_guestsIn_9 rfl (fun _ => ?_) (fun _ => ?_)
  · refine z_iload_n C 2 2 dX5_guestsIn_31 rfl rfl ?_
    exact z_iret C hr (Nat.le_of_ble_eq_true rfl) dX5_guestsIn_32 rfl
  · refine z_aload_n C 0 0 dX5_guestsIn_12 rfl rfl ?_
    refine z_iload_n C 1 1 dX5_guestsIn_13 rfl rfl ?_
    refine z_iload_n C 3 3 dX5_guestsIn_14 rfl rfl ?_
    refine z_callV_pI (As := [.int v1, .int v3]) (rest := []) C rfl (ctX5_guestAt (zG_of C) v0 v1 v3 h0 Mo) cw_RX5_113 rfl (okM_X5_guestAt) rfl cl5 h0 (okR_of rfl) (Nat.le_of_ble_eq_true rfl) dX5_guestsIn_15 (fun qj1 _ => ?_)
    refine z_iconst C dX5_guestsIn_18 rfl ?_
    refine z_icmp_eq C 25 dX5_guestsIn_19 rfl (fun _ => ?_) (fun _ => ?_)
    · exact z_jump (ls1 := [(0, .ref (B + v0)), (1, .int v1), (2, .int v2), (3, .int v3)]) (Nat.le_of_ble_eq_true rfl) [0, 1, 2, 3] rfl (z_fX5_guestsIn_b25 C ht hr N k4 v0 v1 v2 v3 Mo h0 hk4)
    · refine z_iinc C 2 2 (v := v2) (v1 := (v2 + (1 : Int32))) (ls1 := [(2, .int (v2 + (1 : Int32))), (0, .ref (B + v0)), (1, .int v1), (3, .int v3)]) dX5_guestsIn_22 rfl rfl (by decide) rfl ?_
      exact z_jump (ls1 := [(0, .ref (B + v0)), (1, .int v1), (2, .int (v2 + (1 : Int32))), (3, .int v3)]) (Nat.le_of_ble_eq_true rfl) [1, 2, 0, 3] rfl (z_fX5_guestsIn_b25 C ht hr N k4 v0 v1 (v2 + (1 : Int32)) v3 Mo h0 hk4)
theorem z_fX5_guestsIn_l4_i {p : Program} {l : Launch} {e : Env} {s : State} {m : MethodId} {args : Array Value} {below : List Frame} {meth : Method} {c : Code} {D : va_G} {cy : Nat → ClassId} {B : Nat} {kd : Nat → Nat} {n : Nat} {sa sv : Nat → Nat} (C : zC p l s m args meth c D cy B kd n sa sv RX5 cX5_guestsIn 4) (ht : ∀ x ∈ c.exceptionTable.toList, False) (hr : meth.sig.returnType = some (FieldType.int)) {b0 : Int32} {Mo : Mem} (N : Nat) (v0 : Nat) (v1 : Int32) (h0 : kd v0 = 5)  (fu : Nat) : ∀ (v2 : Int32) (v3 : Int32), Z p l e (rmz 2 0) s m args below meth c (vx_MQ below (QcR D cy B kd n ((pI Mo) b0)) (XcR D cy B kd n ((pI Mo) b0)) args s 0 (6 * 0) (AA B kd n)) D cy B kd n 4 b0 0 4 [(0, .ref (B + v0)), (1, .int v1), (2, .int v2), (3, .int v3)] [] Mo (fX5_guestsIn_l4 N v0 v1 Mo fu v2 v3) := by
  induction fu with
  | zero => intro v2 v3; exact z_none
  | succ fu ih => intro v2 v3; exact z_fX5_guestsIn_l4_s C ht hr N v0 v1 (fX5_guestsIn_l4 N v0 v1 Mo fu) v2 v3 h0 (fun v2 v3 => ih v2 v3)
theorem z_fX5_guestsIn_l4 {p : Program} {l : Launch} {e : Env} {s : State} {m : MethodId} {args : Array Value} {below : List Frame} {meth : Method} {c : Code} {D : va_G} {cy : Nat → ClassId} {B : Nat} {kd : Nat → Nat} {n : Nat} {sa sv : Nat → Nat} (C : zC p l s m args meth c D cy B kd n sa sv RX5 cX5_guestsIn 4) (ht : ∀ x ∈ c.exceptionTable.toList, False) (hr : meth.sig.returnType = some (FieldType.int)) {b0 : Int32} {Mo : Mem} (N : Nat) (v0 : Nat) (v1 : Int32) (fu : Nat) (v2 : Int32) (v3 : Int32) (h0 : kd v0 = 5)  : Z p l e (rmz 2 0) s m args below meth c (vx_MQ below (QcR D cy B kd n ((pI Mo) b0)) (XcR D cy B kd n ((pI Mo) b0)) args s 0 (6 * 0) (AA B kd n)) D cy B kd n 4 b0 0 4 [(0, .ref (B + v0)), (1, .int v1), (2, .int v2), (3, .int v3)] [] Mo (fX5_guestsIn_l4 N v0 v1 Mo fu v2 v3) := z_fX5_guestsIn_l4_i C ht hr N v0 v1 h0 fu v2 v3
set_option maxHeartbeats 4000000 in
set_option maxRecDepth 100000 in
theorem ctX5_guestsIn {l : Launch} {D : va_G} {cy : Nat → ClassId} {B : Nat} {kd : Nat → Nat} {n : Nat} {sa sv : Nat → Nat} (G : zG l kd n) (N : Nat) (v0 : Nat) (v1 : Int32) (h0 : kd v0 = 5) (Mo : Mem) : CT l D cy B kd n sa sv 2 0 yX5_guestsIn cX5_guestsIn 4 (some (FieldType.int)) (pI Mo) [.ref (B + v0), .int v1] Mo (fX5_guestsIn N v0 v1 Mo) := by
  refine ct_of (by decide) G.1 G.2 (Nat.le_of_ble_eq_true rfl) (ls := [(0, .ref (B + v0)), (1, .int v1)]) rfl ?_
  intro p e s m args below meth c b0 C ht hr
  unfold fX5_guestsIn
  refine z_iconst C dX5_guestsIn_0 rfl ?_
  refine z_istore_n C 2 (ls1 := [(2, .int (0 : Int32)), (0, .ref (B + v0)), (1, .int v1)]) dX5_guestsIn_1 rfl (by decide) rfl ?_
  refine z_iconst C dX5_guestsIn_2 rfl ?_
  refine z_istore_n C 3 (ls1 := [(3, .int (0 : Int32)), (2, .int (0 : Int32)), (0, .ref (B + v0)), (1, .int v1)]) dX5_guestsIn_3 rfl (by decide) rfl ?_
  exact z_jump (ls1 := [(0, .ref (B + v0)), (1, .int v1), (2, .int (0 : Int32)), (3, .int (0 : Int32))]) (Nat.le_of_ble_eq_true rfl) [2, 3, 1, 0] rfl (z_fX5_guestsIn_l4 C ht hr N v0 v1 N (0 : Int32) (0 : Int32) h0)
set_option maxHeartbeats 4000000 in
set_option maxRecDepth 100000 in
theorem z_fX5_freeGuest_b32 {p : Program} {l : Launch} {e : Env} {s : State} {m : MethodId} {args : Array Value} {below : List Frame} {meth : Method} {c : Code} {D : va_G} {cy : Nat → ClassId} {B : Nat} {kd : Nat → Nat} {n : Nat} {sa sv : Nat → Nat} (C : zC p l s m args meth c D cy B kd n sa sv RX5 cX5_freeGuest 3) (ht : ∀ x ∈ c.exceptionTable.toList, False) (hr : meth.sig.returnType = none) {b0 : Mem}  (N : Nat) (k2 : Int32 → Mem → Option Mem) (v0 : Nat) (v1 : Int32) (v2 : Int32) (M : Mem) (h0 : kd v0 = 5) (hk2 : ∀ (v2 : Int32) (M : Mem), Z p l e (rmz 1 0) s m args below meth c (vx_MQ below (QcR D cy B kd n (cvV b0)) (XcR D cy B kd n (cvV b0)) args s 0 (6 * 0) (AA B kd n)) D cy B kd n 3 b0 0 2 [(0, .ref (B + v0)), (1, .int v1), (2, .int v2)] [] M (k2 v2 M)) : Z p l e (rmz 1 0) s m args below meth c (vx_MQ below (QcR D cy B kd n (cvV b0)) (XcR D cy B kd n (cvV b0)) args s 0 (6 * 0) (AA B kd n)) D cy B kd n 3 b0 0 32 [(0, .ref (B + v0)), (1, .int v1), (2, .int v2)] [] M (fX5_freeGuest_b32 N k2 v0 v1 v2 M) := by
  unfold fX5_freeGuest_b32
  refine z_iinc C 2 2 (v := v2) (v1 := (v2 + (1 : Int32))) (ls1 := [(2, .int (v2 + (1 : Int32))), (0, .ref (B + v0)), (1, .int v1)]) dX5_freeGuest_32 rfl rfl (by decide) rfl ?_
  refine z_goto C 2 dX5_freeGuest_35 rfl ?_
  exact z_jump (ls1 := [(0, .ref (B + v0)), (1, .int v1), (2, .int (v2 + (1 : Int32)))]) (Nat.le_of_ble_eq_true rfl) [1, 2, 0] rfl (hk2 (v2 + (1 : Int32)) M)
set_option maxHeartbeats 4000000 in
set_option maxRecDepth 100000 in
theorem z_fX5_freeGuest_l2_s {p : Program} {l : Launch} {e : Env} {s : State} {m : MethodId} {args : Array Value} {below : List Frame} {meth : Method} {c : Code} {D : va_G} {cy : Nat → ClassId} {B : Nat} {kd : Nat → Nat} {n : Nat} {sa sv : Nat → Nat} (C : zC p l s m args meth c D cy B kd n sa sv RX5 cX5_freeGuest 3) (ht : ∀ x ∈ c.exceptionTable.toList, False) (hr : meth.sig.returnType = none) {b0 : Mem} (N : Nat) (v0 : Nat) (v1 : Int32) (k2 : Int32 → Mem → Option Mem) (v2 : Int32) (M : Mem) (h0 : kd v0 = 5)  (hk2 : ∀ (v2 : Int32) (M : Mem), Z p l e (rmz 1 0) s m args below meth c (vx_MQ below (QcR D cy B kd n (cvV b0)) (XcR D cy B kd n (cvV b0)) args s 0 (6 * 0) (AA B kd n)) D cy B kd n 3 b0 0 2 [(0, .ref (B + v0)), (1, .int v1), (2, .int v2)] [] M (k2 v2 M)) : Z p l e (rmz 1 0) s m args below meth c (vx_MQ below (QcR D cy B kd n (cvV b0)) (XcR D cy B kd n (cvV b0)) args s 0 (6 * 0) (AA B kd n)) D cy B kd n 3 b0 0 2 [(0, .ref (B + v0)), (1, .int v1), (2, .int v2)] [] M (fX5_freeGuest_l2_s N v0 v1 k2 v2 M) := by
  unfold fX5_freeGuest_l2_s
  refine z_iload_n C 2 2 dX5_freeGuest_2 rfl rfl ?_
  refine z_aload_n C 0 0 dX5_freeGuest_3 rfl rfl ?_
  refine z_getI (k := 2) C cl5 h0 rfl gw_1_128 rfl dX5_freeGuest_4 ?_
  refine z_aload_n C 0 0 dX5_freeGuest_7 rfl rfl ?_
  refine z_getI (k := 4) C cl5 h0 rfl gw_1_137 rfl dX5_freeGuest_8 ?_
  refine z_imul C dX5_freeGuest_11 ?_
  refine z_icmp_ge C 38 dX5_freeGuest_12 rfl (fun _ => ?_) (fun _ => ?_)
  · exact z_vret C hr (Nat.le_of_ble_eq_true rfl) dX5_freeGuest_38 rfl
  · refine z_aload_n C 0 0 dX5_freeGuest_15 rfl rfl ?_
    refine z_iload_n C 2 2 dX5_freeGuest_16 rfl rfl ?_
    refine z_callV_pI (As := [.int v2]) (rest := []) C rfl (ctX5_cellAt (zG_of C) v0 v2 h0 M) cw_RX5_88 rfl (okM_X5_cellAt) rfl cl5 h0 (okR_of rfl) (Nat.le_of_ble_eq_true rfl) dX5_freeGuest_17 (fun qj1 _ => ?_)
    refine z_iload_n C 1 1 dX5_freeGuest_20 rfl rfl ?_
    refine z_iconst C dX5_freeGuest_21 rfl ?_
    refine z_iadd C dX5_freeGuest_22 ?_
    refine z_icmp_ne C 32 dX5_freeGuest_23 rfl (fun _ => ?_) (fun _ => ?_)
    · refine z_aload_n C 0 0 dX5_freeGuest_26 rfl rfl ?_
      refine z_iload_n C 2 2 dX5_freeGuest_27 rfl rfl ?_
      refine z_iconst C dX5_freeGuest_28 rfl ?_
      refine z_callV_V (As := [.int v2, .int (0 : Int32)]) (rest := []) C rfl (ctX5_setCell (zG_of C) v0 v2 (0 : Int32) h0 M) cw_RX5_105 rfl (okM_X5_setCell) rfl cl5 h0 (okR_of rfl) (Nat.le_of_ble_eq_true rfl) dX5_freeGuest_29 (fun qj2 _ => ?_)
      exact z_jump (ls1 := [(0, .ref (B + v0)), (1, .int v1), (2, .int v2)]) (Nat.le_of_ble_eq_true rfl) [0, 1, 2] rfl (z_fX5_freeGuest_b32 C ht hr N k2 v0 v1 v2 qj2 h0 hk2)
    · exact z_jump (ls1 := [(0, .ref (B + v0)), (1, .int v1), (2, .int v2)]) (Nat.le_of_ble_eq_true rfl) [0, 1, 2] rfl (z_fX5_freeGuest_b32 C ht hr N k2 v0 v1 v2 M h0 hk2)
theorem z_fX5_freeGuest_l2_i {p : Program} {l : Launch} {e : Env} {s : State} {m : MethodId} {args : Array Value} {below : List Frame} {meth : Method} {c : Code} {D : va_G} {cy : Nat → ClassId} {B : Nat} {kd : Nat → Nat} {n : Nat} {sa sv : Nat → Nat} (C : zC p l s m args meth c D cy B kd n sa sv RX5 cX5_freeGuest 3) (ht : ∀ x ∈ c.exceptionTable.toList, False) (hr : meth.sig.returnType = none) {b0 : Mem} (N : Nat) (v0 : Nat) (v1 : Int32) (h0 : kd v0 = 5)  (fu : Nat) : ∀ (v2 : Int32) (M : Mem), Z p l e (rmz 1 0) s m args below meth c (vx_MQ below (QcR D cy B kd n (cvV b0)) (XcR D cy B kd n (cvV b0)) args s 0 (6 * 0) (AA B kd n)) D cy B kd n 3 b0 0 2 [(0, .ref (B + v0)), (1, .int v1), (2, .int v2)] [] M (fX5_freeGuest_l2 N v0 v1 fu v2 M) := by
  induction fu with
  | zero => intro v2 M; exact z_none
  | succ fu ih => intro v2 M; exact z_fX5_freeGuest_l2_s C ht hr N v0 v1 (fX5_freeGuest_l2 N v0 v1 fu) v2 M h0 (fun v2 M => ih v2 M)
theorem z_fX5_freeGuest_l2 {p : Program} {l : Launch} {e : Env} {s : State} {m : MethodId} {args : Array Value} {below : List Frame} {meth : Method} {c : Code} {D : va_G} {cy : Nat → ClassId} {B : Nat} {kd : Nat → Nat} {n : Nat} {sa sv : Nat → Nat} (C : zC p l s m args meth c D cy B kd n sa sv RX5 cX5_freeGuest 3) (ht : ∀ x ∈ c.exceptionTable.toList, False) (hr : meth.sig.returnType = none) {b0 : Mem} (N : Nat) (v0 : Nat) (v1 : Int32) (fu : Nat) (v2 : Int32) (M : Mem) (h0 : kd v0 = 5)  : Z p l e (rmz 1 0) s m args below meth c (vx_MQ below (QcR D cy B kd n (cvV b0)) (XcR D cy B kd n (cvV b0)) args s 0 (6 * 0) (AA B kd n)) D cy B kd n 3 b0 0 2 [(0, .ref (B + v0)), (1, .int v1), (2, .int v2)] [] M (fX5_freeGuest_l2 N v0 v1 fu v2 M) := z_fX5_freeGuest_l2_i C ht hr N v0 v1 h0 fu v2 M
set_option maxHeartbeats 4000000 in
set_option maxRecDepth 100000 in
theorem ctX5_freeGuest {l : Launch} {D : va_G} {cy : Nat → ClassId} {B : Nat} {kd : Nat → Nat} {n : Nat} {sa sv : Nat → Nat} (G : zG l kd n) (N : Nat) (v0 : Nat) (v1 : Int32) (h0 : kd v0 = 5) (M : Mem) : CT l D cy B kd n sa sv 1 0 yX5_freeGuest cX5_freeGuest 3 (none) cvV [.ref (B + v0), .int v1] M (fX5_freeGuest N v0 v1 M) := by
  refine ct_of (by decide) G.1 G.2 (Nat.le_of_ble_eq_true rfl) (ls := [(0, .ref (B + v0)), (1, .int v1)]) rfl ?_
  intro p e s m args below meth c b0 C ht hr
  unfold fX5_freeGuest
  refine z_iconst C dX5_freeGuest_0 rfl ?_
  refine z_istore_n C 2 (ls1 := [(2, .int (0 : Int32)), (0, .ref (B + v0)), (1, .int v1)]) dX5_freeGuest_1 rfl (by decide) rfl ?_
  exact z_jump (ls1 := [(0, .ref (B + v0)), (1, .int v1), (2, .int (0 : Int32))]) (Nat.le_of_ble_eq_true rfl) [1, 2, 0] rfl (z_fX5_freeGuest_l2 C ht hr N v0 v1 N (0 : Int32) M h0)
set_option maxHeartbeats 4000000 in
set_option maxRecDepth 100000 in
theorem ctX5_copyFrom {l : Launch} {D : va_G} {cy : Nat → ClassId} {B : Nat} {kd : Nat → Nat} {n : Nat} {sa sv : Nat → Nat} (G : zG l kd n) (v0 : Nat) (v1 : Nat) (h0 : kd v0 = 5) (h1 : kd v1 = 5) (M : Mem) : CT l D cy B kd n sa sv 1 0 yX5_copyFrom cX5_copyFrom 2 (none) cvV [.ref (B + v0), .ref (B + v1)] M (fX5_copyFrom v0 v1 M) := by
  refine ct_of (by decide) G.1 G.2 (Nat.le_of_ble_eq_true rfl) (ls := [(0, .ref (B + v0)), (1, .ref (B + v1))]) rfl ?_
  intro p e s m args below meth c b0 C ht hr
  unfold fX5_copyFrom
  refine z_aload_n C 0 0 dX5_copyFrom_0 rfl rfl ?_
  refine z_aload_n C 1 1 dX5_copyFrom_1 rfl rfl ?_
  refine z_getI (k := 0) C cl5 h1 rfl gw_1_122 rfl dX5_copyFrom_2 ?_
  refine z_putZg (k := 0) C cl5 h0 rfl gw_1_122 rfl rfl rfl dX5_copyFrom_5 ?_
  refine z_aload_n C 0 0 dX5_copyFrom_8 rfl rfl ?_
  refine z_aload_n C 1 1 dX5_copyFrom_9 rfl rfl ?_
  refine z_getI (k := 1) C cl5 h1 rfl gw_1_125 rfl dX5_copyFrom_10 ?_
  refine z_putI (k := 1) C cl5 h0 rfl gw_1_125 rfl rfl rfl dX5_copyFrom_13 ?_
  refine z_aload_n C 0 0 dX5_copyFrom_16 rfl rfl ?_
  refine z_aload_n C 1 1 dX5_copyFrom_17 rfl rfl ?_
  refine z_getI (k := 2) C cl5 h1 rfl gw_1_128 rfl dX5_copyFrom_18 ?_
  refine z_putI (k := 2) C cl5 h0 rfl gw_1_128 rfl rfl rfl dX5_copyFrom_21 ?_
  refine z_aload_n C 0 0 dX5_copyFrom_24 rfl rfl ?_
  refine z_aload_n C 1 1 dX5_copyFrom_25 rfl rfl ?_
  refine z_getI (k := 3) C cl5 h1 rfl gw_1_132 rfl dX5_copyFrom_26 ?_
  refine z_putI (k := 3) C cl5 h0 rfl gw_1_132 rfl rfl rfl dX5_copyFrom_29 ?_
  refine z_aload_n C 0 0 dX5_copyFrom_32 rfl rfl ?_
  refine z_aload_n C 1 1 dX5_copyFrom_33 rfl rfl ?_
  refine z_getI (k := 4) C cl5 h1 rfl gw_1_137 rfl dX5_copyFrom_34 ?_
  refine z_putI (k := 4) C cl5 h0 rfl gw_1_137 rfl rfl rfl dX5_copyFrom_37 ?_
  refine z_aload_n C 0 0 dX5_copyFrom_40 rfl rfl ?_
  refine z_aload_n C 1 1 dX5_copyFrom_41 rfl rfl ?_
  refine z_getI (k := 5) C cl5 h1 rfl gw_1_140 rfl dX5_copyFrom_42 ?_
  refine z_putI (k := 5) C cl5 h0 rfl gw_1_140 rfl rfl rfl dX5_copyFrom_45 ?_
  refine z_aload_n C 0 0 dX5_copyFrom_48 rfl rfl ?_
  refine z_aload_n C 1 1 dX5_copyFrom_49 rfl rfl ?_
  refine z_getI (k := 6) C cl5 h1 rfl gw_1_142 rfl dX5_copyFrom_50 ?_
  refine z_putI (k := 6) C cl5 h0 rfl gw_1_142 rfl rfl rfl dX5_copyFrom_53 ?_
  refine z_aload_n C 0 0 dX5_copyFrom_56 rfl rfl ?_
  refine z_aload_n C 1 1 dX5_copyFrom_57 rfl rfl ?_
  refine z_getI (k := 7) C cl5 h1 rfl gw_1_145 rfl dX5_copyFrom_58 ?_
  refine z_putI (k := 7) C cl5 h0 rfl gw_1_145 rfl rfl rfl dX5_copyFrom_61 ?_
  refine z_aload_n C 0 0 dX5_copyFrom_64 rfl rfl ?_
  refine z_getR (k := 8) C cl5 h0 rfl gw_1_146 rfl dX5_copyFrom_65 ?_
  have j1 : kd (v0 + 1) = 2 := zkd C h0 (k := 8) rfl
  refine z_aload_n C 1 1 dX5_copyFrom_68 rfl rfl ?_
  refine z_getR (k := 8) C cl5 h1 rfl gw_1_146 rfl dX5_copyFrom_69 ?_
  have j2 : kd (v1 + 1) = 2 := zkd C h1 (k := 8) rfl
  refine z_callV_V (As := [.ref (B + (v1 + 1))]) (rest := []) C rfl (ctX2_copyFrom (zG_of C) (v0 + 1) (v1 + 1) j1 j2 (wI (wI (wI (wI (wI (wI (wI (wI M v0 0 (rI M v1 0)) v0 1 (rI (wI M v0 0 (rI M v1 0)) v1 1)) v0 2 (rI (wI (wI M v0 0 (rI M v1 0)) v0 1 (rI (wI M v0 0 (rI M v1 0)) v1 1)) v1 2)) v0 3 (rI (wI (wI (wI M v0 0 (rI M v1 0)) v0 1 (rI (wI M v0 0 (rI M v1 0)) v1 1)) v0 2 (rI (wI (wI M v0 0 (rI M v1 0)) v0 1 (rI (wI M v0 0 (rI M v1 0)) v1 1)) v1 2)) v1 3)) v0 4 (rI (wI (wI (wI (wI M v0 0 (rI M v1 0)) v0 1 (rI (wI M v0 0 (rI M v1 0)) v1 1)) v0 2 (rI (wI (wI M v0 0 (rI M v1 0)) v0 1 (rI (wI M v0 0 (rI M v1 0)) v1 1)) v1 2)) v0 3 (rI (wI (wI (wI M v0 0 (rI M v1 0)) v0 1 (rI (wI M v0 0 (rI M v1 0)) v1 1)) v0 2 (rI (wI (wI M v0 0 (rI M v1 0)) v0 1 (rI (wI M v0 0 (rI M v1 0)) v1 1)) v1 2)) v1 3)) v1 4)) v0 5 (rI (wI (wI (wI (wI (wI M v0 0 (rI M v1 0)) v0 1 (rI (wI M v0 0 (rI M v1 0)) v1 1)) v0 2 (rI (wI (wI M v0 0 (rI M v1 0)) v0 1 (rI (wI M v0 0 (rI M v1 0)) v1 1)) v1 2)) v0 3 (rI (wI (wI (wI M v0 0 (rI M v1 0)) v0 1 (rI (wI M v0 0 (rI M v1 0)) v1 1)) v0 2 (rI (wI (wI M v0 0 (rI M v1 0)) v0 1 (rI (wI M v0 0 (rI M v1 0)) v1 1)) v1 2)) v1 3)) v0 4 (rI (wI (wI (wI (wI M v0 0 (rI M v1 0)) v0 1 (rI (wI M v0 0 (rI M v1 0)) v1 1)) v0 2 (rI (wI (wI M v0 0 (rI M v1 0)) v0 1 (rI (wI M v0 0 (rI M v1 0)) v1 1)) v1 2)) v0 3 (rI (wI (wI (wI M v0 0 (rI M v1 0)) v0 1 (rI (wI M v0 0 (rI M v1 0)) v1 1)) v0 2 (rI (wI (wI M v0 0 (rI M v1 0)) v0 1 (rI (wI M v0 0 (rI M v1 0)) v1 1)) v1 2)) v1 3)) v1 4)) v1 5)) v0 6 (rI (wI (wI (wI (wI (wI (wI M v0 0 (rI M v1 0)) v0 1 (rI (wI M v0 0 (rI M v1 0)) v1 1)) v0 2 (rI (wI (wI M v0 0 (rI M v1 0)) v0 1 (rI (wI M v0 0 (rI M v1 0)) v1 1)) v1 2)) v0 3 (rI (wI (wI (wI M v0 0 (rI M v1 0)) v0 1 (rI (wI M v0 0 (rI M v1 0)) v1 1)) v0 2 (rI (wI (wI M v0 0 (rI M v1 0)) v0 1 (rI (wI M v0 0 (rI M v1 0)) v1 1)) v1 2)) v1 3)) v0 4 (rI (wI (wI (wI (wI M v0 0 (rI M v1 0)) v0 1 (rI (wI M v0 0 (rI M v1 0)) v1 1)) v0 2 (rI (wI (wI M v0 0 (rI M v1 0)) v0 1 (rI (wI M v0 0 (rI M v1 0)) v1 1)) v1 2)) v0 3 (rI (wI (wI (wI M v0 0 (rI M v1 0)) v0 1 (rI (wI M v0 0 (rI M v1 0)) v1 1)) v0 2 (rI (wI (wI M v0 0 (rI M v1 0)) v0 1 (rI (wI M v0 0 (rI M v1 0)) v1 1)) v1 2)) v1 3)) v1 4)) v0 5 (rI (wI (wI (wI (wI (wI M v0 0 (rI M v1 0)) v0 1 (rI (wI M v0 0 (rI M v1 0)) v1 1)) v0 2 (rI (wI (wI M v0 0 (rI M v1 0)) v0 1 (rI (wI M v0 0 (rI M v1 0)) v1 1)) v1 2)) v0 3 (rI (wI (wI (wI M v0 0 (rI M v1 0)) v0 1 (rI (wI M v0 0 (rI M v1 0)) v1 1)) v0 2 (rI (wI (wI M v0 0 (rI M v1 0)) v0 1 (rI (wI M v0 0 (rI M v1 0)) v1 1)) v1 2)) v1 3)) v0 4 (rI (wI (wI (wI (wI M v0 0 (rI M v1 0)) v0 1 (rI (wI M v0 0 (rI M v1 0)) v1 1)) v0 2 (rI (wI (wI M v0 0 (rI M v1 0)) v0 1 (rI (wI M v0 0 (rI M v1 0)) v1 1)) v1 2)) v0 3 (rI (wI (wI (wI M v0 0 (rI M v1 0)) v0 1 (rI (wI M v0 0 (rI M v1 0)) v1 1)) v0 2 (rI (wI (wI M v0 0 (rI M v1 0)) v0 1 (rI (wI M v0 0 (rI M v1 0)) v1 1)) v1 2)) v1 3)) v1 4)) v1 5)) v1 6)) v0 7 (rI (wI (wI (wI (wI (wI (wI (wI M v0 0 (rI M v1 0)) v0 1 (rI (wI M v0 0 (rI M v1 0)) v1 1)) v0 2 (rI (wI (wI M v0 0 (rI M v1 0)) v0 1 (rI (wI M v0 0 (rI M v1 0)) v1 1)) v1 2)) v0 3 (rI (wI (wI (wI M v0 0 (rI M v1 0)) v0 1 (rI (wI M v0 0 (rI M v1 0)) v1 1)) v0 2 (rI (wI (wI M v0 0 (rI M v1 0)) v0 1 (rI (wI M v0 0 (rI M v1 0)) v1 1)) v1 2)) v1 3)) v0 4 (rI (wI (wI (wI (wI M v0 0 (rI M v1 0)) v0 1 (rI (wI M v0 0 (rI M v1 0)) v1 1)) v0 2 (rI (wI (wI M v0 0 (rI M v1 0)) v0 1 (rI (wI M v0 0 (rI M v1 0)) v1 1)) v1 2)) v0 3 (rI (wI (wI (wI M v0 0 (rI M v1 0)) v0 1 (rI (wI M v0 0 (rI M v1 0)) v1 1)) v0 2 (rI (wI (wI M v0 0 (rI M v1 0)) v0 1 (rI (wI M v0 0 (rI M v1 0)) v1 1)) v1 2)) v1 3)) v1 4)) v0 5 (rI (wI (wI (wI (wI (wI M v0 0 (rI M v1 0)) v0 1 (rI (wI M v0 0 (rI M v1 0)) v1 1)) v0 2 (rI (wI (wI M v0 0 (rI M v1 0)) v0 1 (rI (wI M v0 0 (rI M v1 0)) v1 1)) v1 2)) v0 3 (rI (wI (wI (wI M v0 0 (rI M v1 0)) v0 1 (rI (wI M v0 0 (rI M v1 0)) v1 1)) v0 2 (rI (wI (wI M v0 0 (rI M v1 0)) v0 1 (rI (wI M v0 0 (rI M v1 0)) v1 1)) v1 2)) v1 3)) v0 4 (rI (wI (wI (wI (wI M v0 0 (rI M v1 0)) v0 1 (rI (wI M v0 0 (rI M v1 0)) v1 1)) v0 2 (rI (wI (wI M v0 0 (rI M v1 0)) v0 1 (rI (wI M v0 0 (rI M v1 0)) v1 1)) v1 2)) v0 3 (rI (wI (wI (wI M v0 0 (rI M v1 0)) v0 1 (rI (wI M v0 0 (rI M v1 0)) v1 1)) v0 2 (rI (wI (wI M v0 0 (rI M v1 0)) v0 1 (rI (wI M v0 0 (rI M v1 0)) v1 1)) v1 2)) v1 3)) v1 4)) v1 5)) v0 6 (rI (wI (wI (wI (wI (wI (wI M v0 0 (rI M v1 0)) v0 1 (rI (wI M v0 0 (rI M v1 0)) v1 1)) v0 2 (rI (wI (wI M v0 0 (rI M v1 0)) v0 1 (rI (wI M v0 0 (rI M v1 0)) v1 1)) v1 2)) v0 3 (rI (wI (wI (wI M v0 0 (rI M v1 0)) v0 1 (rI (wI M v0 0 (rI M v1 0)) v1 1)) v0 2 (rI (wI (wI M v0 0 (rI M v1 0)) v0 1 (rI (wI M v0 0 (rI M v1 0)) v1 1)) v1 2)) v1 3)) v0 4 (rI (wI (wI (wI (wI M v0 0 (rI M v1 0)) v0 1 (rI (wI M v0 0 (rI M v1 0)) v1 1)) v0 2 (rI (wI (wI M v0 0 (rI M v1 0)) v0 1 (rI (wI M v0 0 (rI M v1 0)) v1 1)) v1 2)) v0 3 (rI (wI (wI (wI M v0 0 (rI M v1 0)) v0 1 (rI (wI M v0 0 (rI M v1 0)) v1 1)) v0 2 (rI (wI (wI M v0 0 (rI M v1 0)) v0 1 (rI (wI M v0 0 (rI M v1 0)) v1 1)) v1 2)) v1 3)) v1 4)) v0 5 (rI (wI (wI (wI (wI (wI M v0 0 (rI M v1 0)) v0 1 (rI (wI M v0 0 (rI M v1 0)) v1 1)) v0 2 (rI (wI (wI M v0 0 (rI M v1 0)) v0 1 (rI (wI M v0 0 (rI M v1 0)) v1 1)) v1 2)) v0 3 (rI (wI (wI (wI M v0 0 (rI M v1 0)) v0 1 (rI (wI M v0 0 (rI M v1 0)) v1 1)) v0 2 (rI (wI (wI M v0 0 (rI M v1 0)) v0 1 (rI (wI M v0 0 (rI M v1 0)) v1 1)) v1 2)) v1 3)) v0 4 (rI (wI (wI (wI (wI M v0 0 (rI M v1 0)) v0 1 (rI (wI M v0 0 (rI M v1 0)) v1 1)) v0 2 (rI (wI (wI M v0 0 (rI M v1 0)) v0 1 (rI (wI M v0 0 (rI M v1 0)) v1 1)) v1 2)) v0 3 (rI (wI (wI (wI M v0 0 (rI M v1 0)) v0 1 (rI (wI M v0 0 (rI M v1 0)) v1 1)) v0 2 (rI (wI (wI M v0 0 (rI M v1 0)) v0 1 (rI (wI M v0 0 (rI M v1 0)) v1 1)) v1 2)) v1 3)) v1 4)) v1 5)) v1 6)) v1 7))) cw_RX5_116 rfl (okM_X2_copyFrom) rfl cl2 j1 (okR_of rfl) (Nat.le_of_ble_eq_true rfl) dX5_copyFrom_72 (fun qj3 _ => ?_)
  refine z_aload_n C 1 1 dX5_copyFrom_75 rfl rfl ?_
  refine z_getR (k := 9) C cl5 h1 rfl gw_1_152 rfl dX5_copyFrom_76 ?_
  have j4 : kd (v1 + 3) = 26 := zkd C h1 (k := 9) rfl
  refine z_iconst C dX5_copyFrom_79 rfl ?_
  refine z_aload_n C 0 0 dX5_copyFrom_80 rfl rfl ?_
  refine z_getR (k := 9) C cl5 h0 rfl gw_1_152 rfl dX5_copyFrom_81 ?_
  have j5 : kd (v0 + 3) = 26 := zkd C h0 (k := 9) rfl
  refine z_iconst C dX5_copyFrom_84 rfl ?_
  refine z_aload_n C 0 0 dX5_copyFrom_85 rfl rfl ?_
  refine z_getR (k := 9) C cl5 h0 rfl gw_1_152 rfl dX5_copyFrom_86 ?_
  have j6 : kd (v0 + 3) = 26 := zkd C h0 (k := 9) rfl
  refine z_alen (v := 240) C j6 (by decide) rfl dX5_copyFrom_89 ?_
  refine z_copyI C j4 j5 rfl rfl (by decide) (by decide) cp_RX5_119 copyWords ⟨Nat.le_of_ble_eq_true rfl, Nat.le_of_ble_eq_true rfl⟩ (Nat.le_of_ble_eq_true rfl) dX5_copyFrom_90 ?_
  exact z_vret C hr (Nat.le_of_ble_eq_true rfl) dX5_copyFrom_93 rfl
