section LW0
variable {p : Program} {l : Launch} {e : Env} {R : Room} {s : State} {m : MethodId} {args : Array Value} {below : List Frame} {meth : Method} {c : Code} {Q : State → Prop}
variable {D : va_G} {cy : Nat → ClassId} {B : Nat} {kd : Nat → Nat} {n : Nat} {sa sv : Nat → Nat} {own : String} {cc : ByteArray} {nL : Nat}
variable {β : Type} {b0 : β} {cu pc : Nat} {ls : List (Nat × Value)} {st : List Value} {M : Mem} {x : Option β}
theorem lk0 : kd0 0 = 10 := rfl
theorem lk1 : kd0 140 = 11 := rfl
theorem lk2 : kd0 165 = 47 := rfl
/-- the law's own variables at the loop -/
def lwl (B bs i : Nat) : List (Nat × Value) := [(4, .int (nI i)), (3, .ref (B + 165)), (2, .ref (B + 140)), (1, .ref (B + 0)), (0, .ref bs)]
theorem okR_w {lv nL2 cu k : Nat} (h : (Nat.ble (13 + lv) 2048 && Nat.ble (8 + (nL2 + 11) + (300 + 40 * lv)) 84000) = true) (h2 : cu + k ≤ 600000) : okR room_1 lv nL2 cu k := by
  simp only [Bool.and_eq_true] at h
  refine ⟨Nat.le_of_ble_eq_true h.1, Nat.le_of_ble_eq_true h.2, ?_, ?_⟩
  · show cu + k ≤ 601024
    omega
  · show 6 * (cu + k) ≤ 7293034
    omega
theorem z_scr (C : zC p l s m args meth c D cy B kd n sa sv own cc nL) {bs L : Nat} {xs : Nat → Int32} (X : va_X bs L xs s s.heap ∧ bs < s.heap.size ∧ s.heap.size = B ∧ L ≤ 3072) {i : Nat} (j p0 p4 : Nat) {k : Int} (hi : i + j < L) (h0 : ls[p0]? = some (0, .ref bs)) (h4 : ls[p4]? = some (4, .int (nI i)))
    (d0 : decode cc pc = .ok (.aload_n 0, 1)) (d1 : decode cc (pc + 1) = .ok (.iload 4, 2)) (d3 : decode cc (pc + 3) = .ok (.iconst k, 1)) (d4 : decode cc (pc + 4) = .ok (.iadd, 1)) (d5 : decode cc (pc + 5) = .ok (.iaload, 1)) (hk : Int32.ofInt k = nI j) (kk : Z p l e R s m args below meth c Q D cy B kd n nL b0 cu (pc + 6) ls (.int (xs (i + j)) :: st) M x) : Z p l e R s m args below meth c Q D cy B kd n nL b0 cu pc ls st M x := by
  refine z_aload_n C 0 p0 d0 rfl h0 ?_
  refine z_iload C p4 d1 h4 ?_
  refine z_iconst C d3 hk ?_
  refine z_iadd C d4 ?_
  rw [nI_add]
  intro hx H locs lsA cells slots hc hs hH hS hl
  refine va_sld C.1 C.2.1 X.1 X.2.1 (fun h => ?_) hS (nI_in hi (by omega)) d5 ?_
  · have h1 := h.1
    have h2 := X.2.1
    have h3 := X.2.2.1
    omega
  · rw [nI_clamp (by omega)]
    exact kk hx H locs lsA cells slots hc hs hH hS hl
theorem z_scr0 (C : zC p l s m args meth c D cy B kd n sa sv own cc nL) {bs L : Nat} {xs : Nat → Int32} (X : va_X bs L xs s s.heap ∧ bs < s.heap.size ∧ s.heap.size = B ∧ L ≤ 3072) {i : Nat} (p0 p4 : Nat) (hi : i < L) (h0 : ls[p0]? = some (0, .ref bs)) (h4 : ls[p4]? = some (4, .int (nI i)))
    (d0 : decode cc pc = .ok (.aload_n 0, 1)) (d1 : decode cc (pc + 1) = .ok (.iload 4, 2)) (d3 : decode cc (pc + 3) = .ok (.iaload, 1)) (kk : Z p l e R s m args below meth c Q D cy B kd n nL b0 cu (pc + 4) ls (.int (xs i) :: st) M x) : Z p l e R s m args below meth c Q D cy B kd n nL b0 cu pc ls st M x := by
  refine z_aload_n C 0 p0 d0 rfl h0 ?_
  refine z_iload C p4 d1 h4 ?_
  intro hx H locs lsA cells slots hc hs hH hS hl
  refine va_sld C.1 C.2.1 X.1 X.2.1 (fun h => ?_) hS (nI_in hi (by omega)) d3 ?_
  · have h1 := h.1
    have h2 := X.2.1
    have h3 := X.2.2.1
    omega
  · rw [nI_clamp (by omega)]
    exact kk hx H locs lsA cells slots hc hs hH hS hl
theorem z_slen (C : zC p l s m args meth c D cy B kd n sa sv own cc nL) {bs L : Nat} {xs : Nat → Int32} (X : va_X bs L xs s s.heap ∧ bs < s.heap.size ∧ s.heap.size = B ∧ L ≤ 3072) (d : decode cc pc = .ok (.arraylength, 1)) (kk : Z p l e R s m args below meth c Q D cy B kd n nL b0 cu (pc + 1) ls (.int (nI L) :: st) M x) : Z p l e R s m args below meth c Q D cy B kd n nL b0 cu pc ls (.ref bs :: st) M x := by
  intro hx H locs lsA cells slots hc hs hH hS hl
  refine va_slen C.1 C.2.1 X.1 X.2.1 (fun h => ?_) hS d (kk hx H locs lsA cells slots hc hs hH hS hl)
  have h1 := h.1
  have h2 := X.2.1
  have h3 := X.2.2.1
  omega
theorem lim_lt : ∀ L : Nat, L < 6 → ∀ i : Nat, i < 6 → nI L - 6 < nI i := by decide
theorem lim_eq {L : Nat} (h : 6 ≤ L) : nI L - 6 = nI (L - 6) := by
  have h1 : nI (L - 6) + nI 6 = nI L := by rw [nI_add, Nat.sub_add_cancel h]
  rw [← h1, show (6 : Int32) = nI 6 from rfl, Int32.add_sub_cancel]
end LW0
theorem gw_1_0 : Cond.initialized RL ∈ GW := GW_in (tin_1 (k := 0) (by decide +kernel)) rfl
theorem gw_2_228 : Cond.methodLink RL 129 yL_rules ∈ GW := GW_in (tin_2 (k := 228) (by decide +kernel)) rfl
theorem gw_2_229 : Cond.static yL_rules ∈ GW := GW_in (tin_2 (k := 229) (by decide +kernel)) rfl
theorem gw_2_230 : Cond.codeWith yL_rules cL_rules 4 (some (FieldType.int)) [(0, 9, 12, 13)] ∈ GW := GW_in (tin_2 (k := 230) (by decide +kernel)) rfl
theorem gw_4_44 : Cond.methodLink RL 143 yL_value ∈ GW := GW_in (tin_4 (k := 44) (by decide +kernel)) rfl
theorem gw_4_45 : Cond.static yL_value ∈ GW := GW_in (tin_4 (k := 45) (by decide +kernel)) rfl
theorem gw_4_46 : Cond.codeWith yL_value cL_value 6 (some (FieldType.int)) [(0, 12, 15, 19), (0, 12, 19, 13)] ∈ GW := GW_in (tin_4 (k := 46) (by decide +kernel)) rfl
theorem gw_4_77 : Cond.methodLink RL 147 yL_place ∈ GW := GW_in (tin_4 (k := 77) (by decide +kernel)) rfl
theorem gw_4_78 : Cond.static yL_place ∈ GW := GW_in (tin_4 (k := 78) (by decide +kernel)) rfl
theorem gw_4_79 : Cond.codeWith yL_place cL_place 6 (some (FieldType.int)) [(0, 12, 15, 19), (0, 12, 19, 13)] ∈ GW := GW_in (tin_4 (k := 79) (by decide +kernel)) rfl
theorem gw_4_88 : Cond.methodLink RL 150 yL_tag ∈ GW := GW_in (tin_4 (k := 88) (by decide +kernel)) rfl
theorem gw_4_89 : Cond.static yL_tag ∈ GW := GW_in (tin_4 (k := 89) (by decide +kernel)) rfl
theorem gw_4_90 : Cond.codeWith yL_tag cL_tag 4 (some (FieldType.int)) [(0, 9, 12, 13)] ∈ GW := GW_in (tin_4 (k := 90) (by decide +kernel)) rfl
theorem gw_4_108 : Cond.methodLink RL 153 yL_make ∈ GW := GW_in (tin_4 (k := 108) (by decide +kernel)) rfl
theorem gw_4_109 : Cond.static yL_make ∈ GW := GW_in (tin_4 (k := 109) (by decide +kernel)) rfl
theorem gw_4_110 : Cond.codeWith yL_make cL_make 7 (some (FieldType.int)) [(0, 11, 14, 19), (0, 11, 18, 13)] ∈ GW := GW_in (tin_4 (k := 110) (by decide +kernel)) rfl
theorem gw_4_142 : Cond.methodLink RL 157 yL_of ∈ GW := GW_in (tin_4 (k := 142) (by decide +kernel)) rfl
theorem gw_4_143 : Cond.static yL_of ∈ GW := GW_in (tin_4 (k := 143) (by decide +kernel)) rfl
theorem gw_4_144 : Cond.codeWith yL_of cL_of 5 (some (FieldType.int)) [(0, 10, 13, 19), (0, 10, 17, 13)] ∈ GW := GW_in (tin_4 (k := 144) (by decide +kernel)) rfl
theorem gw_4_165 : Cond.methodLink RL 161 yL_cell ∈ GW := GW_in (tin_4 (k := 165) (by decide +kernel)) rfl
theorem gw_4_166 : Cond.static yL_cell ∈ GW := GW_in (tin_4 (k := 166) (by decide +kernel)) rfl
theorem gw_4_167 : Cond.codeWith yL_cell cL_cell 5 (some (FieldType.int)) [(0, 10, 13, 19), (0, 10, 17, 38)] ∈ GW := GW_in (tin_4 (k := 167) (by decide +kernel)) rfl
theorem gw_4_210 : Cond.methodLink RL 164 yL_guest ∈ GW := GW_in (tin_4 (k := 210) (by decide +kernel)) rfl
theorem gw_4_211 : Cond.static yL_guest ∈ GW := GW_in (tin_4 (k := 211) (by decide +kernel)) rfl
theorem gw_4_212 : Cond.codeWith yL_guest cL_guest 6 (some (FieldType.int)) [(0, 12, 15, 19), (0, 12, 19, 43), (0, 12, 23, 38)] ∈ GW := GW_in (tin_4 (k := 212) (by decide +kernel)) rfl
theorem gw_4_239 : Cond.methodLink RL 167 yL_yes ∈ GW := GW_in (tin_4 (k := 239) (by decide +kernel)) rfl
theorem gw_5_0 : Cond.static yL_yes ∈ GW := GW_in (tin_5 (k := 0) (by decide +kernel)) rfl
theorem gw_5_1 : Cond.codeWith yL_yes cL_yes 5 (some (FieldType.int)) [(0, 17, 20, 19), (0, 17, 24, 13)] ∈ GW := GW_in (tin_5 (k := 1) (by decide +kernel)) rfl
theorem gw_5_28 : Cond.methodLink RL 170 yL_isPut ∈ GW := GW_in (tin_5 (k := 28) (by decide +kernel)) rfl
theorem gw_5_29 : Cond.static yL_isPut ∈ GW := GW_in (tin_5 (k := 29) (by decide +kernel)) rfl
theorem gw_5_30 : Cond.codeWith yL_isPut cL_isPut 5 (some (FieldType.int)) [(0, 17, 20, 19), (0, 17, 24, 13)] ∈ GW := GW_in (tin_5 (k := 30) (by decide +kernel)) rfl
theorem gw_5_39 : Cond.methodLink RL 173 yL_put ∈ GW := GW_in (tin_5 (k := 39) (by decide +kernel)) rfl
theorem gw_5_40 : Cond.static yL_put ∈ GW := GW_in (tin_5 (k := 40) (by decide +kernel)) rfl
theorem gw_5_41 : Cond.codeWith yL_put cL_put 5 (some (FieldType.int)) [(0, 10, 13, 19), (0, 10, 17, 43), (0, 10, 21, 13)] ∈ GW := GW_in (tin_5 (k := 41) (by decide +kernel)) rfl
theorem gw_5_104 : Cond.methodLink RL 176 yL_take ∈ GW := GW_in (tin_5 (k := 104) (by decide +kernel)) rfl
theorem gw_5_105 : Cond.static yL_take ∈ GW := GW_in (tin_5 (k := 105) (by decide +kernel)) rfl
theorem gw_5_106 : Cond.codeWith yL_take cL_take 5 (some (FieldType.int)) [(0, 17, 20, 19), (0, 17, 24, 43), (0, 17, 28, 13)] ∈ GW := GW_in (tin_5 (k := 106) (by decide +kernel)) rfl
theorem gw_5_125 : Cond.methodLink RL 179 yL_join ∈ GW := GW_in (tin_5 (k := 125) (by decide +kernel)) rfl
theorem gw_5_126 : Cond.static yL_join ∈ GW := GW_in (tin_5 (k := 126) (by decide +kernel)) rfl
theorem gw_5_127 : Cond.codeWith yL_join cL_join 5 (some (FieldType.int)) [(0, 10, 13, 19), (0, 10, 17, 43), (0, 10, 21, 13)] ∈ GW := GW_in (tin_5 (k := 127) (by decide +kernel)) rfl
theorem gw_5_146 : Cond.methodLink RL 182 yL_halve ∈ GW := GW_in (tin_5 (k := 146) (by decide +kernel)) rfl
theorem gw_5_147 : Cond.static yL_halve ∈ GW := GW_in (tin_5 (k := 147) (by decide +kernel)) rfl
theorem gw_5_148 : Cond.codeWith yL_halve cL_halve 4 (some (FieldType.int)) [(0, 9, 12, 19), (0, 9, 15, 43)] ∈ GW := GW_in (tin_5 (k := 148) (by decide +kernel)) rfl
theorem gw_5_158 : Cond.methodLink RL 185 yL_grow ∈ GW := GW_in (tin_5 (k := 158) (by decide +kernel)) rfl
theorem gw_5_159 : Cond.static yL_grow ∈ GW := GW_in (tin_5 (k := 159) (by decide +kernel)) rfl
theorem gw_5_160 : Cond.codeWith yL_grow cL_grow 4 (some (FieldType.int)) [(0, 9, 12, 19), (0, 9, 15, 43)] ∈ GW := GW_in (tin_5 (k := 160) (by decide +kernel)) rfl
theorem gw_5_175 : Cond.methodLink RL 188 yL_solve ∈ GW := GW_in (tin_5 (k := 175) (by decide +kernel)) rfl
theorem gw_5_176 : Cond.static yL_solve ∈ GW := GW_in (tin_5 (k := 176) (by decide +kernel)) rfl
theorem gw_5_177 : Cond.codeWith yL_solve cL_solve 5 (some (FieldType.int)) [(0, 10, 13, 19), (0, 10, 17, 43), (0, 10, 21, 13)] ∈ GW := GW_in (tin_5 (k := 177) (by decide +kernel)) rfl
theorem gw_5_233 : Cond.methodLink RL 191 yL_lying ∈ GW := GW_in (tin_5 (k := 233) (by decide +kernel)) rfl
theorem gw_5_234 : Cond.static yL_lying ∈ GW := GW_in (tin_5 (k := 234) (by decide +kernel)) rfl
theorem gw_5_235 : Cond.codeWith yL_lying cL_lying 4 (some (FieldType.int)) [(0, 16, 19, 19)] ∈ GW := GW_in (tin_5 (k := 235) (by decide +kernel)) rfl
theorem gw_6_7 : Cond.methodLink RL 202 yL_lie ∈ GW := GW_in (tin_6 (k := 7) (by decide +kernel)) rfl
theorem gw_6_8 : Cond.static yL_lie ∈ GW := GW_in (tin_6 (k := 8) (by decide +kernel)) rfl
theorem gw_6_9 : Cond.codeWith yL_lie cL_lie 5 (some (FieldType.int)) [(0, 10, 13, 19)] ∈ GW := GW_in (tin_6 (k := 9) (by decide +kernel)) rfl
theorem gw_6_18 : Cond.methodLink RL 205 yL_wronged ∈ GW := GW_in (tin_6 (k := 18) (by decide +kernel)) rfl
theorem gw_6_19 : Cond.static yL_wronged ∈ GW := GW_in (tin_6 (k := 19) (by decide +kernel)) rfl
theorem gw_6_20 : Cond.codeWith yL_wronged cL_wronged 6 (some (FieldType.int)) [(0, 12, 15, 19), (0, 12, 19, 43)] ∈ GW := GW_in (tin_6 (k := 20) (by decide +kernel)) rfl
theorem gw_6_25 : Cond.methodLink RL 208 yL_worse ∈ GW := GW_in (tin_6 (k := 25) (by decide +kernel)) rfl
theorem gw_6_26 : Cond.static yL_worse ∈ GW := GW_in (tin_6 (k := 26) (by decide +kernel)) rfl
theorem gw_6_27 : Cond.codeWith yL_worse cL_worse 5 (some (FieldType.int)) [(0, 10, 13, 19)] ∈ GW := GW_in (tin_6 (k := 27) (by decide +kernel)) rfl
theorem gw_6_32 : Cond.methodLink RL 211 yL_cascade ∈ GW := GW_in (tin_6 (k := 32) (by decide +kernel)) rfl
theorem gw_6_33 : Cond.static yL_cascade ∈ GW := GW_in (tin_6 (k := 33) (by decide +kernel)) rfl
theorem gw_6_34 : Cond.codeWith yL_cascade cL_cascade 7 (some (FieldType.int)) [(0, 14, 17, 19), (0, 14, 21, 43), (0, 14, 25, 13)] ∈ GW := GW_in (tin_6 (k := 34) (by decide +kernel)) rfl
theorem gw_6_75 : Cond.methodLink RL 215 yL_learn ∈ GW := GW_in (tin_6 (k := 75) (by decide +kernel)) rfl
theorem gw_6_76 : Cond.static yL_learn ∈ GW := GW_in (tin_6 (k := 76) (by decide +kernel)) rfl
theorem gw_6_77 : Cond.codeWith yL_learn cL_learn 6 (some (FieldType.int)) [(0, 12, 15, 19), (0, 12, 19, 43), (0, 12, 23, 13)] ∈ GW := GW_in (tin_6 (k := 77) (by decide +kernel)) rfl
theorem gw_6_110 : Cond.methodLink RL 218 yL_ask ∈ GW := GW_in (tin_6 (k := 110) (by decide +kernel)) rfl
theorem gw_6_111 : Cond.static yL_ask ∈ GW := GW_in (tin_6 (k := 111) (by decide +kernel)) rfl
theorem gw_6_112 : Cond.codeWith yL_ask cL_ask 5 (some (FieldType.int)) [(0, 10, 13, 19), (0, 10, 17, 43), (0, 10, 21, 13)] ∈ GW := GW_in (tin_6 (k := 112) (by decide +kernel)) rfl
theorem gw_6_121 : Cond.methodLink RL 221 yL_worst ∈ GW := GW_in (tin_6 (k := 121) (by decide +kernel)) rfl
theorem gw_6_122 : Cond.static yL_worst ∈ GW := GW_in (tin_6 (k := 122) (by decide +kernel)) rfl
theorem gw_6_123 : Cond.codeWith yL_worst cL_worst 5 (some (FieldType.int)) [(0, 10, 13, 19), (0, 10, 17, 43), (0, 10, 21, 13)] ∈ GW := GW_in (tin_6 (k := 123) (by decide +kernel)) rfl
theorem gw_6_136 : Cond.methodLink RL 224 yL_blame ∈ GW := GW_in (tin_6 (k := 136) (by decide +kernel)) rfl
theorem gw_6_137 : Cond.static yL_blame ∈ GW := GW_in (tin_6 (k := 137) (by decide +kernel)) rfl
theorem gw_6_138 : Cond.codeWith yL_blame cL_blame 5 (some (FieldType.int)) [(0, 10, 13, 19), (0, 10, 17, 43), (0, 10, 21, 13)] ∈ GW := GW_in (tin_6 (k := 138) (by decide +kernel)) rfl
theorem gw_6_156 : Cond.methodLink RL 227 yL_choose ∈ GW := GW_in (tin_6 (k := 156) (by decide +kernel)) rfl
theorem gw_6_157 : Cond.static yL_choose ∈ GW := GW_in (tin_6 (k := 157) (by decide +kernel)) rfl
theorem gw_6_158 : Cond.codeWith yL_choose cL_choose 6 (some (FieldType.int)) [(0, 12, 15, 19), (0, 12, 19, 13)] ∈ GW := GW_in (tin_6 (k := 158) (by decide +kernel)) rfl
theorem gw_6_174 : Cond.methodLink RL 230 yL_tray ∈ GW := GW_in (tin_6 (k := 174) (by decide +kernel)) rfl
theorem gw_6_175 : Cond.static yL_tray ∈ GW := GW_in (tin_6 (k := 175) (by decide +kernel)) rfl
theorem gw_6_176 : Cond.codeWith yL_tray cL_tray 5 (some (FieldType.int)) [(0, 7, 10, 19), (0, 7, 14, 13)] ∈ GW := GW_in (tin_6 (k := 176) (by decide +kernel)) rfl
theorem gw_6_187 : Cond.methodLink RL 236 yL_write ∈ GW := GW_in (tin_6 (k := 187) (by decide +kernel)) rfl
theorem gw_6_188 : Cond.static yL_write ∈ GW := GW_in (tin_6 (k := 188) (by decide +kernel)) rfl
theorem gw_6_189 : Cond.codeWith yL_write cL_write 7 (some (FieldType.int)) [(0, 11, 14, 19), (0, 11, 18, 43), (0, 11, 22, 38)] ∈ GW := GW_in (tin_6 (k := 189) (by decide +kernel)) rfl
theorem gw_6_203 : Cond.methodLink RL 240 yL_pour ∈ GW := GW_in (tin_6 (k := 203) (by decide +kernel)) rfl
theorem gw_6_204 : Cond.static yL_pour ∈ GW := GW_in (tin_6 (k := 204) (by decide +kernel)) rfl
theorem gw_6_205 : Cond.codeWith yL_pour cL_pour 5 (some (FieldType.int)) [(0, 10, 13, 19), (0, 10, 17, 43)] ∈ GW := GW_in (tin_6 (k := 205) (by decide +kernel)) rfl
theorem gw_6_210 : Cond.methodLink RL 243 yL_image ∈ GW := GW_in (tin_6 (k := 210) (by decide +kernel)) rfl
theorem gw_6_211 : Cond.static yL_image ∈ GW := GW_in (tin_6 (k := 211) (by decide +kernel)) rfl
theorem gw_6_212 : Cond.codeWith yL_image cL_image 3 (some (FieldType.int)) [(0, 5, 8, 19)] ∈ GW := GW_in (tin_6 (k := 212) (by decide +kernel)) rfl
theorem gw_6_233 : Cond.methodLink RL 247 yL_restore ∈ GW := GW_in (tin_6 (k := 233) (by decide +kernel)) rfl
theorem gw_6_234 : Cond.static yL_restore ∈ GW := GW_in (tin_6 (k := 234) (by decide +kernel)) rfl
theorem gw_6_235 : Cond.codeWith yL_restore cL_restore 3 (some (FieldType.int)) [(0, 5, 8, 19), (0, 5, 11, 43)] ∈ GW := GW_in (tin_6 (k := 235) (by decide +kernel)) rfl
theorem gw_2_200 : Cond.methodLink RL 124 yX10_feed ∈ GW := GW_in (tin_2 (k := 200) (by decide +kernel)) rfl
theorem gw_2_201 : Cond.instanceMethod yX10_feed ∈ GW := GW_in (tin_2 (k := 201) (by decide +kernel)) rfl
theorem gw_2_202 : Cond.selects RX10 yX10_feed yX10_feed ∈ GW := GW_in (tin_2 (k := 202) (by decide +kernel)) rfl
theorem gw_2_203 : Cond.code yX10_feed cX10_feed 6 (some (FieldType.int)) ∈ GW := GW_in (tin_2 (k := 203) (by decide +kernel)) rfl
theorem gw_2_208 : Cond.methodLink RL 139 yX10_fault ∈ GW := GW_in (tin_2 (k := 208) (by decide +kernel)) rfl
theorem gw_2_209 : Cond.instanceMethod yX10_fault ∈ GW := GW_in (tin_2 (k := 209) (by decide +kernel)) rfl
theorem gw_2_210 : Cond.selects RX10 yX10_fault yX10_fault ∈ GW := GW_in (tin_2 (k := 210) (by decide +kernel)) rfl
theorem gw_2_211 : Cond.code yX10_fault cX10_fault 2 (some (FieldType.int)) ∈ GW := GW_in (tin_2 (k := 211) (by decide +kernel)) rfl
theorem gw_2_212 : Cond.methodLink RL 194 yX10_upper ∈ GW := GW_in (tin_2 (k := 212) (by decide +kernel)) rfl
theorem gw_2_213 : Cond.instanceMethod yX10_upper ∈ GW := GW_in (tin_2 (k := 213) (by decide +kernel)) rfl
theorem gw_2_214 : Cond.selects RX10 yX10_upper yX10_upper ∈ GW := GW_in (tin_2 (k := 214) (by decide +kernel)) rfl
theorem gw_2_215 : Cond.code yX10_upper cX10_upper 1 (some (FieldType.int)) ∈ GW := GW_in (tin_2 (k := 215) (by decide +kernel)) rfl
theorem gw_2_216 : Cond.methodLink RL 198 yX10_lower ∈ GW := GW_in (tin_2 (k := 216) (by decide +kernel)) rfl
theorem gw_2_217 : Cond.instanceMethod yX10_lower ∈ GW := GW_in (tin_2 (k := 217) (by decide +kernel)) rfl
theorem gw_2_218 : Cond.selects RX10 yX10_lower yX10_lower ∈ GW := GW_in (tin_2 (k := 218) (by decide +kernel)) rfl
theorem gw_2_219 : Cond.code yX10_lower cX10_lower 1 (some (FieldType.int)) ∈ GW := GW_in (tin_2 (k := 219) (by decide +kernel)) rfl
theorem gw_2_220 : Cond.methodLink RL 250 yX10_count ∈ GW := GW_in (tin_2 (k := 220) (by decide +kernel)) rfl
theorem gw_2_221 : Cond.instanceMethod yX10_count ∈ GW := GW_in (tin_2 (k := 221) (by decide +kernel)) rfl
theorem gw_2_222 : Cond.selects RX10 yX10_count yX10_count ∈ GW := GW_in (tin_2 (k := 222) (by decide +kernel)) rfl
theorem gw_2_223 : Cond.code yX10_count cX10_count 2 (some (FieldType.int)) ∈ GW := GW_in (tin_2 (k := 223) (by decide +kernel)) rfl
theorem gw_7_126 : Cond.methodLink RL 135 yX11_thrown ∈ GW := GW_in (tin_7 (k := 126) (by decide +kernel)) rfl
theorem gw_7_127 : Cond.instanceMethod yX11_thrown ∈ GW := GW_in (tin_7 (k := 127) (by decide +kernel)) rfl
theorem gw_7_128 : Cond.selects RX11 yX11_thrown yX11_thrown ∈ GW := GW_in (tin_7 (k := 128) (by decide +kernel)) rfl
theorem gw_7_129 : Cond.code yX11_thrown cX11_thrown 1 (some (FieldType.int)) ∈ GW := GW_in (tin_7 (k := 129) (by decide +kernel)) rfl
theorem gw_7_130 : Cond.methodLink RL 128 yX11_feed ∈ GW := GW_in (tin_7 (k := 130) (by decide +kernel)) rfl
theorem gw_7_131 : Cond.instanceMethod yX11_feed ∈ GW := GW_in (tin_7 (k := 131) (by decide +kernel)) rfl
theorem gw_7_132 : Cond.selects RX11 yX11_feed yX11_feed ∈ GW := GW_in (tin_7 (k := 132) (by decide +kernel)) rfl
theorem gw_7_133 : Cond.code yX11_feed cX11_feed 8 (some (FieldType.int)) ∈ GW := GW_in (tin_7 (k := 133) (by decide +kernel)) rfl
theorem gw_7_134 : Cond.methodLink RL 134 yX11_rules ∈ GW := GW_in (tin_7 (k := 134) (by decide +kernel)) rfl
theorem gw_7_135 : Cond.instanceMethod yX11_rules ∈ GW := GW_in (tin_7 (k := 135) (by decide +kernel)) rfl
theorem gw_7_136 : Cond.selects RX11 yX11_rules yX11_rules ∈ GW := GW_in (tin_7 (k := 136) (by decide +kernel)) rfl
theorem gw_7_137 : Cond.code yX11_rules cX11_rules 3 (some (FieldType.int)) ∈ GW := GW_in (tin_7 (k := 137) (by decide +kernel)) rfl
theorem gw_7_218 : Cond.methodLink RL 142 yX11_fault ∈ GW := GW_in (tin_7 (k := 218) (by decide +kernel)) rfl
theorem gw_7_219 : Cond.instanceMethod yX11_fault ∈ GW := GW_in (tin_7 (k := 219) (by decide +kernel)) rfl
theorem gw_7_220 : Cond.selects RX11 yX11_fault yX11_fault ∈ GW := GW_in (tin_7 (k := 220) (by decide +kernel)) rfl
theorem gw_7_221 : Cond.code yX11_fault cX11_fault 2 (some (FieldType.int)) ∈ GW := GW_in (tin_7 (k := 221) (by decide +kernel)) rfl
theorem gw_7_222 : Cond.methodLink RL 146 yX11_value ∈ GW := GW_in (tin_7 (k := 222) (by decide +kernel)) rfl
theorem gw_7_223 : Cond.instanceMethod yX11_value ∈ GW := GW_in (tin_7 (k := 223) (by decide +kernel)) rfl
theorem gw_7_224 : Cond.selects RX11 yX11_value yX11_value ∈ GW := GW_in (tin_7 (k := 224) (by decide +kernel)) rfl
theorem gw_7_225 : Cond.code yX11_value cX11_value 4 (some (FieldType.int)) ∈ GW := GW_in (tin_7 (k := 225) (by decide +kernel)) rfl
theorem gw_7_238 : Cond.methodLink RL 149 yX11_place ∈ GW := GW_in (tin_7 (k := 238) (by decide +kernel)) rfl
theorem gw_7_239 : Cond.instanceMethod yX11_place ∈ GW := GW_in (tin_7 (k := 239) (by decide +kernel)) rfl
theorem gw_8_0 : Cond.selects RX11 yX11_place yX11_place ∈ GW := GW_in (tin_8 (k := 0) (by decide +kernel)) rfl
theorem gw_8_1 : Cond.code yX11_place cX11_place 4 (some (FieldType.int)) ∈ GW := GW_in (tin_8 (k := 1) (by decide +kernel)) rfl
theorem gw_8_9 : Cond.methodLink RL 152 yX11_tag ∈ GW := GW_in (tin_8 (k := 9) (by decide +kernel)) rfl
theorem gw_8_10 : Cond.instanceMethod yX11_tag ∈ GW := GW_in (tin_8 (k := 10) (by decide +kernel)) rfl
theorem gw_8_11 : Cond.selects RX11 yX11_tag yX11_tag ∈ GW := GW_in (tin_8 (k := 11) (by decide +kernel)) rfl
theorem gw_8_12 : Cond.code yX11_tag cX11_tag 2 (some (FieldType.int)) ∈ GW := GW_in (tin_8 (k := 12) (by decide +kernel)) rfl
theorem gw_8_21 : Cond.methodLink RL 156 yX11_make ∈ GW := GW_in (tin_8 (k := 21) (by decide +kernel)) rfl
theorem gw_8_22 : Cond.instanceMethod yX11_make ∈ GW := GW_in (tin_8 (k := 22) (by decide +kernel)) rfl
theorem gw_8_23 : Cond.selects RX11 yX11_make yX11_make ∈ GW := GW_in (tin_8 (k := 23) (by decide +kernel)) rfl
theorem gw_8_24 : Cond.code yX11_make cX11_make 9 (none) ∈ GW := GW_in (tin_8 (k := 24) (by decide +kernel)) rfl
theorem gw_8_37 : Cond.methodLink RL 160 yX11_of ∈ GW := GW_in (tin_8 (k := 37) (by decide +kernel)) rfl
theorem gw_8_38 : Cond.instanceMethod yX11_of ∈ GW := GW_in (tin_8 (k := 38) (by decide +kernel)) rfl
theorem gw_8_39 : Cond.selects RX11 yX11_of yX11_of ∈ GW := GW_in (tin_8 (k := 39) (by decide +kernel)) rfl
theorem gw_8_40 : Cond.code yX11_of cX11_of 3 (some (FieldType.int)) ∈ GW := GW_in (tin_8 (k := 40) (by decide +kernel)) rfl
theorem gw_8_54 : Cond.methodLink RL 163 yX11_cell ∈ GW := GW_in (tin_8 (k := 54) (by decide +kernel)) rfl
theorem gw_8_55 : Cond.instanceMethod yX11_cell ∈ GW := GW_in (tin_8 (k := 55) (by decide +kernel)) rfl
theorem gw_8_56 : Cond.selects RX11 yX11_cell yX11_cell ∈ GW := GW_in (tin_8 (k := 56) (by decide +kernel)) rfl
theorem gw_8_57 : Cond.code yX11_cell cX11_cell 6 (some (FieldType.int)) ∈ GW := GW_in (tin_8 (k := 57) (by decide +kernel)) rfl
theorem gw_8_70 : Cond.methodLink RL 166 yX11_guest ∈ GW := GW_in (tin_8 (k := 70) (by decide +kernel)) rfl
theorem gw_8_71 : Cond.instanceMethod yX11_guest ∈ GW := GW_in (tin_8 (k := 71) (by decide +kernel)) rfl
theorem gw_8_72 : Cond.selects RX11 yX11_guest yX11_guest ∈ GW := GW_in (tin_8 (k := 72) (by decide +kernel)) rfl
theorem gw_8_73 : Cond.code yX11_guest cX11_guest 4 (some (FieldType.int)) ∈ GW := GW_in (tin_8 (k := 73) (by decide +kernel)) rfl
theorem gw_8_74 : Cond.methodLink RL 169 yX11_yes ∈ GW := GW_in (tin_8 (k := 74) (by decide +kernel)) rfl
theorem gw_8_75 : Cond.instanceMethod yX11_yes ∈ GW := GW_in (tin_8 (k := 75) (by decide +kernel)) rfl
theorem gw_8_76 : Cond.selects RX11 yX11_yes yX11_yes ∈ GW := GW_in (tin_8 (k := 76) (by decide +kernel)) rfl
theorem gw_8_77 : Cond.code yX11_yes cX11_yes 3 (some (FieldType.boolean)) ∈ GW := GW_in (tin_8 (k := 77) (by decide +kernel)) rfl
theorem gw_8_98 : Cond.methodLink RL 172 yX11_isPut ∈ GW := GW_in (tin_8 (k := 98) (by decide +kernel)) rfl
theorem gw_8_99 : Cond.instanceMethod yX11_isPut ∈ GW := GW_in (tin_8 (k := 99) (by decide +kernel)) rfl
theorem gw_8_100 : Cond.selects RX11 yX11_isPut yX11_isPut ∈ GW := GW_in (tin_8 (k := 100) (by decide +kernel)) rfl
theorem gw_8_101 : Cond.code yX11_isPut cX11_isPut 3 (some (FieldType.boolean)) ∈ GW := GW_in (tin_8 (k := 101) (by decide +kernel)) rfl
theorem gw_8_106 : Cond.methodLink RL 175 yX11_put ∈ GW := GW_in (tin_8 (k := 106) (by decide +kernel)) rfl
theorem gw_8_107 : Cond.instanceMethod yX11_put ∈ GW := GW_in (tin_8 (k := 107) (by decide +kernel)) rfl
theorem gw_8_108 : Cond.selects RX11 yX11_put yX11_put ∈ GW := GW_in (tin_8 (k := 108) (by decide +kernel)) rfl
theorem gw_8_109 : Cond.code yX11_put cX11_put 3 (some (FieldType.int)) ∈ GW := GW_in (tin_8 (k := 109) (by decide +kernel)) rfl
theorem gw_8_134 : Cond.methodLink RL 178 yX11_take ∈ GW := GW_in (tin_8 (k := 134) (by decide +kernel)) rfl
theorem gw_8_135 : Cond.instanceMethod yX11_take ∈ GW := GW_in (tin_8 (k := 135) (by decide +kernel)) rfl
theorem gw_8_136 : Cond.selects RX11 yX11_take yX11_take ∈ GW := GW_in (tin_8 (k := 136) (by decide +kernel)) rfl
theorem gw_8_137 : Cond.code yX11_take cX11_take 5 (some (FieldType.boolean)) ∈ GW := GW_in (tin_8 (k := 137) (by decide +kernel)) rfl
theorem gw_8_139 : Cond.methodLink RL 181 yX11_join ∈ GW := GW_in (tin_8 (k := 139) (by decide +kernel)) rfl
theorem gw_8_140 : Cond.instanceMethod yX11_join ∈ GW := GW_in (tin_8 (k := 140) (by decide +kernel)) rfl
theorem gw_8_141 : Cond.selects RX11 yX11_join yX11_join ∈ GW := GW_in (tin_8 (k := 141) (by decide +kernel)) rfl
theorem gw_8_142 : Cond.code yX11_join cX11_join 4 (some (FieldType.int)) ∈ GW := GW_in (tin_8 (k := 142) (by decide +kernel)) rfl
theorem gw_8_150 : Cond.methodLink RL 184 yX11_halve ∈ GW := GW_in (tin_8 (k := 150) (by decide +kernel)) rfl
theorem gw_8_151 : Cond.instanceMethod yX11_halve ∈ GW := GW_in (tin_8 (k := 151) (by decide +kernel)) rfl
theorem gw_8_152 : Cond.selects RX11 yX11_halve yX11_halve ∈ GW := GW_in (tin_8 (k := 152) (by decide +kernel)) rfl
theorem gw_8_153 : Cond.code yX11_halve cX11_halve 4 (some (FieldType.int)) ∈ GW := GW_in (tin_8 (k := 153) (by decide +kernel)) rfl
theorem gw_8_154 : Cond.methodLink RL 187 yX11_grow ∈ GW := GW_in (tin_8 (k := 154) (by decide +kernel)) rfl
theorem gw_8_155 : Cond.instanceMethod yX11_grow ∈ GW := GW_in (tin_8 (k := 155) (by decide +kernel)) rfl
theorem gw_8_156 : Cond.selects RX11 yX11_grow yX11_grow ∈ GW := GW_in (tin_8 (k := 156) (by decide +kernel)) rfl
theorem gw_8_157 : Cond.code yX11_grow cX11_grow 4 (some (FieldType.int)) ∈ GW := GW_in (tin_8 (k := 157) (by decide +kernel)) rfl
theorem gw_8_158 : Cond.methodLink RL 190 yX11_solve ∈ GW := GW_in (tin_8 (k := 158) (by decide +kernel)) rfl
theorem gw_8_159 : Cond.instanceMethod yX11_solve ∈ GW := GW_in (tin_8 (k := 159) (by decide +kernel)) rfl
theorem gw_8_160 : Cond.selects RX11 yX11_solve yX11_solve ∈ GW := GW_in (tin_8 (k := 160) (by decide +kernel)) rfl
theorem gw_8_161 : Cond.code yX11_solve cX11_solve 6 (some (FieldType.int)) ∈ GW := GW_in (tin_8 (k := 161) (by decide +kernel)) rfl
theorem gw_8_181 : Cond.methodLink RL 193 yX11_lying ∈ GW := GW_in (tin_8 (k := 181) (by decide +kernel)) rfl
theorem gw_8_182 : Cond.instanceMethod yX11_lying ∈ GW := GW_in (tin_8 (k := 182) (by decide +kernel)) rfl
theorem gw_8_183 : Cond.selects RX11 yX11_lying yX11_lying ∈ GW := GW_in (tin_8 (k := 183) (by decide +kernel)) rfl
theorem gw_8_184 : Cond.code yX11_lying cX11_lying 5 (some (FieldType.boolean)) ∈ GW := GW_in (tin_8 (k := 184) (by decide +kernel)) rfl
theorem gw_8_193 : Cond.methodLink RL 197 yX11_upper ∈ GW := GW_in (tin_8 (k := 193) (by decide +kernel)) rfl
theorem gw_8_194 : Cond.instanceMethod yX11_upper ∈ GW := GW_in (tin_8 (k := 194) (by decide +kernel)) rfl
theorem gw_8_195 : Cond.selects RX11 yX11_upper yX11_upper ∈ GW := GW_in (tin_8 (k := 195) (by decide +kernel)) rfl
theorem gw_8_196 : Cond.code yX11_upper cX11_upper 1 (some (FieldType.int)) ∈ GW := GW_in (tin_8 (k := 196) (by decide +kernel)) rfl
theorem gw_8_197 : Cond.methodLink RL 201 yX11_lower ∈ GW := GW_in (tin_8 (k := 197) (by decide +kernel)) rfl
theorem gw_8_198 : Cond.instanceMethod yX11_lower ∈ GW := GW_in (tin_8 (k := 198) (by decide +kernel)) rfl
theorem gw_8_199 : Cond.selects RX11 yX11_lower yX11_lower ∈ GW := GW_in (tin_8 (k := 199) (by decide +kernel)) rfl
theorem gw_8_200 : Cond.code yX11_lower cX11_lower 1 (some (FieldType.int)) ∈ GW := GW_in (tin_8 (k := 200) (by decide +kernel)) rfl
theorem gw_8_201 : Cond.methodLink RL 204 yX11_lie ∈ GW := GW_in (tin_8 (k := 201) (by decide +kernel)) rfl
theorem gw_8_202 : Cond.instanceMethod yX11_lie ∈ GW := GW_in (tin_8 (k := 202) (by decide +kernel)) rfl
theorem gw_8_203 : Cond.selects RX11 yX11_lie yX11_lie ∈ GW := GW_in (tin_8 (k := 203) (by decide +kernel)) rfl
theorem gw_8_204 : Cond.code yX11_lie cX11_lie 5 (some (FieldType.int)) ∈ GW := GW_in (tin_8 (k := 204) (by decide +kernel)) rfl
theorem gw_8_205 : Cond.methodLink RL 207 yX11_wronged ∈ GW := GW_in (tin_8 (k := 205) (by decide +kernel)) rfl
theorem gw_8_206 : Cond.instanceMethod yX11_wronged ∈ GW := GW_in (tin_8 (k := 206) (by decide +kernel)) rfl
theorem gw_8_207 : Cond.selects RX11 yX11_wronged yX11_wronged ∈ GW := GW_in (tin_8 (k := 207) (by decide +kernel)) rfl
theorem gw_8_208 : Cond.code yX11_wronged cX11_wronged 6 (some (FieldType.int)) ∈ GW := GW_in (tin_8 (k := 208) (by decide +kernel)) rfl
theorem gw_8_209 : Cond.methodLink RL 210 yX11_worse ∈ GW := GW_in (tin_8 (k := 209) (by decide +kernel)) rfl
theorem gw_8_210 : Cond.instanceMethod yX11_worse ∈ GW := GW_in (tin_8 (k := 210) (by decide +kernel)) rfl
theorem gw_8_211 : Cond.selects RX11 yX11_worse yX11_worse ∈ GW := GW_in (tin_8 (k := 211) (by decide +kernel)) rfl
theorem gw_8_212 : Cond.code yX11_worse cX11_worse 3 (some (FieldType.int)) ∈ GW := GW_in (tin_8 (k := 212) (by decide +kernel)) rfl
theorem gw_8_213 : Cond.methodLink RL 214 yX11_cascade ∈ GW := GW_in (tin_8 (k := 213) (by decide +kernel)) rfl
theorem gw_8_214 : Cond.instanceMethod yX11_cascade ∈ GW := GW_in (tin_8 (k := 214) (by decide +kernel)) rfl
theorem gw_8_215 : Cond.selects RX11 yX11_cascade yX11_cascade ∈ GW := GW_in (tin_8 (k := 215) (by decide +kernel)) rfl
theorem gw_8_216 : Cond.code yX11_cascade cX11_cascade 13 (some (FieldType.int)) ∈ GW := GW_in (tin_8 (k := 216) (by decide +kernel)) rfl
theorem gw_8_231 : Cond.methodLink RL 217 yX11_learn ∈ GW := GW_in (tin_8 (k := 231) (by decide +kernel)) rfl
theorem gw_8_232 : Cond.instanceMethod yX11_learn ∈ GW := GW_in (tin_8 (k := 232) (by decide +kernel)) rfl
theorem gw_8_233 : Cond.selects RX11 yX11_learn yX11_learn ∈ GW := GW_in (tin_8 (k := 233) (by decide +kernel)) rfl
theorem gw_8_234 : Cond.code yX11_learn cX11_learn 6 (some (FieldType.int)) ∈ GW := GW_in (tin_8 (k := 234) (by decide +kernel)) rfl
theorem gw_9_7 : Cond.methodLink RL 220 yX11_ask ∈ GW := GW_in (tin_9 (k := 7) (by decide +kernel)) rfl
theorem gw_9_8 : Cond.instanceMethod yX11_ask ∈ GW := GW_in (tin_9 (k := 8) (by decide +kernel)) rfl
theorem gw_9_9 : Cond.selects RX11 yX11_ask yX11_ask ∈ GW := GW_in (tin_9 (k := 9) (by decide +kernel)) rfl
theorem gw_9_10 : Cond.code yX11_ask cX11_ask 5 (some (FieldType.int)) ∈ GW := GW_in (tin_9 (k := 10) (by decide +kernel)) rfl
theorem gw_9_11 : Cond.methodLink RL 223 yX11_worst ∈ GW := GW_in (tin_9 (k := 11) (by decide +kernel)) rfl
theorem gw_9_12 : Cond.instanceMethod yX11_worst ∈ GW := GW_in (tin_9 (k := 12) (by decide +kernel)) rfl
theorem gw_9_13 : Cond.selects RX11 yX11_worst yX11_worst ∈ GW := GW_in (tin_9 (k := 13) (by decide +kernel)) rfl
theorem gw_9_14 : Cond.code yX11_worst cX11_worst 7 (some (FieldType.int)) ∈ GW := GW_in (tin_9 (k := 14) (by decide +kernel)) rfl
theorem gw_9_19 : Cond.methodLink RL 226 yX11_blame ∈ GW := GW_in (tin_9 (k := 19) (by decide +kernel)) rfl
theorem gw_9_20 : Cond.instanceMethod yX11_blame ∈ GW := GW_in (tin_9 (k := 20) (by decide +kernel)) rfl
theorem gw_9_21 : Cond.selects RX11 yX11_blame yX11_blame ∈ GW := GW_in (tin_9 (k := 21) (by decide +kernel)) rfl
theorem gw_9_22 : Cond.code yX11_blame cX11_blame 8 (some (FieldType.int)) ∈ GW := GW_in (tin_9 (k := 22) (by decide +kernel)) rfl
theorem gw_9_23 : Cond.methodLink RL 229 yX11_choose ∈ GW := GW_in (tin_9 (k := 23) (by decide +kernel)) rfl
theorem gw_9_24 : Cond.instanceMethod yX11_choose ∈ GW := GW_in (tin_9 (k := 24) (by decide +kernel)) rfl
theorem gw_9_25 : Cond.selects RX11 yX11_choose yX11_choose ∈ GW := GW_in (tin_9 (k := 25) (by decide +kernel)) rfl
theorem gw_9_26 : Cond.code yX11_choose cX11_choose 11 (some (FieldType.int)) ∈ GW := GW_in (tin_9 (k := 26) (by decide +kernel)) rfl
theorem gw_9_32 : Cond.methodLink RL 233 yX11_tray ∈ GW := GW_in (tin_9 (k := 32) (by decide +kernel)) rfl
theorem gw_9_33 : Cond.instanceMethod yX11_tray ∈ GW := GW_in (tin_9 (k := 33) (by decide +kernel)) rfl
theorem gw_9_34 : Cond.selects RX11 yX11_tray yX11_tray ∈ GW := GW_in (tin_9 (k := 34) (by decide +kernel)) rfl
theorem gw_9_35 : Cond.code yX11_tray cX11_tray 5 (none) ∈ GW := GW_in (tin_9 (k := 35) (by decide +kernel)) rfl
theorem gw_9_37 : Cond.methodLink RL 239 yX11_write ∈ GW := GW_in (tin_9 (k := 37) (by decide +kernel)) rfl
theorem gw_9_38 : Cond.instanceMethod yX11_write ∈ GW := GW_in (tin_9 (k := 38) (by decide +kernel)) rfl
theorem gw_9_39 : Cond.selects RX11 yX11_write yX11_write ∈ GW := GW_in (tin_9 (k := 39) (by decide +kernel)) rfl
theorem gw_9_40 : Cond.code yX11_write cX11_write 6 (some (FieldType.long)) ∈ GW := GW_in (tin_9 (k := 40) (by decide +kernel)) rfl
theorem gw_9_41 : Cond.methodLink RL 242 yX11_pour ∈ GW := GW_in (tin_9 (k := 41) (by decide +kernel)) rfl
theorem gw_9_42 : Cond.instanceMethod yX11_pour ∈ GW := GW_in (tin_9 (k := 42) (by decide +kernel)) rfl
theorem gw_9_43 : Cond.selects RX11 yX11_pour yX11_pour ∈ GW := GW_in (tin_9 (k := 43) (by decide +kernel)) rfl
theorem gw_9_44 : Cond.code yX11_pour cX11_pour 4 (some (FieldType.int)) ∈ GW := GW_in (tin_9 (k := 44) (by decide +kernel)) rfl
theorem gw_9_45 : Cond.methodLink RL 246 yX11_image ∈ GW := GW_in (tin_9 (k := 45) (by decide +kernel)) rfl
theorem gw_9_46 : Cond.instanceMethod yX11_image ∈ GW := GW_in (tin_9 (k := 46) (by decide +kernel)) rfl
theorem gw_9_47 : Cond.selects RX11 yX11_image yX11_image ∈ GW := GW_in (tin_9 (k := 47) (by decide +kernel)) rfl
theorem gw_9_48 : Cond.code yX11_image cX11_image 3 (none) ∈ GW := GW_in (tin_9 (k := 48) (by decide +kernel)) rfl
theorem gw_9_49 : Cond.methodLink RL 249 yX11_restore ∈ GW := GW_in (tin_9 (k := 49) (by decide +kernel)) rfl
theorem gw_9_50 : Cond.instanceMethod yX11_restore ∈ GW := GW_in (tin_9 (k := 50) (by decide +kernel)) rfl
theorem gw_9_51 : Cond.selects RX11 yX11_restore yX11_restore ∈ GW := GW_in (tin_9 (k := 51) (by decide +kernel)) rfl
theorem gw_9_52 : Cond.code yX11_restore cX11_restore 3 (none) ∈ GW := GW_in (tin_9 (k := 52) (by decide +kernel)) rfl
theorem gw_9_53 : Cond.methodLink RL 253 yX11_count ∈ GW := GW_in (tin_9 (k := 53) (by decide +kernel)) rfl
theorem gw_9_54 : Cond.instanceMethod yX11_count ∈ GW := GW_in (tin_9 (k := 54) (by decide +kernel)) rfl
theorem gw_9_55 : Cond.selects RX11 yX11_count yX11_count ∈ GW := GW_in (tin_9 (k := 55) (by decide +kernel)) rfl
theorem gw_9_56 : Cond.code yX11_count cX11_count 4 (some (FieldType.int)) ∈ GW := GW_in (tin_9 (k := 56) (by decide +kernel)) rfl
theorem gw_9_57 : Cond.constantLong RL 234 (4294967295) ∈ GW := GW_in (tin_9 (k := 57) (by decide +kernel)) rfl
theorem okM_L_ask : okM yL_ask 4 := ⟨by decide +kernel, by decide +kernel, by decide +kernel⟩
theorem okM_L_blame : okM yL_blame 4 := ⟨by decide +kernel, by decide +kernel, by decide +kernel⟩
theorem okM_L_cascade : okM yL_cascade 6 := ⟨by decide +kernel, by decide +kernel, by decide +kernel⟩
theorem okM_L_cell : okM yL_cell 4 := ⟨by decide +kernel, by decide +kernel, by decide +kernel⟩
theorem okM_L_choose : okM yL_choose 5 := ⟨by decide +kernel, by decide +kernel, by decide +kernel⟩
theorem okM_L_grow : okM yL_grow 3 := ⟨by decide +kernel, by decide +kernel, by decide +kernel⟩
theorem okM_L_guest : okM yL_guest 5 := ⟨by decide +kernel, by decide +kernel, by decide +kernel⟩
theorem okM_L_halve : okM yL_halve 3 := ⟨by decide +kernel, by decide +kernel, by decide +kernel⟩
theorem okM_L_image : okM yL_image 2 := ⟨by decide +kernel, by decide +kernel, by decide +kernel⟩
theorem okM_L_isPut : okM yL_isPut 4 := ⟨by decide +kernel, by decide +kernel, by decide +kernel⟩
theorem okM_L_join : okM yL_join 4 := ⟨by decide +kernel, by decide +kernel, by decide +kernel⟩
theorem okM_L_learn : okM yL_learn 5 := ⟨by decide +kernel, by decide +kernel, by decide +kernel⟩
theorem okM_L_lie : okM yL_lie 4 := ⟨by decide +kernel, by decide +kernel, by decide +kernel⟩
theorem okM_L_lying : okM yL_lying 3 := ⟨by decide +kernel, by decide +kernel, by decide +kernel⟩
theorem okM_L_make : okM yL_make 6 := ⟨by decide +kernel, by decide +kernel, by decide +kernel⟩
theorem okM_L_of : okM yL_of 4 := ⟨by decide +kernel, by decide +kernel, by decide +kernel⟩
theorem okM_L_place : okM yL_place 5 := ⟨by decide +kernel, by decide +kernel, by decide +kernel⟩
theorem okM_L_pour : okM yL_pour 4 := ⟨by decide +kernel, by decide +kernel, by decide +kernel⟩
theorem okM_L_put : okM yL_put 4 := ⟨by decide +kernel, by decide +kernel, by decide +kernel⟩
theorem okM_L_restore : okM yL_restore 2 := ⟨by decide +kernel, by decide +kernel, by decide +kernel⟩
theorem okM_L_rules : okM yL_rules 3 := ⟨by decide +kernel, by decide +kernel, by decide +kernel⟩
theorem okM_L_solve : okM yL_solve 4 := ⟨by decide +kernel, by decide +kernel, by decide +kernel⟩
theorem okM_L_tag : okM yL_tag 3 := ⟨by decide +kernel, by decide +kernel, by decide +kernel⟩
theorem okM_L_take : okM yL_take 4 := ⟨by decide +kernel, by decide +kernel, by decide +kernel⟩
theorem okM_L_tray : okM yL_tray 4 := ⟨by decide +kernel, by decide +kernel, by decide +kernel⟩
theorem okM_L_value : okM yL_value 5 := ⟨by decide +kernel, by decide +kernel, by decide +kernel⟩
theorem okM_L_worse : okM yL_worse 4 := ⟨by decide +kernel, by decide +kernel, by decide +kernel⟩
theorem okM_L_worst : okM yL_worst 4 := ⟨by decide +kernel, by decide +kernel, by decide +kernel⟩
theorem okM_L_write : okM yL_write 5 := ⟨by decide +kernel, by decide +kernel, by decide +kernel⟩
theorem okM_L_wronged : okM yL_wronged 5 := ⟨by decide +kernel, by decide +kernel, by decide +kernel⟩
theorem okM_L_yes : okM yL_yes 4 := ⟨by decide +kernel, by decide +kernel, by decide +kernel⟩
theorem okM_X10_count : okM yX10_count 1 := ⟨by decide +kernel, by decide +kernel, by decide +kernel⟩
theorem okM_X10_fault : okM yX10_fault 1 := ⟨by decide +kernel, by decide +kernel, by decide +kernel⟩
theorem okM_X10_feed : okM yX10_feed 5 := ⟨by decide +kernel, by decide +kernel, by decide +kernel⟩
theorem okM_X10_lower : okM yX10_lower 0 := ⟨by decide +kernel, by decide +kernel, by decide +kernel⟩
theorem okM_X10_upper : okM yX10_upper 0 := ⟨by decide +kernel, by decide +kernel, by decide +kernel⟩
theorem okM_X11_ask : okM yX11_ask 2 := ⟨by decide +kernel, by decide +kernel, by decide +kernel⟩
theorem okM_X11_blame : okM yX11_blame 2 := ⟨by decide +kernel, by decide +kernel, by decide +kernel⟩
theorem okM_X11_cascade : okM yX11_cascade 4 := ⟨by decide +kernel, by decide +kernel, by decide +kernel⟩
theorem okM_X11_cell : okM yX11_cell 2 := ⟨by decide +kernel, by decide +kernel, by decide +kernel⟩
theorem okM_X11_choose : okM yX11_choose 3 := ⟨by decide +kernel, by decide +kernel, by decide +kernel⟩
theorem okM_X11_count : okM yX11_count 1 := ⟨by decide +kernel, by decide +kernel, by decide +kernel⟩
theorem okM_X11_fault : okM yX11_fault 1 := ⟨by decide +kernel, by decide +kernel, by decide +kernel⟩
theorem okM_X11_feed : okM yX11_feed 5 := ⟨by decide +kernel, by decide +kernel, by decide +kernel⟩
theorem okM_X11_grow : okM yX11_grow 1 := ⟨by decide +kernel, by decide +kernel, by decide +kernel⟩
theorem okM_X11_guest : okM yX11_guest 3 := ⟨by decide +kernel, by decide +kernel, by decide +kernel⟩
theorem okM_X11_halve : okM yX11_halve 1 := ⟨by decide +kernel, by decide +kernel, by decide +kernel⟩
theorem okM_X11_image : okM yX11_image 1 := ⟨by decide +kernel, by decide +kernel, by decide +kernel⟩
theorem okM_X11_isPut : okM yX11_isPut 2 := ⟨by decide +kernel, by decide +kernel, by decide +kernel⟩
theorem okM_X11_join : okM yX11_join 2 := ⟨by decide +kernel, by decide +kernel, by decide +kernel⟩
theorem okM_X11_learn : okM yX11_learn 3 := ⟨by decide +kernel, by decide +kernel, by decide +kernel⟩
theorem okM_X11_lie : okM yX11_lie 2 := ⟨by decide +kernel, by decide +kernel, by decide +kernel⟩
theorem okM_X11_lower : okM yX11_lower 0 := ⟨by decide +kernel, by decide +kernel, by decide +kernel⟩
theorem okM_X11_lying : okM yX11_lying 1 := ⟨by decide +kernel, by decide +kernel, by decide +kernel⟩
theorem okM_X11_make : okM yX11_make 5 := ⟨by decide +kernel, by decide +kernel, by decide +kernel⟩
theorem okM_X11_of : okM yX11_of 2 := ⟨by decide +kernel, by decide +kernel, by decide +kernel⟩
theorem okM_X11_place : okM yX11_place 3 := ⟨by decide +kernel, by decide +kernel, by decide +kernel⟩
theorem okM_X11_pour : okM yX11_pour 2 := ⟨by decide +kernel, by decide +kernel, by decide +kernel⟩
theorem okM_X11_put : okM yX11_put 2 := ⟨by decide +kernel, by decide +kernel, by decide +kernel⟩
theorem okM_X11_restore : okM yX11_restore 1 := ⟨by decide +kernel, by decide +kernel, by decide +kernel⟩
theorem okM_X11_rules : okM yX11_rules 1 := ⟨by decide +kernel, by decide +kernel, by decide +kernel⟩
theorem okM_X11_solve : okM yX11_solve 2 := ⟨by decide +kernel, by decide +kernel, by decide +kernel⟩
theorem okM_X11_tag : okM yX11_tag 1 := ⟨by decide +kernel, by decide +kernel, by decide +kernel⟩
theorem okM_X11_take : okM yX11_take 2 := ⟨by decide +kernel, by decide +kernel, by decide +kernel⟩
theorem okM_X11_thrown : okM yX11_thrown 0 := ⟨by decide +kernel, by decide +kernel, by decide +kernel⟩
theorem okM_X11_tray : okM yX11_tray 3 := ⟨by decide +kernel, by decide +kernel, by decide +kernel⟩
theorem okM_X11_upper : okM yX11_upper 0 := ⟨by decide +kernel, by decide +kernel, by decide +kernel⟩
theorem okM_X11_value : okM yX11_value 3 := ⟨by decide +kernel, by decide +kernel, by decide +kernel⟩
theorem okM_X11_worse : okM yX11_worse 2 := ⟨by decide +kernel, by decide +kernel, by decide +kernel⟩
theorem okM_X11_worst : okM yX11_worst 2 := ⟨by decide +kernel, by decide +kernel, by decide +kernel⟩
theorem okM_X11_write : okM yX11_write 3 := ⟨by decide +kernel, by decide +kernel, by decide +kernel⟩
theorem okM_X11_wronged : okM yX11_wronged 3 := ⟨by decide +kernel, by decide +kernel, by decide +kernel⟩
theorem okM_X11_yes : okM yX11_yes 2 := ⟨by decide +kernel, by decide +kernel, by decide +kernel⟩
theorem cw_RL_124 : ∀ w ∈ wV RL 124 RX10 yX10_feed cX10_feed 6 (some (FieldType.int)), w ∈ GW := wV_of gw_2_200 gw_2_201 gw_2_202 gw_1_1 gw_2_203
theorem cw_RL_128 : ∀ w ∈ wV RL 128 RX11 yX11_feed cX11_feed 8 (some (FieldType.int)), w ∈ GW := wV_of gw_7_130 gw_7_131 gw_7_132 gw_1_12 gw_7_133
theorem cw_RL_134 : ∀ w ∈ wV RL 134 RX11 yX11_rules cX11_rules 3 (some (FieldType.int)), w ∈ GW := wV_of gw_7_134 gw_7_135 gw_7_136 gw_1_12 gw_7_137
theorem cw_RL_135 : ∀ w ∈ wV RL 135 RX11 yX11_thrown cX11_thrown 1 (some (FieldType.int)), w ∈ GW := wV_of gw_7_126 gw_7_127 gw_7_128 gw_1_12 gw_7_129
theorem cw_RL_139 : ∀ w ∈ wV RL 139 RX10 yX10_fault cX10_fault 2 (some (FieldType.int)), w ∈ GW := wV_of gw_2_208 gw_2_209 gw_2_210 gw_1_1 gw_2_211
theorem cw_RL_142 : ∀ w ∈ wV RL 142 RX11 yX11_fault cX11_fault 2 (some (FieldType.int)), w ∈ GW := wV_of gw_7_218 gw_7_219 gw_7_220 gw_1_12 gw_7_221
theorem cw_RL_146 : ∀ w ∈ wV RL 146 RX11 yX11_value cX11_value 4 (some (FieldType.int)), w ∈ GW := wV_of gw_7_222 gw_7_223 gw_7_224 gw_1_12 gw_7_225
theorem cw_RL_149 : ∀ w ∈ wV RL 149 RX11 yX11_place cX11_place 4 (some (FieldType.int)), w ∈ GW := wV_of gw_7_238 gw_7_239 gw_8_0 gw_1_12 gw_8_1
theorem cw_RL_152 : ∀ w ∈ wV RL 152 RX11 yX11_tag cX11_tag 2 (some (FieldType.int)), w ∈ GW := wV_of gw_8_9 gw_8_10 gw_8_11 gw_1_12 gw_8_12
theorem cw_RL_156 : ∀ w ∈ wV RL 156 RX11 yX11_make cX11_make 9 (none), w ∈ GW := wV_of gw_8_21 gw_8_22 gw_8_23 gw_1_12 gw_8_24
theorem cw_RL_160 : ∀ w ∈ wV RL 160 RX11 yX11_of cX11_of 3 (some (FieldType.int)), w ∈ GW := wV_of gw_8_37 gw_8_38 gw_8_39 gw_1_12 gw_8_40
theorem cw_RL_163 : ∀ w ∈ wV RL 163 RX11 yX11_cell cX11_cell 6 (some (FieldType.int)), w ∈ GW := wV_of gw_8_54 gw_8_55 gw_8_56 gw_1_12 gw_8_57
theorem cw_RL_166 : ∀ w ∈ wV RL 166 RX11 yX11_guest cX11_guest 4 (some (FieldType.int)), w ∈ GW := wV_of gw_8_70 gw_8_71 gw_8_72 gw_1_12 gw_8_73
theorem cw_RL_169 : ∀ w ∈ wV RL 169 RX11 yX11_yes cX11_yes 3 (some (FieldType.boolean)), w ∈ GW := wV_of gw_8_74 gw_8_75 gw_8_76 gw_1_12 gw_8_77
theorem cw_RL_172 : ∀ w ∈ wV RL 172 RX11 yX11_isPut cX11_isPut 3 (some (FieldType.boolean)), w ∈ GW := wV_of gw_8_98 gw_8_99 gw_8_100 gw_1_12 gw_8_101
theorem cw_RL_175 : ∀ w ∈ wV RL 175 RX11 yX11_put cX11_put 3 (some (FieldType.int)), w ∈ GW := wV_of gw_8_106 gw_8_107 gw_8_108 gw_1_12 gw_8_109
theorem cw_RL_178 : ∀ w ∈ wV RL 178 RX11 yX11_take cX11_take 5 (some (FieldType.boolean)), w ∈ GW := wV_of gw_8_134 gw_8_135 gw_8_136 gw_1_12 gw_8_137
theorem cw_RL_181 : ∀ w ∈ wV RL 181 RX11 yX11_join cX11_join 4 (some (FieldType.int)), w ∈ GW := wV_of gw_8_139 gw_8_140 gw_8_141 gw_1_12 gw_8_142
theorem cw_RL_184 : ∀ w ∈ wV RL 184 RX11 yX11_halve cX11_halve 4 (some (FieldType.int)), w ∈ GW := wV_of gw_8_150 gw_8_151 gw_8_152 gw_1_12 gw_8_153
theorem cw_RL_187 : ∀ w ∈ wV RL 187 RX11 yX11_grow cX11_grow 4 (some (FieldType.int)), w ∈ GW := wV_of gw_8_154 gw_8_155 gw_8_156 gw_1_12 gw_8_157
theorem cw_RL_190 : ∀ w ∈ wV RL 190 RX11 yX11_solve cX11_solve 6 (some (FieldType.int)), w ∈ GW := wV_of gw_8_158 gw_8_159 gw_8_160 gw_1_12 gw_8_161
theorem cw_RL_193 : ∀ w ∈ wV RL 193 RX11 yX11_lying cX11_lying 5 (some (FieldType.boolean)), w ∈ GW := wV_of gw_8_181 gw_8_182 gw_8_183 gw_1_12 gw_8_184
theorem cw_RL_194 : ∀ w ∈ wV RL 194 RX10 yX10_upper cX10_upper 1 (some (FieldType.int)), w ∈ GW := wV_of gw_2_212 gw_2_213 gw_2_214 gw_1_1 gw_2_215
theorem cw_RL_197 : ∀ w ∈ wV RL 197 RX11 yX11_upper cX11_upper 1 (some (FieldType.int)), w ∈ GW := wV_of gw_8_193 gw_8_194 gw_8_195 gw_1_12 gw_8_196
theorem cw_RL_198 : ∀ w ∈ wV RL 198 RX10 yX10_lower cX10_lower 1 (some (FieldType.int)), w ∈ GW := wV_of gw_2_216 gw_2_217 gw_2_218 gw_1_1 gw_2_219
theorem cw_RL_201 : ∀ w ∈ wV RL 201 RX11 yX11_lower cX11_lower 1 (some (FieldType.int)), w ∈ GW := wV_of gw_8_197 gw_8_198 gw_8_199 gw_1_12 gw_8_200
theorem cw_RL_204 : ∀ w ∈ wV RL 204 RX11 yX11_lie cX11_lie 5 (some (FieldType.int)), w ∈ GW := wV_of gw_8_201 gw_8_202 gw_8_203 gw_1_12 gw_8_204
theorem cw_RL_207 : ∀ w ∈ wV RL 207 RX11 yX11_wronged cX11_wronged 6 (some (FieldType.int)), w ∈ GW := wV_of gw_8_205 gw_8_206 gw_8_207 gw_1_12 gw_8_208
theorem cw_RL_210 : ∀ w ∈ wV RL 210 RX11 yX11_worse cX11_worse 3 (some (FieldType.int)), w ∈ GW := wV_of gw_8_209 gw_8_210 gw_8_211 gw_1_12 gw_8_212
theorem cw_RL_214 : ∀ w ∈ wV RL 214 RX11 yX11_cascade cX11_cascade 13 (some (FieldType.int)), w ∈ GW := wV_of gw_8_213 gw_8_214 gw_8_215 gw_1_12 gw_8_216
theorem cw_RL_217 : ∀ w ∈ wV RL 217 RX11 yX11_learn cX11_learn 6 (some (FieldType.int)), w ∈ GW := wV_of gw_8_231 gw_8_232 gw_8_233 gw_1_12 gw_8_234
theorem cw_RL_220 : ∀ w ∈ wV RL 220 RX11 yX11_ask cX11_ask 5 (some (FieldType.int)), w ∈ GW := wV_of gw_9_7 gw_9_8 gw_9_9 gw_1_12 gw_9_10
theorem cw_RL_223 : ∀ w ∈ wV RL 223 RX11 yX11_worst cX11_worst 7 (some (FieldType.int)), w ∈ GW := wV_of gw_9_11 gw_9_12 gw_9_13 gw_1_12 gw_9_14
theorem cw_RL_226 : ∀ w ∈ wV RL 226 RX11 yX11_blame cX11_blame 8 (some (FieldType.int)), w ∈ GW := wV_of gw_9_19 gw_9_20 gw_9_21 gw_1_12 gw_9_22
theorem cw_RL_229 : ∀ w ∈ wV RL 229 RX11 yX11_choose cX11_choose 11 (some (FieldType.int)), w ∈ GW := wV_of gw_9_23 gw_9_24 gw_9_25 gw_1_12 gw_9_26
theorem cw_RL_233 : ∀ w ∈ wV RL 233 RX11 yX11_tray cX11_tray 5 (none), w ∈ GW := wV_of gw_9_32 gw_9_33 gw_9_34 gw_1_12 gw_9_35
theorem cw_RL_239 : ∀ w ∈ wV RL 239 RX11 yX11_write cX11_write 6 (some (FieldType.long)), w ∈ GW := wV_of gw_9_37 gw_9_38 gw_9_39 gw_1_12 gw_9_40
theorem cw_RL_242 : ∀ w ∈ wV RL 242 RX11 yX11_pour cX11_pour 4 (some (FieldType.int)), w ∈ GW := wV_of gw_9_41 gw_9_42 gw_9_43 gw_1_12 gw_9_44
theorem cw_RL_246 : ∀ w ∈ wV RL 246 RX11 yX11_image cX11_image 3 (none), w ∈ GW := wV_of gw_9_45 gw_9_46 gw_9_47 gw_1_12 gw_9_48
theorem cw_RL_249 : ∀ w ∈ wV RL 249 RX11 yX11_restore cX11_restore 3 (none), w ∈ GW := wV_of gw_9_49 gw_9_50 gw_9_51 gw_1_12 gw_9_52
theorem cw_RL_250 : ∀ w ∈ wV RL 250 RX10 yX10_count cX10_count 2 (some (FieldType.int)), w ∈ GW := wV_of gw_2_220 gw_2_221 gw_2_222 gw_1_1 gw_2_223
theorem cw_RL_253 : ∀ w ∈ wV RL 253 RX11 yX11_count cX11_count 4 (some (FieldType.int)), w ∈ GW := wV_of gw_9_53 gw_9_54 gw_9_55 gw_1_12 gw_9_56
theorem cw_RL_129 : ∀ w ∈ wSH RL 129 yL_rules cL_rules 4 (some (FieldType.int)) [(0, 9, 12, 13)], w ∈ GW := List.forall_mem_cons.mpr ⟨gw_2_228, List.forall_mem_cons.mpr ⟨gw_2_229, List.forall_mem_cons.mpr ⟨gw_1_0, List.forall_mem_cons.mpr ⟨gw_2_230, fun w h => nomatch h⟩⟩⟩⟩
theorem cw_RL_143 : ∀ w ∈ wSH RL 143 yL_value cL_value 6 (some (FieldType.int)) [(0, 12, 15, 19), (0, 12, 19, 13)], w ∈ GW := List.forall_mem_cons.mpr ⟨gw_4_44, List.forall_mem_cons.mpr ⟨gw_4_45, List.forall_mem_cons.mpr ⟨gw_1_0, List.forall_mem_cons.mpr ⟨gw_4_46, fun w h => nomatch h⟩⟩⟩⟩
theorem cw_RL_147 : ∀ w ∈ wSH RL 147 yL_place cL_place 6 (some (FieldType.int)) [(0, 12, 15, 19), (0, 12, 19, 13)], w ∈ GW := List.forall_mem_cons.mpr ⟨gw_4_77, List.forall_mem_cons.mpr ⟨gw_4_78, List.forall_mem_cons.mpr ⟨gw_1_0, List.forall_mem_cons.mpr ⟨gw_4_79, fun w h => nomatch h⟩⟩⟩⟩
theorem cw_RL_150 : ∀ w ∈ wSH RL 150 yL_tag cL_tag 4 (some (FieldType.int)) [(0, 9, 12, 13)], w ∈ GW := List.forall_mem_cons.mpr ⟨gw_4_88, List.forall_mem_cons.mpr ⟨gw_4_89, List.forall_mem_cons.mpr ⟨gw_1_0, List.forall_mem_cons.mpr ⟨gw_4_90, fun w h => nomatch h⟩⟩⟩⟩
theorem cw_RL_153 : ∀ w ∈ wSH RL 153 yL_make cL_make 7 (some (FieldType.int)) [(0, 11, 14, 19), (0, 11, 18, 13)], w ∈ GW := List.forall_mem_cons.mpr ⟨gw_4_108, List.forall_mem_cons.mpr ⟨gw_4_109, List.forall_mem_cons.mpr ⟨gw_1_0, List.forall_mem_cons.mpr ⟨gw_4_110, fun w h => nomatch h⟩⟩⟩⟩
theorem cw_RL_157 : ∀ w ∈ wSH RL 157 yL_of cL_of 5 (some (FieldType.int)) [(0, 10, 13, 19), (0, 10, 17, 13)], w ∈ GW := List.forall_mem_cons.mpr ⟨gw_4_142, List.forall_mem_cons.mpr ⟨gw_4_143, List.forall_mem_cons.mpr ⟨gw_1_0, List.forall_mem_cons.mpr ⟨gw_4_144, fun w h => nomatch h⟩⟩⟩⟩
theorem cw_RL_161 : ∀ w ∈ wSH RL 161 yL_cell cL_cell 5 (some (FieldType.int)) [(0, 10, 13, 19), (0, 10, 17, 38)], w ∈ GW := List.forall_mem_cons.mpr ⟨gw_4_165, List.forall_mem_cons.mpr ⟨gw_4_166, List.forall_mem_cons.mpr ⟨gw_1_0, List.forall_mem_cons.mpr ⟨gw_4_167, fun w h => nomatch h⟩⟩⟩⟩
theorem cw_RL_164 : ∀ w ∈ wSH RL 164 yL_guest cL_guest 6 (some (FieldType.int)) [(0, 12, 15, 19), (0, 12, 19, 43), (0, 12, 23, 38)], w ∈ GW := List.forall_mem_cons.mpr ⟨gw_4_210, List.forall_mem_cons.mpr ⟨gw_4_211, List.forall_mem_cons.mpr ⟨gw_1_0, List.forall_mem_cons.mpr ⟨gw_4_212, fun w h => nomatch h⟩⟩⟩⟩
theorem cw_RL_167 : ∀ w ∈ wSH RL 167 yL_yes cL_yes 5 (some (FieldType.int)) [(0, 17, 20, 19), (0, 17, 24, 13)], w ∈ GW := List.forall_mem_cons.mpr ⟨gw_4_239, List.forall_mem_cons.mpr ⟨gw_5_0, List.forall_mem_cons.mpr ⟨gw_1_0, List.forall_mem_cons.mpr ⟨gw_5_1, fun w h => nomatch h⟩⟩⟩⟩
theorem cw_RL_170 : ∀ w ∈ wSH RL 170 yL_isPut cL_isPut 5 (some (FieldType.int)) [(0, 17, 20, 19), (0, 17, 24, 13)], w ∈ GW := List.forall_mem_cons.mpr ⟨gw_5_28, List.forall_mem_cons.mpr ⟨gw_5_29, List.forall_mem_cons.mpr ⟨gw_1_0, List.forall_mem_cons.mpr ⟨gw_5_30, fun w h => nomatch h⟩⟩⟩⟩
theorem cw_RL_173 : ∀ w ∈ wSH RL 173 yL_put cL_put 5 (some (FieldType.int)) [(0, 10, 13, 19), (0, 10, 17, 43), (0, 10, 21, 13)], w ∈ GW := List.forall_mem_cons.mpr ⟨gw_5_39, List.forall_mem_cons.mpr ⟨gw_5_40, List.forall_mem_cons.mpr ⟨gw_1_0, List.forall_mem_cons.mpr ⟨gw_5_41, fun w h => nomatch h⟩⟩⟩⟩
theorem cw_RL_176 : ∀ w ∈ wSH RL 176 yL_take cL_take 5 (some (FieldType.int)) [(0, 17, 20, 19), (0, 17, 24, 43), (0, 17, 28, 13)], w ∈ GW := List.forall_mem_cons.mpr ⟨gw_5_104, List.forall_mem_cons.mpr ⟨gw_5_105, List.forall_mem_cons.mpr ⟨gw_1_0, List.forall_mem_cons.mpr ⟨gw_5_106, fun w h => nomatch h⟩⟩⟩⟩
theorem cw_RL_179 : ∀ w ∈ wSH RL 179 yL_join cL_join 5 (some (FieldType.int)) [(0, 10, 13, 19), (0, 10, 17, 43), (0, 10, 21, 13)], w ∈ GW := List.forall_mem_cons.mpr ⟨gw_5_125, List.forall_mem_cons.mpr ⟨gw_5_126, List.forall_mem_cons.mpr ⟨gw_1_0, List.forall_mem_cons.mpr ⟨gw_5_127, fun w h => nomatch h⟩⟩⟩⟩
theorem cw_RL_182 : ∀ w ∈ wSH RL 182 yL_halve cL_halve 4 (some (FieldType.int)) [(0, 9, 12, 19), (0, 9, 15, 43)], w ∈ GW := List.forall_mem_cons.mpr ⟨gw_5_146, List.forall_mem_cons.mpr ⟨gw_5_147, List.forall_mem_cons.mpr ⟨gw_1_0, List.forall_mem_cons.mpr ⟨gw_5_148, fun w h => nomatch h⟩⟩⟩⟩
theorem cw_RL_185 : ∀ w ∈ wSH RL 185 yL_grow cL_grow 4 (some (FieldType.int)) [(0, 9, 12, 19), (0, 9, 15, 43)], w ∈ GW := List.forall_mem_cons.mpr ⟨gw_5_158, List.forall_mem_cons.mpr ⟨gw_5_159, List.forall_mem_cons.mpr ⟨gw_1_0, List.forall_mem_cons.mpr ⟨gw_5_160, fun w h => nomatch h⟩⟩⟩⟩
theorem cw_RL_188 : ∀ w ∈ wSH RL 188 yL_solve cL_solve 5 (some (FieldType.int)) [(0, 10, 13, 19), (0, 10, 17, 43), (0, 10, 21, 13)], w ∈ GW := List.forall_mem_cons.mpr ⟨gw_5_175, List.forall_mem_cons.mpr ⟨gw_5_176, List.forall_mem_cons.mpr ⟨gw_1_0, List.forall_mem_cons.mpr ⟨gw_5_177, fun w h => nomatch h⟩⟩⟩⟩
theorem cw_RL_191 : ∀ w ∈ wSH RL 191 yL_lying cL_lying 4 (some (FieldType.int)) [(0, 16, 19, 19)], w ∈ GW := List.forall_mem_cons.mpr ⟨gw_5_233, List.forall_mem_cons.mpr ⟨gw_5_234, List.forall_mem_cons.mpr ⟨gw_1_0, List.forall_mem_cons.mpr ⟨gw_5_235, fun w h => nomatch h⟩⟩⟩⟩
theorem cw_RL_202 : ∀ w ∈ wSH RL 202 yL_lie cL_lie 5 (some (FieldType.int)) [(0, 10, 13, 19)], w ∈ GW := List.forall_mem_cons.mpr ⟨gw_6_7, List.forall_mem_cons.mpr ⟨gw_6_8, List.forall_mem_cons.mpr ⟨gw_1_0, List.forall_mem_cons.mpr ⟨gw_6_9, fun w h => nomatch h⟩⟩⟩⟩
theorem cw_RL_205 : ∀ w ∈ wSH RL 205 yL_wronged cL_wronged 6 (some (FieldType.int)) [(0, 12, 15, 19), (0, 12, 19, 43)], w ∈ GW := List.forall_mem_cons.mpr ⟨gw_6_18, List.forall_mem_cons.mpr ⟨gw_6_19, List.forall_mem_cons.mpr ⟨gw_1_0, List.forall_mem_cons.mpr ⟨gw_6_20, fun w h => nomatch h⟩⟩⟩⟩
theorem cw_RL_208 : ∀ w ∈ wSH RL 208 yL_worse cL_worse 5 (some (FieldType.int)) [(0, 10, 13, 19)], w ∈ GW := List.forall_mem_cons.mpr ⟨gw_6_25, List.forall_mem_cons.mpr ⟨gw_6_26, List.forall_mem_cons.mpr ⟨gw_1_0, List.forall_mem_cons.mpr ⟨gw_6_27, fun w h => nomatch h⟩⟩⟩⟩
theorem cw_RL_211 : ∀ w ∈ wSH RL 211 yL_cascade cL_cascade 7 (some (FieldType.int)) [(0, 14, 17, 19), (0, 14, 21, 43), (0, 14, 25, 13)], w ∈ GW := List.forall_mem_cons.mpr ⟨gw_6_32, List.forall_mem_cons.mpr ⟨gw_6_33, List.forall_mem_cons.mpr ⟨gw_1_0, List.forall_mem_cons.mpr ⟨gw_6_34, fun w h => nomatch h⟩⟩⟩⟩
theorem cw_RL_215 : ∀ w ∈ wSH RL 215 yL_learn cL_learn 6 (some (FieldType.int)) [(0, 12, 15, 19), (0, 12, 19, 43), (0, 12, 23, 13)], w ∈ GW := List.forall_mem_cons.mpr ⟨gw_6_75, List.forall_mem_cons.mpr ⟨gw_6_76, List.forall_mem_cons.mpr ⟨gw_1_0, List.forall_mem_cons.mpr ⟨gw_6_77, fun w h => nomatch h⟩⟩⟩⟩
theorem cw_RL_218 : ∀ w ∈ wSH RL 218 yL_ask cL_ask 5 (some (FieldType.int)) [(0, 10, 13, 19), (0, 10, 17, 43), (0, 10, 21, 13)], w ∈ GW := List.forall_mem_cons.mpr ⟨gw_6_110, List.forall_mem_cons.mpr ⟨gw_6_111, List.forall_mem_cons.mpr ⟨gw_1_0, List.forall_mem_cons.mpr ⟨gw_6_112, fun w h => nomatch h⟩⟩⟩⟩
theorem cw_RL_221 : ∀ w ∈ wSH RL 221 yL_worst cL_worst 5 (some (FieldType.int)) [(0, 10, 13, 19), (0, 10, 17, 43), (0, 10, 21, 13)], w ∈ GW := List.forall_mem_cons.mpr ⟨gw_6_121, List.forall_mem_cons.mpr ⟨gw_6_122, List.forall_mem_cons.mpr ⟨gw_1_0, List.forall_mem_cons.mpr ⟨gw_6_123, fun w h => nomatch h⟩⟩⟩⟩
theorem cw_RL_224 : ∀ w ∈ wSH RL 224 yL_blame cL_blame 5 (some (FieldType.int)) [(0, 10, 13, 19), (0, 10, 17, 43), (0, 10, 21, 13)], w ∈ GW := List.forall_mem_cons.mpr ⟨gw_6_136, List.forall_mem_cons.mpr ⟨gw_6_137, List.forall_mem_cons.mpr ⟨gw_1_0, List.forall_mem_cons.mpr ⟨gw_6_138, fun w h => nomatch h⟩⟩⟩⟩
theorem cw_RL_227 : ∀ w ∈ wSH RL 227 yL_choose cL_choose 6 (some (FieldType.int)) [(0, 12, 15, 19), (0, 12, 19, 13)], w ∈ GW := List.forall_mem_cons.mpr ⟨gw_6_156, List.forall_mem_cons.mpr ⟨gw_6_157, List.forall_mem_cons.mpr ⟨gw_1_0, List.forall_mem_cons.mpr ⟨gw_6_158, fun w h => nomatch h⟩⟩⟩⟩
theorem cw_RL_230 : ∀ w ∈ wSH RL 230 yL_tray cL_tray 5 (some (FieldType.int)) [(0, 7, 10, 19), (0, 7, 14, 13)], w ∈ GW := List.forall_mem_cons.mpr ⟨gw_6_174, List.forall_mem_cons.mpr ⟨gw_6_175, List.forall_mem_cons.mpr ⟨gw_1_0, List.forall_mem_cons.mpr ⟨gw_6_176, fun w h => nomatch h⟩⟩⟩⟩
theorem cw_RL_236 : ∀ w ∈ wSH RL 236 yL_write cL_write 7 (some (FieldType.int)) [(0, 11, 14, 19), (0, 11, 18, 43), (0, 11, 22, 38)], w ∈ GW := List.forall_mem_cons.mpr ⟨gw_6_187, List.forall_mem_cons.mpr ⟨gw_6_188, List.forall_mem_cons.mpr ⟨gw_1_0, List.forall_mem_cons.mpr ⟨gw_6_189, fun w h => nomatch h⟩⟩⟩⟩
theorem cw_RL_240 : ∀ w ∈ wSH RL 240 yL_pour cL_pour 5 (some (FieldType.int)) [(0, 10, 13, 19), (0, 10, 17, 43)], w ∈ GW := List.forall_mem_cons.mpr ⟨gw_6_203, List.forall_mem_cons.mpr ⟨gw_6_204, List.forall_mem_cons.mpr ⟨gw_1_0, List.forall_mem_cons.mpr ⟨gw_6_205, fun w h => nomatch h⟩⟩⟩⟩
theorem cw_RL_243 : ∀ w ∈ wSH RL 243 yL_image cL_image 3 (some (FieldType.int)) [(0, 5, 8, 19)], w ∈ GW := List.forall_mem_cons.mpr ⟨gw_6_210, List.forall_mem_cons.mpr ⟨gw_6_211, List.forall_mem_cons.mpr ⟨gw_1_0, List.forall_mem_cons.mpr ⟨gw_6_212, fun w h => nomatch h⟩⟩⟩⟩
theorem cw_RL_247 : ∀ w ∈ wSH RL 247 yL_restore cL_restore 3 (some (FieldType.int)) [(0, 5, 8, 19), (0, 5, 11, 43)], w ∈ GW := List.forall_mem_cons.mpr ⟨gw_6_233, List.forall_mem_cons.mpr ⟨gw_6_234, List.forall_mem_cons.mpr ⟨gw_1_0, List.forall_mem_cons.mpr ⟨gw_6_235, fun w h => nomatch h⟩⟩⟩⟩
def fLc0 {β : Type} (N : Nat) (a1 : Int32) (a2 : Int32) (a3 : Int32) (a4 : Int32) (a5 : Int32) (M : Mem) (k : Mem → Option β) : Option β :=
  (fX10_feed N 0 a1 a2 a3 a4 a5 M).bind fun qj1 => (fX11_feed N 140 a1 a2 a3 a4 a5 qj1.2).bind fun qj2 => if qj1.1 = qj2.1 then k qj2.2 else none
def fLc1 {β : Type} (N : Nat) (a1 : Int32) (M : Mem) (k : Mem → Option β) : Option β :=
  (fL_rules N 0 a1 165 M).bind fun qj1 => (fX11_rules N 140 a1 qj1.2).bind fun qj2 => (fX11_thrown 140 qj2.2).bind fun qj3 => if qj3 = qj1.1 then if qj1.1 = 0 then if inB (0 : Int32) 1 = true then if (rJ qj2.2 165 (0 : Int32).toNatClampNeg) = qj2.1.toInt64 then k qj2.2 else none else none else k qj2.2 else none
def fLc2 {β : Type} (N : Nat) (a1 : Int32) (M : Mem) (k : Mem → Option β) : Option β :=
  (fX10_fault 0 a1 M).bind fun qj1 => (fX11_fault 140 a1 M).bind fun qj2 => if qj1 = qj2.1 then k qj2.2 else none
def fLc3 {β : Type} (N : Nat) (a1 : Int32) (a2 : Int32) (a3 : Int32) (M : Mem) (k : Mem → Option β) : Option β :=
  (fL_value N 0 a1 a2 a3 165 M).bind fun qj1 => (fX11_value N 140 a1 a2 a3 qj1.2).bind fun qj2 => (fX11_thrown 140 qj2.2).bind fun qj3 => if qj3 = qj1.1 then if qj1.1 = 0 then if inB (0 : Int32) 1 = true then if (rJ qj2.2 165 (0 : Int32).toNatClampNeg) = qj2.1.toInt64 then k qj2.2 else none else none else k qj2.2 else none
def fLc4 {β : Type} (N : Nat) (a1 : Int32) (a2 : Int32) (a3 : Int32) (M : Mem) (k : Mem → Option β) : Option β :=
  (fL_place N 0 a1 a2 a3 165 M).bind fun qj1 => (fX11_place N 140 a1 a2 a3 qj1.2).bind fun qj2 => (fX11_thrown 140 qj2.2).bind fun qj3 => if qj3 = qj1.1 then if qj1.1 = 0 then if inB (0 : Int32) 1 = true then if (rJ qj2.2 165 (0 : Int32).toNatClampNeg) = qj2.1.toInt64 then k qj2.2 else none else none else k qj2.2 else none
def fLc5 {β : Type} (N : Nat) (a1 : Int32) (M : Mem) (k : Mem → Option β) : Option β :=
  (fL_tag 0 a1 165 M).bind fun qj1 => (fX11_tag N 140 a1 qj1.2).bind fun qj2 => (fX11_thrown 140 qj2.2).bind fun qj3 => if qj3 = qj1.1 then if qj1.1 = 0 then if inB (0 : Int32) 1 = true then if (rJ qj2.2 165 (0 : Int32).toNatClampNeg) = qj2.1.toInt64 then k qj2.2 else none else none else k qj2.2 else none
def fLc6 {β : Type} (N : Nat) (a1 : Int32) (a2 : Int32) (a3 : Int32) (a4 : Int32) (a5 : Int32) (M : Mem) (k : Mem → Option β) : Option β :=
  (fL_make N 0 a1 a2 a3 a4 a5 M).bind fun qj1 => (fX11_make N 140 a1 a2 a3 a4 a5 qj1.2).bind fun qj2 => (fX11_thrown 140 qj2).bind fun qj3 => if qj3 = qj1.1 then k qj2 else none
def fLc7 {β : Type} (N : Nat) (a1 : Int32) (a2 : Int32) (M : Mem) (k : Mem → Option β) : Option β :=
  (fL_of N 0 a1 a2 165 M).bind fun qj1 => (fX11_of N 140 a1 a2 qj1.2).bind fun qj2 => (fX11_thrown 140 qj2.2).bind fun qj3 => if qj3 = qj1.1 then if qj1.1 = 0 then if inB (0 : Int32) 1 = true then if (rJ qj2.2 165 (0 : Int32).toNatClampNeg) = qj2.1.toInt64 then k qj2.2 else none else none else k qj2.2 else none
def fLc8 {β : Type} (N : Nat) (a1 : Int32) (a2 : Int32) (M : Mem) (k : Mem → Option β) : Option β :=
  (fL_cell N 0 a1 a2 165 M).bind fun qj1 => (fX11_cell N 140 a1 a2 qj1.2).bind fun qj2 => (fX11_thrown 140 qj2.2).bind fun qj3 => if qj3 = qj1.1 then if qj1.1 = 0 then if inB (0 : Int32) 1 = true then if (rJ qj2.2 165 (0 : Int32).toNatClampNeg) = qj2.1.toInt64 then k qj2.2 else none else none else k qj2.2 else none
def fLc9 {β : Type} (N : Nat) (a1 : Int32) (a2 : Int32) (a3 : Int32) (M : Mem) (k : Mem → Option β) : Option β :=
  (fL_guest 0 a1 a2 a3 165 M).bind fun qj1 => (fX11_guest 140 a1 a2 a3 qj1.2).bind fun qj2 => (fX11_thrown 140 qj2.2).bind fun qj3 => if qj3 = qj1.1 then if qj1.1 = 0 then if inB (0 : Int32) 1 = true then if (rJ qj2.2 165 (0 : Int32).toNatClampNeg) = qj2.1.toInt64 then k qj2.2 else none else none else k qj2.2 else none
def fLc10 {β : Type} (N : Nat) (a1 : Int32) (a2 : Int32) (M : Mem) (k : Mem → Option β) : Option β :=
  (fL_yes N 0 a1 a2 165 M).bind fun qj1 => (fX11_yes N 140 a1 a2 qj1.2).bind fun qj2 => (fX11_thrown 140 qj2.2).bind fun qj3 => if qj3 = qj1.1 then if qj1.1 = 0 then if inB (0 : Int32) 1 = true then if qj2.1 = true then if (rJ qj2.2 165 (0 : Int32).toNatClampNeg) = (1 : Int64) then k qj2.2 else none else if (rJ qj2.2 165 (0 : Int32).toNatClampNeg) = (0 : Int64) then k qj2.2 else none else none else k qj2.2 else none
def fLc11 {β : Type} (N : Nat) (a1 : Int32) (a2 : Int32) (M : Mem) (k : Mem → Option β) : Option β :=
  (fL_isPut 0 a1 a2 165 M).bind fun qj1 => (fX11_isPut 140 a1 a2 qj1.2).bind fun qj2 => (fX11_thrown 140 qj2.2).bind fun qj3 => if qj3 = qj1.1 then if qj1.1 = 0 then if inB (0 : Int32) 1 = true then if qj2.1 = true then if (rJ qj2.2 165 (0 : Int32).toNatClampNeg) = (1 : Int64) then k qj2.2 else none else if (rJ qj2.2 165 (0 : Int32).toNatClampNeg) = (0 : Int64) then k qj2.2 else none else none else k qj2.2 else none
def fLc12 {β : Type} (N : Nat) (a1 : Int32) (a2 : Int32) (M : Mem) (k : Mem → Option β) : Option β :=
  (fL_put N 0 a1 a2 165 M).bind fun qj1 => (fX11_put N 140 a1 a2 qj1.2).bind fun qj2 => (fX11_thrown 140 qj2.2).bind fun qj3 => if qj3 = qj1.1 then if qj1.1 = 0 then if inB (0 : Int32) 1 = true then if (rJ qj2.2 165 (0 : Int32).toNatClampNeg) = qj2.1.toInt64 then k qj2.2 else none else none else k qj2.2 else none
def fLc13 {β : Type} (N : Nat) (a1 : Int32) (a2 : Int32) (M : Mem) (k : Mem → Option β) : Option β :=
  (fL_take N 0 a1 a2 165 M).bind fun qj1 => (fX11_take N 140 a1 a2 qj1.2).bind fun qj2 => (fX11_thrown 140 qj2.2).bind fun qj3 => if qj3 = qj1.1 then if qj1.1 = 0 then if inB (0 : Int32) 1 = true then if qj2.1 = true then if (rJ qj2.2 165 (0 : Int32).toNatClampNeg) = (1 : Int64) then k qj2.2 else none else if (rJ qj2.2 165 (0 : Int32).toNatClampNeg) = (0 : Int64) then k qj2.2 else none else none else k qj2.2 else none
def fLc14 {β : Type} (N : Nat) (a1 : Int32) (a2 : Int32) (M : Mem) (k : Mem → Option β) : Option β :=
  (fL_join N 0 a1 a2 165 M).bind fun qj1 => (fX11_join N 140 a1 a2 qj1.2).bind fun qj2 => (fX11_thrown 140 qj2.2).bind fun qj3 => if qj3 = qj1.1 then if qj1.1 = 0 then if inB (0 : Int32) 1 = true then if (rJ qj2.2 165 (0 : Int32).toNatClampNeg) = qj2.1.toInt64 then k qj2.2 else none else none else k qj2.2 else none
def fLc15 {β : Type} (N : Nat) (a1 : Int32) (M : Mem) (k : Mem → Option β) : Option β :=
  (fL_halve N 0 a1 165 M).bind fun qj1 => (fX11_halve N 140 a1 qj1.2).bind fun qj2 => (fX11_thrown 140 qj2.2).bind fun qj3 => if qj3 = qj1.1 then if qj1.1 = 0 then if inB (0 : Int32) 1 = true then if (rJ qj2.2 165 (0 : Int32).toNatClampNeg) = qj2.1.toInt64 then k qj2.2 else none else none else k qj2.2 else none
def fLc16 {β : Type} (N : Nat) (a1 : Int32) (M : Mem) (k : Mem → Option β) : Option β :=
  (fL_grow N 0 a1 165 M).bind fun qj1 => (fX11_grow N 140 a1 qj1.2).bind fun qj2 => (fX11_thrown 140 qj2.2).bind fun qj3 => if qj3 = qj1.1 then if qj1.1 = 0 then if inB (0 : Int32) 1 = true then if (rJ qj2.2 165 (0 : Int32).toNatClampNeg) = qj2.1.toInt64 then k qj2.2 else none else none else k qj2.2 else none
def fLc17 {β : Type} (N : Nat) (a1 : Int32) (a2 : Int32) (M : Mem) (k : Mem → Option β) : Option β :=
  (fL_solve N 0 a1 a2 165 M).bind fun qj1 => (fX11_solve N 140 a1 a2 qj1.2).bind fun qj2 => (fX11_thrown 140 qj2.2).bind fun qj3 => if qj3 = qj1.1 then if qj1.1 = 0 then if inB (0 : Int32) 1 = true then if (rJ qj2.2 165 (0 : Int32).toNatClampNeg) = qj2.1.toInt64 then k qj2.2 else none else none else k qj2.2 else none
def fLc18 {β : Type} (N : Nat) (a1 : Int32) (M : Mem) (k : Mem → Option β) : Option β :=
  (fL_lying N 0 a1 165 M).bind fun qj1 => (fX11_lying N 140 a1 qj1.2).bind fun qj2 => (fX11_thrown 140 qj2.2).bind fun qj3 => if qj3 = qj1.1 then if qj1.1 = 0 then if inB (0 : Int32) 1 = true then if qj2.1 = true then if (rJ qj2.2 165 (0 : Int32).toNatClampNeg) = (1 : Int64) then k qj2.2 else none else if (rJ qj2.2 165 (0 : Int32).toNatClampNeg) = (0 : Int64) then k qj2.2 else none else none else k qj2.2 else none
def fLc19 {β : Type} (N : Nat) (M : Mem) (k : Mem → Option β) : Option β :=
  (fX10_upper 0 M).bind fun qj1 => (fX11_upper 140 M).bind fun qj2 => if qj1 = qj2.1 then k qj2.2 else none
def fLc20 {β : Type} (N : Nat) (M : Mem) (k : Mem → Option β) : Option β :=
  (fX10_lower 0 M).bind fun qj1 => (fX11_lower 140 M).bind fun qj2 => if qj1 = qj2.1 then k qj2.2 else none
def fLc21 {β : Type} (N : Nat) (a1 : Int32) (a2 : Int32) (M : Mem) (k : Mem → Option β) : Option β :=
  (fL_lie N 0 a1 a2 165 M).bind fun qj1 => (fX11_lie N 140 a1 a2 qj1.2).bind fun qj2 => (fX11_thrown 140 qj2.2).bind fun qj3 => if qj3 = qj1.1 then if qj1.1 = 0 then if inB (0 : Int32) 1 = true then if (rJ qj2.2 165 (0 : Int32).toNatClampNeg) = qj2.1.toInt64 then k qj2.2 else none else none else k qj2.2 else none
def fLc22 {β : Type} (N : Nat) (a1 : Int32) (a2 : Int32) (a3 : Int32) (M : Mem) (k : Mem → Option β) : Option β :=
  (fL_wronged N 0 a1 a2 a3 165 M).bind fun qj1 => (fX11_wronged N 140 a1 a2 a3 qj1.2).bind fun qj2 => (fX11_thrown 140 qj2.2).bind fun qj3 => if qj3 = qj1.1 then if qj1.1 = 0 then if inB (0 : Int32) 1 = true then if (rJ qj2.2 165 (0 : Int32).toNatClampNeg) = qj2.1.toInt64 then k qj2.2 else none else none else k qj2.2 else none
def fLc23 {β : Type} (N : Nat) (a1 : Int32) (a2 : Int32) (M : Mem) (k : Mem → Option β) : Option β :=
  (fL_worse N 0 a1 a2 165 M).bind fun qj1 => (fX11_worse N 140 a1 a2 qj1.2).bind fun qj2 => (fX11_thrown 140 qj2.2).bind fun qj3 => if qj3 = qj1.1 then if qj1.1 = 0 then if inB (0 : Int32) 1 = true then if (rJ qj2.2 165 (0 : Int32).toNatClampNeg) = qj2.1.toInt64 then k qj2.2 else none else none else k qj2.2 else none
def fLc24 {β : Type} (N : Nat) (a1 : Int32) (a2 : Int32) (a3 : Int32) (a4 : Int32) (M : Mem) (k : Mem → Option β) : Option β :=
  (fL_cascade N 0 a1 a2 a3 a4 165 M).bind fun qj1 => (fX11_cascade N 140 a1 a2 a3 a4 qj1.2).bind fun qj2 => (fX11_thrown 140 qj2.2).bind fun qj3 => if qj3 = qj1.1 then if qj1.1 = 0 then if inB (0 : Int32) 1 = true then if (rJ qj2.2 165 (0 : Int32).toNatClampNeg) = qj2.1.toInt64 then k qj2.2 else none else none else k qj2.2 else none
def fLc25 {β : Type} (N : Nat) (a1 : Int32) (a2 : Int32) (a3 : Int32) (M : Mem) (k : Mem → Option β) : Option β :=
  (fL_learn N 0 a1 a2 a3 165 M).bind fun qj1 => (fX11_learn N 140 a1 a2 a3 qj1.2).bind fun qj2 => (fX11_thrown 140 qj2.2).bind fun qj3 => if qj3 = qj1.1 then if qj1.1 = 0 then if inB (0 : Int32) 1 = true then if (rJ qj2.2 165 (0 : Int32).toNatClampNeg) = qj2.1.toInt64 then k qj2.2 else none else none else k qj2.2 else none
def fLc26 {β : Type} (N : Nat) (a1 : Int32) (a2 : Int32) (M : Mem) (k : Mem → Option β) : Option β :=
  (fL_ask N 0 a1 a2 165 M).bind fun qj1 => (fX11_ask N 140 a1 a2 qj1.2).bind fun qj2 => (fX11_thrown 140 qj2.2).bind fun qj3 => if qj3 = qj1.1 then if qj1.1 = 0 then if inB (0 : Int32) 1 = true then if (rJ qj2.2 165 (0 : Int32).toNatClampNeg) = qj2.1.toInt64 then k qj2.2 else none else none else k qj2.2 else none
def fLc27 {β : Type} (N : Nat) (a1 : Int32) (a2 : Int32) (M : Mem) (k : Mem → Option β) : Option β :=
  (fL_worst N 0 a1 a2 165 M).bind fun qj1 => (fX11_worst N 140 a1 a2 qj1.2).bind fun qj2 => (fX11_thrown 140 qj2.2).bind fun qj3 => if qj3 = qj1.1 then if qj1.1 = 0 then if inB (0 : Int32) 1 = true then if (rJ qj2.2 165 (0 : Int32).toNatClampNeg) = qj2.1.toInt64 then k qj2.2 else none else none else k qj2.2 else none
def fLc28 {β : Type} (N : Nat) (a1 : Int32) (a2 : Int32) (M : Mem) (k : Mem → Option β) : Option β :=
  (fL_blame N 0 a1 a2 165 M).bind fun qj1 => (fX11_blame N 140 a1 a2 qj1.2).bind fun qj2 => (fX11_thrown 140 qj2.2).bind fun qj3 => if qj3 = qj1.1 then if qj1.1 = 0 then if inB (0 : Int32) 1 = true then if (rJ qj2.2 165 (0 : Int32).toNatClampNeg) = qj2.1.toInt64 then k qj2.2 else none else none else k qj2.2 else none
def fLc29 {β : Type} (N : Nat) (a1 : Int32) (a2 : Int32) (a3 : Int32) (M : Mem) (k : Mem → Option β) : Option β :=
  (fL_choose N 0 a1 a2 a3 165 M).bind fun qj1 => (fX11_choose N 140 a1 a2 a3 qj1.2).bind fun qj2 => (fX11_thrown 140 qj2.2).bind fun qj3 => if qj3 = qj1.1 then if qj1.1 = 0 then if inB (0 : Int32) 1 = true then if (rJ qj2.2 165 (0 : Int32).toNatClampNeg) = qj2.1.toInt64 then k qj2.2 else none else none else k qj2.2 else none
def fLc30 {β : Type} (N : Nat) (a1 : Int32) (a2 : Int32) (a3 : Int32) (M : Mem) (k : Mem → Option β) : Option β :=
  (fL_tray N 0 a1 a2 a3 M).bind fun qj1 => (fX11_tray N 140 a1 a2 a3 qj1.2).bind fun qj2 => (fX11_thrown 140 qj2).bind fun qj3 => if qj3 = qj1.1 then k qj2 else none
def fLc31 {β : Type} (N : Nat) (a1 : Int32) (a2 : Int32) (a3 : Int32) (a4 : Int32) (M : Mem) (k : Mem → Option β) : Option β :=
  (fL_write 0 a1 a2 ((shlJ (a3.toInt64) (32 : Int32)) ||| (a4.toInt64 &&& (4294967295 : Int64))) 165 M).bind fun qj1 => (fX11_write 140 a1 a2 ((shlJ (a3.toInt64) (32 : Int32)) ||| (a4.toInt64 &&& (4294967295 : Int64))) qj1.2).bind fun qj2 => (fX11_thrown 140 qj2.2).bind fun qj3 => if qj3 = qj1.1 then if qj1.1 = 0 then if inB (0 : Int32) 1 = true then if (rJ qj2.2 165 (0 : Int32).toNatClampNeg) = qj2.1 then k qj2.2 else none else none else k qj2.2 else none
def fLc32 {β : Type} (N : Nat) (a1 : Int32) (a2 : Int32) (M : Mem) (k : Mem → Option β) : Option β :=
  (fL_pour N 0 a1 a2 165 M).bind fun qj1 => (fX11_pour N 140 a1 a2 qj1.2).bind fun qj2 => (fX11_thrown 140 qj2.2).bind fun qj3 => if qj3 = qj1.1 then if qj1.1 = 0 then if inB (0 : Int32) 1 = true then if (rJ qj2.2 165 (0 : Int32).toNatClampNeg) = qj2.1.toInt64 then k qj2.2 else none else none else k qj2.2 else none
def fLc33 {β : Type} (N : Nat) (a1 : Int32) (M : Mem) (k : Mem → Option β) : Option β :=
  (fL_image N 0 a1 M).bind fun qj1 => (fX11_image N 140 a1 qj1.2).bind fun qj2 => (fX11_thrown 140 qj2).bind fun qj3 => if qj3 = qj1.1 then k qj2 else none
def fLc34 {β : Type} (N : Nat) (a1 : Int32) (M : Mem) (k : Mem → Option β) : Option β :=
  (fL_restore N 0 a1 M).bind fun qj1 => (fX11_restore N 140 a1 qj1.2).bind fun qj2 => (fX11_thrown 140 qj2).bind fun qj3 => if qj3 = qj1.1 then k qj2 else none
def fLc35 {β : Type} (N : Nat) (a1 : Int32) (M : Mem) (k : Mem → Option β) : Option β :=
  (fX10_count N 0 a1 M).bind fun qj1 => (fX11_count N 140 a1 M).bind fun qj2 => if qj1 = qj2.1 then k qj2.2 else none
