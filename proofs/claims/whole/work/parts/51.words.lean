theorem gw_2_231 : Cond.classLink RL 13 "java/lang/IllegalArgumentException" ∈ GW := GW_in (tin_2 (k := 231) (by decide +kernel)) rfl
theorem gw_2_232 : Cond.methodLink RL 7 yX10_rules ∈ GW := GW_in (tin_2 (k := 232) (by decide +kernel)) rfl
theorem gw_2_233 : Cond.instanceMethod yX10_rules ∈ GW := GW_in (tin_2 (k := 233) (by decide +kernel)) rfl
theorem gw_2_234 : Cond.selects RX10 yX10_rules yX10_rules ∈ GW := GW_in (tin_2 (k := 234) (by decide +kernel)) rfl
theorem gw_2_235 : Cond.code yX10_rules cX10_rules 3 (some (FieldType.int)) ∈ GW := GW_in (tin_2 (k := 235) (by decide +kernel)) rfl
theorem gw_4_47 : Cond.classLink RL 19 "java/util/NoSuchElementException" ∈ GW := GW_in (tin_4 (k := 47) (by decide +kernel)) rfl
theorem gw_4_48 : Cond.methodLink RL 15 yX10_value ∈ GW := GW_in (tin_4 (k := 48) (by decide +kernel)) rfl
theorem gw_4_49 : Cond.instanceMethod yX10_value ∈ GW := GW_in (tin_4 (k := 49) (by decide +kernel)) rfl
theorem gw_4_50 : Cond.selects RX10 yX10_value yX10_value ∈ GW := GW_in (tin_4 (k := 50) (by decide +kernel)) rfl
theorem gw_4_51 : Cond.code yX10_value cX10_value 4 (some (FieldType.int)) ∈ GW := GW_in (tin_4 (k := 51) (by decide +kernel)) rfl
theorem gw_4_80 : Cond.methodLink RL 21 yX10_place ∈ GW := GW_in (tin_4 (k := 80) (by decide +kernel)) rfl
theorem gw_4_81 : Cond.instanceMethod yX10_place ∈ GW := GW_in (tin_4 (k := 81) (by decide +kernel)) rfl
theorem gw_4_82 : Cond.selects RX10 yX10_place yX10_place ∈ GW := GW_in (tin_4 (k := 82) (by decide +kernel)) rfl
theorem gw_4_83 : Cond.code yX10_place cX10_place 4 (some (FieldType.int)) ∈ GW := GW_in (tin_4 (k := 83) (by decide +kernel)) rfl
theorem gw_4_91 : Cond.methodLink RL 24 yX10_tag ∈ GW := GW_in (tin_4 (k := 91) (by decide +kernel)) rfl
theorem gw_4_92 : Cond.instanceMethod yX10_tag ∈ GW := GW_in (tin_4 (k := 92) (by decide +kernel)) rfl
theorem gw_4_93 : Cond.selects RX10 yX10_tag yX10_tag ∈ GW := GW_in (tin_4 (k := 93) (by decide +kernel)) rfl
theorem gw_4_94 : Cond.code yX10_tag cX10_tag 2 (some (FieldType.int)) ∈ GW := GW_in (tin_4 (k := 94) (by decide +kernel)) rfl
theorem gw_4_111 : Cond.methodLink RL 27 yX10_make ∈ GW := GW_in (tin_4 (k := 111) (by decide +kernel)) rfl
theorem gw_4_112 : Cond.instanceMethod yX10_make ∈ GW := GW_in (tin_4 (k := 112) (by decide +kernel)) rfl
theorem gw_4_113 : Cond.selects RX10 yX10_make yX10_make ∈ GW := GW_in (tin_4 (k := 113) (by decide +kernel)) rfl
theorem gw_4_114 : Cond.code yX10_make cX10_make 6 (none) ∈ GW := GW_in (tin_4 (k := 114) (by decide +kernel)) rfl
theorem gw_4_145 : Cond.methodLink RL 31 yX10_of ∈ GW := GW_in (tin_4 (k := 145) (by decide +kernel)) rfl
theorem gw_4_146 : Cond.instanceMethod yX10_of ∈ GW := GW_in (tin_4 (k := 146) (by decide +kernel)) rfl
theorem gw_4_147 : Cond.selects RX10 yX10_of yX10_of ∈ GW := GW_in (tin_4 (k := 147) (by decide +kernel)) rfl
theorem gw_4_148 : Cond.code yX10_of cX10_of 4 (some (FieldType.int)) ∈ GW := GW_in (tin_4 (k := 148) (by decide +kernel)) rfl
theorem gw_4_168 : Cond.classLink RL 38 "java/lang/IndexOutOfBoundsException" ∈ GW := GW_in (tin_4 (k := 168) (by decide +kernel)) rfl
theorem gw_4_169 : Cond.methodLink RL 35 yX10_cell ∈ GW := GW_in (tin_4 (k := 169) (by decide +kernel)) rfl
theorem gw_4_170 : Cond.instanceMethod yX10_cell ∈ GW := GW_in (tin_4 (k := 170) (by decide +kernel)) rfl
theorem gw_4_171 : Cond.selects RX10 yX10_cell yX10_cell ∈ GW := GW_in (tin_4 (k := 171) (by decide +kernel)) rfl
theorem gw_4_172 : Cond.code yX10_cell cX10_cell 4 (some (FieldType.int)) ∈ GW := GW_in (tin_4 (k := 172) (by decide +kernel)) rfl
theorem gw_4_213 : Cond.classLink RL 43 "java/lang/IllegalStateException" ∈ GW := GW_in (tin_4 (k := 213) (by decide +kernel)) rfl
theorem gw_4_214 : Cond.methodLink RL 40 yX10_guest ∈ GW := GW_in (tin_4 (k := 214) (by decide +kernel)) rfl
theorem gw_4_215 : Cond.instanceMethod yX10_guest ∈ GW := GW_in (tin_4 (k := 215) (by decide +kernel)) rfl
theorem gw_4_216 : Cond.selects RX10 yX10_guest yX10_guest ∈ GW := GW_in (tin_4 (k := 216) (by decide +kernel)) rfl
theorem gw_4_217 : Cond.code yX10_guest cX10_guest 5 (some (FieldType.int)) ∈ GW := GW_in (tin_4 (k := 217) (by decide +kernel)) rfl
theorem gw_5_2 : Cond.methodLink RL 45 yX10_yes ∈ GW := GW_in (tin_5 (k := 2) (by decide +kernel)) rfl
theorem gw_5_3 : Cond.instanceMethod yX10_yes ∈ GW := GW_in (tin_5 (k := 3) (by decide +kernel)) rfl
theorem gw_5_4 : Cond.selects RX10 yX10_yes yX10_yes ∈ GW := GW_in (tin_5 (k := 4) (by decide +kernel)) rfl
theorem gw_5_5 : Cond.code yX10_yes cX10_yes 4 (some (FieldType.boolean)) ∈ GW := GW_in (tin_5 (k := 5) (by decide +kernel)) rfl
theorem gw_5_31 : Cond.methodLink RL 49 yX10_isPut ∈ GW := GW_in (tin_5 (k := 31) (by decide +kernel)) rfl
theorem gw_5_32 : Cond.instanceMethod yX10_isPut ∈ GW := GW_in (tin_5 (k := 32) (by decide +kernel)) rfl
theorem gw_5_33 : Cond.selects RX10 yX10_isPut yX10_isPut ∈ GW := GW_in (tin_5 (k := 33) (by decide +kernel)) rfl
theorem gw_5_34 : Cond.code yX10_isPut cX10_isPut 4 (some (FieldType.boolean)) ∈ GW := GW_in (tin_5 (k := 34) (by decide +kernel)) rfl
theorem gw_5_42 : Cond.methodLink RL 52 yX10_put ∈ GW := GW_in (tin_5 (k := 42) (by decide +kernel)) rfl
theorem gw_5_43 : Cond.instanceMethod yX10_put ∈ GW := GW_in (tin_5 (k := 43) (by decide +kernel)) rfl
theorem gw_5_44 : Cond.selects RX10 yX10_put yX10_put ∈ GW := GW_in (tin_5 (k := 44) (by decide +kernel)) rfl
theorem gw_5_45 : Cond.code yX10_put cX10_put 4 (some (FieldType.int)) ∈ GW := GW_in (tin_5 (k := 45) (by decide +kernel)) rfl
theorem gw_5_107 : Cond.methodLink RL 55 yX10_take ∈ GW := GW_in (tin_5 (k := 107) (by decide +kernel)) rfl
theorem gw_5_108 : Cond.instanceMethod yX10_take ∈ GW := GW_in (tin_5 (k := 108) (by decide +kernel)) rfl
theorem gw_5_109 : Cond.selects RX10 yX10_take yX10_take ∈ GW := GW_in (tin_5 (k := 109) (by decide +kernel)) rfl
theorem gw_5_110 : Cond.code yX10_take cX10_take 4 (some (FieldType.boolean)) ∈ GW := GW_in (tin_5 (k := 110) (by decide +kernel)) rfl
theorem gw_5_128 : Cond.methodLink RL 58 yX10_join ∈ GW := GW_in (tin_5 (k := 128) (by decide +kernel)) rfl
theorem gw_5_129 : Cond.instanceMethod yX10_join ∈ GW := GW_in (tin_5 (k := 129) (by decide +kernel)) rfl
theorem gw_5_130 : Cond.selects RX10 yX10_join yX10_join ∈ GW := GW_in (tin_5 (k := 130) (by decide +kernel)) rfl
theorem gw_5_131 : Cond.code yX10_join cX10_join 6 (some (FieldType.int)) ∈ GW := GW_in (tin_5 (k := 131) (by decide +kernel)) rfl
theorem gw_5_149 : Cond.methodLink RL 61 yX10_halve ∈ GW := GW_in (tin_5 (k := 149) (by decide +kernel)) rfl
theorem gw_5_150 : Cond.instanceMethod yX10_halve ∈ GW := GW_in (tin_5 (k := 150) (by decide +kernel)) rfl
theorem gw_5_151 : Cond.selects RX10 yX10_halve yX10_halve ∈ GW := GW_in (tin_5 (k := 151) (by decide +kernel)) rfl
theorem gw_5_152 : Cond.code yX10_halve cX10_halve 3 (some (FieldType.int)) ∈ GW := GW_in (tin_5 (k := 152) (by decide +kernel)) rfl
theorem gw_5_161 : Cond.methodLink RL 64 yX10_grow ∈ GW := GW_in (tin_5 (k := 161) (by decide +kernel)) rfl
theorem gw_5_162 : Cond.instanceMethod yX10_grow ∈ GW := GW_in (tin_5 (k := 162) (by decide +kernel)) rfl
theorem gw_5_163 : Cond.selects RX10 yX10_grow yX10_grow ∈ GW := GW_in (tin_5 (k := 163) (by decide +kernel)) rfl
theorem gw_5_164 : Cond.code yX10_grow cX10_grow 3 (some (FieldType.int)) ∈ GW := GW_in (tin_5 (k := 164) (by decide +kernel)) rfl
theorem gw_5_178 : Cond.methodLink RL 67 yX10_solve ∈ GW := GW_in (tin_5 (k := 178) (by decide +kernel)) rfl
theorem gw_5_179 : Cond.instanceMethod yX10_solve ∈ GW := GW_in (tin_5 (k := 179) (by decide +kernel)) rfl
theorem gw_5_180 : Cond.selects RX10 yX10_solve yX10_solve ∈ GW := GW_in (tin_5 (k := 180) (by decide +kernel)) rfl
theorem gw_5_181 : Cond.code yX10_solve cX10_solve 5 (some (FieldType.int)) ∈ GW := GW_in (tin_5 (k := 181) (by decide +kernel)) rfl
theorem gw_5_236 : Cond.methodLink RL 70 yX10_lying ∈ GW := GW_in (tin_5 (k := 236) (by decide +kernel)) rfl
theorem gw_5_237 : Cond.instanceMethod yX10_lying ∈ GW := GW_in (tin_5 (k := 237) (by decide +kernel)) rfl
theorem gw_5_238 : Cond.selects RX10 yX10_lying yX10_lying ∈ GW := GW_in (tin_5 (k := 238) (by decide +kernel)) rfl
theorem gw_5_239 : Cond.code yX10_lying cX10_lying 6 (some (FieldType.boolean)) ∈ GW := GW_in (tin_5 (k := 239) (by decide +kernel)) rfl
theorem gw_6_10 : Cond.methodLink RL 74 yX10_lie ∈ GW := GW_in (tin_6 (k := 10) (by decide +kernel)) rfl
theorem gw_6_11 : Cond.instanceMethod yX10_lie ∈ GW := GW_in (tin_6 (k := 11) (by decide +kernel)) rfl
theorem gw_6_12 : Cond.selects RX10 yX10_lie yX10_lie ∈ GW := GW_in (tin_6 (k := 12) (by decide +kernel)) rfl
theorem gw_6_13 : Cond.code yX10_lie cX10_lie 6 (some (FieldType.int)) ∈ GW := GW_in (tin_6 (k := 13) (by decide +kernel)) rfl
theorem gw_6_21 : Cond.methodLink RL 77 yX10_wronged ∈ GW := GW_in (tin_6 (k := 21) (by decide +kernel)) rfl
theorem gw_6_22 : Cond.instanceMethod yX10_wronged ∈ GW := GW_in (tin_6 (k := 22) (by decide +kernel)) rfl
theorem gw_6_23 : Cond.selects RX10 yX10_wronged yX10_wronged ∈ GW := GW_in (tin_6 (k := 23) (by decide +kernel)) rfl
theorem gw_6_24 : Cond.code yX10_wronged cX10_wronged 8 (some (FieldType.int)) ∈ GW := GW_in (tin_6 (k := 24) (by decide +kernel)) rfl
theorem gw_6_28 : Cond.methodLink RL 80 yX10_worse ∈ GW := GW_in (tin_6 (k := 28) (by decide +kernel)) rfl
theorem gw_6_29 : Cond.instanceMethod yX10_worse ∈ GW := GW_in (tin_6 (k := 29) (by decide +kernel)) rfl
theorem gw_6_30 : Cond.selects RX10 yX10_worse yX10_worse ∈ GW := GW_in (tin_6 (k := 30) (by decide +kernel)) rfl
theorem gw_6_31 : Cond.code yX10_worse cX10_worse 5 (some (FieldType.int)) ∈ GW := GW_in (tin_6 (k := 31) (by decide +kernel)) rfl
theorem gw_6_35 : Cond.methodLink RL 83 yX10_cascade ∈ GW := GW_in (tin_6 (k := 35) (by decide +kernel)) rfl
theorem gw_6_36 : Cond.instanceMethod yX10_cascade ∈ GW := GW_in (tin_6 (k := 36) (by decide +kernel)) rfl
theorem gw_6_37 : Cond.selects RX10 yX10_cascade yX10_cascade ∈ GW := GW_in (tin_6 (k := 37) (by decide +kernel)) rfl
theorem gw_6_38 : Cond.code yX10_cascade cX10_cascade 8 (some (FieldType.int)) ∈ GW := GW_in (tin_6 (k := 38) (by decide +kernel)) rfl
theorem gw_6_78 : Cond.methodLink RL 87 yX10_learn ∈ GW := GW_in (tin_6 (k := 78) (by decide +kernel)) rfl
theorem gw_6_79 : Cond.instanceMethod yX10_learn ∈ GW := GW_in (tin_6 (k := 79) (by decide +kernel)) rfl
theorem gw_6_80 : Cond.selects RX10 yX10_learn yX10_learn ∈ GW := GW_in (tin_6 (k := 80) (by decide +kernel)) rfl
theorem gw_6_81 : Cond.code yX10_learn cX10_learn 6 (some (FieldType.int)) ∈ GW := GW_in (tin_6 (k := 81) (by decide +kernel)) rfl
theorem gw_6_113 : Cond.methodLink RL 90 yX10_ask ∈ GW := GW_in (tin_6 (k := 113) (by decide +kernel)) rfl
theorem gw_6_114 : Cond.instanceMethod yX10_ask ∈ GW := GW_in (tin_6 (k := 114) (by decide +kernel)) rfl
theorem gw_6_115 : Cond.selects RX10 yX10_ask yX10_ask ∈ GW := GW_in (tin_6 (k := 115) (by decide +kernel)) rfl
theorem gw_6_116 : Cond.code yX10_ask cX10_ask 5 (some (FieldType.int)) ∈ GW := GW_in (tin_6 (k := 116) (by decide +kernel)) rfl
theorem gw_6_124 : Cond.methodLink RL 93 yX10_worst ∈ GW := GW_in (tin_6 (k := 124) (by decide +kernel)) rfl
theorem gw_6_125 : Cond.instanceMethod yX10_worst ∈ GW := GW_in (tin_6 (k := 125) (by decide +kernel)) rfl
theorem gw_6_126 : Cond.selects RX10 yX10_worst yX10_worst ∈ GW := GW_in (tin_6 (k := 126) (by decide +kernel)) rfl
theorem gw_6_127 : Cond.code yX10_worst cX10_worst 4 (some (FieldType.int)) ∈ GW := GW_in (tin_6 (k := 127) (by decide +kernel)) rfl
theorem gw_6_139 : Cond.methodLink RL 96 yX10_blame ∈ GW := GW_in (tin_6 (k := 139) (by decide +kernel)) rfl
theorem gw_6_140 : Cond.instanceMethod yX10_blame ∈ GW := GW_in (tin_6 (k := 140) (by decide +kernel)) rfl
theorem gw_6_141 : Cond.selects RX10 yX10_blame yX10_blame ∈ GW := GW_in (tin_6 (k := 141) (by decide +kernel)) rfl
theorem gw_6_142 : Cond.code yX10_blame cX10_blame 4 (some (FieldType.int)) ∈ GW := GW_in (tin_6 (k := 142) (by decide +kernel)) rfl
theorem gw_6_159 : Cond.methodLink RL 99 yX10_choose ∈ GW := GW_in (tin_6 (k := 159) (by decide +kernel)) rfl
theorem gw_6_160 : Cond.instanceMethod yX10_choose ∈ GW := GW_in (tin_6 (k := 160) (by decide +kernel)) rfl
theorem gw_6_161 : Cond.selects RX10 yX10_choose yX10_choose ∈ GW := GW_in (tin_6 (k := 161) (by decide +kernel)) rfl
theorem gw_6_162 : Cond.code yX10_choose cX10_choose 5 (some (FieldType.int)) ∈ GW := GW_in (tin_6 (k := 162) (by decide +kernel)) rfl
theorem gw_6_177 : Cond.methodLink RL 102 yX10_tray ∈ GW := GW_in (tin_6 (k := 177) (by decide +kernel)) rfl
theorem gw_6_178 : Cond.instanceMethod yX10_tray ∈ GW := GW_in (tin_6 (k := 178) (by decide +kernel)) rfl
theorem gw_6_179 : Cond.selects RX10 yX10_tray yX10_tray ∈ GW := GW_in (tin_6 (k := 179) (by decide +kernel)) rfl
theorem gw_6_180 : Cond.code yX10_tray cX10_tray 5 (none) ∈ GW := GW_in (tin_6 (k := 180) (by decide +kernel)) rfl
theorem gw_6_190 : Cond.methodLink RL 106 yX10_write ∈ GW := GW_in (tin_6 (k := 190) (by decide +kernel)) rfl
theorem gw_6_191 : Cond.instanceMethod yX10_write ∈ GW := GW_in (tin_6 (k := 191) (by decide +kernel)) rfl
theorem gw_6_192 : Cond.selects RX10 yX10_write yX10_write ∈ GW := GW_in (tin_6 (k := 192) (by decide +kernel)) rfl
theorem gw_6_193 : Cond.code yX10_write cX10_write 6 (some (FieldType.long)) ∈ GW := GW_in (tin_6 (k := 193) (by decide +kernel)) rfl
theorem gw_6_206 : Cond.methodLink RL 110 yX10_pour ∈ GW := GW_in (tin_6 (k := 206) (by decide +kernel)) rfl
theorem gw_6_207 : Cond.instanceMethod yX10_pour ∈ GW := GW_in (tin_6 (k := 207) (by decide +kernel)) rfl
theorem gw_6_208 : Cond.selects RX10 yX10_pour yX10_pour ∈ GW := GW_in (tin_6 (k := 208) (by decide +kernel)) rfl
theorem gw_6_209 : Cond.code yX10_pour cX10_pour 9 (some (FieldType.int)) ∈ GW := GW_in (tin_6 (k := 209) (by decide +kernel)) rfl
theorem gw_6_213 : Cond.methodLink RL 113 yX10_image ∈ GW := GW_in (tin_6 (k := 213) (by decide +kernel)) rfl
theorem gw_6_214 : Cond.instanceMethod yX10_image ∈ GW := GW_in (tin_6 (k := 214) (by decide +kernel)) rfl
theorem gw_6_215 : Cond.selects RX10 yX10_image yX10_image ∈ GW := GW_in (tin_6 (k := 215) (by decide +kernel)) rfl
theorem gw_6_216 : Cond.code yX10_image cX10_image 2 (none) ∈ GW := GW_in (tin_6 (k := 216) (by decide +kernel)) rfl
theorem gw_6_236 : Cond.methodLink RL 117 yX10_restore ∈ GW := GW_in (tin_6 (k := 236) (by decide +kernel)) rfl
theorem gw_6_237 : Cond.instanceMethod yX10_restore ∈ GW := GW_in (tin_6 (k := 237) (by decide +kernel)) rfl
theorem gw_6_238 : Cond.selects RX10 yX10_restore yX10_restore ∈ GW := GW_in (tin_6 (k := 238) (by decide +kernel)) rfl
theorem gw_6_239 : Cond.code yX10_restore cX10_restore 3 (none) ∈ GW := GW_in (tin_6 (k := 239) (by decide +kernel)) rfl
theorem okM_X10_ask : okM yX10_ask 2 := ⟨by decide +kernel, by decide +kernel, by decide +kernel⟩
theorem okM_X10_blame : okM yX10_blame 2 := ⟨by decide +kernel, by decide +kernel, by decide +kernel⟩
theorem okM_X10_cascade : okM yX10_cascade 4 := ⟨by decide +kernel, by decide +kernel, by decide +kernel⟩
theorem okM_X10_cell : okM yX10_cell 2 := ⟨by decide +kernel, by decide +kernel, by decide +kernel⟩
theorem okM_X10_choose : okM yX10_choose 3 := ⟨by decide +kernel, by decide +kernel, by decide +kernel⟩
theorem okM_X10_grow : okM yX10_grow 1 := ⟨by decide +kernel, by decide +kernel, by decide +kernel⟩
theorem okM_X10_guest : okM yX10_guest 3 := ⟨by decide +kernel, by decide +kernel, by decide +kernel⟩
theorem okM_X10_halve : okM yX10_halve 1 := ⟨by decide +kernel, by decide +kernel, by decide +kernel⟩
theorem okM_X10_image : okM yX10_image 1 := ⟨by decide +kernel, by decide +kernel, by decide +kernel⟩
theorem okM_X10_isPut : okM yX10_isPut 2 := ⟨by decide +kernel, by decide +kernel, by decide +kernel⟩
theorem okM_X10_join : okM yX10_join 2 := ⟨by decide +kernel, by decide +kernel, by decide +kernel⟩
theorem okM_X10_learn : okM yX10_learn 3 := ⟨by decide +kernel, by decide +kernel, by decide +kernel⟩
theorem okM_X10_lie : okM yX10_lie 2 := ⟨by decide +kernel, by decide +kernel, by decide +kernel⟩
theorem okM_X10_lying : okM yX10_lying 1 := ⟨by decide +kernel, by decide +kernel, by decide +kernel⟩
theorem okM_X10_make : okM yX10_make 5 := ⟨by decide +kernel, by decide +kernel, by decide +kernel⟩
theorem okM_X10_of : okM yX10_of 2 := ⟨by decide +kernel, by decide +kernel, by decide +kernel⟩
theorem okM_X10_place : okM yX10_place 3 := ⟨by decide +kernel, by decide +kernel, by decide +kernel⟩
theorem okM_X10_pour : okM yX10_pour 2 := ⟨by decide +kernel, by decide +kernel, by decide +kernel⟩
theorem okM_X10_put : okM yX10_put 2 := ⟨by decide +kernel, by decide +kernel, by decide +kernel⟩
theorem okM_X10_restore : okM yX10_restore 1 := ⟨by decide +kernel, by decide +kernel, by decide +kernel⟩
theorem okM_X10_rules : okM yX10_rules 1 := ⟨by decide +kernel, by decide +kernel, by decide +kernel⟩
theorem okM_X10_solve : okM yX10_solve 2 := ⟨by decide +kernel, by decide +kernel, by decide +kernel⟩
theorem okM_X10_tag : okM yX10_tag 1 := ⟨by decide +kernel, by decide +kernel, by decide +kernel⟩
theorem okM_X10_take : okM yX10_take 2 := ⟨by decide +kernel, by decide +kernel, by decide +kernel⟩
theorem okM_X10_tray : okM yX10_tray 3 := ⟨by decide +kernel, by decide +kernel, by decide +kernel⟩
theorem okM_X10_value : okM yX10_value 3 := ⟨by decide +kernel, by decide +kernel, by decide +kernel⟩
theorem okM_X10_worse : okM yX10_worse 2 := ⟨by decide +kernel, by decide +kernel, by decide +kernel⟩
theorem okM_X10_worst : okM yX10_worst 2 := ⟨by decide +kernel, by decide +kernel, by decide +kernel⟩
theorem okM_X10_write : okM yX10_write 3 := ⟨by decide +kernel, by decide +kernel, by decide +kernel⟩
theorem okM_X10_wronged : okM yX10_wronged 3 := ⟨by decide +kernel, by decide +kernel, by decide +kernel⟩
theorem okM_X10_yes : okM yX10_yes 2 := ⟨by decide +kernel, by decide +kernel, by decide +kernel⟩
theorem cw_RL_102 : ∀ w ∈ wV RL 102 RX10 yX10_tray cX10_tray 5 (none), w ∈ GW := wV_of gw_6_177 gw_6_178 gw_6_179 gw_1_1 gw_6_180
theorem cw_RL_106 : ∀ w ∈ wV RL 106 RX10 yX10_write cX10_write 6 (some (FieldType.long)), w ∈ GW := wV_of gw_6_190 gw_6_191 gw_6_192 gw_1_1 gw_6_193
theorem cw_RL_110 : ∀ w ∈ wV RL 110 RX10 yX10_pour cX10_pour 9 (some (FieldType.int)), w ∈ GW := wV_of gw_6_206 gw_6_207 gw_6_208 gw_1_1 gw_6_209
theorem cw_RL_113 : ∀ w ∈ wV RL 113 RX10 yX10_image cX10_image 2 (none), w ∈ GW := wV_of gw_6_213 gw_6_214 gw_6_215 gw_1_1 gw_6_216
theorem cw_RL_117 : ∀ w ∈ wV RL 117 RX10 yX10_restore cX10_restore 3 (none), w ∈ GW := wV_of gw_6_236 gw_6_237 gw_6_238 gw_1_1 gw_6_239
theorem cw_RL_15 : ∀ w ∈ wV RL 15 RX10 yX10_value cX10_value 4 (some (FieldType.int)), w ∈ GW := wV_of gw_4_48 gw_4_49 gw_4_50 gw_1_1 gw_4_51
theorem cw_RL_21 : ∀ w ∈ wV RL 21 RX10 yX10_place cX10_place 4 (some (FieldType.int)), w ∈ GW := wV_of gw_4_80 gw_4_81 gw_4_82 gw_1_1 gw_4_83
theorem cw_RL_24 : ∀ w ∈ wV RL 24 RX10 yX10_tag cX10_tag 2 (some (FieldType.int)), w ∈ GW := wV_of gw_4_91 gw_4_92 gw_4_93 gw_1_1 gw_4_94
theorem cw_RL_27 : ∀ w ∈ wV RL 27 RX10 yX10_make cX10_make 6 (none), w ∈ GW := wV_of gw_4_111 gw_4_112 gw_4_113 gw_1_1 gw_4_114
theorem cw_RL_31 : ∀ w ∈ wV RL 31 RX10 yX10_of cX10_of 4 (some (FieldType.int)), w ∈ GW := wV_of gw_4_145 gw_4_146 gw_4_147 gw_1_1 gw_4_148
theorem cw_RL_35 : ∀ w ∈ wV RL 35 RX10 yX10_cell cX10_cell 4 (some (FieldType.int)), w ∈ GW := wV_of gw_4_169 gw_4_170 gw_4_171 gw_1_1 gw_4_172
theorem cw_RL_40 : ∀ w ∈ wV RL 40 RX10 yX10_guest cX10_guest 5 (some (FieldType.int)), w ∈ GW := wV_of gw_4_214 gw_4_215 gw_4_216 gw_1_1 gw_4_217
theorem cw_RL_45 : ∀ w ∈ wV RL 45 RX10 yX10_yes cX10_yes 4 (some (FieldType.boolean)), w ∈ GW := wV_of gw_5_2 gw_5_3 gw_5_4 gw_1_1 gw_5_5
theorem cw_RL_49 : ∀ w ∈ wV RL 49 RX10 yX10_isPut cX10_isPut 4 (some (FieldType.boolean)), w ∈ GW := wV_of gw_5_31 gw_5_32 gw_5_33 gw_1_1 gw_5_34
theorem cw_RL_52 : ∀ w ∈ wV RL 52 RX10 yX10_put cX10_put 4 (some (FieldType.int)), w ∈ GW := wV_of gw_5_42 gw_5_43 gw_5_44 gw_1_1 gw_5_45
theorem cw_RL_55 : ∀ w ∈ wV RL 55 RX10 yX10_take cX10_take 4 (some (FieldType.boolean)), w ∈ GW := wV_of gw_5_107 gw_5_108 gw_5_109 gw_1_1 gw_5_110
theorem cw_RL_58 : ∀ w ∈ wV RL 58 RX10 yX10_join cX10_join 6 (some (FieldType.int)), w ∈ GW := wV_of gw_5_128 gw_5_129 gw_5_130 gw_1_1 gw_5_131
theorem cw_RL_61 : ∀ w ∈ wV RL 61 RX10 yX10_halve cX10_halve 3 (some (FieldType.int)), w ∈ GW := wV_of gw_5_149 gw_5_150 gw_5_151 gw_1_1 gw_5_152
theorem cw_RL_64 : ∀ w ∈ wV RL 64 RX10 yX10_grow cX10_grow 3 (some (FieldType.int)), w ∈ GW := wV_of gw_5_161 gw_5_162 gw_5_163 gw_1_1 gw_5_164
theorem cw_RL_67 : ∀ w ∈ wV RL 67 RX10 yX10_solve cX10_solve 5 (some (FieldType.int)), w ∈ GW := wV_of gw_5_178 gw_5_179 gw_5_180 gw_1_1 gw_5_181
theorem cw_RL_7 : ∀ w ∈ wV RL 7 RX10 yX10_rules cX10_rules 3 (some (FieldType.int)), w ∈ GW := wV_of gw_2_232 gw_2_233 gw_2_234 gw_1_1 gw_2_235
theorem cw_RL_70 : ∀ w ∈ wV RL 70 RX10 yX10_lying cX10_lying 6 (some (FieldType.boolean)), w ∈ GW := wV_of gw_5_236 gw_5_237 gw_5_238 gw_1_1 gw_5_239
theorem cw_RL_74 : ∀ w ∈ wV RL 74 RX10 yX10_lie cX10_lie 6 (some (FieldType.int)), w ∈ GW := wV_of gw_6_10 gw_6_11 gw_6_12 gw_1_1 gw_6_13
theorem cw_RL_77 : ∀ w ∈ wV RL 77 RX10 yX10_wronged cX10_wronged 8 (some (FieldType.int)), w ∈ GW := wV_of gw_6_21 gw_6_22 gw_6_23 gw_1_1 gw_6_24
theorem cw_RL_80 : ∀ w ∈ wV RL 80 RX10 yX10_worse cX10_worse 5 (some (FieldType.int)), w ∈ GW := wV_of gw_6_28 gw_6_29 gw_6_30 gw_1_1 gw_6_31
theorem cw_RL_83 : ∀ w ∈ wV RL 83 RX10 yX10_cascade cX10_cascade 8 (some (FieldType.int)), w ∈ GW := wV_of gw_6_35 gw_6_36 gw_6_37 gw_1_1 gw_6_38
theorem cw_RL_87 : ∀ w ∈ wV RL 87 RX10 yX10_learn cX10_learn 6 (some (FieldType.int)), w ∈ GW := wV_of gw_6_78 gw_6_79 gw_6_80 gw_1_1 gw_6_81
theorem cw_RL_90 : ∀ w ∈ wV RL 90 RX10 yX10_ask cX10_ask 5 (some (FieldType.int)), w ∈ GW := wV_of gw_6_113 gw_6_114 gw_6_115 gw_1_1 gw_6_116
theorem cw_RL_93 : ∀ w ∈ wV RL 93 RX10 yX10_worst cX10_worst 4 (some (FieldType.int)), w ∈ GW := wV_of gw_6_124 gw_6_125 gw_6_126 gw_1_1 gw_6_127
theorem cw_RL_96 : ∀ w ∈ wV RL 96 RX10 yX10_blame cX10_blame 4 (some (FieldType.int)), w ∈ GW := wV_of gw_6_139 gw_6_140 gw_6_141 gw_1_1 gw_6_142
theorem cw_RL_99 : ∀ w ∈ wV RL 99 RX10 yX10_choose cX10_choose 5 (some (FieldType.int)), w ∈ GW := wV_of gw_6_159 gw_6_160 gw_6_161 gw_1_1 gw_6_162
theorem castEx1 : Cond.castable (exN 1) (exN 1) ∈ NW := NW_in (tin_4 (k := 58) (by decide +kernel)) rfl
theorem castEx2 : Cond.castable (exN 2) (exN 2) ∈ NW := NW_in (tin_4 (k := 223) (by decide +kernel)) rfl
theorem castEx3 : Cond.castable (exN 3) (exN 3) ∈ NW := NW_in (tin_2 (k := 238) (by decide +kernel)) rfl
theorem castEx4 : Cond.castable (exN 4) (exN 4) ∈ NW := NW_in (tin_4 (k := 183) (by decide +kernel)) rfl
