theorem tin_1 {k : Nat} {w : Cond} (h : tables_1_1[k]? = some w) : w ∈ lw_tbl := List.mem_append_right _ (List.mem_append_left _ (List.mem_of_getElem? h))
theorem tin_2 {k : Nat} {w : Cond} (h : tables_1_2[k]? = some w) : w ∈ lw_tbl := List.mem_append_right _ (List.mem_append_right _ (List.mem_append_left _ (List.mem_of_getElem? h)))
theorem tin_3 {k : Nat} {w : Cond} (h : tables_1_3[k]? = some w) : w ∈ lw_tbl := List.mem_append_right _ (List.mem_append_right _ (List.mem_append_right _ (List.mem_append_left _ (List.mem_of_getElem? h))))
theorem tin_4 {k : Nat} {w : Cond} (h : tables_1_4[k]? = some w) : w ∈ lw_tbl := List.mem_append_right _ (List.mem_append_right _ (List.mem_append_right _ (List.mem_append_right _ (List.mem_append_left _ (List.mem_of_getElem? h)))))
theorem tin_5 {k : Nat} {w : Cond} (h : tables_1_5[k]? = some w) : w ∈ lw_tbl := List.mem_append_right _ (List.mem_append_right _ (List.mem_append_right _ (List.mem_append_right _ (List.mem_append_right _ (List.mem_append_left _ (List.mem_of_getElem? h))))))
theorem tin_6 {k : Nat} {w : Cond} (h : tables_1_6[k]? = some w) : w ∈ lw_tbl := List.mem_append_right _ (List.mem_append_right _ (List.mem_append_right _ (List.mem_append_right _ (List.mem_append_right _ (List.mem_append_right _ (List.mem_append_left _ (List.mem_of_getElem? h)))))))
theorem tin_7 {k : Nat} {w : Cond} (h : tables_1_7[k]? = some w) : w ∈ lw_tbl := List.mem_append_right _ (List.mem_append_right _ (List.mem_append_right _ (List.mem_append_right _ (List.mem_append_right _ (List.mem_append_right _ (List.mem_append_right _ (List.mem_append_left _ (List.mem_of_getElem? h))))))))
theorem tin_8 {k : Nat} {w : Cond} (h : tables_1_8[k]? = some w) : w ∈ lw_tbl := List.mem_append_right _ (List.mem_append_right _ (List.mem_append_right _ (List.mem_append_right _ (List.mem_append_right _ (List.mem_append_right _ (List.mem_append_right _ (List.mem_append_right _ (List.mem_append_left _ (List.mem_of_getElem? h)))))))))
theorem tin_9 {k : Nat} {w : Cond} (h : tables_1_9[k]? = some w) : w ∈ lw_tbl := List.mem_append_right _ (List.mem_append_right _ (List.mem_append_right _ (List.mem_append_right _ (List.mem_append_right _ (List.mem_append_right _ (List.mem_append_right _ (List.mem_append_right _ (List.mem_append_right _ (List.mem_of_getElem? h)))))))))
theorem tin_s {y : MethodName} {k : Nat} (h : (y, k) ∈ lw_privs) : Cond.selects y.cls y y ∈ lw_tbl := List.mem_append_left _ (List.mem_map.mpr ⟨_, h, rfl⟩)
theorem wV_of {own Cn : String} {idx : Nat} {y : MethodName} {cc : ByteArray} {nL : Nat} {ret : Option FieldType} (h1 : Cond.methodLink own idx y ∈ GW) (h2 : Cond.instanceMethod y ∈ GW) (h3 : Cond.selects Cn y y ∈ GW) (h4 : Cond.initialized Cn ∈ GW) (h5 : Cond.code y cc nL ret ∈ GW) : ∀ w ∈ wV own idx Cn y cc nL ret, w ∈ GW := by
  intro w hw
  simp only [wV, List.mem_cons, List.not_mem_nil, or_false] at hw
  rcases hw with rfl | rfl | rfl | rfl | rfl <;> assumption
theorem wS_of {own : String} {idx : Nat} {y : MethodName} {cc : ByteArray} {nL : Nat} {ret : Option FieldType} (h1 : Cond.methodLink own idx y ∈ GW) (h2 : Cond.static y ∈ GW) (h4 : Cond.initialized y.cls ∈ GW) (h5 : Cond.code y cc nL ret ∈ GW) : ∀ w ∈ wS own idx y cc nL ret, w ∈ GW := by
  intro w hw
  simp only [wS, List.mem_cons, List.not_mem_nil, or_false] at hw
  rcases hw with rfl | rfl | rfl | rfl <;> assumption
theorem wSN_of {y : MethodName} {cc : ByteArray} {nL : Nat} {ret : Option FieldType} (h2 : Cond.static y ∈ GW) (h4 : Cond.initialized y.cls ∈ GW) (h5 : Cond.code y cc nL ret ∈ GW) : ∀ w ∈ wSN y cc nL ret, w ∈ GW := by
  intro w hw
  simp only [wSN, List.mem_cons, List.not_mem_nil, or_false] at hw
  rcases hw with rfl | rfl | rfl <;> assumption

theorem gw_1_1 : Cond.initialized RX10 ∈ GW := GW_in (tin_1 (k := 1) (by decide +kernel)) rfl
theorem gw_1_2 : Cond.initialized RX7 ∈ GW := GW_in (tin_1 (k := 2) (by decide +kernel)) rfl
theorem gw_1_3 : Cond.initialized RX6 ∈ GW := GW_in (tin_1 (k := 3) (by decide +kernel)) rfl
theorem gw_1_4 : Cond.initialized RX5 ∈ GW := GW_in (tin_1 (k := 4) (by decide +kernel)) rfl
theorem gw_1_5 : Cond.initialized RX2 ∈ GW := GW_in (tin_1 (k := 5) (by decide +kernel)) rfl
theorem gw_1_6 : Cond.initialized RX9 ∈ GW := GW_in (tin_1 (k := 6) (by decide +kernel)) rfl
theorem gw_1_7 : Cond.initialized RX4 ∈ GW := GW_in (tin_1 (k := 7) (by decide +kernel)) rfl
theorem gw_1_8 : Cond.initialized RX3 ∈ GW := GW_in (tin_1 (k := 8) (by decide +kernel)) rfl
theorem gw_1_9 : Cond.initialized RX8 ∈ GW := GW_in (tin_1 (k := 9) (by decide +kernel)) rfl
theorem gw_1_10 : Cond.initialized RX0 ∈ GW := GW_in (tin_1 (k := 10) (by decide +kernel)) rfl
theorem gw_1_11 : Cond.initialized RX1 ∈ GW := GW_in (tin_1 (k := 11) (by decide +kernel)) rfl
theorem gw_1_12 : Cond.initialized RX11 ∈ GW := GW_in (tin_1 (k := 12) (by decide +kernel)) rfl
theorem gw_1_16 : Cond.initialized "java/lang/IllegalArgumentException" ∈ GW := GW_in (tin_1 (k := 16) (by decide +kernel)) rfl
theorem gw_1_17 : Cond.initialized RJ0 ∈ GW := GW_in (tin_1 (k := 17) (by decide +kernel)) rfl
theorem gw_1_18 : Cond.initialized RJ1 ∈ GW := GW_in (tin_1 (k := 18) (by decide +kernel)) rfl
theorem gw_1_19 : Cond.initialized RJ3 ∈ GW := GW_in (tin_1 (k := 19) (by decide +kernel)) rfl
theorem gw_1_21 : Cond.initialized RJ9 ∈ GW := GW_in (tin_1 (k := 21) (by decide +kernel)) rfl
theorem gw_1_23 : Cond.initialized RJ10 ∈ GW := GW_in (tin_1 (k := 23) (by decide +kernel)) rfl
theorem gw_1_24 : Cond.initialized "java/util/NoSuchElementException" ∈ GW := GW_in (tin_1 (k := 24) (by decide +kernel)) rfl
theorem gw_1_25 : Cond.initialized RJ7 ∈ GW := GW_in (tin_1 (k := 25) (by decide +kernel)) rfl
theorem gw_1_26 : Cond.initialized RJ13 ∈ GW := GW_in (tin_1 (k := 26) (by decide +kernel)) rfl
theorem gw_1_27 : Cond.initialized "java/lang/IndexOutOfBoundsException" ∈ GW := GW_in (tin_1 (k := 27) (by decide +kernel)) rfl
theorem gw_1_28 : Cond.initialized "java/lang/IllegalStateException" ∈ GW := GW_in (tin_1 (k := 28) (by decide +kernel)) rfl
theorem gw_1_49 : Cond.fieldLink RX6 30 "PerhapsRows$Rules" "lines" "I" ∈ GW := GW_in (tin_1 (k := 49) (by decide +kernel)) rfl
theorem gw_1_50 : Cond.fieldLink RX10 113 "PerhapsRows$Rules" "lines" "I" ∈ GW := GW_in (tin_1 (k := 50) (by decide +kernel)) rfl
theorem gw_1_51 : Cond.fieldLink RX4 106 "PerhapsRows$Rules" "lines" "I" ∈ GW := GW_in (tin_1 (k := 51) (by decide +kernel)) rfl
theorem gw_1_52 : Cond.fieldLink RX0 26 "PerhapsRows$Rules" "world" "I" ∈ GW := GW_in (tin_1 (k := 52) (by decide +kernel)) rfl
theorem gw_1_53 : Cond.fieldLink RX6 34 "PerhapsRows$Rules" "world" "I" ∈ GW := GW_in (tin_1 (k := 53) (by decide +kernel)) rfl
theorem gw_1_54 : Cond.fieldLink RX1 72 "PerhapsRows$Rules" "world" "I" ∈ GW := GW_in (tin_1 (k := 54) (by decide +kernel)) rfl
theorem gw_1_55 : Cond.fieldLink RX4 100 "PerhapsRows$Rules" "world" "I" ∈ GW := GW_in (tin_1 (k := 55) (by decide +kernel)) rfl
theorem gw_1_56 : Cond.fieldLink RX10 311 "PerhapsRows$Rules" "world" "I" ∈ GW := GW_in (tin_1 (k := 56) (by decide +kernel)) rfl
theorem gw_1_57 : Cond.fieldLink RX6 37 "PerhapsRows$Rules" "tags" "I" ∈ GW := GW_in (tin_1 (k := 57) (by decide +kernel)) rfl
theorem gw_1_58 : Cond.fieldLink RX4 103 "PerhapsRows$Rules" "tags" "I" ∈ GW := GW_in (tin_1 (k := 58) (by decide +kernel)) rfl
theorem gw_1_59 : Cond.fieldLink RX10 416 "PerhapsRows$Rules" "tags" "I" ∈ GW := GW_in (tin_1 (k := 59) (by decide +kernel)) rfl
theorem gw_1_60 : Cond.fieldLink RX6 40 "PerhapsRows$Rules" "marks" "I" ∈ GW := GW_in (tin_1 (k := 60) (by decide +kernel)) rfl
theorem gw_1_61 : Cond.fieldLink RX4 82 "PerhapsRows$Rules" "marks" "I" ∈ GW := GW_in (tin_1 (k := 61) (by decide +kernel)) rfl
theorem gw_1_62 : Cond.fieldLink RX10 127 "PerhapsRows$Rules" "marks" "I" ∈ GW := GW_in (tin_1 (k := 62) (by decide +kernel)) rfl
theorem gw_1_63 : Cond.fieldLink RX0 125 "PerhapsRows$Rules" "marks" "I" ∈ GW := GW_in (tin_1 (k := 63) (by decide +kernel)) rfl
theorem gw_1_64 : Cond.fieldLink RX6 43 "PerhapsRows$Rules" "length" "I" ∈ GW := GW_in (tin_1 (k := 64) (by decide +kernel)) rfl
theorem gw_1_65 : Cond.fieldLink RX6 46 "PerhapsRows$Rules" "tagStart" "I" ∈ GW := GW_in (tin_1 (k := 65) (by decide +kernel)) rfl
theorem gw_1_66 : Cond.fieldLink RX6 49 "PerhapsRows$Rules" "tagEnd" "I" ∈ GW := GW_in (tin_1 (k := 66) (by decide +kernel)) rfl
theorem gw_1_67 : Cond.fieldLink RX6 52 "PerhapsRows$Rules" "sizedMarks" "I" ∈ GW := GW_in (tin_1 (k := 67) (by decide +kernel)) rfl
theorem gw_1_68 : Cond.fieldLink RX6 9 "PerhapsRows$Rules" "code" "[I" ∈ GW := GW_in (tin_1 (k := 68) (by decide +kernel)) rfl
theorem gw_1_69 : Cond.fieldLink RX6 15 "PerhapsRows$Rules" "starts" "[I" ∈ GW := GW_in (tin_1 (k := 69) (by decide +kernel)) rfl
theorem gw_1_70 : Cond.fieldLink RX6 18 "PerhapsRows$Rules" "ends" "[I" ∈ GW := GW_in (tin_1 (k := 70) (by decide +kernel)) rfl
theorem gw_1_71 : Cond.fieldLink RX6 21 "PerhapsRows$Rules" "tagTable" "[I" ∈ GW := GW_in (tin_1 (k := 71) (by decide +kernel)) rfl
theorem gw_1_72 : Cond.fieldLink RX6 24 "PerhapsRows$Rules" "valueTable" "[I" ∈ GW := GW_in (tin_1 (k := 72) (by decide +kernel)) rfl
theorem gw_1_73 : Cond.fieldLink RX6 27 "PerhapsRows$Rules" "stack" "[I" ∈ GW := GW_in (tin_1 (k := 73) (by decide +kernel)) rfl
theorem gw_1_74 : Cond.lays RX6 "PerhapsRows$Rules" "lines" "I" ∈ GW := GW_in (tin_1 (k := 74) (by decide +kernel)) rfl
theorem gw_1_76 : Cond.lays RX6 "PerhapsRows$Rules" "world" "I" ∈ GW := GW_in (tin_1 (k := 76) (by decide +kernel)) rfl
theorem gw_1_78 : Cond.lays RX6 "PerhapsRows$Rules" "tags" "I" ∈ GW := GW_in (tin_1 (k := 78) (by decide +kernel)) rfl
theorem gw_1_80 : Cond.lays RX6 "PerhapsRows$Rules" "marks" "I" ∈ GW := GW_in (tin_1 (k := 80) (by decide +kernel)) rfl
theorem gw_1_82 : Cond.lays RX6 "PerhapsRows$Rules" "length" "I" ∈ GW := GW_in (tin_1 (k := 82) (by decide +kernel)) rfl
theorem gw_1_84 : Cond.lays RX6 "PerhapsRows$Rules" "tagStart" "I" ∈ GW := GW_in (tin_1 (k := 84) (by decide +kernel)) rfl
theorem gw_1_86 : Cond.lays RX6 "PerhapsRows$Rules" "tagEnd" "I" ∈ GW := GW_in (tin_1 (k := 86) (by decide +kernel)) rfl
theorem gw_1_88 : Cond.lays RX6 "PerhapsRows$Rules" "sizedMarks" "I" ∈ GW := GW_in (tin_1 (k := 88) (by decide +kernel)) rfl
theorem gw_1_90 : Cond.laysFinal RX6 "PerhapsRows$Rules" "code" "[I" ∈ GW := GW_in (tin_1 (k := 90) (by decide +kernel)) rfl
theorem gw_1_92 : Cond.laysFinal RX6 "PerhapsRows$Rules" "starts" "[I" ∈ GW := GW_in (tin_1 (k := 92) (by decide +kernel)) rfl
theorem gw_1_94 : Cond.laysFinal RX6 "PerhapsRows$Rules" "ends" "[I" ∈ GW := GW_in (tin_1 (k := 94) (by decide +kernel)) rfl
theorem gw_1_96 : Cond.laysFinal RX6 "PerhapsRows$Rules" "tagTable" "[I" ∈ GW := GW_in (tin_1 (k := 96) (by decide +kernel)) rfl
theorem gw_1_98 : Cond.laysFinal RX6 "PerhapsRows$Rules" "valueTable" "[I" ∈ GW := GW_in (tin_1 (k := 98) (by decide +kernel)) rfl
theorem gw_1_100 : Cond.laysFinal RX6 "PerhapsRows$Rules" "stack" "[I" ∈ GW := GW_in (tin_1 (k := 100) (by decide +kernel)) rfl
theorem gw_1_117 : Cond.fieldLink RX2 9 "PerhapsRows$Names" "words" "[J" ∈ GW := GW_in (tin_1 (k := 117) (by decide +kernel)) rfl
theorem gw_1_118 : Cond.laysFinal RX2 "PerhapsRows$Names" "words" "[J" ∈ GW := GW_in (tin_1 (k := 118) (by decide +kernel)) rfl
theorem gw_1_122 : Cond.fieldLink RX5 22 "PerhapsRows$Row" "there" "Z" ∈ GW := GW_in (tin_1 (k := 122) (by decide +kernel)) rfl
theorem gw_1_123 : Cond.fieldLink RX7 25 "PerhapsRows$Row" "there" "Z" ∈ GW := GW_in (tin_1 (k := 123) (by decide +kernel)) rfl
theorem gw_1_124 : Cond.fieldLink RX10 422 "PerhapsRows$Row" "there" "Z" ∈ GW := GW_in (tin_1 (k := 124) (by decide +kernel)) rfl
theorem gw_1_125 : Cond.fieldLink RX5 26 "PerhapsRows$Row" "kind" "I" ∈ GW := GW_in (tin_1 (k := 125) (by decide +kernel)) rfl
theorem gw_1_126 : Cond.fieldLink RX10 171 "PerhapsRows$Row" "kind" "I" ∈ GW := GW_in (tin_1 (k := 126) (by decide +kernel)) rfl
theorem gw_1_127 : Cond.fieldLink RX3 24 "PerhapsRows$Row" "size" "I" ∈ GW := GW_in (tin_1 (k := 127) (by decide +kernel)) rfl
theorem gw_1_128 : Cond.fieldLink RX5 30 "PerhapsRows$Row" "size" "I" ∈ GW := GW_in (tin_1 (k := 128) (by decide +kernel)) rfl
theorem gw_1_129 : Cond.fieldLink RX0 39 "PerhapsRows$Row" "size" "I" ∈ GW := GW_in (tin_1 (k := 129) (by decide +kernel)) rfl
theorem gw_1_130 : Cond.fieldLink RX8 46 "PerhapsRows$Row" "size" "I" ∈ GW := GW_in (tin_1 (k := 130) (by decide +kernel)) rfl
theorem gw_1_131 : Cond.fieldLink RX10 174 "PerhapsRows$Row" "size" "I" ∈ GW := GW_in (tin_1 (k := 131) (by decide +kernel)) rfl
theorem gw_1_132 : Cond.fieldLink RX5 33 "PerhapsRows$Row" "marks" "I" ∈ GW := GW_in (tin_1 (k := 132) (by decide +kernel)) rfl
theorem gw_1_133 : Cond.fieldLink RX0 44 "PerhapsRows$Row" "marks" "I" ∈ GW := GW_in (tin_1 (k := 133) (by decide +kernel)) rfl
theorem gw_1_134 : Cond.fieldLink RX1 54 "PerhapsRows$Row" "marks" "I" ∈ GW := GW_in (tin_1 (k := 134) (by decide +kernel)) rfl
theorem gw_1_135 : Cond.fieldLink RX8 62 "PerhapsRows$Row" "marks" "I" ∈ GW := GW_in (tin_1 (k := 135) (by decide +kernel)) rfl
theorem gw_1_136 : Cond.fieldLink RX10 177 "PerhapsRows$Row" "marks" "I" ∈ GW := GW_in (tin_1 (k := 136) (by decide +kernel)) rfl
theorem gw_1_137 : Cond.fieldLink RX5 36 "PerhapsRows$Row" "extra" "I" ∈ GW := GW_in (tin_1 (k := 137) (by decide +kernel)) rfl
theorem gw_1_138 : Cond.fieldLink RX3 65 "PerhapsRows$Row" "extra" "I" ∈ GW := GW_in (tin_1 (k := 138) (by decide +kernel)) rfl
theorem gw_1_139 : Cond.fieldLink RX10 178 "PerhapsRows$Row" "extra" "I" ∈ GW := GW_in (tin_1 (k := 139) (by decide +kernel)) rfl
theorem gw_1_140 : Cond.fieldLink RX5 39 "PerhapsRows$Row" "layers" "I" ∈ GW := GW_in (tin_1 (k := 140) (by decide +kernel)) rfl
theorem gw_1_141 : Cond.fieldLink RX10 191 "PerhapsRows$Row" "layers" "I" ∈ GW := GW_in (tin_1 (k := 141) (by decide +kernel)) rfl
theorem gw_1_142 : Cond.fieldLink RX5 42 "PerhapsRows$Row" "pushes" "I" ∈ GW := GW_in (tin_1 (k := 142) (by decide +kernel)) rfl
theorem gw_1_143 : Cond.fieldLink RX3 44 "PerhapsRows$Row" "pushes" "I" ∈ GW := GW_in (tin_1 (k := 143) (by decide +kernel)) rfl
theorem gw_1_144 : Cond.fieldLink RX10 194 "PerhapsRows$Row" "pushes" "I" ∈ GW := GW_in (tin_1 (k := 144) (by decide +kernel)) rfl
theorem gw_1_145 : Cond.fieldLink RX5 45 "PerhapsRows$Row" "latestPuts" "I" ∈ GW := GW_in (tin_1 (k := 145) (by decide +kernel)) rfl
theorem gw_1_146 : Cond.fieldLink RX5 12 "PerhapsRows$Row" "within" "LPerhapsRows$Names;" ∈ GW := GW_in (tin_1 (k := 146) (by decide +kernel)) rfl
theorem gw_1_147 : Cond.fieldLink RX1 29 "PerhapsRows$Row" "within" "LPerhapsRows$Names;" ∈ GW := GW_in (tin_1 (k := 147) (by decide +kernel)) rfl
theorem gw_1_148 : Cond.fieldLink RX8 79 "PerhapsRows$Row" "within" "LPerhapsRows$Names;" ∈ GW := GW_in (tin_1 (k := 148) (by decide +kernel)) rfl
theorem gw_1_149 : Cond.fieldLink RX3 81 "PerhapsRows$Row" "within" "LPerhapsRows$Names;" ∈ GW := GW_in (tin_1 (k := 149) (by decide +kernel)) rfl
theorem gw_1_150 : Cond.fieldLink RX0 97 "PerhapsRows$Row" "within" "LPerhapsRows$Names;" ∈ GW := GW_in (tin_1 (k := 150) (by decide +kernel)) rfl
theorem gw_1_151 : Cond.fieldLink RX10 181 "PerhapsRows$Row" "within" "LPerhapsRows$Names;" ∈ GW := GW_in (tin_1 (k := 151) (by decide +kernel)) rfl
theorem gw_1_152 : Cond.fieldLink RX5 18 "PerhapsRows$Row" "cells" "[I" ∈ GW := GW_in (tin_1 (k := 152) (by decide +kernel)) rfl
theorem gw_1_153 : Cond.lays RX5 "PerhapsRows$Row" "there" "Z" ∈ GW := GW_in (tin_1 (k := 153) (by decide +kernel)) rfl
theorem gw_1_155 : Cond.lays RX5 "PerhapsRows$Row" "kind" "I" ∈ GW := GW_in (tin_1 (k := 155) (by decide +kernel)) rfl
theorem gw_1_157 : Cond.lays RX5 "PerhapsRows$Row" "size" "I" ∈ GW := GW_in (tin_1 (k := 157) (by decide +kernel)) rfl
theorem gw_1_159 : Cond.lays RX5 "PerhapsRows$Row" "marks" "I" ∈ GW := GW_in (tin_1 (k := 159) (by decide +kernel)) rfl
theorem gw_1_161 : Cond.lays RX5 "PerhapsRows$Row" "extra" "I" ∈ GW := GW_in (tin_1 (k := 161) (by decide +kernel)) rfl
theorem gw_1_163 : Cond.lays RX5 "PerhapsRows$Row" "layers" "I" ∈ GW := GW_in (tin_1 (k := 163) (by decide +kernel)) rfl
theorem gw_1_165 : Cond.lays RX5 "PerhapsRows$Row" "pushes" "I" ∈ GW := GW_in (tin_1 (k := 165) (by decide +kernel)) rfl
theorem gw_1_167 : Cond.lays RX5 "PerhapsRows$Row" "latestPuts" "I" ∈ GW := GW_in (tin_1 (k := 167) (by decide +kernel)) rfl
theorem gw_1_169 : Cond.laysFinal RX5 "PerhapsRows$Row" "within" "LPerhapsRows$Names;" ∈ GW := GW_in (tin_1 (k := 169) (by decide +kernel)) rfl
theorem gw_1_171 : Cond.laysFinal RX5 "PerhapsRows$Row" "cells" "[I" ∈ GW := GW_in (tin_1 (k := 171) (by decide +kernel)) rfl
theorem gw_1_174 : Cond.fieldLink RX7 12 "PerhapsRows$Shelf" "rules" "LPerhapsRows$Rules;" ∈ GW := GW_in (tin_1 (k := 174) (by decide +kernel)) rfl
theorem gw_1_175 : Cond.fieldLink RX10 20 "PerhapsRows$Shelf" "rules" "LPerhapsRows$Rules;" ∈ GW := GW_in (tin_1 (k := 175) (by decide +kernel)) rfl
theorem gw_1_176 : Cond.fieldLink RX7 20 "PerhapsRows$Shelf" "rows" "[LPerhapsRows$Row;" ∈ GW := GW_in (tin_1 (k := 176) (by decide +kernel)) rfl
theorem gw_1_177 : Cond.fieldLink RX10 157 "PerhapsRows$Shelf" "rows" "[LPerhapsRows$Row;" ∈ GW := GW_in (tin_1 (k := 177) (by decide +kernel)) rfl
theorem gw_1_178 : Cond.laysFinal RX7 "PerhapsRows$Shelf" "rules" "LPerhapsRows$Rules;" ∈ GW := GW_in (tin_1 (k := 178) (by decide +kernel)) rfl
theorem gw_1_180 : Cond.laysFinal RX7 "PerhapsRows$Shelf" "rows" "[LPerhapsRows$Row;" ∈ GW := GW_in (tin_1 (k := 180) (by decide +kernel)) rfl
theorem gw_1_184 : Cond.instanceMethod yX6_clear ∈ GW := GW_in (tin_1 (k := 184) (by decide +kernel)) rfl
theorem gw_1_185 : Cond.selects RX6 yX6_clear yX6_clear ∈ GW := GW_in (tin_1 (k := 185) (by decide +kernel)) rfl
theorem gw_1_186 : Cond.code yX6_clear cX6_clear 1 (none) ∈ GW := GW_in (tin_1 (k := 186) (by decide +kernel)) rfl
theorem gw_1_188 : Cond.instanceMethod yX6_fillTables ∈ GW := GW_in (tin_1 (k := 188) (by decide +kernel)) rfl
theorem gw_1_189 : Cond.selects RX6 yX6_fillTables yX6_fillTables ∈ GW := GW_in (tin_1 (k := 189) (by decide +kernel)) rfl
theorem gw_1_190 : Cond.code yX6_fillTables cX6_fillTables 4 (none) ∈ GW := GW_in (tin_1 (k := 190) (by decide +kernel)) rfl
theorem gw_1_191 : Cond.methodLink RX6 61 yX6_compute ∈ GW := GW_in (tin_1 (k := 191) (by decide +kernel)) rfl
theorem gw_1_193 : Cond.instanceMethod yX6_compute ∈ GW := GW_in (tin_1 (k := 193) (by decide +kernel)) rfl
theorem gw_1_194 : Cond.code yX6_compute cX6_compute 10 (some (FieldType.int)) ∈ GW := GW_in (tin_1 (k := 194) (by decide +kernel)) rfl
theorem gw_1_196 : Cond.static yX10_modulo ∈ GW := GW_in (tin_1 (k := 196) (by decide +kernel)) rfl
theorem gw_1_197 : Cond.code yX10_modulo cX10_modulo 3 (some (FieldType.int)) ∈ GW := GW_in (tin_1 (k := 197) (by decide +kernel)) rfl
theorem gw_1_206 : Cond.fieldLink RX9 15 "PerhapsRows$Tray" "there" "Z" ∈ GW := GW_in (tin_1 (k := 206) (by decide +kernel)) rfl
theorem gw_1_207 : Cond.fieldLink RX10 436 "PerhapsRows$Tray" "there" "Z" ∈ GW := GW_in (tin_1 (k := 207) (by decide +kernel)) rfl
theorem gw_1_208 : Cond.fieldLink RX8 22 "PerhapsRows$Tray" "many" "I" ∈ GW := GW_in (tin_1 (k := 208) (by decide +kernel)) rfl
theorem gw_1_209 : Cond.fieldLink RX9 23 "PerhapsRows$Tray" "many" "I" ∈ GW := GW_in (tin_1 (k := 209) (by decide +kernel)) rfl
theorem gw_1_210 : Cond.fieldLink RX1 42 "PerhapsRows$Tray" "many" "I" ∈ GW := GW_in (tin_1 (k := 210) (by decide +kernel)) rfl
theorem gw_1_211 : Cond.fieldLink RX0 66 "PerhapsRows$Tray" "many" "I" ∈ GW := GW_in (tin_1 (k := 211) (by decide +kernel)) rfl
theorem gw_1_212 : Cond.fieldLink RX10 305 "PerhapsRows$Tray" "many" "I" ∈ GW := GW_in (tin_1 (k := 212) (by decide +kernel)) rfl
theorem gw_1_213 : Cond.fieldLink RX9 19 "PerhapsRows$Tray" "sort" "I" ∈ GW := GW_in (tin_1 (k := 213) (by decide +kernel)) rfl
theorem gw_1_214 : Cond.fieldLink RX9 9 "PerhapsRows$Tray" "numbers" "[J" ∈ GW := GW_in (tin_1 (k := 214) (by decide +kernel)) rfl
theorem gw_1_215 : Cond.lays RX9 "PerhapsRows$Tray" "there" "Z" ∈ GW := GW_in (tin_1 (k := 215) (by decide +kernel)) rfl
theorem gw_1_217 : Cond.lays RX9 "PerhapsRows$Tray" "many" "I" ∈ GW := GW_in (tin_1 (k := 217) (by decide +kernel)) rfl
theorem gw_1_219 : Cond.lays RX9 "PerhapsRows$Tray" "sort" "I" ∈ GW := GW_in (tin_1 (k := 219) (by decide +kernel)) rfl
theorem gw_1_221 : Cond.laysFinal RX9 "PerhapsRows$Tray" "numbers" "[J" ∈ GW := GW_in (tin_1 (k := 221) (by decide +kernel)) rfl
theorem gw_1_232 : Cond.fieldLink RX4 14 "PerhapsRows$Reader" "draft" "LPerhapsRows$Rules;" ∈ GW := GW_in (tin_1 (k := 232) (by decide +kernel)) rfl
theorem gw_1_233 : Cond.fieldLink RX10 103 "PerhapsRows$Reader" "draft" "LPerhapsRows$Rules;" ∈ GW := GW_in (tin_1 (k := 233) (by decide +kernel)) rfl
theorem gw_1_234 : Cond.fieldLink RX10 78 "PerhapsRows$Reader" "taped" "I" ∈ GW := GW_in (tin_1 (k := 234) (by decide +kernel)) rfl
theorem gw_1_235 : Cond.fieldLink RX4 26 "PerhapsRows$Reader" "taped" "I" ∈ GW := GW_in (tin_1 (k := 235) (by decide +kernel)) rfl
theorem gw_1_236 : Cond.fieldLink RX10 96 "PerhapsRows$Reader" "fault" "I" ∈ GW := GW_in (tin_1 (k := 236) (by decide +kernel)) rfl
theorem gw_1_237 : Cond.fieldLink RX4 52 "PerhapsRows$Reader" "fault" "I" ∈ GW := GW_in (tin_1 (k := 237) (by decide +kernel)) rfl
theorem gw_1_238 : Cond.fieldLink RX10 102 "PerhapsRows$Reader" "faultPlace" "I" ∈ GW := GW_in (tin_1 (k := 238) (by decide +kernel)) rfl
theorem gw_1_239 : Cond.fieldLink RX4 58 "PerhapsRows$Reader" "faultPlace" "I" ∈ GW := GW_in (tin_1 (k := 239) (by decide +kernel)) rfl
theorem gw_2_0 : Cond.fieldLink RX4 18 "PerhapsRows$Reader" "tape" "[B" ∈ GW := GW_in (tin_2 (k := 0) (by decide +kernel)) rfl
theorem gw_2_1 : Cond.fieldLink RX4 22 "PerhapsRows$Reader" "waiting" "[I" ∈ GW := GW_in (tin_2 (k := 1) (by decide +kernel)) rfl
theorem gw_2_2 : Cond.fieldLink RX4 94 "PerhapsRows$Reader" "manyWaiting" "I" ∈ GW := GW_in (tin_2 (k := 2) (by decide +kernel)) rfl
theorem gw_2_3 : Cond.fieldLink RX4 30 "PerhapsRows$Reader" "length" "I" ∈ GW := GW_in (tin_2 (k := 3) (by decide +kernel)) rfl
theorem gw_2_4 : Cond.fieldLink RX4 55 "PerhapsRows$Reader" "start" "I" ∈ GW := GW_in (tin_2 (k := 4) (by decide +kernel)) rfl
theorem gw_2_5 : Cond.fieldLink RX4 33 "PerhapsRows$Reader" "end" "I" ∈ GW := GW_in (tin_2 (k := 5) (by decide +kernel)) rfl
theorem gw_2_6 : Cond.fieldLink RX4 45 "PerhapsRows$Reader" "token" "I" ∈ GW := GW_in (tin_2 (k := 6) (by decide +kernel)) rfl
theorem gw_2_7 : Cond.fieldLink RX4 97 "PerhapsRows$Reader" "number" "I" ∈ GW := GW_in (tin_2 (k := 7) (by decide +kernel)) rfl
theorem gw_2_8 : Cond.fieldLink RX4 36 "PerhapsRows$Reader" "next" "I" ∈ GW := GW_in (tin_2 (k := 8) (by decide +kernel)) rfl
theorem gw_2_9 : Cond.fieldLink RX4 79 "PerhapsRows$Reader" "head" "I" ∈ GW := GW_in (tin_2 (k := 9) (by decide +kernel)) rfl
theorem gw_2_10 : Cond.fieldLink RX4 88 "PerhapsRows$Reader" "from" "I" ∈ GW := GW_in (tin_2 (k := 10) (by decide +kernel)) rfl
theorem gw_2_11 : Cond.fieldLink RX4 91 "PerhapsRows$Reader" "open" "I" ∈ GW := GW_in (tin_2 (k := 11) (by decide +kernel)) rfl
theorem gw_2_12 : Cond.laysFinal RX4 "PerhapsRows$Reader" "draft" "LPerhapsRows$Rules;" ∈ GW := GW_in (tin_2 (k := 12) (by decide +kernel)) rfl
theorem gw_2_14 : Cond.lays RX4 "PerhapsRows$Reader" "taped" "I" ∈ GW := GW_in (tin_2 (k := 14) (by decide +kernel)) rfl
theorem gw_2_16 : Cond.lays RX4 "PerhapsRows$Reader" "fault" "I" ∈ GW := GW_in (tin_2 (k := 16) (by decide +kernel)) rfl
theorem gw_2_18 : Cond.lays RX4 "PerhapsRows$Reader" "faultPlace" "I" ∈ GW := GW_in (tin_2 (k := 18) (by decide +kernel)) rfl
theorem gw_2_20 : Cond.laysFinal RX4 "PerhapsRows$Reader" "tape" "[B" ∈ GW := GW_in (tin_2 (k := 20) (by decide +kernel)) rfl
theorem gw_2_22 : Cond.laysFinal RX4 "PerhapsRows$Reader" "waiting" "[I" ∈ GW := GW_in (tin_2 (k := 22) (by decide +kernel)) rfl
theorem gw_2_24 : Cond.lays RX4 "PerhapsRows$Reader" "manyWaiting" "I" ∈ GW := GW_in (tin_2 (k := 24) (by decide +kernel)) rfl
theorem gw_2_26 : Cond.lays RX4 "PerhapsRows$Reader" "length" "I" ∈ GW := GW_in (tin_2 (k := 26) (by decide +kernel)) rfl
theorem gw_2_28 : Cond.lays RX4 "PerhapsRows$Reader" "start" "I" ∈ GW := GW_in (tin_2 (k := 28) (by decide +kernel)) rfl
theorem gw_2_30 : Cond.lays RX4 "PerhapsRows$Reader" "end" "I" ∈ GW := GW_in (tin_2 (k := 30) (by decide +kernel)) rfl
theorem gw_2_32 : Cond.lays RX4 "PerhapsRows$Reader" "token" "I" ∈ GW := GW_in (tin_2 (k := 32) (by decide +kernel)) rfl
theorem gw_2_34 : Cond.lays RX4 "PerhapsRows$Reader" "number" "I" ∈ GW := GW_in (tin_2 (k := 34) (by decide +kernel)) rfl
theorem gw_2_36 : Cond.lays RX4 "PerhapsRows$Reader" "next" "I" ∈ GW := GW_in (tin_2 (k := 36) (by decide +kernel)) rfl
theorem gw_2_38 : Cond.lays RX4 "PerhapsRows$Reader" "head" "I" ∈ GW := GW_in (tin_2 (k := 38) (by decide +kernel)) rfl
theorem gw_2_40 : Cond.lays RX4 "PerhapsRows$Reader" "from" "I" ∈ GW := GW_in (tin_2 (k := 40) (by decide +kernel)) rfl
theorem gw_2_42 : Cond.lays RX4 "PerhapsRows$Reader" "open" "I" ∈ GW := GW_in (tin_2 (k := 42) (by decide +kernel)) rfl
theorem gw_2_52 : Cond.fieldLink RX3 9 "PerhapsRows$Pusher" "order" "[I" ∈ GW := GW_in (tin_2 (k := 52) (by decide +kernel)) rfl
theorem gw_2_53 : Cond.fieldLink RX3 15 "PerhapsRows$Pusher" "fromNest" "[I" ∈ GW := GW_in (tin_2 (k := 53) (by decide +kernel)) rfl
theorem gw_2_54 : Cond.fieldLink RX3 18 "PerhapsRows$Pusher" "fromSlot" "[I" ∈ GW := GW_in (tin_2 (k := 54) (by decide +kernel)) rfl
theorem gw_2_55 : Cond.fieldLink RX3 21 "PerhapsRows$Pusher" "saved" "[I" ∈ GW := GW_in (tin_2 (k := 55) (by decide +kernel)) rfl
theorem gw_2_56 : Cond.fieldLink RX3 55 "PerhapsRows$Pusher" "reached" "I" ∈ GW := GW_in (tin_2 (k := 56) (by decide +kernel)) rfl
theorem gw_2_57 : Cond.fieldLink RX3 58 "PerhapsRows$Pusher" "reachedBits" "I" ∈ GW := GW_in (tin_2 (k := 57) (by decide +kernel)) rfl
theorem gw_2_58 : Cond.laysFinal RX3 "PerhapsRows$Pusher" "order" "[I" ∈ GW := GW_in (tin_2 (k := 58) (by decide +kernel)) rfl
theorem gw_2_60 : Cond.laysFinal RX3 "PerhapsRows$Pusher" "fromNest" "[I" ∈ GW := GW_in (tin_2 (k := 60) (by decide +kernel)) rfl
theorem gw_2_62 : Cond.laysFinal RX3 "PerhapsRows$Pusher" "fromSlot" "[I" ∈ GW := GW_in (tin_2 (k := 62) (by decide +kernel)) rfl
theorem gw_2_64 : Cond.laysFinal RX3 "PerhapsRows$Pusher" "saved" "[I" ∈ GW := GW_in (tin_2 (k := 64) (by decide +kernel)) rfl
theorem gw_2_66 : Cond.lays RX3 "PerhapsRows$Pusher" "reached" "I" ∈ GW := GW_in (tin_2 (k := 66) (by decide +kernel)) rfl
theorem gw_2_68 : Cond.lays RX3 "PerhapsRows$Pusher" "reachedBits" "I" ∈ GW := GW_in (tin_2 (k := 68) (by decide +kernel)) rfl
theorem gw_2_77 : Cond.fieldLink RX8 9 "PerhapsRows$Solver" "held" "[J" ∈ GW := GW_in (tin_2 (k := 77) (by decide +kernel)) rfl
theorem gw_2_78 : Cond.fieldLink RX8 15 "PerhapsRows$Solver" "asks" "[I" ∈ GW := GW_in (tin_2 (k := 78) (by decide +kernel)) rfl
theorem gw_2_79 : Cond.fieldLink RX8 19 "PerhapsRows$Solver" "answers" "[I" ∈ GW := GW_in (tin_2 (k := 79) (by decide +kernel)) rfl
theorem gw_2_80 : Cond.fieldLink RX8 34 "PerhapsRows$Solver" "taken" "J" ∈ GW := GW_in (tin_2 (k := 80) (by decide +kernel)) rfl
theorem gw_2_81 : Cond.laysFinal RX8 "PerhapsRows$Solver" "held" "[J" ∈ GW := GW_in (tin_2 (k := 81) (by decide +kernel)) rfl
theorem gw_2_83 : Cond.laysFinal RX8 "PerhapsRows$Solver" "asks" "[I" ∈ GW := GW_in (tin_2 (k := 83) (by decide +kernel)) rfl
theorem gw_2_85 : Cond.laysFinal RX8 "PerhapsRows$Solver" "answers" "[I" ∈ GW := GW_in (tin_2 (k := 85) (by decide +kernel)) rfl
theorem gw_2_87 : Cond.lays RX8 "PerhapsRows$Solver" "taken" "J" ∈ GW := GW_in (tin_2 (k := 87) (by decide +kernel)) rfl
theorem gw_2_98 : Cond.fieldLink RX0 91 "PerhapsRows$Judge" "foundName" "I" ∈ GW := GW_in (tin_2 (k := 98) (by decide +kernel)) rfl
theorem gw_2_99 : Cond.fieldLink RX10 373 "PerhapsRows$Judge" "foundName" "I" ∈ GW := GW_in (tin_2 (k := 99) (by decide +kernel)) rfl
theorem gw_2_100 : Cond.fieldLink RX0 94 "PerhapsRows$Judge" "foundLies" "I" ∈ GW := GW_in (tin_2 (k := 100) (by decide +kernel)) rfl
theorem gw_2_101 : Cond.fieldLink RX10 376 "PerhapsRows$Judge" "foundLies" "I" ∈ GW := GW_in (tin_2 (k := 101) (by decide +kernel)) rfl
theorem gw_2_102 : Cond.fieldLink RX0 119 "PerhapsRows$Judge" "foundSize" "I" ∈ GW := GW_in (tin_2 (k := 102) (by decide +kernel)) rfl
theorem gw_2_103 : Cond.fieldLink RX10 388 "PerhapsRows$Judge" "foundSize" "I" ∈ GW := GW_in (tin_2 (k := 103) (by decide +kernel)) rfl
theorem gw_2_104 : Cond.fieldLink RX0 137 "PerhapsRows$Judge" "foundMarks" "I" ∈ GW := GW_in (tin_2 (k := 104) (by decide +kernel)) rfl
theorem gw_2_105 : Cond.fieldLink RX10 391 "PerhapsRows$Judge" "foundMarks" "I" ∈ GW := GW_in (tin_2 (k := 105) (by decide +kernel)) rfl
theorem gw_2_106 : Cond.fieldLink RX0 134 "PerhapsRows$Judge" "foundCost" "I" ∈ GW := GW_in (tin_2 (k := 106) (by decide +kernel)) rfl
theorem gw_2_107 : Cond.fieldLink RX0 38 "PerhapsRows$Judge" "world" "I" ∈ GW := GW_in (tin_2 (k := 107) (by decide +kernel)) rfl
theorem gw_2_108 : Cond.fieldLink RX0 59 "PerhapsRows$Judge" "known" "J" ∈ GW := GW_in (tin_2 (k := 108) (by decide +kernel)) rfl
theorem gw_2_109 : Cond.fieldLink RX0 12 "PerhapsRows$Judge" "asked" "LPerhapsRows$Names;" ∈ GW := GW_in (tin_2 (k := 109) (by decide +kernel)) rfl
theorem gw_2_110 : Cond.fieldLink RX0 18 "PerhapsRows$Judge" "places" "[J" ∈ GW := GW_in (tin_2 (k := 110) (by decide +kernel)) rfl
theorem gw_2_111 : Cond.fieldLink RX0 22 "PerhapsRows$Judge" "fewest" "[I" ∈ GW := GW_in (tin_2 (k := 111) (by decide +kernel)) rfl
theorem gw_2_112 : Cond.lays RX0 "PerhapsRows$Judge" "foundName" "I" ∈ GW := GW_in (tin_2 (k := 112) (by decide +kernel)) rfl
theorem gw_2_114 : Cond.lays RX0 "PerhapsRows$Judge" "foundLies" "I" ∈ GW := GW_in (tin_2 (k := 114) (by decide +kernel)) rfl
theorem gw_2_116 : Cond.lays RX0 "PerhapsRows$Judge" "foundSize" "I" ∈ GW := GW_in (tin_2 (k := 116) (by decide +kernel)) rfl
theorem gw_2_118 : Cond.lays RX0 "PerhapsRows$Judge" "foundMarks" "I" ∈ GW := GW_in (tin_2 (k := 118) (by decide +kernel)) rfl
theorem gw_2_120 : Cond.lays RX0 "PerhapsRows$Judge" "foundCost" "I" ∈ GW := GW_in (tin_2 (k := 120) (by decide +kernel)) rfl
theorem gw_2_122 : Cond.lays RX0 "PerhapsRows$Judge" "world" "I" ∈ GW := GW_in (tin_2 (k := 122) (by decide +kernel)) rfl
theorem gw_2_124 : Cond.lays RX0 "PerhapsRows$Judge" "known" "J" ∈ GW := GW_in (tin_2 (k := 124) (by decide +kernel)) rfl
theorem gw_2_126 : Cond.laysFinal RX0 "PerhapsRows$Judge" "asked" "LPerhapsRows$Names;" ∈ GW := GW_in (tin_2 (k := 126) (by decide +kernel)) rfl
theorem gw_2_128 : Cond.laysFinal RX0 "PerhapsRows$Judge" "places" "[J" ∈ GW := GW_in (tin_2 (k := 128) (by decide +kernel)) rfl
theorem gw_2_130 : Cond.laysFinal RX0 "PerhapsRows$Judge" "fewest" "[I" ∈ GW := GW_in (tin_2 (k := 130) (by decide +kernel)) rfl
theorem gw_2_141 : Cond.fieldLink RX1 19 "PerhapsRows$Levels" "built" "I" ∈ GW := GW_in (tin_2 (k := 141) (by decide +kernel)) rfl
theorem gw_2_142 : Cond.fieldLink RX10 347 "PerhapsRows$Levels" "built" "I" ∈ GW := GW_in (tin_2 (k := 142) (by decide +kernel)) rfl
theorem gw_2_143 : Cond.fieldLink RX1 23 "PerhapsRows$Levels" "took" "I" ∈ GW := GW_in (tin_2 (k := 143) (by decide +kernel)) rfl
theorem gw_2_144 : Cond.fieldLink RX10 350 "PerhapsRows$Levels" "took" "I" ∈ GW := GW_in (tin_2 (k := 144) (by decide +kernel)) rfl
theorem gw_2_145 : Cond.fieldLink RX1 26 "PerhapsRows$Levels" "width" "I" ∈ GW := GW_in (tin_2 (k := 145) (by decide +kernel)) rfl
theorem gw_2_146 : Cond.fieldLink RX10 353 "PerhapsRows$Levels" "width" "I" ∈ GW := GW_in (tin_2 (k := 146) (by decide +kernel)) rfl
theorem gw_2_147 : Cond.fieldLink RX1 10 "PerhapsRows$Levels" "oneSide" "LPerhapsRows$Names;" ∈ GW := GW_in (tin_2 (k := 147) (by decide +kernel)) rfl
theorem gw_2_148 : Cond.fieldLink RX1 16 "PerhapsRows$Levels" "otherSide" "LPerhapsRows$Names;" ∈ GW := GW_in (tin_2 (k := 148) (by decide +kernel)) rfl
theorem gw_2_149 : Cond.lays RX1 "PerhapsRows$Levels" "built" "I" ∈ GW := GW_in (tin_2 (k := 149) (by decide +kernel)) rfl
theorem gw_2_151 : Cond.lays RX1 "PerhapsRows$Levels" "took" "I" ∈ GW := GW_in (tin_2 (k := 151) (by decide +kernel)) rfl
theorem gw_2_153 : Cond.lays RX1 "PerhapsRows$Levels" "width" "I" ∈ GW := GW_in (tin_2 (k := 153) (by decide +kernel)) rfl
theorem gw_2_155 : Cond.laysFinal RX1 "PerhapsRows$Levels" "oneSide" "LPerhapsRows$Names;" ∈ GW := GW_in (tin_2 (k := 155) (by decide +kernel)) rfl
theorem gw_2_157 : Cond.laysFinal RX1 "PerhapsRows$Levels" "otherSide" "LPerhapsRows$Names;" ∈ GW := GW_in (tin_2 (k := 157) (by decide +kernel)) rfl
theorem gw_2_160 : Cond.fieldLink RX10 99 "PerhapsRows" "faultKind" "I" ∈ GW := GW_in (tin_2 (k := 160) (by decide +kernel)) rfl
theorem gw_2_161 : Cond.fieldLink RX10 9 "PerhapsRows" "faultPlace" "I" ∈ GW := GW_in (tin_2 (k := 161) (by decide +kernel)) rfl
theorem gw_2_162 : Cond.fieldLink RX10 317 "PerhapsRows" "upperNumber" "I" ∈ GW := GW_in (tin_2 (k := 162) (by decide +kernel)) rfl
theorem gw_2_163 : Cond.fieldLink RX10 320 "PerhapsRows" "lowerNumber" "I" ∈ GW := GW_in (tin_2 (k := 163) (by decide +kernel)) rfl
theorem gw_2_164 : Cond.fieldLink RX10 16 "PerhapsRows" "now" "LPerhapsRows$Shelf;" ∈ GW := GW_in (tin_2 (k := 164) (by decide +kernel)) rfl
theorem gw_2_165 : Cond.fieldLink RX10 32 "PerhapsRows" "images" "[LPerhapsRows$Shelf;" ∈ GW := GW_in (tin_2 (k := 165) (by decide +kernel)) rfl
theorem gw_2_166 : Cond.fieldLink RX10 411 "PerhapsRows" "imagesMade" "I" ∈ GW := GW_in (tin_2 (k := 166) (by decide +kernel)) rfl
theorem gw_2_167 : Cond.fieldLink RX10 38 "PerhapsRows" "trays" "[LPerhapsRows$Tray;" ∈ GW := GW_in (tin_2 (k := 167) (by decide +kernel)) rfl
theorem gw_2_168 : Cond.fieldLink RX10 46 "PerhapsRows" "reader" "LPerhapsRows$Reader;" ∈ GW := GW_in (tin_2 (k := 168) (by decide +kernel)) rfl
theorem gw_2_169 : Cond.fieldLink RX10 53 "PerhapsRows" "pusher" "LPerhapsRows$Pusher;" ∈ GW := GW_in (tin_2 (k := 169) (by decide +kernel)) rfl
theorem gw_2_170 : Cond.fieldLink RX10 60 "PerhapsRows" "solver" "LPerhapsRows$Solver;" ∈ GW := GW_in (tin_2 (k := 170) (by decide +kernel)) rfl
theorem gw_2_171 : Cond.fieldLink RX10 67 "PerhapsRows" "judge" "LPerhapsRows$Judge;" ∈ GW := GW_in (tin_2 (k := 171) (by decide +kernel)) rfl
theorem gw_2_172 : Cond.fieldLink RX10 74 "PerhapsRows" "levels" "LPerhapsRows$Levels;" ∈ GW := GW_in (tin_2 (k := 172) (by decide +kernel)) rfl
theorem gw_2_173 : Cond.lays RX10 "PerhapsRows" "faultKind" "I" ∈ GW := GW_in (tin_2 (k := 173) (by decide +kernel)) rfl
theorem gw_2_175 : Cond.lays RX10 "PerhapsRows" "faultPlace" "I" ∈ GW := GW_in (tin_2 (k := 175) (by decide +kernel)) rfl
theorem gw_2_177 : Cond.lays RX10 "PerhapsRows" "upperNumber" "I" ∈ GW := GW_in (tin_2 (k := 177) (by decide +kernel)) rfl
theorem gw_2_179 : Cond.lays RX10 "PerhapsRows" "lowerNumber" "I" ∈ GW := GW_in (tin_2 (k := 179) (by decide +kernel)) rfl
theorem gw_2_181 : Cond.laysFinal RX10 "PerhapsRows" "now" "LPerhapsRows$Shelf;" ∈ GW := GW_in (tin_2 (k := 181) (by decide +kernel)) rfl
theorem gw_2_183 : Cond.laysFinal RX10 "PerhapsRows" "images" "[LPerhapsRows$Shelf;" ∈ GW := GW_in (tin_2 (k := 183) (by decide +kernel)) rfl
theorem gw_2_185 : Cond.lays RX10 "PerhapsRows" "imagesMade" "I" ∈ GW := GW_in (tin_2 (k := 185) (by decide +kernel)) rfl
theorem gw_2_187 : Cond.laysFinal RX10 "PerhapsRows" "trays" "[LPerhapsRows$Tray;" ∈ GW := GW_in (tin_2 (k := 187) (by decide +kernel)) rfl
theorem gw_2_189 : Cond.laysFinal RX10 "PerhapsRows" "reader" "LPerhapsRows$Reader;" ∈ GW := GW_in (tin_2 (k := 189) (by decide +kernel)) rfl
theorem gw_2_191 : Cond.laysFinal RX10 "PerhapsRows" "pusher" "LPerhapsRows$Pusher;" ∈ GW := GW_in (tin_2 (k := 191) (by decide +kernel)) rfl
theorem gw_2_193 : Cond.laysFinal RX10 "PerhapsRows" "solver" "LPerhapsRows$Solver;" ∈ GW := GW_in (tin_2 (k := 193) (by decide +kernel)) rfl
theorem gw_2_195 : Cond.laysFinal RX10 "PerhapsRows" "judge" "LPerhapsRows$Judge;" ∈ GW := GW_in (tin_2 (k := 195) (by decide +kernel)) rfl
theorem gw_2_197 : Cond.laysFinal RX10 "PerhapsRows" "levels" "LPerhapsRows$Levels;" ∈ GW := GW_in (tin_2 (k := 197) (by decide +kernel)) rfl
theorem gw_2_204 : Cond.methodLink RX10 81 yX4_append ∈ GW := GW_in (tin_2 (k := 204) (by decide +kernel)) rfl
theorem gw_2_205 : Cond.instanceMethod yX4_append ∈ GW := GW_in (tin_2 (k := 205) (by decide +kernel)) rfl
theorem gw_2_206 : Cond.selects RX4 yX4_append yX4_append ∈ GW := GW_in (tin_2 (k := 206) (by decide +kernel)) rfl
theorem gw_2_207 : Cond.code yX4_append cX4_append 3 (none) ∈ GW := GW_in (tin_2 (k := 207) (by decide +kernel)) rfl
theorem gw_2_224 : Cond.methodLink RX10 419 yX7_rowsThere ∈ GW := GW_in (tin_2 (k := 224) (by decide +kernel)) rfl
theorem gw_2_225 : Cond.instanceMethod yX7_rowsThere ∈ GW := GW_in (tin_2 (k := 225) (by decide +kernel)) rfl
theorem gw_2_226 : Cond.selects RX7 yX7_rowsThere yX7_rowsThere ∈ GW := GW_in (tin_2 (k := 226) (by decide +kernel)) rfl
theorem gw_2_227 : Cond.code yX7_rowsThere cX7_rowsThere 3 (some (FieldType.int)) ∈ GW := GW_in (tin_2 (k := 227) (by decide +kernel)) rfl
theorem gw_2_236 : Cond.classLink RX10 85 "java/lang/IllegalArgumentException" ∈ GW := GW_in (tin_2 (k := 236) (by decide +kernel)) rfl
theorem gw_3_39 : Cond.methodLink RX10 89 (⟨"java/lang/IllegalArgumentException", "<init>", "(Ljava/lang/String;)V"⟩ : MethodName) ∈ GW := GW_in (tin_3 (k := 39) (by decide +kernel)) rfl
theorem gw_3_64 : Cond.methodLink RX10 92 yX4_readAll ∈ GW := GW_in (tin_3 (k := 64) (by decide +kernel)) rfl
theorem gw_3_65 : Cond.instanceMethod yX4_readAll ∈ GW := GW_in (tin_3 (k := 65) (by decide +kernel)) rfl
theorem gw_3_66 : Cond.selects RX4 yX4_readAll yX4_readAll ∈ GW := GW_in (tin_3 (k := 66) (by decide +kernel)) rfl
theorem gw_3_67 : Cond.code yX4_readAll cX4_readAll 4 (some (FieldType.boolean)) ∈ GW := GW_in (tin_3 (k := 67) (by decide +kernel)) rfl
theorem gw_3_68 : Cond.methodLink RX4 39 yX6_clear ∈ GW := GW_in (tin_3 (k := 68) (by decide +kernel)) rfl
theorem gw_3_69 : Cond.methodLink RX4 42 yX4_advance ∈ GW := GW_in (tin_3 (k := 69) (by decide +kernel)) rfl
theorem gw_3_71 : Cond.instanceMethod yX4_advance ∈ GW := GW_in (tin_3 (k := 71) (by decide +kernel)) rfl
theorem gw_3_72 : Cond.code yX4_advance cX4_advance 2 (none) ∈ GW := GW_in (tin_3 (k := 72) (by decide +kernel)) rfl
theorem gw_3_73 : Cond.methodLink RX4 141 yX4_byteAt ∈ GW := GW_in (tin_3 (k := 73) (by decide +kernel)) rfl
theorem gw_3_75 : Cond.instanceMethod yX4_byteAt ∈ GW := GW_in (tin_3 (k := 75) (by decide +kernel)) rfl
theorem gw_3_76 : Cond.code yX4_byteAt cX4_byteAt 2 (some (FieldType.int)) ∈ GW := GW_in (tin_3 (k := 76) (by decide +kernel)) rfl
theorem gw_3_77 : Cond.methodLink RX4 144 yX4_isBlank ∈ GW := GW_in (tin_3 (k := 77) (by decide +kernel)) rfl
theorem gw_3_78 : Cond.static yX4_isBlank ∈ GW := GW_in (tin_3 (k := 78) (by decide +kernel)) rfl
theorem gw_3_79 : Cond.code yX4_isBlank cX4_isBlank 1 (some (FieldType.boolean)) ∈ GW := GW_in (tin_3 (k := 79) (by decide +kernel)) rfl
theorem gw_3_80 : Cond.methodLink RX4 148 yX4_isLetter ∈ GW := GW_in (tin_3 (k := 80) (by decide +kernel)) rfl
theorem gw_3_81 : Cond.static yX4_isLetter ∈ GW := GW_in (tin_3 (k := 81) (by decide +kernel)) rfl
theorem gw_3_82 : Cond.code yX4_isLetter cX4_isLetter 1 (some (FieldType.boolean)) ∈ GW := GW_in (tin_3 (k := 82) (by decide +kernel)) rfl
theorem gw_3_83 : Cond.methodLink RX4 151 yX4_scanWord ∈ GW := GW_in (tin_3 (k := 83) (by decide +kernel)) rfl
theorem gw_3_85 : Cond.instanceMethod yX4_scanWord ∈ GW := GW_in (tin_3 (k := 85) (by decide +kernel)) rfl
theorem gw_3_86 : Cond.code yX4_scanWord cX4_scanWord 2 (some (FieldType.int)) ∈ GW := GW_in (tin_3 (k := 86) (by decide +kernel)) rfl
theorem gw_3_88 : Cond.methodLink RX4 168 yX4_spells ∈ GW := GW_in (tin_3 (k := 88) (by decide +kernel)) rfl
theorem gw_3_90 : Cond.instanceMethod yX4_spells ∈ GW := GW_in (tin_3 (k := 90) (by decide +kernel)) rfl
theorem gw_3_91 : Cond.code yX4_spells cX4_spells 3 (some (FieldType.boolean)) ∈ GW := GW_in (tin_3 (k := 91) (by decide +kernel)) rfl
theorem gw_3_92 : Cond.methodLink RX4 181 yJ0_length_8abf5 ∈ GW := GW_in (tin_3 (k := 92) (by decide +kernel)) rfl
theorem gw_3_93 : Cond.instanceMethod yJ0_length_8abf5 ∈ GW := GW_in (tin_3 (k := 93) (by decide +kernel)) rfl
theorem gw_3_94 : Cond.selects RJ0 yJ0_length_8abf5 yJ0_length_8abf5 ∈ GW := GW_in (tin_3 (k := 94) (by decide +kernel)) rfl
theorem gw_3_95 : Cond.code yJ0_length_8abf5 cJ0_length_8abf5 1 (some (FieldType.int)) ∈ GW := GW_in (tin_3 (k := 95) (by decide +kernel)) rfl
theorem gw_3_96 : Cond.methodLink RJ0 335 yJ0_coder_7d493 ∈ GW := GW_in (tin_3 (k := 96) (by decide +kernel)) rfl
theorem gw_3_97 : Cond.instanceMethod yJ0_coder_7d493 ∈ GW := GW_in (tin_3 (k := 97) (by decide +kernel)) rfl
theorem gw_3_98 : Cond.selects RJ0 yJ0_coder_7d493 yJ0_coder_7d493 ∈ GW := GW_in (tin_3 (k := 98) (by decide +kernel)) rfl
theorem gw_3_99 : Cond.code yJ0_coder_7d493 cJ0_coder_7d493 1 (some (FieldType.byte)) ∈ GW := GW_in (tin_3 (k := 99) (by decide +kernel)) rfl
theorem gw_3_100 : Cond.fieldLink RJ0 38 "java/lang/String" "COMPACT_STRINGS" "Z" ∈ GW := GW_in (tin_3 (k := 100) (by decide +kernel)) rfl
theorem gw_3_102 : Cond.methodLink RX4 183 yJ0_charAt_5068e ∈ GW := GW_in (tin_3 (k := 102) (by decide +kernel)) rfl
theorem gw_3_103 : Cond.instanceMethod yJ0_charAt_5068e ∈ GW := GW_in (tin_3 (k := 103) (by decide +kernel)) rfl
theorem gw_3_104 : Cond.selects RJ0 yJ0_charAt_5068e yJ0_charAt_5068e ∈ GW := GW_in (tin_3 (k := 104) (by decide +kernel)) rfl
theorem gw_3_105 : Cond.code yJ0_charAt_5068e cJ0_charAt_5068e 2 (some (FieldType.char)) ∈ GW := GW_in (tin_3 (k := 105) (by decide +kernel)) rfl
theorem gw_3_106 : Cond.methodLink RJ0 492 yJ0_isLatin1_aae02 ∈ GW := GW_in (tin_3 (k := 106) (by decide +kernel)) rfl
theorem gw_3_107 : Cond.instanceMethod yJ0_isLatin1_aae02 ∈ GW := GW_in (tin_3 (k := 107) (by decide +kernel)) rfl
theorem gw_3_108 : Cond.selects RJ0 yJ0_isLatin1_aae02 yJ0_isLatin1_aae02 ∈ GW := GW_in (tin_3 (k := 108) (by decide +kernel)) rfl
theorem gw_3_109 : Cond.code yJ0_isLatin1_aae02 cJ0_isLatin1_aae02 1 (some (FieldType.boolean)) ∈ GW := GW_in (tin_3 (k := 109) (by decide +kernel)) rfl
theorem gw_3_110 : Cond.methodLink RJ0 495 yJ1_charAt_3b067 ∈ GW := GW_in (tin_3 (k := 110) (by decide +kernel)) rfl
theorem gw_3_111 : Cond.static yJ1_charAt_3b067 ∈ GW := GW_in (tin_3 (k := 111) (by decide +kernel)) rfl
theorem gw_3_112 : Cond.code yJ1_charAt_3b067 cJ1_charAt_3b067 2 (some (FieldType.char)) ∈ GW := GW_in (tin_3 (k := 112) (by decide +kernel)) rfl
theorem gw_3_113 : Cond.methodLink RJ1 9 yJ0_checkIndex_df160 ∈ GW := GW_in (tin_3 (k := 113) (by decide +kernel)) rfl
theorem gw_3_114 : Cond.static yJ0_checkIndex_df160 ∈ GW := GW_in (tin_3 (k := 114) (by decide +kernel)) rfl
theorem gw_3_115 : Cond.code yJ0_checkIndex_df160 cJ0_checkIndex_df160 2 (none) ∈ GW := GW_in (tin_3 (k := 115) (by decide +kernel)) rfl
theorem gw_3_116 : Cond.fieldLink RJ0 1053 "jdk/internal/util/Preconditions" "SIOOBE_FORMATTER" "Ljava/util/function/BiFunction;" ∈ GW := GW_in (tin_3 (k := 116) (by decide +kernel)) rfl
theorem gw_3_118 : Cond.methodLink RJ0 1059 yJ3_checkIndex_8e157 ∈ GW := GW_in (tin_3 (k := 118) (by decide +kernel)) rfl
theorem gw_3_119 : Cond.static yJ3_checkIndex_8e157 ∈ GW := GW_in (tin_3 (k := 119) (by decide +kernel)) rfl
theorem gw_3_120 : Cond.code yJ3_checkIndex_8e157 cJ3_checkIndex_8e157 3 (some (FieldType.int)) ∈ GW := GW_in (tin_3 (k := 120) (by decide +kernel)) rfl
theorem gw_3_145 : Cond.methodLink RX4 154 yX4_isDigit ∈ GW := GW_in (tin_3 (k := 145) (by decide +kernel)) rfl
theorem gw_3_146 : Cond.static yX4_isDigit ∈ GW := GW_in (tin_3 (k := 146) (by decide +kernel)) rfl
theorem gw_3_147 : Cond.code yX4_isDigit cX4_isDigit 1 (some (FieldType.boolean)) ∈ GW := GW_in (tin_3 (k := 147) (by decide +kernel)) rfl
theorem gw_3_148 : Cond.methodLink RX4 157 yX4_scanNumber ∈ GW := GW_in (tin_3 (k := 148) (by decide +kernel)) rfl
theorem gw_3_150 : Cond.instanceMethod yX4_scanNumber ∈ GW := GW_in (tin_3 (k := 150) (by decide +kernel)) rfl
theorem gw_3_151 : Cond.code yX4_scanNumber cX4_scanNumber 2 (some (FieldType.int)) ∈ GW := GW_in (tin_3 (k := 151) (by decide +kernel)) rfl
theorem gw_3_153 : Cond.methodLink RX4 162 yJ0_indexOf_0f7a4 ∈ GW := GW_in (tin_3 (k := 153) (by decide +kernel)) rfl
theorem gw_3_154 : Cond.instanceMethod yJ0_indexOf_0f7a4 ∈ GW := GW_in (tin_3 (k := 154) (by decide +kernel)) rfl
theorem gw_3_155 : Cond.selects RJ0 yJ0_indexOf_0f7a4 yJ0_indexOf_0f7a4 ∈ GW := GW_in (tin_3 (k := 155) (by decide +kernel)) rfl
theorem gw_3_156 : Cond.code yJ0_indexOf_0f7a4 cJ0_indexOf_0f7a4 2 (some (FieldType.int)) ∈ GW := GW_in (tin_3 (k := 156) (by decide +kernel)) rfl
theorem gw_3_157 : Cond.methodLink RJ0 633 yJ0_indexOf_7cf53 ∈ GW := GW_in (tin_3 (k := 157) (by decide +kernel)) rfl
theorem gw_3_158 : Cond.instanceMethod yJ0_indexOf_7cf53 ∈ GW := GW_in (tin_3 (k := 158) (by decide +kernel)) rfl
theorem gw_3_159 : Cond.selects RJ0 yJ0_indexOf_7cf53 yJ0_indexOf_7cf53 ∈ GW := GW_in (tin_3 (k := 159) (by decide +kernel)) rfl
theorem gw_3_160 : Cond.code yJ0_indexOf_7cf53 cJ0_indexOf_7cf53 3 (some (FieldType.int)) ∈ GW := GW_in (tin_3 (k := 160) (by decide +kernel)) rfl
theorem gw_3_161 : Cond.methodLink RJ0 505 yJ0_length_8abf5 ∈ GW := GW_in (tin_3 (k := 161) (by decide +kernel)) rfl
theorem gw_3_162 : Cond.methodLink RJ0 637 yJ1_indexOf_4cfef ∈ GW := GW_in (tin_3 (k := 162) (by decide +kernel)) rfl
theorem gw_3_163 : Cond.static yJ1_indexOf_4cfef ∈ GW := GW_in (tin_3 (k := 163) (by decide +kernel)) rfl
theorem gw_3_164 : Cond.code yJ1_indexOf_4cfef cJ1_indexOf_4cfef 4 (some (FieldType.int)) ∈ GW := GW_in (tin_3 (k := 164) (by decide +kernel)) rfl
theorem gw_3_165 : Cond.methodLink RJ1 88 yJ1_canEncode_9a6ad ∈ GW := GW_in (tin_3 (k := 165) (by decide +kernel)) rfl
theorem gw_3_166 : Cond.static yJ1_canEncode_9a6ad ∈ GW := GW_in (tin_3 (k := 166) (by decide +kernel)) rfl
theorem gw_3_167 : Cond.code yJ1_canEncode_9a6ad cJ1_canEncode_9a6ad 1 (some (FieldType.boolean)) ∈ GW := GW_in (tin_3 (k := 167) (by decide +kernel)) rfl
theorem gw_3_168 : Cond.methodLink RJ1 92 Lib.Math.max.name ∈ GW := GW_in (tin_3 (k := 168) (by decide +kernel)) rfl
theorem gw_3_169 : Cond.static Lib.Math.max.name ∈ GW := GW_in (tin_3 (k := 169) (by decide +kernel)) rfl
theorem gw_3_170 : Cond.code Lib.Math.max.name Lib.Math.max.code 2 (some .int) ∈ GW := GW_in (tin_3 (k := 170) (by decide +kernel)) rfl
theorem gw_3_171 : Cond.methodLink RJ1 38 Lib.Math.min.name ∈ GW := GW_in (tin_3 (k := 171) (by decide +kernel)) rfl
theorem gw_3_172 : Cond.static Lib.Math.min.name ∈ GW := GW_in (tin_3 (k := 172) (by decide +kernel)) rfl
theorem gw_3_173 : Cond.code Lib.Math.min.name Lib.Math.min.code 2 (some .int) ∈ GW := GW_in (tin_3 (k := 173) (by decide +kernel)) rfl
theorem gw_3_174 : Cond.methodLink RJ1 95 yJ1_indexOfChar_4cfef ∈ GW := GW_in (tin_3 (k := 174) (by decide +kernel)) rfl
theorem gw_3_175 : Cond.static yJ1_indexOfChar_4cfef ∈ GW := GW_in (tin_3 (k := 175) (by decide +kernel)) rfl
theorem gw_3_176 : Cond.code yJ1_indexOfChar_4cfef cJ1_indexOfChar_4cfef 6 (some (FieldType.int)) ∈ GW := GW_in (tin_3 (k := 176) (by decide +kernel)) rfl
theorem gw_3_212 : Cond.methodLink RX4 48 yX4_accept ∈ GW := GW_in (tin_3 (k := 212) (by decide +kernel)) rfl
theorem gw_3_214 : Cond.instanceMethod yX4_accept ∈ GW := GW_in (tin_3 (k := 214) (by decide +kernel)) rfl
theorem gw_3_215 : Cond.code yX4_accept cX4_accept 1 (some (FieldType.int)) ∈ GW := GW_in (tin_3 (k := 215) (by decide +kernel)) rfl
theorem gw_3_216 : Cond.methodLink RX4 64 yX4_acceptHead ∈ GW := GW_in (tin_3 (k := 216) (by decide +kernel)) rfl
theorem gw_3_218 : Cond.instanceMethod yX4_acceptHead ∈ GW := GW_in (tin_3 (k := 218) (by decide +kernel)) rfl
theorem gw_3_219 : Cond.code yX4_acceptHead cX4_acceptHead 1 (some (FieldType.int)) ∈ GW := GW_in (tin_3 (k := 219) (by decide +kernel)) rfl
theorem gw_3_220 : Cond.methodLink RX4 85 yX6_emitted ∈ GW := GW_in (tin_3 (k := 220) (by decide +kernel)) rfl
theorem gw_3_221 : Cond.instanceMethod yX6_emitted ∈ GW := GW_in (tin_3 (k := 221) (by decide +kernel)) rfl
theorem gw_3_222 : Cond.selects RX6 yX6_emitted yX6_emitted ∈ GW := GW_in (tin_3 (k := 222) (by decide +kernel)) rfl
theorem gw_3_223 : Cond.code yX6_emitted cX6_emitted 1 (some (FieldType.int)) ∈ GW := GW_in (tin_3 (k := 223) (by decide +kernel)) rfl
theorem gw_3_224 : Cond.methodLink RX4 67 yX4_acceptBound ∈ GW := GW_in (tin_3 (k := 224) (by decide +kernel)) rfl
theorem gw_3_226 : Cond.instanceMethod yX4_acceptBound ∈ GW := GW_in (tin_3 (k := 226) (by decide +kernel)) rfl
theorem gw_3_227 : Cond.code yX4_acceptBound cX4_acceptBound 1 (some (FieldType.int)) ∈ GW := GW_in (tin_3 (k := 227) (by decide +kernel)) rfl
theorem gw_3_228 : Cond.methodLink RX4 70 yX4_acceptOperand ∈ GW := GW_in (tin_3 (k := 228) (by decide +kernel)) rfl
theorem gw_3_230 : Cond.instanceMethod yX4_acceptOperand ∈ GW := GW_in (tin_3 (k := 230) (by decide +kernel)) rfl
theorem gw_3_231 : Cond.code yX4_acceptOperand cX4_acceptOperand 1 (some (FieldType.int)) ∈ GW := GW_in (tin_3 (k := 231) (by decide +kernel)) rfl
theorem gw_3_232 : Cond.methodLink RX4 109 yX4_holdBack ∈ GW := GW_in (tin_3 (k := 232) (by decide +kernel)) rfl
theorem gw_3_234 : Cond.instanceMethod yX4_holdBack ∈ GW := GW_in (tin_3 (k := 234) (by decide +kernel)) rfl
theorem gw_3_235 : Cond.code yX4_holdBack cX4_holdBack 2 (none) ∈ GW := GW_in (tin_3 (k := 235) (by decide +kernel)) rfl
theorem gw_3_236 : Cond.methodLink RX4 113 yX6_emit ∈ GW := GW_in (tin_3 (k := 236) (by decide +kernel)) rfl
theorem gw_3_237 : Cond.instanceMethod yX6_emit ∈ GW := GW_in (tin_3 (k := 237) (by decide +kernel)) rfl
theorem gw_3_238 : Cond.selects RX6 yX6_emit yX6_emit ∈ GW := GW_in (tin_3 (k := 238) (by decide +kernel)) rfl
theorem gw_3_239 : Cond.code yX6_emit cX6_emit 2 (none) ∈ GW := GW_in (tin_3 (k := 239) (by decide +kernel)) rfl
theorem gw_4_0 : Cond.methodLink RX4 73 yX4_acceptOperator ∈ GW := GW_in (tin_4 (k := 0) (by decide +kernel)) rfl
theorem gw_4_2 : Cond.instanceMethod yX4_acceptOperator ∈ GW := GW_in (tin_4 (k := 2) (by decide +kernel)) rfl
theorem gw_4_3 : Cond.code yX4_acceptOperator cX4_acceptOperator 2 (some (FieldType.int)) ∈ GW := GW_in (tin_4 (k := 3) (by decide +kernel)) rfl
theorem gw_4_4 : Cond.methodLink RX4 116 yX4_stepOf ∈ GW := GW_in (tin_4 (k := 4) (by decide +kernel)) rfl
theorem gw_4_5 : Cond.static yX4_stepOf ∈ GW := GW_in (tin_4 (k := 5) (by decide +kernel)) rfl
theorem gw_4_6 : Cond.code yX4_stepOf cX4_stepOf 1 (some (FieldType.int)) ∈ GW := GW_in (tin_4 (k := 6) (by decide +kernel)) rfl
theorem gw_4_7 : Cond.methodLink RX4 120 yX4_rankOf ∈ GW := GW_in (tin_4 (k := 7) (by decide +kernel)) rfl
theorem gw_4_8 : Cond.static yX4_rankOf ∈ GW := GW_in (tin_4 (k := 8) (by decide +kernel)) rfl
theorem gw_4_9 : Cond.code yX4_rankOf cX4_rankOf 1 (some (FieldType.int)) ∈ GW := GW_in (tin_4 (k := 9) (by decide +kernel)) rfl
theorem gw_4_10 : Cond.methodLink RX4 123 yX4_emitWaiting ∈ GW := GW_in (tin_4 (k := 10) (by decide +kernel)) rfl
theorem gw_4_12 : Cond.instanceMethod yX4_emitWaiting ∈ GW := GW_in (tin_4 (k := 12) (by decide +kernel)) rfl
theorem gw_4_13 : Cond.code yX4_emitWaiting cX4_emitWaiting 4 (none) ∈ GW := GW_in (tin_4 (k := 13) (by decide +kernel)) rfl
theorem gw_4_14 : Cond.methodLink RX4 126 Lib.Math.max.name ∈ GW := GW_in (tin_4 (k := 14) (by decide +kernel)) rfl
theorem gw_4_15 : Cond.methodLink RX4 132 yX4_finishExpression ∈ GW := GW_in (tin_4 (k := 15) (by decide +kernel)) rfl
theorem gw_4_17 : Cond.instanceMethod yX4_finishExpression ∈ GW := GW_in (tin_4 (k := 17) (by decide +kernel)) rfl
theorem gw_4_18 : Cond.code yX4_finishExpression cX4_finishExpression 1 (none) ∈ GW := GW_in (tin_4 (k := 18) (by decide +kernel)) rfl
theorem gw_4_19 : Cond.methodLink RX4 135 yX6_addMark ∈ GW := GW_in (tin_4 (k := 19) (by decide +kernel)) rfl
theorem gw_4_20 : Cond.instanceMethod yX6_addMark ∈ GW := GW_in (tin_4 (k := 20) (by decide +kernel)) rfl
theorem gw_4_21 : Cond.selects RX6 yX6_addMark yX6_addMark ∈ GW := GW_in (tin_4 (k := 21) (by decide +kernel)) rfl
theorem gw_4_22 : Cond.code yX6_addMark cX6_addMark 3 (none) ∈ GW := GW_in (tin_4 (k := 22) (by decide +kernel)) rfl
theorem gw_4_23 : Cond.methodLink RX6 55 Lib.Math.max.name ∈ GW := GW_in (tin_4 (k := 23) (by decide +kernel)) rfl
theorem gw_4_24 : Cond.methodLink RX4 138 yX6_setTag ∈ GW := GW_in (tin_4 (k := 24) (by decide +kernel)) rfl
theorem gw_4_25 : Cond.instanceMethod yX6_setTag ∈ GW := GW_in (tin_4 (k := 25) (by decide +kernel)) rfl
theorem gw_4_26 : Cond.selects RX6 yX6_setTag yX6_setTag ∈ GW := GW_in (tin_4 (k := 26) (by decide +kernel)) rfl
theorem gw_4_27 : Cond.code yX6_setTag cX6_setTag 2 (none) ∈ GW := GW_in (tin_4 (k := 27) (by decide +kernel)) rfl
theorem gw_4_28 : Cond.methodLink RX4 76 yX4_acceptSemicolon ∈ GW := GW_in (tin_4 (k := 28) (by decide +kernel)) rfl
theorem gw_4_30 : Cond.instanceMethod yX4_acceptSemicolon ∈ GW := GW_in (tin_4 (k := 30) (by decide +kernel)) rfl
theorem gw_4_31 : Cond.code yX4_acceptSemicolon cX4_acceptSemicolon 1 (some (FieldType.int)) ∈ GW := GW_in (tin_4 (k := 31) (by decide +kernel)) rfl
theorem gw_4_32 : Cond.methodLink RX4 61 yX6_fillTables ∈ GW := GW_in (tin_4 (k := 32) (by decide +kernel)) rfl
theorem gw_4_33 : Cond.methodLink RX10 106 yX6_copyFrom ∈ GW := GW_in (tin_4 (k := 33) (by decide +kernel)) rfl
theorem gw_4_34 : Cond.instanceMethod yX6_copyFrom ∈ GW := GW_in (tin_4 (k := 34) (by decide +kernel)) rfl
theorem gw_4_35 : Cond.selects RX6 yX6_copyFrom yX6_copyFrom ∈ GW := GW_in (tin_4 (k := 35) (by decide +kernel)) rfl
theorem gw_4_36 : Cond.code yX6_copyFrom cX6_copyFrom 2 (none) ∈ GW := GW_in (tin_4 (k := 36) (by decide +kernel)) rfl
theorem gw_4_37 : Cond.methodLink RX6 72 (⟨"java/lang/System", "arraycopy", "(Ljava/lang/Object;ILjava/lang/Object;II)V"⟩ : MethodName) ∈ GW := GW_in (tin_4 (k := 37) (by decide +kernel)) rfl
theorem gw_4_38 : Cond.static (⟨"java/lang/System", "arraycopy", "(Ljava/lang/Object;ILjava/lang/Object;II)V"⟩ : MethodName) ∈ GW := GW_in (tin_4 (k := 38) (by decide +kernel)) rfl
theorem gw_4_39 : (Cond.native ({ cls := "java/lang/System", name := "arraycopy", desc := "(Ljava/lang/Object;ILjava/lang/Object;II)V" } : MethodName)) ∈ GW := GW_in (tin_4 (k := 39) (by decide +kernel)) rfl
theorem gw_4_40 : Cond.methodLink RX10 110 yX7_removeRows ∈ GW := GW_in (tin_4 (k := 40) (by decide +kernel)) rfl
theorem gw_4_41 : Cond.instanceMethod yX7_removeRows ∈ GW := GW_in (tin_4 (k := 41) (by decide +kernel)) rfl
theorem gw_4_42 : Cond.selects RX7 yX7_removeRows yX7_removeRows ∈ GW := GW_in (tin_4 (k := 42) (by decide +kernel)) rfl
theorem gw_4_43 : Cond.code yX7_removeRows cX7_removeRows 2 (none) ∈ GW := GW_in (tin_4 (k := 43) (by decide +kernel)) rfl
theorem gw_4_52 : Cond.methodLink RX10 116 yX10_needMarkAndSize ∈ GW := GW_in (tin_4 (k := 52) (by decide +kernel)) rfl
theorem gw_4_54 : Cond.instanceMethod yX10_needMarkAndSize ∈ GW := GW_in (tin_4 (k := 54) (by decide +kernel)) rfl
theorem gw_4_55 : Cond.code yX10_needMarkAndSize cX10_needMarkAndSize 3 (none) ∈ GW := GW_in (tin_4 (k := 55) (by decide +kernel)) rfl
theorem gw_4_56 : Cond.classLink RX10 130 "java/util/NoSuchElementException" ∈ GW := GW_in (tin_4 (k := 56) (by decide +kernel)) rfl
theorem gw_4_66 : Cond.methodLink RX10 134 (⟨"java/util/NoSuchElementException", "<init>", "(Ljava/lang/String;)V"⟩ : MethodName) ∈ GW := GW_in (tin_4 (k := 66) (by decide +kernel)) rfl
theorem gw_4_73 : Cond.methodLink RX10 120 yX6_valueOf ∈ GW := GW_in (tin_4 (k := 73) (by decide +kernel)) rfl
theorem gw_4_74 : Cond.instanceMethod yX6_valueOf ∈ GW := GW_in (tin_4 (k := 74) (by decide +kernel)) rfl
theorem gw_4_75 : Cond.selects RX6 yX6_valueOf yX6_valueOf ∈ GW := GW_in (tin_4 (k := 75) (by decide +kernel)) rfl
theorem gw_4_76 : Cond.code yX6_valueOf cX6_valueOf 4 (some (FieldType.int)) ∈ GW := GW_in (tin_4 (k := 76) (by decide +kernel)) rfl
theorem gw_4_84 : Cond.methodLink RX10 124 yX6_placeOf ∈ GW := GW_in (tin_4 (k := 84) (by decide +kernel)) rfl
theorem gw_4_85 : Cond.instanceMethod yX6_placeOf ∈ GW := GW_in (tin_4 (k := 85) (by decide +kernel)) rfl
theorem gw_4_86 : Cond.selects RX6 yX6_placeOf yX6_placeOf ∈ GW := GW_in (tin_4 (k := 86) (by decide +kernel)) rfl
theorem gw_4_87 : Cond.code yX6_placeOf cX6_placeOf 6 (some (FieldType.int)) ∈ GW := GW_in (tin_4 (k := 87) (by decide +kernel)) rfl
theorem gw_4_95 : Cond.methodLink RX10 137 yX10_needName ∈ GW := GW_in (tin_4 (k := 95) (by decide +kernel)) rfl
theorem gw_4_97 : Cond.instanceMethod yX10_needName ∈ GW := GW_in (tin_4 (k := 97) (by decide +kernel)) rfl
theorem gw_4_98 : Cond.code yX10_needName cX10_needName 3 (none) ∈ GW := GW_in (tin_4 (k := 98) (by decide +kernel)) rfl
theorem gw_4_99 : Cond.methodLink RX10 331 yX10_isName ∈ GW := GW_in (tin_4 (k := 99) (by decide +kernel)) rfl
theorem gw_4_101 : Cond.instanceMethod yX10_isName ∈ GW := GW_in (tin_4 (k := 101) (by decide +kernel)) rfl
theorem gw_4_102 : Cond.code yX10_isName cX10_isName 3 (some (FieldType.boolean)) ∈ GW := GW_in (tin_4 (k := 102) (by decide +kernel)) rfl
theorem gw_4_104 : Cond.methodLink RX10 141 yX6_tagOf ∈ GW := GW_in (tin_4 (k := 104) (by decide +kernel)) rfl
theorem gw_4_105 : Cond.instanceMethod yX6_tagOf ∈ GW := GW_in (tin_4 (k := 105) (by decide +kernel)) rfl
theorem gw_4_106 : Cond.selects RX6 yX6_tagOf yX6_tagOf ∈ GW := GW_in (tin_4 (k := 106) (by decide +kernel)) rfl
theorem gw_4_107 : Cond.code yX6_tagOf cX6_tagOf 2 (some (FieldType.int)) ∈ GW := GW_in (tin_4 (k := 107) (by decide +kernel)) rfl
theorem gw_4_116 : Cond.methodLink RX10 147 yX10_canBe ∈ GW := GW_in (tin_4 (k := 116) (by decide +kernel)) rfl
theorem gw_4_118 : Cond.instanceMethod yX10_canBe ∈ GW := GW_in (tin_4 (k := 118) (by decide +kernel)) rfl
theorem gw_4_119 : Cond.code yX10_canBe cX10_canBe 5 (some (FieldType.boolean)) ∈ GW := GW_in (tin_4 (k := 119) (by decide +kernel)) rfl
theorem gw_4_120 : Cond.methodLink RX10 151 yX10_extraFits ∈ GW := GW_in (tin_4 (k := 120) (by decide +kernel)) rfl
theorem gw_4_121 : Cond.static yX10_extraFits ∈ GW := GW_in (tin_4 (k := 121) (by decide +kernel)) rfl
theorem gw_4_122 : Cond.code yX10_extraFits cX10_extraFits 2 (some (FieldType.boolean)) ∈ GW := GW_in (tin_4 (k := 122) (by decide +kernel)) rfl
theorem gw_4_124 : Cond.methodLink RX10 161 yX5_begin ∈ GW := GW_in (tin_4 (k := 124) (by decide +kernel)) rfl
theorem gw_4_125 : Cond.instanceMethod yX5_begin ∈ GW := GW_in (tin_4 (k := 125) (by decide +kernel)) rfl
theorem gw_4_126 : Cond.selects RX5 yX5_begin yX5_begin ∈ GW := GW_in (tin_4 (k := 126) (by decide +kernel)) rfl
theorem gw_4_127 : Cond.code yX5_begin cX5_begin 5 (none) ∈ GW := GW_in (tin_4 (k := 127) (by decide +kernel)) rfl
theorem gw_4_128 : Cond.methodLink RX5 48 yX2_clear ∈ GW := GW_in (tin_4 (k := 128) (by decide +kernel)) rfl
theorem gw_4_129 : Cond.instanceMethod yX2_clear ∈ GW := GW_in (tin_4 (k := 129) (by decide +kernel)) rfl
theorem gw_4_130 : Cond.selects RX2 yX2_clear yX2_clear ∈ GW := GW_in (tin_4 (k := 130) (by decide +kernel)) rfl
theorem gw_4_131 : Cond.code yX2_clear cX2_clear 1 (none) ∈ GW := GW_in (tin_4 (k := 131) (by decide +kernel)) rfl
theorem gw_4_132 : Cond.methodLink RX2 17 yJ7_fill_d0a16 ∈ GW := GW_in (tin_4 (k := 132) (by decide +kernel)) rfl
theorem gw_4_133 : Cond.static yJ7_fill_d0a16 ∈ GW := GW_in (tin_4 (k := 133) (by decide +kernel)) rfl
theorem gw_4_134 : Cond.code yJ7_fill_d0a16 cJ7_fill_d0a16 5 (none) ∈ GW := GW_in (tin_4 (k := 134) (by decide +kernel)) rfl
theorem gw_4_135 : Cond.methodLink RX5 51 yX5_clearCells ∈ GW := GW_in (tin_4 (k := 135) (by decide +kernel)) rfl
theorem gw_4_136 : Cond.instanceMethod yX5_clearCells ∈ GW := GW_in (tin_4 (k := 136) (by decide +kernel)) rfl
theorem gw_4_137 : Cond.selects RX5 yX5_clearCells yX5_clearCells ∈ GW := GW_in (tin_4 (k := 137) (by decide +kernel)) rfl
theorem gw_4_138 : Cond.code yX5_clearCells cX5_clearCells 1 (none) ∈ GW := GW_in (tin_4 (k := 138) (by decide +kernel)) rfl
theorem gw_4_139 : Cond.methodLink RX5 54 yJ7_fill_53178 ∈ GW := GW_in (tin_4 (k := 139) (by decide +kernel)) rfl
theorem gw_4_140 : Cond.static yJ7_fill_53178 ∈ GW := GW_in (tin_4 (k := 140) (by decide +kernel)) rfl
theorem gw_4_141 : Cond.code yJ7_fill_53178 cJ7_fill_53178 4 (none) ∈ GW := GW_in (tin_4 (k := 141) (by decide +kernel)) rfl
theorem gw_4_149 : Cond.methodLink RX10 167 yX10_rowAt ∈ GW := GW_in (tin_4 (k := 149) (by decide +kernel)) rfl
theorem gw_4_151 : Cond.instanceMethod yX10_rowAt ∈ GW := GW_in (tin_4 (k := 151) (by decide +kernel)) rfl
theorem gw_4_152 : Cond.code yX10_rowAt cX10_rowAt 2 (some ((FieldType.object "PerhapsRows$Row"))) ∈ GW := GW_in (tin_4 (k := 152) (by decide +kernel)) rfl
theorem gw_4_154 : Cond.methodLink RX10 185 yX2_many ∈ GW := GW_in (tin_4 (k := 154) (by decide +kernel)) rfl
theorem gw_4_155 : Cond.instanceMethod yX2_many ∈ GW := GW_in (tin_4 (k := 155) (by decide +kernel)) rfl
theorem gw_4_156 : Cond.selects RX2 yX2_many yX2_many ∈ GW := GW_in (tin_4 (k := 156) (by decide +kernel)) rfl
theorem gw_4_157 : Cond.code yX2_many cX2_many 3 (some (FieldType.int)) ∈ GW := GW_in (tin_4 (k := 157) (by decide +kernel)) rfl
theorem gw_4_158 : Cond.methodLink RX2 23 yJ13_bitCount_95d88 ∈ GW := GW_in (tin_4 (k := 158) (by decide +kernel)) rfl
theorem gw_4_159 : Cond.static yJ13_bitCount_95d88 ∈ GW := GW_in (tin_4 (k := 159) (by decide +kernel)) rfl
theorem gw_4_160 : Cond.code yJ13_bitCount_95d88 cJ13_bitCount_95d88 2 (some (FieldType.int)) ∈ GW := GW_in (tin_4 (k := 160) (by decide +kernel)) rfl
theorem gw_4_161 : Cond.constantLong RJ13 314 (6148914691236517205) ∈ GW := GW_in (tin_4 (k := 161) (by decide +kernel)) rfl
theorem gw_4_162 : Cond.constantLong RJ13 316 (3689348814741910323) ∈ GW := GW_in (tin_4 (k := 162) (by decide +kernel)) rfl
theorem gw_4_163 : Cond.constantLong RJ13 318 (1085102592571150095) ∈ GW := GW_in (tin_4 (k := 163) (by decide +kernel)) rfl
theorem gw_4_173 : Cond.methodLink RX10 199 yX5_places ∈ GW := GW_in (tin_4 (k := 173) (by decide +kernel)) rfl
theorem gw_4_174 : Cond.instanceMethod yX5_places ∈ GW := GW_in (tin_4 (k := 174) (by decide +kernel)) rfl
theorem gw_4_175 : Cond.selects RX5 yX5_places yX5_places ∈ GW := GW_in (tin_4 (k := 175) (by decide +kernel)) rfl
theorem gw_4_176 : Cond.code yX5_places cX5_places 1 (some (FieldType.int)) ∈ GW := GW_in (tin_4 (k := 176) (by decide +kernel)) rfl
theorem gw_4_177 : Cond.methodLink RX5 60 yX5_layerStart ∈ GW := GW_in (tin_4 (k := 177) (by decide +kernel)) rfl
theorem gw_4_179 : Cond.instanceMethod yX5_layerStart ∈ GW := GW_in (tin_4 (k := 179) (by decide +kernel)) rfl
theorem gw_4_180 : Cond.code yX5_layerStart cX5_layerStart 2 (some (FieldType.int)) ∈ GW := GW_in (tin_4 (k := 180) (by decide +kernel)) rfl
theorem gw_4_181 : Cond.classLink RX10 202 "java/lang/IndexOutOfBoundsException" ∈ GW := GW_in (tin_4 (k := 181) (by decide +kernel)) rfl
theorem gw_4_191 : Cond.methodLink RX10 206 (⟨"java/lang/IndexOutOfBoundsException", "<init>", "(Ljava/lang/String;)V"⟩ : MethodName) ∈ GW := GW_in (tin_4 (k := 191) (by decide +kernel)) rfl
theorem gw_4_197 : Cond.methodLink RX10 207 yX5_guestsIn ∈ GW := GW_in (tin_4 (k := 197) (by decide +kernel)) rfl
theorem gw_4_198 : Cond.instanceMethod yX5_guestsIn ∈ GW := GW_in (tin_4 (k := 198) (by decide +kernel)) rfl
theorem gw_4_199 : Cond.selects RX5 yX5_guestsIn yX5_guestsIn ∈ GW := GW_in (tin_4 (k := 199) (by decide +kernel)) rfl
theorem gw_4_200 : Cond.code yX5_guestsIn cX5_guestsIn 4 (some (FieldType.int)) ∈ GW := GW_in (tin_4 (k := 200) (by decide +kernel)) rfl
theorem gw_4_201 : Cond.methodLink RX5 113 yX5_guestAt ∈ GW := GW_in (tin_4 (k := 201) (by decide +kernel)) rfl
theorem gw_4_202 : Cond.instanceMethod yX5_guestAt ∈ GW := GW_in (tin_4 (k := 202) (by decide +kernel)) rfl
theorem gw_4_203 : Cond.selects RX5 yX5_guestAt yX5_guestAt ∈ GW := GW_in (tin_4 (k := 203) (by decide +kernel)) rfl
theorem gw_4_204 : Cond.code yX5_guestAt cX5_guestAt 3 (some (FieldType.int)) ∈ GW := GW_in (tin_4 (k := 204) (by decide +kernel)) rfl
theorem gw_4_205 : Cond.methodLink RX5 88 yX5_cellAt ∈ GW := GW_in (tin_4 (k := 205) (by decide +kernel)) rfl
theorem gw_4_206 : Cond.instanceMethod yX5_cellAt ∈ GW := GW_in (tin_4 (k := 206) (by decide +kernel)) rfl
theorem gw_4_207 : Cond.selects RX5 yX5_cellAt yX5_cellAt ∈ GW := GW_in (tin_4 (k := 207) (by decide +kernel)) rfl
theorem gw_4_208 : Cond.code yX5_cellAt cX5_cellAt 2 (some (FieldType.int)) ∈ GW := GW_in (tin_4 (k := 208) (by decide +kernel)) rfl
theorem gw_4_209 : Cond.methodLink RX10 210 yX5_cellAt ∈ GW := GW_in (tin_4 (k := 209) (by decide +kernel)) rfl
theorem gw_4_218 : Cond.methodLink RX10 213 yX10_needKind ∈ GW := GW_in (tin_4 (k := 218) (by decide +kernel)) rfl
theorem gw_4_219 : Cond.static yX10_needKind ∈ GW := GW_in (tin_4 (k := 219) (by decide +kernel)) rfl
theorem gw_4_220 : Cond.code yX10_needKind cX10_needKind 2 (none) ∈ GW := GW_in (tin_4 (k := 220) (by decide +kernel)) rfl
theorem gw_4_221 : Cond.classLink RX10 248 "java/lang/IllegalStateException" ∈ GW := GW_in (tin_4 (k := 221) (by decide +kernel)) rfl
theorem gw_4_231 : Cond.methodLink RX10 252 (⟨"java/lang/IllegalStateException", "<init>", "(Ljava/lang/String;)V"⟩ : MethodName) ∈ GW := GW_in (tin_4 (k := 231) (by decide +kernel)) rfl
theorem gw_4_238 : Cond.methodLink RX10 219 yX5_guestAt ∈ GW := GW_in (tin_4 (k := 238) (by decide +kernel)) rfl
theorem gw_5_6 : Cond.methodLink RX10 223 yX5_says ∈ GW := GW_in (tin_5 (k := 6) (by decide +kernel)) rfl
theorem gw_5_7 : Cond.instanceMethod yX5_says ∈ GW := GW_in (tin_5 (k := 7) (by decide +kernel)) rfl
theorem gw_5_8 : Cond.selects RX5 yX5_says yX5_says ∈ GW := GW_in (tin_5 (k := 8) (by decide +kernel)) rfl
theorem gw_5_9 : Cond.code yX5_says cX5_says 4 (some (FieldType.boolean)) ∈ GW := GW_in (tin_5 (k := 9) (by decide +kernel)) rfl
theorem gw_5_10 : Cond.methodLink RX5 64 yX6_placeOf ∈ GW := GW_in (tin_5 (k := 10) (by decide +kernel)) rfl
theorem gw_5_11 : Cond.methodLink RX5 70 yX5_hasGuestLike ∈ GW := GW_in (tin_5 (k := 11) (by decide +kernel)) rfl
theorem gw_5_13 : Cond.instanceMethod yX5_hasGuestLike ∈ GW := GW_in (tin_5 (k := 13) (by decide +kernel)) rfl
theorem gw_5_14 : Cond.code yX5_hasGuestLike cX5_hasGuestLike 6 (some (FieldType.boolean)) ∈ GW := GW_in (tin_5 (k := 14) (by decide +kernel)) rfl
theorem gw_5_15 : Cond.methodLink RX5 78 yX6_tagOf ∈ GW := GW_in (tin_5 (k := 15) (by decide +kernel)) rfl
theorem gw_5_16 : Cond.methodLink RX5 74 yX5_together ∈ GW := GW_in (tin_5 (k := 16) (by decide +kernel)) rfl
theorem gw_5_18 : Cond.instanceMethod yX5_together ∈ GW := GW_in (tin_5 (k := 18) (by decide +kernel)) rfl
theorem gw_5_19 : Cond.code yX5_together cX5_together 5 (some (FieldType.int)) ∈ GW := GW_in (tin_5 (k := 19) (by decide +kernel)) rfl
theorem gw_5_20 : Cond.methodLink RX5 81 yX5_layerSize ∈ GW := GW_in (tin_5 (k := 20) (by decide +kernel)) rfl
theorem gw_5_22 : Cond.instanceMethod yX5_layerSize ∈ GW := GW_in (tin_5 (k := 22) (by decide +kernel)) rfl
theorem gw_5_23 : Cond.code yX5_layerSize cX5_layerSize 2 (some (FieldType.int)) ∈ GW := GW_in (tin_5 (k := 23) (by decide +kernel)) rfl
theorem gw_5_24 : Cond.methodLink RX5 84 yX5_allAbove0 ∈ GW := GW_in (tin_5 (k := 24) (by decide +kernel)) rfl
theorem gw_5_26 : Cond.instanceMethod yX5_allAbove0 ∈ GW := GW_in (tin_5 (k := 26) (by decide +kernel)) rfl
theorem gw_5_27 : Cond.code yX5_allAbove0 cX5_allAbove0 6 (some (FieldType.boolean)) ∈ GW := GW_in (tin_5 (k := 27) (by decide +kernel)) rfl
theorem gw_5_35 : Cond.methodLink RX10 227 yX2_has ∈ GW := GW_in (tin_5 (k := 35) (by decide +kernel)) rfl
theorem gw_5_36 : Cond.instanceMethod yX2_has ∈ GW := GW_in (tin_5 (k := 36) (by decide +kernel)) rfl
theorem gw_5_37 : Cond.selects RX2 yX2_has yX2_has ∈ GW := GW_in (tin_5 (k := 37) (by decide +kernel)) rfl
theorem gw_5_38 : Cond.code yX2_has cX2_has 2 (some (FieldType.boolean)) ∈ GW := GW_in (tin_5 (k := 38) (by decide +kernel)) rfl
theorem gw_5_46 : Cond.methodLink RX10 230 yX10_needUnsolved ∈ GW := GW_in (tin_5 (k := 46) (by decide +kernel)) rfl
theorem gw_5_47 : Cond.static yX10_needUnsolved ∈ GW := GW_in (tin_5 (k := 47) (by decide +kernel)) rfl
theorem gw_5_48 : Cond.code yX10_needUnsolved cX10_needUnsolved 1 (none) ∈ GW := GW_in (tin_5 (k := 48) (by decide +kernel)) rfl
theorem gw_5_50 : Cond.methodLink RX10 234 yX10_admit ∈ GW := GW_in (tin_5 (k := 50) (by decide +kernel)) rfl
theorem gw_5_52 : Cond.instanceMethod yX10_admit ∈ GW := GW_in (tin_5 (k := 52) (by decide +kernel)) rfl
theorem gw_5_53 : Cond.code yX10_admit cX10_admit 4 (some (FieldType.int)) ∈ GW := GW_in (tin_5 (k := 53) (by decide +kernel)) rfl
theorem gw_5_54 : Cond.methodLink RX10 238 yX3_settle ∈ GW := GW_in (tin_5 (k := 54) (by decide +kernel)) rfl
theorem gw_5_55 : Cond.instanceMethod yX3_settle ∈ GW := GW_in (tin_5 (k := 55) (by decide +kernel)) rfl
theorem gw_5_56 : Cond.selects RX3 yX3_settle yX3_settle ∈ GW := GW_in (tin_5 (k := 56) (by decide +kernel)) rfl
theorem gw_5_57 : Cond.code yX3_settle cX3_settle 9 (some (FieldType.boolean)) ∈ GW := GW_in (tin_5 (k := 57) (by decide +kernel)) rfl
theorem gw_5_58 : Cond.methodLink RX3 30 yX6_placeOf ∈ GW := GW_in (tin_5 (k := 58) (by decide +kernel)) rfl
theorem gw_5_59 : Cond.methodLink RX3 36 yX5_freeSlot ∈ GW := GW_in (tin_5 (k := 59) (by decide +kernel)) rfl
theorem gw_5_60 : Cond.instanceMethod yX5_freeSlot ∈ GW := GW_in (tin_5 (k := 60) (by decide +kernel)) rfl
theorem gw_5_61 : Cond.selects RX5 yX5_freeSlot yX5_freeSlot ∈ GW := GW_in (tin_5 (k := 61) (by decide +kernel)) rfl
theorem gw_5_62 : Cond.code yX5_freeSlot cX5_freeSlot 3 (some (FieldType.int)) ∈ GW := GW_in (tin_5 (k := 62) (by decide +kernel)) rfl
theorem gw_5_63 : Cond.methodLink RX3 40 yX5_setGuest ∈ GW := GW_in (tin_5 (k := 63) (by decide +kernel)) rfl
theorem gw_5_64 : Cond.instanceMethod yX5_setGuest ∈ GW := GW_in (tin_5 (k := 64) (by decide +kernel)) rfl
theorem gw_5_65 : Cond.selects RX5 yX5_setGuest yX5_setGuest ∈ GW := GW_in (tin_5 (k := 65) (by decide +kernel)) rfl
theorem gw_5_66 : Cond.code yX5_setGuest cX5_setGuest 4 (none) ∈ GW := GW_in (tin_5 (k := 66) (by decide +kernel)) rfl
theorem gw_5_67 : Cond.methodLink RX5 105 yX5_setCell ∈ GW := GW_in (tin_5 (k := 67) (by decide +kernel)) rfl
theorem gw_5_68 : Cond.instanceMethod yX5_setCell ∈ GW := GW_in (tin_5 (k := 68) (by decide +kernel)) rfl
theorem gw_5_69 : Cond.selects RX5 yX5_setCell yX5_setCell ∈ GW := GW_in (tin_5 (k := 69) (by decide +kernel)) rfl
theorem gw_5_70 : Cond.code yX5_setCell cX5_setCell 3 (none) ∈ GW := GW_in (tin_5 (k := 70) (by decide +kernel)) rfl
theorem gw_5_71 : Cond.methodLink RX3 47 yX3_search ∈ GW := GW_in (tin_5 (k := 71) (by decide +kernel)) rfl
theorem gw_5_73 : Cond.instanceMethod yX3_search ∈ GW := GW_in (tin_5 (k := 73) (by decide +kernel)) rfl
theorem gw_5_74 : Cond.code yX3_search cX3_search 8 (some (FieldType.int)) ∈ GW := GW_in (tin_5 (k := 74) (by decide +kernel)) rfl
theorem gw_5_75 : Cond.methodLink RX3 61 yX3_reach ∈ GW := GW_in (tin_5 (k := 75) (by decide +kernel)) rfl
theorem gw_5_77 : Cond.instanceMethod yX3_reach ∈ GW := GW_in (tin_5 (k := 77) (by decide +kernel)) rfl
theorem gw_5_78 : Cond.code yX3_reach cX3_reach 4 (some (FieldType.boolean)) ∈ GW := GW_in (tin_5 (k := 78) (by decide +kernel)) rfl
theorem gw_5_79 : Cond.methodLink RX3 68 yX5_guestAt ∈ GW := GW_in (tin_5 (k := 79) (by decide +kernel)) rfl
theorem gw_5_80 : Cond.methodLink RX3 72 yX3_otherNest ∈ GW := GW_in (tin_5 (k := 80) (by decide +kernel)) rfl
theorem gw_5_81 : Cond.static yX3_otherNest ∈ GW := GW_in (tin_5 (k := 81) (by decide +kernel)) rfl
theorem gw_5_82 : Cond.code yX3_otherNest cX3_otherNest 6 (some (FieldType.int)) ∈ GW := GW_in (tin_5 (k := 82) (by decide +kernel)) rfl
theorem gw_5_83 : Cond.methodLink RX3 51 yX3_pushAlong ∈ GW := GW_in (tin_5 (k := 83) (by decide +kernel)) rfl
theorem gw_5_85 : Cond.instanceMethod yX3_pushAlong ∈ GW := GW_in (tin_5 (k := 85) (by decide +kernel)) rfl
theorem gw_5_86 : Cond.code yX3_pushAlong cX3_pushAlong 10 (some (FieldType.int)) ∈ GW := GW_in (tin_5 (k := 86) (by decide +kernel)) rfl
theorem gw_5_87 : Cond.methodLink RX10 242 yX5_mark ∈ GW := GW_in (tin_5 (k := 87) (by decide +kernel)) rfl
theorem gw_5_88 : Cond.instanceMethod yX5_mark ∈ GW := GW_in (tin_5 (k := 88) (by decide +kernel)) rfl
theorem gw_5_89 : Cond.selects RX5 yX5_mark yX5_mark ∈ GW := GW_in (tin_5 (k := 89) (by decide +kernel)) rfl
theorem gw_5_90 : Cond.code yX5_mark cX5_mark 3 (some (FieldType.boolean)) ∈ GW := GW_in (tin_5 (k := 90) (by decide +kernel)) rfl
theorem gw_5_91 : Cond.methodLink RX5 91 yX5_raise ∈ GW := GW_in (tin_5 (k := 91) (by decide +kernel)) rfl
theorem gw_5_93 : Cond.instanceMethod yX5_raise ∈ GW := GW_in (tin_5 (k := 93) (by decide +kernel)) rfl
theorem gw_5_94 : Cond.code yX5_raise cX5_raise 7 (none) ∈ GW := GW_in (tin_5 (k := 94) (by decide +kernel)) rfl
theorem gw_5_95 : Cond.methodLink RX5 95 yX5_fullCell ∈ GW := GW_in (tin_5 (k := 95) (by decide +kernel)) rfl
theorem gw_5_97 : Cond.instanceMethod yX5_fullCell ∈ GW := GW_in (tin_5 (k := 97) (by decide +kernel)) rfl
theorem gw_5_98 : Cond.code yX5_fullCell cX5_fullCell 1 (some (FieldType.int)) ∈ GW := GW_in (tin_5 (k := 98) (by decide +kernel)) rfl
theorem gw_5_99 : Cond.methodLink RX5 99 Lib.Math.min.name ∈ GW := GW_in (tin_5 (k := 99) (by decide +kernel)) rfl
theorem gw_5_100 : Cond.methodLink RX10 245 yX2_add ∈ GW := GW_in (tin_5 (k := 100) (by decide +kernel)) rfl
theorem gw_5_101 : Cond.instanceMethod yX2_add ∈ GW := GW_in (tin_5 (k := 101) (by decide +kernel)) rfl
theorem gw_5_102 : Cond.selects RX2 yX2_add yX2_add ∈ GW := GW_in (tin_5 (k := 102) (by decide +kernel)) rfl
theorem gw_5_103 : Cond.code yX2_add cX2_add 2 (none) ∈ GW := GW_in (tin_5 (k := 103) (by decide +kernel)) rfl
theorem gw_5_112 : Cond.methodLink RX10 253 yX5_freeGuest ∈ GW := GW_in (tin_5 (k := 112) (by decide +kernel)) rfl
theorem gw_5_113 : Cond.instanceMethod yX5_freeGuest ∈ GW := GW_in (tin_5 (k := 113) (by decide +kernel)) rfl
theorem gw_5_114 : Cond.selects RX5 yX5_freeGuest yX5_freeGuest ∈ GW := GW_in (tin_5 (k := 114) (by decide +kernel)) rfl
theorem gw_5_115 : Cond.code yX5_freeGuest cX5_freeGuest 3 (none) ∈ GW := GW_in (tin_5 (k := 115) (by decide +kernel)) rfl
theorem gw_5_116 : Cond.methodLink RX10 256 yX5_unmark ∈ GW := GW_in (tin_5 (k := 116) (by decide +kernel)) rfl
theorem gw_5_117 : Cond.instanceMethod yX5_unmark ∈ GW := GW_in (tin_5 (k := 117) (by decide +kernel)) rfl
theorem gw_5_118 : Cond.selects RX5 yX5_unmark yX5_unmark ∈ GW := GW_in (tin_5 (k := 118) (by decide +kernel)) rfl
theorem gw_5_119 : Cond.code yX5_unmark cX5_unmark 6 (none) ∈ GW := GW_in (tin_5 (k := 119) (by decide +kernel)) rfl
theorem gw_5_120 : Cond.methodLink RX10 260 yX2_remove ∈ GW := GW_in (tin_5 (k := 120) (by decide +kernel)) rfl
theorem gw_5_121 : Cond.instanceMethod yX2_remove ∈ GW := GW_in (tin_5 (k := 121) (by decide +kernel)) rfl
theorem gw_5_122 : Cond.selects RX2 yX2_remove yX2_remove ∈ GW := GW_in (tin_5 (k := 122) (by decide +kernel)) rfl
theorem gw_5_123 : Cond.code yX2_remove cX2_remove 2 (none) ∈ GW := GW_in (tin_5 (k := 123) (by decide +kernel)) rfl
theorem gw_5_124 : Cond.constantLong RX2 15 (-1) ∈ GW := GW_in (tin_5 (k := 124) (by decide +kernel)) rfl
theorem gw_5_132 : Cond.methodLink RX10 263 yX5_isPlain ∈ GW := GW_in (tin_5 (k := 132) (by decide +kernel)) rfl
theorem gw_5_133 : Cond.instanceMethod yX5_isPlain ∈ GW := GW_in (tin_5 (k := 133) (by decide +kernel)) rfl
theorem gw_5_134 : Cond.selects RX5 yX5_isPlain yX5_isPlain ∈ GW := GW_in (tin_5 (k := 134) (by decide +kernel)) rfl
theorem gw_5_135 : Cond.code yX5_isPlain cX5_isPlain 1 (some (FieldType.boolean)) ∈ GW := GW_in (tin_5 (k := 135) (by decide +kernel)) rfl
theorem gw_5_138 : Cond.methodLink RX10 271 yX5_absorb ∈ GW := GW_in (tin_5 (k := 138) (by decide +kernel)) rfl
theorem gw_5_139 : Cond.instanceMethod yX5_absorb ∈ GW := GW_in (tin_5 (k := 139) (by decide +kernel)) rfl
theorem gw_5_140 : Cond.selects RX5 yX5_absorb yX5_absorb ∈ GW := GW_in (tin_5 (k := 140) (by decide +kernel)) rfl
theorem gw_5_141 : Cond.code yX5_absorb cX5_absorb 3 (none) ∈ GW := GW_in (tin_5 (k := 141) (by decide +kernel)) rfl
theorem gw_5_142 : Cond.methodLink RX5 109 yX2_addAll ∈ GW := GW_in (tin_5 (k := 142) (by decide +kernel)) rfl
theorem gw_5_143 : Cond.instanceMethod yX2_addAll ∈ GW := GW_in (tin_5 (k := 143) (by decide +kernel)) rfl
theorem gw_5_144 : Cond.selects RX2 yX2_addAll yX2_addAll ∈ GW := GW_in (tin_5 (k := 144) (by decide +kernel)) rfl
theorem gw_5_145 : Cond.code yX2_addAll cX2_addAll 3 (none) ∈ GW := GW_in (tin_5 (k := 145) (by decide +kernel)) rfl
theorem gw_5_154 : Cond.methodLink RX10 276 yX5_fold ∈ GW := GW_in (tin_5 (k := 154) (by decide +kernel)) rfl
theorem gw_5_155 : Cond.instanceMethod yX5_fold ∈ GW := GW_in (tin_5 (k := 155) (by decide +kernel)) rfl
theorem gw_5_156 : Cond.selects RX5 yX5_fold yX5_fold ∈ GW := GW_in (tin_5 (k := 156) (by decide +kernel)) rfl
theorem gw_5_157 : Cond.code yX5_fold cX5_fold 3 (none) ∈ GW := GW_in (tin_5 (k := 157) (by decide +kernel)) rfl
theorem gw_5_166 : Cond.methodLink RX10 281 yX3_enlarge ∈ GW := GW_in (tin_5 (k := 166) (by decide +kernel)) rfl
theorem gw_5_167 : Cond.instanceMethod yX3_enlarge ∈ GW := GW_in (tin_5 (k := 167) (by decide +kernel)) rfl
theorem gw_5_168 : Cond.selects RX3 yX3_enlarge yX3_enlarge ∈ GW := GW_in (tin_5 (k := 168) (by decide +kernel)) rfl
theorem gw_5_169 : Cond.code yX3_enlarge cX3_enlarge 6 (some (FieldType.boolean)) ∈ GW := GW_in (tin_5 (k := 169) (by decide +kernel)) rfl
theorem gw_5_170 : Cond.methodLink RX3 75 yX5_cellAt ∈ GW := GW_in (tin_5 (k := 170) (by decide +kernel)) rfl
theorem gw_5_171 : Cond.methodLink RX3 78 yX5_clearCells ∈ GW := GW_in (tin_5 (k := 171) (by decide +kernel)) rfl
theorem gw_5_172 : Cond.methodLink RX3 85 yX2_has ∈ GW := GW_in (tin_5 (k := 172) (by decide +kernel)) rfl
theorem gw_5_173 : Cond.methodLink RX3 91 yX3_settle ∈ GW := GW_in (tin_5 (k := 173) (by decide +kernel)) rfl
theorem gw_5_174 : Cond.methodLink RX3 95 yX5_setCell ∈ GW := GW_in (tin_5 (k := 174) (by decide +kernel)) rfl
theorem gw_5_182 : Cond.methodLink RX10 285 yX10_trayAt ∈ GW := GW_in (tin_5 (k := 182) (by decide +kernel)) rfl
theorem gw_5_184 : Cond.instanceMethod yX10_trayAt ∈ GW := GW_in (tin_5 (k := 184) (by decide +kernel)) rfl
theorem gw_5_185 : Cond.code yX10_trayAt cX10_trayAt 2 (some ((FieldType.object "PerhapsRows$Tray"))) ∈ GW := GW_in (tin_5 (k := 185) (by decide +kernel)) rfl
theorem gw_5_187 : Cond.methodLink RX10 289 yX10_needFilled ∈ GW := GW_in (tin_5 (k := 187) (by decide +kernel)) rfl
theorem gw_5_188 : Cond.static yX10_needFilled ∈ GW := GW_in (tin_5 (k := 188) (by decide +kernel)) rfl
theorem gw_5_189 : Cond.code yX10_needFilled cX10_needFilled 1 (none) ∈ GW := GW_in (tin_5 (k := 189) (by decide +kernel)) rfl
theorem gw_5_191 : Cond.methodLink RX10 293 yX10_needNames ∈ GW := GW_in (tin_5 (k := 191) (by decide +kernel)) rfl
theorem gw_5_193 : Cond.instanceMethod yX10_needNames ∈ GW := GW_in (tin_5 (k := 193) (by decide +kernel)) rfl
theorem gw_5_194 : Cond.code yX10_needNames cX10_needNames 3 (none) ∈ GW := GW_in (tin_5 (k := 194) (by decide +kernel)) rfl
theorem gw_5_195 : Cond.methodLink RX10 327 yX9_numberAt ∈ GW := GW_in (tin_5 (k := 195) (by decide +kernel)) rfl
theorem gw_5_196 : Cond.instanceMethod yX9_numberAt ∈ GW := GW_in (tin_5 (k := 196) (by decide +kernel)) rfl
theorem gw_5_197 : Cond.selects RX9 yX9_numberAt yX9_numberAt ∈ GW := GW_in (tin_5 (k := 197) (by decide +kernel)) rfl
theorem gw_5_198 : Cond.code yX9_numberAt cX9_numberAt 2 (some (FieldType.long)) ∈ GW := GW_in (tin_5 (k := 198) (by decide +kernel)) rfl
theorem gw_5_199 : Cond.constantLong RX9 32 (-1) ∈ GW := GW_in (tin_5 (k := 199) (by decide +kernel)) rfl
theorem gw_5_200 : Cond.methodLink RX10 296 yX9_hasTwoAlike ∈ GW := GW_in (tin_5 (k := 200) (by decide +kernel)) rfl
theorem gw_5_201 : Cond.instanceMethod yX9_hasTwoAlike ∈ GW := GW_in (tin_5 (k := 201) (by decide +kernel)) rfl
theorem gw_5_202 : Cond.selects RX9 yX9_hasTwoAlike yX9_hasTwoAlike ∈ GW := GW_in (tin_5 (k := 202) (by decide +kernel)) rfl
theorem gw_5_203 : Cond.code yX9_hasTwoAlike cX9_hasTwoAlike 3 (some (FieldType.boolean)) ∈ GW := GW_in (tin_5 (k := 203) (by decide +kernel)) rfl
theorem gw_5_204 : Cond.methodLink RX9 38 yX9_numberAt ∈ GW := GW_in (tin_5 (k := 204) (by decide +kernel)) rfl
theorem gw_5_206 : Cond.methodLink RX10 301 yX8_solveFor ∈ GW := GW_in (tin_5 (k := 206) (by decide +kernel)) rfl
theorem gw_5_207 : Cond.instanceMethod yX8_solveFor ∈ GW := GW_in (tin_5 (k := 207) (by decide +kernel)) rfl
theorem gw_5_208 : Cond.selects RX8 yX8_solveFor yX8_solveFor ∈ GW := GW_in (tin_5 (k := 208) (by decide +kernel)) rfl
theorem gw_5_209 : Cond.code yX8_solveFor cX8_solveFor 7 (some (FieldType.boolean)) ∈ GW := GW_in (tin_5 (k := 209) (by decide +kernel)) rfl
theorem gw_5_210 : Cond.methodLink RX8 28 Lib.Math.min.name ∈ GW := GW_in (tin_5 (k := 210) (by decide +kernel)) rfl
theorem gw_5_211 : Cond.methodLink RX8 38 yX9_numberAt ∈ GW := GW_in (tin_5 (k := 211) (by decide +kernel)) rfl
theorem gw_5_212 : Cond.methodLink RX8 42 yX8_state ∈ GW := GW_in (tin_5 (k := 212) (by decide +kernel)) rfl
theorem gw_5_214 : Cond.instanceMethod yX8_state ∈ GW := GW_in (tin_5 (k := 214) (by decide +kernel)) rfl
theorem gw_5_215 : Cond.code yX8_state cX8_state 6 (none) ∈ GW := GW_in (tin_5 (k := 215) (by decide +kernel)) rfl
theorem gw_5_216 : Cond.methodLink RX8 65 yX6_placeOf ∈ GW := GW_in (tin_5 (k := 216) (by decide +kernel)) rfl
theorem gw_5_217 : Cond.methodLink RX8 71 yX6_tagOf ∈ GW := GW_in (tin_5 (k := 217) (by decide +kernel)) rfl
theorem gw_5_218 : Cond.methodLink RX8 51 yX8_chooseFor ∈ GW := GW_in (tin_5 (k := 218) (by decide +kernel)) rfl
theorem gw_5_220 : Cond.instanceMethod yX8_chooseFor ∈ GW := GW_in (tin_5 (k := 220) (by decide +kernel)) rfl
theorem gw_5_221 : Cond.code yX8_chooseFor cX8_chooseFor 4 (some (FieldType.int)) ∈ GW := GW_in (tin_5 (k := 221) (by decide +kernel)) rfl
theorem gw_5_222 : Cond.methodLink RX8 54 yX8_joinTo ∈ GW := GW_in (tin_5 (k := 222) (by decide +kernel)) rfl
theorem gw_5_224 : Cond.instanceMethod yX8_joinTo ∈ GW := GW_in (tin_5 (k := 224) (by decide +kernel)) rfl
theorem gw_5_225 : Cond.code yX8_joinTo cX8_joinTo 5 (none) ∈ GW := GW_in (tin_5 (k := 225) (by decide +kernel)) rfl
theorem gw_5_226 : Cond.methodLink RX8 58 yX8_settle ∈ GW := GW_in (tin_5 (k := 226) (by decide +kernel)) rfl
theorem gw_5_228 : Cond.instanceMethod yX8_settle ∈ GW := GW_in (tin_5 (k := 228) (by decide +kernel)) rfl
theorem gw_5_229 : Cond.code yX8_settle cX8_settle 5 (none) ∈ GW := GW_in (tin_5 (k := 229) (by decide +kernel)) rfl
theorem gw_5_230 : Cond.methodLink RX8 75 yX5_setCell ∈ GW := GW_in (tin_5 (k := 230) (by decide +kernel)) rfl
theorem gw_5_231 : Cond.methodLink RX8 83 yX2_clear ∈ GW := GW_in (tin_5 (k := 231) (by decide +kernel)) rfl
theorem gw_5_232 : Cond.methodLink RX8 88 yX2_add ∈ GW := GW_in (tin_5 (k := 232) (by decide +kernel)) rfl
theorem gw_6_0 : Cond.methodLink RX10 307 yX10_countLies ∈ GW := GW_in (tin_6 (k := 0) (by decide +kernel)) rfl
theorem gw_6_2 : Cond.instanceMethod yX10_countLies ∈ GW := GW_in (tin_6 (k := 2) (by decide +kernel)) rfl
theorem gw_6_3 : Cond.code yX10_countLies cX10_countLies 4 (some (FieldType.int)) ∈ GW := GW_in (tin_6 (k := 3) (by decide +kernel)) rfl
theorem gw_6_4 : Cond.methodLink RX10 314 yX10_commonDivisor ∈ GW := GW_in (tin_6 (k := 4) (by decide +kernel)) rfl
theorem gw_6_5 : Cond.static yX10_commonDivisor ∈ GW := GW_in (tin_6 (k := 5) (by decide +kernel)) rfl
theorem gw_6_6 : Cond.code yX10_commonDivisor cX10_commonDivisor 6 (some (FieldType.int)) ∈ GW := GW_in (tin_6 (k := 6) (by decide +kernel)) rfl
theorem gw_6_14 : Cond.methodLink RX10 323 yX10_isLie ∈ GW := GW_in (tin_6 (k := 14) (by decide +kernel)) rfl
theorem gw_6_16 : Cond.instanceMethod yX10_isLie ∈ GW := GW_in (tin_6 (k := 16) (by decide +kernel)) rfl
theorem gw_6_17 : Cond.code yX10_isLie cX10_isLie 3 (some (FieldType.boolean)) ∈ GW := GW_in (tin_6 (k := 17) (by decide +kernel)) rfl
theorem gw_6_39 : Cond.methodLink RX10 335 yX10_needWhat ∈ GW := GW_in (tin_6 (k := 39) (by decide +kernel)) rfl
theorem gw_6_40 : Cond.static yX10_needWhat ∈ GW := GW_in (tin_6 (k := 40) (by decide +kernel)) rfl
theorem gw_6_41 : Cond.code yX10_needWhat cX10_needWhat 2 (none) ∈ GW := GW_in (tin_6 (k := 41) (by decide +kernel)) rfl
theorem gw_6_43 : Cond.methodLink RX10 338 yX9_allWithin ∈ GW := GW_in (tin_6 (k := 43) (by decide +kernel)) rfl
theorem gw_6_44 : Cond.instanceMethod yX9_allWithin ∈ GW := GW_in (tin_6 (k := 44) (by decide +kernel)) rfl
theorem gw_6_45 : Cond.selects RX9 yX9_allWithin yX9_allWithin ∈ GW := GW_in (tin_6 (k := 45) (by decide +kernel)) rfl
theorem gw_6_46 : Cond.code yX9_allWithin cX9_allWithin 4 (some (FieldType.boolean)) ∈ GW := GW_in (tin_6 (k := 46) (by decide +kernel)) rfl
theorem gw_6_48 : Cond.methodLink RX10 343 yX1_build ∈ GW := GW_in (tin_6 (k := 48) (by decide +kernel)) rfl
theorem gw_6_49 : Cond.instanceMethod yX1_build ∈ GW := GW_in (tin_6 (k := 49) (by decide +kernel)) rfl
theorem gw_6_50 : Cond.selects RX1 yX1_build yX1_build ∈ GW := GW_in (tin_6 (k := 50) (by decide +kernel)) rfl
theorem gw_6_51 : Cond.code yX1_build cX1_build 10 (some (FieldType.boolean)) ∈ GW := GW_in (tin_6 (k := 51) (by decide +kernel)) rfl
theorem gw_6_52 : Cond.methodLink RX1 34 yX2_copyFrom ∈ GW := GW_in (tin_6 (k := 52) (by decide +kernel)) rfl
theorem gw_6_53 : Cond.instanceMethod yX2_copyFrom ∈ GW := GW_in (tin_6 (k := 53) (by decide +kernel)) rfl
theorem gw_6_54 : Cond.selects RX2 yX2_copyFrom yX2_copyFrom ∈ GW := GW_in (tin_6 (k := 54) (by decide +kernel)) rfl
theorem gw_6_55 : Cond.code yX2_copyFrom cX2_copyFrom 2 (none) ∈ GW := GW_in (tin_6 (k := 55) (by decide +kernel)) rfl
theorem gw_6_56 : Cond.methodLink RX2 29 (⟨"java/lang/System", "arraycopy", "(Ljava/lang/Object;ILjava/lang/Object;II)V"⟩ : MethodName) ∈ GW := GW_in (tin_6 (k := 56) (by decide +kernel)) rfl
theorem gw_6_57 : Cond.methodLink RX1 38 yX1_gatherOutside ∈ GW := GW_in (tin_6 (k := 57) (by decide +kernel)) rfl
theorem gw_6_58 : Cond.static yX1_gatherOutside ∈ GW := GW_in (tin_6 (k := 58) (by decide +kernel)) rfl
theorem gw_6_59 : Cond.code yX1_gatherOutside cX1_gatherOutside 5 (none) ∈ GW := GW_in (tin_6 (k := 59) (by decide +kernel)) rfl
theorem gw_6_60 : Cond.methodLink RX1 61 yX2_clear ∈ GW := GW_in (tin_6 (k := 60) (by decide +kernel)) rfl
theorem gw_6_61 : Cond.methodLink RX1 47 yX9_numberAt ∈ GW := GW_in (tin_6 (k := 61) (by decide +kernel)) rfl
theorem gw_6_62 : Cond.methodLink RX1 64 yX2_has ∈ GW := GW_in (tin_6 (k := 62) (by decide +kernel)) rfl
theorem gw_6_63 : Cond.methodLink RX1 68 yX2_add ∈ GW := GW_in (tin_6 (k := 63) (by decide +kernel)) rfl
theorem gw_6_64 : Cond.methodLink RX1 51 yX2_many ∈ GW := GW_in (tin_6 (k := 64) (by decide +kernel)) rfl
theorem gw_6_65 : Cond.methodLink RX1 57 yX1_keepWronged ∈ GW := GW_in (tin_6 (k := 65) (by decide +kernel)) rfl
theorem gw_6_66 : Cond.static yX1_keepWronged ∈ GW := GW_in (tin_6 (k := 66) (by decide +kernel)) rfl
theorem gw_6_67 : Cond.code yX1_keepWronged cX1_keepWronged 8 (none) ∈ GW := GW_in (tin_6 (k := 67) (by decide +kernel)) rfl
theorem gw_6_68 : Cond.methodLink RX1 77 yX6_placesOf ∈ GW := GW_in (tin_6 (k := 68) (by decide +kernel)) rfl
theorem gw_6_69 : Cond.instanceMethod yX6_placesOf ∈ GW := GW_in (tin_6 (k := 69) (by decide +kernel)) rfl
theorem gw_6_70 : Cond.selects RX6 yX6_placesOf yX6_placesOf ∈ GW := GW_in (tin_6 (k := 70) (by decide +kernel)) rfl
theorem gw_6_71 : Cond.code yX6_placesOf cX6_placesOf 7 (some (FieldType.long)) ∈ GW := GW_in (tin_6 (k := 71) (by decide +kernel)) rfl
theorem gw_6_72 : Cond.methodLink RX6 68 yX6_placeOf ∈ GW := GW_in (tin_6 (k := 72) (by decide +kernel)) rfl
theorem gw_6_73 : Cond.constantLong RX1 81 (-1) ∈ GW := GW_in (tin_6 (k := 73) (by decide +kernel)) rfl
theorem gw_6_74 : Cond.methodLink RX1 83 yX2_remove ∈ GW := GW_in (tin_6 (k := 74) (by decide +kernel)) rfl
theorem gw_6_82 : Cond.methodLink RX10 356 yX0_hear ∈ GW := GW_in (tin_6 (k := 82) (by decide +kernel)) rfl
theorem gw_6_83 : Cond.instanceMethod yX0_hear ∈ GW := GW_in (tin_6 (k := 83) (by decide +kernel)) rfl
theorem gw_6_84 : Cond.selects RX0 yX0_hear yX0_hear ∈ GW := GW_in (tin_6 (k := 84) (by decide +kernel)) rfl
theorem gw_6_85 : Cond.code yX0_hear cX0_hear 8 (none) ∈ GW := GW_in (tin_6 (k := 85) (by decide +kernel)) rfl
theorem gw_6_86 : Cond.methodLink RX0 51 yX0_lay ∈ GW := GW_in (tin_6 (k := 86) (by decide +kernel)) rfl
theorem gw_6_88 : Cond.instanceMethod yX0_lay ∈ GW := GW_in (tin_6 (k := 88) (by decide +kernel)) rfl
theorem gw_6_89 : Cond.code yX0_lay cX0_lay 4 (none) ∈ GW := GW_in (tin_6 (k := 89) (by decide +kernel)) rfl
theorem gw_6_90 : Cond.methodLink RX0 32 Lib.Math.min.name ∈ GW := GW_in (tin_6 (k := 90) (by decide +kernel)) rfl
theorem gw_6_91 : Cond.methodLink RX0 47 yX6_placesOf ∈ GW := GW_in (tin_6 (k := 91) (by decide +kernel)) rfl
theorem gw_6_92 : Cond.methodLink RX0 55 yX5_bits ∈ GW := GW_in (tin_6 (k := 92) (by decide +kernel)) rfl
theorem gw_6_93 : Cond.instanceMethod yX5_bits ∈ GW := GW_in (tin_6 (k := 93) (by decide +kernel)) rfl
theorem gw_6_94 : Cond.selects RX5 yX5_bits yX5_bits ∈ GW := GW_in (tin_6 (k := 94) (by decide +kernel)) rfl
theorem gw_6_95 : Cond.code yX5_bits cX5_bits 4 (some (FieldType.long)) ∈ GW := GW_in (tin_6 (k := 95) (by decide +kernel)) rfl
theorem gw_6_96 : Cond.methodLink RX0 63 yX2_clear ∈ GW := GW_in (tin_6 (k := 96) (by decide +kernel)) rfl
theorem gw_6_97 : Cond.methodLink RX0 71 yX9_numberAt ∈ GW := GW_in (tin_6 (k := 97) (by decide +kernel)) rfl
theorem gw_6_98 : Cond.methodLink RX0 75 yX2_add ∈ GW := GW_in (tin_6 (k := 98) (by decide +kernel)) rfl
theorem gw_6_99 : Cond.constantLong RX0 79 (-1) ∈ GW := GW_in (tin_6 (k := 99) (by decide +kernel)) rfl
theorem gw_6_100 : Cond.methodLink RX10 360 yX0_knownPlaces ∈ GW := GW_in (tin_6 (k := 100) (by decide +kernel)) rfl
theorem gw_6_101 : Cond.instanceMethod yX0_knownPlaces ∈ GW := GW_in (tin_6 (k := 101) (by decide +kernel)) rfl
theorem gw_6_102 : Cond.selects RX0 yX0_knownPlaces yX0_knownPlaces ∈ GW := GW_in (tin_6 (k := 102) (by decide +kernel)) rfl
theorem gw_6_103 : Cond.code yX0_knownPlaces cX0_knownPlaces 1 (some (FieldType.int)) ∈ GW := GW_in (tin_6 (k := 103) (by decide +kernel)) rfl
theorem gw_6_104 : Cond.methodLink RX0 81 yJ13_bitCount_95d88 ∈ GW := GW_in (tin_6 (k := 104) (by decide +kernel)) rfl
theorem gw_6_105 : Cond.methodLink RX10 363 yX0_knownNames ∈ GW := GW_in (tin_6 (k := 105) (by decide +kernel)) rfl
theorem gw_6_106 : Cond.instanceMethod yX0_knownNames ∈ GW := GW_in (tin_6 (k := 106) (by decide +kernel)) rfl
theorem gw_6_107 : Cond.selects RX0 yX0_knownNames yX0_knownNames ∈ GW := GW_in (tin_6 (k := 107) (by decide +kernel)) rfl
theorem gw_6_108 : Cond.code yX0_knownNames cX0_knownNames 4 (some (FieldType.int)) ∈ GW := GW_in (tin_6 (k := 108) (by decide +kernel)) rfl
theorem gw_6_109 : Cond.methodLink RX0 87 yX2_has ∈ GW := GW_in (tin_6 (k := 109) (by decide +kernel)) rfl
theorem gw_6_117 : Cond.methodLink RX10 367 yX0_bestQuestion ∈ GW := GW_in (tin_6 (k := 117) (by decide +kernel)) rfl
theorem gw_6_118 : Cond.instanceMethod yX0_bestQuestion ∈ GW := GW_in (tin_6 (k := 118) (by decide +kernel)) rfl
theorem gw_6_119 : Cond.selects RX0 yX0_bestQuestion yX0_bestQuestion ∈ GW := GW_in (tin_6 (k := 119) (by decide +kernel)) rfl
theorem gw_6_120 : Cond.code yX0_bestQuestion cX0_bestQuestion 5 (some (FieldType.int)) ∈ GW := GW_in (tin_6 (k := 120) (by decide +kernel)) rfl
theorem gw_6_128 : Cond.methodLink RX10 370 yX0_findWorst ∈ GW := GW_in (tin_6 (k := 128) (by decide +kernel)) rfl
theorem gw_6_129 : Cond.instanceMethod yX0_findWorst ∈ GW := GW_in (tin_6 (k := 129) (by decide +kernel)) rfl
theorem gw_6_130 : Cond.selects RX0 yX0_findWorst yX0_findWorst ∈ GW := GW_in (tin_6 (k := 130) (by decide +kernel)) rfl
theorem gw_6_131 : Cond.code yX0_findWorst cX0_findWorst 7 (some (FieldType.boolean)) ∈ GW := GW_in (tin_6 (k := 131) (by decide +kernel)) rfl
theorem gw_6_132 : Cond.methodLink RX0 100 yX0_liesWithin ∈ GW := GW_in (tin_6 (k := 132) (by decide +kernel)) rfl
theorem gw_6_134 : Cond.instanceMethod yX0_liesWithin ∈ GW := GW_in (tin_6 (k := 134) (by decide +kernel)) rfl
theorem gw_6_135 : Cond.code yX0_liesWithin cX0_liesWithin 7 (some (FieldType.int)) ∈ GW := GW_in (tin_6 (k := 135) (by decide +kernel)) rfl
theorem gw_6_143 : Cond.methodLink RX10 379 yX0_fewestHolding ∈ GW := GW_in (tin_6 (k := 143) (by decide +kernel)) rfl
theorem gw_6_144 : Cond.instanceMethod yX0_fewestHolding ∈ GW := GW_in (tin_6 (k := 144) (by decide +kernel)) rfl
theorem gw_6_145 : Cond.selects RX0 yX0_fewestHolding yX0_fewestHolding ∈ GW := GW_in (tin_6 (k := 145) (by decide +kernel)) rfl
theorem gw_6_146 : Cond.code yX0_fewestHolding cX0_fewestHolding 9 (some (FieldType.int)) ∈ GW := GW_in (tin_6 (k := 146) (by decide +kernel)) rfl
theorem gw_6_147 : Cond.constant RX0 104 (1000000) ∈ GW := GW_in (tin_6 (k := 147) (by decide +kernel)) rfl
theorem gw_6_148 : Cond.methodLink RX0 105 yJ7_fill_53178 ∈ GW := GW_in (tin_6 (k := 148) (by decide +kernel)) rfl
theorem gw_6_149 : Cond.methodLink RX0 111 yX0_partOf ∈ GW := GW_in (tin_6 (k := 149) (by decide +kernel)) rfl
theorem gw_6_150 : Cond.static yX0_partOf ∈ GW := GW_in (tin_6 (k := 150) (by decide +kernel)) rfl
theorem gw_6_151 : Cond.code yX0_partOf cX0_partOf 7 (some (FieldType.int)) ∈ GW := GW_in (tin_6 (k := 151) (by decide +kernel)) rfl
theorem gw_6_152 : Cond.methodLink RX0 115 yX0_addPart ∈ GW := GW_in (tin_6 (k := 152) (by decide +kernel)) rfl
theorem gw_6_154 : Cond.instanceMethod yX0_addPart ∈ GW := GW_in (tin_6 (k := 154) (by decide +kernel)) rfl
theorem gw_6_155 : Cond.code yX0_addPart cX0_addPart 5 (none) ∈ GW := GW_in (tin_6 (k := 155) (by decide +kernel)) rfl
theorem gw_6_164 : Cond.methodLink RX10 385 yX0_findChosen ∈ GW := GW_in (tin_6 (k := 164) (by decide +kernel)) rfl
theorem gw_6_165 : Cond.instanceMethod yX0_findChosen ∈ GW := GW_in (tin_6 (k := 165) (by decide +kernel)) rfl
theorem gw_6_166 : Cond.selects RX0 yX0_findChosen yX0_findChosen ∈ GW := GW_in (tin_6 (k := 166) (by decide +kernel)) rfl
theorem gw_6_167 : Cond.code yX0_findChosen cX0_findChosen 6 (some (FieldType.boolean)) ∈ GW := GW_in (tin_6 (k := 167) (by decide +kernel)) rfl
theorem gw_6_168 : Cond.methodLink RX0 122 yJ7_fill_d0a16 ∈ GW := GW_in (tin_6 (k := 168) (by decide +kernel)) rfl
theorem gw_6_169 : Cond.methodLink RX0 126 yX0_weigh ∈ GW := GW_in (tin_6 (k := 169) (by decide +kernel)) rfl
theorem gw_6_171 : Cond.instanceMethod yX0_weigh ∈ GW := GW_in (tin_6 (k := 171) (by decide +kernel)) rfl
theorem gw_6_172 : Cond.code yX0_weigh cX0_weigh 10 (none) ∈ GW := GW_in (tin_6 (k := 172) (by decide +kernel)) rfl
theorem gw_6_173 : Cond.methodLink RX0 130 yX6_placeOf ∈ GW := GW_in (tin_6 (k := 173) (by decide +kernel)) rfl
theorem gw_6_182 : Cond.methodLink RX10 396 yX9_begin ∈ GW := GW_in (tin_6 (k := 182) (by decide +kernel)) rfl
theorem gw_6_183 : Cond.instanceMethod yX9_begin ∈ GW := GW_in (tin_6 (k := 183) (by decide +kernel)) rfl
theorem gw_6_184 : Cond.selects RX9 yX9_begin yX9_begin ∈ GW := GW_in (tin_6 (k := 184) (by decide +kernel)) rfl
theorem gw_6_185 : Cond.code yX9_begin cX9_begin 3 (none) ∈ GW := GW_in (tin_6 (k := 185) (by decide +kernel)) rfl
theorem gw_6_186 : Cond.methodLink RX9 26 yJ7_fill_d0a16 ∈ GW := GW_in (tin_6 (k := 186) (by decide +kernel)) rfl
theorem gw_6_195 : Cond.methodLink RX10 400 yX9_keep ∈ GW := GW_in (tin_6 (k := 195) (by decide +kernel)) rfl
theorem gw_6_196 : Cond.instanceMethod yX9_keep ∈ GW := GW_in (tin_6 (k := 196) (by decide +kernel)) rfl
theorem gw_6_197 : Cond.selects RX9 yX9_keep yX9_keep ∈ GW := GW_in (tin_6 (k := 197) (by decide +kernel)) rfl
theorem gw_6_198 : Cond.code yX9_keep cX9_keep 4 (some (FieldType.long)) ∈ GW := GW_in (tin_6 (k := 198) (by decide +kernel)) rfl
theorem gw_6_199 : Cond.methodLink RX9 34 yX9_cut ∈ GW := GW_in (tin_6 (k := 199) (by decide +kernel)) rfl
theorem gw_6_201 : Cond.instanceMethod yX9_cut ∈ GW := GW_in (tin_6 (k := 201) (by decide +kernel)) rfl
theorem gw_6_202 : Cond.code yX9_cut cX9_cut 3 (some (FieldType.long)) ∈ GW := GW_in (tin_6 (k := 202) (by decide +kernel)) rfl
theorem gw_6_217 : Cond.methodLink RX10 404 yX10_imageAt ∈ GW := GW_in (tin_6 (k := 217) (by decide +kernel)) rfl
theorem gw_6_219 : Cond.instanceMethod yX10_imageAt ∈ GW := GW_in (tin_6 (k := 219) (by decide +kernel)) rfl
theorem gw_6_220 : Cond.code yX10_imageAt cX10_imageAt 2 (some ((FieldType.object "PerhapsRows$Shelf"))) ∈ GW := GW_in (tin_6 (k := 220) (by decide +kernel)) rfl
theorem gw_6_222 : Cond.methodLink RX10 408 yX7_copyFrom ∈ GW := GW_in (tin_6 (k := 222) (by decide +kernel)) rfl
theorem gw_6_223 : Cond.instanceMethod yX7_copyFrom ∈ GW := GW_in (tin_6 (k := 223) (by decide +kernel)) rfl
theorem gw_6_224 : Cond.selects RX7 yX7_copyFrom yX7_copyFrom ∈ GW := GW_in (tin_6 (k := 224) (by decide +kernel)) rfl
theorem gw_6_225 : Cond.code yX7_copyFrom cX7_copyFrom 3 (none) ∈ GW := GW_in (tin_6 (k := 225) (by decide +kernel)) rfl
theorem gw_6_226 : Cond.methodLink RX7 29 yX6_copyFrom ∈ GW := GW_in (tin_6 (k := 226) (by decide +kernel)) rfl
theorem gw_6_227 : Cond.methodLink RX7 33 yX5_copyFrom ∈ GW := GW_in (tin_6 (k := 227) (by decide +kernel)) rfl
theorem gw_6_228 : Cond.instanceMethod yX5_copyFrom ∈ GW := GW_in (tin_6 (k := 228) (by decide +kernel)) rfl
theorem gw_6_229 : Cond.selects RX5 yX5_copyFrom yX5_copyFrom ∈ GW := GW_in (tin_6 (k := 229) (by decide +kernel)) rfl
theorem gw_6_230 : Cond.code yX5_copyFrom cX5_copyFrom 2 (none) ∈ GW := GW_in (tin_6 (k := 230) (by decide +kernel)) rfl
theorem gw_6_231 : Cond.methodLink RX5 116 yX2_copyFrom ∈ GW := GW_in (tin_6 (k := 231) (by decide +kernel)) rfl
theorem gw_6_232 : Cond.methodLink RX5 119 (⟨"java/lang/System", "arraycopy", "(Ljava/lang/Object;ILjava/lang/Object;II)V"⟩ : MethodName) ∈ GW := GW_in (tin_6 (k := 232) (by decide +kernel)) rfl
theorem gw_7_7 : Cond.methodLink RX11 88 yX11_begins ∈ GW := GW_in (tin_7 (k := 7) (by decide +kernel)) rfl
theorem gw_7_8 : Cond.static yX11_begins ∈ GW := GW_in (tin_7 (k := 8) (by decide +kernel)) rfl
theorem gw_7_9 : Cond.code yX11_begins cX11_begins 2 (none) ∈ GW := GW_in (tin_7 (k := 9) (by decide +kernel)) rfl
theorem gw_7_10 : Cond.fieldLink RX11 9 "PerhapsRowsModel" "told" "[I" ∈ GW := GW_in (tin_7 (k := 10) (by decide +kernel)) rfl
theorem gw_7_11 : Cond.fieldLink RX11 13 "PerhapsRowsModel" "fresh" "[I" ∈ GW := GW_in (tin_7 (k := 11) (by decide +kernel)) rfl
theorem gw_7_12 : Cond.fieldLink RX11 16 "PerhapsRowsModel" "images" "[I" ∈ GW := GW_in (tin_7 (k := 12) (by decide +kernel)) rfl
theorem gw_7_13 : Cond.fieldLink RX11 19 "PerhapsRowsModel" "saved" "[I" ∈ GW := GW_in (tin_7 (k := 13) (by decide +kernel)) rfl
theorem gw_7_14 : Cond.fieldLink RX11 22 "PerhapsRowsModel" "isImage" "[Z" ∈ GW := GW_in (tin_7 (k := 14) (by decide +kernel)) rfl
theorem gw_7_15 : Cond.fieldLink RX11 92 "PerhapsRowsModel" "thrown" "I" ∈ GW := GW_in (tin_7 (k := 15) (by decide +kernel)) rfl
theorem gw_7_16 : Cond.fieldLink RX11 26 "PerhapsRowsModel" "tape" "[I" ∈ GW := GW_in (tin_7 (k := 16) (by decide +kernel)) rfl
theorem gw_7_17 : Cond.fieldLink RX11 95 "PerhapsRowsModel" "taped" "I" ∈ GW := GW_in (tin_7 (k := 17) (by decide +kernel)) rfl
theorem gw_7_18 : Cond.fieldLink RX11 98 "PerhapsRowsModel" "size" "I" ∈ GW := GW_in (tin_7 (k := 18) (by decide +kernel)) rfl
theorem gw_7_19 : Cond.fieldLink RX11 101 "PerhapsRowsModel" "at" "I" ∈ GW := GW_in (tin_7 (k := 19) (by decide +kernel)) rfl
theorem gw_7_20 : Cond.fieldLink RX11 104 "PerhapsRowsModel" "begin" "I" ∈ GW := GW_in (tin_7 (k := 20) (by decide +kernel)) rfl
theorem gw_7_21 : Cond.fieldLink RX11 107 "PerhapsRowsModel" "token" "I" ∈ GW := GW_in (tin_7 (k := 21) (by decide +kernel)) rfl
theorem gw_7_22 : Cond.fieldLink RX11 121 "PerhapsRowsModel" "worth" "I" ∈ GW := GW_in (tin_7 (k := 22) (by decide +kernel)) rfl
theorem gw_7_23 : Cond.fieldLink RX11 171 "PerhapsRowsModel" "open" "I" ∈ GW := GW_in (tin_7 (k := 23) (by decide +kernel)) rfl
theorem gw_7_24 : Cond.fieldLink RX11 127 "PerhapsRowsModel" "bad" "I" ∈ GW := GW_in (tin_7 (k := 24) (by decide +kernel)) rfl
theorem gw_7_25 : Cond.fieldLink RX11 136 "PerhapsRowsModel" "badPlace" "I" ∈ GW := GW_in (tin_7 (k := 25) (by decide +kernel)) rfl
theorem gw_7_26 : Cond.fieldLink RX11 207 "PerhapsRowsModel" "faultKind" "I" ∈ GW := GW_in (tin_7 (k := 26) (by decide +kernel)) rfl
theorem gw_7_27 : Cond.fieldLink RX11 29 "PerhapsRowsModel" "faultPlace" "I" ∈ GW := GW_in (tin_7 (k := 27) (by decide +kernel)) rfl
theorem gw_7_28 : Cond.fieldLink RX11 33 "PerhapsRowsModel" "heap" "[I" ∈ GW := GW_in (tin_7 (k := 28) (by decide +kernel)) rfl
theorem gw_7_29 : Cond.fieldLink RX11 36 "PerhapsRowsModel" "line" "[I" ∈ GW := GW_in (tin_7 (k := 29) (by decide +kernel)) rfl
theorem gw_7_30 : Cond.fieldLink RX11 39 "PerhapsRowsModel" "pushedFrom" "[I" ∈ GW := GW_in (tin_7 (k := 30) (by decide +kernel)) rfl
theorem gw_7_31 : Cond.fieldLink RX11 42 "PerhapsRowsModel" "isCome" "[Z" ∈ GW := GW_in (tin_7 (k := 31) (by decide +kernel)) rfl
theorem gw_7_32 : Cond.fieldLink RX11 45 "PerhapsRowsModel" "holds" "[J" ∈ GW := GW_in (tin_7 (k := 32) (by decide +kernel)) rfl
theorem gw_7_33 : Cond.fieldLink RX11 49 "PerhapsRowsModel" "asks" "[I" ∈ GW := GW_in (tin_7 (k := 33) (by decide +kernel)) rfl
theorem gw_7_34 : Cond.fieldLink RX11 52 "PerhapsRowsModel" "takenBy" "[I" ∈ GW := GW_in (tin_7 (k := 34) (by decide +kernel)) rfl
theorem gw_7_35 : Cond.fieldLink RX11 55 "PerhapsRowsModel" "isTaken" "[Z" ∈ GW := GW_in (tin_7 (k := 35) (by decide +kernel)) rfl
theorem gw_7_36 : Cond.fieldLink RX11 342 "PerhapsRowsModel" "upper" "I" ∈ GW := GW_in (tin_7 (k := 36) (by decide +kernel)) rfl
theorem gw_7_37 : Cond.fieldLink RX11 345 "PerhapsRowsModel" "lower" "I" ∈ GW := GW_in (tin_7 (k := 37) (by decide +kernel)) rfl
theorem gw_7_38 : Cond.fieldLink RX11 58 "PerhapsRowsModel" "bit" "[Z" ∈ GW := GW_in (tin_7 (k := 38) (by decide +kernel)) rfl
theorem gw_7_39 : Cond.fieldLink RX11 61 "PerhapsRowsModel" "takes" "[Z" ∈ GW := GW_in (tin_7 (k := 39) (by decide +kernel)) rfl
theorem gw_7_40 : Cond.fieldLink RX11 64 "PerhapsRowsModel" "tookAhead" "[Z" ∈ GW := GW_in (tin_7 (k := 40) (by decide +kernel)) rfl
theorem gw_7_41 : Cond.fieldLink RX11 67 "PerhapsRowsModel" "isLeft" "[Z" ∈ GW := GW_in (tin_7 (k := 41) (by decide +kernel)) rfl
theorem gw_7_42 : Cond.fieldLink RX11 70 "PerhapsRowsModel" "isKnown" "[Z" ∈ GW := GW_in (tin_7 (k := 42) (by decide +kernel)) rfl
theorem gw_7_43 : Cond.fieldLink RX11 73 "PerhapsRowsModel" "isAsked" "[Z" ∈ GW := GW_in (tin_7 (k := 43) (by decide +kernel)) rfl
theorem gw_7_44 : Cond.fieldLink RX11 76 "PerhapsRowsModel" "fewest" "[I" ∈ GW := GW_in (tin_7 (k := 44) (by decide +kernel)) rfl
theorem gw_7_45 : Cond.fieldLink RX11 79 "PerhapsRowsModel" "tSort" "[I" ∈ GW := GW_in (tin_7 (k := 45) (by decide +kernel)) rfl
theorem gw_7_46 : Cond.fieldLink RX11 82 "PerhapsRowsModel" "tMany" "[I" ∈ GW := GW_in (tin_7 (k := 46) (by decide +kernel)) rfl
theorem gw_7_47 : Cond.fieldLink RX11 85 "PerhapsRowsModel" "numbers" "[J" ∈ GW := GW_in (tin_7 (k := 47) (by decide +kernel)) rfl
theorem gw_7_48 : Cond.laysFinal RX11 "PerhapsRowsModel" "told" "[I" ∈ GW := GW_in (tin_7 (k := 48) (by decide +kernel)) rfl
theorem gw_7_50 : Cond.laysFinal RX11 "PerhapsRowsModel" "fresh" "[I" ∈ GW := GW_in (tin_7 (k := 50) (by decide +kernel)) rfl
theorem gw_7_52 : Cond.laysFinal RX11 "PerhapsRowsModel" "images" "[I" ∈ GW := GW_in (tin_7 (k := 52) (by decide +kernel)) rfl
theorem gw_7_54 : Cond.laysFinal RX11 "PerhapsRowsModel" "saved" "[I" ∈ GW := GW_in (tin_7 (k := 54) (by decide +kernel)) rfl
theorem gw_7_56 : Cond.laysFinal RX11 "PerhapsRowsModel" "isImage" "[Z" ∈ GW := GW_in (tin_7 (k := 56) (by decide +kernel)) rfl
theorem gw_7_58 : Cond.lays RX11 "PerhapsRowsModel" "thrown" "I" ∈ GW := GW_in (tin_7 (k := 58) (by decide +kernel)) rfl
theorem gw_7_60 : Cond.laysFinal RX11 "PerhapsRowsModel" "tape" "[I" ∈ GW := GW_in (tin_7 (k := 60) (by decide +kernel)) rfl
theorem gw_7_62 : Cond.lays RX11 "PerhapsRowsModel" "taped" "I" ∈ GW := GW_in (tin_7 (k := 62) (by decide +kernel)) rfl
theorem gw_7_64 : Cond.lays RX11 "PerhapsRowsModel" "size" "I" ∈ GW := GW_in (tin_7 (k := 64) (by decide +kernel)) rfl
theorem gw_7_66 : Cond.lays RX11 "PerhapsRowsModel" "at" "I" ∈ GW := GW_in (tin_7 (k := 66) (by decide +kernel)) rfl
theorem gw_7_68 : Cond.lays RX11 "PerhapsRowsModel" "begin" "I" ∈ GW := GW_in (tin_7 (k := 68) (by decide +kernel)) rfl
theorem gw_7_70 : Cond.lays RX11 "PerhapsRowsModel" "token" "I" ∈ GW := GW_in (tin_7 (k := 70) (by decide +kernel)) rfl
theorem gw_7_72 : Cond.lays RX11 "PerhapsRowsModel" "worth" "I" ∈ GW := GW_in (tin_7 (k := 72) (by decide +kernel)) rfl
theorem gw_7_74 : Cond.lays RX11 "PerhapsRowsModel" "open" "I" ∈ GW := GW_in (tin_7 (k := 74) (by decide +kernel)) rfl
theorem gw_7_76 : Cond.lays RX11 "PerhapsRowsModel" "bad" "I" ∈ GW := GW_in (tin_7 (k := 76) (by decide +kernel)) rfl
theorem gw_7_78 : Cond.lays RX11 "PerhapsRowsModel" "badPlace" "I" ∈ GW := GW_in (tin_7 (k := 78) (by decide +kernel)) rfl
theorem gw_7_80 : Cond.lays RX11 "PerhapsRowsModel" "faultKind" "I" ∈ GW := GW_in (tin_7 (k := 80) (by decide +kernel)) rfl
theorem gw_7_82 : Cond.lays RX11 "PerhapsRowsModel" "faultPlace" "I" ∈ GW := GW_in (tin_7 (k := 82) (by decide +kernel)) rfl
theorem gw_7_84 : Cond.laysFinal RX11 "PerhapsRowsModel" "heap" "[I" ∈ GW := GW_in (tin_7 (k := 84) (by decide +kernel)) rfl
theorem gw_7_86 : Cond.laysFinal RX11 "PerhapsRowsModel" "line" "[I" ∈ GW := GW_in (tin_7 (k := 86) (by decide +kernel)) rfl
theorem gw_7_88 : Cond.laysFinal RX11 "PerhapsRowsModel" "pushedFrom" "[I" ∈ GW := GW_in (tin_7 (k := 88) (by decide +kernel)) rfl
theorem gw_7_90 : Cond.laysFinal RX11 "PerhapsRowsModel" "isCome" "[Z" ∈ GW := GW_in (tin_7 (k := 90) (by decide +kernel)) rfl
theorem gw_7_92 : Cond.laysFinal RX11 "PerhapsRowsModel" "holds" "[J" ∈ GW := GW_in (tin_7 (k := 92) (by decide +kernel)) rfl
theorem gw_7_94 : Cond.laysFinal RX11 "PerhapsRowsModel" "asks" "[I" ∈ GW := GW_in (tin_7 (k := 94) (by decide +kernel)) rfl
theorem gw_7_96 : Cond.laysFinal RX11 "PerhapsRowsModel" "takenBy" "[I" ∈ GW := GW_in (tin_7 (k := 96) (by decide +kernel)) rfl
theorem gw_7_98 : Cond.laysFinal RX11 "PerhapsRowsModel" "isTaken" "[Z" ∈ GW := GW_in (tin_7 (k := 98) (by decide +kernel)) rfl
theorem gw_7_100 : Cond.lays RX11 "PerhapsRowsModel" "upper" "I" ∈ GW := GW_in (tin_7 (k := 100) (by decide +kernel)) rfl
theorem gw_7_102 : Cond.lays RX11 "PerhapsRowsModel" "lower" "I" ∈ GW := GW_in (tin_7 (k := 102) (by decide +kernel)) rfl
theorem gw_7_104 : Cond.laysFinal RX11 "PerhapsRowsModel" "bit" "[Z" ∈ GW := GW_in (tin_7 (k := 104) (by decide +kernel)) rfl
theorem gw_7_106 : Cond.laysFinal RX11 "PerhapsRowsModel" "takes" "[Z" ∈ GW := GW_in (tin_7 (k := 106) (by decide +kernel)) rfl
theorem gw_7_108 : Cond.laysFinal RX11 "PerhapsRowsModel" "tookAhead" "[Z" ∈ GW := GW_in (tin_7 (k := 108) (by decide +kernel)) rfl
theorem gw_7_110 : Cond.laysFinal RX11 "PerhapsRowsModel" "isLeft" "[Z" ∈ GW := GW_in (tin_7 (k := 110) (by decide +kernel)) rfl
theorem gw_7_112 : Cond.laysFinal RX11 "PerhapsRowsModel" "isKnown" "[Z" ∈ GW := GW_in (tin_7 (k := 112) (by decide +kernel)) rfl
theorem gw_7_114 : Cond.laysFinal RX11 "PerhapsRowsModel" "isAsked" "[Z" ∈ GW := GW_in (tin_7 (k := 114) (by decide +kernel)) rfl
theorem gw_7_116 : Cond.laysFinal RX11 "PerhapsRowsModel" "fewest" "[I" ∈ GW := GW_in (tin_7 (k := 116) (by decide +kernel)) rfl
theorem gw_7_118 : Cond.laysFinal RX11 "PerhapsRowsModel" "tSort" "[I" ∈ GW := GW_in (tin_7 (k := 118) (by decide +kernel)) rfl
theorem gw_7_120 : Cond.laysFinal RX11 "PerhapsRowsModel" "tMany" "[I" ∈ GW := GW_in (tin_7 (k := 120) (by decide +kernel)) rfl
theorem gw_7_122 : Cond.laysFinal RX11 "PerhapsRowsModel" "numbers" "[J" ∈ GW := GW_in (tin_7 (k := 122) (by decide +kernel)) rfl
theorem gw_7_138 : Cond.methodLink RX11 157 yX11_within ∈ GW := GW_in (tin_7 (k := 138) (by decide +kernel)) rfl
theorem gw_7_139 : Cond.static yX11_within ∈ GW := GW_in (tin_7 (k := 139) (by decide +kernel)) rfl
theorem gw_7_140 : Cond.code yX11_within cX11_within 6 (some (FieldType.boolean)) ∈ GW := GW_in (tin_7 (k := 140) (by decide +kernel)) rfl
theorem gw_7_141 : Cond.methodLink RX11 201 yX11_fails ∈ GW := GW_in (tin_7 (k := 141) (by decide +kernel)) rfl
theorem gw_7_143 : Cond.instanceMethod yX11_fails ∈ GW := GW_in (tin_7 (k := 143) (by decide +kernel)) rfl
theorem gw_7_144 : Cond.code yX11_fails cX11_fails 2 (some (FieldType.int)) ∈ GW := GW_in (tin_7 (k := 144) (by decide +kernel)) rfl
theorem gw_7_145 : Cond.methodLink RX11 133 yX11_reads ∈ GW := GW_in (tin_7 (k := 145) (by decide +kernel)) rfl
theorem gw_7_147 : Cond.instanceMethod yX11_reads ∈ GW := GW_in (tin_7 (k := 147) (by decide +kernel)) rfl
theorem gw_7_148 : Cond.code yX11_reads cX11_reads 2 (none) ∈ GW := GW_in (tin_7 (k := 148) (by decide +kernel)) rfl
theorem gw_7_149 : Cond.methodLink RX11 110 yX11_isLetter ∈ GW := GW_in (tin_7 (k := 149) (by decide +kernel)) rfl
theorem gw_7_150 : Cond.static yX11_isLetter ∈ GW := GW_in (tin_7 (k := 150) (by decide +kernel)) rfl
theorem gw_7_151 : Cond.code yX11_isLetter cX11_isLetter 1 (some (FieldType.boolean)) ∈ GW := GW_in (tin_7 (k := 151) (by decide +kernel)) rfl
theorem gw_7_152 : Cond.methodLink RX11 114 yX11_see ∈ GW := GW_in (tin_7 (k := 152) (by decide +kernel)) rfl
theorem gw_7_154 : Cond.instanceMethod yX11_see ∈ GW := GW_in (tin_7 (k := 154) (by decide +kernel)) rfl
theorem gw_7_155 : Cond.code yX11_see cX11_see 2 (some (FieldType.int)) ∈ GW := GW_in (tin_7 (k := 155) (by decide +kernel)) rfl
theorem gw_7_156 : Cond.methodLink RX11 118 yX11_isDigit ∈ GW := GW_in (tin_7 (k := 156) (by decide +kernel)) rfl
theorem gw_7_157 : Cond.static yX11_isDigit ∈ GW := GW_in (tin_7 (k := 157) (by decide +kernel)) rfl
theorem gw_7_158 : Cond.code yX11_isDigit cX11_isDigit 1 (some (FieldType.boolean)) ∈ GW := GW_in (tin_7 (k := 158) (by decide +kernel)) rfl
theorem gw_7_159 : Cond.methodLink RX11 124 yX11_isMark ∈ GW := GW_in (tin_7 (k := 159) (by decide +kernel)) rfl
theorem gw_7_160 : Cond.static yX11_isMark ∈ GW := GW_in (tin_7 (k := 160) (by decide +kernel)) rfl
theorem gw_7_161 : Cond.code yX11_isMark cX11_isMark 1 (some (FieldType.boolean)) ∈ GW := GW_in (tin_7 (k := 161) (by decide +kernel)) rfl
theorem gw_7_162 : Cond.methodLink RX11 204 yX11_readLine ∈ GW := GW_in (tin_7 (k := 162) (by decide +kernel)) rfl
theorem gw_7_164 : Cond.instanceMethod yX11_readLine ∈ GW := GW_in (tin_7 (k := 164) (by decide +kernel)) rfl
theorem gw_7_165 : Cond.code yX11_readLine cX11_readLine 1 (none) ∈ GW := GW_in (tin_7 (k := 165) (by decide +kernel)) rfl
theorem gw_7_167 : Cond.methodLink RX11 182 yX11_took ∈ GW := GW_in (tin_7 (k := 167) (by decide +kernel)) rfl
theorem gw_7_169 : Cond.instanceMethod yX11_took ∈ GW := GW_in (tin_7 (k := 169) (by decide +kernel)) rfl
theorem gw_7_170 : Cond.code yX11_took cX11_took 3 (some (FieldType.boolean)) ∈ GW := GW_in (tin_7 (k := 170) (by decide +kernel)) rfl
theorem gw_7_171 : Cond.methodLink RX11 149 yX11_isWord ∈ GW := GW_in (tin_7 (k := 171) (by decide +kernel)) rfl
theorem gw_7_173 : Cond.instanceMethod yX11_isWord ∈ GW := GW_in (tin_7 (k := 173) (by decide +kernel)) rfl
theorem gw_7_174 : Cond.code yX11_isWord cX11_isWord 4 (some (FieldType.boolean)) ∈ GW := GW_in (tin_7 (k := 174) (by decide +kernel)) rfl
theorem gw_7_175 : Cond.methodLink RX11 139 yJ0_length_8abf5 ∈ GW := GW_in (tin_7 (k := 175) (by decide +kernel)) rfl
theorem gw_7_176 : Cond.methodLink RX11 145 yJ0_charAt_5068e ∈ GW := GW_in (tin_7 (k := 176) (by decide +kernel)) rfl
theorem gw_7_177 : Cond.methodLink RX11 188 yX11_number ∈ GW := GW_in (tin_7 (k := 177) (by decide +kernel)) rfl
theorem gw_7_179 : Cond.instanceMethod yX11_number ∈ GW := GW_in (tin_7 (k := 179) (by decide +kernel)) rfl
theorem gw_7_180 : Cond.code yX11_number cX11_number 4 (some (FieldType.int)) ∈ GW := GW_in (tin_7 (k := 180) (by decide +kernel)) rfl
theorem gw_7_181 : Cond.methodLink RX11 153 yX11_blames ∈ GW := GW_in (tin_7 (k := 181) (by decide +kernel)) rfl
theorem gw_7_183 : Cond.instanceMethod yX11_blames ∈ GW := GW_in (tin_7 (k := 183) (by decide +kernel)) rfl
theorem gw_7_184 : Cond.code yX11_blames cX11_blames 2 (none) ∈ GW := GW_in (tin_7 (k := 184) (by decide +kernel)) rfl
theorem gw_7_187 : Cond.methodLink RX11 196 yX11_readFor ∈ GW := GW_in (tin_7 (k := 187) (by decide +kernel)) rfl
theorem gw_7_189 : Cond.instanceMethod yX11_readFor ∈ GW := GW_in (tin_7 (k := 189) (by decide +kernel)) rfl
theorem gw_7_190 : Cond.code yX11_readFor cX11_readFor 3 (none) ∈ GW := GW_in (tin_7 (k := 190) (by decide +kernel)) rfl
theorem gw_7_191 : Cond.methodLink RX11 174 yX11_readSum ∈ GW := GW_in (tin_7 (k := 191) (by decide +kernel)) rfl
theorem gw_7_193 : Cond.instanceMethod yX11_readSum ∈ GW := GW_in (tin_7 (k := 193) (by decide +kernel)) rfl
theorem gw_7_194 : Cond.code yX11_readSum cX11_readSum 2 (none) ∈ GW := GW_in (tin_7 (k := 194) (by decide +kernel)) rfl
theorem gw_7_195 : Cond.methodLink RX11 161 yX11_readProduct ∈ GW := GW_in (tin_7 (k := 195) (by decide +kernel)) rfl
theorem gw_7_197 : Cond.instanceMethod yX11_readProduct ∈ GW := GW_in (tin_7 (k := 197) (by decide +kernel)) rfl
theorem gw_7_198 : Cond.code yX11_readProduct cX11_readProduct 2 (none) ∈ GW := GW_in (tin_7 (k := 198) (by decide +kernel)) rfl
theorem gw_7_199 : Cond.methodLink RX11 168 yX11_readUnit ∈ GW := GW_in (tin_7 (k := 199) (by decide +kernel)) rfl
theorem gw_7_201 : Cond.instanceMethod yX11_readUnit ∈ GW := GW_in (tin_7 (k := 201) (by decide +kernel)) rfl
theorem gw_7_202 : Cond.code yX11_readUnit cX11_readUnit 1 (none) ∈ GW := GW_in (tin_7 (k := 202) (by decide +kernel)) rfl
theorem gw_7_203 : Cond.methodLink RX11 130 yX11_isSign ∈ GW := GW_in (tin_7 (k := 203) (by decide +kernel)) rfl
theorem gw_7_205 : Cond.instanceMethod yX11_isSign ∈ GW := GW_in (tin_7 (k := 205) (by decide +kernel)) rfl
theorem gw_7_206 : Cond.code yX11_isSign cX11_isSign 2 (some (FieldType.boolean)) ∈ GW := GW_in (tin_7 (k := 206) (by decide +kernel)) rfl
theorem gw_7_207 : Cond.methodLink RX11 177 yX11_tookSign ∈ GW := GW_in (tin_7 (k := 207) (by decide +kernel)) rfl
theorem gw_7_209 : Cond.instanceMethod yX11_tookSign ∈ GW := GW_in (tin_7 (k := 209) (by decide +kernel)) rfl
theorem gw_7_210 : Cond.code yX11_tookSign cX11_tookSign 3 (some (FieldType.boolean)) ∈ GW := GW_in (tin_7 (k := 210) (by decide +kernel)) rfl
theorem gw_7_211 : Cond.methodLink RX11 164 yX11_code ∈ GW := GW_in (tin_7 (k := 211) (by decide +kernel)) rfl
theorem gw_7_213 : Cond.instanceMethod yX11_code ∈ GW := GW_in (tin_7 (k := 213) (by decide +kernel)) rfl
theorem gw_7_214 : Cond.code yX11_code cX11_code 3 (none) ∈ GW := GW_in (tin_7 (k := 214) (by decide +kernel)) rfl
theorem gw_7_226 : Cond.methodLink RX11 222 yX11_markFault ∈ GW := GW_in (tin_7 (k := 226) (by decide +kernel)) rfl
theorem gw_7_228 : Cond.instanceMethod yX11_markFault ∈ GW := GW_in (tin_7 (k := 228) (by decide +kernel)) rfl
theorem gw_7_229 : Cond.code yX11_markFault cX11_markFault 3 (some (FieldType.int)) ∈ GW := GW_in (tin_7 (k := 229) (by decide +kernel)) rfl
theorem gw_7_230 : Cond.constantLong RX11 220 (128) ∈ GW := GW_in (tin_7 (k := 230) (by decide +kernel)) rfl
theorem gw_7_231 : Cond.methodLink RX11 214 yX11_valueOf ∈ GW := GW_in (tin_7 (k := 231) (by decide +kernel)) rfl
theorem gw_7_233 : Cond.instanceMethod yX11_valueOf ∈ GW := GW_in (tin_7 (k := 233) (by decide +kernel)) rfl
theorem gw_7_234 : Cond.code yX11_valueOf cX11_valueOf 7 (some (FieldType.int)) ∈ GW := GW_in (tin_7 (k := 234) (by decide +kernel)) rfl
theorem gw_7_235 : Cond.methodLink RX11 210 yX11_joins ∈ GW := GW_in (tin_7 (k := 235) (by decide +kernel)) rfl
theorem gw_7_236 : Cond.static yX11_joins ∈ GW := GW_in (tin_7 (k := 236) (by decide +kernel)) rfl
theorem gw_7_237 : Cond.code yX11_joins cX11_joins 3 (some (FieldType.int)) ∈ GW := GW_in (tin_7 (k := 237) (by decide +kernel)) rfl
theorem gw_8_2 : Cond.methodLink RX11 225 yX11_placeOf ∈ GW := GW_in (tin_8 (k := 2) (by decide +kernel)) rfl
theorem gw_8_4 : Cond.instanceMethod yX11_placeOf ∈ GW := GW_in (tin_8 (k := 4) (by decide +kernel)) rfl
theorem gw_8_5 : Cond.code yX11_placeOf cX11_placeOf 4 (some (FieldType.int)) ∈ GW := GW_in (tin_8 (k := 5) (by decide +kernel)) rfl
theorem gw_8_6 : Cond.methodLink RX11 217 yX11_modulo ∈ GW := GW_in (tin_8 (k := 6) (by decide +kernel)) rfl
theorem gw_8_7 : Cond.static yX11_modulo ∈ GW := GW_in (tin_8 (k := 7) (by decide +kernel)) rfl
theorem gw_8_8 : Cond.code yX11_modulo cX11_modulo 2 (some (FieldType.int)) ∈ GW := GW_in (tin_8 (k := 8) (by decide +kernel)) rfl
theorem gw_8_13 : Cond.methodLink RX11 228 yX11_isName ∈ GW := GW_in (tin_8 (k := 13) (by decide +kernel)) rfl
theorem gw_8_15 : Cond.instanceMethod yX11_isName ∈ GW := GW_in (tin_8 (k := 15) (by decide +kernel)) rfl
theorem gw_8_16 : Cond.code yX11_isName cX11_isName 3 (some (FieldType.boolean)) ∈ GW := GW_in (tin_8 (k := 16) (by decide +kernel)) rfl
theorem gw_8_17 : Cond.methodLink RX11 232 yX11_tagOf ∈ GW := GW_in (tin_8 (k := 17) (by decide +kernel)) rfl
theorem gw_8_19 : Cond.instanceMethod yX11_tagOf ∈ GW := GW_in (tin_8 (k := 19) (by decide +kernel)) rfl
theorem gw_8_20 : Cond.code yX11_tagOf cX11_tagOf 3 (some (FieldType.int)) ∈ GW := GW_in (tin_8 (k := 20) (by decide +kernel)) rfl
theorem gw_8_25 : Cond.constantLong RX11 235 (3) ∈ GW := GW_in (tin_8 (k := 25) (by decide +kernel)) rfl
theorem gw_8_26 : Cond.methodLink RX11 240 Lib.Math.min.name ∈ GW := GW_in (tin_8 (k := 26) (by decide +kernel)) rfl
theorem gw_8_27 : Cond.constantLong RX11 245 (4) ∈ GW := GW_in (tin_8 (k := 27) (by decide +kernel)) rfl
theorem gw_8_28 : Cond.methodLink RX11 247 yX11_all ∈ GW := GW_in (tin_8 (k := 28) (by decide +kernel)) rfl
theorem gw_8_30 : Cond.instanceMethod yX11_all ∈ GW := GW_in (tin_8 (k := 30) (by decide +kernel)) rfl
theorem gw_8_31 : Cond.code yX11_all cX11_all 2 (some (FieldType.int)) ∈ GW := GW_in (tin_8 (k := 31) (by decide +kernel)) rfl
theorem gw_8_32 : Cond.constantLong RX11 250 (20) ∈ GW := GW_in (tin_8 (k := 32) (by decide +kernel)) rfl
theorem gw_8_33 : Cond.methodLink RX11 252 yX11_set ∈ GW := GW_in (tin_8 (k := 33) (by decide +kernel)) rfl
theorem gw_8_35 : Cond.instanceMethod yX11_set ∈ GW := GW_in (tin_8 (k := 35) (by decide +kernel)) rfl
theorem gw_8_36 : Cond.code yX11_set cX11_set 4 (none) ∈ GW := GW_in (tin_8 (k := 36) (by decide +kernel)) rfl
theorem gw_8_41 : Cond.methodLink RX11 256 yX11_isRow ∈ GW := GW_in (tin_8 (k := 41) (by decide +kernel)) rfl
theorem gw_8_43 : Cond.instanceMethod yX11_isRow ∈ GW := GW_in (tin_8 (k := 43) (by decide +kernel)) rfl
theorem gw_8_44 : Cond.code yX11_isRow cX11_isRow 2 (some (FieldType.boolean)) ∈ GW := GW_in (tin_8 (k := 44) (by decide +kernel)) rfl
theorem gw_8_45 : Cond.methodLink RX11 237 yX11_get ∈ GW := GW_in (tin_8 (k := 45) (by decide +kernel)) rfl
theorem gw_8_47 : Cond.instanceMethod yX11_get ∈ GW := GW_in (tin_8 (k := 47) (by decide +kernel)) rfl
theorem gw_8_48 : Cond.code yX11_get cX11_get 3 (some (FieldType.int)) ∈ GW := GW_in (tin_8 (k := 48) (by decide +kernel)) rfl
theorem gw_8_49 : Cond.constantLong RX11 259 (6) ∈ GW := GW_in (tin_8 (k := 49) (by decide +kernel)) rfl
theorem gw_8_50 : Cond.methodLink RX11 261 yX11_many ∈ GW := GW_in (tin_8 (k := 50) (by decide +kernel)) rfl
theorem gw_8_52 : Cond.instanceMethod yX11_many ∈ GW := GW_in (tin_8 (k := 52) (by decide +kernel)) rfl
theorem gw_8_53 : Cond.code yX11_many cX11_many 4 (some (FieldType.int)) ∈ GW := GW_in (tin_8 (k := 53) (by decide +kernel)) rfl
theorem gw_8_58 : Cond.methodLink RX11 264 yX11_layerAt ∈ GW := GW_in (tin_8 (k := 58) (by decide +kernel)) rfl
theorem gw_8_60 : Cond.instanceMethod yX11_layerAt ∈ GW := GW_in (tin_8 (k := 60) (by decide +kernel)) rfl
theorem gw_8_61 : Cond.code yX11_layerAt cX11_layerAt 3 (some (FieldType.int)) ∈ GW := GW_in (tin_8 (k := 61) (by decide +kernel)) rfl
theorem gw_8_62 : Cond.methodLink RX11 267 yX11_guestIn ∈ GW := GW_in (tin_8 (k := 62) (by decide +kernel)) rfl
theorem gw_8_64 : Cond.instanceMethod yX11_guestIn ∈ GW := GW_in (tin_8 (k := 64) (by decide +kernel)) rfl
theorem gw_8_65 : Cond.code yX11_guestIn cX11_guestIn 4 (some (FieldType.int)) ∈ GW := GW_in (tin_8 (k := 65) (by decide +kernel)) rfl
theorem gw_8_66 : Cond.methodLink RX11 270 yX11_slotAt ∈ GW := GW_in (tin_8 (k := 66) (by decide +kernel)) rfl
theorem gw_8_68 : Cond.instanceMethod yX11_slotAt ∈ GW := GW_in (tin_8 (k := 68) (by decide +kernel)) rfl
theorem gw_8_69 : Cond.code yX11_slotAt cX11_slotAt 4 (some (FieldType.int)) ∈ GW := GW_in (tin_8 (k := 69) (by decide +kernel)) rfl
theorem gw_8_78 : Cond.methodLink RX11 293 yX11_nameFault ∈ GW := GW_in (tin_8 (k := 78) (by decide +kernel)) rfl
theorem gw_8_80 : Cond.instanceMethod yX11_nameFault ∈ GW := GW_in (tin_8 (k := 80) (by decide +kernel)) rfl
theorem gw_8_81 : Cond.code yX11_nameFault cX11_nameFault 3 (some (FieldType.int)) ∈ GW := GW_in (tin_8 (k := 81) (by decide +kernel)) rfl
theorem gw_8_82 : Cond.methodLink RX11 296 yX11_says ∈ GW := GW_in (tin_8 (k := 82) (by decide +kernel)) rfl
theorem gw_8_84 : Cond.instanceMethod yX11_says ∈ GW := GW_in (tin_8 (k := 84) (by decide +kernel)) rfl
theorem gw_8_85 : Cond.code yX11_says cX11_says 6 (some (FieldType.boolean)) ∈ GW := GW_in (tin_8 (k := 85) (by decide +kernel)) rfl
theorem gw_8_86 : Cond.methodLink RX11 273 yX11_spot ∈ GW := GW_in (tin_8 (k := 86) (by decide +kernel)) rfl
theorem gw_8_88 : Cond.instanceMethod yX11_spot ∈ GW := GW_in (tin_8 (k := 88) (by decide +kernel)) rfl
theorem gw_8_89 : Cond.code yX11_spot cX11_spot 4 (some (FieldType.int)) ∈ GW := GW_in (tin_8 (k := 89) (by decide +kernel)) rfl
theorem gw_8_90 : Cond.methodLink RX11 285 yX11_isTagged ∈ GW := GW_in (tin_8 (k := 90) (by decide +kernel)) rfl
theorem gw_8_92 : Cond.instanceMethod yX11_isTagged ∈ GW := GW_in (tin_8 (k := 92) (by decide +kernel)) rfl
theorem gw_8_93 : Cond.code yX11_isTagged cX11_isTagged 5 (some (FieldType.boolean)) ∈ GW := GW_in (tin_8 (k := 93) (by decide +kernel)) rfl
theorem gw_8_94 : Cond.methodLink RX11 289 yX11_areSet ∈ GW := GW_in (tin_8 (k := 94) (by decide +kernel)) rfl
theorem gw_8_96 : Cond.instanceMethod yX11_areSet ∈ GW := GW_in (tin_8 (k := 96) (by decide +kernel)) rfl
theorem gw_8_97 : Cond.code yX11_areSet cX11_areSet 6 (some (FieldType.boolean)) ∈ GW := GW_in (tin_8 (k := 97) (by decide +kernel)) rfl
theorem gw_8_102 : Cond.methodLink RX11 300 yX11_isIn ∈ GW := GW_in (tin_8 (k := 102) (by decide +kernel)) rfl
theorem gw_8_104 : Cond.instanceMethod yX11_isIn ∈ GW := GW_in (tin_8 (k := 104) (by decide +kernel)) rfl
theorem gw_8_105 : Cond.code yX11_isIn cX11_isIn 3 (some (FieldType.boolean)) ∈ GW := GW_in (tin_8 (k := 105) (by decide +kernel)) rfl
theorem gw_8_110 : Cond.methodLink RX11 309 yX11_putsOr ∈ GW := GW_in (tin_8 (k := 110) (by decide +kernel)) rfl
theorem gw_8_112 : Cond.instanceMethod yX11_putsOr ∈ GW := GW_in (tin_8 (k := 112) (by decide +kernel)) rfl
theorem gw_8_113 : Cond.code yX11_putsOr cX11_putsOr 3 (some (FieldType.int)) ∈ GW := GW_in (tin_8 (k := 113) (by decide +kernel)) rfl
theorem gw_8_114 : Cond.methodLink RX11 306 yX11_puts ∈ GW := GW_in (tin_8 (k := 114) (by decide +kernel)) rfl
theorem gw_8_116 : Cond.instanceMethod yX11_puts ∈ GW := GW_in (tin_8 (k := 116) (by decide +kernel)) rfl
theorem gw_8_117 : Cond.code yX11_puts cX11_puts 7 (some (FieldType.boolean)) ∈ GW := GW_in (tin_8 (k := 117) (by decide +kernel)) rfl
theorem gw_8_118 : Cond.methodLink RX11 303 yX11_nestPuts ∈ GW := GW_in (tin_8 (k := 118) (by decide +kernel)) rfl
theorem gw_8_120 : Cond.instanceMethod yX11_nestPuts ∈ GW := GW_in (tin_8 (k := 120) (by decide +kernel)) rfl
theorem gw_8_121 : Cond.code yX11_nestPuts cX11_nestPuts 10 (some (FieldType.boolean)) ∈ GW := GW_in (tin_8 (k := 121) (by decide +kernel)) rfl
theorem gw_8_122 : Cond.methodLink RX11 276 yX11_freeSlot ∈ GW := GW_in (tin_8 (k := 122) (by decide +kernel)) rfl
theorem gw_8_124 : Cond.instanceMethod yX11_freeSlot ∈ GW := GW_in (tin_8 (k := 124) (by decide +kernel)) rfl
theorem gw_8_125 : Cond.code yX11_freeSlot cX11_freeSlot 4 (some (FieldType.int)) ∈ GW := GW_in (tin_8 (k := 125) (by decide +kernel)) rfl
theorem gw_8_126 : Cond.methodLink RX11 279 yX11_otherNest ∈ GW := GW_in (tin_8 (k := 126) (by decide +kernel)) rfl
theorem gw_8_128 : Cond.instanceMethod yX11_otherNest ∈ GW := GW_in (tin_8 (k := 128) (by decide +kernel)) rfl
theorem gw_8_129 : Cond.code yX11_otherNest cX11_otherNest 6 (some (FieldType.int)) ∈ GW := GW_in (tin_8 (k := 129) (by decide +kernel)) rfl
theorem gw_8_130 : Cond.methodLink RX11 282 yX11_pushes ∈ GW := GW_in (tin_8 (k := 130) (by decide +kernel)) rfl
theorem gw_8_132 : Cond.instanceMethod yX11_pushes ∈ GW := GW_in (tin_8 (k := 132) (by decide +kernel)) rfl
theorem gw_8_133 : Cond.code yX11_pushes cX11_pushes 8 (none) ∈ GW := GW_in (tin_8 (k := 133) (by decide +kernel)) rfl
theorem gw_8_138 : Cond.constantLong RX11 312 (14) ∈ GW := GW_in (tin_8 (k := 138) (by decide +kernel)) rfl
theorem gw_8_143 : Cond.methodLink RX11 314 yX11_isCounted ∈ GW := GW_in (tin_8 (k := 143) (by decide +kernel)) rfl
theorem gw_8_144 : Cond.static yX11_isCounted ∈ GW := GW_in (tin_8 (k := 144) (by decide +kernel)) rfl
theorem gw_8_145 : Cond.code yX11_isCounted cX11_isCounted 1 (some (FieldType.boolean)) ∈ GW := GW_in (tin_8 (k := 145) (by decide +kernel)) rfl
theorem gw_8_146 : Cond.methodLink RX11 317 yX11_together ∈ GW := GW_in (tin_8 (k := 146) (by decide +kernel)) rfl
theorem gw_8_148 : Cond.instanceMethod yX11_together ∈ GW := GW_in (tin_8 (k := 148) (by decide +kernel)) rfl
theorem gw_8_149 : Cond.code yX11_together cX11_together 4 (some (FieldType.int)) ∈ GW := GW_in (tin_8 (k := 149) (by decide +kernel)) rfl
theorem gw_8_162 : Cond.methodLink RX11 323 yX11_rowTrayFault ∈ GW := GW_in (tin_8 (k := 162) (by decide +kernel)) rfl
theorem gw_8_164 : Cond.instanceMethod yX11_rowTrayFault ∈ GW := GW_in (tin_8 (k := 164) (by decide +kernel)) rfl
theorem gw_8_165 : Cond.code yX11_rowTrayFault cX11_rowTrayFault 3 (some (FieldType.int)) ∈ GW := GW_in (tin_8 (k := 165) (by decide +kernel)) rfl
theorem gw_8_166 : Cond.methodLink RX11 320 yX11_isTray ∈ GW := GW_in (tin_8 (k := 166) (by decide +kernel)) rfl
theorem gw_8_167 : Cond.static yX11_isTray ∈ GW := GW_in (tin_8 (k := 167) (by decide +kernel)) rfl
theorem gw_8_168 : Cond.code yX11_isTray cX11_isTray 1 (some (FieldType.boolean)) ∈ GW := GW_in (tin_8 (k := 168) (by decide +kernel)) rfl
theorem gw_8_169 : Cond.methodLink RX11 326 yX11_areNames ∈ GW := GW_in (tin_8 (k := 169) (by decide +kernel)) rfl
theorem gw_8_171 : Cond.instanceMethod yX11_areNames ∈ GW := GW_in (tin_8 (k := 171) (by decide +kernel)) rfl
theorem gw_8_172 : Cond.code yX11_areNames cX11_areNames 5 (some (FieldType.boolean)) ∈ GW := GW_in (tin_8 (k := 172) (by decide +kernel)) rfl
theorem gw_8_173 : Cond.methodLink RX11 330 yX11_inTray ∈ GW := GW_in (tin_8 (k := 173) (by decide +kernel)) rfl
theorem gw_8_175 : Cond.instanceMethod yX11_inTray ∈ GW := GW_in (tin_8 (k := 175) (by decide +kernel)) rfl
theorem gw_8_176 : Cond.code yX11_inTray cX11_inTray 3 (some (FieldType.int)) ∈ GW := GW_in (tin_8 (k := 176) (by decide +kernel)) rfl
theorem gw_8_177 : Cond.methodLink RX11 333 yX11_canSolve ∈ GW := GW_in (tin_8 (k := 177) (by decide +kernel)) rfl
theorem gw_8_179 : Cond.instanceMethod yX11_canSolve ∈ GW := GW_in (tin_8 (k := 179) (by decide +kernel)) rfl
theorem gw_8_180 : Cond.code yX11_canSolve cX11_canSolve 6 (some (FieldType.boolean)) ∈ GW := GW_in (tin_8 (k := 180) (by decide +kernel)) rfl
theorem gw_8_185 : Cond.methodLink RX11 339 yX11_lies ∈ GW := GW_in (tin_8 (k := 185) (by decide +kernel)) rfl
theorem gw_8_187 : Cond.instanceMethod yX11_lies ∈ GW := GW_in (tin_8 (k := 187) (by decide +kernel)) rfl
theorem gw_8_188 : Cond.code yX11_lies cX11_lies 4 (some (FieldType.int)) ∈ GW := GW_in (tin_8 (k := 188) (by decide +kernel)) rfl
theorem gw_8_189 : Cond.methodLink RX11 336 yX11_isLie ∈ GW := GW_in (tin_8 (k := 189) (by decide +kernel)) rfl
theorem gw_8_191 : Cond.instanceMethod yX11_isLie ∈ GW := GW_in (tin_8 (k := 191) (by decide +kernel)) rfl
theorem gw_8_192 : Cond.code yX11_isLie cX11_isLie 3 (some (FieldType.boolean)) ∈ GW := GW_in (tin_8 (k := 192) (by decide +kernel)) rfl
theorem gw_8_217 : Cond.constantLong RX11 348 (2) ∈ GW := GW_in (tin_8 (k := 217) (by decide +kernel)) rfl
theorem gw_8_218 : Cond.constantLong RX11 350 (64) ∈ GW := GW_in (tin_8 (k := 218) (by decide +kernel)) rfl
theorem gw_8_219 : Cond.methodLink RX11 352 yX11_takesPut ∈ GW := GW_in (tin_8 (k := 219) (by decide +kernel)) rfl
theorem gw_8_221 : Cond.instanceMethod yX11_takesPut ∈ GW := GW_in (tin_8 (k := 221) (by decide +kernel)) rfl
theorem gw_8_222 : Cond.code yX11_takesPut cX11_takesPut 3 (none) ∈ GW := GW_in (tin_8 (k := 222) (by decide +kernel)) rfl
theorem gw_8_223 : Cond.methodLink RX11 355 yX11_layBits ∈ GW := GW_in (tin_8 (k := 223) (by decide +kernel)) rfl
theorem gw_8_225 : Cond.instanceMethod yX11_layBits ∈ GW := GW_in (tin_8 (k := 225) (by decide +kernel)) rfl
theorem gw_8_226 : Cond.code yX11_layBits cX11_layBits 5 (none) ∈ GW := GW_in (tin_8 (k := 226) (by decide +kernel)) rfl
theorem gw_8_227 : Cond.methodLink RX11 358 yX11_isSaid ∈ GW := GW_in (tin_8 (k := 227) (by decide +kernel)) rfl
theorem gw_8_229 : Cond.instanceMethod yX11_isSaid ∈ GW := GW_in (tin_8 (k := 229) (by decide +kernel)) rfl
theorem gw_8_230 : Cond.code yX11_isSaid cX11_isSaid 5 (some (FieldType.boolean)) ∈ GW := GW_in (tin_8 (k := 230) (by decide +kernel)) rfl
theorem gw_8_235 : Cond.methodLink RX11 361 yX11_askFault ∈ GW := GW_in (tin_8 (k := 235) (by decide +kernel)) rfl
theorem gw_8_237 : Cond.instanceMethod yX11_askFault ∈ GW := GW_in (tin_8 (k := 237) (by decide +kernel)) rfl
theorem gw_8_238 : Cond.code yX11_askFault cX11_askFault 4 (some (FieldType.int)) ∈ GW := GW_in (tin_8 (k := 238) (by decide +kernel)) rfl
theorem gw_8_239 : Cond.methodLink RX11 364 yX11_learns ∈ GW := GW_in (tin_8 (k := 239) (by decide +kernel)) rfl
theorem gw_9_1 : Cond.instanceMethod yX11_learns ∈ GW := GW_in (tin_9 (k := 1) (by decide +kernel)) rfl
theorem gw_9_2 : Cond.code yX11_learns cX11_learns 6 (none) ∈ GW := GW_in (tin_9 (k := 2) (by decide +kernel)) rfl
theorem gw_9_3 : Cond.methodLink RX11 367 yX11_unknown ∈ GW := GW_in (tin_9 (k := 3) (by decide +kernel)) rfl
theorem gw_9_5 : Cond.instanceMethod yX11_unknown ∈ GW := GW_in (tin_9 (k := 5) (by decide +kernel)) rfl
theorem gw_9_6 : Cond.code yX11_unknown cX11_unknown 8 (some (FieldType.int)) ∈ GW := GW_in (tin_9 (k := 6) (by decide +kernel)) rfl
theorem gw_9_15 : Cond.methodLink RX11 370 yX11_liesWith ∈ GW := GW_in (tin_9 (k := 15) (by decide +kernel)) rfl
theorem gw_9_17 : Cond.instanceMethod yX11_liesWith ∈ GW := GW_in (tin_9 (k := 17) (by decide +kernel)) rfl
theorem gw_9_18 : Cond.code yX11_liesWith cX11_liesWith 5 (some (FieldType.int)) ∈ GW := GW_in (tin_9 (k := 18) (by decide +kernel)) rfl
theorem gw_9_27 : Cond.constantLong RX11 373 (999) ∈ GW := GW_in (tin_9 (k := 27) (by decide +kernel)) rfl
theorem gw_9_28 : Cond.methodLink RX11 375 yX11_liesBy ∈ GW := GW_in (tin_9 (k := 28) (by decide +kernel)) rfl
theorem gw_9_30 : Cond.instanceMethod yX11_liesBy ∈ GW := GW_in (tin_9 (k := 30) (by decide +kernel)) rfl
theorem gw_9_31 : Cond.code yX11_liesBy cX11_liesBy 6 (some (FieldType.int)) ∈ GW := GW_in (tin_9 (k := 31) (by decide +kernel)) rfl
theorem gw_9_36 : Cond.constantLong RX11 378 (40) ∈ GW := GW_in (tin_9 (k := 36) (by decide +kernel)) rfl
theorem gw_9_77 : Cond.fieldLink RJ0 9 "java/lang/String" "value" "[B" ∈ GW := GW_in (tin_9 (k := 77) (by decide +kernel)) rfl
theorem gw_9_78 : Cond.fieldLink RJ0 15 "java/lang/String" "coder" "B" ∈ GW := GW_in (tin_9 (k := 78) (by decide +kernel)) rfl
theorem gs_0 : Cond.selects RX6 yX6_compute yX6_compute ∈ GW := GW_in (tin_s (y := yX6_compute) (k := 14) (by decide +kernel)) rfl
theorem gs_2 : Cond.selects RX4 yX4_advance yX4_advance ∈ GW := GW_in (tin_s (y := yX4_advance) (k := 16) (by decide +kernel)) rfl
theorem gs_3 : Cond.selects RX4 yX4_byteAt yX4_byteAt ∈ GW := GW_in (tin_s (y := yX4_byteAt) (k := 16) (by decide +kernel)) rfl
theorem gs_4 : Cond.selects RX4 yX4_scanWord yX4_scanWord ∈ GW := GW_in (tin_s (y := yX4_scanWord) (k := 16) (by decide +kernel)) rfl
theorem gs_5 : Cond.selects RX4 yX4_spells yX4_spells ∈ GW := GW_in (tin_s (y := yX4_spells) (k := 16) (by decide +kernel)) rfl
theorem gs_6 : Cond.selects RX4 yX4_scanNumber yX4_scanNumber ∈ GW := GW_in (tin_s (y := yX4_scanNumber) (k := 16) (by decide +kernel)) rfl
theorem gs_7 : Cond.selects RX4 yX4_accept yX4_accept ∈ GW := GW_in (tin_s (y := yX4_accept) (k := 16) (by decide +kernel)) rfl
theorem gs_8 : Cond.selects RX4 yX4_acceptHead yX4_acceptHead ∈ GW := GW_in (tin_s (y := yX4_acceptHead) (k := 16) (by decide +kernel)) rfl
theorem gs_9 : Cond.selects RX4 yX4_acceptBound yX4_acceptBound ∈ GW := GW_in (tin_s (y := yX4_acceptBound) (k := 16) (by decide +kernel)) rfl
theorem gs_10 : Cond.selects RX4 yX4_acceptOperand yX4_acceptOperand ∈ GW := GW_in (tin_s (y := yX4_acceptOperand) (k := 16) (by decide +kernel)) rfl
theorem gs_11 : Cond.selects RX4 yX4_holdBack yX4_holdBack ∈ GW := GW_in (tin_s (y := yX4_holdBack) (k := 16) (by decide +kernel)) rfl
theorem gs_12 : Cond.selects RX4 yX4_acceptOperator yX4_acceptOperator ∈ GW := GW_in (tin_s (y := yX4_acceptOperator) (k := 16) (by decide +kernel)) rfl
theorem gs_13 : Cond.selects RX4 yX4_emitWaiting yX4_emitWaiting ∈ GW := GW_in (tin_s (y := yX4_emitWaiting) (k := 16) (by decide +kernel)) rfl
theorem gs_14 : Cond.selects RX4 yX4_finishExpression yX4_finishExpression ∈ GW := GW_in (tin_s (y := yX4_finishExpression) (k := 16) (by decide +kernel)) rfl
theorem gs_15 : Cond.selects RX4 yX4_acceptSemicolon yX4_acceptSemicolon ∈ GW := GW_in (tin_s (y := yX4_acceptSemicolon) (k := 16) (by decide +kernel)) rfl
theorem gs_16 : Cond.selects RX10 yX10_needMarkAndSize yX10_needMarkAndSize ∈ GW := GW_in (tin_s (y := yX10_needMarkAndSize) (k := 13) (by decide +kernel)) rfl
theorem gs_17 : Cond.selects RX10 yX10_needName yX10_needName ∈ GW := GW_in (tin_s (y := yX10_needName) (k := 13) (by decide +kernel)) rfl
theorem gs_18 : Cond.selects RX10 yX10_isName yX10_isName ∈ GW := GW_in (tin_s (y := yX10_isName) (k := 13) (by decide +kernel)) rfl
theorem gs_19 : Cond.selects RX10 yX10_canBe yX10_canBe ∈ GW := GW_in (tin_s (y := yX10_canBe) (k := 13) (by decide +kernel)) rfl
theorem gs_20 : Cond.selects RX10 yX10_rowAt yX10_rowAt ∈ GW := GW_in (tin_s (y := yX10_rowAt) (k := 13) (by decide +kernel)) rfl
theorem gs_21 : Cond.selects RX5 yX5_layerStart yX5_layerStart ∈ GW := GW_in (tin_s (y := yX5_layerStart) (k := 10) (by decide +kernel)) rfl
theorem gs_22 : Cond.selects RX5 yX5_hasGuestLike yX5_hasGuestLike ∈ GW := GW_in (tin_s (y := yX5_hasGuestLike) (k := 10) (by decide +kernel)) rfl
theorem gs_23 : Cond.selects RX5 yX5_together yX5_together ∈ GW := GW_in (tin_s (y := yX5_together) (k := 10) (by decide +kernel)) rfl
theorem gs_24 : Cond.selects RX5 yX5_layerSize yX5_layerSize ∈ GW := GW_in (tin_s (y := yX5_layerSize) (k := 10) (by decide +kernel)) rfl
theorem gs_25 : Cond.selects RX5 yX5_allAbove0 yX5_allAbove0 ∈ GW := GW_in (tin_s (y := yX5_allAbove0) (k := 10) (by decide +kernel)) rfl
theorem gs_26 : Cond.selects RX10 yX10_admit yX10_admit ∈ GW := GW_in (tin_s (y := yX10_admit) (k := 13) (by decide +kernel)) rfl
theorem gs_27 : Cond.selects RX3 yX3_search yX3_search ∈ GW := GW_in (tin_s (y := yX3_search) (k := 6) (by decide +kernel)) rfl
theorem gs_28 : Cond.selects RX3 yX3_reach yX3_reach ∈ GW := GW_in (tin_s (y := yX3_reach) (k := 6) (by decide +kernel)) rfl
theorem gs_29 : Cond.selects RX3 yX3_pushAlong yX3_pushAlong ∈ GW := GW_in (tin_s (y := yX3_pushAlong) (k := 6) (by decide +kernel)) rfl
theorem gs_30 : Cond.selects RX5 yX5_raise yX5_raise ∈ GW := GW_in (tin_s (y := yX5_raise) (k := 10) (by decide +kernel)) rfl
theorem gs_31 : Cond.selects RX5 yX5_fullCell yX5_fullCell ∈ GW := GW_in (tin_s (y := yX5_fullCell) (k := 10) (by decide +kernel)) rfl
theorem gs_32 : Cond.selects RX10 yX10_trayAt yX10_trayAt ∈ GW := GW_in (tin_s (y := yX10_trayAt) (k := 13) (by decide +kernel)) rfl
theorem gs_33 : Cond.selects RX10 yX10_needNames yX10_needNames ∈ GW := GW_in (tin_s (y := yX10_needNames) (k := 13) (by decide +kernel)) rfl
theorem gs_34 : Cond.selects RX8 yX8_state yX8_state ∈ GW := GW_in (tin_s (y := yX8_state) (k := 4) (by decide +kernel)) rfl
theorem gs_35 : Cond.selects RX8 yX8_chooseFor yX8_chooseFor ∈ GW := GW_in (tin_s (y := yX8_chooseFor) (k := 4) (by decide +kernel)) rfl
theorem gs_36 : Cond.selects RX8 yX8_joinTo yX8_joinTo ∈ GW := GW_in (tin_s (y := yX8_joinTo) (k := 4) (by decide +kernel)) rfl
theorem gs_37 : Cond.selects RX8 yX8_settle yX8_settle ∈ GW := GW_in (tin_s (y := yX8_settle) (k := 4) (by decide +kernel)) rfl
theorem gs_38 : Cond.selects RX10 yX10_countLies yX10_countLies ∈ GW := GW_in (tin_s (y := yX10_countLies) (k := 13) (by decide +kernel)) rfl
theorem gs_39 : Cond.selects RX10 yX10_isLie yX10_isLie ∈ GW := GW_in (tin_s (y := yX10_isLie) (k := 13) (by decide +kernel)) rfl
theorem gs_40 : Cond.selects RX0 yX0_lay yX0_lay ∈ GW := GW_in (tin_s (y := yX0_lay) (k := 10) (by decide +kernel)) rfl
theorem gs_41 : Cond.selects RX0 yX0_liesWithin yX0_liesWithin ∈ GW := GW_in (tin_s (y := yX0_liesWithin) (k := 10) (by decide +kernel)) rfl
theorem gs_42 : Cond.selects RX0 yX0_addPart yX0_addPart ∈ GW := GW_in (tin_s (y := yX0_addPart) (k := 10) (by decide +kernel)) rfl
theorem gs_43 : Cond.selects RX0 yX0_weigh yX0_weigh ∈ GW := GW_in (tin_s (y := yX0_weigh) (k := 10) (by decide +kernel)) rfl
theorem gs_44 : Cond.selects RX9 yX9_cut yX9_cut ∈ GW := GW_in (tin_s (y := yX9_cut) (k := 4) (by decide +kernel)) rfl
theorem gs_45 : Cond.selects RX10 yX10_imageAt yX10_imageAt ∈ GW := GW_in (tin_s (y := yX10_imageAt) (k := 13) (by decide +kernel)) rfl
theorem gs_46 : Cond.selects RX11 yX11_fails yX11_fails ∈ GW := GW_in (tin_s (y := yX11_fails) (k := 38) (by decide +kernel)) rfl
theorem gs_47 : Cond.selects RX11 yX11_reads yX11_reads ∈ GW := GW_in (tin_s (y := yX11_reads) (k := 38) (by decide +kernel)) rfl
theorem gs_48 : Cond.selects RX11 yX11_see yX11_see ∈ GW := GW_in (tin_s (y := yX11_see) (k := 38) (by decide +kernel)) rfl
theorem gs_49 : Cond.selects RX11 yX11_readLine yX11_readLine ∈ GW := GW_in (tin_s (y := yX11_readLine) (k := 38) (by decide +kernel)) rfl
theorem gs_50 : Cond.selects RX11 yX11_took yX11_took ∈ GW := GW_in (tin_s (y := yX11_took) (k := 38) (by decide +kernel)) rfl
theorem gs_51 : Cond.selects RX11 yX11_isWord yX11_isWord ∈ GW := GW_in (tin_s (y := yX11_isWord) (k := 38) (by decide +kernel)) rfl
theorem gs_52 : Cond.selects RX11 yX11_number yX11_number ∈ GW := GW_in (tin_s (y := yX11_number) (k := 38) (by decide +kernel)) rfl
theorem gs_53 : Cond.selects RX11 yX11_blames yX11_blames ∈ GW := GW_in (tin_s (y := yX11_blames) (k := 38) (by decide +kernel)) rfl
theorem gs_54 : Cond.selects RX11 yX11_readFor yX11_readFor ∈ GW := GW_in (tin_s (y := yX11_readFor) (k := 38) (by decide +kernel)) rfl
theorem gs_55 : Cond.selects RX11 yX11_readSum yX11_readSum ∈ GW := GW_in (tin_s (y := yX11_readSum) (k := 38) (by decide +kernel)) rfl
theorem gs_56 : Cond.selects RX11 yX11_readProduct yX11_readProduct ∈ GW := GW_in (tin_s (y := yX11_readProduct) (k := 38) (by decide +kernel)) rfl
theorem gs_57 : Cond.selects RX11 yX11_readUnit yX11_readUnit ∈ GW := GW_in (tin_s (y := yX11_readUnit) (k := 38) (by decide +kernel)) rfl
theorem gs_58 : Cond.selects RX11 yX11_isSign yX11_isSign ∈ GW := GW_in (tin_s (y := yX11_isSign) (k := 38) (by decide +kernel)) rfl
theorem gs_59 : Cond.selects RX11 yX11_tookSign yX11_tookSign ∈ GW := GW_in (tin_s (y := yX11_tookSign) (k := 38) (by decide +kernel)) rfl
theorem gs_60 : Cond.selects RX11 yX11_code yX11_code ∈ GW := GW_in (tin_s (y := yX11_code) (k := 38) (by decide +kernel)) rfl
theorem gs_61 : Cond.selects RX11 yX11_markFault yX11_markFault ∈ GW := GW_in (tin_s (y := yX11_markFault) (k := 38) (by decide +kernel)) rfl
theorem gs_62 : Cond.selects RX11 yX11_valueOf yX11_valueOf ∈ GW := GW_in (tin_s (y := yX11_valueOf) (k := 38) (by decide +kernel)) rfl
theorem gs_63 : Cond.selects RX11 yX11_placeOf yX11_placeOf ∈ GW := GW_in (tin_s (y := yX11_placeOf) (k := 38) (by decide +kernel)) rfl
theorem gs_64 : Cond.selects RX11 yX11_isName yX11_isName ∈ GW := GW_in (tin_s (y := yX11_isName) (k := 38) (by decide +kernel)) rfl
theorem gs_65 : Cond.selects RX11 yX11_tagOf yX11_tagOf ∈ GW := GW_in (tin_s (y := yX11_tagOf) (k := 38) (by decide +kernel)) rfl
theorem gs_66 : Cond.selects RX11 yX11_all yX11_all ∈ GW := GW_in (tin_s (y := yX11_all) (k := 38) (by decide +kernel)) rfl
theorem gs_67 : Cond.selects RX11 yX11_set yX11_set ∈ GW := GW_in (tin_s (y := yX11_set) (k := 38) (by decide +kernel)) rfl
theorem gs_68 : Cond.selects RX11 yX11_isRow yX11_isRow ∈ GW := GW_in (tin_s (y := yX11_isRow) (k := 38) (by decide +kernel)) rfl
theorem gs_69 : Cond.selects RX11 yX11_get yX11_get ∈ GW := GW_in (tin_s (y := yX11_get) (k := 38) (by decide +kernel)) rfl
theorem gs_70 : Cond.selects RX11 yX11_many yX11_many ∈ GW := GW_in (tin_s (y := yX11_many) (k := 38) (by decide +kernel)) rfl
theorem gs_71 : Cond.selects RX11 yX11_layerAt yX11_layerAt ∈ GW := GW_in (tin_s (y := yX11_layerAt) (k := 38) (by decide +kernel)) rfl
theorem gs_72 : Cond.selects RX11 yX11_guestIn yX11_guestIn ∈ GW := GW_in (tin_s (y := yX11_guestIn) (k := 38) (by decide +kernel)) rfl
theorem gs_73 : Cond.selects RX11 yX11_slotAt yX11_slotAt ∈ GW := GW_in (tin_s (y := yX11_slotAt) (k := 38) (by decide +kernel)) rfl
theorem gs_74 : Cond.selects RX11 yX11_nameFault yX11_nameFault ∈ GW := GW_in (tin_s (y := yX11_nameFault) (k := 38) (by decide +kernel)) rfl
theorem gs_75 : Cond.selects RX11 yX11_says yX11_says ∈ GW := GW_in (tin_s (y := yX11_says) (k := 38) (by decide +kernel)) rfl
theorem gs_76 : Cond.selects RX11 yX11_spot yX11_spot ∈ GW := GW_in (tin_s (y := yX11_spot) (k := 38) (by decide +kernel)) rfl
theorem gs_77 : Cond.selects RX11 yX11_isTagged yX11_isTagged ∈ GW := GW_in (tin_s (y := yX11_isTagged) (k := 38) (by decide +kernel)) rfl
theorem gs_78 : Cond.selects RX11 yX11_areSet yX11_areSet ∈ GW := GW_in (tin_s (y := yX11_areSet) (k := 38) (by decide +kernel)) rfl
theorem gs_79 : Cond.selects RX11 yX11_isIn yX11_isIn ∈ GW := GW_in (tin_s (y := yX11_isIn) (k := 38) (by decide +kernel)) rfl
theorem gs_80 : Cond.selects RX11 yX11_putsOr yX11_putsOr ∈ GW := GW_in (tin_s (y := yX11_putsOr) (k := 38) (by decide +kernel)) rfl
theorem gs_81 : Cond.selects RX11 yX11_puts yX11_puts ∈ GW := GW_in (tin_s (y := yX11_puts) (k := 38) (by decide +kernel)) rfl
theorem gs_82 : Cond.selects RX11 yX11_nestPuts yX11_nestPuts ∈ GW := GW_in (tin_s (y := yX11_nestPuts) (k := 38) (by decide +kernel)) rfl
theorem gs_83 : Cond.selects RX11 yX11_freeSlot yX11_freeSlot ∈ GW := GW_in (tin_s (y := yX11_freeSlot) (k := 38) (by decide +kernel)) rfl
theorem gs_84 : Cond.selects RX11 yX11_otherNest yX11_otherNest ∈ GW := GW_in (tin_s (y := yX11_otherNest) (k := 38) (by decide +kernel)) rfl
theorem gs_85 : Cond.selects RX11 yX11_pushes yX11_pushes ∈ GW := GW_in (tin_s (y := yX11_pushes) (k := 38) (by decide +kernel)) rfl
theorem gs_86 : Cond.selects RX11 yX11_together yX11_together ∈ GW := GW_in (tin_s (y := yX11_together) (k := 38) (by decide +kernel)) rfl
theorem gs_87 : Cond.selects RX11 yX11_rowTrayFault yX11_rowTrayFault ∈ GW := GW_in (tin_s (y := yX11_rowTrayFault) (k := 38) (by decide +kernel)) rfl
theorem gs_88 : Cond.selects RX11 yX11_areNames yX11_areNames ∈ GW := GW_in (tin_s (y := yX11_areNames) (k := 38) (by decide +kernel)) rfl
theorem gs_89 : Cond.selects RX11 yX11_inTray yX11_inTray ∈ GW := GW_in (tin_s (y := yX11_inTray) (k := 38) (by decide +kernel)) rfl
theorem gs_90 : Cond.selects RX11 yX11_canSolve yX11_canSolve ∈ GW := GW_in (tin_s (y := yX11_canSolve) (k := 38) (by decide +kernel)) rfl
theorem gs_91 : Cond.selects RX11 yX11_lies yX11_lies ∈ GW := GW_in (tin_s (y := yX11_lies) (k := 38) (by decide +kernel)) rfl
theorem gs_92 : Cond.selects RX11 yX11_isLie yX11_isLie ∈ GW := GW_in (tin_s (y := yX11_isLie) (k := 38) (by decide +kernel)) rfl
theorem gs_93 : Cond.selects RX11 yX11_takesPut yX11_takesPut ∈ GW := GW_in (tin_s (y := yX11_takesPut) (k := 38) (by decide +kernel)) rfl
theorem gs_94 : Cond.selects RX11 yX11_layBits yX11_layBits ∈ GW := GW_in (tin_s (y := yX11_layBits) (k := 38) (by decide +kernel)) rfl
theorem gs_95 : Cond.selects RX11 yX11_isSaid yX11_isSaid ∈ GW := GW_in (tin_s (y := yX11_isSaid) (k := 38) (by decide +kernel)) rfl
theorem gs_96 : Cond.selects RX11 yX11_askFault yX11_askFault ∈ GW := GW_in (tin_s (y := yX11_askFault) (k := 38) (by decide +kernel)) rfl
theorem gs_97 : Cond.selects RX11 yX11_learns yX11_learns ∈ GW := GW_in (tin_s (y := yX11_learns) (k := 38) (by decide +kernel)) rfl
theorem gs_98 : Cond.selects RX11 yX11_unknown yX11_unknown ∈ GW := GW_in (tin_s (y := yX11_unknown) (k := 38) (by decide +kernel)) rfl
theorem gs_99 : Cond.selects RX11 yX11_liesWith yX11_liesWith ∈ GW := GW_in (tin_s (y := yX11_liesWith) (k := 38) (by decide +kernel)) rfl
theorem gs_100 : Cond.selects RX11 yX11_liesBy yX11_liesBy ∈ GW := GW_in (tin_s (y := yX11_liesBy) (k := 38) (by decide +kernel)) rfl
theorem okM_J0_charAt_5068e : okM yJ0_charAt_5068e 1 := ⟨by decide +kernel, by decide +kernel, by decide +kernel⟩
theorem okM_J0_checkIndex_df160 : okM yJ0_checkIndex_df160 2 := ⟨by decide +kernel, by decide +kernel, by decide +kernel⟩
theorem okM_J0_coder_7d493 : okM yJ0_coder_7d493 0 := ⟨by decide +kernel, by decide +kernel, by decide +kernel⟩
theorem okM_J0_indexOf_0f7a4 : okM yJ0_indexOf_0f7a4 1 := ⟨by decide +kernel, by decide +kernel, by decide +kernel⟩
theorem okM_J0_indexOf_7cf53 : okM yJ0_indexOf_7cf53 2 := ⟨by decide +kernel, by decide +kernel, by decide +kernel⟩
theorem okM_J0_isLatin1_aae02 : okM yJ0_isLatin1_aae02 0 := ⟨by decide +kernel, by decide +kernel, by decide +kernel⟩
theorem okM_J0_length_8abf5 : okM yJ0_length_8abf5 0 := ⟨by decide +kernel, by decide +kernel, by decide +kernel⟩
theorem okM_J13_bitCount_95d88 : okM yJ13_bitCount_95d88 1 := ⟨by decide +kernel, by decide +kernel, by decide +kernel⟩
theorem okM_J1_canEncode_9a6ad : okM yJ1_canEncode_9a6ad 1 := ⟨by decide +kernel, by decide +kernel, by decide +kernel⟩
theorem okM_J1_charAt_3b067 : okM yJ1_charAt_3b067 2 := ⟨by decide +kernel, by decide +kernel, by decide +kernel⟩
theorem okM_J1_indexOfChar_4cfef : okM yJ1_indexOfChar_4cfef 4 := ⟨by decide +kernel, by decide +kernel, by decide +kernel⟩
theorem okM_J1_indexOf_4cfef : okM yJ1_indexOf_4cfef 4 := ⟨by decide +kernel, by decide +kernel, by decide +kernel⟩
theorem okM_J3_checkIndex_8e157 : okM yJ3_checkIndex_8e157 3 := ⟨by decide +kernel, by decide +kernel, by decide +kernel⟩
theorem okM_J7_fill_53178 : okM yJ7_fill_53178 2 := ⟨by decide +kernel, by decide +kernel, by decide +kernel⟩
theorem okM_J7_fill_d0a16 : okM yJ7_fill_d0a16 2 := ⟨by decide +kernel, by decide +kernel, by decide +kernel⟩
theorem okM_X0_addPart : okM yX0_addPart 2 := ⟨by decide +kernel, by decide +kernel, by decide +kernel⟩
theorem okM_X0_bestQuestion : okM yX0_bestQuestion 0 := ⟨by decide +kernel, by decide +kernel, by decide +kernel⟩
theorem okM_X0_fewestHolding : okM yX0_fewestHolding 3 := ⟨by decide +kernel, by decide +kernel, by decide +kernel⟩
theorem okM_X0_findChosen : okM yX0_findChosen 3 := ⟨by decide +kernel, by decide +kernel, by decide +kernel⟩
theorem okM_X0_findWorst : okM yX0_findWorst 2 := ⟨by decide +kernel, by decide +kernel, by decide +kernel⟩
theorem okM_X0_hear : okM yX0_hear 3 := ⟨by decide +kernel, by decide +kernel, by decide +kernel⟩
theorem okM_X0_knownNames : okM yX0_knownNames 1 := ⟨by decide +kernel, by decide +kernel, by decide +kernel⟩
theorem okM_X0_knownPlaces : okM yX0_knownPlaces 0 := ⟨by decide +kernel, by decide +kernel, by decide +kernel⟩
theorem okM_X0_lay : okM yX0_lay 2 := ⟨by decide +kernel, by decide +kernel, by decide +kernel⟩
theorem okM_X0_liesWithin : okM yX0_liesWithin 3 := ⟨by decide +kernel, by decide +kernel, by decide +kernel⟩
theorem okM_X0_partOf : okM yX0_partOf 2 := ⟨by decide +kernel, by decide +kernel, by decide +kernel⟩
theorem okM_X0_weigh : okM yX0_weigh 4 := ⟨by decide +kernel, by decide +kernel, by decide +kernel⟩
theorem okM_X10_admit : okM yX10_admit 2 := ⟨by decide +kernel, by decide +kernel, by decide +kernel⟩
theorem okM_X10_canBe : okM yX10_canBe 3 := ⟨by decide +kernel, by decide +kernel, by decide +kernel⟩
theorem okM_X10_commonDivisor : okM yX10_commonDivisor 2 := ⟨by decide +kernel, by decide +kernel, by decide +kernel⟩
theorem okM_X10_countLies : okM yX10_countLies 1 := ⟨by decide +kernel, by decide +kernel, by decide +kernel⟩
theorem okM_X10_extraFits : okM yX10_extraFits 2 := ⟨by decide +kernel, by decide +kernel, by decide +kernel⟩
theorem okM_X10_imageAt : okM yX10_imageAt 1 := ⟨by decide +kernel, by decide +kernel, by decide +kernel⟩
theorem okM_X10_isLie : okM yX10_isLie 2 := ⟨by decide +kernel, by decide +kernel, by decide +kernel⟩
theorem okM_X10_isName : okM yX10_isName 1 := ⟨by decide +kernel, by decide +kernel, by decide +kernel⟩
theorem okM_X10_modulo : okM yX10_modulo 2 := ⟨by decide +kernel, by decide +kernel, by decide +kernel⟩
theorem okM_X10_needFilled : okM yX10_needFilled 1 := ⟨by decide +kernel, by decide +kernel, by decide +kernel⟩
theorem okM_X10_needKind : okM yX10_needKind 2 := ⟨by decide +kernel, by decide +kernel, by decide +kernel⟩
theorem okM_X10_needMarkAndSize : okM yX10_needMarkAndSize 2 := ⟨by decide +kernel, by decide +kernel, by decide +kernel⟩
theorem okM_X10_needName : okM yX10_needName 1 := ⟨by decide +kernel, by decide +kernel, by decide +kernel⟩
theorem okM_X10_needNames : okM yX10_needNames 1 := ⟨by decide +kernel, by decide +kernel, by decide +kernel⟩
theorem okM_X10_needUnsolved : okM yX10_needUnsolved 1 := ⟨by decide +kernel, by decide +kernel, by decide +kernel⟩
theorem okM_X10_needWhat : okM yX10_needWhat 2 := ⟨by decide +kernel, by decide +kernel, by decide +kernel⟩
theorem okM_X10_rowAt : okM yX10_rowAt 1 := ⟨by decide +kernel, by decide +kernel, by decide +kernel⟩
theorem okM_X10_trayAt : okM yX10_trayAt 1 := ⟨by decide +kernel, by decide +kernel, by decide +kernel⟩
theorem okM_X11_all : okM yX11_all 1 := ⟨by decide +kernel, by decide +kernel, by decide +kernel⟩
theorem okM_X11_areNames : okM yX11_areNames 2 := ⟨by decide +kernel, by decide +kernel, by decide +kernel⟩
theorem okM_X11_areSet : okM yX11_areSet 4 := ⟨by decide +kernel, by decide +kernel, by decide +kernel⟩
theorem okM_X11_askFault : okM yX11_askFault 2 := ⟨by decide +kernel, by decide +kernel, by decide +kernel⟩
theorem okM_X11_begins : okM yX11_begins 1 := ⟨by decide +kernel, by decide +kernel, by decide +kernel⟩
theorem okM_X11_blames : okM yX11_blames 1 := ⟨by decide +kernel, by decide +kernel, by decide +kernel⟩
theorem okM_X11_canSolve : okM yX11_canSolve 2 := ⟨by decide +kernel, by decide +kernel, by decide +kernel⟩
theorem okM_X11_code : okM yX11_code 2 := ⟨by decide +kernel, by decide +kernel, by decide +kernel⟩
theorem okM_X11_fails : okM yX11_fails 1 := ⟨by decide +kernel, by decide +kernel, by decide +kernel⟩
theorem okM_X11_freeSlot : okM yX11_freeSlot 2 := ⟨by decide +kernel, by decide +kernel, by decide +kernel⟩
theorem okM_X11_get : okM yX11_get 2 := ⟨by decide +kernel, by decide +kernel, by decide +kernel⟩
theorem okM_X11_guestIn : okM yX11_guestIn 3 := ⟨by decide +kernel, by decide +kernel, by decide +kernel⟩
theorem okM_X11_inTray : okM yX11_inTray 2 := ⟨by decide +kernel, by decide +kernel, by decide +kernel⟩
theorem okM_X11_isCounted : okM yX11_isCounted 1 := ⟨by decide +kernel, by decide +kernel, by decide +kernel⟩
theorem okM_X11_isDigit : okM yX11_isDigit 1 := ⟨by decide +kernel, by decide +kernel, by decide +kernel⟩
theorem okM_X11_isIn : okM yX11_isIn 2 := ⟨by decide +kernel, by decide +kernel, by decide +kernel⟩
theorem okM_X11_isLetter : okM yX11_isLetter 1 := ⟨by decide +kernel, by decide +kernel, by decide +kernel⟩
theorem okM_X11_isLie : okM yX11_isLie 2 := ⟨by decide +kernel, by decide +kernel, by decide +kernel⟩
theorem okM_X11_isMark : okM yX11_isMark 1 := ⟨by decide +kernel, by decide +kernel, by decide +kernel⟩
theorem okM_X11_isName : okM yX11_isName 1 := ⟨by decide +kernel, by decide +kernel, by decide +kernel⟩
theorem okM_X11_isRow : okM yX11_isRow 1 := ⟨by decide +kernel, by decide +kernel, by decide +kernel⟩
theorem okM_X11_isSaid : okM yX11_isSaid 3 := ⟨by decide +kernel, by decide +kernel, by decide +kernel⟩
theorem okM_X11_isSign : okM yX11_isSign 1 := ⟨by decide +kernel, by decide +kernel, by decide +kernel⟩
theorem okM_X11_isTagged : okM yX11_isTagged 3 := ⟨by decide +kernel, by decide +kernel, by decide +kernel⟩
theorem okM_X11_isTray : okM yX11_isTray 1 := ⟨by decide +kernel, by decide +kernel, by decide +kernel⟩
theorem okM_X11_isWord : okM yX11_isWord 1 := ⟨by decide +kernel, by decide +kernel, by decide +kernel⟩
theorem okM_X11_joins : okM yX11_joins 3 := ⟨by decide +kernel, by decide +kernel, by decide +kernel⟩
theorem okM_X11_layBits : okM yX11_layBits 2 := ⟨by decide +kernel, by decide +kernel, by decide +kernel⟩
theorem okM_X11_layerAt : okM yX11_layerAt 2 := ⟨by decide +kernel, by decide +kernel, by decide +kernel⟩
theorem okM_X11_learns : okM yX11_learns 2 := ⟨by decide +kernel, by decide +kernel, by decide +kernel⟩
theorem okM_X11_lies : okM yX11_lies 1 := ⟨by decide +kernel, by decide +kernel, by decide +kernel⟩
theorem okM_X11_liesBy : okM yX11_liesBy 3 := ⟨by decide +kernel, by decide +kernel, by decide +kernel⟩
theorem okM_X11_liesWith : okM yX11_liesWith 2 := ⟨by decide +kernel, by decide +kernel, by decide +kernel⟩
theorem okM_X11_many : okM yX11_many 1 := ⟨by decide +kernel, by decide +kernel, by decide +kernel⟩
theorem okM_X11_markFault : okM yX11_markFault 2 := ⟨by decide +kernel, by decide +kernel, by decide +kernel⟩
theorem okM_X11_modulo : okM yX11_modulo 2 := ⟨by decide +kernel, by decide +kernel, by decide +kernel⟩
theorem okM_X11_nameFault : okM yX11_nameFault 2 := ⟨by decide +kernel, by decide +kernel, by decide +kernel⟩
theorem okM_X11_nestPuts : okM yX11_nestPuts 2 := ⟨by decide +kernel, by decide +kernel, by decide +kernel⟩
theorem okM_X11_number : okM yX11_number 2 := ⟨by decide +kernel, by decide +kernel, by decide +kernel⟩
theorem okM_X11_otherNest : okM yX11_otherNest 3 := ⟨by decide +kernel, by decide +kernel, by decide +kernel⟩
theorem okM_X11_placeOf : okM yX11_placeOf 3 := ⟨by decide +kernel, by decide +kernel, by decide +kernel⟩
theorem okM_X11_pushes : okM yX11_pushes 3 := ⟨by decide +kernel, by decide +kernel, by decide +kernel⟩
theorem okM_X11_puts : okM yX11_puts 2 := ⟨by decide +kernel, by decide +kernel, by decide +kernel⟩
theorem okM_X11_putsOr : okM yX11_putsOr 2 := ⟨by decide +kernel, by decide +kernel, by decide +kernel⟩
theorem okM_X11_readFor : okM yX11_readFor 1 := ⟨by decide +kernel, by decide +kernel, by decide +kernel⟩
theorem okM_X11_readLine : okM yX11_readLine 0 := ⟨by decide +kernel, by decide +kernel, by decide +kernel⟩
theorem okM_X11_readProduct : okM yX11_readProduct 0 := ⟨by decide +kernel, by decide +kernel, by decide +kernel⟩
theorem okM_X11_readSum : okM yX11_readSum 0 := ⟨by decide +kernel, by decide +kernel, by decide +kernel⟩
theorem okM_X11_readUnit : okM yX11_readUnit 0 := ⟨by decide +kernel, by decide +kernel, by decide +kernel⟩
theorem okM_X11_reads : okM yX11_reads 0 := ⟨by decide +kernel, by decide +kernel, by decide +kernel⟩
theorem okM_X11_rowTrayFault : okM yX11_rowTrayFault 2 := ⟨by decide +kernel, by decide +kernel, by decide +kernel⟩
theorem okM_X11_says : okM yX11_says 2 := ⟨by decide +kernel, by decide +kernel, by decide +kernel⟩
theorem okM_X11_see : okM yX11_see 1 := ⟨by decide +kernel, by decide +kernel, by decide +kernel⟩
theorem okM_X11_set : okM yX11_set 3 := ⟨by decide +kernel, by decide +kernel, by decide +kernel⟩
theorem okM_X11_slotAt : okM yX11_slotAt 3 := ⟨by decide +kernel, by decide +kernel, by decide +kernel⟩
theorem okM_X11_spot : okM yX11_spot 3 := ⟨by decide +kernel, by decide +kernel, by decide +kernel⟩
theorem okM_X11_tagOf : okM yX11_tagOf 1 := ⟨by decide +kernel, by decide +kernel, by decide +kernel⟩
theorem okM_X11_takesPut : okM yX11_takesPut 1 := ⟨by decide +kernel, by decide +kernel, by decide +kernel⟩
theorem okM_X11_together : okM yX11_together 3 := ⟨by decide +kernel, by decide +kernel, by decide +kernel⟩
theorem okM_X11_took : okM yX11_took 1 := ⟨by decide +kernel, by decide +kernel, by decide +kernel⟩
theorem okM_X11_tookSign : okM yX11_tookSign 1 := ⟨by decide +kernel, by decide +kernel, by decide +kernel⟩
theorem okM_X11_unknown : okM yX11_unknown 2 := ⟨by decide +kernel, by decide +kernel, by decide +kernel⟩
theorem okM_X11_valueOf : okM yX11_valueOf 3 := ⟨by decide +kernel, by decide +kernel, by decide +kernel⟩
theorem okM_X11_within : okM yX11_within 3 := ⟨by decide +kernel, by decide +kernel, by decide +kernel⟩
theorem okM_X1_build : okM yX1_build 4 := ⟨by decide +kernel, by decide +kernel, by decide +kernel⟩
theorem okM_X1_gatherOutside : okM yX1_gatherOutside 3 := ⟨by decide +kernel, by decide +kernel, by decide +kernel⟩
theorem okM_X1_keepWronged : okM yX1_keepWronged 5 := ⟨by decide +kernel, by decide +kernel, by decide +kernel⟩
theorem okM_X2_add : okM yX2_add 1 := ⟨by decide +kernel, by decide +kernel, by decide +kernel⟩
theorem okM_X2_addAll : okM yX2_addAll 1 := ⟨by decide +kernel, by decide +kernel, by decide +kernel⟩
theorem okM_X2_clear : okM yX2_clear 0 := ⟨by decide +kernel, by decide +kernel, by decide +kernel⟩
theorem okM_X2_copyFrom : okM yX2_copyFrom 1 := ⟨by decide +kernel, by decide +kernel, by decide +kernel⟩
theorem okM_X2_has : okM yX2_has 1 := ⟨by decide +kernel, by decide +kernel, by decide +kernel⟩
theorem okM_X2_many : okM yX2_many 0 := ⟨by decide +kernel, by decide +kernel, by decide +kernel⟩
theorem okM_X2_remove : okM yX2_remove 1 := ⟨by decide +kernel, by decide +kernel, by decide +kernel⟩
theorem okM_X3_enlarge : okM yX3_enlarge 2 := ⟨by decide +kernel, by decide +kernel, by decide +kernel⟩
theorem okM_X3_otherNest : okM yX3_otherNest 4 := ⟨by decide +kernel, by decide +kernel, by decide +kernel⟩
theorem okM_X3_pushAlong : okM yX3_pushAlong 3 := ⟨by decide +kernel, by decide +kernel, by decide +kernel⟩
theorem okM_X3_reach : okM yX3_reach 3 := ⟨by decide +kernel, by decide +kernel, by decide +kernel⟩
theorem okM_X3_search : okM yX3_search 4 := ⟨by decide +kernel, by decide +kernel, by decide +kernel⟩
theorem okM_X3_settle : okM yX3_settle 3 := ⟨by decide +kernel, by decide +kernel, by decide +kernel⟩
theorem okM_X4_accept : okM yX4_accept 0 := ⟨by decide +kernel, by decide +kernel, by decide +kernel⟩
theorem okM_X4_acceptBound : okM yX4_acceptBound 0 := ⟨by decide +kernel, by decide +kernel, by decide +kernel⟩
theorem okM_X4_acceptHead : okM yX4_acceptHead 0 := ⟨by decide +kernel, by decide +kernel, by decide +kernel⟩
theorem okM_X4_acceptOperand : okM yX4_acceptOperand 0 := ⟨by decide +kernel, by decide +kernel, by decide +kernel⟩
theorem okM_X4_acceptOperator : okM yX4_acceptOperator 0 := ⟨by decide +kernel, by decide +kernel, by decide +kernel⟩
theorem okM_X4_acceptSemicolon : okM yX4_acceptSemicolon 0 := ⟨by decide +kernel, by decide +kernel, by decide +kernel⟩
theorem okM_X4_advance : okM yX4_advance 0 := ⟨by decide +kernel, by decide +kernel, by decide +kernel⟩
theorem okM_X4_append : okM yX4_append 1 := ⟨by decide +kernel, by decide +kernel, by decide +kernel⟩
theorem okM_X4_byteAt : okM yX4_byteAt 1 := ⟨by decide +kernel, by decide +kernel, by decide +kernel⟩
theorem okM_X4_emitWaiting : okM yX4_emitWaiting 1 := ⟨by decide +kernel, by decide +kernel, by decide +kernel⟩
theorem okM_X4_finishExpression : okM yX4_finishExpression 0 := ⟨by decide +kernel, by decide +kernel, by decide +kernel⟩
theorem okM_X4_holdBack : okM yX4_holdBack 1 := ⟨by decide +kernel, by decide +kernel, by decide +kernel⟩
theorem okM_X4_isBlank : okM yX4_isBlank 1 := ⟨by decide +kernel, by decide +kernel, by decide +kernel⟩
theorem okM_X4_isDigit : okM yX4_isDigit 1 := ⟨by decide +kernel, by decide +kernel, by decide +kernel⟩
theorem okM_X4_isLetter : okM yX4_isLetter 1 := ⟨by decide +kernel, by decide +kernel, by decide +kernel⟩
theorem okM_X4_rankOf : okM yX4_rankOf 1 := ⟨by decide +kernel, by decide +kernel, by decide +kernel⟩
theorem okM_X4_readAll : okM yX4_readAll 1 := ⟨by decide +kernel, by decide +kernel, by decide +kernel⟩
theorem okM_X4_scanNumber : okM yX4_scanNumber 0 := ⟨by decide +kernel, by decide +kernel, by decide +kernel⟩
theorem okM_X4_scanWord : okM yX4_scanWord 0 := ⟨by decide +kernel, by decide +kernel, by decide +kernel⟩
theorem okM_X4_spells : okM yX4_spells 1 := ⟨by decide +kernel, by decide +kernel, by decide +kernel⟩
theorem okM_X4_stepOf : okM yX4_stepOf 1 := ⟨by decide +kernel, by decide +kernel, by decide +kernel⟩
theorem okM_X5_absorb : okM yX5_absorb 1 := ⟨by decide +kernel, by decide +kernel, by decide +kernel⟩
theorem okM_X5_allAbove0 : okM yX5_allAbove0 4 := ⟨by decide +kernel, by decide +kernel, by decide +kernel⟩
theorem okM_X5_begin : okM yX5_begin 4 := ⟨by decide +kernel, by decide +kernel, by decide +kernel⟩
theorem okM_X5_bits : okM yX5_bits 0 := ⟨by decide +kernel, by decide +kernel, by decide +kernel⟩
theorem okM_X5_cellAt : okM yX5_cellAt 1 := ⟨by decide +kernel, by decide +kernel, by decide +kernel⟩
theorem okM_X5_clearCells : okM yX5_clearCells 0 := ⟨by decide +kernel, by decide +kernel, by decide +kernel⟩
theorem okM_X5_copyFrom : okM yX5_copyFrom 1 := ⟨by decide +kernel, by decide +kernel, by decide +kernel⟩
theorem okM_X5_fold : okM yX5_fold 0 := ⟨by decide +kernel, by decide +kernel, by decide +kernel⟩
theorem okM_X5_freeGuest : okM yX5_freeGuest 1 := ⟨by decide +kernel, by decide +kernel, by decide +kernel⟩
theorem okM_X5_freeSlot : okM yX5_freeSlot 1 := ⟨by decide +kernel, by decide +kernel, by decide +kernel⟩
theorem okM_X5_fullCell : okM yX5_fullCell 0 := ⟨by decide +kernel, by decide +kernel, by decide +kernel⟩
theorem okM_X5_guestAt : okM yX5_guestAt 2 := ⟨by decide +kernel, by decide +kernel, by decide +kernel⟩
theorem okM_X5_guestsIn : okM yX5_guestsIn 1 := ⟨by decide +kernel, by decide +kernel, by decide +kernel⟩
theorem okM_X5_hasGuestLike : okM yX5_hasGuestLike 3 := ⟨by decide +kernel, by decide +kernel, by decide +kernel⟩
theorem okM_X5_isPlain : okM yX5_isPlain 0 := ⟨by decide +kernel, by decide +kernel, by decide +kernel⟩
theorem okM_X5_layerSize : okM yX5_layerSize 1 := ⟨by decide +kernel, by decide +kernel, by decide +kernel⟩
theorem okM_X5_layerStart : okM yX5_layerStart 1 := ⟨by decide +kernel, by decide +kernel, by decide +kernel⟩
theorem okM_X5_mark : okM yX5_mark 2 := ⟨by decide +kernel, by decide +kernel, by decide +kernel⟩
theorem okM_X5_places : okM yX5_places 0 := ⟨by decide +kernel, by decide +kernel, by decide +kernel⟩
theorem okM_X5_raise : okM yX5_raise 4 := ⟨by decide +kernel, by decide +kernel, by decide +kernel⟩
theorem okM_X5_says : okM yX5_says 2 := ⟨by decide +kernel, by decide +kernel, by decide +kernel⟩
theorem okM_X5_setCell : okM yX5_setCell 2 := ⟨by decide +kernel, by decide +kernel, by decide +kernel⟩
theorem okM_X5_setGuest : okM yX5_setGuest 3 := ⟨by decide +kernel, by decide +kernel, by decide +kernel⟩
theorem okM_X5_together : okM yX5_together 2 := ⟨by decide +kernel, by decide +kernel, by decide +kernel⟩
theorem okM_X5_unmark : okM yX5_unmark 2 := ⟨by decide +kernel, by decide +kernel, by decide +kernel⟩
theorem okM_X6_addMark : okM yX6_addMark 1 := ⟨by decide +kernel, by decide +kernel, by decide +kernel⟩
theorem okM_X6_clear : okM yX6_clear 0 := ⟨by decide +kernel, by decide +kernel, by decide +kernel⟩
theorem okM_X6_compute : okM yX6_compute 4 := ⟨by decide +kernel, by decide +kernel, by decide +kernel⟩
theorem okM_X6_copyFrom : okM yX6_copyFrom 1 := ⟨by decide +kernel, by decide +kernel, by decide +kernel⟩
theorem okM_X6_emit : okM yX6_emit 1 := ⟨by decide +kernel, by decide +kernel, by decide +kernel⟩
theorem okM_X6_emitted : okM yX6_emitted 0 := ⟨by decide +kernel, by decide +kernel, by decide +kernel⟩
theorem okM_X6_fillTables : okM yX6_fillTables 0 := ⟨by decide +kernel, by decide +kernel, by decide +kernel⟩
theorem okM_X6_placeOf : okM yX6_placeOf 3 := ⟨by decide +kernel, by decide +kernel, by decide +kernel⟩
theorem okM_X6_placesOf : okM yX6_placesOf 3 := ⟨by decide +kernel, by decide +kernel, by decide +kernel⟩
theorem okM_X6_setTag : okM yX6_setTag 1 := ⟨by decide +kernel, by decide +kernel, by decide +kernel⟩
theorem okM_X6_tagOf : okM yX6_tagOf 1 := ⟨by decide +kernel, by decide +kernel, by decide +kernel⟩
theorem okM_X6_valueOf : okM yX6_valueOf 3 := ⟨by decide +kernel, by decide +kernel, by decide +kernel⟩
theorem okM_X7_copyFrom : okM yX7_copyFrom 1 := ⟨by decide +kernel, by decide +kernel, by decide +kernel⟩
theorem okM_X7_removeRows : okM yX7_removeRows 0 := ⟨by decide +kernel, by decide +kernel, by decide +kernel⟩
theorem okM_X7_rowsThere : okM yX7_rowsThere 0 := ⟨by decide +kernel, by decide +kernel, by decide +kernel⟩
theorem okM_X8_chooseFor : okM yX8_chooseFor 2 := ⟨by decide +kernel, by decide +kernel, by decide +kernel⟩
theorem okM_X8_joinTo : okM yX8_joinTo 3 := ⟨by decide +kernel, by decide +kernel, by decide +kernel⟩
theorem okM_X8_settle : okM yX8_settle 3 := ⟨by decide +kernel, by decide +kernel, by decide +kernel⟩
theorem okM_X8_solveFor : okM yX8_solveFor 3 := ⟨by decide +kernel, by decide +kernel, by decide +kernel⟩
theorem okM_X8_state : okM yX8_state 4 := ⟨by decide +kernel, by decide +kernel, by decide +kernel⟩
theorem okM_X9_allWithin : okM yX9_allWithin 2 := ⟨by decide +kernel, by decide +kernel, by decide +kernel⟩
theorem okM_X9_begin : okM yX9_begin 2 := ⟨by decide +kernel, by decide +kernel, by decide +kernel⟩
theorem okM_X9_cut : okM yX9_cut 1 := ⟨by decide +kernel, by decide +kernel, by decide +kernel⟩
theorem okM_X9_hasTwoAlike : okM yX9_hasTwoAlike 0 := ⟨by decide +kernel, by decide +kernel, by decide +kernel⟩
theorem okM_X9_keep : okM yX9_keep 2 := ⟨by decide +kernel, by decide +kernel, by decide +kernel⟩
theorem okM_X9_numberAt : okM yX9_numberAt 1 := ⟨by decide +kernel, by decide +kernel, by decide +kernel⟩
theorem cw_RJ0_1059 : ∀ w ∈ wS RJ0 1059 yJ3_checkIndex_8e157 cJ3_checkIndex_8e157 3 (some (FieldType.int)), w ∈ GW := wS_of gw_3_118 gw_3_119 gw_1_19 gw_3_120
theorem cw_RJ0_335 : ∀ w ∈ wV RJ0 335 RJ0 yJ0_coder_7d493 cJ0_coder_7d493 1 (some (FieldType.byte)), w ∈ GW := wV_of gw_3_96 gw_3_97 gw_3_98 gw_1_17 gw_3_99
theorem cw_RJ0_492 : ∀ w ∈ wV RJ0 492 RJ0 yJ0_isLatin1_aae02 cJ0_isLatin1_aae02 1 (some (FieldType.boolean)), w ∈ GW := wV_of gw_3_106 gw_3_107 gw_3_108 gw_1_17 gw_3_109
theorem cw_RJ0_495 : ∀ w ∈ wS RJ0 495 yJ1_charAt_3b067 cJ1_charAt_3b067 2 (some (FieldType.char)), w ∈ GW := wS_of gw_3_110 gw_3_111 gw_1_18 gw_3_112
theorem cw_RJ0_505 : ∀ w ∈ wV RJ0 505 RJ0 yJ0_length_8abf5 cJ0_length_8abf5 1 (some (FieldType.int)), w ∈ GW := wV_of gw_3_161 gw_3_93 gw_3_94 gw_1_17 gw_3_95
theorem cw_RJ0_633 : ∀ w ∈ wV RJ0 633 RJ0 yJ0_indexOf_7cf53 cJ0_indexOf_7cf53 3 (some (FieldType.int)), w ∈ GW := wV_of gw_3_157 gw_3_158 gw_3_159 gw_1_17 gw_3_160
theorem cw_RJ0_637 : ∀ w ∈ wS RJ0 637 yJ1_indexOf_4cfef cJ1_indexOf_4cfef 4 (some (FieldType.int)), w ∈ GW := wS_of gw_3_162 gw_3_163 gw_1_18 gw_3_164
theorem cw_RJ1_38 : ∀ w ∈ wS RJ1 38 Lib.Math.min.name Lib.Math.min.code 2 (some (FieldType.int)), w ∈ GW := wS_of gw_3_171 gw_3_172 gw_1_21 gw_3_173
theorem cw_RJ1_88 : ∀ w ∈ wS RJ1 88 yJ1_canEncode_9a6ad cJ1_canEncode_9a6ad 1 (some (FieldType.boolean)), w ∈ GW := wS_of gw_3_165 gw_3_166 gw_1_18 gw_3_167
theorem cw_RJ1_9 : ∀ w ∈ wS RJ1 9 yJ0_checkIndex_df160 cJ0_checkIndex_df160 2 (none), w ∈ GW := wS_of gw_3_113 gw_3_114 gw_1_17 gw_3_115
theorem cw_RJ1_92 : ∀ w ∈ wS RJ1 92 Lib.Math.max.name Lib.Math.max.code 2 (some (FieldType.int)), w ∈ GW := wS_of gw_3_168 gw_3_169 gw_1_21 gw_3_170
theorem cw_RJ1_95 : ∀ w ∈ wS RJ1 95 yJ1_indexOfChar_4cfef cJ1_indexOfChar_4cfef 6 (some (FieldType.int)), w ∈ GW := wS_of gw_3_174 gw_3_175 gw_1_18 gw_3_176
theorem cw_RX0_100 : ∀ w ∈ wV RX0 100 RX0 yX0_liesWithin cX0_liesWithin 7 (some (FieldType.int)), w ∈ GW := wV_of gw_6_132 gw_6_134 gs_41 gw_1_10 gw_6_135
theorem cw_RX0_105 : ∀ w ∈ wS RX0 105 yJ7_fill_53178 cJ7_fill_53178 4 (none), w ∈ GW := wS_of gw_6_148 gw_4_140 gw_1_25 gw_4_141
theorem cw_RX0_111 : ∀ w ∈ wS RX0 111 yX0_partOf cX0_partOf 7 (some (FieldType.int)), w ∈ GW := wS_of gw_6_149 gw_6_150 gw_1_10 gw_6_151
theorem cw_RX0_115 : ∀ w ∈ wV RX0 115 RX0 yX0_addPart cX0_addPart 5 (none), w ∈ GW := wV_of gw_6_152 gw_6_154 gs_42 gw_1_10 gw_6_155
theorem cw_RX0_122 : ∀ w ∈ wS RX0 122 yJ7_fill_d0a16 cJ7_fill_d0a16 5 (none), w ∈ GW := wS_of gw_6_168 gw_4_133 gw_1_25 gw_4_134
theorem cw_RX0_126 : ∀ w ∈ wV RX0 126 RX0 yX0_weigh cX0_weigh 10 (none), w ∈ GW := wV_of gw_6_169 gw_6_171 gs_43 gw_1_10 gw_6_172
theorem cw_RX0_130 : ∀ w ∈ wV RX0 130 RX6 yX6_placeOf cX6_placeOf 6 (some (FieldType.int)), w ∈ GW := wV_of gw_6_173 gw_4_85 gw_4_86 gw_1_3 gw_4_87
theorem cw_RX0_32 : ∀ w ∈ wS RX0 32 Lib.Math.min.name Lib.Math.min.code 2 (some (FieldType.int)), w ∈ GW := wS_of gw_6_90 gw_3_172 gw_1_21 gw_3_173
theorem cw_RX0_47 : ∀ w ∈ wV RX0 47 RX6 yX6_placesOf cX6_placesOf 7 (some (FieldType.long)), w ∈ GW := wV_of gw_6_91 gw_6_69 gw_6_70 gw_1_3 gw_6_71
theorem cw_RX0_51 : ∀ w ∈ wV RX0 51 RX0 yX0_lay cX0_lay 4 (none), w ∈ GW := wV_of gw_6_86 gw_6_88 gs_40 gw_1_10 gw_6_89
theorem cw_RX0_55 : ∀ w ∈ wV RX0 55 RX5 yX5_bits cX5_bits 4 (some (FieldType.long)), w ∈ GW := wV_of gw_6_92 gw_6_93 gw_6_94 gw_1_4 gw_6_95
theorem cw_RX0_63 : ∀ w ∈ wV RX0 63 RX2 yX2_clear cX2_clear 1 (none), w ∈ GW := wV_of gw_6_96 gw_4_129 gw_4_130 gw_1_5 gw_4_131
theorem cw_RX0_71 : ∀ w ∈ wV RX0 71 RX9 yX9_numberAt cX9_numberAt 2 (some (FieldType.long)), w ∈ GW := wV_of gw_6_97 gw_5_196 gw_5_197 gw_1_6 gw_5_198
theorem cw_RX0_75 : ∀ w ∈ wV RX0 75 RX2 yX2_add cX2_add 2 (none), w ∈ GW := wV_of gw_6_98 gw_5_101 gw_5_102 gw_1_5 gw_5_103
theorem cw_RX0_81 : ∀ w ∈ wS RX0 81 yJ13_bitCount_95d88 cJ13_bitCount_95d88 2 (some (FieldType.int)), w ∈ GW := wS_of gw_6_104 gw_4_159 gw_1_26 gw_4_160
theorem cw_RX0_87 : ∀ w ∈ wV RX0 87 RX2 yX2_has cX2_has 2 (some (FieldType.boolean)), w ∈ GW := wV_of gw_6_109 gw_5_36 gw_5_37 gw_1_5 gw_5_38
theorem cw_RX10_106 : ∀ w ∈ wV RX10 106 RX6 yX6_copyFrom cX6_copyFrom 2 (none), w ∈ GW := wV_of gw_4_33 gw_4_34 gw_4_35 gw_1_3 gw_4_36
theorem cw_RX10_110 : ∀ w ∈ wV RX10 110 RX7 yX7_removeRows cX7_removeRows 2 (none), w ∈ GW := wV_of gw_4_40 gw_4_41 gw_4_42 gw_1_2 gw_4_43
theorem cw_RX10_116 : ∀ w ∈ wV RX10 116 RX10 yX10_needMarkAndSize cX10_needMarkAndSize 3 (none), w ∈ GW := wV_of gw_4_52 gw_4_54 gs_16 gw_1_1 gw_4_55
theorem cw_RX10_120 : ∀ w ∈ wV RX10 120 RX6 yX6_valueOf cX6_valueOf 4 (some (FieldType.int)), w ∈ GW := wV_of gw_4_73 gw_4_74 gw_4_75 gw_1_3 gw_4_76
theorem cw_RX10_124 : ∀ w ∈ wV RX10 124 RX6 yX6_placeOf cX6_placeOf 6 (some (FieldType.int)), w ∈ GW := wV_of gw_4_84 gw_4_85 gw_4_86 gw_1_3 gw_4_87
theorem cw_RX10_137 : ∀ w ∈ wV RX10 137 RX10 yX10_needName cX10_needName 3 (none), w ∈ GW := wV_of gw_4_95 gw_4_97 gs_17 gw_1_1 gw_4_98
theorem cw_RX10_141 : ∀ w ∈ wV RX10 141 RX6 yX6_tagOf cX6_tagOf 2 (some (FieldType.int)), w ∈ GW := wV_of gw_4_104 gw_4_105 gw_4_106 gw_1_3 gw_4_107
theorem cw_RX10_147 : ∀ w ∈ wV RX10 147 RX10 yX10_canBe cX10_canBe 5 (some (FieldType.boolean)), w ∈ GW := wV_of gw_4_116 gw_4_118 gs_19 gw_1_1 gw_4_119
theorem cw_RX10_151 : ∀ w ∈ wS RX10 151 yX10_extraFits cX10_extraFits 2 (some (FieldType.boolean)), w ∈ GW := wS_of gw_4_120 gw_4_121 gw_1_1 gw_4_122
theorem cw_RX10_161 : ∀ w ∈ wV RX10 161 RX5 yX5_begin cX5_begin 5 (none), w ∈ GW := wV_of gw_4_124 gw_4_125 gw_4_126 gw_1_4 gw_4_127
theorem cw_RX10_167 : ∀ w ∈ wV RX10 167 RX10 yX10_rowAt cX10_rowAt 2 (some ((FieldType.object "PerhapsRows$Row"))), w ∈ GW := wV_of gw_4_149 gw_4_151 gs_20 gw_1_1 gw_4_152
theorem cw_RX10_185 : ∀ w ∈ wV RX10 185 RX2 yX2_many cX2_many 3 (some (FieldType.int)), w ∈ GW := wV_of gw_4_154 gw_4_155 gw_4_156 gw_1_5 gw_4_157
theorem cw_RX10_199 : ∀ w ∈ wV RX10 199 RX5 yX5_places cX5_places 1 (some (FieldType.int)), w ∈ GW := wV_of gw_4_173 gw_4_174 gw_4_175 gw_1_4 gw_4_176
theorem cw_RX10_207 : ∀ w ∈ wV RX10 207 RX5 yX5_guestsIn cX5_guestsIn 4 (some (FieldType.int)), w ∈ GW := wV_of gw_4_197 gw_4_198 gw_4_199 gw_1_4 gw_4_200
theorem cw_RX10_210 : ∀ w ∈ wV RX10 210 RX5 yX5_cellAt cX5_cellAt 2 (some (FieldType.int)), w ∈ GW := wV_of gw_4_209 gw_4_206 gw_4_207 gw_1_4 gw_4_208
theorem cw_RX10_213 : ∀ w ∈ wS RX10 213 yX10_needKind cX10_needKind 2 (none), w ∈ GW := wS_of gw_4_218 gw_4_219 gw_1_1 gw_4_220
theorem cw_RX10_219 : ∀ w ∈ wV RX10 219 RX5 yX5_guestAt cX5_guestAt 3 (some (FieldType.int)), w ∈ GW := wV_of gw_4_238 gw_4_202 gw_4_203 gw_1_4 gw_4_204
theorem cw_RX10_223 : ∀ w ∈ wV RX10 223 RX5 yX5_says cX5_says 4 (some (FieldType.boolean)), w ∈ GW := wV_of gw_5_6 gw_5_7 gw_5_8 gw_1_4 gw_5_9
theorem cw_RX10_227 : ∀ w ∈ wV RX10 227 RX2 yX2_has cX2_has 2 (some (FieldType.boolean)), w ∈ GW := wV_of gw_5_35 gw_5_36 gw_5_37 gw_1_5 gw_5_38
theorem cw_RX10_230 : ∀ w ∈ wS RX10 230 yX10_needUnsolved cX10_needUnsolved 1 (none), w ∈ GW := wS_of gw_5_46 gw_5_47 gw_1_1 gw_5_48
theorem cw_RX10_234 : ∀ w ∈ wV RX10 234 RX10 yX10_admit cX10_admit 4 (some (FieldType.int)), w ∈ GW := wV_of gw_5_50 gw_5_52 gs_26 gw_1_1 gw_5_53
theorem cw_RX10_238 : ∀ w ∈ wV RX10 238 RX3 yX3_settle cX3_settle 9 (some (FieldType.boolean)), w ∈ GW := wV_of gw_5_54 gw_5_55 gw_5_56 gw_1_8 gw_5_57
theorem cw_RX10_242 : ∀ w ∈ wV RX10 242 RX5 yX5_mark cX5_mark 3 (some (FieldType.boolean)), w ∈ GW := wV_of gw_5_87 gw_5_88 gw_5_89 gw_1_4 gw_5_90
theorem cw_RX10_245 : ∀ w ∈ wV RX10 245 RX2 yX2_add cX2_add 2 (none), w ∈ GW := wV_of gw_5_100 gw_5_101 gw_5_102 gw_1_5 gw_5_103
theorem cw_RX10_253 : ∀ w ∈ wV RX10 253 RX5 yX5_freeGuest cX5_freeGuest 3 (none), w ∈ GW := wV_of gw_5_112 gw_5_113 gw_5_114 gw_1_4 gw_5_115
theorem cw_RX10_256 : ∀ w ∈ wV RX10 256 RX5 yX5_unmark cX5_unmark 6 (none), w ∈ GW := wV_of gw_5_116 gw_5_117 gw_5_118 gw_1_4 gw_5_119
theorem cw_RX10_260 : ∀ w ∈ wV RX10 260 RX2 yX2_remove cX2_remove 2 (none), w ∈ GW := wV_of gw_5_120 gw_5_121 gw_5_122 gw_1_5 gw_5_123
theorem cw_RX10_263 : ∀ w ∈ wV RX10 263 RX5 yX5_isPlain cX5_isPlain 1 (some (FieldType.boolean)), w ∈ GW := wV_of gw_5_132 gw_5_133 gw_5_134 gw_1_4 gw_5_135
theorem cw_RX10_271 : ∀ w ∈ wV RX10 271 RX5 yX5_absorb cX5_absorb 3 (none), w ∈ GW := wV_of gw_5_138 gw_5_139 gw_5_140 gw_1_4 gw_5_141
theorem cw_RX10_276 : ∀ w ∈ wV RX10 276 RX5 yX5_fold cX5_fold 3 (none), w ∈ GW := wV_of gw_5_154 gw_5_155 gw_5_156 gw_1_4 gw_5_157
theorem cw_RX10_281 : ∀ w ∈ wV RX10 281 RX3 yX3_enlarge cX3_enlarge 6 (some (FieldType.boolean)), w ∈ GW := wV_of gw_5_166 gw_5_167 gw_5_168 gw_1_8 gw_5_169
theorem cw_RX10_285 : ∀ w ∈ wV RX10 285 RX10 yX10_trayAt cX10_trayAt 2 (some ((FieldType.object "PerhapsRows$Tray"))), w ∈ GW := wV_of gw_5_182 gw_5_184 gs_32 gw_1_1 gw_5_185
theorem cw_RX10_289 : ∀ w ∈ wS RX10 289 yX10_needFilled cX10_needFilled 1 (none), w ∈ GW := wS_of gw_5_187 gw_5_188 gw_1_1 gw_5_189
theorem cw_RX10_293 : ∀ w ∈ wV RX10 293 RX10 yX10_needNames cX10_needNames 3 (none), w ∈ GW := wV_of gw_5_191 gw_5_193 gs_33 gw_1_1 gw_5_194
theorem cw_RX10_296 : ∀ w ∈ wV RX10 296 RX9 yX9_hasTwoAlike cX9_hasTwoAlike 3 (some (FieldType.boolean)), w ∈ GW := wV_of gw_5_200 gw_5_201 gw_5_202 gw_1_6 gw_5_203
theorem cw_RX10_301 : ∀ w ∈ wV RX10 301 RX8 yX8_solveFor cX8_solveFor 7 (some (FieldType.boolean)), w ∈ GW := wV_of gw_5_206 gw_5_207 gw_5_208 gw_1_9 gw_5_209
theorem cw_RX10_307 : ∀ w ∈ wV RX10 307 RX10 yX10_countLies cX10_countLies 4 (some (FieldType.int)), w ∈ GW := wV_of gw_6_0 gw_6_2 gs_38 gw_1_1 gw_6_3
theorem cw_RX10_314 : ∀ w ∈ wS RX10 314 yX10_commonDivisor cX10_commonDivisor 6 (some (FieldType.int)), w ∈ GW := wS_of gw_6_4 gw_6_5 gw_1_1 gw_6_6
theorem cw_RX10_323 : ∀ w ∈ wV RX10 323 RX10 yX10_isLie cX10_isLie 3 (some (FieldType.boolean)), w ∈ GW := wV_of gw_6_14 gw_6_16 gs_39 gw_1_1 gw_6_17
theorem cw_RX10_327 : ∀ w ∈ wV RX10 327 RX9 yX9_numberAt cX9_numberAt 2 (some (FieldType.long)), w ∈ GW := wV_of gw_5_195 gw_5_196 gw_5_197 gw_1_6 gw_5_198
theorem cw_RX10_331 : ∀ w ∈ wV RX10 331 RX10 yX10_isName cX10_isName 3 (some (FieldType.boolean)), w ∈ GW := wV_of gw_4_99 gw_4_101 gs_18 gw_1_1 gw_4_102
theorem cw_RX10_335 : ∀ w ∈ wS RX10 335 yX10_needWhat cX10_needWhat 2 (none), w ∈ GW := wS_of gw_6_39 gw_6_40 gw_1_1 gw_6_41
theorem cw_RX10_338 : ∀ w ∈ wV RX10 338 RX9 yX9_allWithin cX9_allWithin 4 (some (FieldType.boolean)), w ∈ GW := wV_of gw_6_43 gw_6_44 gw_6_45 gw_1_6 gw_6_46
theorem cw_RX10_343 : ∀ w ∈ wV RX10 343 RX1 yX1_build cX1_build 10 (some (FieldType.boolean)), w ∈ GW := wV_of gw_6_48 gw_6_49 gw_6_50 gw_1_11 gw_6_51
theorem cw_RX10_356 : ∀ w ∈ wV RX10 356 RX0 yX0_hear cX0_hear 8 (none), w ∈ GW := wV_of gw_6_82 gw_6_83 gw_6_84 gw_1_10 gw_6_85
theorem cw_RX10_360 : ∀ w ∈ wV RX10 360 RX0 yX0_knownPlaces cX0_knownPlaces 1 (some (FieldType.int)), w ∈ GW := wV_of gw_6_100 gw_6_101 gw_6_102 gw_1_10 gw_6_103
theorem cw_RX10_363 : ∀ w ∈ wV RX10 363 RX0 yX0_knownNames cX0_knownNames 4 (some (FieldType.int)), w ∈ GW := wV_of gw_6_105 gw_6_106 gw_6_107 gw_1_10 gw_6_108
theorem cw_RX10_367 : ∀ w ∈ wV RX10 367 RX0 yX0_bestQuestion cX0_bestQuestion 5 (some (FieldType.int)), w ∈ GW := wV_of gw_6_117 gw_6_118 gw_6_119 gw_1_10 gw_6_120
theorem cw_RX10_370 : ∀ w ∈ wV RX10 370 RX0 yX0_findWorst cX0_findWorst 7 (some (FieldType.boolean)), w ∈ GW := wV_of gw_6_128 gw_6_129 gw_6_130 gw_1_10 gw_6_131
theorem cw_RX10_379 : ∀ w ∈ wV RX10 379 RX0 yX0_fewestHolding cX0_fewestHolding 9 (some (FieldType.int)), w ∈ GW := wV_of gw_6_143 gw_6_144 gw_6_145 gw_1_10 gw_6_146
theorem cw_RX10_385 : ∀ w ∈ wV RX10 385 RX0 yX0_findChosen cX0_findChosen 6 (some (FieldType.boolean)), w ∈ GW := wV_of gw_6_164 gw_6_165 gw_6_166 gw_1_10 gw_6_167
theorem cw_RX10_396 : ∀ w ∈ wV RX10 396 RX9 yX9_begin cX9_begin 3 (none), w ∈ GW := wV_of gw_6_182 gw_6_183 gw_6_184 gw_1_6 gw_6_185
theorem cw_RX10_400 : ∀ w ∈ wV RX10 400 RX9 yX9_keep cX9_keep 4 (some (FieldType.long)), w ∈ GW := wV_of gw_6_195 gw_6_196 gw_6_197 gw_1_6 gw_6_198
theorem cw_RX10_404 : ∀ w ∈ wV RX10 404 RX10 yX10_imageAt cX10_imageAt 2 (some ((FieldType.object "PerhapsRows$Shelf"))), w ∈ GW := wV_of gw_6_217 gw_6_219 gs_45 gw_1_1 gw_6_220
theorem cw_RX10_408 : ∀ w ∈ wV RX10 408 RX7 yX7_copyFrom cX7_copyFrom 3 (none), w ∈ GW := wV_of gw_6_222 gw_6_223 gw_6_224 gw_1_2 gw_6_225
theorem cw_RX10_419 : ∀ w ∈ wV RX10 419 RX7 yX7_rowsThere cX7_rowsThere 3 (some (FieldType.int)), w ∈ GW := wV_of gw_2_224 gw_2_225 gw_2_226 gw_1_2 gw_2_227
theorem cw_RX10_81 : ∀ w ∈ wV RX10 81 RX4 yX4_append cX4_append 3 (none), w ∈ GW := wV_of gw_2_204 gw_2_205 gw_2_206 gw_1_7 gw_2_207
theorem cw_RX10_92 : ∀ w ∈ wV RX10 92 RX4 yX4_readAll cX4_readAll 4 (some (FieldType.boolean)), w ∈ GW := wV_of gw_3_64 gw_3_65 gw_3_66 gw_1_7 gw_3_67
theorem cw_RX11_110 : ∀ w ∈ wS RX11 110 yX11_isLetter cX11_isLetter 1 (some (FieldType.boolean)), w ∈ GW := wS_of gw_7_149 gw_7_150 gw_1_12 gw_7_151
theorem cw_RX11_114 : ∀ w ∈ wV RX11 114 RX11 yX11_see cX11_see 2 (some (FieldType.int)), w ∈ GW := wV_of gw_7_152 gw_7_154 gs_48 gw_1_12 gw_7_155
theorem cw_RX11_118 : ∀ w ∈ wS RX11 118 yX11_isDigit cX11_isDigit 1 (some (FieldType.boolean)), w ∈ GW := wS_of gw_7_156 gw_7_157 gw_1_12 gw_7_158
theorem cw_RX11_124 : ∀ w ∈ wS RX11 124 yX11_isMark cX11_isMark 1 (some (FieldType.boolean)), w ∈ GW := wS_of gw_7_159 gw_7_160 gw_1_12 gw_7_161
theorem cw_RX11_130 : ∀ w ∈ wV RX11 130 RX11 yX11_isSign cX11_isSign 2 (some (FieldType.boolean)), w ∈ GW := wV_of gw_7_203 gw_7_205 gs_58 gw_1_12 gw_7_206
theorem cw_RX11_133 : ∀ w ∈ wV RX11 133 RX11 yX11_reads cX11_reads 2 (none), w ∈ GW := wV_of gw_7_145 gw_7_147 gs_47 gw_1_12 gw_7_148
theorem cw_RX11_139 : ∀ w ∈ wV RX11 139 RJ0 yJ0_length_8abf5 cJ0_length_8abf5 1 (some (FieldType.int)), w ∈ GW := wV_of gw_7_175 gw_3_93 gw_3_94 gw_1_17 gw_3_95
theorem cw_RX11_145 : ∀ w ∈ wV RX11 145 RJ0 yJ0_charAt_5068e cJ0_charAt_5068e 2 (some (FieldType.char)), w ∈ GW := wV_of gw_7_176 gw_3_103 gw_3_104 gw_1_17 gw_3_105
theorem cw_RX11_149 : ∀ w ∈ wV RX11 149 RX11 yX11_isWord cX11_isWord 4 (some (FieldType.boolean)), w ∈ GW := wV_of gw_7_171 gw_7_173 gs_51 gw_1_12 gw_7_174
theorem cw_RX11_153 : ∀ w ∈ wV RX11 153 RX11 yX11_blames cX11_blames 2 (none), w ∈ GW := wV_of gw_7_181 gw_7_183 gs_53 gw_1_12 gw_7_184
theorem cw_RX11_157 : ∀ w ∈ wS RX11 157 yX11_within cX11_within 6 (some (FieldType.boolean)), w ∈ GW := wS_of gw_7_138 gw_7_139 gw_1_12 gw_7_140
theorem cw_RX11_161 : ∀ w ∈ wV RX11 161 RX11 yX11_readProduct cX11_readProduct 2 (none), w ∈ GW := wV_of gw_7_195 gw_7_197 gs_56 gw_1_12 gw_7_198
theorem cw_RX11_164 : ∀ w ∈ wV RX11 164 RX11 yX11_code cX11_code 3 (none), w ∈ GW := wV_of gw_7_211 gw_7_213 gs_60 gw_1_12 gw_7_214
theorem cw_RX11_168 : ∀ w ∈ wV RX11 168 RX11 yX11_readUnit cX11_readUnit 1 (none), w ∈ GW := wV_of gw_7_199 gw_7_201 gs_57 gw_1_12 gw_7_202
theorem cw_RX11_174 : ∀ w ∈ wV RX11 174 RX11 yX11_readSum cX11_readSum 2 (none), w ∈ GW := wV_of gw_7_191 gw_7_193 gs_55 gw_1_12 gw_7_194
theorem cw_RX11_177 : ∀ w ∈ wV RX11 177 RX11 yX11_tookSign cX11_tookSign 3 (some (FieldType.boolean)), w ∈ GW := wV_of gw_7_207 gw_7_209 gs_59 gw_1_12 gw_7_210
theorem cw_RX11_182 : ∀ w ∈ wV RX11 182 RX11 yX11_took cX11_took 3 (some (FieldType.boolean)), w ∈ GW := wV_of gw_7_167 gw_7_169 gs_50 gw_1_12 gw_7_170
theorem cw_RX11_188 : ∀ w ∈ wV RX11 188 RX11 yX11_number cX11_number 4 (some (FieldType.int)), w ∈ GW := wV_of gw_7_177 gw_7_179 gs_52 gw_1_12 gw_7_180
theorem cw_RX11_196 : ∀ w ∈ wV RX11 196 RX11 yX11_readFor cX11_readFor 3 (none), w ∈ GW := wV_of gw_7_187 gw_7_189 gs_54 gw_1_12 gw_7_190
theorem cw_RX11_201 : ∀ w ∈ wV RX11 201 RX11 yX11_fails cX11_fails 2 (some (FieldType.int)), w ∈ GW := wV_of gw_7_141 gw_7_143 gs_46 gw_1_12 gw_7_144
theorem cw_RX11_204 : ∀ w ∈ wV RX11 204 RX11 yX11_readLine cX11_readLine 1 (none), w ∈ GW := wV_of gw_7_162 gw_7_164 gs_49 gw_1_12 gw_7_165
theorem cw_RX11_210 : ∀ w ∈ wS RX11 210 yX11_joins cX11_joins 3 (some (FieldType.int)), w ∈ GW := wS_of gw_7_235 gw_7_236 gw_1_12 gw_7_237
theorem cw_RX11_214 : ∀ w ∈ wV RX11 214 RX11 yX11_valueOf cX11_valueOf 7 (some (FieldType.int)), w ∈ GW := wV_of gw_7_231 gw_7_233 gs_62 gw_1_12 gw_7_234
theorem cw_RX11_217 : ∀ w ∈ wS RX11 217 yX11_modulo cX11_modulo 2 (some (FieldType.int)), w ∈ GW := wS_of gw_8_6 gw_8_7 gw_1_12 gw_8_8
theorem cw_RX11_222 : ∀ w ∈ wV RX11 222 RX11 yX11_markFault cX11_markFault 3 (some (FieldType.int)), w ∈ GW := wV_of gw_7_226 gw_7_228 gs_61 gw_1_12 gw_7_229
theorem cw_RX11_225 : ∀ w ∈ wV RX11 225 RX11 yX11_placeOf cX11_placeOf 4 (some (FieldType.int)), w ∈ GW := wV_of gw_8_2 gw_8_4 gs_63 gw_1_12 gw_8_5
theorem cw_RX11_228 : ∀ w ∈ wV RX11 228 RX11 yX11_isName cX11_isName 3 (some (FieldType.boolean)), w ∈ GW := wV_of gw_8_13 gw_8_15 gs_64 gw_1_12 gw_8_16
theorem cw_RX11_232 : ∀ w ∈ wV RX11 232 RX11 yX11_tagOf cX11_tagOf 3 (some (FieldType.int)), w ∈ GW := wV_of gw_8_17 gw_8_19 gs_65 gw_1_12 gw_8_20
theorem cw_RX11_237 : ∀ w ∈ wV RX11 237 RX11 yX11_get cX11_get 3 (some (FieldType.int)), w ∈ GW := wV_of gw_8_45 gw_8_47 gs_69 gw_1_12 gw_8_48
theorem cw_RX11_240 : ∀ w ∈ wS RX11 240 Lib.Math.min.name Lib.Math.min.code 2 (some (FieldType.int)), w ∈ GW := wS_of gw_8_26 gw_3_172 gw_1_21 gw_3_173
theorem cw_RX11_247 : ∀ w ∈ wV RX11 247 RX11 yX11_all cX11_all 2 (some (FieldType.int)), w ∈ GW := wV_of gw_8_28 gw_8_30 gs_66 gw_1_12 gw_8_31
theorem cw_RX11_252 : ∀ w ∈ wV RX11 252 RX11 yX11_set cX11_set 4 (none), w ∈ GW := wV_of gw_8_33 gw_8_35 gs_67 gw_1_12 gw_8_36
theorem cw_RX11_256 : ∀ w ∈ wV RX11 256 RX11 yX11_isRow cX11_isRow 2 (some (FieldType.boolean)), w ∈ GW := wV_of gw_8_41 gw_8_43 gs_68 gw_1_12 gw_8_44
theorem cw_RX11_261 : ∀ w ∈ wV RX11 261 RX11 yX11_many cX11_many 4 (some (FieldType.int)), w ∈ GW := wV_of gw_8_50 gw_8_52 gs_70 gw_1_12 gw_8_53
theorem cw_RX11_264 : ∀ w ∈ wV RX11 264 RX11 yX11_layerAt cX11_layerAt 3 (some (FieldType.int)), w ∈ GW := wV_of gw_8_58 gw_8_60 gs_71 gw_1_12 gw_8_61
theorem cw_RX11_267 : ∀ w ∈ wV RX11 267 RX11 yX11_guestIn cX11_guestIn 4 (some (FieldType.int)), w ∈ GW := wV_of gw_8_62 gw_8_64 gs_72 gw_1_12 gw_8_65
theorem cw_RX11_270 : ∀ w ∈ wV RX11 270 RX11 yX11_slotAt cX11_slotAt 4 (some (FieldType.int)), w ∈ GW := wV_of gw_8_66 gw_8_68 gs_73 gw_1_12 gw_8_69
theorem cw_RX11_273 : ∀ w ∈ wV RX11 273 RX11 yX11_spot cX11_spot 4 (some (FieldType.int)), w ∈ GW := wV_of gw_8_86 gw_8_88 gs_76 gw_1_12 gw_8_89
theorem cw_RX11_276 : ∀ w ∈ wV RX11 276 RX11 yX11_freeSlot cX11_freeSlot 4 (some (FieldType.int)), w ∈ GW := wV_of gw_8_122 gw_8_124 gs_83 gw_1_12 gw_8_125
theorem cw_RX11_279 : ∀ w ∈ wV RX11 279 RX11 yX11_otherNest cX11_otherNest 6 (some (FieldType.int)), w ∈ GW := wV_of gw_8_126 gw_8_128 gs_84 gw_1_12 gw_8_129
theorem cw_RX11_282 : ∀ w ∈ wV RX11 282 RX11 yX11_pushes cX11_pushes 8 (none), w ∈ GW := wV_of gw_8_130 gw_8_132 gs_85 gw_1_12 gw_8_133
theorem cw_RX11_285 : ∀ w ∈ wV RX11 285 RX11 yX11_isTagged cX11_isTagged 5 (some (FieldType.boolean)), w ∈ GW := wV_of gw_8_90 gw_8_92 gs_77 gw_1_12 gw_8_93
theorem cw_RX11_289 : ∀ w ∈ wV RX11 289 RX11 yX11_areSet cX11_areSet 6 (some (FieldType.boolean)), w ∈ GW := wV_of gw_8_94 gw_8_96 gs_78 gw_1_12 gw_8_97
theorem cw_RX11_293 : ∀ w ∈ wV RX11 293 RX11 yX11_nameFault cX11_nameFault 3 (some (FieldType.int)), w ∈ GW := wV_of gw_8_78 gw_8_80 gs_74 gw_1_12 gw_8_81
theorem cw_RX11_296 : ∀ w ∈ wV RX11 296 RX11 yX11_says cX11_says 6 (some (FieldType.boolean)), w ∈ GW := wV_of gw_8_82 gw_8_84 gs_75 gw_1_12 gw_8_85
theorem cw_RX11_300 : ∀ w ∈ wV RX11 300 RX11 yX11_isIn cX11_isIn 3 (some (FieldType.boolean)), w ∈ GW := wV_of gw_8_102 gw_8_104 gs_79 gw_1_12 gw_8_105
theorem cw_RX11_303 : ∀ w ∈ wV RX11 303 RX11 yX11_nestPuts cX11_nestPuts 10 (some (FieldType.boolean)), w ∈ GW := wV_of gw_8_118 gw_8_120 gs_82 gw_1_12 gw_8_121
theorem cw_RX11_306 : ∀ w ∈ wV RX11 306 RX11 yX11_puts cX11_puts 7 (some (FieldType.boolean)), w ∈ GW := wV_of gw_8_114 gw_8_116 gs_81 gw_1_12 gw_8_117
theorem cw_RX11_309 : ∀ w ∈ wV RX11 309 RX11 yX11_putsOr cX11_putsOr 3 (some (FieldType.int)), w ∈ GW := wV_of gw_8_110 gw_8_112 gs_80 gw_1_12 gw_8_113
theorem cw_RX11_314 : ∀ w ∈ wS RX11 314 yX11_isCounted cX11_isCounted 1 (some (FieldType.boolean)), w ∈ GW := wS_of gw_8_143 gw_8_144 gw_1_12 gw_8_145
theorem cw_RX11_317 : ∀ w ∈ wV RX11 317 RX11 yX11_together cX11_together 4 (some (FieldType.int)), w ∈ GW := wV_of gw_8_146 gw_8_148 gs_86 gw_1_12 gw_8_149
theorem cw_RX11_320 : ∀ w ∈ wS RX11 320 yX11_isTray cX11_isTray 1 (some (FieldType.boolean)), w ∈ GW := wS_of gw_8_166 gw_8_167 gw_1_12 gw_8_168
theorem cw_RX11_323 : ∀ w ∈ wV RX11 323 RX11 yX11_rowTrayFault cX11_rowTrayFault 3 (some (FieldType.int)), w ∈ GW := wV_of gw_8_162 gw_8_164 gs_87 gw_1_12 gw_8_165
theorem cw_RX11_326 : ∀ w ∈ wV RX11 326 RX11 yX11_areNames cX11_areNames 5 (some (FieldType.boolean)), w ∈ GW := wV_of gw_8_169 gw_8_171 gs_88 gw_1_12 gw_8_172
theorem cw_RX11_330 : ∀ w ∈ wV RX11 330 RX11 yX11_inTray cX11_inTray 3 (some (FieldType.int)), w ∈ GW := wV_of gw_8_173 gw_8_175 gs_89 gw_1_12 gw_8_176
theorem cw_RX11_333 : ∀ w ∈ wV RX11 333 RX11 yX11_canSolve cX11_canSolve 6 (some (FieldType.boolean)), w ∈ GW := wV_of gw_8_177 gw_8_179 gs_90 gw_1_12 gw_8_180
theorem cw_RX11_336 : ∀ w ∈ wV RX11 336 RX11 yX11_isLie cX11_isLie 3 (some (FieldType.boolean)), w ∈ GW := wV_of gw_8_189 gw_8_191 gs_92 gw_1_12 gw_8_192
theorem cw_RX11_339 : ∀ w ∈ wV RX11 339 RX11 yX11_lies cX11_lies 4 (some (FieldType.int)), w ∈ GW := wV_of gw_8_185 gw_8_187 gs_91 gw_1_12 gw_8_188
theorem cw_RX11_352 : ∀ w ∈ wV RX11 352 RX11 yX11_takesPut cX11_takesPut 3 (none), w ∈ GW := wV_of gw_8_219 gw_8_221 gs_93 gw_1_12 gw_8_222
theorem cw_RX11_355 : ∀ w ∈ wV RX11 355 RX11 yX11_layBits cX11_layBits 5 (none), w ∈ GW := wV_of gw_8_223 gw_8_225 gs_94 gw_1_12 gw_8_226
theorem cw_RX11_358 : ∀ w ∈ wV RX11 358 RX11 yX11_isSaid cX11_isSaid 5 (some (FieldType.boolean)), w ∈ GW := wV_of gw_8_227 gw_8_229 gs_95 gw_1_12 gw_8_230
theorem cw_RX11_361 : ∀ w ∈ wV RX11 361 RX11 yX11_askFault cX11_askFault 4 (some (FieldType.int)), w ∈ GW := wV_of gw_8_235 gw_8_237 gs_96 gw_1_12 gw_8_238
theorem cw_RX11_364 : ∀ w ∈ wV RX11 364 RX11 yX11_learns cX11_learns 6 (none), w ∈ GW := wV_of gw_8_239 gw_9_1 gs_97 gw_1_12 gw_9_2
theorem cw_RX11_367 : ∀ w ∈ wV RX11 367 RX11 yX11_unknown cX11_unknown 8 (some (FieldType.int)), w ∈ GW := wV_of gw_9_3 gw_9_5 gs_98 gw_1_12 gw_9_6
theorem cw_RX11_370 : ∀ w ∈ wV RX11 370 RX11 yX11_liesWith cX11_liesWith 5 (some (FieldType.int)), w ∈ GW := wV_of gw_9_15 gw_9_17 gs_99 gw_1_12 gw_9_18
theorem cw_RX11_375 : ∀ w ∈ wV RX11 375 RX11 yX11_liesBy cX11_liesBy 6 (some (FieldType.int)), w ∈ GW := wV_of gw_9_28 gw_9_30 gs_100 gw_1_12 gw_9_31
theorem cw_RX11_88 : ∀ w ∈ wS RX11 88 yX11_begins cX11_begins 2 (none), w ∈ GW := wS_of gw_7_7 gw_7_8 gw_1_12 gw_7_9
theorem cw_RX1_34 : ∀ w ∈ wV RX1 34 RX2 yX2_copyFrom cX2_copyFrom 2 (none), w ∈ GW := wV_of gw_6_52 gw_6_53 gw_6_54 gw_1_5 gw_6_55
theorem cw_RX1_38 : ∀ w ∈ wS RX1 38 yX1_gatherOutside cX1_gatherOutside 5 (none), w ∈ GW := wS_of gw_6_57 gw_6_58 gw_1_11 gw_6_59
theorem cw_RX1_47 : ∀ w ∈ wV RX1 47 RX9 yX9_numberAt cX9_numberAt 2 (some (FieldType.long)), w ∈ GW := wV_of gw_6_61 gw_5_196 gw_5_197 gw_1_6 gw_5_198
theorem cw_RX1_51 : ∀ w ∈ wV RX1 51 RX2 yX2_many cX2_many 3 (some (FieldType.int)), w ∈ GW := wV_of gw_6_64 gw_4_155 gw_4_156 gw_1_5 gw_4_157
theorem cw_RX1_57 : ∀ w ∈ wS RX1 57 yX1_keepWronged cX1_keepWronged 8 (none), w ∈ GW := wS_of gw_6_65 gw_6_66 gw_1_11 gw_6_67
theorem cw_RX1_61 : ∀ w ∈ wV RX1 61 RX2 yX2_clear cX2_clear 1 (none), w ∈ GW := wV_of gw_6_60 gw_4_129 gw_4_130 gw_1_5 gw_4_131
theorem cw_RX1_64 : ∀ w ∈ wV RX1 64 RX2 yX2_has cX2_has 2 (some (FieldType.boolean)), w ∈ GW := wV_of gw_6_62 gw_5_36 gw_5_37 gw_1_5 gw_5_38
theorem cw_RX1_68 : ∀ w ∈ wV RX1 68 RX2 yX2_add cX2_add 2 (none), w ∈ GW := wV_of gw_6_63 gw_5_101 gw_5_102 gw_1_5 gw_5_103
theorem cw_RX1_77 : ∀ w ∈ wV RX1 77 RX6 yX6_placesOf cX6_placesOf 7 (some (FieldType.long)), w ∈ GW := wV_of gw_6_68 gw_6_69 gw_6_70 gw_1_3 gw_6_71
theorem cw_RX1_83 : ∀ w ∈ wV RX1 83 RX2 yX2_remove cX2_remove 2 (none), w ∈ GW := wV_of gw_6_74 gw_5_121 gw_5_122 gw_1_5 gw_5_123
theorem cw_RX2_17 : ∀ w ∈ wS RX2 17 yJ7_fill_d0a16 cJ7_fill_d0a16 5 (none), w ∈ GW := wS_of gw_4_132 gw_4_133 gw_1_25 gw_4_134
theorem cw_RX2_23 : ∀ w ∈ wS RX2 23 yJ13_bitCount_95d88 cJ13_bitCount_95d88 2 (some (FieldType.int)), w ∈ GW := wS_of gw_4_158 gw_4_159 gw_1_26 gw_4_160
theorem cw_RX3_30 : ∀ w ∈ wV RX3 30 RX6 yX6_placeOf cX6_placeOf 6 (some (FieldType.int)), w ∈ GW := wV_of gw_5_58 gw_4_85 gw_4_86 gw_1_3 gw_4_87
theorem cw_RX3_36 : ∀ w ∈ wV RX3 36 RX5 yX5_freeSlot cX5_freeSlot 3 (some (FieldType.int)), w ∈ GW := wV_of gw_5_59 gw_5_60 gw_5_61 gw_1_4 gw_5_62
theorem cw_RX3_40 : ∀ w ∈ wV RX3 40 RX5 yX5_setGuest cX5_setGuest 4 (none), w ∈ GW := wV_of gw_5_63 gw_5_64 gw_5_65 gw_1_4 gw_5_66
theorem cw_RX3_47 : ∀ w ∈ wV RX3 47 RX3 yX3_search cX3_search 8 (some (FieldType.int)), w ∈ GW := wV_of gw_5_71 gw_5_73 gs_27 gw_1_8 gw_5_74
theorem cw_RX3_51 : ∀ w ∈ wV RX3 51 RX3 yX3_pushAlong cX3_pushAlong 10 (some (FieldType.int)), w ∈ GW := wV_of gw_5_83 gw_5_85 gs_29 gw_1_8 gw_5_86
theorem cw_RX3_61 : ∀ w ∈ wV RX3 61 RX3 yX3_reach cX3_reach 4 (some (FieldType.boolean)), w ∈ GW := wV_of gw_5_75 gw_5_77 gs_28 gw_1_8 gw_5_78
theorem cw_RX3_68 : ∀ w ∈ wV RX3 68 RX5 yX5_guestAt cX5_guestAt 3 (some (FieldType.int)), w ∈ GW := wV_of gw_5_79 gw_4_202 gw_4_203 gw_1_4 gw_4_204
theorem cw_RX3_72 : ∀ w ∈ wS RX3 72 yX3_otherNest cX3_otherNest 6 (some (FieldType.int)), w ∈ GW := wS_of gw_5_80 gw_5_81 gw_1_8 gw_5_82
theorem cw_RX3_75 : ∀ w ∈ wV RX3 75 RX5 yX5_cellAt cX5_cellAt 2 (some (FieldType.int)), w ∈ GW := wV_of gw_5_170 gw_4_206 gw_4_207 gw_1_4 gw_4_208
theorem cw_RX3_78 : ∀ w ∈ wV RX3 78 RX5 yX5_clearCells cX5_clearCells 1 (none), w ∈ GW := wV_of gw_5_171 gw_4_136 gw_4_137 gw_1_4 gw_4_138
theorem cw_RX3_85 : ∀ w ∈ wV RX3 85 RX2 yX2_has cX2_has 2 (some (FieldType.boolean)), w ∈ GW := wV_of gw_5_172 gw_5_36 gw_5_37 gw_1_5 gw_5_38
theorem cw_RX3_91 : ∀ w ∈ wV RX3 91 RX3 yX3_settle cX3_settle 9 (some (FieldType.boolean)), w ∈ GW := wV_of gw_5_173 gw_5_55 gw_5_56 gw_1_8 gw_5_57
theorem cw_RX3_95 : ∀ w ∈ wV RX3 95 RX5 yX5_setCell cX5_setCell 3 (none), w ∈ GW := wV_of gw_5_174 gw_5_68 gw_5_69 gw_1_4 gw_5_70
theorem cw_RX4_109 : ∀ w ∈ wV RX4 109 RX4 yX4_holdBack cX4_holdBack 2 (none), w ∈ GW := wV_of gw_3_232 gw_3_234 gs_11 gw_1_7 gw_3_235
theorem cw_RX4_113 : ∀ w ∈ wV RX4 113 RX6 yX6_emit cX6_emit 2 (none), w ∈ GW := wV_of gw_3_236 gw_3_237 gw_3_238 gw_1_3 gw_3_239
theorem cw_RX4_116 : ∀ w ∈ wS RX4 116 yX4_stepOf cX4_stepOf 1 (some (FieldType.int)), w ∈ GW := wS_of gw_4_4 gw_4_5 gw_1_7 gw_4_6
theorem cw_RX4_120 : ∀ w ∈ wS RX4 120 yX4_rankOf cX4_rankOf 1 (some (FieldType.int)), w ∈ GW := wS_of gw_4_7 gw_4_8 gw_1_7 gw_4_9
theorem cw_RX4_123 : ∀ w ∈ wV RX4 123 RX4 yX4_emitWaiting cX4_emitWaiting 4 (none), w ∈ GW := wV_of gw_4_10 gw_4_12 gs_13 gw_1_7 gw_4_13
theorem cw_RX4_126 : ∀ w ∈ wS RX4 126 Lib.Math.max.name Lib.Math.max.code 2 (some (FieldType.int)), w ∈ GW := wS_of gw_4_14 gw_3_169 gw_1_21 gw_3_170
theorem cw_RX4_132 : ∀ w ∈ wV RX4 132 RX4 yX4_finishExpression cX4_finishExpression 1 (none), w ∈ GW := wV_of gw_4_15 gw_4_17 gs_14 gw_1_7 gw_4_18
theorem cw_RX4_135 : ∀ w ∈ wV RX4 135 RX6 yX6_addMark cX6_addMark 3 (none), w ∈ GW := wV_of gw_4_19 gw_4_20 gw_4_21 gw_1_3 gw_4_22
theorem cw_RX4_138 : ∀ w ∈ wV RX4 138 RX6 yX6_setTag cX6_setTag 2 (none), w ∈ GW := wV_of gw_4_24 gw_4_25 gw_4_26 gw_1_3 gw_4_27
theorem cw_RX4_141 : ∀ w ∈ wV RX4 141 RX4 yX4_byteAt cX4_byteAt 2 (some (FieldType.int)), w ∈ GW := wV_of gw_3_73 gw_3_75 gs_3 gw_1_7 gw_3_76
theorem cw_RX4_144 : ∀ w ∈ wS RX4 144 yX4_isBlank cX4_isBlank 1 (some (FieldType.boolean)), w ∈ GW := wS_of gw_3_77 gw_3_78 gw_1_7 gw_3_79
theorem cw_RX4_148 : ∀ w ∈ wS RX4 148 yX4_isLetter cX4_isLetter 1 (some (FieldType.boolean)), w ∈ GW := wS_of gw_3_80 gw_3_81 gw_1_7 gw_3_82
theorem cw_RX4_151 : ∀ w ∈ wV RX4 151 RX4 yX4_scanWord cX4_scanWord 2 (some (FieldType.int)), w ∈ GW := wV_of gw_3_83 gw_3_85 gs_4 gw_1_7 gw_3_86
theorem cw_RX4_154 : ∀ w ∈ wS RX4 154 yX4_isDigit cX4_isDigit 1 (some (FieldType.boolean)), w ∈ GW := wS_of gw_3_145 gw_3_146 gw_1_7 gw_3_147
theorem cw_RX4_157 : ∀ w ∈ wV RX4 157 RX4 yX4_scanNumber cX4_scanNumber 2 (some (FieldType.int)), w ∈ GW := wV_of gw_3_148 gw_3_150 gs_6 gw_1_7 gw_3_151
theorem cw_RX4_162 : ∀ w ∈ wV RX4 162 RJ0 yJ0_indexOf_0f7a4 cJ0_indexOf_0f7a4 2 (some (FieldType.int)), w ∈ GW := wV_of gw_3_153 gw_3_154 gw_3_155 gw_1_17 gw_3_156
theorem cw_RX4_168 : ∀ w ∈ wV RX4 168 RX4 yX4_spells cX4_spells 3 (some (FieldType.boolean)), w ∈ GW := wV_of gw_3_88 gw_3_90 gs_5 gw_1_7 gw_3_91
theorem cw_RX4_181 : ∀ w ∈ wV RX4 181 RJ0 yJ0_length_8abf5 cJ0_length_8abf5 1 (some (FieldType.int)), w ∈ GW := wV_of gw_3_92 gw_3_93 gw_3_94 gw_1_17 gw_3_95
theorem cw_RX4_183 : ∀ w ∈ wV RX4 183 RJ0 yJ0_charAt_5068e cJ0_charAt_5068e 2 (some (FieldType.char)), w ∈ GW := wV_of gw_3_102 gw_3_103 gw_3_104 gw_1_17 gw_3_105
theorem cw_RX4_39 : ∀ w ∈ wV RX4 39 RX6 yX6_clear cX6_clear 1 (none), w ∈ GW := wV_of gw_3_68 gw_1_184 gw_1_185 gw_1_3 gw_1_186
theorem cw_RX4_42 : ∀ w ∈ wV RX4 42 RX4 yX4_advance cX4_advance 2 (none), w ∈ GW := wV_of gw_3_69 gw_3_71 gs_2 gw_1_7 gw_3_72
theorem cw_RX4_48 : ∀ w ∈ wV RX4 48 RX4 yX4_accept cX4_accept 1 (some (FieldType.int)), w ∈ GW := wV_of gw_3_212 gw_3_214 gs_7 gw_1_7 gw_3_215
theorem cw_RX4_61 : ∀ w ∈ wV RX4 61 RX6 yX6_fillTables cX6_fillTables 4 (none), w ∈ GW := wV_of gw_4_32 gw_1_188 gw_1_189 gw_1_3 gw_1_190
theorem cw_RX4_64 : ∀ w ∈ wV RX4 64 RX4 yX4_acceptHead cX4_acceptHead 1 (some (FieldType.int)), w ∈ GW := wV_of gw_3_216 gw_3_218 gs_8 gw_1_7 gw_3_219
theorem cw_RX4_67 : ∀ w ∈ wV RX4 67 RX4 yX4_acceptBound cX4_acceptBound 1 (some (FieldType.int)), w ∈ GW := wV_of gw_3_224 gw_3_226 gs_9 gw_1_7 gw_3_227
theorem cw_RX4_70 : ∀ w ∈ wV RX4 70 RX4 yX4_acceptOperand cX4_acceptOperand 1 (some (FieldType.int)), w ∈ GW := wV_of gw_3_228 gw_3_230 gs_10 gw_1_7 gw_3_231
theorem cw_RX4_73 : ∀ w ∈ wV RX4 73 RX4 yX4_acceptOperator cX4_acceptOperator 2 (some (FieldType.int)), w ∈ GW := wV_of gw_4_0 gw_4_2 gs_12 gw_1_7 gw_4_3
theorem cw_RX4_76 : ∀ w ∈ wV RX4 76 RX4 yX4_acceptSemicolon cX4_acceptSemicolon 1 (some (FieldType.int)), w ∈ GW := wV_of gw_4_28 gw_4_30 gs_15 gw_1_7 gw_4_31
theorem cw_RX4_85 : ∀ w ∈ wV RX4 85 RX6 yX6_emitted cX6_emitted 1 (some (FieldType.int)), w ∈ GW := wV_of gw_3_220 gw_3_221 gw_3_222 gw_1_3 gw_3_223
theorem cw_RX5_105 : ∀ w ∈ wV RX5 105 RX5 yX5_setCell cX5_setCell 3 (none), w ∈ GW := wV_of gw_5_67 gw_5_68 gw_5_69 gw_1_4 gw_5_70
theorem cw_RX5_109 : ∀ w ∈ wV RX5 109 RX2 yX2_addAll cX2_addAll 3 (none), w ∈ GW := wV_of gw_5_142 gw_5_143 gw_5_144 gw_1_5 gw_5_145
theorem cw_RX5_113 : ∀ w ∈ wV RX5 113 RX5 yX5_guestAt cX5_guestAt 3 (some (FieldType.int)), w ∈ GW := wV_of gw_4_201 gw_4_202 gw_4_203 gw_1_4 gw_4_204
theorem cw_RX5_116 : ∀ w ∈ wV RX5 116 RX2 yX2_copyFrom cX2_copyFrom 2 (none), w ∈ GW := wV_of gw_6_231 gw_6_53 gw_6_54 gw_1_5 gw_6_55
theorem cw_RX5_48 : ∀ w ∈ wV RX5 48 RX2 yX2_clear cX2_clear 1 (none), w ∈ GW := wV_of gw_4_128 gw_4_129 gw_4_130 gw_1_5 gw_4_131
theorem cw_RX5_51 : ∀ w ∈ wV RX5 51 RX5 yX5_clearCells cX5_clearCells 1 (none), w ∈ GW := wV_of gw_4_135 gw_4_136 gw_4_137 gw_1_4 gw_4_138
theorem cw_RX5_54 : ∀ w ∈ wS RX5 54 yJ7_fill_53178 cJ7_fill_53178 4 (none), w ∈ GW := wS_of gw_4_139 gw_4_140 gw_1_25 gw_4_141
theorem cw_RX5_60 : ∀ w ∈ wV RX5 60 RX5 yX5_layerStart cX5_layerStart 2 (some (FieldType.int)), w ∈ GW := wV_of gw_4_177 gw_4_179 gs_21 gw_1_4 gw_4_180
theorem cw_RX5_64 : ∀ w ∈ wV RX5 64 RX6 yX6_placeOf cX6_placeOf 6 (some (FieldType.int)), w ∈ GW := wV_of gw_5_10 gw_4_85 gw_4_86 gw_1_3 gw_4_87
theorem cw_RX5_70 : ∀ w ∈ wV RX5 70 RX5 yX5_hasGuestLike cX5_hasGuestLike 6 (some (FieldType.boolean)), w ∈ GW := wV_of gw_5_11 gw_5_13 gs_22 gw_1_4 gw_5_14
theorem cw_RX5_74 : ∀ w ∈ wV RX5 74 RX5 yX5_together cX5_together 5 (some (FieldType.int)), w ∈ GW := wV_of gw_5_16 gw_5_18 gs_23 gw_1_4 gw_5_19
theorem cw_RX5_78 : ∀ w ∈ wV RX5 78 RX6 yX6_tagOf cX6_tagOf 2 (some (FieldType.int)), w ∈ GW := wV_of gw_5_15 gw_4_105 gw_4_106 gw_1_3 gw_4_107
theorem cw_RX5_81 : ∀ w ∈ wV RX5 81 RX5 yX5_layerSize cX5_layerSize 2 (some (FieldType.int)), w ∈ GW := wV_of gw_5_20 gw_5_22 gs_24 gw_1_4 gw_5_23
theorem cw_RX5_84 : ∀ w ∈ wV RX5 84 RX5 yX5_allAbove0 cX5_allAbove0 6 (some (FieldType.boolean)), w ∈ GW := wV_of gw_5_24 gw_5_26 gs_25 gw_1_4 gw_5_27
theorem cw_RX5_88 : ∀ w ∈ wV RX5 88 RX5 yX5_cellAt cX5_cellAt 2 (some (FieldType.int)), w ∈ GW := wV_of gw_4_205 gw_4_206 gw_4_207 gw_1_4 gw_4_208
theorem cw_RX5_91 : ∀ w ∈ wV RX5 91 RX5 yX5_raise cX5_raise 7 (none), w ∈ GW := wV_of gw_5_91 gw_5_93 gs_30 gw_1_4 gw_5_94
theorem cw_RX5_95 : ∀ w ∈ wV RX5 95 RX5 yX5_fullCell cX5_fullCell 1 (some (FieldType.int)), w ∈ GW := wV_of gw_5_95 gw_5_97 gs_31 gw_1_4 gw_5_98
theorem cw_RX5_99 : ∀ w ∈ wS RX5 99 Lib.Math.min.name Lib.Math.min.code 2 (some (FieldType.int)), w ∈ GW := wS_of gw_5_99 gw_3_172 gw_1_21 gw_3_173
theorem cw_RX6_55 : ∀ w ∈ wS RX6 55 Lib.Math.max.name Lib.Math.max.code 2 (some (FieldType.int)), w ∈ GW := wS_of gw_4_23 gw_3_169 gw_1_21 gw_3_170
theorem cw_RX6_61 : ∀ w ∈ wV RX6 61 RX6 yX6_compute cX6_compute 10 (some (FieldType.int)), w ∈ GW := wV_of gw_1_191 gw_1_193 gs_0 gw_1_3 gw_1_194
theorem cw_RX6_65 : ∀ w ∈ wSN yX10_modulo cX10_modulo 3 (some (FieldType.int)), w ∈ GW := wSN_of gw_1_196 gw_1_1 gw_1_197
theorem cw_RX6_68 : ∀ w ∈ wV RX6 68 RX6 yX6_placeOf cX6_placeOf 6 (some (FieldType.int)), w ∈ GW := wV_of gw_6_72 gw_4_85 gw_4_86 gw_1_3 gw_4_87
theorem cw_RX7_29 : ∀ w ∈ wV RX7 29 RX6 yX6_copyFrom cX6_copyFrom 2 (none), w ∈ GW := wV_of gw_6_226 gw_4_34 gw_4_35 gw_1_3 gw_4_36
theorem cw_RX7_33 : ∀ w ∈ wV RX7 33 RX5 yX5_copyFrom cX5_copyFrom 2 (none), w ∈ GW := wV_of gw_6_227 gw_6_228 gw_6_229 gw_1_4 gw_6_230
theorem cw_RX8_28 : ∀ w ∈ wS RX8 28 Lib.Math.min.name Lib.Math.min.code 2 (some (FieldType.int)), w ∈ GW := wS_of gw_5_210 gw_3_172 gw_1_21 gw_3_173
theorem cw_RX8_38 : ∀ w ∈ wV RX8 38 RX9 yX9_numberAt cX9_numberAt 2 (some (FieldType.long)), w ∈ GW := wV_of gw_5_211 gw_5_196 gw_5_197 gw_1_6 gw_5_198
theorem cw_RX8_42 : ∀ w ∈ wV RX8 42 RX8 yX8_state cX8_state 6 (none), w ∈ GW := wV_of gw_5_212 gw_5_214 gs_34 gw_1_9 gw_5_215
theorem cw_RX8_51 : ∀ w ∈ wV RX8 51 RX8 yX8_chooseFor cX8_chooseFor 4 (some (FieldType.int)), w ∈ GW := wV_of gw_5_218 gw_5_220 gs_35 gw_1_9 gw_5_221
theorem cw_RX8_54 : ∀ w ∈ wV RX8 54 RX8 yX8_joinTo cX8_joinTo 5 (none), w ∈ GW := wV_of gw_5_222 gw_5_224 gs_36 gw_1_9 gw_5_225
theorem cw_RX8_58 : ∀ w ∈ wV RX8 58 RX8 yX8_settle cX8_settle 5 (none), w ∈ GW := wV_of gw_5_226 gw_5_228 gs_37 gw_1_9 gw_5_229
theorem cw_RX8_65 : ∀ w ∈ wV RX8 65 RX6 yX6_placeOf cX6_placeOf 6 (some (FieldType.int)), w ∈ GW := wV_of gw_5_216 gw_4_85 gw_4_86 gw_1_3 gw_4_87
theorem cw_RX8_71 : ∀ w ∈ wV RX8 71 RX6 yX6_tagOf cX6_tagOf 2 (some (FieldType.int)), w ∈ GW := wV_of gw_5_217 gw_4_105 gw_4_106 gw_1_3 gw_4_107
theorem cw_RX8_75 : ∀ w ∈ wV RX8 75 RX5 yX5_setCell cX5_setCell 3 (none), w ∈ GW := wV_of gw_5_230 gw_5_68 gw_5_69 gw_1_4 gw_5_70
theorem cw_RX8_83 : ∀ w ∈ wV RX8 83 RX2 yX2_clear cX2_clear 1 (none), w ∈ GW := wV_of gw_5_231 gw_4_129 gw_4_130 gw_1_5 gw_4_131
theorem cw_RX8_88 : ∀ w ∈ wV RX8 88 RX2 yX2_add cX2_add 2 (none), w ∈ GW := wV_of gw_5_232 gw_5_101 gw_5_102 gw_1_5 gw_5_103
theorem cw_RX9_26 : ∀ w ∈ wS RX9 26 yJ7_fill_d0a16 cJ7_fill_d0a16 5 (none), w ∈ GW := wS_of gw_6_186 gw_4_133 gw_1_25 gw_4_134
theorem cw_RX9_34 : ∀ w ∈ wV RX9 34 RX9 yX9_cut cX9_cut 3 (some (FieldType.long)), w ∈ GW := wV_of gw_6_199 gw_6_201 gs_44 gw_1_6 gw_6_202
theorem cw_RX9_38 : ∀ w ∈ wV RX9 38 RX9 yX9_numberAt cX9_numberAt 2 (some (FieldType.long)), w ∈ GW := wV_of gw_5_204 gw_5_196 gw_5_197 gw_1_6 gw_5_198
theorem nw_RX6_65 : Cond.methodLinkNest RX6 65 yX10_modulo RX10 ∈ NW := NW_in (tin_1 (k := 195) (by decide +kernel)) rfl
theorem clw0 : ∀ w ∈ u_ws RX0 TX0 10, w ∈ GW := by
  have h : u_ws RX0 TX0 10 = [Cond.lays RX0 "PerhapsRows$Judge" "foundName" "I", Cond.lays RX0 "PerhapsRows$Judge" "foundLies" "I", Cond.lays RX0 "PerhapsRows$Judge" "foundSize" "I", Cond.lays RX0 "PerhapsRows$Judge" "foundMarks" "I", Cond.lays RX0 "PerhapsRows$Judge" "foundCost" "I", Cond.lays RX0 "PerhapsRows$Judge" "world" "I", Cond.lays RX0 "PerhapsRows$Judge" "known" "J", Cond.laysFinal RX0 "PerhapsRows$Judge" "asked" "LPerhapsRows$Names;", Cond.laysFinal RX0 "PerhapsRows$Judge" "places" "[J", Cond.laysFinal RX0 "PerhapsRows$Judge" "fewest" "[I"] := by decide +kernel
  rw [h]
  exact List.forall_mem_cons.mpr ⟨gw_2_112, List.forall_mem_cons.mpr ⟨gw_2_114, List.forall_mem_cons.mpr ⟨gw_2_116, List.forall_mem_cons.mpr ⟨gw_2_118, List.forall_mem_cons.mpr ⟨gw_2_120, List.forall_mem_cons.mpr ⟨gw_2_122, List.forall_mem_cons.mpr ⟨gw_2_124, List.forall_mem_cons.mpr ⟨gw_2_126, List.forall_mem_cons.mpr ⟨gw_2_128, List.forall_mem_cons.mpr ⟨gw_2_130, fun w h => nomatch h⟩⟩⟩⟩⟩⟩⟩⟩⟩⟩
theorem cl0 : clOk 0 RX0 TX0 10 tyX0 := ⟨rfl, clw0, tyX0_ok, nmX0, by decide, rfl⟩
theorem clw1 : ∀ w ∈ u_ws RX1 TX1 5, w ∈ GW := by
  have h : u_ws RX1 TX1 5 = [Cond.lays RX1 "PerhapsRows$Levels" "built" "I", Cond.lays RX1 "PerhapsRows$Levels" "took" "I", Cond.lays RX1 "PerhapsRows$Levels" "width" "I", Cond.laysFinal RX1 "PerhapsRows$Levels" "oneSide" "LPerhapsRows$Names;", Cond.laysFinal RX1 "PerhapsRows$Levels" "otherSide" "LPerhapsRows$Names;"] := by decide +kernel
  rw [h]
  exact List.forall_mem_cons.mpr ⟨gw_2_149, List.forall_mem_cons.mpr ⟨gw_2_151, List.forall_mem_cons.mpr ⟨gw_2_153, List.forall_mem_cons.mpr ⟨gw_2_155, List.forall_mem_cons.mpr ⟨gw_2_157, fun w h => nomatch h⟩⟩⟩⟩⟩
theorem cl1 : clOk 1 RX1 TX1 5 tyX1 := ⟨rfl, clw1, tyX1_ok, nmX1, by decide, rfl⟩
theorem clw2 : ∀ w ∈ u_ws RX2 TX2 1, w ∈ GW := by
  have h : u_ws RX2 TX2 1 = [Cond.laysFinal RX2 "PerhapsRows$Names" "words" "[J"] := by decide +kernel
  rw [h]
  exact List.forall_mem_cons.mpr ⟨gw_1_118, fun w h => nomatch h⟩
theorem cl2 : clOk 2 RX2 TX2 1 tyX2 := ⟨rfl, clw2, tyX2_ok, nmX2, by decide, rfl⟩
theorem clw3 : ∀ w ∈ u_ws RX3 TX3 6, w ∈ GW := by
  have h : u_ws RX3 TX3 6 = [Cond.laysFinal RX3 "PerhapsRows$Pusher" "order" "[I", Cond.laysFinal RX3 "PerhapsRows$Pusher" "fromNest" "[I", Cond.laysFinal RX3 "PerhapsRows$Pusher" "fromSlot" "[I", Cond.laysFinal RX3 "PerhapsRows$Pusher" "saved" "[I", Cond.lays RX3 "PerhapsRows$Pusher" "reached" "I", Cond.lays RX3 "PerhapsRows$Pusher" "reachedBits" "I"] := by decide +kernel
  rw [h]
  exact List.forall_mem_cons.mpr ⟨gw_2_58, List.forall_mem_cons.mpr ⟨gw_2_60, List.forall_mem_cons.mpr ⟨gw_2_62, List.forall_mem_cons.mpr ⟨gw_2_64, List.forall_mem_cons.mpr ⟨gw_2_66, List.forall_mem_cons.mpr ⟨gw_2_68, fun w h => nomatch h⟩⟩⟩⟩⟩⟩
theorem cl3 : clOk 3 RX3 TX3 6 tyX3 := ⟨rfl, clw3, tyX3_ok, nmX3, by decide, rfl⟩
theorem clw4 : ∀ w ∈ u_ws RX4 TX4 16, w ∈ GW := by
  have h : u_ws RX4 TX4 16 = [Cond.laysFinal RX4 "PerhapsRows$Reader" "draft" "LPerhapsRows$Rules;", Cond.lays RX4 "PerhapsRows$Reader" "taped" "I", Cond.lays RX4 "PerhapsRows$Reader" "fault" "I", Cond.lays RX4 "PerhapsRows$Reader" "faultPlace" "I", Cond.laysFinal RX4 "PerhapsRows$Reader" "tape" "[B", Cond.laysFinal RX4 "PerhapsRows$Reader" "waiting" "[I", Cond.lays RX4 "PerhapsRows$Reader" "manyWaiting" "I", Cond.lays RX4 "PerhapsRows$Reader" "length" "I", Cond.lays RX4 "PerhapsRows$Reader" "start" "I", Cond.lays RX4 "PerhapsRows$Reader" "end" "I", Cond.lays RX4 "PerhapsRows$Reader" "token" "I", Cond.lays RX4 "PerhapsRows$Reader" "number" "I", Cond.lays RX4 "PerhapsRows$Reader" "next" "I", Cond.lays RX4 "PerhapsRows$Reader" "head" "I", Cond.lays RX4 "PerhapsRows$Reader" "from" "I", Cond.lays RX4 "PerhapsRows$Reader" "open" "I"] := by decide +kernel
  rw [h]
  exact List.forall_mem_cons.mpr ⟨gw_2_12, List.forall_mem_cons.mpr ⟨gw_2_14, List.forall_mem_cons.mpr ⟨gw_2_16, List.forall_mem_cons.mpr ⟨gw_2_18, List.forall_mem_cons.mpr ⟨gw_2_20, List.forall_mem_cons.mpr ⟨gw_2_22, List.forall_mem_cons.mpr ⟨gw_2_24, List.forall_mem_cons.mpr ⟨gw_2_26, List.forall_mem_cons.mpr ⟨gw_2_28, List.forall_mem_cons.mpr ⟨gw_2_30, List.forall_mem_cons.mpr ⟨gw_2_32, List.forall_mem_cons.mpr ⟨gw_2_34, List.forall_mem_cons.mpr ⟨gw_2_36, List.forall_mem_cons.mpr ⟨gw_2_38, List.forall_mem_cons.mpr ⟨gw_2_40, List.forall_mem_cons.mpr ⟨gw_2_42, fun w h => nomatch h⟩⟩⟩⟩⟩⟩⟩⟩⟩⟩⟩⟩⟩⟩⟩⟩
theorem cl4 : clOk 4 RX4 TX4 16 tyX4 := ⟨rfl, clw4, tyX4_ok, nmX4, by decide, rfl⟩
theorem clw5 : ∀ w ∈ u_ws RX5 TX5 10, w ∈ GW := by
  have h : u_ws RX5 TX5 10 = [Cond.lays RX5 "PerhapsRows$Row" "there" "Z", Cond.lays RX5 "PerhapsRows$Row" "kind" "I", Cond.lays RX5 "PerhapsRows$Row" "size" "I", Cond.lays RX5 "PerhapsRows$Row" "marks" "I", Cond.lays RX5 "PerhapsRows$Row" "extra" "I", Cond.lays RX5 "PerhapsRows$Row" "layers" "I", Cond.lays RX5 "PerhapsRows$Row" "pushes" "I", Cond.lays RX5 "PerhapsRows$Row" "latestPuts" "I", Cond.laysFinal RX5 "PerhapsRows$Row" "within" "LPerhapsRows$Names;", Cond.laysFinal RX5 "PerhapsRows$Row" "cells" "[I"] := by decide +kernel
  rw [h]
  exact List.forall_mem_cons.mpr ⟨gw_1_153, List.forall_mem_cons.mpr ⟨gw_1_155, List.forall_mem_cons.mpr ⟨gw_1_157, List.forall_mem_cons.mpr ⟨gw_1_159, List.forall_mem_cons.mpr ⟨gw_1_161, List.forall_mem_cons.mpr ⟨gw_1_163, List.forall_mem_cons.mpr ⟨gw_1_165, List.forall_mem_cons.mpr ⟨gw_1_167, List.forall_mem_cons.mpr ⟨gw_1_169, List.forall_mem_cons.mpr ⟨gw_1_171, fun w h => nomatch h⟩⟩⟩⟩⟩⟩⟩⟩⟩⟩
theorem cl5 : clOk 5 RX5 TX5 10 tyX5 := ⟨rfl, clw5, tyX5_ok, nmX5, by decide, rfl⟩
theorem clw6 : ∀ w ∈ u_ws RX6 TX6 14, w ∈ GW := by
  have h : u_ws RX6 TX6 14 = [Cond.lays RX6 "PerhapsRows$Rules" "lines" "I", Cond.lays RX6 "PerhapsRows$Rules" "world" "I", Cond.lays RX6 "PerhapsRows$Rules" "tags" "I", Cond.lays RX6 "PerhapsRows$Rules" "marks" "I", Cond.lays RX6 "PerhapsRows$Rules" "length" "I", Cond.lays RX6 "PerhapsRows$Rules" "tagStart" "I", Cond.lays RX6 "PerhapsRows$Rules" "tagEnd" "I", Cond.lays RX6 "PerhapsRows$Rules" "sizedMarks" "I", Cond.laysFinal RX6 "PerhapsRows$Rules" "code" "[I", Cond.laysFinal RX6 "PerhapsRows$Rules" "starts" "[I", Cond.laysFinal RX6 "PerhapsRows$Rules" "ends" "[I", Cond.laysFinal RX6 "PerhapsRows$Rules" "tagTable" "[I", Cond.laysFinal RX6 "PerhapsRows$Rules" "valueTable" "[I", Cond.laysFinal RX6 "PerhapsRows$Rules" "stack" "[I"] := by decide +kernel
  rw [h]
  exact List.forall_mem_cons.mpr ⟨gw_1_74, List.forall_mem_cons.mpr ⟨gw_1_76, List.forall_mem_cons.mpr ⟨gw_1_78, List.forall_mem_cons.mpr ⟨gw_1_80, List.forall_mem_cons.mpr ⟨gw_1_82, List.forall_mem_cons.mpr ⟨gw_1_84, List.forall_mem_cons.mpr ⟨gw_1_86, List.forall_mem_cons.mpr ⟨gw_1_88, List.forall_mem_cons.mpr ⟨gw_1_90, List.forall_mem_cons.mpr ⟨gw_1_92, List.forall_mem_cons.mpr ⟨gw_1_94, List.forall_mem_cons.mpr ⟨gw_1_96, List.forall_mem_cons.mpr ⟨gw_1_98, List.forall_mem_cons.mpr ⟨gw_1_100, fun w h => nomatch h⟩⟩⟩⟩⟩⟩⟩⟩⟩⟩⟩⟩⟩⟩
theorem cl6 : clOk 6 RX6 TX6 14 tyX6 := ⟨rfl, clw6, tyX6_ok, nmX6, by decide, rfl⟩
theorem clw7 : ∀ w ∈ u_ws RX7 TX7 2, w ∈ GW := by
  have h : u_ws RX7 TX7 2 = [Cond.laysFinal RX7 "PerhapsRows$Shelf" "rules" "LPerhapsRows$Rules;", Cond.laysFinal RX7 "PerhapsRows$Shelf" "rows" "[LPerhapsRows$Row;"] := by decide +kernel
  rw [h]
  exact List.forall_mem_cons.mpr ⟨gw_1_178, List.forall_mem_cons.mpr ⟨gw_1_180, fun w h => nomatch h⟩⟩
theorem cl7 : clOk 7 RX7 TX7 2 tyX7 := ⟨rfl, clw7, tyX7_ok, nmX7, by decide, rfl⟩
theorem clw8 : ∀ w ∈ u_ws RX8 TX8 4, w ∈ GW := by
  have h : u_ws RX8 TX8 4 = [Cond.laysFinal RX8 "PerhapsRows$Solver" "held" "[J", Cond.laysFinal RX8 "PerhapsRows$Solver" "asks" "[I", Cond.laysFinal RX8 "PerhapsRows$Solver" "answers" "[I", Cond.lays RX8 "PerhapsRows$Solver" "taken" "J"] := by decide +kernel
  rw [h]
  exact List.forall_mem_cons.mpr ⟨gw_2_81, List.forall_mem_cons.mpr ⟨gw_2_83, List.forall_mem_cons.mpr ⟨gw_2_85, List.forall_mem_cons.mpr ⟨gw_2_87, fun w h => nomatch h⟩⟩⟩⟩
theorem cl8 : clOk 8 RX8 TX8 4 tyX8 := ⟨rfl, clw8, tyX8_ok, nmX8, by decide, rfl⟩
theorem clw9 : ∀ w ∈ u_ws RX9 TX9 4, w ∈ GW := by
  have h : u_ws RX9 TX9 4 = [Cond.lays RX9 "PerhapsRows$Tray" "there" "Z", Cond.lays RX9 "PerhapsRows$Tray" "many" "I", Cond.lays RX9 "PerhapsRows$Tray" "sort" "I", Cond.laysFinal RX9 "PerhapsRows$Tray" "numbers" "[J"] := by decide +kernel
  rw [h]
  exact List.forall_mem_cons.mpr ⟨gw_1_215, List.forall_mem_cons.mpr ⟨gw_1_217, List.forall_mem_cons.mpr ⟨gw_1_219, List.forall_mem_cons.mpr ⟨gw_1_221, fun w h => nomatch h⟩⟩⟩⟩
theorem cl9 : clOk 9 RX9 TX9 4 tyX9 := ⟨rfl, clw9, tyX9_ok, nmX9, by decide, rfl⟩
theorem clw10 : ∀ w ∈ u_ws RX10 TX10 13, w ∈ GW := by
  have h : u_ws RX10 TX10 13 = [Cond.lays RX10 "PerhapsRows" "faultKind" "I", Cond.lays RX10 "PerhapsRows" "faultPlace" "I", Cond.lays RX10 "PerhapsRows" "upperNumber" "I", Cond.lays RX10 "PerhapsRows" "lowerNumber" "I", Cond.laysFinal RX10 "PerhapsRows" "now" "LPerhapsRows$Shelf;", Cond.laysFinal RX10 "PerhapsRows" "images" "[LPerhapsRows$Shelf;", Cond.lays RX10 "PerhapsRows" "imagesMade" "I", Cond.laysFinal RX10 "PerhapsRows" "trays" "[LPerhapsRows$Tray;", Cond.laysFinal RX10 "PerhapsRows" "reader" "LPerhapsRows$Reader;", Cond.laysFinal RX10 "PerhapsRows" "pusher" "LPerhapsRows$Pusher;", Cond.laysFinal RX10 "PerhapsRows" "solver" "LPerhapsRows$Solver;", Cond.laysFinal RX10 "PerhapsRows" "judge" "LPerhapsRows$Judge;", Cond.laysFinal RX10 "PerhapsRows" "levels" "LPerhapsRows$Levels;"] := by decide +kernel
  rw [h]
  exact List.forall_mem_cons.mpr ⟨gw_2_173, List.forall_mem_cons.mpr ⟨gw_2_175, List.forall_mem_cons.mpr ⟨gw_2_177, List.forall_mem_cons.mpr ⟨gw_2_179, List.forall_mem_cons.mpr ⟨gw_2_181, List.forall_mem_cons.mpr ⟨gw_2_183, List.forall_mem_cons.mpr ⟨gw_2_185, List.forall_mem_cons.mpr ⟨gw_2_187, List.forall_mem_cons.mpr ⟨gw_2_189, List.forall_mem_cons.mpr ⟨gw_2_191, List.forall_mem_cons.mpr ⟨gw_2_193, List.forall_mem_cons.mpr ⟨gw_2_195, List.forall_mem_cons.mpr ⟨gw_2_197, fun w h => nomatch h⟩⟩⟩⟩⟩⟩⟩⟩⟩⟩⟩⟩⟩
theorem cl10 : clOk 10 RX10 TX10 13 tyX10 := ⟨rfl, clw10, tyX10_ok, nmX10, by decide, rfl⟩
theorem clw11 : ∀ w ∈ u_ws RX11 TX11 38, w ∈ GW := by
  have h : u_ws RX11 TX11 38 = [Cond.laysFinal RX11 "PerhapsRowsModel" "told" "[I", Cond.laysFinal RX11 "PerhapsRowsModel" "fresh" "[I", Cond.laysFinal RX11 "PerhapsRowsModel" "images" "[I", Cond.laysFinal RX11 "PerhapsRowsModel" "saved" "[I", Cond.laysFinal RX11 "PerhapsRowsModel" "isImage" "[Z", Cond.lays RX11 "PerhapsRowsModel" "thrown" "I", Cond.laysFinal RX11 "PerhapsRowsModel" "tape" "[I", Cond.lays RX11 "PerhapsRowsModel" "taped" "I", Cond.lays RX11 "PerhapsRowsModel" "size" "I", Cond.lays RX11 "PerhapsRowsModel" "at" "I", Cond.lays RX11 "PerhapsRowsModel" "begin" "I", Cond.lays RX11 "PerhapsRowsModel" "token" "I", Cond.lays RX11 "PerhapsRowsModel" "worth" "I", Cond.lays RX11 "PerhapsRowsModel" "open" "I", Cond.lays RX11 "PerhapsRowsModel" "bad" "I", Cond.lays RX11 "PerhapsRowsModel" "badPlace" "I", Cond.lays RX11 "PerhapsRowsModel" "faultKind" "I", Cond.lays RX11 "PerhapsRowsModel" "faultPlace" "I", Cond.laysFinal RX11 "PerhapsRowsModel" "heap" "[I", Cond.laysFinal RX11 "PerhapsRowsModel" "line" "[I", Cond.laysFinal RX11 "PerhapsRowsModel" "pushedFrom" "[I", Cond.laysFinal RX11 "PerhapsRowsModel" "isCome" "[Z", Cond.laysFinal RX11 "PerhapsRowsModel" "holds" "[J", Cond.laysFinal RX11 "PerhapsRowsModel" "asks" "[I", Cond.laysFinal RX11 "PerhapsRowsModel" "takenBy" "[I", Cond.laysFinal RX11 "PerhapsRowsModel" "isTaken" "[Z", Cond.lays RX11 "PerhapsRowsModel" "upper" "I", Cond.lays RX11 "PerhapsRowsModel" "lower" "I", Cond.laysFinal RX11 "PerhapsRowsModel" "bit" "[Z", Cond.laysFinal RX11 "PerhapsRowsModel" "takes" "[Z", Cond.laysFinal RX11 "PerhapsRowsModel" "tookAhead" "[Z", Cond.laysFinal RX11 "PerhapsRowsModel" "isLeft" "[Z", Cond.laysFinal RX11 "PerhapsRowsModel" "isKnown" "[Z", Cond.laysFinal RX11 "PerhapsRowsModel" "isAsked" "[Z", Cond.laysFinal RX11 "PerhapsRowsModel" "fewest" "[I", Cond.laysFinal RX11 "PerhapsRowsModel" "tSort" "[I", Cond.laysFinal RX11 "PerhapsRowsModel" "tMany" "[I", Cond.laysFinal RX11 "PerhapsRowsModel" "numbers" "[J"] := by decide +kernel
  rw [h]
  exact List.forall_mem_cons.mpr ⟨gw_7_48, List.forall_mem_cons.mpr ⟨gw_7_50, List.forall_mem_cons.mpr ⟨gw_7_52, List.forall_mem_cons.mpr ⟨gw_7_54, List.forall_mem_cons.mpr ⟨gw_7_56, List.forall_mem_cons.mpr ⟨gw_7_58, List.forall_mem_cons.mpr ⟨gw_7_60, List.forall_mem_cons.mpr ⟨gw_7_62, List.forall_mem_cons.mpr ⟨gw_7_64, List.forall_mem_cons.mpr ⟨gw_7_66, List.forall_mem_cons.mpr ⟨gw_7_68, List.forall_mem_cons.mpr ⟨gw_7_70, List.forall_mem_cons.mpr ⟨gw_7_72, List.forall_mem_cons.mpr ⟨gw_7_74, List.forall_mem_cons.mpr ⟨gw_7_76, List.forall_mem_cons.mpr ⟨gw_7_78, List.forall_mem_cons.mpr ⟨gw_7_80, List.forall_mem_cons.mpr ⟨gw_7_82, List.forall_mem_cons.mpr ⟨gw_7_84, List.forall_mem_cons.mpr ⟨gw_7_86, List.forall_mem_cons.mpr ⟨gw_7_88, List.forall_mem_cons.mpr ⟨gw_7_90, List.forall_mem_cons.mpr ⟨gw_7_92, List.forall_mem_cons.mpr ⟨gw_7_94, List.forall_mem_cons.mpr ⟨gw_7_96, List.forall_mem_cons.mpr ⟨gw_7_98, List.forall_mem_cons.mpr ⟨gw_7_100, List.forall_mem_cons.mpr ⟨gw_7_102, List.forall_mem_cons.mpr ⟨gw_7_104, List.forall_mem_cons.mpr ⟨gw_7_106, List.forall_mem_cons.mpr ⟨gw_7_108, List.forall_mem_cons.mpr ⟨gw_7_110, List.forall_mem_cons.mpr ⟨gw_7_112, List.forall_mem_cons.mpr ⟨gw_7_114, List.forall_mem_cons.mpr ⟨gw_7_116, List.forall_mem_cons.mpr ⟨gw_7_118, List.forall_mem_cons.mpr ⟨gw_7_120, List.forall_mem_cons.mpr ⟨gw_7_122, fun w h => nomatch h⟩⟩⟩⟩⟩⟩⟩⟩⟩⟩⟩⟩⟩⟩⟩⟩⟩⟩⟩⟩⟩⟩⟩⟩⟩⟩⟩⟩⟩⟩⟩⟩⟩⟩⟩⟩⟩⟩
theorem cl11 : clOk 11 RX11 TX11 38 tyX11 := ⟨rfl, clw11, tyX11_ok, nmX11, by decide, rfl⟩
theorem cp_RX2_29 : Cond.methodLink RX2 29 arraycopyName ∈ GW := gw_6_56
theorem cp_RX5_119 : Cond.methodLink RX5 119 arraycopyName ∈ GW := gw_6_232
theorem cp_RX6_72 : Cond.methodLink RX6 72 arraycopyName ∈ GW := gw_4_37
theorem copyWords : cpW := ⟨gw_4_39, gw_4_38, gw_1_23⟩
