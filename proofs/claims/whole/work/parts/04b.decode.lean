theorem dX11_init_0 : decode cX11_init 0 = .ok (.aload_n 0, 1) := by decide +kernel
theorem dX11_init_1 : decode cX11_init 1 = .ok (.invokespecial 1, 3) := by decide +kernel
theorem dX11_init_4 : decode cX11_init 4 = .ok (.aload_n 0, 1) := by decide +kernel
theorem dX11_init_5 : decode cX11_init 5 = .ok (.sipush 3268, 3) := by decide +kernel
theorem dX11_init_8 : decode cX11_init 8 = .ok (.newarray .int, 2) := by decide +kernel
theorem dX11_init_10 : decode cX11_init 10 = .ok (.putfield 9, 3) := by decide +kernel
theorem dX11_init_13 : decode cX11_init 13 = .ok (.aload_n 0, 1) := by decide +kernel
theorem dX11_init_14 : decode cX11_init 14 = .ok (.sipush 3268, 3) := by decide +kernel
theorem dX11_init_17 : decode cX11_init 17 = .ok (.newarray .int, 2) := by decide +kernel
theorem dX11_init_19 : decode cX11_init 19 = .ok (.putfield 13, 3) := by decide +kernel
theorem dX11_init_22 : decode cX11_init 22 = .ok (.aload_n 0, 1) := by decide +kernel
theorem dX11_init_23 : decode cX11_init 23 = .ok (.sipush 9804, 3) := by decide +kernel
theorem dX11_init_26 : decode cX11_init 26 = .ok (.newarray .int, 2) := by decide +kernel
theorem dX11_init_28 : decode cX11_init 28 = .ok (.putfield 16, 3) := by decide +kernel
theorem dX11_init_31 : decode cX11_init 31 = .ok (.aload_n 0, 1) := by decide +kernel
theorem dX11_init_32 : decode cX11_init 32 = .ok (.sipush 512, 3) := by decide +kernel
theorem dX11_init_35 : decode cX11_init 35 = .ok (.newarray .int, 2) := by decide +kernel
theorem dX11_init_37 : decode cX11_init 37 = .ok (.putfield 19, 3) := by decide +kernel
theorem dX11_init_40 : decode cX11_init 40 = .ok (.aload_n 0, 1) := by decide +kernel
theorem dX11_init_41 : decode cX11_init 41 = .ok (.iconst 3, 1) := by decide +kernel
theorem dX11_init_42 : decode cX11_init 42 = .ok (.newarray .boolean, 2) := by decide +kernel
theorem dX11_init_44 : decode cX11_init 44 = .ok (.putfield 22, 3) := by decide +kernel
theorem dX11_init_47 : decode cX11_init 47 = .ok (.aload_n 0, 1) := by decide +kernel
theorem dX11_init_48 : decode cX11_init 48 = .ok (.sipush 600, 3) := by decide +kernel
theorem dX11_init_51 : decode cX11_init 51 = .ok (.newarray .int, 2) := by decide +kernel
theorem dX11_init_53 : decode cX11_init 53 = .ok (.putfield 26, 3) := by decide +kernel
theorem dX11_init_56 : decode cX11_init 56 = .ok (.aload_n 0, 1) := by decide +kernel
theorem dX11_init_57 : decode cX11_init 57 = .ok (.iconst (-1), 1) := by decide +kernel
theorem dX11_init_58 : decode cX11_init 58 = .ok (.putfield 29, 3) := by decide +kernel
theorem dX11_init_61 : decode cX11_init 61 = .ok (.aload_n 0, 1) := by decide +kernel
theorem dX11_init_62 : decode cX11_init 62 = .ok (.sipush 300, 3) := by decide +kernel
theorem dX11_init_65 : decode cX11_init 65 = .ok (.newarray .int, 2) := by decide +kernel
theorem dX11_init_67 : decode cX11_init 67 = .ok (.putfield 33, 3) := by decide +kernel
theorem dX11_init_70 : decode cX11_init 70 = .ok (.aload_n 0, 1) := by decide +kernel
theorem dX11_init_71 : decode cX11_init 71 = .ok (.bipush 16, 2) := by decide +kernel
theorem dX11_init_73 : decode cX11_init 73 = .ok (.newarray .int, 2) := by decide +kernel
theorem dX11_init_75 : decode cX11_init 75 = .ok (.putfield 36, 3) := by decide +kernel
theorem dX11_init_78 : decode cX11_init 78 = .ok (.aload_n 0, 1) := by decide +kernel
theorem dX11_init_79 : decode cX11_init 79 = .ok (.bipush 16, 2) := by decide +kernel
theorem dX11_init_81 : decode cX11_init 81 = .ok (.newarray .int, 2) := by decide +kernel
theorem dX11_init_83 : decode cX11_init 83 = .ok (.putfield 39, 3) := by decide +kernel
theorem dX11_init_86 : decode cX11_init 86 = .ok (.aload_n 0, 1) := by decide +kernel
theorem dX11_init_87 : decode cX11_init 87 = .ok (.bipush 16, 2) := by decide +kernel
theorem dX11_init_89 : decode cX11_init 89 = .ok (.newarray .boolean, 2) := by decide +kernel
theorem dX11_init_91 : decode cX11_init 91 = .ok (.putfield 42, 3) := by decide +kernel
theorem dX11_init_94 : decode cX11_init 94 = .ok (.aload_n 0, 1) := by decide +kernel
theorem dX11_init_95 : decode cX11_init 95 = .ok (.bipush 40, 2) := by decide +kernel
theorem dX11_init_97 : decode cX11_init 97 = .ok (.newarray .long, 2) := by decide +kernel
theorem dX11_init_99 : decode cX11_init 99 = .ok (.putfield 45, 3) := by decide +kernel
theorem dX11_init_102 : decode cX11_init 102 = .ok (.aload_n 0, 1) := by decide +kernel
theorem dX11_init_103 : decode cX11_init 103 = .ok (.bipush 40, 2) := by decide +kernel
theorem dX11_init_105 : decode cX11_init 105 = .ok (.newarray .int, 2) := by decide +kernel
theorem dX11_init_107 : decode cX11_init 107 = .ok (.putfield 49, 3) := by decide +kernel
theorem dX11_init_110 : decode cX11_init 110 = .ok (.aload_n 0, 1) := by decide +kernel
theorem dX11_init_111 : decode cX11_init 111 = .ok (.bipush 64, 2) := by decide +kernel
theorem dX11_init_113 : decode cX11_init 113 = .ok (.newarray .int, 2) := by decide +kernel
theorem dX11_init_115 : decode cX11_init 115 = .ok (.putfield 52, 3) := by decide +kernel
theorem dX11_init_118 : decode cX11_init 118 = .ok (.aload_n 0, 1) := by decide +kernel
theorem dX11_init_119 : decode cX11_init 119 = .ok (.bipush 40, 2) := by decide +kernel
theorem dX11_init_121 : decode cX11_init 121 = .ok (.newarray .boolean, 2) := by decide +kernel
theorem dX11_init_123 : decode cX11_init 123 = .ok (.putfield 55, 3) := by decide +kernel
theorem dX11_init_126 : decode cX11_init 126 = .ok (.aload_n 0, 1) := by decide +kernel
theorem dX11_init_127 : decode cX11_init 127 = .ok (.bipush 64, 2) := by decide +kernel
theorem dX11_init_129 : decode cX11_init 129 = .ok (.newarray .boolean, 2) := by decide +kernel
theorem dX11_init_131 : decode cX11_init 131 = .ok (.putfield 58, 3) := by decide +kernel
theorem dX11_init_134 : decode cX11_init 134 = .ok (.aload_n 0, 1) := by decide +kernel
theorem dX11_init_135 : decode cX11_init 135 = .ok (.sipush 256, 3) := by decide +kernel
theorem dX11_init_138 : decode cX11_init 138 = .ok (.newarray .boolean, 2) := by decide +kernel
theorem dX11_init_140 : decode cX11_init 140 = .ok (.putfield 61, 3) := by decide +kernel
theorem dX11_init_143 : decode cX11_init 143 = .ok (.aload_n 0, 1) := by decide +kernel
theorem dX11_init_144 : decode cX11_init 144 = .ok (.sipush 256, 3) := by decide +kernel
theorem dX11_init_147 : decode cX11_init 147 = .ok (.newarray .boolean, 2) := by decide +kernel
theorem dX11_init_149 : decode cX11_init 149 = .ok (.putfield 64, 3) := by decide +kernel
theorem dX11_init_152 : decode cX11_init 152 = .ok (.aload_n 0, 1) := by decide +kernel
theorem dX11_init_153 : decode cX11_init 153 = .ok (.sipush 256, 3) := by decide +kernel
theorem dX11_init_156 : decode cX11_init 156 = .ok (.newarray .boolean, 2) := by decide +kernel
theorem dX11_init_158 : decode cX11_init 158 = .ok (.putfield 67, 3) := by decide +kernel
theorem dX11_init_161 : decode cX11_init 161 = .ok (.aload_n 0, 1) := by decide +kernel
theorem dX11_init_162 : decode cX11_init 162 = .ok (.bipush 64, 2) := by decide +kernel
theorem dX11_init_164 : decode cX11_init 164 = .ok (.newarray .boolean, 2) := by decide +kernel
theorem dX11_init_166 : decode cX11_init 166 = .ok (.putfield 70, 3) := by decide +kernel
theorem dX11_init_169 : decode cX11_init 169 = .ok (.aload_n 0, 1) := by decide +kernel
theorem dX11_init_170 : decode cX11_init 170 = .ok (.sipush 256, 3) := by decide +kernel
theorem dX11_init_173 : decode cX11_init 173 = .ok (.newarray .boolean, 2) := by decide +kernel
theorem dX11_init_175 : decode cX11_init 175 = .ok (.putfield 73, 3) := by decide +kernel
theorem dX11_init_178 : decode cX11_init 178 = .ok (.aload_n 0, 1) := by decide +kernel
theorem dX11_init_179 : decode cX11_init 179 = .ok (.bipush 64, 2) := by decide +kernel
theorem dX11_init_181 : decode cX11_init 181 = .ok (.newarray .int, 2) := by decide +kernel
theorem dX11_init_183 : decode cX11_init 183 = .ok (.putfield 76, 3) := by decide +kernel
theorem dX11_init_186 : decode cX11_init 186 = .ok (.aload_n 0, 1) := by decide +kernel
theorem dX11_init_187 : decode cX11_init 187 = .ok (.iconst 4, 1) := by decide +kernel
theorem dX11_init_188 : decode cX11_init 188 = .ok (.newarray .int, 2) := by decide +kernel
theorem dX11_init_190 : decode cX11_init 190 = .ok (.dup, 1) := by decide +kernel
theorem dX11_init_191 : decode cX11_init 191 = .ok (.iconst 0, 1) := by decide +kernel
theorem dX11_init_192 : decode cX11_init 192 = .ok (.iconst (-1), 1) := by decide +kernel
theorem dX11_init_193 : decode cX11_init 193 = .ok (.iastore, 1) := by decide +kernel
theorem dX11_init_194 : decode cX11_init 194 = .ok (.dup, 1) := by decide +kernel
theorem dX11_init_195 : decode cX11_init 195 = .ok (.iconst 1, 1) := by decide +kernel
theorem dX11_init_196 : decode cX11_init 196 = .ok (.iconst (-1), 1) := by decide +kernel
theorem dX11_init_197 : decode cX11_init 197 = .ok (.iastore, 1) := by decide +kernel
theorem dX11_init_198 : decode cX11_init 198 = .ok (.dup, 1) := by decide +kernel
theorem dX11_init_199 : decode cX11_init 199 = .ok (.iconst 2, 1) := by decide +kernel
theorem dX11_init_200 : decode cX11_init 200 = .ok (.iconst (-1), 1) := by decide +kernel
theorem dX11_init_201 : decode cX11_init 201 = .ok (.iastore, 1) := by decide +kernel
theorem dX11_init_202 : decode cX11_init 202 = .ok (.dup, 1) := by decide +kernel
theorem dX11_init_203 : decode cX11_init 203 = .ok (.iconst 3, 1) := by decide +kernel
theorem dX11_init_204 : decode cX11_init 204 = .ok (.iconst (-1), 1) := by decide +kernel
theorem dX11_init_205 : decode cX11_init 205 = .ok (.iastore, 1) := by decide +kernel
theorem dX11_init_206 : decode cX11_init 206 = .ok (.putfield 79, 3) := by decide +kernel
theorem dX11_init_209 : decode cX11_init 209 = .ok (.aload_n 0, 1) := by decide +kernel
theorem dX11_init_210 : decode cX11_init 210 = .ok (.iconst 4, 1) := by decide +kernel
theorem dX11_init_211 : decode cX11_init 211 = .ok (.newarray .int, 2) := by decide +kernel
theorem dX11_init_213 : decode cX11_init 213 = .ok (.putfield 82, 3) := by decide +kernel
theorem dX11_init_216 : decode cX11_init 216 = .ok (.aload_n 0, 1) := by decide +kernel
theorem dX11_init_217 : decode cX11_init 217 = .ok (.sipush 160, 3) := by decide +kernel
theorem dX11_init_220 : decode cX11_init 220 = .ok (.newarray .long, 2) := by decide +kernel
theorem dX11_init_222 : decode cX11_init 222 = .ok (.putfield 85, 3) := by decide +kernel
theorem dX11_init_225 : decode cX11_init 225 = .ok (.aload_n 0, 1) := by decide +kernel
theorem dX11_init_226 : decode cX11_init 226 = .ok (.getfield 9, 3) := by decide +kernel
theorem dX11_init_229 : decode cX11_init 229 = .ok (.invokestatic 88, 3) := by decide +kernel
theorem dX11_init_232 : decode cX11_init 232 = .ok (.return_, 1) := by decide +kernel
theorem dX11_begins_0 : decode cX11_begins 0 = .ok (.iconst 0, 1) := by decide +kernel
theorem dX11_begins_1 : decode cX11_begins 1 = .ok (.istore_n 1, 1) := by decide +kernel
theorem dX11_begins_2 : decode cX11_begins 2 = .ok (.iload_n 1, 1) := by decide +kernel
theorem dX11_begins_3 : decode cX11_begins 3 = .ok (.sipush 3268, 3) := by decide +kernel
theorem dX11_begins_6 : decode cX11_begins 6 = .ok (.if_icmp .ge 13, 3) := by decide +kernel
theorem dX11_begins_9 : decode cX11_begins 9 = .ok (.aload_n 0, 1) := by decide +kernel
theorem dX11_begins_10 : decode cX11_begins 10 = .ok (.iload_n 1, 1) := by decide +kernel
theorem dX11_begins_11 : decode cX11_begins 11 = .ok (.iconst 0, 1) := by decide +kernel
theorem dX11_begins_12 : decode cX11_begins 12 = .ok (.iastore, 1) := by decide +kernel
theorem dX11_begins_13 : decode cX11_begins 13 = .ok (.iinc 1 1, 3) := by decide +kernel
theorem dX11_begins_16 : decode cX11_begins 16 = .ok (.goto (-14), 3) := by decide +kernel
theorem dX11_begins_19 : decode cX11_begins 19 = .ok (.aload_n 0, 1) := by decide +kernel
theorem dX11_begins_20 : decode cX11_begins 20 = .ok (.iconst 1, 1) := by decide +kernel
theorem dX11_begins_21 : decode cX11_begins 21 = .ok (.bipush 64, 2) := by decide +kernel
theorem dX11_begins_23 : decode cX11_begins 23 = .ok (.iastore, 1) := by decide +kernel
theorem dX11_begins_24 : decode cX11_begins 24 = .ok (.aload_n 0, 1) := by decide +kernel
theorem dX11_begins_25 : decode cX11_begins 25 = .ok (.iconst 2, 1) := by decide +kernel
theorem dX11_begins_26 : decode cX11_begins 26 = .ok (.bipush 16, 2) := by decide +kernel
theorem dX11_begins_28 : decode cX11_begins 28 = .ok (.iastore, 1) := by decide +kernel
theorem dX11_begins_29 : decode cX11_begins 29 = .ok (.iconst 0, 1) := by decide +kernel
theorem dX11_begins_30 : decode cX11_begins 30 = .ok (.istore_n 1, 1) := by decide +kernel
theorem dX11_begins_31 : decode cX11_begins 31 = .ok (.iload_n 1, 1) := by decide +kernel
theorem dX11_begins_32 : decode cX11_begins 32 = .ok (.iconst 4, 1) := by decide +kernel
theorem dX11_begins_33 : decode cX11_begins 33 = .ok (.if_icmp .ge 23, 3) := by decide +kernel
theorem dX11_begins_36 : decode cX11_begins 36 = .ok (.aload_n 0, 1) := by decide +kernel
theorem dX11_begins_37 : decode cX11_begins 37 = .ok (.sipush 1220, 3) := by decide +kernel
theorem dX11_begins_40 : decode cX11_begins 40 = .ok (.sipush 512, 3) := by decide +kernel
theorem dX11_begins_43 : decode cX11_begins 43 = .ok (.iload_n 1, 1) := by decide +kernel
theorem dX11_begins_44 : decode cX11_begins 44 = .ok (.imul, 1) := by decide +kernel
theorem dX11_begins_45 : decode cX11_begins 45 = .ok (.iadd, 1) := by decide +kernel
theorem dX11_begins_46 : decode cX11_begins 46 = .ok (.iconst 0, 1) := by decide +kernel
theorem dX11_begins_47 : decode cX11_begins 47 = .ok (.iadd, 1) := by decide +kernel
theorem dX11_begins_48 : decode cX11_begins 48 = .ok (.iconst (-1), 1) := by decide +kernel
theorem dX11_begins_49 : decode cX11_begins 49 = .ok (.iastore, 1) := by decide +kernel
theorem dX11_begins_50 : decode cX11_begins 50 = .ok (.iinc 1 1, 3) := by decide +kernel
theorem dX11_begins_53 : decode cX11_begins 53 = .ok (.goto (-22), 3) := by decide +kernel
theorem dX11_begins_56 : decode cX11_begins 56 = .ok (.return_, 1) := by decide +kernel
theorem dX11_thrown_0 : decode cX11_thrown 0 = .ok (.aload_n 0, 1) := by decide +kernel
theorem dX11_thrown_1 : decode cX11_thrown 1 = .ok (.getfield 92, 3) := by decide +kernel
theorem dX11_thrown_4 : decode cX11_thrown 4 = .ok (.ireturn, 1) := by decide +kernel
theorem dX11_fails_0 : decode cX11_fails 0 = .ok (.aload_n 0, 1) := by decide +kernel
theorem dX11_fails_1 : decode cX11_fails 1 = .ok (.iload_n 1, 1) := by decide +kernel
theorem dX11_fails_2 : decode cX11_fails 2 = .ok (.putfield 92, 3) := by decide +kernel
theorem dX11_fails_5 : decode cX11_fails 5 = .ok (.iconst 0, 1) := by decide +kernel
theorem dX11_fails_6 : decode cX11_fails 6 = .ok (.ireturn, 1) := by decide +kernel
theorem dX11_within_0 : decode cX11_within 0 = .ok (.lload_n 0, 1) := by decide +kernel
theorem dX11_within_1 : decode cX11_within 1 = .ok (.lload_n 2, 1) := by decide +kernel
theorem dX11_within_2 : decode cX11_within 2 = .ok (.lcmp, 1) := by decide +kernel
theorem dX11_within_3 : decode cX11_within 3 = .ok (.ifCond .lt 14, 3) := by decide +kernel
theorem dX11_within_6 : decode cX11_within 6 = .ok (.lload_n 0, 1) := by decide +kernel
theorem dX11_within_7 : decode cX11_within 7 = .ok (.lload 4, 2) := by decide +kernel
theorem dX11_within_9 : decode cX11_within 9 = .ok (.lcmp, 1) := by decide +kernel
theorem dX11_within_10 : decode cX11_within 10 = .ok (.ifCond .gt 7, 3) := by decide +kernel
theorem dX11_within_13 : decode cX11_within 13 = .ok (.iconst 1, 1) := by decide +kernel
theorem dX11_within_14 : decode cX11_within 14 = .ok (.goto 4, 3) := by decide +kernel
theorem dX11_within_17 : decode cX11_within 17 = .ok (.iconst 0, 1) := by decide +kernel
theorem dX11_within_18 : decode cX11_within 18 = .ok (.ireturn, 1) := by decide +kernel
theorem dX11_feed_0 : decode cX11_feed 0 = .ok (.aload_n 0, 1) := by decide +kernel
theorem dX11_feed_1 : decode cX11_feed 1 = .ok (.iconst 0, 1) := by decide +kernel
theorem dX11_feed_2 : decode cX11_feed 2 = .ok (.putfield 92, 3) := by decide +kernel
theorem dX11_feed_5 : decode cX11_feed 5 = .ok (.aload_n 0, 1) := by decide +kernel
theorem dX11_feed_6 : decode cX11_feed 6 = .ok (.getfield 95, 3) := by decide +kernel
theorem dX11_feed_9 : decode cX11_feed 9 = .ok (.bipush 20, 2) := by decide +kernel
theorem dX11_feed_11 : decode cX11_feed 11 = .ok (.iadd, 1) := by decide +kernel
theorem dX11_feed_12 : decode cX11_feed 12 = .ok (.sipush 600, 3) := by decide +kernel
theorem dX11_feed_15 : decode cX11_feed 15 = .ok (.if_icmp .le 5, 3) := by decide +kernel
theorem dX11_feed_18 : decode cX11_feed 18 = .ok (.iconst (-1), 1) := by decide +kernel
theorem dX11_feed_19 : decode cX11_feed 19 = .ok (.ireturn, 1) := by decide +kernel
theorem dX11_feed_20 : decode cX11_feed 20 = .ok (.iconst 0, 1) := by decide +kernel
theorem dX11_feed_21 : decode cX11_feed 21 = .ok (.istore 6, 2) := by decide +kernel
theorem dX11_feed_23 : decode cX11_feed 23 = .ok (.iload 6, 2) := by decide +kernel
theorem dX11_feed_25 : decode cX11_feed 25 = .ok (.bipush 20, 2) := by decide +kernel
theorem dX11_feed_27 : decode cX11_feed 27 = .ok (.if_icmp .ge 93, 3) := by decide +kernel
theorem dX11_feed_30 : decode cX11_feed 30 = .ok (.iload 6, 2) := by decide +kernel
theorem dX11_feed_32 : decode cX11_feed 32 = .ok (.iconst 4, 1) := by decide +kernel
theorem dX11_feed_33 : decode cX11_feed 33 = .ok (.if_icmp .ge 7, 3) := by decide +kernel
theorem dX11_feed_36 : decode cX11_feed 36 = .ok (.iload_n 1, 1) := by decide +kernel
theorem dX11_feed_37 : decode cX11_feed 37 = .ok (.goto 39, 3) := by decide +kernel
theorem dX11_feed_40 : decode cX11_feed 40 = .ok (.iload 6, 2) := by decide +kernel
theorem dX11_feed_42 : decode cX11_feed 42 = .ok (.bipush 8, 2) := by decide +kernel
theorem dX11_feed_44 : decode cX11_feed 44 = .ok (.if_icmp .ge 7, 3) := by decide +kernel
theorem dX11_feed_47 : decode cX11_feed 47 = .ok (.iload_n 2, 1) := by decide +kernel
theorem dX11_feed_48 : decode cX11_feed 48 = .ok (.goto 28, 3) := by decide +kernel
theorem dX11_feed_51 : decode cX11_feed 51 = .ok (.iload 6, 2) := by decide +kernel
theorem dX11_feed_53 : decode cX11_feed 53 = .ok (.bipush 12, 2) := by decide +kernel
theorem dX11_feed_55 : decode cX11_feed 55 = .ok (.if_icmp .ge 7, 3) := by decide +kernel
theorem dX11_feed_58 : decode cX11_feed 58 = .ok (.iload_n 3, 1) := by decide +kernel
theorem dX11_feed_59 : decode cX11_feed 59 = .ok (.goto 17, 3) := by decide +kernel
theorem dX11_feed_62 : decode cX11_feed 62 = .ok (.iload 6, 2) := by decide +kernel
theorem dX11_feed_64 : decode cX11_feed 64 = .ok (.bipush 16, 2) := by decide +kernel
theorem dX11_feed_66 : decode cX11_feed 66 = .ok (.if_icmp .ge 8, 3) := by decide +kernel
theorem dX11_feed_69 : decode cX11_feed 69 = .ok (.iload 4, 2) := by decide +kernel
theorem dX11_feed_71 : decode cX11_feed 71 = .ok (.goto 5, 3) := by decide +kernel
theorem dX11_feed_74 : decode cX11_feed 74 = .ok (.iload 5, 2) := by decide +kernel
theorem dX11_feed_76 : decode cX11_feed 76 = .ok (.istore 7, 2) := by decide +kernel
theorem dX11_feed_78 : decode cX11_feed 78 = .ok (.aload_n 0, 1) := by decide +kernel
theorem dX11_feed_79 : decode cX11_feed 79 = .ok (.getfield 26, 3) := by decide +kernel
theorem dX11_feed_82 : decode cX11_feed 82 = .ok (.aload_n 0, 1) := by decide +kernel
theorem dX11_feed_83 : decode cX11_feed 83 = .ok (.getfield 95, 3) := by decide +kernel
theorem dX11_feed_86 : decode cX11_feed 86 = .ok (.iload 7, 2) := by decide +kernel
theorem dX11_feed_88 : decode cX11_feed 88 = .ok (.bipush 24, 2) := by decide +kernel
theorem dX11_feed_90 : decode cX11_feed 90 = .ok (.bipush 8, 2) := by decide +kernel
theorem dX11_feed_92 : decode cX11_feed 92 = .ok (.iload 6, 2) := by decide +kernel
theorem dX11_feed_94 : decode cX11_feed 94 = .ok (.iconst 3, 1) := by decide +kernel
theorem dX11_feed_95 : decode cX11_feed 95 = .ok (.iand, 1) := by decide +kernel
theorem dX11_feed_96 : decode cX11_feed 96 = .ok (.imul, 1) := by decide +kernel
theorem dX11_feed_97 : decode cX11_feed 97 = .ok (.isub, 1) := by decide +kernel
theorem dX11_feed_98 : decode cX11_feed 98 = .ok (.iushr, 1) := by decide +kernel
theorem dX11_feed_99 : decode cX11_feed 99 = .ok (.sipush 255, 3) := by decide +kernel
theorem dX11_feed_102 : decode cX11_feed 102 = .ok (.iand, 1) := by decide +kernel
theorem dX11_feed_103 : decode cX11_feed 103 = .ok (.iastore, 1) := by decide +kernel
theorem dX11_feed_104 : decode cX11_feed 104 = .ok (.aload_n 0, 1) := by decide +kernel
theorem dX11_feed_105 : decode cX11_feed 105 = .ok (.dup, 1) := by decide +kernel
theorem dX11_feed_106 : decode cX11_feed 106 = .ok (.getfield 95, 3) := by decide +kernel
theorem dX11_feed_109 : decode cX11_feed 109 = .ok (.iconst 1, 1) := by decide +kernel
theorem dX11_feed_110 : decode cX11_feed 110 = .ok (.iadd, 1) := by decide +kernel
theorem dX11_feed_111 : decode cX11_feed 111 = .ok (.putfield 95, 3) := by decide +kernel
theorem dX11_feed_114 : decode cX11_feed 114 = .ok (.iinc 6 1, 3) := by decide +kernel
theorem dX11_feed_117 : decode cX11_feed 117 = .ok (.goto (-94), 3) := by decide +kernel
theorem dX11_feed_120 : decode cX11_feed 120 = .ok (.aload_n 0, 1) := by decide +kernel
theorem dX11_feed_121 : decode cX11_feed 121 = .ok (.getfield 95, 3) := by decide +kernel
theorem dX11_feed_124 : decode cX11_feed 124 = .ok (.ireturn, 1) := by decide +kernel
theorem dX11_see_0 : decode cX11_see 0 = .ok (.iload_n 1, 1) := by decide +kernel
theorem dX11_see_1 : decode cX11_see 1 = .ok (.aload_n 0, 1) := by decide +kernel
theorem dX11_see_2 : decode cX11_see 2 = .ok (.getfield 98, 3) := by decide +kernel
theorem dX11_see_5 : decode cX11_see 5 = .ok (.if_icmp .ge 12, 3) := by decide +kernel
theorem dX11_see_8 : decode cX11_see 8 = .ok (.aload_n 0, 1) := by decide +kernel
theorem dX11_see_9 : decode cX11_see 9 = .ok (.getfield 26, 3) := by decide +kernel
theorem dX11_see_12 : decode cX11_see 12 = .ok (.iload_n 1, 1) := by decide +kernel
theorem dX11_see_13 : decode cX11_see 13 = .ok (.iaload, 1) := by decide +kernel
theorem dX11_see_14 : decode cX11_see 14 = .ok (.goto 4, 3) := by decide +kernel
theorem dX11_see_17 : decode cX11_see 17 = .ok (.iconst 0, 1) := by decide +kernel
theorem dX11_see_18 : decode cX11_see 18 = .ok (.ireturn, 1) := by decide +kernel
theorem dX11_isLetter_0 : decode cX11_isLetter 0 = .ok (.iload_n 0, 1) := by decide +kernel
theorem dX11_isLetter_1 : decode cX11_isLetter 1 = .ok (.bipush 97, 2) := by decide +kernel
theorem dX11_isLetter_3 : decode cX11_isLetter 3 = .ok (.if_icmp .lt 13, 3) := by decide +kernel
theorem dX11_isLetter_6 : decode cX11_isLetter 6 = .ok (.iload_n 0, 1) := by decide +kernel
theorem dX11_isLetter_7 : decode cX11_isLetter 7 = .ok (.bipush 122, 2) := by decide +kernel
theorem dX11_isLetter_9 : decode cX11_isLetter 9 = .ok (.if_icmp .gt 7, 3) := by decide +kernel
theorem dX11_isLetter_12 : decode cX11_isLetter 12 = .ok (.iconst 1, 1) := by decide +kernel
theorem dX11_isLetter_13 : decode cX11_isLetter 13 = .ok (.goto 4, 3) := by decide +kernel
theorem dX11_isLetter_16 : decode cX11_isLetter 16 = .ok (.iconst 0, 1) := by decide +kernel
theorem dX11_isLetter_17 : decode cX11_isLetter 17 = .ok (.ireturn, 1) := by decide +kernel
theorem dX11_isDigit_0 : decode cX11_isDigit 0 = .ok (.iload_n 0, 1) := by decide +kernel
theorem dX11_isDigit_1 : decode cX11_isDigit 1 = .ok (.bipush 48, 2) := by decide +kernel
theorem dX11_isDigit_3 : decode cX11_isDigit 3 = .ok (.if_icmp .lt 13, 3) := by decide +kernel
theorem dX11_isDigit_6 : decode cX11_isDigit 6 = .ok (.iload_n 0, 1) := by decide +kernel
theorem dX11_isDigit_7 : decode cX11_isDigit 7 = .ok (.bipush 57, 2) := by decide +kernel
theorem dX11_isDigit_9 : decode cX11_isDigit 9 = .ok (.if_icmp .gt 7, 3) := by decide +kernel
theorem dX11_isDigit_12 : decode cX11_isDigit 12 = .ok (.iconst 1, 1) := by decide +kernel
theorem dX11_isDigit_13 : decode cX11_isDigit 13 = .ok (.goto 4, 3) := by decide +kernel
theorem dX11_isDigit_16 : decode cX11_isDigit 16 = .ok (.iconst 0, 1) := by decide +kernel
theorem dX11_isDigit_17 : decode cX11_isDigit 17 = .ok (.ireturn, 1) := by decide +kernel
theorem dX11_isMark_0 : decode cX11_isMark 0 = .ok (.iload_n 0, 1) := by decide +kernel
theorem dX11_isMark_1 : decode cX11_isMark 1 = .ok (.bipush 59, 2) := by decide +kernel
theorem dX11_isMark_3 : decode cX11_isMark 3 = .ok (.if_icmp .eq 45, 3) := by decide +kernel
theorem dX11_isMark_6 : decode cX11_isMark 6 = .ok (.iload_n 0, 1) := by decide +kernel
theorem dX11_isMark_7 : decode cX11_isMark 7 = .ok (.bipush 40, 2) := by decide +kernel
theorem dX11_isMark_9 : decode cX11_isMark 9 = .ok (.if_icmp .eq 39, 3) := by decide +kernel
theorem dX11_isMark_12 : decode cX11_isMark 12 = .ok (.iload_n 0, 1) := by decide +kernel
theorem dX11_isMark_13 : decode cX11_isMark 13 = .ok (.bipush 41, 2) := by decide +kernel
theorem dX11_isMark_15 : decode cX11_isMark 15 = .ok (.if_icmp .eq 33, 3) := by decide +kernel
theorem dX11_isMark_18 : decode cX11_isMark 18 = .ok (.iload_n 0, 1) := by decide +kernel
theorem dX11_isMark_19 : decode cX11_isMark 19 = .ok (.bipush 43, 2) := by decide +kernel
theorem dX11_isMark_21 : decode cX11_isMark 21 = .ok (.if_icmp .eq 27, 3) := by decide +kernel
theorem dX11_isMark_24 : decode cX11_isMark 24 = .ok (.iload_n 0, 1) := by decide +kernel
theorem dX11_isMark_25 : decode cX11_isMark 25 = .ok (.bipush 45, 2) := by decide +kernel
theorem dX11_isMark_27 : decode cX11_isMark 27 = .ok (.if_icmp .eq 21, 3) := by decide +kernel
theorem dX11_isMark_30 : decode cX11_isMark 30 = .ok (.iload_n 0, 1) := by decide +kernel
theorem dX11_isMark_31 : decode cX11_isMark 31 = .ok (.bipush 42, 2) := by decide +kernel
theorem dX11_isMark_33 : decode cX11_isMark 33 = .ok (.if_icmp .eq 15, 3) := by decide +kernel
theorem dX11_isMark_36 : decode cX11_isMark 36 = .ok (.iload_n 0, 1) := by decide +kernel
theorem dX11_isMark_37 : decode cX11_isMark 37 = .ok (.bipush 47, 2) := by decide +kernel
theorem dX11_isMark_39 : decode cX11_isMark 39 = .ok (.if_icmp .eq 9, 3) := by decide +kernel
theorem dX11_isMark_42 : decode cX11_isMark 42 = .ok (.iload_n 0, 1) := by decide +kernel
theorem dX11_isMark_43 : decode cX11_isMark 43 = .ok (.bipush 37, 2) := by decide +kernel
theorem dX11_isMark_45 : decode cX11_isMark 45 = .ok (.if_icmp .ne 7, 3) := by decide +kernel
theorem dX11_isMark_48 : decode cX11_isMark 48 = .ok (.iconst 1, 1) := by decide +kernel
theorem dX11_isMark_49 : decode cX11_isMark 49 = .ok (.goto 4, 3) := by decide +kernel
theorem dX11_isMark_52 : decode cX11_isMark 52 = .ok (.iconst 0, 1) := by decide +kernel
theorem dX11_isMark_53 : decode cX11_isMark 53 = .ok (.ireturn, 1) := by decide +kernel
theorem dX11_reads_0 : decode cX11_reads 0 = .ok (.aload_n 0, 1) := by decide +kernel
theorem dX11_reads_1 : decode cX11_reads 1 = .ok (.getfield 101, 3) := by decide +kernel
theorem dX11_reads_4 : decode cX11_reads 4 = .ok (.aload_n 0, 1) := by decide +kernel
theorem dX11_reads_5 : decode cX11_reads 5 = .ok (.getfield 98, 3) := by decide +kernel
theorem dX11_reads_8 : decode cX11_reads 8 = .ok (.if_icmp .ge 44, 3) := by decide +kernel
theorem dX11_reads_11 : decode cX11_reads 11 = .ok (.aload_n 0, 1) := by decide +kernel
theorem dX11_reads_12 : decode cX11_reads 12 = .ok (.getfield 26, 3) := by decide +kernel
theorem dX11_reads_15 : decode cX11_reads 15 = .ok (.aload_n 0, 1) := by decide +kernel
theorem dX11_reads_16 : decode cX11_reads 16 = .ok (.getfield 101, 3) := by decide +kernel
theorem dX11_reads_19 : decode cX11_reads 19 = .ok (.iaload, 1) := by decide +kernel
theorem dX11_reads_20 : decode cX11_reads 20 = .ok (.bipush 32, 2) := by decide +kernel
theorem dX11_reads_22 : decode cX11_reads 22 = .ok (.if_icmp .eq 17, 3) := by decide +kernel
theorem dX11_reads_25 : decode cX11_reads 25 = .ok (.aload_n 0, 1) := by decide +kernel
theorem dX11_reads_26 : decode cX11_reads 26 = .ok (.getfield 26, 3) := by decide +kernel
theorem dX11_reads_29 : decode cX11_reads 29 = .ok (.aload_n 0, 1) := by decide +kernel
theorem dX11_reads_30 : decode cX11_reads 30 = .ok (.getfield 101, 3) := by decide +kernel
theorem dX11_reads_33 : decode cX11_reads 33 = .ok (.iaload, 1) := by decide +kernel
theorem dX11_reads_34 : decode cX11_reads 34 = .ok (.bipush 10, 2) := by decide +kernel
theorem dX11_reads_36 : decode cX11_reads 36 = .ok (.if_icmp .ne 16, 3) := by decide +kernel
theorem dX11_reads_39 : decode cX11_reads 39 = .ok (.aload_n 0, 1) := by decide +kernel
theorem dX11_reads_40 : decode cX11_reads 40 = .ok (.dup, 1) := by decide +kernel
theorem dX11_reads_41 : decode cX11_reads 41 = .ok (.getfield 101, 3) := by decide +kernel
theorem dX11_reads_44 : decode cX11_reads 44 = .ok (.iconst 1, 1) := by decide +kernel
theorem dX11_reads_45 : decode cX11_reads 45 = .ok (.iadd, 1) := by decide +kernel
theorem dX11_reads_46 : decode cX11_reads 46 = .ok (.putfield 101, 3) := by decide +kernel
theorem dX11_reads_49 : decode cX11_reads 49 = .ok (.goto (-49), 3) := by decide +kernel
theorem dX11_reads_52 : decode cX11_reads 52 = .ok (.aload_n 0, 1) := by decide +kernel
theorem dX11_reads_53 : decode cX11_reads 53 = .ok (.aload_n 0, 1) := by decide +kernel
theorem dX11_reads_54 : decode cX11_reads 54 = .ok (.getfield 101, 3) := by decide +kernel
theorem dX11_reads_57 : decode cX11_reads 57 = .ok (.putfield 104, 3) := by decide +kernel
theorem dX11_reads_60 : decode cX11_reads 60 = .ok (.aload_n 0, 1) := by decide +kernel
theorem dX11_reads_61 : decode cX11_reads 61 = .ok (.getfield 101, 3) := by decide +kernel
theorem dX11_reads_64 : decode cX11_reads 64 = .ok (.aload_n 0, 1) := by decide +kernel
theorem dX11_reads_65 : decode cX11_reads 65 = .ok (.getfield 98, 3) := by decide +kernel
theorem dX11_reads_68 : decode cX11_reads 68 = .ok (.if_icmp .lt 9, 3) := by decide +kernel
theorem dX11_reads_71 : decode cX11_reads 71 = .ok (.aload_n 0, 1) := by decide +kernel
theorem dX11_reads_72 : decode cX11_reads 72 = .ok (.iconst 0, 1) := by decide +kernel
theorem dX11_reads_73 : decode cX11_reads 73 = .ok (.putfield 107, 3) := by decide +kernel
theorem dX11_reads_76 : decode cX11_reads 76 = .ok (.return_, 1) := by decide +kernel
theorem dX11_reads_77 : decode cX11_reads 77 = .ok (.aload_n 0, 1) := by decide +kernel
theorem dX11_reads_78 : decode cX11_reads 78 = .ok (.getfield 26, 3) := by decide +kernel
theorem dX11_reads_81 : decode cX11_reads 81 = .ok (.aload_n 0, 1) := by decide +kernel
theorem dX11_reads_82 : decode cX11_reads 82 = .ok (.getfield 101, 3) := by decide +kernel
theorem dX11_reads_85 : decode cX11_reads 85 = .ok (.iaload, 1) := by decide +kernel
theorem dX11_reads_86 : decode cX11_reads 86 = .ok (.istore_n 1, 1) := by decide +kernel
theorem dX11_reads_87 : decode cX11_reads 87 = .ok (.iload_n 1, 1) := by decide +kernel
theorem dX11_reads_88 : decode cX11_reads 88 = .ok (.invokestatic 110, 3) := by decide +kernel
theorem dX11_reads_91 : decode cX11_reads 91 = .ok (.ifCond .eq 38, 3) := by decide +kernel
theorem dX11_reads_94 : decode cX11_reads 94 = .ok (.aload_n 0, 1) := by decide +kernel
theorem dX11_reads_95 : decode cX11_reads 95 = .ok (.aload_n 0, 1) := by decide +kernel
theorem dX11_reads_96 : decode cX11_reads 96 = .ok (.getfield 101, 3) := by decide +kernel
theorem dX11_reads_99 : decode cX11_reads 99 = .ok (.invokevirtual 114, 3) := by decide +kernel
theorem dX11_reads_102 : decode cX11_reads 102 = .ok (.invokestatic 110, 3) := by decide +kernel
theorem dX11_reads_105 : decode cX11_reads 105 = .ok (.ifCond .eq 16, 3) := by decide +kernel
theorem dX11_reads_108 : decode cX11_reads 108 = .ok (.aload_n 0, 1) := by decide +kernel
theorem dX11_reads_109 : decode cX11_reads 109 = .ok (.dup, 1) := by decide +kernel
theorem dX11_reads_110 : decode cX11_reads 110 = .ok (.getfield 101, 3) := by decide +kernel
theorem dX11_reads_113 : decode cX11_reads 113 = .ok (.iconst 1, 1) := by decide +kernel
theorem dX11_reads_114 : decode cX11_reads 114 = .ok (.iadd, 1) := by decide +kernel
theorem dX11_reads_115 : decode cX11_reads 115 = .ok (.putfield 101, 3) := by decide +kernel
theorem dX11_reads_118 : decode cX11_reads 118 = .ok (.goto (-24), 3) := by decide +kernel
theorem dX11_reads_121 : decode cX11_reads 121 = .ok (.aload_n 0, 1) := by decide +kernel
theorem dX11_reads_122 : decode cX11_reads 122 = .ok (.iconst 1, 1) := by decide +kernel
theorem dX11_reads_123 : decode cX11_reads 123 = .ok (.putfield 107, 3) := by decide +kernel
theorem dX11_reads_126 : decode cX11_reads 126 = .ok (.goto 142, 3) := by decide +kernel
theorem dX11_reads_129 : decode cX11_reads 129 = .ok (.iload_n 1, 1) := by decide +kernel
theorem dX11_reads_130 : decode cX11_reads 130 = .ok (.invokestatic 118, 3) := by decide +kernel
theorem dX11_reads_133 : decode cX11_reads 133 = .ok (.ifCond .eq 104, 3) := by decide +kernel
theorem dX11_reads_136 : decode cX11_reads 136 = .ok (.aload_n 0, 1) := by decide +kernel
theorem dX11_reads_137 : decode cX11_reads 137 = .ok (.iconst 0, 1) := by decide +kernel
theorem dX11_reads_138 : decode cX11_reads 138 = .ok (.putfield 121, 3) := by decide +kernel
theorem dX11_reads_141 : decode cX11_reads 141 = .ok (.aload_n 0, 1) := by decide +kernel
theorem dX11_reads_142 : decode cX11_reads 142 = .ok (.aload_n 0, 1) := by decide +kernel
theorem dX11_reads_143 : decode cX11_reads 143 = .ok (.getfield 101, 3) := by decide +kernel
theorem dX11_reads_146 : decode cX11_reads 146 = .ok (.invokevirtual 114, 3) := by decide +kernel
theorem dX11_reads_149 : decode cX11_reads 149 = .ok (.invokestatic 118, 3) := by decide +kernel
theorem dX11_reads_152 : decode cX11_reads 152 = .ok (.ifCond .eq 60, 3) := by decide +kernel
theorem dX11_reads_155 : decode cX11_reads 155 = .ok (.aload_n 0, 1) := by decide +kernel
theorem dX11_reads_156 : decode cX11_reads 156 = .ok (.aload_n 0, 1) := by decide +kernel
theorem dX11_reads_157 : decode cX11_reads 157 = .ok (.getfield 101, 3) := by decide +kernel
theorem dX11_reads_160 : decode cX11_reads 160 = .ok (.aload_n 0, 1) := by decide +kernel
theorem dX11_reads_161 : decode cX11_reads 161 = .ok (.getfield 104, 3) := by decide +kernel
theorem dX11_reads_164 : decode cX11_reads 164 = .ok (.isub, 1) := by decide +kernel
theorem dX11_reads_165 : decode cX11_reads 165 = .ok (.iconst 5, 1) := by decide +kernel
theorem dX11_reads_166 : decode cX11_reads 166 = .ok (.if_icmp .ge 26, 3) := by decide +kernel
theorem dX11_reads_169 : decode cX11_reads 169 = .ok (.bipush 10, 2) := by decide +kernel
theorem dX11_reads_171 : decode cX11_reads 171 = .ok (.aload_n 0, 1) := by decide +kernel
theorem dX11_reads_172 : decode cX11_reads 172 = .ok (.getfield 121, 3) := by decide +kernel
theorem dX11_reads_175 : decode cX11_reads 175 = .ok (.imul, 1) := by decide +kernel
theorem dX11_reads_176 : decode cX11_reads 176 = .ok (.aload_n 0, 1) := by decide +kernel
theorem dX11_reads_177 : decode cX11_reads 177 = .ok (.getfield 26, 3) := by decide +kernel
theorem dX11_reads_180 : decode cX11_reads 180 = .ok (.aload_n 0, 1) := by decide +kernel
theorem dX11_reads_181 : decode cX11_reads 181 = .ok (.getfield 101, 3) := by decide +kernel
theorem dX11_reads_184 : decode cX11_reads 184 = .ok (.iaload, 1) := by decide +kernel
theorem dX11_reads_185 : decode cX11_reads 185 = .ok (.iadd, 1) := by decide +kernel
theorem dX11_reads_186 : decode cX11_reads 186 = .ok (.bipush 48, 2) := by decide +kernel
theorem dX11_reads_188 : decode cX11_reads 188 = .ok (.isub, 1) := by decide +kernel
theorem dX11_reads_189 : decode cX11_reads 189 = .ok (.goto 7, 3) := by decide +kernel
theorem dX11_reads_192 : decode cX11_reads 192 = .ok (.aload_n 0, 1) := by decide +kernel
theorem dX11_reads_193 : decode cX11_reads 193 = .ok (.getfield 121, 3) := by decide +kernel
theorem dX11_reads_196 : decode cX11_reads 196 = .ok (.putfield 121, 3) := by decide +kernel
theorem dX11_reads_199 : decode cX11_reads 199 = .ok (.aload_n 0, 1) := by decide +kernel
theorem dX11_reads_200 : decode cX11_reads 200 = .ok (.dup, 1) := by decide +kernel
theorem dX11_reads_201 : decode cX11_reads 201 = .ok (.getfield 101, 3) := by decide +kernel
theorem dX11_reads_204 : decode cX11_reads 204 = .ok (.iconst 1, 1) := by decide +kernel
theorem dX11_reads_205 : decode cX11_reads 205 = .ok (.iadd, 1) := by decide +kernel
theorem dX11_reads_206 : decode cX11_reads 206 = .ok (.putfield 101, 3) := by decide +kernel
theorem dX11_reads_209 : decode cX11_reads 209 = .ok (.goto (-68), 3) := by decide +kernel
theorem dX11_reads_212 : decode cX11_reads 212 = .ok (.aload_n 0, 1) := by decide +kernel
theorem dX11_reads_213 : decode cX11_reads 213 = .ok (.aload_n 0, 1) := by decide +kernel
theorem dX11_reads_214 : decode cX11_reads 214 = .ok (.getfield 101, 3) := by decide +kernel
theorem dX11_reads_217 : decode cX11_reads 217 = .ok (.aload_n 0, 1) := by decide +kernel
theorem dX11_reads_218 : decode cX11_reads 218 = .ok (.getfield 104, 3) := by decide +kernel
theorem dX11_reads_221 : decode cX11_reads 221 = .ok (.isub, 1) := by decide +kernel
theorem dX11_reads_222 : decode cX11_reads 222 = .ok (.iconst 5, 1) := by decide +kernel
theorem dX11_reads_223 : decode cX11_reads 223 = .ok (.if_icmp .le 7, 3) := by decide +kernel
theorem dX11_reads_226 : decode cX11_reads 226 = .ok (.iconst 4, 1) := by decide +kernel
theorem dX11_reads_227 : decode cX11_reads 227 = .ok (.goto 4, 3) := by decide +kernel
theorem dX11_reads_230 : decode cX11_reads 230 = .ok (.iconst 2, 1) := by decide +kernel
theorem dX11_reads_231 : decode cX11_reads 231 = .ok (.putfield 107, 3) := by decide +kernel
theorem dX11_reads_234 : decode cX11_reads 234 = .ok (.goto 34, 3) := by decide +kernel
theorem dX11_reads_237 : decode cX11_reads 237 = .ok (.aload_n 0, 1) := by decide +kernel
theorem dX11_reads_238 : decode cX11_reads 238 = .ok (.iload_n 1, 1) := by decide +kernel
theorem dX11_reads_239 : decode cX11_reads 239 = .ok (.invokestatic 124, 3) := by decide +kernel
theorem dX11_reads_242 : decode cX11_reads 242 = .ok (.ifCond .eq 7, 3) := by decide +kernel
theorem dX11_reads_245 : decode cX11_reads 245 = .ok (.iconst 3, 1) := by decide +kernel
theorem dX11_reads_246 : decode cX11_reads 246 = .ok (.goto 4, 3) := by decide +kernel
theorem dX11_reads_249 : decode cX11_reads 249 = .ok (.iconst 4, 1) := by decide +kernel
theorem dX11_reads_250 : decode cX11_reads 250 = .ok (.putfield 107, 3) := by decide +kernel
theorem dX11_reads_253 : decode cX11_reads 253 = .ok (.aload_n 0, 1) := by decide +kernel
theorem dX11_reads_254 : decode cX11_reads 254 = .ok (.iload_n 1, 1) := by decide +kernel
theorem dX11_reads_255 : decode cX11_reads 255 = .ok (.putfield 121, 3) := by decide +kernel
theorem dX11_reads_258 : decode cX11_reads 258 = .ok (.aload_n 0, 1) := by decide +kernel
theorem dX11_reads_259 : decode cX11_reads 259 = .ok (.dup, 1) := by decide +kernel
theorem dX11_reads_260 : decode cX11_reads 260 = .ok (.getfield 101, 3) := by decide +kernel
theorem dX11_reads_263 : decode cX11_reads 263 = .ok (.iconst 1, 1) := by decide +kernel
theorem dX11_reads_264 : decode cX11_reads 264 = .ok (.iadd, 1) := by decide +kernel
theorem dX11_reads_265 : decode cX11_reads 265 = .ok (.putfield 101, 3) := by decide +kernel
theorem dX11_reads_268 : decode cX11_reads 268 = .ok (.return_, 1) := by decide +kernel
theorem dX11_isSign_0 : decode cX11_isSign 0 = .ok (.aload_n 0, 1) := by decide +kernel
theorem dX11_isSign_1 : decode cX11_isSign 1 = .ok (.getfield 127, 3) := by decide +kernel
theorem dX11_isSign_4 : decode cX11_isSign 4 = .ok (.ifCond .ne 23, 3) := by decide +kernel
theorem dX11_isSign_7 : decode cX11_isSign 7 = .ok (.aload_n 0, 1) := by decide +kernel
theorem dX11_isSign_8 : decode cX11_isSign 8 = .ok (.getfield 107, 3) := by decide +kernel
theorem dX11_isSign_11 : decode cX11_isSign 11 = .ok (.iconst 3, 1) := by decide +kernel
theorem dX11_isSign_12 : decode cX11_isSign 12 = .ok (.if_icmp .ne 15, 3) := by decide +kernel
theorem dX11_isSign_15 : decode cX11_isSign 15 = .ok (.aload_n 0, 1) := by decide +kernel
theorem dX11_isSign_16 : decode cX11_isSign 16 = .ok (.getfield 121, 3) := by decide +kernel
theorem dX11_isSign_19 : decode cX11_isSign 19 = .ok (.iload_n 1, 1) := by decide +kernel
theorem dX11_isSign_20 : decode cX11_isSign 20 = .ok (.if_icmp .ne 7, 3) := by decide +kernel
theorem dX11_isSign_23 : decode cX11_isSign 23 = .ok (.iconst 1, 1) := by decide +kernel
theorem dX11_isSign_24 : decode cX11_isSign 24 = .ok (.goto 4, 3) := by decide +kernel
theorem dX11_isSign_27 : decode cX11_isSign 27 = .ok (.iconst 0, 1) := by decide +kernel
theorem dX11_isSign_28 : decode cX11_isSign 28 = .ok (.ireturn, 1) := by decide +kernel
theorem dX11_tookSign_0 : decode cX11_tookSign 0 = .ok (.aload_n 0, 1) := by decide +kernel
theorem dX11_tookSign_1 : decode cX11_tookSign 1 = .ok (.iload_n 1, 1) := by decide +kernel
theorem dX11_tookSign_2 : decode cX11_tookSign 2 = .ok (.invokevirtual 130, 3) := by decide +kernel
theorem dX11_tookSign_5 : decode cX11_tookSign 5 = .ok (.istore_n 2, 1) := by decide +kernel
theorem dX11_tookSign_6 : decode cX11_tookSign 6 = .ok (.iload_n 2, 1) := by decide +kernel
theorem dX11_tookSign_7 : decode cX11_tookSign 7 = .ok (.ifCond .eq 7, 3) := by decide +kernel
theorem dX11_tookSign_10 : decode cX11_tookSign 10 = .ok (.aload_n 0, 1) := by decide +kernel
theorem dX11_tookSign_11 : decode cX11_tookSign 11 = .ok (.invokevirtual 133, 3) := by decide +kernel
theorem dX11_tookSign_14 : decode cX11_tookSign 14 = .ok (.iload_n 2, 1) := by decide +kernel
theorem dX11_tookSign_15 : decode cX11_tookSign 15 = .ok (.ireturn, 1) := by decide +kernel
theorem dX11_blames_0 : decode cX11_blames 0 = .ok (.aload_n 0, 1) := by decide +kernel
theorem dX11_blames_1 : decode cX11_blames 1 = .ok (.getfield 127, 3) := by decide +kernel
theorem dX11_blames_4 : decode cX11_blames 4 = .ok (.ifCond .eq 4, 3) := by decide +kernel
theorem dX11_blames_7 : decode cX11_blames 7 = .ok (.return_, 1) := by decide +kernel
theorem dX11_blames_8 : decode cX11_blames 8 = .ok (.aload_n 0, 1) := by decide +kernel
theorem dX11_blames_9 : decode cX11_blames 9 = .ok (.aload_n 0, 1) := by decide +kernel
theorem dX11_blames_10 : decode cX11_blames 10 = .ok (.getfield 107, 3) := by decide +kernel
theorem dX11_blames_13 : decode cX11_blames 13 = .ok (.iconst 4, 1) := by decide +kernel
theorem dX11_blames_14 : decode cX11_blames 14 = .ok (.if_icmp .ne 7, 3) := by decide +kernel
theorem dX11_blames_17 : decode cX11_blames 17 = .ok (.iconst 1, 1) := by decide +kernel
theorem dX11_blames_18 : decode cX11_blames 18 = .ok (.goto 4, 3) := by decide +kernel
theorem dX11_blames_21 : decode cX11_blames 21 = .ok (.iload_n 1, 1) := by decide +kernel
theorem dX11_blames_22 : decode cX11_blames 22 = .ok (.putfield 127, 3) := by decide +kernel
theorem dX11_blames_25 : decode cX11_blames 25 = .ok (.aload_n 0, 1) := by decide +kernel
theorem dX11_blames_26 : decode cX11_blames 26 = .ok (.aload_n 0, 1) := by decide +kernel
theorem dX11_blames_27 : decode cX11_blames 27 = .ok (.getfield 104, 3) := by decide +kernel
theorem dX11_blames_30 : decode cX11_blames 30 = .ok (.putfield 136, 3) := by decide +kernel
theorem dX11_blames_33 : decode cX11_blames 33 = .ok (.return_, 1) := by decide +kernel
theorem dX11_isWord_0 : decode cX11_isWord 0 = .ok (.aload_n 0, 1) := by decide +kernel
theorem dX11_isWord_1 : decode cX11_isWord 1 = .ok (.getfield 127, 3) := by decide +kernel
theorem dX11_isWord_4 : decode cX11_isWord 4 = .ok (.ifCond .ne 31, 3) := by decide +kernel
theorem dX11_isWord_7 : decode cX11_isWord 7 = .ok (.aload_n 0, 1) := by decide +kernel
theorem dX11_isWord_8 : decode cX11_isWord 8 = .ok (.getfield 107, 3) := by decide +kernel
theorem dX11_isWord_11 : decode cX11_isWord 11 = .ok (.iconst 1, 1) := by decide +kernel
theorem dX11_isWord_12 : decode cX11_isWord 12 = .ok (.if_icmp .ne 23, 3) := by decide +kernel
theorem dX11_isWord_15 : decode cX11_isWord 15 = .ok (.aload_n 0, 1) := by decide +kernel
theorem dX11_isWord_16 : decode cX11_isWord 16 = .ok (.getfield 101, 3) := by decide +kernel
theorem dX11_isWord_19 : decode cX11_isWord 19 = .ok (.aload_n 0, 1) := by decide +kernel
theorem dX11_isWord_20 : decode cX11_isWord 20 = .ok (.getfield 104, 3) := by decide +kernel
theorem dX11_isWord_23 : decode cX11_isWord 23 = .ok (.isub, 1) := by decide +kernel
theorem dX11_isWord_24 : decode cX11_isWord 24 = .ok (.aload_n 1, 1) := by decide +kernel
theorem dX11_isWord_25 : decode cX11_isWord 25 = .ok (.invokevirtual 139, 3) := by decide +kernel
theorem dX11_isWord_28 : decode cX11_isWord 28 = .ok (.if_icmp .ne 7, 3) := by decide +kernel
theorem dX11_isWord_31 : decode cX11_isWord 31 = .ok (.iconst 1, 1) := by decide +kernel
theorem dX11_isWord_32 : decode cX11_isWord 32 = .ok (.goto 4, 3) := by decide +kernel
theorem dX11_isWord_35 : decode cX11_isWord 35 = .ok (.iconst 0, 1) := by decide +kernel
theorem dX11_isWord_36 : decode cX11_isWord 36 = .ok (.istore_n 2, 1) := by decide +kernel
theorem dX11_isWord_37 : decode cX11_isWord 37 = .ok (.iconst 0, 1) := by decide +kernel
theorem dX11_isWord_38 : decode cX11_isWord 38 = .ok (.istore_n 3, 1) := by decide +kernel
theorem dX11_isWord_39 : decode cX11_isWord 39 = .ok (.iload_n 2, 1) := by decide +kernel
theorem dX11_isWord_40 : decode cX11_isWord 40 = .ok (.ifCond .eq 42, 3) := by decide +kernel
theorem dX11_isWord_43 : decode cX11_isWord 43 = .ok (.iload_n 3, 1) := by decide +kernel
theorem dX11_isWord_44 : decode cX11_isWord 44 = .ok (.aload_n 1, 1) := by decide +kernel
theorem dX11_isWord_45 : decode cX11_isWord 45 = .ok (.invokevirtual 139, 3) := by decide +kernel
theorem dX11_isWord_48 : decode cX11_isWord 48 = .ok (.if_icmp .ge 34, 3) := by decide +kernel
theorem dX11_isWord_51 : decode cX11_isWord 51 = .ok (.aload_n 0, 1) := by decide +kernel
theorem dX11_isWord_52 : decode cX11_isWord 52 = .ok (.getfield 26, 3) := by decide +kernel
theorem dX11_isWord_55 : decode cX11_isWord 55 = .ok (.aload_n 0, 1) := by decide +kernel
theorem dX11_isWord_56 : decode cX11_isWord 56 = .ok (.getfield 104, 3) := by decide +kernel
theorem dX11_isWord_59 : decode cX11_isWord 59 = .ok (.iload_n 3, 1) := by decide +kernel
theorem dX11_isWord_60 : decode cX11_isWord 60 = .ok (.iadd, 1) := by decide +kernel
theorem dX11_isWord_61 : decode cX11_isWord 61 = .ok (.iaload, 1) := by decide +kernel
theorem dX11_isWord_62 : decode cX11_isWord 62 = .ok (.aload_n 1, 1) := by decide +kernel
theorem dX11_isWord_63 : decode cX11_isWord 63 = .ok (.iload_n 3, 1) := by decide +kernel
theorem dX11_isWord_64 : decode cX11_isWord 64 = .ok (.invokevirtual 145, 3) := by decide +kernel
theorem dX11_isWord_67 : decode cX11_isWord 67 = .ok (.if_icmp .ne 7, 3) := by decide +kernel
theorem dX11_isWord_70 : decode cX11_isWord 70 = .ok (.iconst 1, 1) := by decide +kernel
theorem dX11_isWord_71 : decode cX11_isWord 71 = .ok (.goto 4, 3) := by decide +kernel
theorem dX11_isWord_74 : decode cX11_isWord 74 = .ok (.iconst 0, 1) := by decide +kernel
theorem dX11_isWord_75 : decode cX11_isWord 75 = .ok (.istore_n 2, 1) := by decide +kernel
theorem dX11_isWord_76 : decode cX11_isWord 76 = .ok (.iinc 3 1, 3) := by decide +kernel
theorem dX11_isWord_79 : decode cX11_isWord 79 = .ok (.goto (-40), 3) := by decide +kernel
theorem dX11_isWord_82 : decode cX11_isWord 82 = .ok (.iload_n 2, 1) := by decide +kernel
theorem dX11_isWord_83 : decode cX11_isWord 83 = .ok (.ireturn, 1) := by decide +kernel
theorem dX11_took_0 : decode cX11_took 0 = .ok (.aload_n 0, 1) := by decide +kernel
theorem dX11_took_1 : decode cX11_took 1 = .ok (.aload_n 1, 1) := by decide +kernel
theorem dX11_took_2 : decode cX11_took 2 = .ok (.invokevirtual 149, 3) := by decide +kernel
theorem dX11_took_5 : decode cX11_took 5 = .ok (.istore_n 2, 1) := by decide +kernel
theorem dX11_took_6 : decode cX11_took 6 = .ok (.iload_n 2, 1) := by decide +kernel
theorem dX11_took_7 : decode cX11_took 7 = .ok (.ifCond .eq 7, 3) := by decide +kernel
theorem dX11_took_10 : decode cX11_took 10 = .ok (.aload_n 0, 1) := by decide +kernel
theorem dX11_took_11 : decode cX11_took 11 = .ok (.invokevirtual 133, 3) := by decide +kernel
theorem dX11_took_14 : decode cX11_took 14 = .ok (.iload_n 2, 1) := by decide +kernel
theorem dX11_took_15 : decode cX11_took 15 = .ok (.ireturn, 1) := by decide +kernel
theorem dX11_number_0 : decode cX11_number 0 = .ok (.aload_n 0, 1) := by decide +kernel
theorem dX11_number_1 : decode cX11_number 1 = .ok (.getfield 107, 3) := by decide +kernel
theorem dX11_number_4 : decode cX11_number 4 = .ok (.iconst 2, 1) := by decide +kernel
theorem dX11_number_5 : decode cX11_number 5 = .ok (.if_icmp .eq 11, 3) := by decide +kernel
theorem dX11_number_8 : decode cX11_number 8 = .ok (.aload_n 0, 1) := by decide +kernel
theorem dX11_number_9 : decode cX11_number 9 = .ok (.iconst 2, 1) := by decide +kernel
theorem dX11_number_10 : decode cX11_number 10 = .ok (.invokevirtual 153, 3) := by decide +kernel
theorem dX11_number_13 : decode cX11_number 13 = .ok (.goto 23, 3) := by decide +kernel
theorem dX11_number_16 : decode cX11_number 16 = .ok (.aload_n 0, 1) := by decide +kernel
theorem dX11_number_17 : decode cX11_number 17 = .ok (.getfield 121, 3) := by decide +kernel
theorem dX11_number_20 : decode cX11_number 20 = .ok (.i2l, 1) := by decide +kernel
theorem dX11_number_21 : decode cX11_number 21 = .ok (.iload_n 1, 1) := by decide +kernel
theorem dX11_number_22 : decode cX11_number 22 = .ok (.i2l, 1) := by decide +kernel
theorem dX11_number_23 : decode cX11_number 23 = .ok (.iload_n 2, 1) := by decide +kernel
theorem dX11_number_24 : decode cX11_number 24 = .ok (.i2l, 1) := by decide +kernel
theorem dX11_number_25 : decode cX11_number 25 = .ok (.invokestatic 157, 3) := by decide +kernel
theorem dX11_number_28 : decode cX11_number 28 = .ok (.ifCond .ne 8, 3) := by decide +kernel
theorem dX11_number_31 : decode cX11_number 31 = .ok (.aload_n 0, 1) := by decide +kernel
theorem dX11_number_32 : decode cX11_number 32 = .ok (.iconst 3, 1) := by decide +kernel
theorem dX11_number_33 : decode cX11_number 33 = .ok (.invokevirtual 153, 3) := by decide +kernel
theorem dX11_number_36 : decode cX11_number 36 = .ok (.aload_n 0, 1) := by decide +kernel
theorem dX11_number_37 : decode cX11_number 37 = .ok (.getfield 121, 3) := by decide +kernel
theorem dX11_number_40 : decode cX11_number 40 = .ok (.istore_n 3, 1) := by decide +kernel
theorem dX11_number_41 : decode cX11_number 41 = .ok (.aload_n 0, 1) := by decide +kernel
theorem dX11_number_42 : decode cX11_number 42 = .ok (.getfield 127, 3) := by decide +kernel
theorem dX11_number_45 : decode cX11_number 45 = .ok (.ifCond .ne 7, 3) := by decide +kernel
theorem dX11_number_48 : decode cX11_number 48 = .ok (.aload_n 0, 1) := by decide +kernel
theorem dX11_number_49 : decode cX11_number 49 = .ok (.invokevirtual 133, 3) := by decide +kernel
theorem dX11_number_52 : decode cX11_number 52 = .ok (.aload_n 0, 1) := by decide +kernel
theorem dX11_number_53 : decode cX11_number 53 = .ok (.getfield 127, 3) := by decide +kernel
theorem dX11_number_56 : decode cX11_number 56 = .ok (.ifCond .ne 7, 3) := by decide +kernel
theorem dX11_number_59 : decode cX11_number 59 = .ok (.iload_n 3, 1) := by decide +kernel
theorem dX11_number_60 : decode cX11_number 60 = .ok (.goto 4, 3) := by decide +kernel
theorem dX11_number_63 : decode cX11_number 63 = .ok (.iload_n 1, 1) := by decide +kernel
theorem dX11_number_64 : decode cX11_number 64 = .ok (.ireturn, 1) := by decide +kernel
theorem dX11_code_0 : decode cX11_code 0 = .ok (.aload_n 0, 1) := by decide +kernel
theorem dX11_code_1 : decode cX11_code 1 = .ok (.getfield 127, 3) := by decide +kernel
theorem dX11_code_4 : decode cX11_code 4 = .ok (.ifCond .eq 4, 3) := by decide +kernel
theorem dX11_code_7 : decode cX11_code 7 = .ok (.return_, 1) := by decide +kernel
theorem dX11_code_8 : decode cX11_code 8 = .ok (.aload_n 0, 1) := by decide +kernel
theorem dX11_code_9 : decode cX11_code 9 = .ok (.getfield 13, 3) := by decide +kernel
theorem dX11_code_12 : decode cX11_code 12 = .ok (.bipush 20, 2) := by decide +kernel
theorem dX11_code_14 : decode cX11_code 14 = .ok (.iconst 2, 1) := by decide +kernel
theorem dX11_code_15 : decode cX11_code 15 = .ok (.aload_n 0, 1) := by decide +kernel
theorem dX11_code_16 : decode cX11_code 16 = .ok (.getfield 13, 3) := by decide +kernel
theorem dX11_code_19 : decode cX11_code 19 = .ok (.bipush 18, 2) := by decide +kernel
theorem dX11_code_21 : decode cX11_code 21 = .ok (.iaload, 1) := by decide +kernel
theorem dX11_code_22 : decode cX11_code 22 = .ok (.imul, 1) := by decide +kernel
theorem dX11_code_23 : decode cX11_code 23 = .ok (.iadd, 1) := by decide +kernel
theorem dX11_code_24 : decode cX11_code 24 = .ok (.iload_n 1, 1) := by decide +kernel
theorem dX11_code_25 : decode cX11_code 25 = .ok (.iastore, 1) := by decide +kernel
theorem dX11_code_26 : decode cX11_code 26 = .ok (.aload_n 0, 1) := by decide +kernel
theorem dX11_code_27 : decode cX11_code 27 = .ok (.getfield 13, 3) := by decide +kernel
theorem dX11_code_30 : decode cX11_code 30 = .ok (.bipush 20, 2) := by decide +kernel
theorem dX11_code_32 : decode cX11_code 32 = .ok (.iconst 2, 1) := by decide +kernel
theorem dX11_code_33 : decode cX11_code 33 = .ok (.aload_n 0, 1) := by decide +kernel
theorem dX11_code_34 : decode cX11_code 34 = .ok (.getfield 13, 3) := by decide +kernel
theorem dX11_code_37 : decode cX11_code 37 = .ok (.bipush 18, 2) := by decide +kernel
theorem dX11_code_39 : decode cX11_code 39 = .ok (.iaload, 1) := by decide +kernel
theorem dX11_code_40 : decode cX11_code 40 = .ok (.imul, 1) := by decide +kernel
theorem dX11_code_41 : decode cX11_code 41 = .ok (.iadd, 1) := by decide +kernel
theorem dX11_code_42 : decode cX11_code 42 = .ok (.iconst 1, 1) := by decide +kernel
theorem dX11_code_43 : decode cX11_code 43 = .ok (.iadd, 1) := by decide +kernel
theorem dX11_code_44 : decode cX11_code 44 = .ok (.iload_n 2, 1) := by decide +kernel
theorem dX11_code_45 : decode cX11_code 45 = .ok (.iastore, 1) := by decide +kernel
theorem dX11_code_46 : decode cX11_code 46 = .ok (.aload_n 0, 1) := by decide +kernel
theorem dX11_code_47 : decode cX11_code 47 = .ok (.getfield 13, 3) := by decide +kernel
theorem dX11_code_50 : decode cX11_code 50 = .ok (.bipush 18, 2) := by decide +kernel
theorem dX11_code_52 : decode cX11_code 52 = .ok (.dup2, 1) := by decide +kernel
theorem dX11_code_53 : decode cX11_code 53 = .ok (.iaload, 1) := by decide +kernel
theorem dX11_code_54 : decode cX11_code 54 = .ok (.iconst 1, 1) := by decide +kernel
theorem dX11_code_55 : decode cX11_code 55 = .ok (.iadd, 1) := by decide +kernel
theorem dX11_code_56 : decode cX11_code 56 = .ok (.iastore, 1) := by decide +kernel
theorem dX11_code_57 : decode cX11_code 57 = .ok (.return_, 1) := by decide +kernel
theorem dX11_readSum_0 : decode cX11_readSum 0 = .ok (.aload_n 0, 1) := by decide +kernel
theorem dX11_readSum_1 : decode cX11_readSum 1 = .ok (.invokevirtual 161, 3) := by decide +kernel
theorem dX11_readSum_4 : decode cX11_readSum 4 = .ok (.aload_n 0, 1) := by decide +kernel
theorem dX11_readSum_5 : decode cX11_readSum 5 = .ok (.bipush 43, 2) := by decide +kernel
theorem dX11_readSum_7 : decode cX11_readSum 7 = .ok (.invokevirtual 130, 3) := by decide +kernel
theorem dX11_readSum_10 : decode cX11_readSum 10 = .ok (.ifCond .ne 12, 3) := by decide +kernel
theorem dX11_readSum_13 : decode cX11_readSum 13 = .ok (.aload_n 0, 1) := by decide +kernel
theorem dX11_readSum_14 : decode cX11_readSum 14 = .ok (.bipush 45, 2) := by decide +kernel
theorem dX11_readSum_16 : decode cX11_readSum 16 = .ok (.invokevirtual 130, 3) := by decide +kernel
theorem dX11_readSum_19 : decode cX11_readSum 19 = .ok (.ifCond .eq 25, 3) := by decide +kernel
theorem dX11_readSum_22 : decode cX11_readSum 22 = .ok (.aload_n 0, 1) := by decide +kernel
theorem dX11_readSum_23 : decode cX11_readSum 23 = .ok (.getfield 121, 3) := by decide +kernel
theorem dX11_readSum_26 : decode cX11_readSum 26 = .ok (.istore_n 1, 1) := by decide +kernel
theorem dX11_readSum_27 : decode cX11_readSum 27 = .ok (.aload_n 0, 1) := by decide +kernel
theorem dX11_readSum_28 : decode cX11_readSum 28 = .ok (.invokevirtual 133, 3) := by decide +kernel
theorem dX11_readSum_31 : decode cX11_readSum 31 = .ok (.aload_n 0, 1) := by decide +kernel
theorem dX11_readSum_32 : decode cX11_readSum 32 = .ok (.invokevirtual 161, 3) := by decide +kernel
theorem dX11_readSum_35 : decode cX11_readSum 35 = .ok (.aload_n 0, 1) := by decide +kernel
theorem dX11_readSum_36 : decode cX11_readSum 36 = .ok (.iload_n 1, 1) := by decide +kernel
theorem dX11_readSum_37 : decode cX11_readSum 37 = .ok (.iconst 0, 1) := by decide +kernel
theorem dX11_readSum_38 : decode cX11_readSum 38 = .ok (.invokevirtual 164, 3) := by decide +kernel
theorem dX11_readSum_41 : decode cX11_readSum 41 = .ok (.goto (-37), 3) := by decide +kernel
theorem dX11_readSum_44 : decode cX11_readSum 44 = .ok (.return_, 1) := by decide +kernel
theorem dX11_readProduct_0 : decode cX11_readProduct 0 = .ok (.aload_n 0, 1) := by decide +kernel
theorem dX11_readProduct_1 : decode cX11_readProduct 1 = .ok (.invokevirtual 168, 3) := by decide +kernel
theorem dX11_readProduct_4 : decode cX11_readProduct 4 = .ok (.aload_n 0, 1) := by decide +kernel
theorem dX11_readProduct_5 : decode cX11_readProduct 5 = .ok (.bipush 42, 2) := by decide +kernel
theorem dX11_readProduct_7 : decode cX11_readProduct 7 = .ok (.invokevirtual 130, 3) := by decide +kernel
theorem dX11_readProduct_10 : decode cX11_readProduct 10 = .ok (.ifCond .ne 21, 3) := by decide +kernel
theorem dX11_readProduct_13 : decode cX11_readProduct 13 = .ok (.aload_n 0, 1) := by decide +kernel
theorem dX11_readProduct_14 : decode cX11_readProduct 14 = .ok (.bipush 47, 2) := by decide +kernel
theorem dX11_readProduct_16 : decode cX11_readProduct 16 = .ok (.invokevirtual 130, 3) := by decide +kernel
theorem dX11_readProduct_19 : decode cX11_readProduct 19 = .ok (.ifCond .ne 12, 3) := by decide +kernel
theorem dX11_readProduct_22 : decode cX11_readProduct 22 = .ok (.aload_n 0, 1) := by decide +kernel
theorem dX11_readProduct_23 : decode cX11_readProduct 23 = .ok (.bipush 37, 2) := by decide +kernel
theorem dX11_readProduct_25 : decode cX11_readProduct 25 = .ok (.invokevirtual 130, 3) := by decide +kernel
theorem dX11_readProduct_28 : decode cX11_readProduct 28 = .ok (.ifCond .eq 25, 3) := by decide +kernel
theorem dX11_readProduct_31 : decode cX11_readProduct 31 = .ok (.aload_n 0, 1) := by decide +kernel
theorem dX11_readProduct_32 : decode cX11_readProduct 32 = .ok (.getfield 121, 3) := by decide +kernel
theorem dX11_readProduct_35 : decode cX11_readProduct 35 = .ok (.istore_n 1, 1) := by decide +kernel
theorem dX11_readProduct_36 : decode cX11_readProduct 36 = .ok (.aload_n 0, 1) := by decide +kernel
theorem dX11_readProduct_37 : decode cX11_readProduct 37 = .ok (.invokevirtual 133, 3) := by decide +kernel
theorem dX11_readProduct_40 : decode cX11_readProduct 40 = .ok (.aload_n 0, 1) := by decide +kernel
theorem dX11_readProduct_41 : decode cX11_readProduct 41 = .ok (.invokevirtual 168, 3) := by decide +kernel
theorem dX11_readProduct_44 : decode cX11_readProduct 44 = .ok (.aload_n 0, 1) := by decide +kernel
theorem dX11_readProduct_45 : decode cX11_readProduct 45 = .ok (.iload_n 1, 1) := by decide +kernel
theorem dX11_readProduct_46 : decode cX11_readProduct 46 = .ok (.iconst 0, 1) := by decide +kernel
theorem dX11_readProduct_47 : decode cX11_readProduct 47 = .ok (.invokevirtual 164, 3) := by decide +kernel
theorem dX11_readProduct_50 : decode cX11_readProduct 50 = .ok (.goto (-46), 3) := by decide +kernel
theorem dX11_readProduct_53 : decode cX11_readProduct 53 = .ok (.return_, 1) := by decide +kernel
theorem dX11_readUnit_0 : decode cX11_readUnit 0 = .ok (.aload_n 0, 1) := by decide +kernel
theorem dX11_readUnit_1 : decode cX11_readUnit 1 = .ok (.getfield 127, 3) := by decide +kernel
theorem dX11_readUnit_4 : decode cX11_readUnit 4 = .ok (.ifCond .eq 4, 3) := by decide +kernel
theorem dX11_readUnit_7 : decode cX11_readUnit 7 = .ok (.return_, 1) := by decide +kernel
theorem dX11_readUnit_8 : decode cX11_readUnit 8 = .ok (.aload_n 0, 1) := by decide +kernel
theorem dX11_readUnit_9 : decode cX11_readUnit 9 = .ok (.bipush 40, 2) := by decide +kernel
theorem dX11_readUnit_11 : decode cX11_readUnit 11 = .ok (.invokevirtual 130, 3) := by decide +kernel
theorem dX11_readUnit_14 : decode cX11_readUnit 14 = .ok (.ifCond .eq 76, 3) := by decide +kernel
theorem dX11_readUnit_17 : decode cX11_readUnit 17 = .ok (.aload_n 0, 1) := by decide +kernel
theorem dX11_readUnit_18 : decode cX11_readUnit 18 = .ok (.getfield 171, 3) := by decide +kernel
theorem dX11_readUnit_21 : decode cX11_readUnit 21 = .ok (.bipush 6, 2) := by decide +kernel
theorem dX11_readUnit_23 : decode cX11_readUnit 23 = .ok (.if_icmp .ne 8, 3) := by decide +kernel
theorem dX11_readUnit_26 : decode cX11_readUnit 26 = .ok (.aload_n 0, 1) := by decide +kernel
theorem dX11_readUnit_27 : decode cX11_readUnit 27 = .ok (.iconst 5, 1) := by decide +kernel
theorem dX11_readUnit_28 : decode cX11_readUnit 28 = .ok (.invokevirtual 153, 3) := by decide +kernel
theorem dX11_readUnit_31 : decode cX11_readUnit 31 = .ok (.aload_n 0, 1) := by decide +kernel
theorem dX11_readUnit_32 : decode cX11_readUnit 32 = .ok (.dup, 1) := by decide +kernel
theorem dX11_readUnit_33 : decode cX11_readUnit 33 = .ok (.getfield 171, 3) := by decide +kernel
theorem dX11_readUnit_36 : decode cX11_readUnit 36 = .ok (.iconst 1, 1) := by decide +kernel
theorem dX11_readUnit_37 : decode cX11_readUnit 37 = .ok (.iadd, 1) := by decide +kernel
theorem dX11_readUnit_38 : decode cX11_readUnit 38 = .ok (.putfield 171, 3) := by decide +kernel
theorem dX11_readUnit_41 : decode cX11_readUnit 41 = .ok (.aload_n 0, 1) := by decide +kernel
theorem dX11_readUnit_42 : decode cX11_readUnit 42 = .ok (.getfield 127, 3) := by decide +kernel
theorem dX11_readUnit_45 : decode cX11_readUnit 45 = .ok (.ifCond .ne 7, 3) := by decide +kernel
theorem dX11_readUnit_48 : decode cX11_readUnit 48 = .ok (.aload_n 0, 1) := by decide +kernel
theorem dX11_readUnit_49 : decode cX11_readUnit 49 = .ok (.invokevirtual 133, 3) := by decide +kernel
theorem dX11_readUnit_52 : decode cX11_readUnit 52 = .ok (.aload_n 0, 1) := by decide +kernel
theorem dX11_readUnit_53 : decode cX11_readUnit 53 = .ok (.getfield 127, 3) := by decide +kernel
theorem dX11_readUnit_56 : decode cX11_readUnit 56 = .ok (.ifCond .ne 7, 3) := by decide +kernel
theorem dX11_readUnit_59 : decode cX11_readUnit 59 = .ok (.aload_n 0, 1) := by decide +kernel
theorem dX11_readUnit_60 : decode cX11_readUnit 60 = .ok (.invokevirtual 174, 3) := by decide +kernel
theorem dX11_readUnit_63 : decode cX11_readUnit 63 = .ok (.aload_n 0, 1) := by decide +kernel
theorem dX11_readUnit_64 : decode cX11_readUnit 64 = .ok (.bipush 41, 2) := by decide +kernel
theorem dX11_readUnit_66 : decode cX11_readUnit 66 = .ok (.invokevirtual 177, 3) := by decide +kernel
theorem dX11_readUnit_69 : decode cX11_readUnit 69 = .ok (.ifCond .ne 8, 3) := by decide +kernel
theorem dX11_readUnit_72 : decode cX11_readUnit 72 = .ok (.aload_n 0, 1) := by decide +kernel
theorem dX11_readUnit_73 : decode cX11_readUnit 73 = .ok (.iconst 2, 1) := by decide +kernel
theorem dX11_readUnit_74 : decode cX11_readUnit 74 = .ok (.invokevirtual 153, 3) := by decide +kernel
theorem dX11_readUnit_77 : decode cX11_readUnit 77 = .ok (.aload_n 0, 1) := by decide +kernel
theorem dX11_readUnit_78 : decode cX11_readUnit 78 = .ok (.dup, 1) := by decide +kernel
theorem dX11_readUnit_79 : decode cX11_readUnit 79 = .ok (.getfield 171, 3) := by decide +kernel
theorem dX11_readUnit_82 : decode cX11_readUnit 82 = .ok (.iconst 1, 1) := by decide +kernel
theorem dX11_readUnit_83 : decode cX11_readUnit 83 = .ok (.isub, 1) := by decide +kernel
theorem dX11_readUnit_84 : decode cX11_readUnit 84 = .ok (.putfield 171, 3) := by decide +kernel
theorem dX11_readUnit_87 : decode cX11_readUnit 87 = .ok (.goto 68, 3) := by decide +kernel
theorem dX11_readUnit_90 : decode cX11_readUnit 90 = .ok (.aload_n 0, 1) := by decide +kernel
theorem dX11_readUnit_91 : decode cX11_readUnit 91 = .ok (.getfield 107, 3) := by decide +kernel
theorem dX11_readUnit_94 : decode cX11_readUnit 94 = .ok (.iconst 2, 1) := by decide +kernel
theorem dX11_readUnit_95 : decode cX11_readUnit 95 = .ok (.if_icmp .ne 19, 3) := by decide +kernel
theorem dX11_readUnit_98 : decode cX11_readUnit 98 = .ok (.aload_n 0, 1) := by decide +kernel
theorem dX11_readUnit_99 : decode cX11_readUnit 99 = .ok (.iconst 0, 1) := by decide +kernel
theorem dX11_readUnit_100 : decode cX11_readUnit 100 = .ok (.aload_n 0, 1) := by decide +kernel
theorem dX11_readUnit_101 : decode cX11_readUnit 101 = .ok (.getfield 121, 3) := by decide +kernel
theorem dX11_readUnit_104 : decode cX11_readUnit 104 = .ok (.invokevirtual 164, 3) := by decide +kernel
theorem dX11_readUnit_107 : decode cX11_readUnit 107 = .ok (.aload_n 0, 1) := by decide +kernel
theorem dX11_readUnit_108 : decode cX11_readUnit 108 = .ok (.invokevirtual 133, 3) := by decide +kernel
theorem dX11_readUnit_111 : decode cX11_readUnit 111 = .ok (.goto 44, 3) := by decide +kernel
theorem dX11_readUnit_114 : decode cX11_readUnit 114 = .ok (.aload_n 0, 1) := by decide +kernel
theorem dX11_readUnit_115 : decode cX11_readUnit 115 = .ok (.ldc 180, 2) := by decide +kernel
theorem dX11_readUnit_117 : decode cX11_readUnit 117 = .ok (.invokevirtual 182, 3) := by decide +kernel
theorem dX11_readUnit_120 : decode cX11_readUnit 120 = .ok (.ifCond .eq 12, 3) := by decide +kernel
theorem dX11_readUnit_123 : decode cX11_readUnit 123 = .ok (.aload_n 0, 1) := by decide +kernel
theorem dX11_readUnit_124 : decode cX11_readUnit 124 = .ok (.iconst 1, 1) := by decide +kernel
theorem dX11_readUnit_125 : decode cX11_readUnit 125 = .ok (.iconst 0, 1) := by decide +kernel
theorem dX11_readUnit_126 : decode cX11_readUnit 126 = .ok (.invokevirtual 164, 3) := by decide +kernel
theorem dX11_readUnit_129 : decode cX11_readUnit 129 = .ok (.goto 26, 3) := by decide +kernel
theorem dX11_readUnit_132 : decode cX11_readUnit 132 = .ok (.aload_n 0, 1) := by decide +kernel
theorem dX11_readUnit_133 : decode cX11_readUnit 133 = .ok (.ldc 185, 2) := by decide +kernel
theorem dX11_readUnit_135 : decode cX11_readUnit 135 = .ok (.invokevirtual 182, 3) := by decide +kernel
theorem dX11_readUnit_138 : decode cX11_readUnit 138 = .ok (.ifCond .eq 12, 3) := by decide +kernel
theorem dX11_readUnit_141 : decode cX11_readUnit 141 = .ok (.aload_n 0, 1) := by decide +kernel
theorem dX11_readUnit_142 : decode cX11_readUnit 142 = .ok (.iconst 2, 1) := by decide +kernel
theorem dX11_readUnit_143 : decode cX11_readUnit 143 = .ok (.iconst 0, 1) := by decide +kernel
theorem dX11_readUnit_144 : decode cX11_readUnit 144 = .ok (.invokevirtual 164, 3) := by decide +kernel
theorem dX11_readUnit_147 : decode cX11_readUnit 147 = .ok (.goto 8, 3) := by decide +kernel
theorem dX11_readUnit_150 : decode cX11_readUnit 150 = .ok (.aload_n 0, 1) := by decide +kernel
theorem dX11_readUnit_151 : decode cX11_readUnit 151 = .ok (.iconst 2, 1) := by decide +kernel
theorem dX11_readUnit_152 : decode cX11_readUnit 152 = .ok (.invokevirtual 153, 3) := by decide +kernel
theorem dX11_readUnit_155 : decode cX11_readUnit 155 = .ok (.return_, 1) := by decide +kernel
theorem dX11_readFor_0 : decode cX11_readFor 0 = .ok (.aload_n 0, 1) := by decide +kernel
theorem dX11_readFor_1 : decode cX11_readFor 1 = .ok (.getfield 127, 3) := by decide +kernel
theorem dX11_readFor_4 : decode cX11_readFor 4 = .ok (.ifCond .eq 4, 3) := by decide +kernel
theorem dX11_readFor_7 : decode cX11_readFor 7 = .ok (.return_, 1) := by decide +kernel
theorem dX11_readFor_8 : decode cX11_readFor 8 = .ok (.aload_n 0, 1) := by decide +kernel
theorem dX11_readFor_9 : decode cX11_readFor 9 = .ok (.invokevirtual 133, 3) := by decide +kernel
theorem dX11_readFor_12 : decode cX11_readFor 12 = .ok (.aload_n 0, 1) := by decide +kernel
theorem dX11_readFor_13 : decode cX11_readFor 13 = .ok (.getfield 13, 3) := by decide +kernel
theorem dX11_readFor_16 : decode cX11_readFor 16 = .ok (.bipush 18, 2) := by decide +kernel
theorem dX11_readFor_18 : decode cX11_readFor 18 = .ok (.iaload, 1) := by decide +kernel
theorem dX11_readFor_19 : decode cX11_readFor 19 = .ok (.istore_n 2, 1) := by decide +kernel
theorem dX11_readFor_20 : decode cX11_readFor 20 = .ok (.aload_n 0, 1) := by decide +kernel
theorem dX11_readFor_21 : decode cX11_readFor 21 = .ok (.invokevirtual 174, 3) := by decide +kernel
theorem dX11_readFor_24 : decode cX11_readFor 24 = .ok (.aload_n 0, 1) := by decide +kernel
theorem dX11_readFor_25 : decode cX11_readFor 25 = .ok (.getfield 127, 3) := by decide +kernel
theorem dX11_readFor_28 : decode cX11_readFor 28 = .ok (.ifCond .eq 4, 3) := by decide +kernel
theorem dX11_readFor_31 : decode cX11_readFor 31 = .ok (.return_, 1) := by decide +kernel
theorem dX11_readFor_32 : decode cX11_readFor 32 = .ok (.aload_n 0, 1) := by decide +kernel
theorem dX11_readFor_33 : decode cX11_readFor 33 = .ok (.getfield 13, 3) := by decide +kernel
theorem dX11_readFor_36 : decode cX11_readFor 36 = .ok (.iconst 4, 1) := by decide +kernel
theorem dX11_readFor_37 : decode cX11_readFor 37 = .ok (.iconst 2, 1) := by decide +kernel
theorem dX11_readFor_38 : decode cX11_readFor 38 = .ok (.iload_n 1, 1) := by decide +kernel
theorem dX11_readFor_39 : decode cX11_readFor 39 = .ok (.imul, 1) := by decide +kernel
theorem dX11_readFor_40 : decode cX11_readFor 40 = .ok (.iadd, 1) := by decide +kernel
theorem dX11_readFor_41 : decode cX11_readFor 41 = .ok (.iload_n 2, 1) := by decide +kernel
theorem dX11_readFor_42 : decode cX11_readFor 42 = .ok (.iastore, 1) := by decide +kernel
theorem dX11_readFor_43 : decode cX11_readFor 43 = .ok (.aload_n 0, 1) := by decide +kernel
theorem dX11_readFor_44 : decode cX11_readFor 44 = .ok (.getfield 13, 3) := by decide +kernel
theorem dX11_readFor_47 : decode cX11_readFor 47 = .ok (.iconst 4, 1) := by decide +kernel
theorem dX11_readFor_48 : decode cX11_readFor 48 = .ok (.iconst 2, 1) := by decide +kernel
theorem dX11_readFor_49 : decode cX11_readFor 49 = .ok (.iload_n 1, 1) := by decide +kernel
theorem dX11_readFor_50 : decode cX11_readFor 50 = .ok (.imul, 1) := by decide +kernel
theorem dX11_readFor_51 : decode cX11_readFor 51 = .ok (.iadd, 1) := by decide +kernel
theorem dX11_readFor_52 : decode cX11_readFor 52 = .ok (.iconst 1, 1) := by decide +kernel
theorem dX11_readFor_53 : decode cX11_readFor 53 = .ok (.iadd, 1) := by decide +kernel
theorem dX11_readFor_54 : decode cX11_readFor 54 = .ok (.aload_n 0, 1) := by decide +kernel
theorem dX11_readFor_55 : decode cX11_readFor 55 = .ok (.getfield 13, 3) := by decide +kernel
theorem dX11_readFor_58 : decode cX11_readFor 58 = .ok (.bipush 18, 2) := by decide +kernel
theorem dX11_readFor_60 : decode cX11_readFor 60 = .ok (.iaload, 1) := by decide +kernel
theorem dX11_readFor_61 : decode cX11_readFor 61 = .ok (.iastore, 1) := by decide +kernel
theorem dX11_readFor_62 : decode cX11_readFor 62 = .ok (.iload_n 1, 1) := by decide +kernel
theorem dX11_readFor_63 : decode cX11_readFor 63 = .ok (.bipush 6, 2) := by decide +kernel
theorem dX11_readFor_65 : decode cX11_readFor 65 = .ok (.if_icmp .ge 13, 3) := by decide +kernel
theorem dX11_readFor_68 : decode cX11_readFor 68 = .ok (.aload_n 0, 1) := by decide +kernel
theorem dX11_readFor_69 : decode cX11_readFor 69 = .ok (.getfield 13, 3) := by decide +kernel
theorem dX11_readFor_72 : decode cX11_readFor 72 = .ok (.iconst 3, 1) := by decide +kernel
theorem dX11_readFor_73 : decode cX11_readFor 73 = .ok (.dup2, 1) := by decide +kernel
theorem dX11_readFor_74 : decode cX11_readFor 74 = .ok (.iaload, 1) := by decide +kernel
theorem dX11_readFor_75 : decode cX11_readFor 75 = .ok (.iconst 1, 1) := by decide +kernel
theorem dX11_readFor_76 : decode cX11_readFor 76 = .ok (.iadd, 1) := by decide +kernel
theorem dX11_readFor_77 : decode cX11_readFor 77 = .ok (.iastore, 1) := by decide +kernel
theorem dX11_readFor_78 : decode cX11_readFor 78 = .ok (.return_, 1) := by decide +kernel
theorem dX11_readLine_0 : decode cX11_readLine 0 = .ok (.aload_n 0, 1) := by decide +kernel
theorem dX11_readLine_1 : decode cX11_readLine 1 = .ok (.ldc 186, 2) := by decide +kernel
theorem dX11_readLine_3 : decode cX11_readLine 3 = .ok (.invokevirtual 182, 3) := by decide +kernel
theorem dX11_readLine_6 : decode cX11_readLine 6 = .ok (.ifCond .eq 20, 3) := by decide +kernel
theorem dX11_readLine_9 : decode cX11_readLine 9 = .ok (.aload_n 0, 1) := by decide +kernel
theorem dX11_readLine_10 : decode cX11_readLine 10 = .ok (.getfield 13, 3) := by decide +kernel
theorem dX11_readLine_13 : decode cX11_readLine 13 = .ok (.iconst 1, 1) := by decide +kernel
theorem dX11_readLine_14 : decode cX11_readLine 14 = .ok (.aload_n 0, 1) := by decide +kernel
theorem dX11_readLine_15 : decode cX11_readLine 15 = .ok (.iconst 2, 1) := by decide +kernel
theorem dX11_readLine_16 : decode cX11_readLine 16 = .ok (.sipush 256, 3) := by decide +kernel
theorem dX11_readLine_19 : decode cX11_readLine 19 = .ok (.invokevirtual 188, 3) := by decide +kernel
theorem dX11_readLine_22 : decode cX11_readLine 22 = .ok (.iastore, 1) := by decide +kernel
theorem dX11_readLine_23 : decode cX11_readLine 23 = .ok (.goto 89, 3) := by decide +kernel
theorem dX11_readLine_26 : decode cX11_readLine 26 = .ok (.aload_n 0, 1) := by decide +kernel
theorem dX11_readLine_27 : decode cX11_readLine 27 = .ok (.ldc 192, 2) := by decide +kernel
theorem dX11_readLine_29 : decode cX11_readLine 29 = .ok (.invokevirtual 182, 3) := by decide +kernel
theorem dX11_readLine_32 : decode cX11_readLine 32 = .ok (.ifCond .eq 19, 3) := by decide +kernel
theorem dX11_readLine_35 : decode cX11_readLine 35 = .ok (.aload_n 0, 1) := by decide +kernel
theorem dX11_readLine_36 : decode cX11_readLine 36 = .ok (.getfield 13, 3) := by decide +kernel
theorem dX11_readLine_39 : decode cX11_readLine 39 = .ok (.iconst 2, 1) := by decide +kernel
theorem dX11_readLine_40 : decode cX11_readLine 40 = .ok (.aload_n 0, 1) := by decide +kernel
theorem dX11_readLine_41 : decode cX11_readLine 41 = .ok (.iconst 2, 1) := by decide +kernel
theorem dX11_readLine_42 : decode cX11_readLine 42 = .ok (.bipush 64, 2) := by decide +kernel
theorem dX11_readLine_44 : decode cX11_readLine 44 = .ok (.invokevirtual 188, 3) := by decide +kernel
theorem dX11_readLine_47 : decode cX11_readLine 47 = .ok (.iastore, 1) := by decide +kernel
theorem dX11_readLine_48 : decode cX11_readLine 48 = .ok (.goto 64, 3) := by decide +kernel
theorem dX11_readLine_51 : decode cX11_readLine 51 = .ok (.aload_n 0, 1) := by decide +kernel
theorem dX11_readLine_52 : decode cX11_readLine 52 = .ok (.ldc 194, 2) := by decide +kernel
theorem dX11_readLine_54 : decode cX11_readLine 54 = .ok (.invokevirtual 149, 3) := by decide +kernel
theorem dX11_readLine_57 : decode cX11_readLine 57 = .ok (.ifCond .eq 32, 3) := by decide +kernel
theorem dX11_readLine_60 : decode cX11_readLine 60 = .ok (.aload_n 0, 1) := by decide +kernel
theorem dX11_readLine_61 : decode cX11_readLine 61 = .ok (.getfield 13, 3) := by decide +kernel
theorem dX11_readLine_64 : decode cX11_readLine 64 = .ok (.iconst 3, 1) := by decide +kernel
theorem dX11_readLine_65 : decode cX11_readLine 65 = .ok (.iaload, 1) := by decide +kernel
theorem dX11_readLine_66 : decode cX11_readLine 66 = .ok (.bipush 6, 2) := by decide +kernel
theorem dX11_readLine_68 : decode cX11_readLine 68 = .ok (.if_icmp .ne 8, 3) := by decide +kernel
theorem dX11_readLine_71 : decode cX11_readLine 71 = .ok (.aload_n 0, 1) := by decide +kernel
theorem dX11_readLine_72 : decode cX11_readLine 72 = .ok (.iconst 4, 1) := by decide +kernel
theorem dX11_readLine_73 : decode cX11_readLine 73 = .ok (.invokevirtual 153, 3) := by decide +kernel
theorem dX11_readLine_76 : decode cX11_readLine 76 = .ok (.aload_n 0, 1) := by decide +kernel
theorem dX11_readLine_77 : decode cX11_readLine 77 = .ok (.aload_n 0, 1) := by decide +kernel
theorem dX11_readLine_78 : decode cX11_readLine 78 = .ok (.getfield 13, 3) := by decide +kernel
theorem dX11_readLine_81 : decode cX11_readLine 81 = .ok (.iconst 3, 1) := by decide +kernel
theorem dX11_readLine_82 : decode cX11_readLine 82 = .ok (.iaload, 1) := by decide +kernel
theorem dX11_readLine_83 : decode cX11_readLine 83 = .ok (.invokevirtual 196, 3) := by decide +kernel
theorem dX11_readLine_86 : decode cX11_readLine 86 = .ok (.goto 26, 3) := by decide +kernel
theorem dX11_readLine_89 : decode cX11_readLine 89 = .ok (.aload_n 0, 1) := by decide +kernel
theorem dX11_readLine_90 : decode cX11_readLine 90 = .ok (.ldc 199, 2) := by decide +kernel
theorem dX11_readLine_92 : decode cX11_readLine 92 = .ok (.invokevirtual 149, 3) := by decide +kernel
theorem dX11_readLine_95 : decode cX11_readLine 95 = .ok (.ifCond .eq 12, 3) := by decide +kernel
theorem dX11_readLine_98 : decode cX11_readLine 98 = .ok (.aload_n 0, 1) := by decide +kernel
theorem dX11_readLine_99 : decode cX11_readLine 99 = .ok (.bipush 6, 2) := by decide +kernel
theorem dX11_readLine_101 : decode cX11_readLine 101 = .ok (.invokevirtual 196, 3) := by decide +kernel
theorem dX11_readLine_104 : decode cX11_readLine 104 = .ok (.goto 8, 3) := by decide +kernel
theorem dX11_readLine_107 : decode cX11_readLine 107 = .ok (.aload_n 0, 1) := by decide +kernel
theorem dX11_readLine_108 : decode cX11_readLine 108 = .ok (.iconst 2, 1) := by decide +kernel
theorem dX11_readLine_109 : decode cX11_readLine 109 = .ok (.invokevirtual 153, 3) := by decide +kernel
theorem dX11_readLine_112 : decode cX11_readLine 112 = .ok (.aload_n 0, 1) := by decide +kernel
theorem dX11_readLine_113 : decode cX11_readLine 113 = .ok (.bipush 59, 2) := by decide +kernel
theorem dX11_readLine_115 : decode cX11_readLine 115 = .ok (.invokevirtual 177, 3) := by decide +kernel
theorem dX11_readLine_118 : decode cX11_readLine 118 = .ok (.ifCond .ne 8, 3) := by decide +kernel
theorem dX11_readLine_121 : decode cX11_readLine 121 = .ok (.aload_n 0, 1) := by decide +kernel
theorem dX11_readLine_122 : decode cX11_readLine 122 = .ok (.iconst 2, 1) := by decide +kernel
theorem dX11_readLine_123 : decode cX11_readLine 123 = .ok (.invokevirtual 153, 3) := by decide +kernel
theorem dX11_readLine_126 : decode cX11_readLine 126 = .ok (.aload_n 0, 1) := by decide +kernel
theorem dX11_readLine_127 : decode cX11_readLine 127 = .ok (.getfield 127, 3) := by decide +kernel
theorem dX11_readLine_130 : decode cX11_readLine 130 = .ok (.ifCond .ne 13, 3) := by decide +kernel
theorem dX11_readLine_133 : decode cX11_readLine 133 = .ok (.aload_n 0, 1) := by decide +kernel
theorem dX11_readLine_134 : decode cX11_readLine 134 = .ok (.getfield 13, 3) := by decide +kernel
theorem dX11_readLine_137 : decode cX11_readLine 137 = .ok (.iconst 0, 1) := by decide +kernel
theorem dX11_readLine_138 : decode cX11_readLine 138 = .ok (.dup2, 1) := by decide +kernel
theorem dX11_readLine_139 : decode cX11_readLine 139 = .ok (.iaload, 1) := by decide +kernel
theorem dX11_readLine_140 : decode cX11_readLine 140 = .ok (.iconst 1, 1) := by decide +kernel
theorem dX11_readLine_141 : decode cX11_readLine 141 = .ok (.iadd, 1) := by decide +kernel
theorem dX11_readLine_142 : decode cX11_readLine 142 = .ok (.iastore, 1) := by decide +kernel
theorem dX11_readLine_143 : decode cX11_readLine 143 = .ok (.return_, 1) := by decide +kernel
theorem dX11_rules_0 : decode cX11_rules 0 = .ok (.aload_n 0, 1) := by decide +kernel
theorem dX11_rules_1 : decode cX11_rules 1 = .ok (.iconst 0, 1) := by decide +kernel
theorem dX11_rules_2 : decode cX11_rules 2 = .ok (.putfield 92, 3) := by decide +kernel
theorem dX11_rules_5 : decode cX11_rules 5 = .ok (.iload_n 1, 1) := by decide +kernel
theorem dX11_rules_6 : decode cX11_rules 6 = .ok (.i2l, 1) := by decide +kernel
theorem dX11_rules_7 : decode cX11_rules 7 = .ok (.lconst 0, 1) := by decide +kernel
theorem dX11_rules_8 : decode cX11_rules 8 = .ok (.aload_n 0, 1) := by decide +kernel
theorem dX11_rules_9 : decode cX11_rules 9 = .ok (.getfield 95, 3) := by decide +kernel
theorem dX11_rules_12 : decode cX11_rules 12 = .ok (.i2l, 1) := by decide +kernel
theorem dX11_rules_13 : decode cX11_rules 13 = .ok (.invokestatic 157, 3) := by decide +kernel
theorem dX11_rules_16 : decode cX11_rules 16 = .ok (.ifCond .ne 9, 3) := by decide +kernel
theorem dX11_rules_19 : decode cX11_rules 19 = .ok (.aload_n 0, 1) := by decide +kernel
theorem dX11_rules_20 : decode cX11_rules 20 = .ok (.iconst 1, 1) := by decide +kernel
theorem dX11_rules_21 : decode cX11_rules 21 = .ok (.invokevirtual 201, 3) := by decide +kernel
theorem dX11_rules_24 : decode cX11_rules 24 = .ok (.ireturn, 1) := by decide +kernel
theorem dX11_rules_25 : decode cX11_rules 25 = .ok (.aload_n 0, 1) := by decide +kernel
theorem dX11_rules_26 : decode cX11_rules 26 = .ok (.iload_n 1, 1) := by decide +kernel
theorem dX11_rules_27 : decode cX11_rules 27 = .ok (.putfield 98, 3) := by decide +kernel
theorem dX11_rules_30 : decode cX11_rules 30 = .ok (.aload_n 0, 1) := by decide +kernel
theorem dX11_rules_31 : decode cX11_rules 31 = .ok (.iconst 0, 1) := by decide +kernel
theorem dX11_rules_32 : decode cX11_rules 32 = .ok (.putfield 95, 3) := by decide +kernel
theorem dX11_rules_35 : decode cX11_rules 35 = .ok (.aload_n 0, 1) := by decide +kernel
theorem dX11_rules_36 : decode cX11_rules 36 = .ok (.iconst 0, 1) := by decide +kernel
theorem dX11_rules_37 : decode cX11_rules 37 = .ok (.putfield 101, 3) := by decide +kernel
theorem dX11_rules_40 : decode cX11_rules 40 = .ok (.aload_n 0, 1) := by decide +kernel
theorem dX11_rules_41 : decode cX11_rules 41 = .ok (.iconst 0, 1) := by decide +kernel
theorem dX11_rules_42 : decode cX11_rules 42 = .ok (.putfield 127, 3) := by decide +kernel
theorem dX11_rules_45 : decode cX11_rules 45 = .ok (.aload_n 0, 1) := by decide +kernel
theorem dX11_rules_46 : decode cX11_rules 46 = .ok (.iconst 0, 1) := by decide +kernel
theorem dX11_rules_47 : decode cX11_rules 47 = .ok (.putfield 171, 3) := by decide +kernel
theorem dX11_rules_50 : decode cX11_rules 50 = .ok (.aload_n 0, 1) := by decide +kernel
theorem dX11_rules_51 : decode cX11_rules 51 = .ok (.getfield 13, 3) := by decide +kernel
theorem dX11_rules_54 : decode cX11_rules 54 = .ok (.invokestatic 88, 3) := by decide +kernel
theorem dX11_rules_57 : decode cX11_rules 57 = .ok (.aload_n 0, 1) := by decide +kernel
theorem dX11_rules_58 : decode cX11_rules 58 = .ok (.invokevirtual 133, 3) := by decide +kernel
theorem dX11_rules_61 : decode cX11_rules 61 = .ok (.aload_n 0, 1) := by decide +kernel
theorem dX11_rules_62 : decode cX11_rules 62 = .ok (.getfield 127, 3) := by decide +kernel
theorem dX11_rules_65 : decode cX11_rules 65 = .ok (.ifCond .ne 17, 3) := by decide +kernel
theorem dX11_rules_68 : decode cX11_rules 68 = .ok (.aload_n 0, 1) := by decide +kernel
theorem dX11_rules_69 : decode cX11_rules 69 = .ok (.getfield 107, 3) := by decide +kernel
theorem dX11_rules_72 : decode cX11_rules 72 = .ok (.ifCond .eq 10, 3) := by decide +kernel
theorem dX11_rules_75 : decode cX11_rules 75 = .ok (.aload_n 0, 1) := by decide +kernel
theorem dX11_rules_76 : decode cX11_rules 76 = .ok (.invokevirtual 204, 3) := by decide +kernel
theorem dX11_rules_79 : decode cX11_rules 79 = .ok (.goto (-18), 3) := by decide +kernel
theorem dX11_rules_82 : decode cX11_rules 82 = .ok (.aload_n 0, 1) := by decide +kernel
theorem dX11_rules_83 : decode cX11_rules 83 = .ok (.aload_n 0, 1) := by decide +kernel
theorem dX11_rules_84 : decode cX11_rules 84 = .ok (.getfield 127, 3) := by decide +kernel
theorem dX11_rules_87 : decode cX11_rules 87 = .ok (.putfield 207, 3) := by decide +kernel
theorem dX11_rules_90 : decode cX11_rules 90 = .ok (.aload_n 0, 1) := by decide +kernel
theorem dX11_rules_91 : decode cX11_rules 91 = .ok (.aload_n 0, 1) := by decide +kernel
theorem dX11_rules_92 : decode cX11_rules 92 = .ok (.getfield 127, 3) := by decide +kernel
theorem dX11_rules_95 : decode cX11_rules 95 = .ok (.ifCond .ne 7, 3) := by decide +kernel
theorem dX11_rules_98 : decode cX11_rules 98 = .ok (.iconst (-1), 1) := by decide +kernel
theorem dX11_rules_99 : decode cX11_rules 99 = .ok (.goto 7, 3) := by decide +kernel
theorem dX11_rules_102 : decode cX11_rules 102 = .ok (.aload_n 0, 1) := by decide +kernel
theorem dX11_rules_103 : decode cX11_rules 103 = .ok (.getfield 136, 3) := by decide +kernel
theorem dX11_rules_106 : decode cX11_rules 106 = .ok (.putfield 29, 3) := by decide +kernel
theorem dX11_rules_109 : decode cX11_rules 109 = .ok (.aload_n 0, 1) := by decide +kernel
theorem dX11_rules_110 : decode cX11_rules 110 = .ok (.getfield 127, 3) := by decide +kernel
theorem dX11_rules_113 : decode cX11_rules 113 = .ok (.ifCond .eq 11, 3) := by decide +kernel
theorem dX11_rules_116 : decode cX11_rules 116 = .ok (.bipush (-10), 2) := by decide +kernel
theorem dX11_rules_118 : decode cX11_rules 118 = .ok (.aload_n 0, 1) := by decide +kernel
theorem dX11_rules_119 : decode cX11_rules 119 = .ok (.getfield 127, 3) := by decide +kernel
theorem dX11_rules_122 : decode cX11_rules 122 = .ok (.isub, 1) := by decide +kernel
theorem dX11_rules_123 : decode cX11_rules 123 = .ok (.ireturn, 1) := by decide +kernel
theorem dX11_rules_124 : decode cX11_rules 124 = .ok (.iconst 0, 1) := by decide +kernel
theorem dX11_rules_125 : decode cX11_rules 125 = .ok (.istore_n 2, 1) := by decide +kernel
theorem dX11_rules_126 : decode cX11_rules 126 = .ok (.iload_n 2, 1) := by decide +kernel
theorem dX11_rules_127 : decode cX11_rules 127 = .ok (.sipush 3268, 3) := by decide +kernel
theorem dX11_rules_130 : decode cX11_rules 130 = .ok (.if_icmp .ge 21, 3) := by decide +kernel
theorem dX11_rules_133 : decode cX11_rules 133 = .ok (.aload_n 0, 1) := by decide +kernel
theorem dX11_rules_134 : decode cX11_rules 134 = .ok (.getfield 9, 3) := by decide +kernel
theorem dX11_rules_137 : decode cX11_rules 137 = .ok (.iload_n 2, 1) := by decide +kernel
theorem dX11_rules_138 : decode cX11_rules 138 = .ok (.aload_n 0, 1) := by decide +kernel
theorem dX11_rules_139 : decode cX11_rules 139 = .ok (.getfield 13, 3) := by decide +kernel
theorem dX11_rules_142 : decode cX11_rules 142 = .ok (.iload_n 2, 1) := by decide +kernel
theorem dX11_rules_143 : decode cX11_rules 143 = .ok (.iaload, 1) := by decide +kernel
theorem dX11_rules_144 : decode cX11_rules 144 = .ok (.iastore, 1) := by decide +kernel
theorem dX11_rules_145 : decode cX11_rules 145 = .ok (.iinc 2 1, 3) := by decide +kernel
theorem dX11_rules_148 : decode cX11_rules 148 = .ok (.goto (-22), 3) := by decide +kernel
theorem dX11_rules_151 : decode cX11_rules 151 = .ok (.aload_n 0, 1) := by decide +kernel
theorem dX11_rules_152 : decode cX11_rules 152 = .ok (.getfield 9, 3) := by decide +kernel
theorem dX11_rules_155 : decode cX11_rules 155 = .ok (.iconst 0, 1) := by decide +kernel
theorem dX11_rules_156 : decode cX11_rules 156 = .ok (.iaload, 1) := by decide +kernel
theorem dX11_rules_157 : decode cX11_rules 157 = .ok (.ireturn, 1) := by decide +kernel
theorem dX11_fault_0 : decode cX11_fault 0 = .ok (.aload_n 0, 1) := by decide +kernel
theorem dX11_fault_1 : decode cX11_fault 1 = .ok (.iconst 0, 1) := by decide +kernel
theorem dX11_fault_2 : decode cX11_fault 2 = .ok (.putfield 92, 3) := by decide +kernel
theorem dX11_fault_5 : decode cX11_fault 5 = .ok (.iload_n 1, 1) := by decide +kernel
theorem dX11_fault_6 : decode cX11_fault 6 = .ok (.ifCond .ne 10, 3) := by decide +kernel
theorem dX11_fault_9 : decode cX11_fault 9 = .ok (.aload_n 0, 1) := by decide +kernel
theorem dX11_fault_10 : decode cX11_fault 10 = .ok (.getfield 207, 3) := by decide +kernel
theorem dX11_fault_13 : decode cX11_fault 13 = .ok (.goto 16, 3) := by decide +kernel
theorem dX11_fault_16 : decode cX11_fault 16 = .ok (.iload_n 1, 1) := by decide +kernel
theorem dX11_fault_17 : decode cX11_fault 17 = .ok (.iconst 1, 1) := by decide +kernel
theorem dX11_fault_18 : decode cX11_fault 18 = .ok (.if_icmp .ne 10, 3) := by decide +kernel
theorem dX11_fault_21 : decode cX11_fault 21 = .ok (.aload_n 0, 1) := by decide +kernel
theorem dX11_fault_22 : decode cX11_fault 22 = .ok (.getfield 29, 3) := by decide +kernel
theorem dX11_fault_25 : decode cX11_fault 25 = .ok (.goto 4, 3) := by decide +kernel
theorem dX11_fault_28 : decode cX11_fault 28 = .ok (.iconst (-1), 1) := by decide +kernel
theorem dX11_fault_29 : decode cX11_fault 29 = .ok (.ireturn, 1) := by decide +kernel
theorem dX11_valueOf_0 : decode cX11_valueOf 0 = .ok (.iconst 0, 1) := by decide +kernel
theorem dX11_valueOf_1 : decode cX11_valueOf 1 = .ok (.istore 4, 2) := by decide +kernel
theorem dX11_valueOf_3 : decode cX11_valueOf 3 = .ok (.bipush 20, 2) := by decide +kernel
theorem dX11_valueOf_5 : decode cX11_valueOf 5 = .ok (.iconst 2, 1) := by decide +kernel
theorem dX11_valueOf_6 : decode cX11_valueOf 6 = .ok (.aload_n 0, 1) := by decide +kernel
theorem dX11_valueOf_7 : decode cX11_valueOf 7 = .ok (.getfield 9, 3) := by decide +kernel
theorem dX11_valueOf_10 : decode cX11_valueOf 10 = .ok (.iconst 4, 1) := by decide +kernel
theorem dX11_valueOf_11 : decode cX11_valueOf 11 = .ok (.iconst 2, 1) := by decide +kernel
theorem dX11_valueOf_12 : decode cX11_valueOf 12 = .ok (.iload_n 1, 1) := by decide +kernel
theorem dX11_valueOf_13 : decode cX11_valueOf 13 = .ok (.imul, 1) := by decide +kernel
theorem dX11_valueOf_14 : decode cX11_valueOf 14 = .ok (.iadd, 1) := by decide +kernel
theorem dX11_valueOf_15 : decode cX11_valueOf 15 = .ok (.iaload, 1) := by decide +kernel
theorem dX11_valueOf_16 : decode cX11_valueOf 16 = .ok (.imul, 1) := by decide +kernel
theorem dX11_valueOf_17 : decode cX11_valueOf 17 = .ok (.iadd, 1) := by decide +kernel
theorem dX11_valueOf_18 : decode cX11_valueOf 18 = .ok (.istore 5, 2) := by decide +kernel
theorem dX11_valueOf_20 : decode cX11_valueOf 20 = .ok (.iload 5, 2) := by decide +kernel
theorem dX11_valueOf_22 : decode cX11_valueOf 22 = .ok (.bipush 20, 2) := by decide +kernel
theorem dX11_valueOf_24 : decode cX11_valueOf 24 = .ok (.iconst 2, 1) := by decide +kernel
theorem dX11_valueOf_25 : decode cX11_valueOf 25 = .ok (.aload_n 0, 1) := by decide +kernel
theorem dX11_valueOf_26 : decode cX11_valueOf 26 = .ok (.getfield 9, 3) := by decide +kernel
theorem dX11_valueOf_29 : decode cX11_valueOf 29 = .ok (.iconst 4, 1) := by decide +kernel
theorem dX11_valueOf_30 : decode cX11_valueOf 30 = .ok (.iconst 2, 1) := by decide +kernel
theorem dX11_valueOf_31 : decode cX11_valueOf 31 = .ok (.iload_n 1, 1) := by decide +kernel
theorem dX11_valueOf_32 : decode cX11_valueOf 32 = .ok (.imul, 1) := by decide +kernel
theorem dX11_valueOf_33 : decode cX11_valueOf 33 = .ok (.iadd, 1) := by decide +kernel
theorem dX11_valueOf_34 : decode cX11_valueOf 34 = .ok (.iconst 1, 1) := by decide +kernel
theorem dX11_valueOf_35 : decode cX11_valueOf 35 = .ok (.iadd, 1) := by decide +kernel
theorem dX11_valueOf_36 : decode cX11_valueOf 36 = .ok (.iaload, 1) := by decide +kernel
theorem dX11_valueOf_37 : decode cX11_valueOf 37 = .ok (.imul, 1) := by decide +kernel
theorem dX11_valueOf_38 : decode cX11_valueOf 38 = .ok (.iadd, 1) := by decide +kernel
theorem dX11_valueOf_39 : decode cX11_valueOf 39 = .ok (.if_icmp .ge 98, 3) := by decide +kernel
theorem dX11_valueOf_42 : decode cX11_valueOf 42 = .ok (.aload_n 0, 1) := by decide +kernel
theorem dX11_valueOf_43 : decode cX11_valueOf 43 = .ok (.getfield 9, 3) := by decide +kernel
theorem dX11_valueOf_46 : decode cX11_valueOf 46 = .ok (.iload 5, 2) := by decide +kernel
theorem dX11_valueOf_48 : decode cX11_valueOf 48 = .ok (.iaload, 1) := by decide +kernel
theorem dX11_valueOf_49 : decode cX11_valueOf 49 = .ok (.istore 6, 2) := by decide +kernel
theorem dX11_valueOf_51 : decode cX11_valueOf 51 = .ok (.iload 6, 2) := by decide +kernel
theorem dX11_valueOf_53 : decode cX11_valueOf 53 = .ok (.iconst 2, 1) := by decide +kernel
theorem dX11_valueOf_54 : decode cX11_valueOf 54 = .ok (.if_icmp .gt 44, 3) := by decide +kernel
theorem dX11_valueOf_57 : decode cX11_valueOf 57 = .ok (.aload_n 0, 1) := by decide +kernel
theorem dX11_valueOf_58 : decode cX11_valueOf 58 = .ok (.getfield 33, 3) := by decide +kernel
theorem dX11_valueOf_61 : decode cX11_valueOf 61 = .ok (.iload 4, 2) := by decide +kernel
theorem dX11_valueOf_63 : decode cX11_valueOf 63 = .ok (.iload 6, 2) := by decide +kernel
theorem dX11_valueOf_65 : decode cX11_valueOf 65 = .ok (.ifCond .ne 15, 3) := by decide +kernel
theorem dX11_valueOf_68 : decode cX11_valueOf 68 = .ok (.aload_n 0, 1) := by decide +kernel
theorem dX11_valueOf_69 : decode cX11_valueOf 69 = .ok (.getfield 9, 3) := by decide +kernel
theorem dX11_valueOf_72 : decode cX11_valueOf 72 = .ok (.iload 5, 2) := by decide +kernel
theorem dX11_valueOf_74 : decode cX11_valueOf 74 = .ok (.iconst 1, 1) := by decide +kernel
theorem dX11_valueOf_75 : decode cX11_valueOf 75 = .ok (.iadd, 1) := by decide +kernel
theorem dX11_valueOf_76 : decode cX11_valueOf 76 = .ok (.iaload, 1) := by decide +kernel
theorem dX11_valueOf_77 : decode cX11_valueOf 77 = .ok (.goto 14, 3) := by decide +kernel
theorem dX11_valueOf_80 : decode cX11_valueOf 80 = .ok (.iload 6, 2) := by decide +kernel
theorem dX11_valueOf_82 : decode cX11_valueOf 82 = .ok (.iconst 1, 1) := by decide +kernel
theorem dX11_valueOf_83 : decode cX11_valueOf 83 = .ok (.if_icmp .ne 7, 3) := by decide +kernel
theorem dX11_valueOf_86 : decode cX11_valueOf 86 = .ok (.iload_n 2, 1) := by decide +kernel
theorem dX11_valueOf_87 : decode cX11_valueOf 87 = .ok (.goto 4, 3) := by decide +kernel
theorem dX11_valueOf_90 : decode cX11_valueOf 90 = .ok (.iload_n 3, 1) := by decide +kernel
theorem dX11_valueOf_91 : decode cX11_valueOf 91 = .ok (.iastore, 1) := by decide +kernel
theorem dX11_valueOf_92 : decode cX11_valueOf 92 = .ok (.iinc 4 1, 3) := by decide +kernel
theorem dX11_valueOf_95 : decode cX11_valueOf 95 = .ok (.goto 36, 3) := by decide +kernel
theorem dX11_valueOf_98 : decode cX11_valueOf 98 = .ok (.iinc 4 (-1), 3) := by decide +kernel
theorem dX11_valueOf_101 : decode cX11_valueOf 101 = .ok (.aload_n 0, 1) := by decide +kernel
theorem dX11_valueOf_102 : decode cX11_valueOf 102 = .ok (.getfield 33, 3) := by decide +kernel
theorem dX11_valueOf_105 : decode cX11_valueOf 105 = .ok (.iload 4, 2) := by decide +kernel
theorem dX11_valueOf_107 : decode cX11_valueOf 107 = .ok (.iconst 1, 1) := by decide +kernel
theorem dX11_valueOf_108 : decode cX11_valueOf 108 = .ok (.isub, 1) := by decide +kernel
theorem dX11_valueOf_109 : decode cX11_valueOf 109 = .ok (.iload 6, 2) := by decide +kernel
theorem dX11_valueOf_111 : decode cX11_valueOf 111 = .ok (.aload_n 0, 1) := by decide +kernel
theorem dX11_valueOf_112 : decode cX11_valueOf 112 = .ok (.getfield 33, 3) := by decide +kernel
theorem dX11_valueOf_115 : decode cX11_valueOf 115 = .ok (.iload 4, 2) := by decide +kernel
theorem dX11_valueOf_117 : decode cX11_valueOf 117 = .ok (.iconst 1, 1) := by decide +kernel
theorem dX11_valueOf_118 : decode cX11_valueOf 118 = .ok (.isub, 1) := by decide +kernel
theorem dX11_valueOf_119 : decode cX11_valueOf 119 = .ok (.iaload, 1) := by decide +kernel
theorem dX11_valueOf_120 : decode cX11_valueOf 120 = .ok (.aload_n 0, 1) := by decide +kernel
theorem dX11_valueOf_121 : decode cX11_valueOf 121 = .ok (.getfield 33, 3) := by decide +kernel
theorem dX11_valueOf_124 : decode cX11_valueOf 124 = .ok (.iload 4, 2) := by decide +kernel
theorem dX11_valueOf_126 : decode cX11_valueOf 126 = .ok (.iaload, 1) := by decide +kernel
theorem dX11_valueOf_127 : decode cX11_valueOf 127 = .ok (.invokestatic 210, 3) := by decide +kernel
theorem dX11_valueOf_130 : decode cX11_valueOf 130 = .ok (.iastore, 1) := by decide +kernel
theorem dX11_valueOf_131 : decode cX11_valueOf 131 = .ok (.iinc 5 2, 3) := by decide +kernel
theorem dX11_valueOf_134 : decode cX11_valueOf 134 = .ok (.goto (-114), 3) := by decide +kernel
theorem dX11_valueOf_137 : decode cX11_valueOf 137 = .ok (.aload_n 0, 1) := by decide +kernel
theorem dX11_valueOf_138 : decode cX11_valueOf 138 = .ok (.getfield 33, 3) := by decide +kernel
theorem dX11_valueOf_141 : decode cX11_valueOf 141 = .ok (.iconst 0, 1) := by decide +kernel
theorem dX11_valueOf_142 : decode cX11_valueOf 142 = .ok (.iaload, 1) := by decide +kernel
theorem dX11_valueOf_143 : decode cX11_valueOf 143 = .ok (.ireturn, 1) := by decide +kernel
theorem dX11_joins_0 : decode cX11_joins 0 = .ok (.iload_n 0, 1) := by decide +kernel
theorem dX11_joins_1 : decode cX11_joins 1 = .ok (.bipush 43, 2) := by decide +kernel
theorem dX11_joins_3 : decode cX11_joins 3 = .ok (.if_icmp .ne 7, 3) := by decide +kernel
theorem dX11_joins_6 : decode cX11_joins 6 = .ok (.iload_n 1, 1) := by decide +kernel
theorem dX11_joins_7 : decode cX11_joins 7 = .ok (.iload_n 2, 1) := by decide +kernel
theorem dX11_joins_8 : decode cX11_joins 8 = .ok (.iadd, 1) := by decide +kernel
theorem dX11_joins_9 : decode cX11_joins 9 = .ok (.ireturn, 1) := by decide +kernel
theorem dX11_joins_10 : decode cX11_joins 10 = .ok (.iload_n 0, 1) := by decide +kernel
theorem dX11_joins_11 : decode cX11_joins 11 = .ok (.bipush 45, 2) := by decide +kernel
theorem dX11_joins_13 : decode cX11_joins 13 = .ok (.if_icmp .ne 7, 3) := by decide +kernel
theorem dX11_joins_16 : decode cX11_joins 16 = .ok (.iload_n 1, 1) := by decide +kernel
theorem dX11_joins_17 : decode cX11_joins 17 = .ok (.iload_n 2, 1) := by decide +kernel
theorem dX11_joins_18 : decode cX11_joins 18 = .ok (.isub, 1) := by decide +kernel
theorem dX11_joins_19 : decode cX11_joins 19 = .ok (.ireturn, 1) := by decide +kernel
theorem dX11_joins_20 : decode cX11_joins 20 = .ok (.iload_n 0, 1) := by decide +kernel
theorem dX11_joins_21 : decode cX11_joins 21 = .ok (.bipush 42, 2) := by decide +kernel
theorem dX11_joins_23 : decode cX11_joins 23 = .ok (.if_icmp .ne 7, 3) := by decide +kernel
theorem dX11_joins_26 : decode cX11_joins 26 = .ok (.iload_n 1, 1) := by decide +kernel
theorem dX11_joins_27 : decode cX11_joins 27 = .ok (.iload_n 2, 1) := by decide +kernel
theorem dX11_joins_28 : decode cX11_joins 28 = .ok (.imul, 1) := by decide +kernel
theorem dX11_joins_29 : decode cX11_joins 29 = .ok (.ireturn, 1) := by decide +kernel
theorem dX11_joins_30 : decode cX11_joins 30 = .ok (.iload_n 2, 1) := by decide +kernel
theorem dX11_joins_31 : decode cX11_joins 31 = .ok (.ifCond .ne 7, 3) := by decide +kernel
theorem dX11_joins_34 : decode cX11_joins 34 = .ok (.iconst 0, 1) := by decide +kernel
theorem dX11_joins_35 : decode cX11_joins 35 = .ok (.goto 18, 3) := by decide +kernel
theorem dX11_joins_38 : decode cX11_joins 38 = .ok (.iload_n 0, 1) := by decide +kernel
theorem dX11_joins_39 : decode cX11_joins 39 = .ok (.bipush 47, 2) := by decide +kernel
theorem dX11_joins_41 : decode cX11_joins 41 = .ok (.if_icmp .ne 9, 3) := by decide +kernel
theorem dX11_joins_44 : decode cX11_joins 44 = .ok (.iload_n 1, 1) := by decide +kernel
theorem dX11_joins_45 : decode cX11_joins 45 = .ok (.iload_n 2, 1) := by decide +kernel
theorem dX11_joins_46 : decode cX11_joins 46 = .ok (.idiv, 1) := by decide +kernel
theorem dX11_joins_47 : decode cX11_joins 47 = .ok (.goto 6, 3) := by decide +kernel
theorem dX11_joins_50 : decode cX11_joins 50 = .ok (.iload_n 1, 1) := by decide +kernel
theorem dX11_joins_51 : decode cX11_joins 51 = .ok (.iload_n 2, 1) := by decide +kernel
theorem dX11_joins_52 : decode cX11_joins 52 = .ok (.irem, 1) := by decide +kernel
theorem dX11_joins_53 : decode cX11_joins 53 = .ok (.ireturn, 1) := by decide +kernel
theorem dX11_modulo_0 : decode cX11_modulo 0 = .ok (.iload_n 0, 1) := by decide +kernel
theorem dX11_modulo_1 : decode cX11_modulo 1 = .ok (.iload_n 1, 1) := by decide +kernel
theorem dX11_modulo_2 : decode cX11_modulo 2 = .ok (.irem, 1) := by decide +kernel
theorem dX11_modulo_3 : decode cX11_modulo 3 = .ok (.iload_n 1, 1) := by decide +kernel
theorem dX11_modulo_4 : decode cX11_modulo 4 = .ok (.iadd, 1) := by decide +kernel
theorem dX11_modulo_5 : decode cX11_modulo 5 = .ok (.iload_n 1, 1) := by decide +kernel
theorem dX11_modulo_6 : decode cX11_modulo 6 = .ok (.irem, 1) := by decide +kernel
theorem dX11_modulo_7 : decode cX11_modulo 7 = .ok (.ireturn, 1) := by decide +kernel
theorem dX11_placeOf_0 : decode cX11_placeOf 0 = .ok (.aload_n 0, 1) := by decide +kernel
theorem dX11_placeOf_1 : decode cX11_placeOf 1 = .ok (.iload_n 1, 1) := by decide +kernel
theorem dX11_placeOf_2 : decode cX11_placeOf 2 = .ok (.iload_n 2, 1) := by decide +kernel
theorem dX11_placeOf_3 : decode cX11_placeOf 3 = .ok (.iload_n 3, 1) := by decide +kernel
theorem dX11_placeOf_4 : decode cX11_placeOf 4 = .ok (.invokevirtual 214, 3) := by decide +kernel
theorem dX11_placeOf_7 : decode cX11_placeOf 7 = .ok (.iload_n 3, 1) := by decide +kernel
theorem dX11_placeOf_8 : decode cX11_placeOf 8 = .ok (.invokestatic 217, 3) := by decide +kernel
theorem dX11_placeOf_11 : decode cX11_placeOf 11 = .ok (.ireturn, 1) := by decide +kernel
theorem dX11_tagOf_0 : decode cX11_tagOf 0 = .ok (.aload_n 0, 1) := by decide +kernel
theorem dX11_tagOf_1 : decode cX11_tagOf 1 = .ok (.getfield 9, 3) := by decide +kernel
theorem dX11_tagOf_4 : decode cX11_tagOf 4 = .ok (.bipush 16, 2) := by decide +kernel
theorem dX11_tagOf_6 : decode cX11_tagOf 6 = .ok (.iaload, 1) := by decide +kernel
theorem dX11_tagOf_7 : decode cX11_tagOf 7 = .ok (.aload_n 0, 1) := by decide +kernel
theorem dX11_tagOf_8 : decode cX11_tagOf 8 = .ok (.getfield 9, 3) := by decide +kernel
theorem dX11_tagOf_11 : decode cX11_tagOf 11 = .ok (.bipush 17, 2) := by decide +kernel
theorem dX11_tagOf_13 : decode cX11_tagOf 13 = .ok (.iaload, 1) := by decide +kernel
theorem dX11_tagOf_14 : decode cX11_tagOf 14 = .ok (.if_icmp .ne 7, 3) := by decide +kernel
theorem dX11_tagOf_17 : decode cX11_tagOf 17 = .ok (.iconst 1, 1) := by decide +kernel
theorem dX11_tagOf_18 : decode cX11_tagOf 18 = .ok (.goto 4, 3) := by decide +kernel
theorem dX11_tagOf_21 : decode cX11_tagOf 21 = .ok (.iconst 0, 1) := by decide +kernel
theorem dX11_tagOf_22 : decode cX11_tagOf 22 = .ok (.istore_n 2, 1) := by decide +kernel
theorem dX11_tagOf_23 : decode cX11_tagOf 23 = .ok (.iload_n 2, 1) := by decide +kernel
theorem dX11_tagOf_24 : decode cX11_tagOf 24 = .ok (.ifCond .eq 14, 3) := by decide +kernel
theorem dX11_tagOf_27 : decode cX11_tagOf 27 = .ok (.iload_n 1, 1) := by decide +kernel
theorem dX11_tagOf_28 : decode cX11_tagOf 28 = .ok (.aload_n 0, 1) := by decide +kernel
theorem dX11_tagOf_29 : decode cX11_tagOf 29 = .ok (.getfield 9, 3) := by decide +kernel
theorem dX11_tagOf_32 : decode cX11_tagOf 32 = .ok (.iconst 2, 1) := by decide +kernel
theorem dX11_tagOf_33 : decode cX11_tagOf 33 = .ok (.iaload, 1) := by decide +kernel
theorem dX11_tagOf_34 : decode cX11_tagOf 34 = .ok (.irem, 1) := by decide +kernel
theorem dX11_tagOf_35 : decode cX11_tagOf 35 = .ok (.goto 25, 3) := by decide +kernel
theorem dX11_tagOf_38 : decode cX11_tagOf 38 = .ok (.aload_n 0, 1) := by decide +kernel
theorem dX11_tagOf_39 : decode cX11_tagOf 39 = .ok (.bipush 6, 2) := by decide +kernel
theorem dX11_tagOf_41 : decode cX11_tagOf 41 = .ok (.iload_n 1, 1) := by decide +kernel
theorem dX11_tagOf_42 : decode cX11_tagOf 42 = .ok (.aload_n 0, 1) := by decide +kernel
theorem dX11_tagOf_43 : decode cX11_tagOf 43 = .ok (.getfield 9, 3) := by decide +kernel
theorem dX11_tagOf_46 : decode cX11_tagOf 46 = .ok (.iconst 2, 1) := by decide +kernel
theorem dX11_tagOf_47 : decode cX11_tagOf 47 = .ok (.iaload, 1) := by decide +kernel
theorem dX11_tagOf_48 : decode cX11_tagOf 48 = .ok (.invokevirtual 214, 3) := by decide +kernel
theorem dX11_tagOf_51 : decode cX11_tagOf 51 = .ok (.aload_n 0, 1) := by decide +kernel
theorem dX11_tagOf_52 : decode cX11_tagOf 52 = .ok (.getfield 9, 3) := by decide +kernel
theorem dX11_tagOf_55 : decode cX11_tagOf 55 = .ok (.iconst 2, 1) := by decide +kernel
theorem dX11_tagOf_56 : decode cX11_tagOf 56 = .ok (.iaload, 1) := by decide +kernel
theorem dX11_tagOf_57 : decode cX11_tagOf 57 = .ok (.invokestatic 217, 3) := by decide +kernel
theorem dX11_tagOf_60 : decode cX11_tagOf 60 = .ok (.ireturn, 1) := by decide +kernel
theorem dX11_markFault_0 : decode cX11_markFault 0 = .ok (.iload_n 1, 1) := by decide +kernel
theorem dX11_markFault_1 : decode cX11_markFault 1 = .ok (.i2l, 1) := by decide +kernel
theorem dX11_markFault_2 : decode cX11_markFault 2 = .ok (.lconst 0, 1) := by decide +kernel
theorem dX11_markFault_3 : decode cX11_markFault 3 = .ok (.aload_n 0, 1) := by decide +kernel
theorem dX11_markFault_4 : decode cX11_markFault 4 = .ok (.getfield 9, 3) := by decide +kernel
theorem dX11_markFault_7 : decode cX11_markFault 7 = .ok (.iconst 3, 1) := by decide +kernel
theorem dX11_markFault_8 : decode cX11_markFault 8 = .ok (.iaload, 1) := by decide +kernel
theorem dX11_markFault_9 : decode cX11_markFault 9 = .ok (.iconst 1, 1) := by decide +kernel
theorem dX11_markFault_10 : decode cX11_markFault 10 = .ok (.isub, 1) := by decide +kernel
theorem dX11_markFault_11 : decode cX11_markFault 11 = .ok (.i2l, 1) := by decide +kernel
theorem dX11_markFault_12 : decode cX11_markFault 12 = .ok (.invokestatic 157, 3) := by decide +kernel
theorem dX11_markFault_15 : decode cX11_markFault 15 = .ok (.ifCond .ne 7, 3) := by decide +kernel
theorem dX11_markFault_18 : decode cX11_markFault 18 = .ok (.iconst 1, 1) := by decide +kernel
theorem dX11_markFault_19 : decode cX11_markFault 19 = .ok (.goto 20, 3) := by decide +kernel
theorem dX11_markFault_22 : decode cX11_markFault 22 = .ok (.iload_n 2, 1) := by decide +kernel
theorem dX11_markFault_23 : decode cX11_markFault 23 = .ok (.i2l, 1) := by decide +kernel
theorem dX11_markFault_24 : decode cX11_markFault 24 = .ok (.lconst 1, 1) := by decide +kernel
theorem dX11_markFault_25 : decode cX11_markFault 25 = .ok (.ldc2_w 220, 3) := by decide +kernel
theorem dX11_markFault_28 : decode cX11_markFault 28 = .ok (.invokestatic 157, 3) := by decide +kernel
theorem dX11_markFault_31 : decode cX11_markFault 31 = .ok (.ifCond .eq 7, 3) := by decide +kernel
theorem dX11_markFault_34 : decode cX11_markFault 34 = .ok (.iconst 0, 1) := by decide +kernel
theorem dX11_markFault_35 : decode cX11_markFault 35 = .ok (.goto 4, 3) := by decide +kernel
theorem dX11_markFault_38 : decode cX11_markFault 38 = .ok (.iconst 2, 1) := by decide +kernel
theorem dX11_markFault_39 : decode cX11_markFault 39 = .ok (.ireturn, 1) := by decide +kernel
theorem dX11_value_0 : decode cX11_value 0 = .ok (.aload_n 0, 1) := by decide +kernel
theorem dX11_value_1 : decode cX11_value 1 = .ok (.aload_n 0, 1) := by decide +kernel
theorem dX11_value_2 : decode cX11_value 2 = .ok (.iload_n 1, 1) := by decide +kernel
theorem dX11_value_3 : decode cX11_value 3 = .ok (.iload_n 3, 1) := by decide +kernel
theorem dX11_value_4 : decode cX11_value 4 = .ok (.invokevirtual 222, 3) := by decide +kernel
theorem dX11_value_7 : decode cX11_value 7 = .ok (.putfield 92, 3) := by decide +kernel
theorem dX11_value_10 : decode cX11_value 10 = .ok (.aload_n 0, 1) := by decide +kernel
theorem dX11_value_11 : decode cX11_value 11 = .ok (.getfield 92, 3) := by decide +kernel
theorem dX11_value_14 : decode cX11_value 14 = .ok (.ifCond .le 7, 3) := by decide +kernel
theorem dX11_value_17 : decode cX11_value 17 = .ok (.iconst 0, 1) := by decide +kernel
theorem dX11_value_18 : decode cX11_value 18 = .ok (.goto 10, 3) := by decide +kernel
theorem dX11_value_21 : decode cX11_value 21 = .ok (.aload_n 0, 1) := by decide +kernel
theorem dX11_value_22 : decode cX11_value 22 = .ok (.iload_n 1, 1) := by decide +kernel
theorem dX11_value_23 : decode cX11_value 23 = .ok (.iload_n 2, 1) := by decide +kernel
theorem dX11_value_24 : decode cX11_value 24 = .ok (.iload_n 3, 1) := by decide +kernel
theorem dX11_value_25 : decode cX11_value 25 = .ok (.invokevirtual 214, 3) := by decide +kernel
theorem dX11_value_28 : decode cX11_value 28 = .ok (.ireturn, 1) := by decide +kernel
theorem dX11_place_0 : decode cX11_place 0 = .ok (.aload_n 0, 1) := by decide +kernel
theorem dX11_place_1 : decode cX11_place 1 = .ok (.aload_n 0, 1) := by decide +kernel
theorem dX11_place_2 : decode cX11_place 2 = .ok (.iload_n 1, 1) := by decide +kernel
theorem dX11_place_3 : decode cX11_place 3 = .ok (.iload_n 3, 1) := by decide +kernel
theorem dX11_place_4 : decode cX11_place 4 = .ok (.invokevirtual 222, 3) := by decide +kernel
theorem dX11_place_7 : decode cX11_place 7 = .ok (.putfield 92, 3) := by decide +kernel
theorem dX11_place_10 : decode cX11_place 10 = .ok (.aload_n 0, 1) := by decide +kernel
theorem dX11_place_11 : decode cX11_place 11 = .ok (.getfield 92, 3) := by decide +kernel
theorem dX11_place_14 : decode cX11_place 14 = .ok (.ifCond .le 7, 3) := by decide +kernel
theorem dX11_place_17 : decode cX11_place 17 = .ok (.iconst 0, 1) := by decide +kernel
theorem dX11_place_18 : decode cX11_place 18 = .ok (.goto 10, 3) := by decide +kernel
theorem dX11_place_21 : decode cX11_place 21 = .ok (.aload_n 0, 1) := by decide +kernel
theorem dX11_place_22 : decode cX11_place 22 = .ok (.iload_n 1, 1) := by decide +kernel
theorem dX11_place_23 : decode cX11_place 23 = .ok (.iload_n 2, 1) := by decide +kernel
theorem dX11_place_24 : decode cX11_place 24 = .ok (.iload_n 3, 1) := by decide +kernel
theorem dX11_place_25 : decode cX11_place 25 = .ok (.invokevirtual 225, 3) := by decide +kernel
theorem dX11_place_28 : decode cX11_place 28 = .ok (.ireturn, 1) := by decide +kernel
theorem dX11_isName_0 : decode cX11_isName 0 = .ok (.lload_n 1, 1) := by decide +kernel
theorem dX11_isName_1 : decode cX11_isName 1 = .ok (.lconst 0, 1) := by decide +kernel
theorem dX11_isName_2 : decode cX11_isName 2 = .ok (.aload_n 0, 1) := by decide +kernel
theorem dX11_isName_3 : decode cX11_isName 3 = .ok (.getfield 9, 3) := by decide +kernel
theorem dX11_isName_6 : decode cX11_isName 6 = .ok (.iconst 1, 1) := by decide +kernel
theorem dX11_isName_7 : decode cX11_isName 7 = .ok (.iaload, 1) := by decide +kernel
theorem dX11_isName_8 : decode cX11_isName 8 = .ok (.iconst 1, 1) := by decide +kernel
theorem dX11_isName_9 : decode cX11_isName 9 = .ok (.isub, 1) := by decide +kernel
theorem dX11_isName_10 : decode cX11_isName 10 = .ok (.i2l, 1) := by decide +kernel
theorem dX11_isName_11 : decode cX11_isName 11 = .ok (.invokestatic 157, 3) := by decide +kernel
theorem dX11_isName_14 : decode cX11_isName 14 = .ok (.ireturn, 1) := by decide +kernel
theorem dX11_tag_0 : decode cX11_tag 0 = .ok (.aload_n 0, 1) := by decide +kernel
theorem dX11_tag_1 : decode cX11_tag 1 = .ok (.iconst 0, 1) := by decide +kernel
theorem dX11_tag_2 : decode cX11_tag 2 = .ok (.putfield 92, 3) := by decide +kernel
theorem dX11_tag_5 : decode cX11_tag 5 = .ok (.aload_n 0, 1) := by decide +kernel
theorem dX11_tag_6 : decode cX11_tag 6 = .ok (.iload_n 1, 1) := by decide +kernel
theorem dX11_tag_7 : decode cX11_tag 7 = .ok (.i2l, 1) := by decide +kernel
theorem dX11_tag_8 : decode cX11_tag 8 = .ok (.invokevirtual 228, 3) := by decide +kernel
theorem dX11_tag_11 : decode cX11_tag 11 = .ok (.ifCond .eq 11, 3) := by decide +kernel
theorem dX11_tag_14 : decode cX11_tag 14 = .ok (.aload_n 0, 1) := by decide +kernel
theorem dX11_tag_15 : decode cX11_tag 15 = .ok (.iload_n 1, 1) := by decide +kernel
theorem dX11_tag_16 : decode cX11_tag 16 = .ok (.invokevirtual 232, 3) := by decide +kernel
theorem dX11_tag_19 : decode cX11_tag 19 = .ok (.goto 8, 3) := by decide +kernel
theorem dX11_tag_22 : decode cX11_tag 22 = .ok (.aload_n 0, 1) := by decide +kernel
theorem dX11_tag_23 : decode cX11_tag 23 = .ok (.iconst 1, 1) := by decide +kernel
theorem dX11_tag_24 : decode cX11_tag 24 = .ok (.invokevirtual 201, 3) := by decide +kernel
theorem dX11_tag_27 : decode cX11_tag 27 = .ok (.ireturn, 1) := by decide +kernel
theorem dX11_get_0 : decode cX11_get 0 = .ok (.aload_n 0, 1) := by decide +kernel
theorem dX11_get_1 : decode cX11_get 1 = .ok (.getfield 9, 3) := by decide +kernel
theorem dX11_get_4 : decode cX11_get 4 = .ok (.sipush 1220, 3) := by decide +kernel
theorem dX11_get_7 : decode cX11_get 7 = .ok (.sipush 512, 3) := by decide +kernel
theorem dX11_get_10 : decode cX11_get 10 = .ok (.iload_n 1, 1) := by decide +kernel
theorem dX11_get_11 : decode cX11_get 11 = .ok (.imul, 1) := by decide +kernel
theorem dX11_get_12 : decode cX11_get 12 = .ok (.iadd, 1) := by decide +kernel
theorem dX11_get_13 : decode cX11_get 13 = .ok (.iload_n 2, 1) := by decide +kernel
theorem dX11_get_14 : decode cX11_get 14 = .ok (.iadd, 1) := by decide +kernel
theorem dX11_get_15 : decode cX11_get 15 = .ok (.iaload, 1) := by decide +kernel
theorem dX11_get_16 : decode cX11_get 16 = .ok (.ireturn, 1) := by decide +kernel
theorem dX11_set_0 : decode cX11_set 0 = .ok (.aload_n 0, 1) := by decide +kernel
theorem dX11_set_1 : decode cX11_set 1 = .ok (.getfield 9, 3) := by decide +kernel
theorem dX11_set_4 : decode cX11_set 4 = .ok (.sipush 1220, 3) := by decide +kernel
theorem dX11_set_7 : decode cX11_set 7 = .ok (.sipush 512, 3) := by decide +kernel
theorem dX11_set_10 : decode cX11_set 10 = .ok (.iload_n 1, 1) := by decide +kernel
theorem dX11_set_11 : decode cX11_set 11 = .ok (.imul, 1) := by decide +kernel
theorem dX11_set_12 : decode cX11_set 12 = .ok (.iadd, 1) := by decide +kernel
theorem dX11_set_13 : decode cX11_set 13 = .ok (.iload_n 2, 1) := by decide +kernel
theorem dX11_set_14 : decode cX11_set 14 = .ok (.iadd, 1) := by decide +kernel
theorem dX11_set_15 : decode cX11_set 15 = .ok (.iload_n 3, 1) := by decide +kernel
theorem dX11_set_16 : decode cX11_set 16 = .ok (.iastore, 1) := by decide +kernel
theorem dX11_set_17 : decode cX11_set 17 = .ok (.return_, 1) := by decide +kernel
theorem dX11_isRow_0 : decode cX11_isRow 0 = .ok (.iload_n 1, 1) := by decide +kernel
theorem dX11_isRow_1 : decode cX11_isRow 1 = .ok (.i2l, 1) := by decide +kernel
theorem dX11_isRow_2 : decode cX11_isRow 2 = .ok (.lconst 0, 1) := by decide +kernel
theorem dX11_isRow_3 : decode cX11_isRow 3 = .ok (.ldc2_w 235, 3) := by decide +kernel
theorem dX11_isRow_6 : decode cX11_isRow 6 = .ok (.invokestatic 157, 3) := by decide +kernel
theorem dX11_isRow_9 : decode cX11_isRow 9 = .ok (.ifCond .eq 17, 3) := by decide +kernel
theorem dX11_isRow_12 : decode cX11_isRow 12 = .ok (.aload_n 0, 1) := by decide +kernel
theorem dX11_isRow_13 : decode cX11_isRow 13 = .ok (.iload_n 1, 1) := by decide +kernel
theorem dX11_isRow_14 : decode cX11_isRow 14 = .ok (.iconst 0, 1) := by decide +kernel
theorem dX11_isRow_15 : decode cX11_isRow 15 = .ok (.invokevirtual 237, 3) := by decide +kernel
theorem dX11_isRow_18 : decode cX11_isRow 18 = .ok (.iconst (-1), 1) := by decide +kernel
theorem dX11_isRow_19 : decode cX11_isRow 19 = .ok (.if_icmp .eq 7, 3) := by decide +kernel
theorem dX11_isRow_22 : decode cX11_isRow 22 = .ok (.iconst 1, 1) := by decide +kernel
theorem dX11_isRow_23 : decode cX11_isRow 23 = .ok (.goto 4, 3) := by decide +kernel
theorem dX11_isRow_26 : decode cX11_isRow 26 = .ok (.iconst 0, 1) := by decide +kernel
theorem dX11_isRow_27 : decode cX11_isRow 27 = .ok (.ireturn, 1) := by decide +kernel
theorem dX11_all_0 : decode cX11_all 0 = .ok (.iload_n 1, 1) := by decide +kernel
theorem dX11_all_1 : decode cX11_all 1 = .ok (.iconst 2, 1) := by decide +kernel
theorem dX11_all_2 : decode cX11_all 2 = .ok (.if_icmp .eq 8, 3) := by decide +kernel
theorem dX11_all_5 : decode cX11_all 5 = .ok (.iload_n 1, 1) := by decide +kernel
theorem dX11_all_6 : decode cX11_all 6 = .ok (.iconst 3, 1) := by decide +kernel
theorem dX11_all_7 : decode cX11_all 7 = .ok (.if_icmp .ne 8, 3) := by decide +kernel
theorem dX11_all_10 : decode cX11_all 10 = .ok (.bipush 16, 2) := by decide +kernel
theorem dX11_all_12 : decode cX11_all 12 = .ok (.goto 5, 3) := by decide +kernel
theorem dX11_all_15 : decode cX11_all 15 = .ok (.bipush 64, 2) := by decide +kernel
theorem dX11_all_17 : decode cX11_all 17 = .ok (.ireturn, 1) := by decide +kernel
theorem dX11_make_0 : decode cX11_make 0 = .ok (.aload_n 0, 1) := by decide +kernel
theorem dX11_make_1 : decode cX11_make 1 = .ok (.iload_n 1, 1) := by decide +kernel
theorem dX11_make_2 : decode cX11_make 2 = .ok (.i2l, 1) := by decide +kernel
theorem dX11_make_3 : decode cX11_make 3 = .ok (.lconst 0, 1) := by decide +kernel
theorem dX11_make_4 : decode cX11_make 4 = .ok (.ldc2_w 235, 3) := by decide +kernel
theorem dX11_make_7 : decode cX11_make 7 = .ok (.invokestatic 157, 3) := by decide +kernel
theorem dX11_make_10 : decode cX11_make 10 = .ok (.ifCond .ne 7, 3) := by decide +kernel
theorem dX11_make_13 : decode cX11_make 13 = .ok (.iconst 1, 1) := by decide +kernel
theorem dX11_make_14 : decode cX11_make 14 = .ok (.goto 4, 3) := by decide +kernel
theorem dX11_make_17 : decode cX11_make 17 = .ok (.iconst 0, 1) := by decide +kernel
theorem dX11_make_18 : decode cX11_make 18 = .ok (.putfield 92, 3) := by decide +kernel
theorem dX11_make_21 : decode cX11_make 21 = .ok (.iload_n 2, 1) := by decide +kernel
theorem dX11_make_22 : decode cX11_make 22 = .ok (.iconst 4, 1) := by decide +kernel
theorem dX11_make_23 : decode cX11_make 23 = .ok (.if_icmp .ne 16, 3) := by decide +kernel
theorem dX11_make_26 : decode cX11_make 26 = .ok (.iconst 3, 1) := by decide +kernel
theorem dX11_make_27 : decode cX11_make 27 = .ok (.aload_n 0, 1) := by decide +kernel
theorem dX11_make_28 : decode cX11_make 28 = .ok (.getfield 9, 3) := by decide +kernel
theorem dX11_make_31 : decode cX11_make 31 = .ok (.iconst 3, 1) := by decide +kernel
theorem dX11_make_32 : decode cX11_make 32 = .ok (.iaload, 1) := by decide +kernel
theorem dX11_make_33 : decode cX11_make 33 = .ok (.invokestatic 240, 3) := by decide +kernel
theorem dX11_make_36 : decode cX11_make 36 = .ok (.goto 9, 3) := by decide +kernel
theorem dX11_make_39 : decode cX11_make 39 = .ok (.aload_n 0, 1) := by decide +kernel
theorem dX11_make_40 : decode cX11_make 40 = .ok (.getfield 9, 3) := by decide +kernel
theorem dX11_make_43 : decode cX11_make 43 = .ok (.iconst 3, 1) := by decide +kernel
theorem dX11_make_44 : decode cX11_make 44 = .ok (.iaload, 1) := by decide +kernel
theorem dX11_make_45 : decode cX11_make 45 = .ok (.istore 6, 2) := by decide +kernel
theorem dX11_make_47 : decode cX11_make 47 = .ok (.iload_n 2, 1) := by decide +kernel
theorem dX11_make_48 : decode cX11_make 48 = .ok (.i2l, 1) := by decide +kernel
theorem dX11_make_49 : decode cX11_make 49 = .ok (.lconst 0, 1) := by decide +kernel
theorem dX11_make_50 : decode cX11_make 50 = .ok (.ldc2_w 245, 3) := by decide +kernel
theorem dX11_make_53 : decode cX11_make 53 = .ok (.invokestatic 157, 3) := by decide +kernel
theorem dX11_make_56 : decode cX11_make 56 = .ok (.ifCond .eq 46, 3) := by decide +kernel
theorem dX11_make_59 : decode cX11_make 59 = .ok (.iload_n 3, 1) := by decide +kernel
theorem dX11_make_60 : decode cX11_make 60 = .ok (.i2l, 1) := by decide +kernel
theorem dX11_make_61 : decode cX11_make 61 = .ok (.lconst 1, 1) := by decide +kernel
theorem dX11_make_62 : decode cX11_make 62 = .ok (.aload_n 0, 1) := by decide +kernel
theorem dX11_make_63 : decode cX11_make 63 = .ok (.iload_n 2, 1) := by decide +kernel
theorem dX11_make_64 : decode cX11_make 64 = .ok (.invokevirtual 247, 3) := by decide +kernel
theorem dX11_make_67 : decode cX11_make 67 = .ok (.i2l, 1) := by decide +kernel
theorem dX11_make_68 : decode cX11_make 68 = .ok (.invokestatic 157, 3) := by decide +kernel
theorem dX11_make_71 : decode cX11_make 71 = .ok (.ifCond .eq 31, 3) := by decide +kernel
theorem dX11_make_74 : decode cX11_make 74 = .ok (.iload 4, 2) := by decide +kernel
theorem dX11_make_76 : decode cX11_make 76 = .ok (.i2l, 1) := by decide +kernel
theorem dX11_make_77 : decode cX11_make 77 = .ok (.lconst 1, 1) := by decide +kernel
theorem dX11_make_78 : decode cX11_make 78 = .ok (.iload 6, 2) := by decide +kernel
theorem dX11_make_80 : decode cX11_make 80 = .ok (.i2l, 1) := by decide +kernel
theorem dX11_make_81 : decode cX11_make 81 = .ok (.invokestatic 157, 3) := by decide +kernel
theorem dX11_make_84 : decode cX11_make 84 = .ok (.ifCond .eq 18, 3) := by decide +kernel
theorem dX11_make_87 : decode cX11_make 87 = .ok (.iload_n 2, 1) := by decide +kernel
theorem dX11_make_88 : decode cX11_make 88 = .ok (.iconst 2, 1) := by decide +kernel
theorem dX11_make_89 : decode cX11_make 89 = .ok (.if_icmp .ne 9, 3) := by decide +kernel
theorem dX11_make_92 : decode cX11_make 92 = .ok (.iload 4, 2) := by decide +kernel
theorem dX11_make_94 : decode cX11_make 94 = .ok (.iconst 2, 1) := by decide +kernel
theorem dX11_make_95 : decode cX11_make 95 = .ok (.if_icmp .ne 7, 3) := by decide +kernel
theorem dX11_make_98 : decode cX11_make 98 = .ok (.iconst 1, 1) := by decide +kernel
theorem dX11_make_99 : decode cX11_make 99 = .ok (.goto 4, 3) := by decide +kernel
theorem dX11_make_102 : decode cX11_make 102 = .ok (.iconst 0, 1) := by decide +kernel
theorem dX11_make_103 : decode cX11_make 103 = .ok (.istore 7, 2) := by decide +kernel
theorem dX11_make_105 : decode cX11_make 105 = .ok (.iload 7, 2) := by decide +kernel
theorem dX11_make_107 : decode cX11_make 107 = .ok (.ifCond .eq 54, 3) := by decide +kernel
theorem dX11_make_110 : decode cX11_make 110 = .ok (.iload_n 2, 1) := by decide +kernel
theorem dX11_make_111 : decode cX11_make 111 = .ok (.iconst 2, 1) := by decide +kernel
theorem dX11_make_112 : decode cX11_make 112 = .ok (.if_icmp .ne 19, 3) := by decide +kernel
theorem dX11_make_115 : decode cX11_make 115 = .ok (.iload 5, 2) := by decide +kernel
theorem dX11_make_117 : decode cX11_make 117 = .ok (.i2l, 1) := by decide +kernel
theorem dX11_make_118 : decode cX11_make 118 = .ok (.lconst 1, 1) := by decide +kernel
theorem dX11_make_119 : decode cX11_make 119 = .ok (.ldc2_w 245, 3) := by decide +kernel
theorem dX11_make_122 : decode cX11_make 122 = .ok (.invokestatic 157, 3) := by decide +kernel
theorem dX11_make_125 : decode cX11_make 125 = .ok (.ifCond .eq 36, 3) := by decide +kernel
theorem dX11_make_128 : decode cX11_make 128 = .ok (.goto 29, 3) := by decide +kernel
theorem dX11_make_131 : decode cX11_make 131 = .ok (.iload_n 2, 1) := by decide +kernel
theorem dX11_make_132 : decode cX11_make 132 = .ok (.iconst 3, 1) := by decide +kernel
theorem dX11_make_133 : decode cX11_make 133 = .ok (.if_icmp .ne 19, 3) := by decide +kernel
theorem dX11_make_136 : decode cX11_make 136 = .ok (.iload 5, 2) := by decide +kernel
theorem dX11_make_138 : decode cX11_make 138 = .ok (.i2l, 1) := by decide +kernel
theorem dX11_make_139 : decode cX11_make 139 = .ok (.lconst 1, 1) := by decide +kernel
theorem dX11_make_140 : decode cX11_make 140 = .ok (.ldc2_w 250, 3) := by decide +kernel
theorem dX11_make_143 : decode cX11_make 143 = .ok (.invokestatic 157, 3) := by decide +kernel
theorem dX11_make_146 : decode cX11_make 146 = .ok (.ifCond .eq 15, 3) := by decide +kernel
theorem dX11_make_149 : decode cX11_make 149 = .ok (.goto 8, 3) := by decide +kernel
theorem dX11_make_152 : decode cX11_make 152 = .ok (.iload 5, 2) := by decide +kernel
theorem dX11_make_154 : decode cX11_make 154 = .ok (.ifCond .ne 7, 3) := by decide +kernel
theorem dX11_make_157 : decode cX11_make 157 = .ok (.iconst 1, 1) := by decide +kernel
theorem dX11_make_158 : decode cX11_make 158 = .ok (.goto 4, 3) := by decide +kernel
theorem dX11_make_161 : decode cX11_make 161 = .ok (.iconst 0, 1) := by decide +kernel
theorem dX11_make_162 : decode cX11_make 162 = .ok (.istore 7, 2) := by decide +kernel
theorem dX11_make_164 : decode cX11_make 164 = .ok (.aload_n 0, 1) := by decide +kernel
theorem dX11_make_165 : decode cX11_make 165 = .ok (.getfield 92, 3) := by decide +kernel
theorem dX11_make_168 : decode cX11_make 168 = .ok (.ifCond .ne 13, 3) := by decide +kernel
theorem dX11_make_171 : decode cX11_make 171 = .ok (.iload 7, 2) := by decide +kernel
theorem dX11_make_173 : decode cX11_make 173 = .ok (.ifCond .ne 8, 3) := by decide +kernel
theorem dX11_make_176 : decode cX11_make 176 = .ok (.aload_n 0, 1) := by decide +kernel
theorem dX11_make_177 : decode cX11_make 177 = .ok (.iconst 2, 1) := by decide +kernel
theorem dX11_make_178 : decode cX11_make 178 = .ok (.putfield 92, 3) := by decide +kernel
theorem dX11_make_181 : decode cX11_make 181 = .ok (.aload_n 0, 1) := by decide +kernel
theorem dX11_make_182 : decode cX11_make 182 = .ok (.getfield 92, 3) := by decide +kernel
theorem dX11_make_185 : decode cX11_make 185 = .ok (.ifCond .le 4, 3) := by decide +kernel
theorem dX11_make_188 : decode cX11_make 188 = .ok (.return_, 1) := by decide +kernel
theorem dX11_make_189 : decode cX11_make 189 = .ok (.iconst 0, 1) := by decide +kernel
theorem dX11_make_190 : decode cX11_make 190 = .ok (.istore 8, 2) := by decide +kernel
theorem dX11_make_192 : decode cX11_make 192 = .ok (.iload 8, 2) := by decide +kernel
theorem dX11_make_194 : decode cX11_make 194 = .ok (.sipush 512, 3) := by decide +kernel
theorem dX11_make_197 : decode cX11_make 197 = .ok (.if_icmp .ge 17, 3) := by decide +kernel
theorem dX11_make_200 : decode cX11_make 200 = .ok (.aload_n 0, 1) := by decide +kernel
theorem dX11_make_201 : decode cX11_make 201 = .ok (.iload_n 1, 1) := by decide +kernel
theorem dX11_make_202 : decode cX11_make 202 = .ok (.iload 8, 2) := by decide +kernel
theorem dX11_make_204 : decode cX11_make 204 = .ok (.iconst 0, 1) := by decide +kernel
theorem dX11_make_205 : decode cX11_make 205 = .ok (.invokevirtual 252, 3) := by decide +kernel
theorem dX11_make_208 : decode cX11_make 208 = .ok (.iinc 8 1, 3) := by decide +kernel
theorem dX11_make_211 : decode cX11_make 211 = .ok (.goto (-19), 3) := by decide +kernel
theorem dX11_make_214 : decode cX11_make 214 = .ok (.aload_n 0, 1) := by decide +kernel
theorem dX11_make_215 : decode cX11_make 215 = .ok (.iload_n 1, 1) := by decide +kernel
theorem dX11_make_216 : decode cX11_make 216 = .ok (.iconst 0, 1) := by decide +kernel
theorem dX11_make_217 : decode cX11_make 217 = .ok (.iload_n 2, 1) := by decide +kernel
theorem dX11_make_218 : decode cX11_make 218 = .ok (.invokevirtual 252, 3) := by decide +kernel
theorem dX11_make_221 : decode cX11_make 221 = .ok (.aload_n 0, 1) := by decide +kernel
theorem dX11_make_222 : decode cX11_make 222 = .ok (.iload_n 1, 1) := by decide +kernel
theorem dX11_make_223 : decode cX11_make 223 = .ok (.iconst 1, 1) := by decide +kernel
theorem dX11_make_224 : decode cX11_make 224 = .ok (.iload_n 3, 1) := by decide +kernel
theorem dX11_make_225 : decode cX11_make 225 = .ok (.invokevirtual 252, 3) := by decide +kernel
theorem dX11_make_228 : decode cX11_make 228 = .ok (.aload_n 0, 1) := by decide +kernel
theorem dX11_make_229 : decode cX11_make 229 = .ok (.iload_n 1, 1) := by decide +kernel
theorem dX11_make_230 : decode cX11_make 230 = .ok (.iconst 2, 1) := by decide +kernel
theorem dX11_make_231 : decode cX11_make 231 = .ok (.iload 4, 2) := by decide +kernel
theorem dX11_make_233 : decode cX11_make 233 = .ok (.invokevirtual 252, 3) := by decide +kernel
theorem dX11_make_236 : decode cX11_make 236 = .ok (.aload_n 0, 1) := by decide +kernel
theorem dX11_make_237 : decode cX11_make 237 = .ok (.iload_n 1, 1) := by decide +kernel
theorem dX11_make_238 : decode cX11_make 238 = .ok (.iconst 3, 1) := by decide +kernel
theorem dX11_make_239 : decode cX11_make 239 = .ok (.iload 5, 2) := by decide +kernel
theorem dX11_make_241 : decode cX11_make 241 = .ok (.invokevirtual 252, 3) := by decide +kernel
theorem dX11_make_244 : decode cX11_make 244 = .ok (.aload_n 0, 1) := by decide +kernel
theorem dX11_make_245 : decode cX11_make 245 = .ok (.iload_n 1, 1) := by decide +kernel
theorem dX11_make_246 : decode cX11_make 246 = .ok (.iconst 4, 1) := by decide +kernel
theorem dX11_make_247 : decode cX11_make 247 = .ok (.iconst 1, 1) := by decide +kernel
theorem dX11_make_248 : decode cX11_make 248 = .ok (.invokevirtual 252, 3) := by decide +kernel
theorem dX11_make_251 : decode cX11_make 251 = .ok (.return_, 1) := by decide +kernel
theorem dX11_isIn_0 : decode cX11_isIn 0 = .ok (.aload_n 0, 1) := by decide +kernel
theorem dX11_isIn_1 : decode cX11_isIn 1 = .ok (.iload_n 1, 1) := by decide +kernel
theorem dX11_isIn_2 : decode cX11_isIn 2 = .ok (.sipush 250, 3) := by decide +kernel
theorem dX11_isIn_5 : decode cX11_isIn 5 = .ok (.iload_n 2, 1) := by decide +kernel
theorem dX11_isIn_6 : decode cX11_isIn 6 = .ok (.iadd, 1) := by decide +kernel
theorem dX11_isIn_7 : decode cX11_isIn 7 = .ok (.invokevirtual 237, 3) := by decide +kernel
theorem dX11_isIn_10 : decode cX11_isIn 10 = .ok (.iconst 1, 1) := by decide +kernel
theorem dX11_isIn_11 : decode cX11_isIn 11 = .ok (.if_icmp .ne 7, 3) := by decide +kernel
theorem dX11_isIn_14 : decode cX11_isIn 14 = .ok (.iconst 1, 1) := by decide +kernel
theorem dX11_isIn_15 : decode cX11_isIn 15 = .ok (.goto 4, 3) := by decide +kernel
theorem dX11_isIn_18 : decode cX11_isIn 18 = .ok (.iconst 0, 1) := by decide +kernel
theorem dX11_isIn_19 : decode cX11_isIn 19 = .ok (.ireturn, 1) := by decide +kernel
theorem dX11_many_0 : decode cX11_many 0 = .ok (.iconst 0, 1) := by decide +kernel
theorem dX11_many_1 : decode cX11_many 1 = .ok (.istore_n 2, 1) := by decide +kernel
theorem dX11_many_2 : decode cX11_many 2 = .ok (.iconst 0, 1) := by decide +kernel
theorem dX11_many_3 : decode cX11_many 3 = .ok (.istore_n 3, 1) := by decide +kernel
theorem dX11_many_4 : decode cX11_many 4 = .ok (.iload_n 3, 1) := by decide +kernel
theorem dX11_many_5 : decode cX11_many 5 = .ok (.aload_n 0, 1) := by decide +kernel
theorem dX11_many_6 : decode cX11_many 6 = .ok (.getfield 9, 3) := by decide +kernel
theorem dX11_many_9 : decode cX11_many 9 = .ok (.iconst 1, 1) := by decide +kernel
theorem dX11_many_10 : decode cX11_many 10 = .ok (.iaload, 1) := by decide +kernel
theorem dX11_many_11 : decode cX11_many 11 = .ok (.if_icmp .ge 22, 3) := by decide +kernel
theorem dX11_many_14 : decode cX11_many 14 = .ok (.iload_n 2, 1) := by decide +kernel
theorem dX11_many_15 : decode cX11_many 15 = .ok (.aload_n 0, 1) := by decide +kernel
theorem dX11_many_16 : decode cX11_many 16 = .ok (.iload_n 1, 1) := by decide +kernel
theorem dX11_many_17 : decode cX11_many 17 = .ok (.sipush 250, 3) := by decide +kernel
theorem dX11_many_20 : decode cX11_many 20 = .ok (.iload_n 3, 1) := by decide +kernel
theorem dX11_many_21 : decode cX11_many 21 = .ok (.iadd, 1) := by decide +kernel
theorem dX11_many_22 : decode cX11_many 22 = .ok (.invokevirtual 237, 3) := by decide +kernel
theorem dX11_many_25 : decode cX11_many 25 = .ok (.iadd, 1) := by decide +kernel
theorem dX11_many_26 : decode cX11_many 26 = .ok (.istore_n 2, 1) := by decide +kernel
theorem dX11_many_27 : decode cX11_many 27 = .ok (.iinc 3 1, 3) := by decide +kernel
theorem dX11_many_30 : decode cX11_many 30 = .ok (.goto (-26), 3) := by decide +kernel
theorem dX11_many_33 : decode cX11_many 33 = .ok (.iload_n 2, 1) := by decide +kernel
theorem dX11_many_34 : decode cX11_many 34 = .ok (.ireturn, 1) := by decide +kernel
theorem dX11_of_0 : decode cX11_of 0 = .ok (.aload_n 0, 1) := by decide +kernel
theorem dX11_of_1 : decode cX11_of 1 = .ok (.iconst 0, 1) := by decide +kernel
theorem dX11_of_2 : decode cX11_of 2 = .ok (.putfield 92, 3) := by decide +kernel
theorem dX11_of_5 : decode cX11_of 5 = .ok (.aload_n 0, 1) := by decide +kernel
theorem dX11_of_6 : decode cX11_of 6 = .ok (.iload_n 1, 1) := by decide +kernel
theorem dX11_of_7 : decode cX11_of 7 = .ok (.invokevirtual 256, 3) := by decide +kernel
theorem dX11_of_10 : decode cX11_of 10 = .ok (.ifCond .ne 9, 3) := by decide +kernel
theorem dX11_of_13 : decode cX11_of 13 = .ok (.aload_n 0, 1) := by decide +kernel
theorem dX11_of_14 : decode cX11_of 14 = .ok (.iconst 1, 1) := by decide +kernel
theorem dX11_of_15 : decode cX11_of 15 = .ok (.invokevirtual 201, 3) := by decide +kernel
theorem dX11_of_18 : decode cX11_of 18 = .ok (.ireturn, 1) := by decide +kernel
theorem dX11_of_19 : decode cX11_of 19 = .ok (.iload_n 2, 1) := by decide +kernel
theorem dX11_of_20 : decode cX11_of 20 = .ok (.i2l, 1) := by decide +kernel
theorem dX11_of_21 : decode cX11_of 21 = .ok (.lconst 0, 1) := by decide +kernel
theorem dX11_of_22 : decode cX11_of 22 = .ok (.ldc2_w 259, 3) := by decide +kernel
theorem dX11_of_25 : decode cX11_of 25 = .ok (.invokestatic 157, 3) := by decide +kernel
theorem dX11_of_28 : decode cX11_of 28 = .ok (.ifCond .ne 9, 3) := by decide +kernel
theorem dX11_of_31 : decode cX11_of 31 = .ok (.aload_n 0, 1) := by decide +kernel
theorem dX11_of_32 : decode cX11_of 32 = .ok (.iconst 2, 1) := by decide +kernel
theorem dX11_of_33 : decode cX11_of 33 = .ok (.invokevirtual 201, 3) := by decide +kernel
theorem dX11_of_36 : decode cX11_of 36 = .ok (.ireturn, 1) := by decide +kernel
theorem dX11_of_37 : decode cX11_of 37 = .ok (.iload_n 2, 1) := by decide +kernel
theorem dX11_of_38 : decode cX11_of 38 = .ok (.iconst 4, 1) := by decide +kernel
theorem dX11_of_39 : decode cX11_of 39 = .ok (.if_icmp .ge 12, 3) := by decide +kernel
theorem dX11_of_42 : decode cX11_of 42 = .ok (.aload_n 0, 1) := by decide +kernel
theorem dX11_of_43 : decode cX11_of 43 = .ok (.iload_n 1, 1) := by decide +kernel
theorem dX11_of_44 : decode cX11_of 44 = .ok (.iload_n 2, 1) := by decide +kernel
theorem dX11_of_45 : decode cX11_of 45 = .ok (.invokevirtual 237, 3) := by decide +kernel
theorem dX11_of_48 : decode cX11_of 48 = .ok (.goto 24, 3) := by decide +kernel
theorem dX11_of_51 : decode cX11_of 51 = .ok (.iload_n 2, 1) := by decide +kernel
theorem dX11_of_52 : decode cX11_of 52 = .ok (.iconst 4, 1) := by decide +kernel
theorem dX11_of_53 : decode cX11_of 53 = .ok (.if_icmp .ne 11, 3) := by decide +kernel
theorem dX11_of_56 : decode cX11_of 56 = .ok (.aload_n 0, 1) := by decide +kernel
theorem dX11_of_57 : decode cX11_of 57 = .ok (.iload_n 1, 1) := by decide +kernel
theorem dX11_of_58 : decode cX11_of 58 = .ok (.invokevirtual 261, 3) := by decide +kernel
theorem dX11_of_61 : decode cX11_of 61 = .ok (.goto 11, 3) := by decide +kernel
theorem dX11_of_64 : decode cX11_of 64 = .ok (.aload_n 0, 1) := by decide +kernel
theorem dX11_of_65 : decode cX11_of 65 = .ok (.iload_n 1, 1) := by decide +kernel
theorem dX11_of_66 : decode cX11_of 66 = .ok (.iload_n 2, 1) := by decide +kernel
theorem dX11_of_67 : decode cX11_of 67 = .ok (.iconst 1, 1) := by decide +kernel
theorem dX11_of_68 : decode cX11_of 68 = .ok (.isub, 1) := by decide +kernel
theorem dX11_of_69 : decode cX11_of 69 = .ok (.invokevirtual 237, 3) := by decide +kernel
theorem dX11_of_72 : decode cX11_of 72 = .ok (.ireturn, 1) := by decide +kernel
theorem dX11_layerAt_0 : decode cX11_layerAt 0 = .ok (.bipush 10, 2) := by decide +kernel
theorem dX11_layerAt_2 : decode cX11_layerAt 2 = .ok (.aload_n 0, 1) := by decide +kernel
theorem dX11_layerAt_3 : decode cX11_layerAt 3 = .ok (.iload_n 1, 1) := by decide +kernel
theorem dX11_layerAt_4 : decode cX11_layerAt 4 = .ok (.iconst 1, 1) := by decide +kernel
theorem dX11_layerAt_5 : decode cX11_layerAt 5 = .ok (.invokevirtual 237, 3) := by decide +kernel
theorem dX11_layerAt_8 : decode cX11_layerAt 8 = .ok (.iconst 1, 1) := by decide +kernel
theorem dX11_layerAt_9 : decode cX11_layerAt 9 = .ok (.iload_n 2, 1) := by decide +kernel
theorem dX11_layerAt_10 : decode cX11_layerAt 10 = .ok (.ishl, 1) := by decide +kernel
theorem dX11_layerAt_11 : decode cX11_layerAt 11 = .ok (.iconst 1, 1) := by decide +kernel
theorem dX11_layerAt_12 : decode cX11_layerAt 12 = .ok (.isub, 1) := by decide +kernel
theorem dX11_layerAt_13 : decode cX11_layerAt 13 = .ok (.imul, 1) := by decide +kernel
theorem dX11_layerAt_14 : decode cX11_layerAt 14 = .ok (.iadd, 1) := by decide +kernel
theorem dX11_layerAt_15 : decode cX11_layerAt 15 = .ok (.ireturn, 1) := by decide +kernel
theorem dX11_cell_0 : decode cX11_cell 0 = .ok (.aload_n 0, 1) := by decide +kernel
theorem dX11_cell_1 : decode cX11_cell 1 = .ok (.iconst 0, 1) := by decide +kernel
theorem dX11_cell_2 : decode cX11_cell 2 = .ok (.putfield 92, 3) := by decide +kernel
theorem dX11_cell_5 : decode cX11_cell 5 = .ok (.aload_n 0, 1) := by decide +kernel
theorem dX11_cell_6 : decode cX11_cell 6 = .ok (.iload_n 1, 1) := by decide +kernel
theorem dX11_cell_7 : decode cX11_cell 7 = .ok (.invokevirtual 256, 3) := by decide +kernel
theorem dX11_cell_10 : decode cX11_cell 10 = .ok (.ifCond .ne 9, 3) := by decide +kernel
theorem dX11_cell_13 : decode cX11_cell 13 = .ok (.aload_n 0, 1) := by decide +kernel
theorem dX11_cell_14 : decode cX11_cell 14 = .ok (.iconst 1, 1) := by decide +kernel
theorem dX11_cell_15 : decode cX11_cell 15 = .ok (.invokevirtual 201, 3) := by decide +kernel
theorem dX11_cell_18 : decode cX11_cell 18 = .ok (.ireturn, 1) := by decide +kernel
theorem dX11_cell_19 : decode cX11_cell 19 = .ok (.aload_n 0, 1) := by decide +kernel
theorem dX11_cell_20 : decode cX11_cell 20 = .ok (.iload_n 1, 1) := by decide +kernel
theorem dX11_cell_21 : decode cX11_cell 21 = .ok (.iconst 0, 1) := by decide +kernel
theorem dX11_cell_22 : decode cX11_cell 22 = .ok (.invokevirtual 237, 3) := by decide +kernel
theorem dX11_cell_25 : decode cX11_cell 25 = .ok (.iconst 3, 1) := by decide +kernel
theorem dX11_cell_26 : decode cX11_cell 26 = .ok (.if_icmp .ne 20, 3) := by decide +kernel
theorem dX11_cell_29 : decode cX11_cell 29 = .ok (.aload_n 0, 1) := by decide +kernel
theorem dX11_cell_30 : decode cX11_cell 30 = .ok (.iload_n 1, 1) := by decide +kernel
theorem dX11_cell_31 : decode cX11_cell 31 = .ok (.aload_n 0, 1) := by decide +kernel
theorem dX11_cell_32 : decode cX11_cell 32 = .ok (.iload_n 1, 1) := by decide +kernel
theorem dX11_cell_33 : decode cX11_cell 33 = .ok (.iconst 4, 1) := by decide +kernel
theorem dX11_cell_34 : decode cX11_cell 34 = .ok (.invokevirtual 237, 3) := by decide +kernel
theorem dX11_cell_37 : decode cX11_cell 37 = .ok (.invokevirtual 264, 3) := by decide +kernel
theorem dX11_cell_40 : decode cX11_cell 40 = .ok (.bipush 10, 2) := by decide +kernel
theorem dX11_cell_42 : decode cX11_cell 42 = .ok (.isub, 1) := by decide +kernel
theorem dX11_cell_43 : decode cX11_cell 43 = .ok (.goto 9, 3) := by decide +kernel
theorem dX11_cell_46 : decode cX11_cell 46 = .ok (.aload_n 0, 1) := by decide +kernel
theorem dX11_cell_47 : decode cX11_cell 47 = .ok (.iload_n 1, 1) := by decide +kernel
theorem dX11_cell_48 : decode cX11_cell 48 = .ok (.iconst 1, 1) := by decide +kernel
theorem dX11_cell_49 : decode cX11_cell 49 = .ok (.invokevirtual 237, 3) := by decide +kernel
theorem dX11_cell_52 : decode cX11_cell 52 = .ok (.istore_n 3, 1) := by decide +kernel
theorem dX11_cell_53 : decode cX11_cell 53 = .ok (.iload_n 2, 1) := by decide +kernel
theorem dX11_cell_54 : decode cX11_cell 54 = .ok (.i2l, 1) := by decide +kernel
theorem dX11_cell_55 : decode cX11_cell 55 = .ok (.lconst 0, 1) := by decide +kernel
theorem dX11_cell_56 : decode cX11_cell 56 = .ok (.iload_n 3, 1) := by decide +kernel
theorem dX11_cell_57 : decode cX11_cell 57 = .ok (.iconst 1, 1) := by decide +kernel
theorem dX11_cell_58 : decode cX11_cell 58 = .ok (.isub, 1) := by decide +kernel
theorem dX11_cell_59 : decode cX11_cell 59 = .ok (.i2l, 1) := by decide +kernel
theorem dX11_cell_60 : decode cX11_cell 60 = .ok (.invokestatic 157, 3) := by decide +kernel
theorem dX11_cell_63 : decode cX11_cell 63 = .ok (.ifCond .ne 9, 3) := by decide +kernel
theorem dX11_cell_66 : decode cX11_cell 66 = .ok (.aload_n 0, 1) := by decide +kernel
theorem dX11_cell_67 : decode cX11_cell 67 = .ok (.iconst 2, 1) := by decide +kernel
theorem dX11_cell_68 : decode cX11_cell 68 = .ok (.invokevirtual 201, 3) := by decide +kernel
theorem dX11_cell_71 : decode cX11_cell 71 = .ok (.ireturn, 1) := by decide +kernel
theorem dX11_cell_72 : decode cX11_cell 72 = .ok (.aload_n 0, 1) := by decide +kernel
theorem dX11_cell_73 : decode cX11_cell 73 = .ok (.iload_n 1, 1) := by decide +kernel
theorem dX11_cell_74 : decode cX11_cell 74 = .ok (.iconst 0, 1) := by decide +kernel
theorem dX11_cell_75 : decode cX11_cell 75 = .ok (.invokevirtual 237, 3) := by decide +kernel
theorem dX11_cell_78 : decode cX11_cell 78 = .ok (.iconst 2, 1) := by decide +kernel
theorem dX11_cell_79 : decode cX11_cell 79 = .ok (.if_icmp .eq 13, 3) := by decide +kernel
theorem dX11_cell_82 : decode cX11_cell 82 = .ok (.aload_n 0, 1) := by decide +kernel
theorem dX11_cell_83 : decode cX11_cell 83 = .ok (.iload_n 1, 1) := by decide +kernel
theorem dX11_cell_84 : decode cX11_cell 84 = .ok (.bipush 10, 2) := by decide +kernel
theorem dX11_cell_86 : decode cX11_cell 86 = .ok (.iload_n 2, 1) := by decide +kernel
theorem dX11_cell_87 : decode cX11_cell 87 = .ok (.iadd, 1) := by decide +kernel
theorem dX11_cell_88 : decode cX11_cell 88 = .ok (.invokevirtual 237, 3) := by decide +kernel
theorem dX11_cell_91 : decode cX11_cell 91 = .ok (.ireturn, 1) := by decide +kernel
theorem dX11_cell_92 : decode cX11_cell 92 = .ok (.iconst 0, 1) := by decide +kernel
theorem dX11_cell_93 : decode cX11_cell 93 = .ok (.istore 4, 2) := by decide +kernel
theorem dX11_cell_95 : decode cX11_cell 95 = .ok (.iconst 0, 1) := by decide +kernel
theorem dX11_cell_96 : decode cX11_cell 96 = .ok (.istore 5, 2) := by decide +kernel
theorem dX11_cell_98 : decode cX11_cell 98 = .ok (.iload 5, 2) := by decide +kernel
theorem dX11_cell_100 : decode cX11_cell 100 = .ok (.aload_n 0, 1) := by decide +kernel
theorem dX11_cell_101 : decode cX11_cell 101 = .ok (.iload_n 1, 1) := by decide +kernel
theorem dX11_cell_102 : decode cX11_cell 102 = .ok (.iconst 3, 1) := by decide +kernel
theorem dX11_cell_103 : decode cX11_cell 103 = .ok (.invokevirtual 237, 3) := by decide +kernel
theorem dX11_cell_106 : decode cX11_cell 106 = .ok (.if_icmp .ge 31, 3) := by decide +kernel
theorem dX11_cell_109 : decode cX11_cell 109 = .ok (.iload 4, 2) := by decide +kernel
theorem dX11_cell_111 : decode cX11_cell 111 = .ok (.aload_n 0, 1) := by decide +kernel
theorem dX11_cell_112 : decode cX11_cell 112 = .ok (.iload_n 1, 1) := by decide +kernel
theorem dX11_cell_113 : decode cX11_cell 113 = .ok (.iload_n 2, 1) := by decide +kernel
theorem dX11_cell_114 : decode cX11_cell 114 = .ok (.iload 5, 2) := by decide +kernel
theorem dX11_cell_116 : decode cX11_cell 116 = .ok (.invokevirtual 267, 3) := by decide +kernel
theorem dX11_cell_119 : decode cX11_cell 119 = .ok (.iconst (-1), 1) := by decide +kernel
theorem dX11_cell_120 : decode cX11_cell 120 = .ok (.if_icmp .eq 7, 3) := by decide +kernel
theorem dX11_cell_123 : decode cX11_cell 123 = .ok (.iconst 1, 1) := by decide +kernel
theorem dX11_cell_124 : decode cX11_cell 124 = .ok (.goto 4, 3) := by decide +kernel
theorem dX11_cell_127 : decode cX11_cell 127 = .ok (.iconst 0, 1) := by decide +kernel
theorem dX11_cell_128 : decode cX11_cell 128 = .ok (.iadd, 1) := by decide +kernel
theorem dX11_cell_129 : decode cX11_cell 129 = .ok (.istore 4, 2) := by decide +kernel
theorem dX11_cell_131 : decode cX11_cell 131 = .ok (.iinc 5 1, 3) := by decide +kernel
theorem dX11_cell_134 : decode cX11_cell 134 = .ok (.goto (-36), 3) := by decide +kernel
theorem dX11_cell_137 : decode cX11_cell 137 = .ok (.iload 4, 2) := by decide +kernel
theorem dX11_cell_139 : decode cX11_cell 139 = .ok (.ireturn, 1) := by decide +kernel
theorem dX11_slotAt_0 : decode cX11_slotAt 0 = .ok (.bipush 10, 2) := by decide +kernel
theorem dX11_slotAt_2 : decode cX11_slotAt 2 = .ok (.aload_n 0, 1) := by decide +kernel
theorem dX11_slotAt_3 : decode cX11_slotAt 3 = .ok (.iload_n 1, 1) := by decide +kernel
theorem dX11_slotAt_4 : decode cX11_slotAt 4 = .ok (.iconst 3, 1) := by decide +kernel
theorem dX11_slotAt_5 : decode cX11_slotAt 5 = .ok (.invokevirtual 237, 3) := by decide +kernel
theorem dX11_slotAt_8 : decode cX11_slotAt 8 = .ok (.iload_n 2, 1) := by decide +kernel
theorem dX11_slotAt_9 : decode cX11_slotAt 9 = .ok (.imul, 1) := by decide +kernel
theorem dX11_slotAt_10 : decode cX11_slotAt 10 = .ok (.iadd, 1) := by decide +kernel
theorem dX11_slotAt_11 : decode cX11_slotAt 11 = .ok (.iload_n 3, 1) := by decide +kernel
theorem dX11_slotAt_12 : decode cX11_slotAt 12 = .ok (.iadd, 1) := by decide +kernel
theorem dX11_slotAt_13 : decode cX11_slotAt 13 = .ok (.ireturn, 1) := by decide +kernel
theorem dX11_guestIn_0 : decode cX11_guestIn 0 = .ok (.aload_n 0, 1) := by decide +kernel
theorem dX11_guestIn_1 : decode cX11_guestIn 1 = .ok (.iload_n 1, 1) := by decide +kernel
theorem dX11_guestIn_2 : decode cX11_guestIn 2 = .ok (.aload_n 0, 1) := by decide +kernel
theorem dX11_guestIn_3 : decode cX11_guestIn 3 = .ok (.iload_n 1, 1) := by decide +kernel
theorem dX11_guestIn_4 : decode cX11_guestIn 4 = .ok (.iload_n 2, 1) := by decide +kernel
theorem dX11_guestIn_5 : decode cX11_guestIn 5 = .ok (.iload_n 3, 1) := by decide +kernel
theorem dX11_guestIn_6 : decode cX11_guestIn 6 = .ok (.invokevirtual 270, 3) := by decide +kernel
theorem dX11_guestIn_9 : decode cX11_guestIn 9 = .ok (.invokevirtual 237, 3) := by decide +kernel
theorem dX11_guestIn_12 : decode cX11_guestIn 12 = .ok (.iconst 1, 1) := by decide +kernel
theorem dX11_guestIn_13 : decode cX11_guestIn 13 = .ok (.isub, 1) := by decide +kernel
theorem dX11_guestIn_14 : decode cX11_guestIn 14 = .ok (.ireturn, 1) := by decide +kernel
theorem dX11_guest_0 : decode cX11_guest 0 = .ok (.aload_n 0, 1) := by decide +kernel
theorem dX11_guest_1 : decode cX11_guest 1 = .ok (.iconst 0, 1) := by decide +kernel
theorem dX11_guest_2 : decode cX11_guest 2 = .ok (.putfield 92, 3) := by decide +kernel
theorem dX11_guest_5 : decode cX11_guest 5 = .ok (.aload_n 0, 1) := by decide +kernel
theorem dX11_guest_6 : decode cX11_guest 6 = .ok (.iload_n 1, 1) := by decide +kernel
theorem dX11_guest_7 : decode cX11_guest 7 = .ok (.invokevirtual 256, 3) := by decide +kernel
theorem dX11_guest_10 : decode cX11_guest 10 = .ok (.ifCond .ne 9, 3) := by decide +kernel
theorem dX11_guest_13 : decode cX11_guest 13 = .ok (.aload_n 0, 1) := by decide +kernel
theorem dX11_guest_14 : decode cX11_guest 14 = .ok (.iconst 1, 1) := by decide +kernel
theorem dX11_guest_15 : decode cX11_guest 15 = .ok (.invokevirtual 201, 3) := by decide +kernel
theorem dX11_guest_18 : decode cX11_guest 18 = .ok (.ireturn, 1) := by decide +kernel
theorem dX11_guest_19 : decode cX11_guest 19 = .ok (.aload_n 0, 1) := by decide +kernel
theorem dX11_guest_20 : decode cX11_guest 20 = .ok (.iload_n 1, 1) := by decide +kernel
theorem dX11_guest_21 : decode cX11_guest 21 = .ok (.iconst 0, 1) := by decide +kernel
theorem dX11_guest_22 : decode cX11_guest 22 = .ok (.invokevirtual 237, 3) := by decide +kernel
theorem dX11_guest_25 : decode cX11_guest 25 = .ok (.iconst 2, 1) := by decide +kernel
theorem dX11_guest_26 : decode cX11_guest 26 = .ok (.if_icmp .eq 9, 3) := by decide +kernel
theorem dX11_guest_29 : decode cX11_guest 29 = .ok (.aload_n 0, 1) := by decide +kernel
theorem dX11_guest_30 : decode cX11_guest 30 = .ok (.iconst 2, 1) := by decide +kernel
theorem dX11_guest_31 : decode cX11_guest 31 = .ok (.invokevirtual 201, 3) := by decide +kernel
theorem dX11_guest_34 : decode cX11_guest 34 = .ok (.ireturn, 1) := by decide +kernel
theorem dX11_guest_35 : decode cX11_guest 35 = .ok (.iload_n 2, 1) := by decide +kernel
theorem dX11_guest_36 : decode cX11_guest 36 = .ok (.i2l, 1) := by decide +kernel
theorem dX11_guest_37 : decode cX11_guest 37 = .ok (.lconst 0, 1) := by decide +kernel
theorem dX11_guest_38 : decode cX11_guest 38 = .ok (.aload_n 0, 1) := by decide +kernel
theorem dX11_guest_39 : decode cX11_guest 39 = .ok (.iload_n 1, 1) := by decide +kernel
theorem dX11_guest_40 : decode cX11_guest 40 = .ok (.iconst 1, 1) := by decide +kernel
theorem dX11_guest_41 : decode cX11_guest 41 = .ok (.invokevirtual 237, 3) := by decide +kernel
theorem dX11_guest_44 : decode cX11_guest 44 = .ok (.iconst 1, 1) := by decide +kernel
theorem dX11_guest_45 : decode cX11_guest 45 = .ok (.isub, 1) := by decide +kernel
theorem dX11_guest_46 : decode cX11_guest 46 = .ok (.i2l, 1) := by decide +kernel
theorem dX11_guest_47 : decode cX11_guest 47 = .ok (.invokestatic 157, 3) := by decide +kernel
theorem dX11_guest_50 : decode cX11_guest 50 = .ok (.ifCond .eq 21, 3) := by decide +kernel
theorem dX11_guest_53 : decode cX11_guest 53 = .ok (.iload_n 3, 1) := by decide +kernel
theorem dX11_guest_54 : decode cX11_guest 54 = .ok (.i2l, 1) := by decide +kernel
theorem dX11_guest_55 : decode cX11_guest 55 = .ok (.lconst 0, 1) := by decide +kernel
theorem dX11_guest_56 : decode cX11_guest 56 = .ok (.aload_n 0, 1) := by decide +kernel
theorem dX11_guest_57 : decode cX11_guest 57 = .ok (.iload_n 1, 1) := by decide +kernel
theorem dX11_guest_58 : decode cX11_guest 58 = .ok (.iconst 3, 1) := by decide +kernel
theorem dX11_guest_59 : decode cX11_guest 59 = .ok (.invokevirtual 237, 3) := by decide +kernel
theorem dX11_guest_62 : decode cX11_guest 62 = .ok (.iconst 1, 1) := by decide +kernel
theorem dX11_guest_63 : decode cX11_guest 63 = .ok (.isub, 1) := by decide +kernel
theorem dX11_guest_64 : decode cX11_guest 64 = .ok (.i2l, 1) := by decide +kernel
theorem dX11_guest_65 : decode cX11_guest 65 = .ok (.invokestatic 157, 3) := by decide +kernel
theorem dX11_guest_68 : decode cX11_guest 68 = .ok (.ifCond .ne 9, 3) := by decide +kernel
theorem dX11_guest_71 : decode cX11_guest 71 = .ok (.aload_n 0, 1) := by decide +kernel
theorem dX11_guest_72 : decode cX11_guest 72 = .ok (.iconst 3, 1) := by decide +kernel
theorem dX11_guest_73 : decode cX11_guest 73 = .ok (.invokevirtual 201, 3) := by decide +kernel
theorem dX11_guest_76 : decode cX11_guest 76 = .ok (.ireturn, 1) := by decide +kernel
theorem dX11_guest_77 : decode cX11_guest 77 = .ok (.aload_n 0, 1) := by decide +kernel
theorem dX11_guest_78 : decode cX11_guest 78 = .ok (.iload_n 1, 1) := by decide +kernel
theorem dX11_guest_79 : decode cX11_guest 79 = .ok (.iload_n 2, 1) := by decide +kernel
theorem dX11_guest_80 : decode cX11_guest 80 = .ok (.iload_n 3, 1) := by decide +kernel
theorem dX11_guest_81 : decode cX11_guest 81 = .ok (.invokevirtual 267, 3) := by decide +kernel
theorem dX11_guest_84 : decode cX11_guest 84 = .ok (.ireturn, 1) := by decide +kernel
theorem dX11_spot_0 : decode cX11_spot 0 = .ok (.aload_n 0, 1) := by decide +kernel
theorem dX11_spot_1 : decode cX11_spot 1 = .ok (.iload_n 2, 1) := by decide +kernel
theorem dX11_spot_2 : decode cX11_spot 2 = .ok (.iload_n 3, 1) := by decide +kernel
theorem dX11_spot_3 : decode cX11_spot 3 = .ok (.aload_n 0, 1) := by decide +kernel
theorem dX11_spot_4 : decode cX11_spot 4 = .ok (.iload_n 1, 1) := by decide +kernel
theorem dX11_spot_5 : decode cX11_spot 5 = .ok (.iconst 1, 1) := by decide +kernel
theorem dX11_spot_6 : decode cX11_spot 6 = .ok (.invokevirtual 237, 3) := by decide +kernel
theorem dX11_spot_9 : decode cX11_spot 9 = .ok (.invokevirtual 225, 3) := by decide +kernel
theorem dX11_spot_12 : decode cX11_spot 12 = .ok (.ireturn, 1) := by decide +kernel
theorem dX11_isTagged_0 : decode cX11_isTagged 0 = .ok (.iconst 0, 1) := by decide +kernel
theorem dX11_isTagged_1 : decode cX11_isTagged 1 = .ok (.istore 4, 2) := by decide +kernel
theorem dX11_isTagged_3 : decode cX11_isTagged 3 = .ok (.iload 4, 2) := by decide +kernel
theorem dX11_isTagged_5 : decode cX11_isTagged 5 = .ok (.aload_n 0, 1) := by decide +kernel
theorem dX11_isTagged_6 : decode cX11_isTagged 6 = .ok (.iload_n 1, 1) := by decide +kernel
theorem dX11_isTagged_7 : decode cX11_isTagged 7 = .ok (.iconst 3, 1) := by decide +kernel
theorem dX11_isTagged_8 : decode cX11_isTagged 8 = .ok (.invokevirtual 237, 3) := by decide +kernel
theorem dX11_isTagged_11 : decode cX11_isTagged 11 = .ok (.if_icmp .ge 39, 3) := by decide +kernel
theorem dX11_isTagged_14 : decode cX11_isTagged 14 = .ok (.aload_n 0, 1) := by decide +kernel
theorem dX11_isTagged_15 : decode cX11_isTagged 15 = .ok (.iload_n 1, 1) := by decide +kernel
theorem dX11_isTagged_16 : decode cX11_isTagged 16 = .ok (.iload_n 2, 1) := by decide +kernel
theorem dX11_isTagged_17 : decode cX11_isTagged 17 = .ok (.iload 4, 2) := by decide +kernel
theorem dX11_isTagged_19 : decode cX11_isTagged 19 = .ok (.invokevirtual 267, 3) := by decide +kernel
theorem dX11_isTagged_22 : decode cX11_isTagged 22 = .ok (.iconst (-1), 1) := by decide +kernel
theorem dX11_isTagged_23 : decode cX11_isTagged 23 = .ok (.if_icmp .eq 21, 3) := by decide +kernel
theorem dX11_isTagged_26 : decode cX11_isTagged 26 = .ok (.aload_n 0, 1) := by decide +kernel
theorem dX11_isTagged_27 : decode cX11_isTagged 27 = .ok (.aload_n 0, 1) := by decide +kernel
theorem dX11_isTagged_28 : decode cX11_isTagged 28 = .ok (.iload_n 1, 1) := by decide +kernel
theorem dX11_isTagged_29 : decode cX11_isTagged 29 = .ok (.iload_n 2, 1) := by decide +kernel
theorem dX11_isTagged_30 : decode cX11_isTagged 30 = .ok (.iload 4, 2) := by decide +kernel
theorem dX11_isTagged_32 : decode cX11_isTagged 32 = .ok (.invokevirtual 267, 3) := by decide +kernel
theorem dX11_isTagged_35 : decode cX11_isTagged 35 = .ok (.invokevirtual 232, 3) := by decide +kernel
theorem dX11_isTagged_38 : decode cX11_isTagged 38 = .ok (.iload_n 3, 1) := by decide +kernel
theorem dX11_isTagged_39 : decode cX11_isTagged 39 = .ok (.if_icmp .ne 5, 3) := by decide +kernel
theorem dX11_isTagged_42 : decode cX11_isTagged 42 = .ok (.iconst 1, 1) := by decide +kernel
theorem dX11_isTagged_43 : decode cX11_isTagged 43 = .ok (.ireturn, 1) := by decide +kernel
theorem dX11_isTagged_44 : decode cX11_isTagged 44 = .ok (.iinc 4 1, 3) := by decide +kernel
theorem dX11_isTagged_47 : decode cX11_isTagged 47 = .ok (.goto (-44), 3) := by decide +kernel
theorem dX11_isTagged_50 : decode cX11_isTagged 50 = .ok (.iconst 0, 1) := by decide +kernel
theorem dX11_isTagged_51 : decode cX11_isTagged 51 = .ok (.ireturn, 1) := by decide +kernel
theorem dX11_freeSlot_0 : decode cX11_freeSlot 0 = .ok (.iconst 0, 1) := by decide +kernel
theorem dX11_freeSlot_1 : decode cX11_freeSlot 1 = .ok (.istore_n 3, 1) := by decide +kernel
theorem dX11_freeSlot_2 : decode cX11_freeSlot 2 = .ok (.iload_n 3, 1) := by decide +kernel
theorem dX11_freeSlot_3 : decode cX11_freeSlot 3 = .ok (.aload_n 0, 1) := by decide +kernel
theorem dX11_freeSlot_4 : decode cX11_freeSlot 4 = .ok (.iload_n 1, 1) := by decide +kernel
theorem dX11_freeSlot_5 : decode cX11_freeSlot 5 = .ok (.iconst 3, 1) := by decide +kernel
theorem dX11_freeSlot_6 : decode cX11_freeSlot 6 = .ok (.invokevirtual 237, 3) := by decide +kernel
theorem dX11_freeSlot_9 : decode cX11_freeSlot 9 = .ok (.if_icmp .ge 22, 3) := by decide +kernel
theorem dX11_freeSlot_12 : decode cX11_freeSlot 12 = .ok (.aload_n 0, 1) := by decide +kernel
theorem dX11_freeSlot_13 : decode cX11_freeSlot 13 = .ok (.iload_n 1, 1) := by decide +kernel
theorem dX11_freeSlot_14 : decode cX11_freeSlot 14 = .ok (.iload_n 2, 1) := by decide +kernel
theorem dX11_freeSlot_15 : decode cX11_freeSlot 15 = .ok (.iload_n 3, 1) := by decide +kernel
theorem dX11_freeSlot_16 : decode cX11_freeSlot 16 = .ok (.invokevirtual 267, 3) := by decide +kernel
theorem dX11_freeSlot_19 : decode cX11_freeSlot 19 = .ok (.iconst (-1), 1) := by decide +kernel
theorem dX11_freeSlot_20 : decode cX11_freeSlot 20 = .ok (.if_icmp .ne 5, 3) := by decide +kernel
theorem dX11_freeSlot_23 : decode cX11_freeSlot 23 = .ok (.iload_n 3, 1) := by decide +kernel
theorem dX11_freeSlot_24 : decode cX11_freeSlot 24 = .ok (.ireturn, 1) := by decide +kernel
theorem dX11_freeSlot_25 : decode cX11_freeSlot 25 = .ok (.iinc 3 1, 3) := by decide +kernel
theorem dX11_freeSlot_28 : decode cX11_freeSlot 28 = .ok (.goto (-26), 3) := by decide +kernel
theorem dX11_freeSlot_31 : decode cX11_freeSlot 31 = .ok (.iconst (-1), 1) := by decide +kernel
theorem dX11_freeSlot_32 : decode cX11_freeSlot 32 = .ok (.ireturn, 1) := by decide +kernel
theorem dX11_otherNest_0 : decode cX11_otherNest 0 = .ok (.aload_n 0, 1) := by decide +kernel
theorem dX11_otherNest_1 : decode cX11_otherNest 1 = .ok (.iload_n 1, 1) := by decide +kernel
theorem dX11_otherNest_2 : decode cX11_otherNest 2 = .ok (.iconst 0, 1) := by decide +kernel
theorem dX11_otherNest_3 : decode cX11_otherNest 3 = .ok (.iload_n 3, 1) := by decide +kernel
theorem dX11_otherNest_4 : decode cX11_otherNest 4 = .ok (.invokevirtual 273, 3) := by decide +kernel
theorem dX11_otherNest_7 : decode cX11_otherNest 7 = .ok (.istore 4, 2) := by decide +kernel
theorem dX11_otherNest_9 : decode cX11_otherNest 9 = .ok (.aload_n 0, 1) := by decide +kernel
theorem dX11_otherNest_10 : decode cX11_otherNest 10 = .ok (.iload_n 1, 1) := by decide +kernel
theorem dX11_otherNest_11 : decode cX11_otherNest 11 = .ok (.iconst 1, 1) := by decide +kernel
theorem dX11_otherNest_12 : decode cX11_otherNest 12 = .ok (.iload_n 3, 1) := by decide +kernel
theorem dX11_otherNest_13 : decode cX11_otherNest 13 = .ok (.invokevirtual 273, 3) := by decide +kernel
theorem dX11_otherNest_16 : decode cX11_otherNest 16 = .ok (.istore 5, 2) := by decide +kernel
theorem dX11_otherNest_18 : decode cX11_otherNest 18 = .ok (.iload 4, 2) := by decide +kernel
theorem dX11_otherNest_20 : decode cX11_otherNest 20 = .ok (.iload 5, 2) := by decide +kernel
theorem dX11_otherNest_22 : decode cX11_otherNest 22 = .ok (.if_icmp .ne 7, 3) := by decide +kernel
theorem dX11_otherNest_25 : decode cX11_otherNest 25 = .ok (.iconst (-1), 1) := by decide +kernel
theorem dX11_otherNest_26 : decode cX11_otherNest 26 = .ok (.goto 16, 3) := by decide +kernel
theorem dX11_otherNest_29 : decode cX11_otherNest 29 = .ok (.iload 4, 2) := by decide +kernel
theorem dX11_otherNest_31 : decode cX11_otherNest 31 = .ok (.iload_n 2, 1) := by decide +kernel
theorem dX11_otherNest_32 : decode cX11_otherNest 32 = .ok (.if_icmp .ne 8, 3) := by decide +kernel
theorem dX11_otherNest_35 : decode cX11_otherNest 35 = .ok (.iload 5, 2) := by decide +kernel
theorem dX11_otherNest_37 : decode cX11_otherNest 37 = .ok (.goto 5, 3) := by decide +kernel
theorem dX11_otherNest_40 : decode cX11_otherNest 40 = .ok (.iload 4, 2) := by decide +kernel
theorem dX11_otherNest_42 : decode cX11_otherNest 42 = .ok (.ireturn, 1) := by decide +kernel
theorem dX11_nestPuts_0 : decode cX11_nestPuts 0 = .ok (.aload_n 0, 1) := by decide +kernel
theorem dX11_nestPuts_1 : decode cX11_nestPuts 1 = .ok (.iload_n 1, 1) := by decide +kernel
theorem dX11_nestPuts_2 : decode cX11_nestPuts 2 = .ok (.iconst 0, 1) := by decide +kernel
theorem dX11_nestPuts_3 : decode cX11_nestPuts 3 = .ok (.iload_n 2, 1) := by decide +kernel
theorem dX11_nestPuts_4 : decode cX11_nestPuts 4 = .ok (.invokevirtual 273, 3) := by decide +kernel
theorem dX11_nestPuts_7 : decode cX11_nestPuts 7 = .ok (.istore_n 3, 1) := by decide +kernel
theorem dX11_nestPuts_8 : decode cX11_nestPuts 8 = .ok (.aload_n 0, 1) := by decide +kernel
theorem dX11_nestPuts_9 : decode cX11_nestPuts 9 = .ok (.iload_n 1, 1) := by decide +kernel
theorem dX11_nestPuts_10 : decode cX11_nestPuts 10 = .ok (.iconst 1, 1) := by decide +kernel
theorem dX11_nestPuts_11 : decode cX11_nestPuts 11 = .ok (.iload_n 2, 1) := by decide +kernel
theorem dX11_nestPuts_12 : decode cX11_nestPuts 12 = .ok (.invokevirtual 273, 3) := by decide +kernel
theorem dX11_nestPuts_15 : decode cX11_nestPuts 15 = .ok (.istore 4, 2) := by decide +kernel
theorem dX11_nestPuts_17 : decode cX11_nestPuts 17 = .ok (.aload_n 0, 1) := by decide +kernel
theorem dX11_nestPuts_18 : decode cX11_nestPuts 18 = .ok (.iload_n 1, 1) := by decide +kernel
theorem dX11_nestPuts_19 : decode cX11_nestPuts 19 = .ok (.iload_n 3, 1) := by decide +kernel
theorem dX11_nestPuts_20 : decode cX11_nestPuts 20 = .ok (.invokevirtual 276, 3) := by decide +kernel
theorem dX11_nestPuts_23 : decode cX11_nestPuts 23 = .ok (.iconst (-1), 1) := by decide +kernel
theorem dX11_nestPuts_24 : decode cX11_nestPuts 24 = .ok (.if_icmp .eq 7, 3) := by decide +kernel
theorem dX11_nestPuts_27 : decode cX11_nestPuts 27 = .ok (.iload_n 3, 1) := by decide +kernel
theorem dX11_nestPuts_28 : decode cX11_nestPuts 28 = .ok (.goto 20, 3) := by decide +kernel
theorem dX11_nestPuts_31 : decode cX11_nestPuts 31 = .ok (.aload_n 0, 1) := by decide +kernel
theorem dX11_nestPuts_32 : decode cX11_nestPuts 32 = .ok (.iload_n 1, 1) := by decide +kernel
theorem dX11_nestPuts_33 : decode cX11_nestPuts 33 = .ok (.iload 4, 2) := by decide +kernel
theorem dX11_nestPuts_35 : decode cX11_nestPuts 35 = .ok (.invokevirtual 276, 3) := by decide +kernel
theorem dX11_nestPuts_38 : decode cX11_nestPuts 38 = .ok (.iconst (-1), 1) := by decide +kernel
theorem dX11_nestPuts_39 : decode cX11_nestPuts 39 = .ok (.if_icmp .eq 8, 3) := by decide +kernel
theorem dX11_nestPuts_42 : decode cX11_nestPuts 42 = .ok (.iload 4, 2) := by decide +kernel
theorem dX11_nestPuts_44 : decode cX11_nestPuts 44 = .ok (.goto 4, 3) := by decide +kernel
theorem dX11_nestPuts_47 : decode cX11_nestPuts 47 = .ok (.iconst (-1), 1) := by decide +kernel
theorem dX11_nestPuts_48 : decode cX11_nestPuts 48 = .ok (.istore 5, 2) := by decide +kernel
theorem dX11_nestPuts_50 : decode cX11_nestPuts 50 = .ok (.iload 5, 2) := by decide +kernel
theorem dX11_nestPuts_52 : decode cX11_nestPuts 52 = .ok (.iconst (-1), 1) := by decide +kernel
theorem dX11_nestPuts_53 : decode cX11_nestPuts 53 = .ok (.if_icmp .eq 34, 3) := by decide +kernel
theorem dX11_nestPuts_56 : decode cX11_nestPuts 56 = .ok (.aload_n 0, 1) := by decide +kernel
theorem dX11_nestPuts_57 : decode cX11_nestPuts 57 = .ok (.iload_n 1, 1) := by decide +kernel
theorem dX11_nestPuts_58 : decode cX11_nestPuts 58 = .ok (.aload_n 0, 1) := by decide +kernel
theorem dX11_nestPuts_59 : decode cX11_nestPuts 59 = .ok (.iload_n 1, 1) := by decide +kernel
theorem dX11_nestPuts_60 : decode cX11_nestPuts 60 = .ok (.iload 5, 2) := by decide +kernel
theorem dX11_nestPuts_62 : decode cX11_nestPuts 62 = .ok (.aload_n 0, 1) := by decide +kernel
theorem dX11_nestPuts_63 : decode cX11_nestPuts 63 = .ok (.iload_n 1, 1) := by decide +kernel
theorem dX11_nestPuts_64 : decode cX11_nestPuts 64 = .ok (.iload 5, 2) := by decide +kernel
theorem dX11_nestPuts_66 : decode cX11_nestPuts 66 = .ok (.invokevirtual 276, 3) := by decide +kernel
theorem dX11_nestPuts_69 : decode cX11_nestPuts 69 = .ok (.invokevirtual 270, 3) := by decide +kernel
theorem dX11_nestPuts_72 : decode cX11_nestPuts 72 = .ok (.iload_n 2, 1) := by decide +kernel
theorem dX11_nestPuts_73 : decode cX11_nestPuts 73 = .ok (.iconst 1, 1) := by decide +kernel
theorem dX11_nestPuts_74 : decode cX11_nestPuts 74 = .ok (.iadd, 1) := by decide +kernel
theorem dX11_nestPuts_75 : decode cX11_nestPuts 75 = .ok (.invokevirtual 252, 3) := by decide +kernel
theorem dX11_nestPuts_78 : decode cX11_nestPuts 78 = .ok (.aload_n 0, 1) := by decide +kernel
theorem dX11_nestPuts_79 : decode cX11_nestPuts 79 = .ok (.iload_n 1, 1) := by decide +kernel
theorem dX11_nestPuts_80 : decode cX11_nestPuts 80 = .ok (.iconst 5, 1) := by decide +kernel
theorem dX11_nestPuts_81 : decode cX11_nestPuts 81 = .ok (.iconst 0, 1) := by decide +kernel
theorem dX11_nestPuts_82 : decode cX11_nestPuts 82 = .ok (.invokevirtual 252, 3) := by decide +kernel
theorem dX11_nestPuts_85 : decode cX11_nestPuts 85 = .ok (.iconst 1, 1) := by decide +kernel
theorem dX11_nestPuts_86 : decode cX11_nestPuts 86 = .ok (.ireturn, 1) := by decide +kernel
theorem dX11_nestPuts_87 : decode cX11_nestPuts 87 = .ok (.iconst 0, 1) := by decide +kernel
theorem dX11_nestPuts_88 : decode cX11_nestPuts 88 = .ok (.istore 6, 2) := by decide +kernel
theorem dX11_nestPuts_90 : decode cX11_nestPuts 90 = .ok (.iload 6, 2) := by decide +kernel
theorem dX11_nestPuts_92 : decode cX11_nestPuts 92 = .ok (.bipush 16, 2) := by decide +kernel
theorem dX11_nestPuts_94 : decode cX11_nestPuts 94 = .ok (.if_icmp .ge 17, 3) := by decide +kernel
theorem dX11_nestPuts_97 : decode cX11_nestPuts 97 = .ok (.aload_n 0, 1) := by decide +kernel
theorem dX11_nestPuts_98 : decode cX11_nestPuts 98 = .ok (.getfield 42, 3) := by decide +kernel
theorem dX11_nestPuts_101 : decode cX11_nestPuts 101 = .ok (.iload 6, 2) := by decide +kernel
theorem dX11_nestPuts_103 : decode cX11_nestPuts 103 = .ok (.iconst 0, 1) := by decide +kernel
theorem dX11_nestPuts_104 : decode cX11_nestPuts 104 = .ok (.bastore, 1) := by decide +kernel
theorem dX11_nestPuts_105 : decode cX11_nestPuts 105 = .ok (.iinc 6 1, 3) := by decide +kernel
theorem dX11_nestPuts_108 : decode cX11_nestPuts 108 = .ok (.goto (-18), 3) := by decide +kernel
theorem dX11_nestPuts_111 : decode cX11_nestPuts 111 = .ok (.iconst 0, 1) := by decide +kernel
theorem dX11_nestPuts_112 : decode cX11_nestPuts 112 = .ok (.istore 6, 2) := by decide +kernel
theorem dX11_nestPuts_114 : decode cX11_nestPuts 114 = .ok (.iconst 0, 1) := by decide +kernel
theorem dX11_nestPuts_115 : decode cX11_nestPuts 115 = .ok (.istore 7, 2) := by decide +kernel
theorem dX11_nestPuts_117 : decode cX11_nestPuts 117 = .ok (.iload 7, 2) := by decide +kernel
theorem dX11_nestPuts_119 : decode cX11_nestPuts 119 = .ok (.iconst 2, 1) := by decide +kernel
theorem dX11_nestPuts_120 : decode cX11_nestPuts 120 = .ok (.if_icmp .ge 63, 3) := by decide +kernel
theorem dX11_nestPuts_123 : decode cX11_nestPuts 123 = .ok (.iload 7, 2) := by decide +kernel
theorem dX11_nestPuts_125 : decode cX11_nestPuts 125 = .ok (.ifCond .ne 7, 3) := by decide +kernel
theorem dX11_nestPuts_128 : decode cX11_nestPuts 128 = .ok (.iload_n 3, 1) := by decide +kernel
theorem dX11_nestPuts_129 : decode cX11_nestPuts 129 = .ok (.goto 5, 3) := by decide +kernel
theorem dX11_nestPuts_132 : decode cX11_nestPuts 132 = .ok (.iload 4, 2) := by decide +kernel
theorem dX11_nestPuts_134 : decode cX11_nestPuts 134 = .ok (.istore 8, 2) := by decide +kernel
theorem dX11_nestPuts_136 : decode cX11_nestPuts 136 = .ok (.aload_n 0, 1) := by decide +kernel
theorem dX11_nestPuts_137 : decode cX11_nestPuts 137 = .ok (.getfield 42, 3) := by decide +kernel
theorem dX11_nestPuts_140 : decode cX11_nestPuts 140 = .ok (.iload 8, 2) := by decide +kernel
theorem dX11_nestPuts_142 : decode cX11_nestPuts 142 = .ok (.baload, 1) := by decide +kernel
theorem dX11_nestPuts_143 : decode cX11_nestPuts 143 = .ok (.ifCond .eq 6, 3) := by decide +kernel
theorem dX11_nestPuts_146 : decode cX11_nestPuts 146 = .ok (.goto 31, 3) := by decide +kernel
theorem dX11_nestPuts_149 : decode cX11_nestPuts 149 = .ok (.aload_n 0, 1) := by decide +kernel
theorem dX11_nestPuts_150 : decode cX11_nestPuts 150 = .ok (.getfield 42, 3) := by decide +kernel
theorem dX11_nestPuts_153 : decode cX11_nestPuts 153 = .ok (.iload 8, 2) := by decide +kernel
theorem dX11_nestPuts_155 : decode cX11_nestPuts 155 = .ok (.iconst 1, 1) := by decide +kernel
theorem dX11_nestPuts_156 : decode cX11_nestPuts 156 = .ok (.bastore, 1) := by decide +kernel
theorem dX11_nestPuts_157 : decode cX11_nestPuts 157 = .ok (.aload_n 0, 1) := by decide +kernel
theorem dX11_nestPuts_158 : decode cX11_nestPuts 158 = .ok (.getfield 39, 3) := by decide +kernel
theorem dX11_nestPuts_161 : decode cX11_nestPuts 161 = .ok (.iload 8, 2) := by decide +kernel
theorem dX11_nestPuts_163 : decode cX11_nestPuts 163 = .ok (.iconst (-1), 1) := by decide +kernel
theorem dX11_nestPuts_164 : decode cX11_nestPuts 164 = .ok (.iastore, 1) := by decide +kernel
theorem dX11_nestPuts_165 : decode cX11_nestPuts 165 = .ok (.aload_n 0, 1) := by decide +kernel
theorem dX11_nestPuts_166 : decode cX11_nestPuts 166 = .ok (.getfield 36, 3) := by decide +kernel
theorem dX11_nestPuts_169 : decode cX11_nestPuts 169 = .ok (.iload 6, 2) := by decide +kernel
theorem dX11_nestPuts_171 : decode cX11_nestPuts 171 = .ok (.iload 8, 2) := by decide +kernel
theorem dX11_nestPuts_173 : decode cX11_nestPuts 173 = .ok (.iastore, 1) := by decide +kernel
theorem dX11_nestPuts_174 : decode cX11_nestPuts 174 = .ok (.iinc 6 1, 3) := by decide +kernel
theorem dX11_nestPuts_177 : decode cX11_nestPuts 177 = .ok (.iinc 7 1, 3) := by decide +kernel
theorem dX11_nestPuts_180 : decode cX11_nestPuts 180 = .ok (.goto (-63), 3) := by decide +kernel
theorem dX11_nestPuts_183 : decode cX11_nestPuts 183 = .ok (.iconst 0, 1) := by decide +kernel
theorem dX11_nestPuts_184 : decode cX11_nestPuts 184 = .ok (.istore 7, 2) := by decide +kernel
theorem dX11_nestPuts_186 : decode cX11_nestPuts 186 = .ok (.iload 7, 2) := by decide +kernel
theorem dX11_nestPuts_188 : decode cX11_nestPuts 188 = .ok (.iload 6, 2) := by decide +kernel
theorem dX11_nestPuts_190 : decode cX11_nestPuts 190 = .ok (.if_icmp .ge 136, 3) := by decide +kernel
theorem dX11_nestPuts_193 : decode cX11_nestPuts 193 = .ok (.iconst 0, 1) := by decide +kernel
theorem dX11_nestPuts_194 : decode cX11_nestPuts 194 = .ok (.istore 8, 2) := by decide +kernel
theorem dX11_nestPuts_196 : decode cX11_nestPuts 196 = .ok (.iload 8, 2) := by decide +kernel
theorem dX11_nestPuts_198 : decode cX11_nestPuts 198 = .ok (.aload_n 0, 1) := by decide +kernel
theorem dX11_nestPuts_199 : decode cX11_nestPuts 199 = .ok (.iload_n 1, 1) := by decide +kernel
theorem dX11_nestPuts_200 : decode cX11_nestPuts 200 = .ok (.iconst 3, 1) := by decide +kernel
theorem dX11_nestPuts_201 : decode cX11_nestPuts 201 = .ok (.invokevirtual 237, 3) := by decide +kernel
theorem dX11_nestPuts_204 : decode cX11_nestPuts 204 = .ok (.if_icmp .ge 116, 3) := by decide +kernel
theorem dX11_nestPuts_207 : decode cX11_nestPuts 207 = .ok (.aload_n 0, 1) := by decide +kernel
theorem dX11_nestPuts_208 : decode cX11_nestPuts 208 = .ok (.iload_n 1, 1) := by decide +kernel
theorem dX11_nestPuts_209 : decode cX11_nestPuts 209 = .ok (.aload_n 0, 1) := by decide +kernel
theorem dX11_nestPuts_210 : decode cX11_nestPuts 210 = .ok (.getfield 36, 3) := by decide +kernel
theorem dX11_nestPuts_213 : decode cX11_nestPuts 213 = .ok (.iload 7, 2) := by decide +kernel
theorem dX11_nestPuts_215 : decode cX11_nestPuts 215 = .ok (.iaload, 1) := by decide +kernel
theorem dX11_nestPuts_216 : decode cX11_nestPuts 216 = .ok (.aload_n 0, 1) := by decide +kernel
theorem dX11_nestPuts_217 : decode cX11_nestPuts 217 = .ok (.iload_n 1, 1) := by decide +kernel
theorem dX11_nestPuts_218 : decode cX11_nestPuts 218 = .ok (.aload_n 0, 1) := by decide +kernel
theorem dX11_nestPuts_219 : decode cX11_nestPuts 219 = .ok (.getfield 36, 3) := by decide +kernel
theorem dX11_nestPuts_222 : decode cX11_nestPuts 222 = .ok (.iload 7, 2) := by decide +kernel
theorem dX11_nestPuts_224 : decode cX11_nestPuts 224 = .ok (.iaload, 1) := by decide +kernel
theorem dX11_nestPuts_225 : decode cX11_nestPuts 225 = .ok (.iload 8, 2) := by decide +kernel
theorem dX11_nestPuts_227 : decode cX11_nestPuts 227 = .ok (.invokevirtual 267, 3) := by decide +kernel
theorem dX11_nestPuts_230 : decode cX11_nestPuts 230 = .ok (.invokevirtual 279, 3) := by decide +kernel
theorem dX11_nestPuts_233 : decode cX11_nestPuts 233 = .ok (.istore 9, 2) := by decide +kernel
theorem dX11_nestPuts_235 : decode cX11_nestPuts 235 = .ok (.iload 9, 2) := by decide +kernel
theorem dX11_nestPuts_237 : decode cX11_nestPuts 237 = .ok (.iconst (-1), 1) := by decide +kernel
theorem dX11_nestPuts_238 : decode cX11_nestPuts 238 = .ok (.if_icmp .eq 76, 3) := by decide +kernel
theorem dX11_nestPuts_241 : decode cX11_nestPuts 241 = .ok (.aload_n 0, 1) := by decide +kernel
theorem dX11_nestPuts_242 : decode cX11_nestPuts 242 = .ok (.getfield 42, 3) := by decide +kernel
theorem dX11_nestPuts_245 : decode cX11_nestPuts 245 = .ok (.iload 9, 2) := by decide +kernel
theorem dX11_nestPuts_247 : decode cX11_nestPuts 247 = .ok (.baload, 1) := by decide +kernel
theorem dX11_nestPuts_248 : decode cX11_nestPuts 248 = .ok (.ifCond .eq 6, 3) := by decide +kernel
theorem dX11_nestPuts_251 : decode cX11_nestPuts 251 = .ok (.goto 63, 3) := by decide +kernel
theorem dX11_nestPuts_254 : decode cX11_nestPuts 254 = .ok (.aload_n 0, 1) := by decide +kernel
theorem dX11_nestPuts_255 : decode cX11_nestPuts 255 = .ok (.getfield 42, 3) := by decide +kernel
theorem dX11_nestPuts_258 : decode cX11_nestPuts 258 = .ok (.iload 9, 2) := by decide +kernel
theorem dX11_nestPuts_260 : decode cX11_nestPuts 260 = .ok (.iconst 1, 1) := by decide +kernel
theorem dX11_nestPuts_261 : decode cX11_nestPuts 261 = .ok (.bastore, 1) := by decide +kernel
theorem dX11_nestPuts_262 : decode cX11_nestPuts 262 = .ok (.aload_n 0, 1) := by decide +kernel
theorem dX11_nestPuts_263 : decode cX11_nestPuts 263 = .ok (.getfield 39, 3) := by decide +kernel
theorem dX11_nestPuts_266 : decode cX11_nestPuts 266 = .ok (.iload 9, 2) := by decide +kernel
theorem dX11_nestPuts_268 : decode cX11_nestPuts 268 = .ok (.iconst 4, 1) := by decide +kernel
theorem dX11_nestPuts_269 : decode cX11_nestPuts 269 = .ok (.aload_n 0, 1) := by decide +kernel
theorem dX11_nestPuts_270 : decode cX11_nestPuts 270 = .ok (.getfield 36, 3) := by decide +kernel
theorem dX11_nestPuts_273 : decode cX11_nestPuts 273 = .ok (.iload 7, 2) := by decide +kernel
theorem dX11_nestPuts_275 : decode cX11_nestPuts 275 = .ok (.iaload, 1) := by decide +kernel
theorem dX11_nestPuts_276 : decode cX11_nestPuts 276 = .ok (.imul, 1) := by decide +kernel
theorem dX11_nestPuts_277 : decode cX11_nestPuts 277 = .ok (.iload 8, 2) := by decide +kernel
theorem dX11_nestPuts_279 : decode cX11_nestPuts 279 = .ok (.iadd, 1) := by decide +kernel
theorem dX11_nestPuts_280 : decode cX11_nestPuts 280 = .ok (.iastore, 1) := by decide +kernel
theorem dX11_nestPuts_281 : decode cX11_nestPuts 281 = .ok (.aload_n 0, 1) := by decide +kernel
theorem dX11_nestPuts_282 : decode cX11_nestPuts 282 = .ok (.iload_n 1, 1) := by decide +kernel
theorem dX11_nestPuts_283 : decode cX11_nestPuts 283 = .ok (.iload 9, 2) := by decide +kernel
theorem dX11_nestPuts_285 : decode cX11_nestPuts 285 = .ok (.invokevirtual 276, 3) := by decide +kernel
theorem dX11_nestPuts_288 : decode cX11_nestPuts 288 = .ok (.iconst (-1), 1) := by decide +kernel
theorem dX11_nestPuts_289 : decode cX11_nestPuts 289 = .ok (.if_icmp .eq 13, 3) := by decide +kernel
theorem dX11_nestPuts_292 : decode cX11_nestPuts 292 = .ok (.aload_n 0, 1) := by decide +kernel
theorem dX11_nestPuts_293 : decode cX11_nestPuts 293 = .ok (.iload_n 1, 1) := by decide +kernel
theorem dX11_nestPuts_294 : decode cX11_nestPuts 294 = .ok (.iload_n 2, 1) := by decide +kernel
theorem dX11_nestPuts_295 : decode cX11_nestPuts 295 = .ok (.iload 9, 2) := by decide +kernel
theorem dX11_nestPuts_297 : decode cX11_nestPuts 297 = .ok (.invokevirtual 282, 3) := by decide +kernel
theorem dX11_nestPuts_300 : decode cX11_nestPuts 300 = .ok (.iconst 1, 1) := by decide +kernel
theorem dX11_nestPuts_301 : decode cX11_nestPuts 301 = .ok (.ireturn, 1) := by decide +kernel
theorem dX11_nestPuts_302 : decode cX11_nestPuts 302 = .ok (.aload_n 0, 1) := by decide +kernel
theorem dX11_nestPuts_303 : decode cX11_nestPuts 303 = .ok (.getfield 36, 3) := by decide +kernel
theorem dX11_nestPuts_306 : decode cX11_nestPuts 306 = .ok (.iload 6, 2) := by decide +kernel
theorem dX11_nestPuts_308 : decode cX11_nestPuts 308 = .ok (.iload 9, 2) := by decide +kernel
theorem dX11_nestPuts_310 : decode cX11_nestPuts 310 = .ok (.iastore, 1) := by decide +kernel
theorem dX11_nestPuts_311 : decode cX11_nestPuts 311 = .ok (.iinc 6 1, 3) := by decide +kernel
theorem dX11_nestPuts_314 : decode cX11_nestPuts 314 = .ok (.iinc 8 1, 3) := by decide +kernel
theorem dX11_nestPuts_317 : decode cX11_nestPuts 317 = .ok (.goto (-121), 3) := by decide +kernel
theorem dX11_nestPuts_320 : decode cX11_nestPuts 320 = .ok (.iinc 7 1, 3) := by decide +kernel
theorem dX11_nestPuts_323 : decode cX11_nestPuts 323 = .ok (.goto (-137), 3) := by decide +kernel
theorem dX11_nestPuts_326 : decode cX11_nestPuts 326 = .ok (.iconst 0, 1) := by decide +kernel
theorem dX11_nestPuts_327 : decode cX11_nestPuts 327 = .ok (.ireturn, 1) := by decide +kernel
theorem dX11_pushes_0 : decode cX11_pushes 0 = .ok (.iconst 0, 1) := by decide +kernel
theorem dX11_pushes_1 : decode cX11_pushes 1 = .ok (.istore 4, 2) := by decide +kernel
theorem dX11_pushes_3 : decode cX11_pushes 3 = .ok (.iload_n 3, 1) := by decide +kernel
theorem dX11_pushes_4 : decode cX11_pushes 4 = .ok (.istore 5, 2) := by decide +kernel
theorem dX11_pushes_6 : decode cX11_pushes 6 = .ok (.aload_n 0, 1) := by decide +kernel
theorem dX11_pushes_7 : decode cX11_pushes 7 = .ok (.iload_n 1, 1) := by decide +kernel
theorem dX11_pushes_8 : decode cX11_pushes 8 = .ok (.iload_n 3, 1) := by decide +kernel
theorem dX11_pushes_9 : decode cX11_pushes 9 = .ok (.invokevirtual 276, 3) := by decide +kernel
theorem dX11_pushes_12 : decode cX11_pushes 12 = .ok (.istore 6, 2) := by decide +kernel
theorem dX11_pushes_14 : decode cX11_pushes 14 = .ok (.aload_n 0, 1) := by decide +kernel
theorem dX11_pushes_15 : decode cX11_pushes 15 = .ok (.getfield 39, 3) := by decide +kernel
theorem dX11_pushes_18 : decode cX11_pushes 18 = .ok (.iload 5, 2) := by decide +kernel
theorem dX11_pushes_20 : decode cX11_pushes 20 = .ok (.iaload, 1) := by decide +kernel
theorem dX11_pushes_21 : decode cX11_pushes 21 = .ok (.iconst (-1), 1) := by decide +kernel
theorem dX11_pushes_22 : decode cX11_pushes 22 = .ok (.if_icmp .eq 59, 3) := by decide +kernel
theorem dX11_pushes_25 : decode cX11_pushes 25 = .ok (.aload_n 0, 1) := by decide +kernel
theorem dX11_pushes_26 : decode cX11_pushes 26 = .ok (.getfield 39, 3) := by decide +kernel
theorem dX11_pushes_29 : decode cX11_pushes 29 = .ok (.iload 5, 2) := by decide +kernel
theorem dX11_pushes_31 : decode cX11_pushes 31 = .ok (.iaload, 1) := by decide +kernel
theorem dX11_pushes_32 : decode cX11_pushes 32 = .ok (.istore 7, 2) := by decide +kernel
theorem dX11_pushes_34 : decode cX11_pushes 34 = .ok (.aload_n 0, 1) := by decide +kernel
theorem dX11_pushes_35 : decode cX11_pushes 35 = .ok (.iload_n 1, 1) := by decide +kernel
theorem dX11_pushes_36 : decode cX11_pushes 36 = .ok (.aload_n 0, 1) := by decide +kernel
theorem dX11_pushes_37 : decode cX11_pushes 37 = .ok (.iload_n 1, 1) := by decide +kernel
theorem dX11_pushes_38 : decode cX11_pushes 38 = .ok (.iload 5, 2) := by decide +kernel
theorem dX11_pushes_40 : decode cX11_pushes 40 = .ok (.iload 6, 2) := by decide +kernel
theorem dX11_pushes_42 : decode cX11_pushes 42 = .ok (.invokevirtual 270, 3) := by decide +kernel
theorem dX11_pushes_45 : decode cX11_pushes 45 = .ok (.aload_n 0, 1) := by decide +kernel
theorem dX11_pushes_46 : decode cX11_pushes 46 = .ok (.iload_n 1, 1) := by decide +kernel
theorem dX11_pushes_47 : decode cX11_pushes 47 = .ok (.iload 7, 2) := by decide +kernel
theorem dX11_pushes_49 : decode cX11_pushes 49 = .ok (.iconst 4, 1) := by decide +kernel
theorem dX11_pushes_50 : decode cX11_pushes 50 = .ok (.idiv, 1) := by decide +kernel
theorem dX11_pushes_51 : decode cX11_pushes 51 = .ok (.iload 7, 2) := by decide +kernel
theorem dX11_pushes_53 : decode cX11_pushes 53 = .ok (.iconst 4, 1) := by decide +kernel
theorem dX11_pushes_54 : decode cX11_pushes 54 = .ok (.irem, 1) := by decide +kernel
theorem dX11_pushes_55 : decode cX11_pushes 55 = .ok (.invokevirtual 267, 3) := by decide +kernel
theorem dX11_pushes_58 : decode cX11_pushes 58 = .ok (.iconst 1, 1) := by decide +kernel
theorem dX11_pushes_59 : decode cX11_pushes 59 = .ok (.iadd, 1) := by decide +kernel
theorem dX11_pushes_60 : decode cX11_pushes 60 = .ok (.invokevirtual 252, 3) := by decide +kernel
theorem dX11_pushes_63 : decode cX11_pushes 63 = .ok (.iload 7, 2) := by decide +kernel
theorem dX11_pushes_65 : decode cX11_pushes 65 = .ok (.iconst 4, 1) := by decide +kernel
theorem dX11_pushes_66 : decode cX11_pushes 66 = .ok (.idiv, 1) := by decide +kernel
theorem dX11_pushes_67 : decode cX11_pushes 67 = .ok (.istore 5, 2) := by decide +kernel
theorem dX11_pushes_69 : decode cX11_pushes 69 = .ok (.iload 7, 2) := by decide +kernel
theorem dX11_pushes_71 : decode cX11_pushes 71 = .ok (.iconst 4, 1) := by decide +kernel
theorem dX11_pushes_72 : decode cX11_pushes 72 = .ok (.irem, 1) := by decide +kernel
theorem dX11_pushes_73 : decode cX11_pushes 73 = .ok (.istore 6, 2) := by decide +kernel
theorem dX11_pushes_75 : decode cX11_pushes 75 = .ok (.iinc 4 1, 3) := by decide +kernel
theorem dX11_pushes_78 : decode cX11_pushes 78 = .ok (.goto (-64), 3) := by decide +kernel
theorem dX11_pushes_81 : decode cX11_pushes 81 = .ok (.aload_n 0, 1) := by decide +kernel
theorem dX11_pushes_82 : decode cX11_pushes 82 = .ok (.iload_n 1, 1) := by decide +kernel
theorem dX11_pushes_83 : decode cX11_pushes 83 = .ok (.aload_n 0, 1) := by decide +kernel
theorem dX11_pushes_84 : decode cX11_pushes 84 = .ok (.iload_n 1, 1) := by decide +kernel
theorem dX11_pushes_85 : decode cX11_pushes 85 = .ok (.iload 5, 2) := by decide +kernel
theorem dX11_pushes_87 : decode cX11_pushes 87 = .ok (.iload 6, 2) := by decide +kernel
theorem dX11_pushes_89 : decode cX11_pushes 89 = .ok (.invokevirtual 270, 3) := by decide +kernel
theorem dX11_pushes_92 : decode cX11_pushes 92 = .ok (.iload_n 2, 1) := by decide +kernel
theorem dX11_pushes_93 : decode cX11_pushes 93 = .ok (.iconst 1, 1) := by decide +kernel
theorem dX11_pushes_94 : decode cX11_pushes 94 = .ok (.iadd, 1) := by decide +kernel
theorem dX11_pushes_95 : decode cX11_pushes 95 = .ok (.invokevirtual 252, 3) := by decide +kernel
theorem dX11_pushes_98 : decode cX11_pushes 98 = .ok (.aload_n 0, 1) := by decide +kernel
theorem dX11_pushes_99 : decode cX11_pushes 99 = .ok (.iload_n 1, 1) := by decide +kernel
theorem dX11_pushes_100 : decode cX11_pushes 100 = .ok (.iconst 5, 1) := by decide +kernel
theorem dX11_pushes_101 : decode cX11_pushes 101 = .ok (.iload 4, 2) := by decide +kernel
theorem dX11_pushes_103 : decode cX11_pushes 103 = .ok (.invokevirtual 252, 3) := by decide +kernel
theorem dX11_pushes_106 : decode cX11_pushes 106 = .ok (.return_, 1) := by decide +kernel
theorem dX11_areSet_0 : decode cX11_areSet 0 = .ok (.iconst 0, 1) := by decide +kernel
theorem dX11_areSet_1 : decode cX11_areSet 1 = .ok (.istore 5, 2) := by decide +kernel
theorem dX11_areSet_3 : decode cX11_areSet 3 = .ok (.iload 5, 2) := by decide +kernel
theorem dX11_areSet_5 : decode cX11_areSet 5 = .ok (.aload_n 0, 1) := by decide +kernel
theorem dX11_areSet_6 : decode cX11_areSet 6 = .ok (.iload_n 1, 1) := by decide +kernel
theorem dX11_areSet_7 : decode cX11_areSet 7 = .ok (.iconst 2, 1) := by decide +kernel
theorem dX11_areSet_8 : decode cX11_areSet 8 = .ok (.invokevirtual 237, 3) := by decide +kernel
theorem dX11_areSet_11 : decode cX11_areSet 11 = .ok (.if_icmp .ge 30, 3) := by decide +kernel
theorem dX11_areSet_14 : decode cX11_areSet 14 = .ok (.aload_n 0, 1) := by decide +kernel
theorem dX11_areSet_15 : decode cX11_areSet 15 = .ok (.iload_n 1, 1) := by decide +kernel
theorem dX11_areSet_16 : decode cX11_areSet 16 = .ok (.iload_n 2, 1) := by decide +kernel
theorem dX11_areSet_17 : decode cX11_areSet 17 = .ok (.aload_n 0, 1) := by decide +kernel
theorem dX11_areSet_18 : decode cX11_areSet 18 = .ok (.iload 5, 2) := by decide +kernel
theorem dX11_areSet_20 : decode cX11_areSet 20 = .ok (.iload 4, 2) := by decide +kernel
theorem dX11_areSet_22 : decode cX11_areSet 22 = .ok (.iload_n 3, 1) := by decide +kernel
theorem dX11_areSet_23 : decode cX11_areSet 23 = .ok (.invokevirtual 225, 3) := by decide +kernel
theorem dX11_areSet_26 : decode cX11_areSet 26 = .ok (.iadd, 1) := by decide +kernel
theorem dX11_areSet_27 : decode cX11_areSet 27 = .ok (.invokevirtual 237, 3) := by decide +kernel
theorem dX11_areSet_30 : decode cX11_areSet 30 = .ok (.ifCond .ne 5, 3) := by decide +kernel
theorem dX11_areSet_33 : decode cX11_areSet 33 = .ok (.iconst 0, 1) := by decide +kernel
theorem dX11_areSet_34 : decode cX11_areSet 34 = .ok (.ireturn, 1) := by decide +kernel
theorem dX11_areSet_35 : decode cX11_areSet 35 = .ok (.iinc 5 1, 3) := by decide +kernel
theorem dX11_areSet_38 : decode cX11_areSet 38 = .ok (.goto (-35), 3) := by decide +kernel
theorem dX11_areSet_41 : decode cX11_areSet 41 = .ok (.iconst 1, 1) := by decide +kernel
theorem dX11_areSet_42 : decode cX11_areSet 42 = .ok (.ireturn, 1) := by decide +kernel
theorem dX11_says_0 : decode cX11_says 0 = .ok (.aload_n 0, 1) := by decide +kernel
theorem dX11_says_1 : decode cX11_says 1 = .ok (.iload_n 1, 1) := by decide +kernel
theorem dX11_says_2 : decode cX11_says 2 = .ok (.iconst 0, 1) := by decide +kernel
theorem dX11_says_3 : decode cX11_says 3 = .ok (.invokevirtual 237, 3) := by decide +kernel
theorem dX11_says_6 : decode cX11_says 6 = .ok (.istore_n 3, 1) := by decide +kernel
theorem dX11_says_7 : decode cX11_says 7 = .ok (.iload_n 3, 1) := by decide +kernel
theorem dX11_says_8 : decode cX11_says 8 = .ok (.iconst 2, 1) := by decide +kernel
theorem dX11_says_9 : decode cX11_says 9 = .ok (.if_icmp .ne 49, 3) := by decide +kernel
theorem dX11_says_12 : decode cX11_says 12 = .ok (.aload_n 0, 1) := by decide +kernel
theorem dX11_says_13 : decode cX11_says 13 = .ok (.iload_n 1, 1) := by decide +kernel
theorem dX11_says_14 : decode cX11_says 14 = .ok (.aload_n 0, 1) := by decide +kernel
theorem dX11_says_15 : decode cX11_says 15 = .ok (.iload_n 1, 1) := by decide +kernel
theorem dX11_says_16 : decode cX11_says 16 = .ok (.iconst 0, 1) := by decide +kernel
theorem dX11_says_17 : decode cX11_says 17 = .ok (.iload_n 2, 1) := by decide +kernel
theorem dX11_says_18 : decode cX11_says 18 = .ok (.invokevirtual 273, 3) := by decide +kernel
theorem dX11_says_21 : decode cX11_says 21 = .ok (.aload_n 0, 1) := by decide +kernel
theorem dX11_says_22 : decode cX11_says 22 = .ok (.iload_n 2, 1) := by decide +kernel
theorem dX11_says_23 : decode cX11_says 23 = .ok (.invokevirtual 232, 3) := by decide +kernel
theorem dX11_says_26 : decode cX11_says 26 = .ok (.invokevirtual 285, 3) := by decide +kernel
theorem dX11_says_29 : decode cX11_says 29 = .ok (.ifCond .ne 23, 3) := by decide +kernel
theorem dX11_says_32 : decode cX11_says 32 = .ok (.aload_n 0, 1) := by decide +kernel
theorem dX11_says_33 : decode cX11_says 33 = .ok (.iload_n 1, 1) := by decide +kernel
theorem dX11_says_34 : decode cX11_says 34 = .ok (.aload_n 0, 1) := by decide +kernel
theorem dX11_says_35 : decode cX11_says 35 = .ok (.iload_n 1, 1) := by decide +kernel
theorem dX11_says_36 : decode cX11_says 36 = .ok (.iconst 1, 1) := by decide +kernel
theorem dX11_says_37 : decode cX11_says 37 = .ok (.iload_n 2, 1) := by decide +kernel
theorem dX11_says_38 : decode cX11_says 38 = .ok (.invokevirtual 273, 3) := by decide +kernel
theorem dX11_says_41 : decode cX11_says 41 = .ok (.aload_n 0, 1) := by decide +kernel
theorem dX11_says_42 : decode cX11_says 42 = .ok (.iload_n 2, 1) := by decide +kernel
theorem dX11_says_43 : decode cX11_says 43 = .ok (.invokevirtual 232, 3) := by decide +kernel
theorem dX11_says_46 : decode cX11_says 46 = .ok (.invokevirtual 285, 3) := by decide +kernel
theorem dX11_says_49 : decode cX11_says 49 = .ok (.ifCond .eq 7, 3) := by decide +kernel
theorem dX11_says_52 : decode cX11_says 52 = .ok (.iconst 1, 1) := by decide +kernel
theorem dX11_says_53 : decode cX11_says 53 = .ok (.goto 4, 3) := by decide +kernel
theorem dX11_says_56 : decode cX11_says 56 = .ok (.iconst 0, 1) := by decide +kernel
theorem dX11_says_57 : decode cX11_says 57 = .ok (.ireturn, 1) := by decide +kernel
theorem dX11_says_58 : decode cX11_says 58 = .ok (.iload_n 3, 1) := by decide +kernel
theorem dX11_says_59 : decode cX11_says 59 = .ok (.iconst 4, 1) := by decide +kernel
theorem dX11_says_60 : decode cX11_says 60 = .ok (.if_icmp .ne 63, 3) := by decide +kernel
theorem dX11_says_63 : decode cX11_says 63 = .ok (.iconst 0, 1) := by decide +kernel
theorem dX11_says_64 : decode cX11_says 64 = .ok (.istore 4, 2) := by decide +kernel
theorem dX11_says_66 : decode cX11_says 66 = .ok (.iconst 0, 1) := by decide +kernel
theorem dX11_says_67 : decode cX11_says 67 = .ok (.istore 5, 2) := by decide +kernel
theorem dX11_says_69 : decode cX11_says 69 = .ok (.iload 5, 2) := by decide +kernel
theorem dX11_says_71 : decode cX11_says 71 = .ok (.aload_n 0, 1) := by decide +kernel
theorem dX11_says_72 : decode cX11_says 72 = .ok (.iload_n 1, 1) := by decide +kernel
theorem dX11_says_73 : decode cX11_says 73 = .ok (.iconst 2, 1) := by decide +kernel
theorem dX11_says_74 : decode cX11_says 74 = .ok (.invokevirtual 237, 3) := by decide +kernel
theorem dX11_says_77 : decode cX11_says 77 = .ok (.if_icmp .ge 30, 3) := by decide +kernel
theorem dX11_says_80 : decode cX11_says 80 = .ok (.iload 4, 2) := by decide +kernel
theorem dX11_says_82 : decode cX11_says 82 = .ok (.aload_n 0, 1) := by decide +kernel
theorem dX11_says_83 : decode cX11_says 83 = .ok (.iload_n 1, 1) := by decide +kernel
theorem dX11_says_84 : decode cX11_says 84 = .ok (.bipush 10, 2) := by decide +kernel
theorem dX11_says_86 : decode cX11_says 86 = .ok (.aload_n 0, 1) := by decide +kernel
theorem dX11_says_87 : decode cX11_says 87 = .ok (.iload_n 1, 1) := by decide +kernel
theorem dX11_says_88 : decode cX11_says 88 = .ok (.iload 5, 2) := by decide +kernel
theorem dX11_says_90 : decode cX11_says 90 = .ok (.iload_n 2, 1) := by decide +kernel
theorem dX11_says_91 : decode cX11_says 91 = .ok (.invokevirtual 273, 3) := by decide +kernel
theorem dX11_says_94 : decode cX11_says 94 = .ok (.iadd, 1) := by decide +kernel
theorem dX11_says_95 : decode cX11_says 95 = .ok (.invokevirtual 237, 3) := by decide +kernel
theorem dX11_says_98 : decode cX11_says 98 = .ok (.ixor, 1) := by decide +kernel
theorem dX11_says_99 : decode cX11_says 99 = .ok (.istore 4, 2) := by decide +kernel
theorem dX11_says_101 : decode cX11_says 101 = .ok (.iinc 5 1, 3) := by decide +kernel
theorem dX11_says_104 : decode cX11_says 104 = .ok (.goto (-35), 3) := by decide +kernel
theorem dX11_says_107 : decode cX11_says 107 = .ok (.iload 4, 2) := by decide +kernel
theorem dX11_says_109 : decode cX11_says 109 = .ok (.aload_n 0, 1) := by decide +kernel
theorem dX11_says_110 : decode cX11_says 110 = .ok (.iload_n 2, 1) := by decide +kernel
theorem dX11_says_111 : decode cX11_says 111 = .ok (.invokevirtual 232, 3) := by decide +kernel
theorem dX11_says_114 : decode cX11_says 114 = .ok (.if_icmp .ne 7, 3) := by decide +kernel
theorem dX11_says_117 : decode cX11_says 117 = .ok (.iconst 1, 1) := by decide +kernel
theorem dX11_says_118 : decode cX11_says 118 = .ok (.goto 4, 3) := by decide +kernel
theorem dX11_says_121 : decode cX11_says 121 = .ok (.iconst 0, 1) := by decide +kernel
theorem dX11_says_122 : decode cX11_says 122 = .ok (.ireturn, 1) := by decide +kernel
theorem dX11_says_123 : decode cX11_says 123 = .ok (.iconst 0, 1) := by decide +kernel
theorem dX11_says_124 : decode cX11_says 124 = .ok (.istore 4, 2) := by decide +kernel
theorem dX11_says_126 : decode cX11_says 126 = .ok (.iload 4, 2) := by decide +kernel
theorem dX11_says_128 : decode cX11_says 128 = .ok (.aload_n 0, 1) := by decide +kernel
theorem dX11_says_129 : decode cX11_says 129 = .ok (.iload_n 1, 1) := by decide +kernel
theorem dX11_says_130 : decode cX11_says 130 = .ok (.iconst 4, 1) := by decide +kernel
theorem dX11_says_131 : decode cX11_says 131 = .ok (.invokevirtual 237, 3) := by decide +kernel
theorem dX11_says_134 : decode cX11_says 134 = .ok (.if_icmp .ge 36, 3) := by decide +kernel
theorem dX11_says_137 : decode cX11_says 137 = .ok (.aload_n 0, 1) := by decide +kernel
theorem dX11_says_138 : decode cX11_says 138 = .ok (.iload_n 1, 1) := by decide +kernel
theorem dX11_says_139 : decode cX11_says 139 = .ok (.aload_n 0, 1) := by decide +kernel
theorem dX11_says_140 : decode cX11_says 140 = .ok (.iload_n 1, 1) := by decide +kernel
theorem dX11_says_141 : decode cX11_says 141 = .ok (.iload 4, 2) := by decide +kernel
theorem dX11_says_143 : decode cX11_says 143 = .ok (.invokevirtual 264, 3) := by decide +kernel
theorem dX11_says_146 : decode cX11_says 146 = .ok (.aload_n 0, 1) := by decide +kernel
theorem dX11_says_147 : decode cX11_says 147 = .ok (.iload_n 1, 1) := by decide +kernel
theorem dX11_says_148 : decode cX11_says 148 = .ok (.iconst 1, 1) := by decide +kernel
theorem dX11_says_149 : decode cX11_says 149 = .ok (.invokevirtual 237, 3) := by decide +kernel
theorem dX11_says_152 : decode cX11_says 152 = .ok (.iload 4, 2) := by decide +kernel
theorem dX11_says_154 : decode cX11_says 154 = .ok (.ishl, 1) := by decide +kernel
theorem dX11_says_155 : decode cX11_says 155 = .ok (.iload_n 2, 1) := by decide +kernel
theorem dX11_says_156 : decode cX11_says 156 = .ok (.invokevirtual 289, 3) := by decide +kernel
theorem dX11_says_159 : decode cX11_says 159 = .ok (.ifCond .eq 5, 3) := by decide +kernel
theorem dX11_says_162 : decode cX11_says 162 = .ok (.iconst 1, 1) := by decide +kernel
theorem dX11_says_163 : decode cX11_says 163 = .ok (.ireturn, 1) := by decide +kernel
theorem dX11_says_164 : decode cX11_says 164 = .ok (.iinc 4 1, 3) := by decide +kernel
theorem dX11_says_167 : decode cX11_says 167 = .ok (.goto (-41), 3) := by decide +kernel
theorem dX11_says_170 : decode cX11_says 170 = .ok (.iconst 0, 1) := by decide +kernel
theorem dX11_says_171 : decode cX11_says 171 = .ok (.ireturn, 1) := by decide +kernel
theorem dX11_nameFault_0 : decode cX11_nameFault 0 = .ok (.aload_n 0, 1) := by decide +kernel
theorem dX11_nameFault_1 : decode cX11_nameFault 1 = .ok (.iload_n 1, 1) := by decide +kernel
theorem dX11_nameFault_2 : decode cX11_nameFault 2 = .ok (.invokevirtual 256, 3) := by decide +kernel
theorem dX11_nameFault_5 : decode cX11_nameFault 5 = .ok (.ifCond .ne 7, 3) := by decide +kernel
theorem dX11_nameFault_8 : decode cX11_nameFault 8 = .ok (.iconst 1, 1) := by decide +kernel
theorem dX11_nameFault_9 : decode cX11_nameFault 9 = .ok (.goto 17, 3) := by decide +kernel
theorem dX11_nameFault_12 : decode cX11_nameFault 12 = .ok (.aload_n 0, 1) := by decide +kernel
theorem dX11_nameFault_13 : decode cX11_nameFault 13 = .ok (.iload_n 2, 1) := by decide +kernel
theorem dX11_nameFault_14 : decode cX11_nameFault 14 = .ok (.i2l, 1) := by decide +kernel
theorem dX11_nameFault_15 : decode cX11_nameFault 15 = .ok (.invokevirtual 228, 3) := by decide +kernel
theorem dX11_nameFault_18 : decode cX11_nameFault 18 = .ok (.ifCond .eq 7, 3) := by decide +kernel
theorem dX11_nameFault_21 : decode cX11_nameFault 21 = .ok (.iconst 0, 1) := by decide +kernel
theorem dX11_nameFault_22 : decode cX11_nameFault 22 = .ok (.goto 4, 3) := by decide +kernel
theorem dX11_nameFault_25 : decode cX11_nameFault 25 = .ok (.iconst 2, 1) := by decide +kernel
theorem dX11_nameFault_26 : decode cX11_nameFault 26 = .ok (.ireturn, 1) := by decide +kernel
theorem dX11_yes_0 : decode cX11_yes 0 = .ok (.aload_n 0, 1) := by decide +kernel
theorem dX11_yes_1 : decode cX11_yes 1 = .ok (.aload_n 0, 1) := by decide +kernel
theorem dX11_yes_2 : decode cX11_yes 2 = .ok (.iload_n 1, 1) := by decide +kernel
theorem dX11_yes_3 : decode cX11_yes 3 = .ok (.iload_n 2, 1) := by decide +kernel
theorem dX11_yes_4 : decode cX11_yes 4 = .ok (.invokevirtual 293, 3) := by decide +kernel
theorem dX11_yes_7 : decode cX11_yes 7 = .ok (.putfield 92, 3) := by decide +kernel
theorem dX11_yes_10 : decode cX11_yes 10 = .ok (.aload_n 0, 1) := by decide +kernel
theorem dX11_yes_11 : decode cX11_yes 11 = .ok (.getfield 92, 3) := by decide +kernel
theorem dX11_yes_14 : decode cX11_yes 14 = .ok (.ifCond .ne 16, 3) := by decide +kernel
theorem dX11_yes_17 : decode cX11_yes 17 = .ok (.aload_n 0, 1) := by decide +kernel
theorem dX11_yes_18 : decode cX11_yes 18 = .ok (.iload_n 1, 1) := by decide +kernel
theorem dX11_yes_19 : decode cX11_yes 19 = .ok (.iload_n 2, 1) := by decide +kernel
theorem dX11_yes_20 : decode cX11_yes 20 = .ok (.invokevirtual 296, 3) := by decide +kernel
theorem dX11_yes_23 : decode cX11_yes 23 = .ok (.ifCond .eq 7, 3) := by decide +kernel
theorem dX11_yes_26 : decode cX11_yes 26 = .ok (.iconst 1, 1) := by decide +kernel
theorem dX11_yes_27 : decode cX11_yes 27 = .ok (.goto 4, 3) := by decide +kernel
theorem dX11_yes_30 : decode cX11_yes 30 = .ok (.iconst 0, 1) := by decide +kernel
theorem dX11_yes_31 : decode cX11_yes 31 = .ok (.ireturn, 1) := by decide +kernel
theorem dX11_isPut_0 : decode cX11_isPut 0 = .ok (.aload_n 0, 1) := by decide +kernel
theorem dX11_isPut_1 : decode cX11_isPut 1 = .ok (.aload_n 0, 1) := by decide +kernel
theorem dX11_isPut_2 : decode cX11_isPut 2 = .ok (.iload_n 1, 1) := by decide +kernel
theorem dX11_isPut_3 : decode cX11_isPut 3 = .ok (.iload_n 2, 1) := by decide +kernel
theorem dX11_isPut_4 : decode cX11_isPut 4 = .ok (.invokevirtual 293, 3) := by decide +kernel
theorem dX11_isPut_7 : decode cX11_isPut 7 = .ok (.putfield 92, 3) := by decide +kernel
theorem dX11_isPut_10 : decode cX11_isPut 10 = .ok (.aload_n 0, 1) := by decide +kernel
theorem dX11_isPut_11 : decode cX11_isPut 11 = .ok (.getfield 92, 3) := by decide +kernel
theorem dX11_isPut_14 : decode cX11_isPut 14 = .ok (.ifCond .ne 16, 3) := by decide +kernel
theorem dX11_isPut_17 : decode cX11_isPut 17 = .ok (.aload_n 0, 1) := by decide +kernel
theorem dX11_isPut_18 : decode cX11_isPut 18 = .ok (.iload_n 1, 1) := by decide +kernel
theorem dX11_isPut_19 : decode cX11_isPut 19 = .ok (.iload_n 2, 1) := by decide +kernel
theorem dX11_isPut_20 : decode cX11_isPut 20 = .ok (.invokevirtual 300, 3) := by decide +kernel
theorem dX11_isPut_23 : decode cX11_isPut 23 = .ok (.ifCond .eq 7, 3) := by decide +kernel
theorem dX11_isPut_26 : decode cX11_isPut 26 = .ok (.iconst 1, 1) := by decide +kernel
theorem dX11_isPut_27 : decode cX11_isPut 27 = .ok (.goto 4, 3) := by decide +kernel
theorem dX11_isPut_30 : decode cX11_isPut 30 = .ok (.iconst 0, 1) := by decide +kernel
theorem dX11_isPut_31 : decode cX11_isPut 31 = .ok (.ireturn, 1) := by decide +kernel
theorem dX11_puts_0 : decode cX11_puts 0 = .ok (.aload_n 0, 1) := by decide +kernel
theorem dX11_puts_1 : decode cX11_puts 1 = .ok (.iload_n 1, 1) := by decide +kernel
theorem dX11_puts_2 : decode cX11_puts 2 = .ok (.iconst 0, 1) := by decide +kernel
theorem dX11_puts_3 : decode cX11_puts 3 = .ok (.invokevirtual 237, 3) := by decide +kernel
theorem dX11_puts_6 : decode cX11_puts 6 = .ok (.istore_n 3, 1) := by decide +kernel
theorem dX11_puts_7 : decode cX11_puts 7 = .ok (.iload_n 3, 1) := by decide +kernel
theorem dX11_puts_8 : decode cX11_puts 8 = .ok (.iconst 2, 1) := by decide +kernel
theorem dX11_puts_9 : decode cX11_puts 9 = .ok (.if_icmp .ne 14, 3) := by decide +kernel
theorem dX11_puts_12 : decode cX11_puts 12 = .ok (.aload_n 0, 1) := by decide +kernel
theorem dX11_puts_13 : decode cX11_puts 13 = .ok (.iload_n 1, 1) := by decide +kernel
theorem dX11_puts_14 : decode cX11_puts 14 = .ok (.iload_n 2, 1) := by decide +kernel
theorem dX11_puts_15 : decode cX11_puts 15 = .ok (.invokevirtual 303, 3) := by decide +kernel
theorem dX11_puts_18 : decode cX11_puts 18 = .ok (.ifCond .ne 163, 3) := by decide +kernel
theorem dX11_puts_21 : decode cX11_puts 21 = .ok (.iconst 0, 1) := by decide +kernel
theorem dX11_puts_22 : decode cX11_puts 22 = .ok (.ireturn, 1) := by decide +kernel
theorem dX11_puts_23 : decode cX11_puts 23 = .ok (.aload_n 0, 1) := by decide +kernel
theorem dX11_puts_24 : decode cX11_puts 24 = .ok (.iload_n 1, 1) := by decide +kernel
theorem dX11_puts_25 : decode cX11_puts 25 = .ok (.iconst 4, 1) := by decide +kernel
theorem dX11_puts_26 : decode cX11_puts 26 = .ok (.invokevirtual 237, 3) := by decide +kernel
theorem dX11_puts_29 : decode cX11_puts 29 = .ok (.iconst 1, 1) := by decide +kernel
theorem dX11_puts_30 : decode cX11_puts 30 = .ok (.isub, 1) := by decide +kernel
theorem dX11_puts_31 : decode cX11_puts 31 = .ok (.istore 4, 2) := by decide +kernel
theorem dX11_puts_33 : decode cX11_puts 33 = .ok (.iload_n 3, 1) := by decide +kernel
theorem dX11_puts_34 : decode cX11_puts 34 = .ok (.iconst 3, 1) := by decide +kernel
theorem dX11_puts_35 : decode cX11_puts 35 = .ok (.if_icmp .ne 43, 3) := by decide +kernel
theorem dX11_puts_38 : decode cX11_puts 38 = .ok (.aload_n 0, 1) := by decide +kernel
theorem dX11_puts_39 : decode cX11_puts 39 = .ok (.iload_n 1, 1) := by decide +kernel
theorem dX11_puts_40 : decode cX11_puts 40 = .ok (.bipush 6, 2) := by decide +kernel
theorem dX11_puts_42 : decode cX11_puts 42 = .ok (.iload 4, 2) := by decide +kernel
theorem dX11_puts_44 : decode cX11_puts 44 = .ok (.iadd, 1) := by decide +kernel
theorem dX11_puts_45 : decode cX11_puts 45 = .ok (.invokevirtual 237, 3) := by decide +kernel
theorem dX11_puts_48 : decode cX11_puts 48 = .ok (.aload_n 0, 1) := by decide +kernel
theorem dX11_puts_49 : decode cX11_puts 49 = .ok (.iload_n 1, 1) := by decide +kernel
theorem dX11_puts_50 : decode cX11_puts 50 = .ok (.iconst 3, 1) := by decide +kernel
theorem dX11_puts_51 : decode cX11_puts 51 = .ok (.invokevirtual 237, 3) := by decide +kernel
theorem dX11_puts_54 : decode cX11_puts 54 = .ok (.if_icmp .ne 24, 3) := by decide +kernel
theorem dX11_puts_57 : decode cX11_puts 57 = .ok (.iload 4, 2) := by decide +kernel
theorem dX11_puts_59 : decode cX11_puts 59 = .ok (.iconst 3, 1) := by decide +kernel
theorem dX11_puts_60 : decode cX11_puts 60 = .ok (.if_icmp .ne 5, 3) := by decide +kernel
theorem dX11_puts_63 : decode cX11_puts 63 = .ok (.iconst 0, 1) := by decide +kernel
theorem dX11_puts_64 : decode cX11_puts 64 = .ok (.ireturn, 1) := by decide +kernel
theorem dX11_puts_65 : decode cX11_puts 65 = .ok (.iinc 4 1, 3) := by decide +kernel
theorem dX11_puts_68 : decode cX11_puts 68 = .ok (.aload_n 0, 1) := by decide +kernel
theorem dX11_puts_69 : decode cX11_puts 69 = .ok (.iload_n 1, 1) := by decide +kernel
theorem dX11_puts_70 : decode cX11_puts 70 = .ok (.iconst 4, 1) := by decide +kernel
theorem dX11_puts_71 : decode cX11_puts 71 = .ok (.iload 4, 2) := by decide +kernel
theorem dX11_puts_73 : decode cX11_puts 73 = .ok (.iconst 1, 1) := by decide +kernel
theorem dX11_puts_74 : decode cX11_puts 74 = .ok (.iadd, 1) := by decide +kernel
theorem dX11_puts_75 : decode cX11_puts 75 = .ok (.invokevirtual 252, 3) := by decide +kernel
theorem dX11_puts_78 : decode cX11_puts 78 = .ok (.iload_n 3, 1) := by decide +kernel
theorem dX11_puts_79 : decode cX11_puts 79 = .ok (.iconst 3, 1) := by decide +kernel
theorem dX11_puts_80 : decode cX11_puts 80 = .ok (.if_icmp .ne 25, 3) := by decide +kernel
theorem dX11_puts_83 : decode cX11_puts 83 = .ok (.aload_n 0, 1) := by decide +kernel
theorem dX11_puts_84 : decode cX11_puts 84 = .ok (.iload_n 1, 1) := by decide +kernel
theorem dX11_puts_85 : decode cX11_puts 85 = .ok (.bipush 6, 2) := by decide +kernel
theorem dX11_puts_87 : decode cX11_puts 87 = .ok (.iload 4, 2) := by decide +kernel
theorem dX11_puts_89 : decode cX11_puts 89 = .ok (.iadd, 1) := by decide +kernel
theorem dX11_puts_90 : decode cX11_puts 90 = .ok (.aload_n 0, 1) := by decide +kernel
theorem dX11_puts_91 : decode cX11_puts 91 = .ok (.iload_n 1, 1) := by decide +kernel
theorem dX11_puts_92 : decode cX11_puts 92 = .ok (.bipush 6, 2) := by decide +kernel
theorem dX11_puts_94 : decode cX11_puts 94 = .ok (.iload 4, 2) := by decide +kernel
theorem dX11_puts_96 : decode cX11_puts 96 = .ok (.iadd, 1) := by decide +kernel
theorem dX11_puts_97 : decode cX11_puts 97 = .ok (.invokevirtual 237, 3) := by decide +kernel
theorem dX11_puts_100 : decode cX11_puts 100 = .ok (.iconst 1, 1) := by decide +kernel
theorem dX11_puts_101 : decode cX11_puts 101 = .ok (.iadd, 1) := by decide +kernel
theorem dX11_puts_102 : decode cX11_puts 102 = .ok (.invokevirtual 252, 3) := by decide +kernel
theorem dX11_puts_105 : decode cX11_puts 105 = .ok (.iconst 0, 1) := by decide +kernel
theorem dX11_puts_106 : decode cX11_puts 106 = .ok (.istore 5, 2) := by decide +kernel
theorem dX11_puts_108 : decode cX11_puts 108 = .ok (.iload 5, 2) := by decide +kernel
theorem dX11_puts_110 : decode cX11_puts 110 = .ok (.aload_n 0, 1) := by decide +kernel
theorem dX11_puts_111 : decode cX11_puts 111 = .ok (.iload_n 1, 1) := by decide +kernel
theorem dX11_puts_112 : decode cX11_puts 112 = .ok (.iconst 2, 1) := by decide +kernel
theorem dX11_puts_113 : decode cX11_puts 113 = .ok (.invokevirtual 237, 3) := by decide +kernel
theorem dX11_puts_116 : decode cX11_puts 116 = .ok (.if_icmp .ge 65, 3) := by decide +kernel
theorem dX11_puts_119 : decode cX11_puts 119 = .ok (.aload_n 0, 1) := by decide +kernel
theorem dX11_puts_120 : decode cX11_puts 120 = .ok (.iload_n 1, 1) := by decide +kernel
theorem dX11_puts_121 : decode cX11_puts 121 = .ok (.iload 4, 2) := by decide +kernel
theorem dX11_puts_123 : decode cX11_puts 123 = .ok (.invokevirtual 264, 3) := by decide +kernel
theorem dX11_puts_126 : decode cX11_puts 126 = .ok (.aload_n 0, 1) := by decide +kernel
theorem dX11_puts_127 : decode cX11_puts 127 = .ok (.iload 5, 2) := by decide +kernel
theorem dX11_puts_129 : decode cX11_puts 129 = .ok (.iload_n 2, 1) := by decide +kernel
theorem dX11_puts_130 : decode cX11_puts 130 = .ok (.aload_n 0, 1) := by decide +kernel
theorem dX11_puts_131 : decode cX11_puts 131 = .ok (.iload_n 1, 1) := by decide +kernel
theorem dX11_puts_132 : decode cX11_puts 132 = .ok (.iconst 1, 1) := by decide +kernel
theorem dX11_puts_133 : decode cX11_puts 133 = .ok (.invokevirtual 237, 3) := by decide +kernel
theorem dX11_puts_136 : decode cX11_puts 136 = .ok (.iload 4, 2) := by decide +kernel
theorem dX11_puts_138 : decode cX11_puts 138 = .ok (.ishl, 1) := by decide +kernel
theorem dX11_puts_139 : decode cX11_puts 139 = .ok (.invokevirtual 225, 3) := by decide +kernel
theorem dX11_puts_142 : decode cX11_puts 142 = .ok (.iadd, 1) := by decide +kernel
theorem dX11_puts_143 : decode cX11_puts 143 = .ok (.istore 6, 2) := by decide +kernel
theorem dX11_puts_145 : decode cX11_puts 145 = .ok (.aload_n 0, 1) := by decide +kernel
theorem dX11_puts_146 : decode cX11_puts 146 = .ok (.iload_n 1, 1) := by decide +kernel
theorem dX11_puts_147 : decode cX11_puts 147 = .ok (.iload 6, 2) := by decide +kernel
theorem dX11_puts_149 : decode cX11_puts 149 = .ok (.iload_n 3, 1) := by decide +kernel
theorem dX11_puts_150 : decode cX11_puts 150 = .ok (.iconst 1, 1) := by decide +kernel
theorem dX11_puts_151 : decode cX11_puts 151 = .ok (.if_icmp .ne 20, 3) := by decide +kernel
theorem dX11_puts_154 : decode cX11_puts 154 = .ok (.bipush 15, 2) := by decide +kernel
theorem dX11_puts_156 : decode cX11_puts 156 = .ok (.aload_n 0, 1) := by decide +kernel
theorem dX11_puts_157 : decode cX11_puts 157 = .ok (.iload_n 1, 1) := by decide +kernel
theorem dX11_puts_158 : decode cX11_puts 158 = .ok (.iload 6, 2) := by decide +kernel
theorem dX11_puts_160 : decode cX11_puts 160 = .ok (.invokevirtual 237, 3) := by decide +kernel
theorem dX11_puts_163 : decode cX11_puts 163 = .ok (.iconst 1, 1) := by decide +kernel
theorem dX11_puts_164 : decode cX11_puts 164 = .ok (.iadd, 1) := by decide +kernel
theorem dX11_puts_165 : decode cX11_puts 165 = .ok (.invokestatic 240, 3) := by decide +kernel
theorem dX11_puts_168 : decode cX11_puts 168 = .ok (.goto 4, 3) := by decide +kernel
theorem dX11_puts_171 : decode cX11_puts 171 = .ok (.iconst 1, 1) := by decide +kernel
theorem dX11_puts_172 : decode cX11_puts 172 = .ok (.invokevirtual 252, 3) := by decide +kernel
theorem dX11_puts_175 : decode cX11_puts 175 = .ok (.iinc 5 1, 3) := by decide +kernel
theorem dX11_puts_178 : decode cX11_puts 178 = .ok (.goto (-70), 3) := by decide +kernel
theorem dX11_puts_181 : decode cX11_puts 181 = .ok (.aload_n 0, 1) := by decide +kernel
theorem dX11_puts_182 : decode cX11_puts 182 = .ok (.iload_n 1, 1) := by decide +kernel
theorem dX11_puts_183 : decode cX11_puts 183 = .ok (.sipush 250, 3) := by decide +kernel
theorem dX11_puts_186 : decode cX11_puts 186 = .ok (.iload_n 2, 1) := by decide +kernel
theorem dX11_puts_187 : decode cX11_puts 187 = .ok (.iadd, 1) := by decide +kernel
theorem dX11_puts_188 : decode cX11_puts 188 = .ok (.iconst 1, 1) := by decide +kernel
theorem dX11_puts_189 : decode cX11_puts 189 = .ok (.invokevirtual 252, 3) := by decide +kernel
theorem dX11_puts_192 : decode cX11_puts 192 = .ok (.iconst 1, 1) := by decide +kernel
theorem dX11_puts_193 : decode cX11_puts 193 = .ok (.ireturn, 1) := by decide +kernel
theorem dX11_putsOr_0 : decode cX11_putsOr 0 = .ok (.aload_n 0, 1) := by decide +kernel
theorem dX11_putsOr_1 : decode cX11_putsOr 1 = .ok (.iload_n 1, 1) := by decide +kernel
theorem dX11_putsOr_2 : decode cX11_putsOr 2 = .ok (.iload_n 2, 1) := by decide +kernel
theorem dX11_putsOr_3 : decode cX11_putsOr 3 = .ok (.invokevirtual 300, 3) := by decide +kernel
theorem dX11_putsOr_6 : decode cX11_putsOr 6 = .ok (.ifCond .eq 7, 3) := by decide +kernel
theorem dX11_putsOr_9 : decode cX11_putsOr 9 = .ok (.iconst 1, 1) := by decide +kernel
theorem dX11_putsOr_10 : decode cX11_putsOr 10 = .ok (.goto 17, 3) := by decide +kernel
theorem dX11_putsOr_13 : decode cX11_putsOr 13 = .ok (.aload_n 0, 1) := by decide +kernel
theorem dX11_putsOr_14 : decode cX11_putsOr 14 = .ok (.iload_n 1, 1) := by decide +kernel
theorem dX11_putsOr_15 : decode cX11_putsOr 15 = .ok (.iload_n 2, 1) := by decide +kernel
theorem dX11_putsOr_16 : decode cX11_putsOr 16 = .ok (.invokevirtual 306, 3) := by decide +kernel
theorem dX11_putsOr_19 : decode cX11_putsOr 19 = .ok (.ifCond .eq 7, 3) := by decide +kernel
theorem dX11_putsOr_22 : decode cX11_putsOr 22 = .ok (.iconst 0, 1) := by decide +kernel
theorem dX11_putsOr_23 : decode cX11_putsOr 23 = .ok (.goto 4, 3) := by decide +kernel
theorem dX11_putsOr_26 : decode cX11_putsOr 26 = .ok (.iconst (-1), 1) := by decide +kernel
theorem dX11_putsOr_27 : decode cX11_putsOr 27 = .ok (.ireturn, 1) := by decide +kernel
theorem dX11_put_0 : decode cX11_put 0 = .ok (.aload_n 0, 1) := by decide +kernel
theorem dX11_put_1 : decode cX11_put 1 = .ok (.aload_n 0, 1) := by decide +kernel
theorem dX11_put_2 : decode cX11_put 2 = .ok (.iload_n 1, 1) := by decide +kernel
theorem dX11_put_3 : decode cX11_put 3 = .ok (.invokevirtual 256, 3) := by decide +kernel
theorem dX11_put_6 : decode cX11_put 6 = .ok (.ifCond .ne 7, 3) := by decide +kernel
theorem dX11_put_9 : decode cX11_put 9 = .ok (.iconst 1, 1) := by decide +kernel
theorem dX11_put_10 : decode cX11_put 10 = .ok (.goto 31, 3) := by decide +kernel
theorem dX11_put_13 : decode cX11_put 13 = .ok (.aload_n 0, 1) := by decide +kernel
theorem dX11_put_14 : decode cX11_put 14 = .ok (.iload_n 1, 1) := by decide +kernel
theorem dX11_put_15 : decode cX11_put 15 = .ok (.iconst 0, 1) := by decide +kernel
theorem dX11_put_16 : decode cX11_put 16 = .ok (.invokevirtual 237, 3) := by decide +kernel
theorem dX11_put_19 : decode cX11_put 19 = .ok (.iconst 4, 1) := by decide +kernel
theorem dX11_put_20 : decode cX11_put 20 = .ok (.if_icmp .ne 7, 3) := by decide +kernel
theorem dX11_put_23 : decode cX11_put 23 = .ok (.iconst 2, 1) := by decide +kernel
theorem dX11_put_24 : decode cX11_put 24 = .ok (.goto 17, 3) := by decide +kernel
theorem dX11_put_27 : decode cX11_put 27 = .ok (.aload_n 0, 1) := by decide +kernel
theorem dX11_put_28 : decode cX11_put 28 = .ok (.iload_n 2, 1) := by decide +kernel
theorem dX11_put_29 : decode cX11_put 29 = .ok (.i2l, 1) := by decide +kernel
theorem dX11_put_30 : decode cX11_put 30 = .ok (.invokevirtual 228, 3) := by decide +kernel
theorem dX11_put_33 : decode cX11_put 33 = .ok (.ifCond .eq 7, 3) := by decide +kernel
theorem dX11_put_36 : decode cX11_put 36 = .ok (.iconst 0, 1) := by decide +kernel
theorem dX11_put_37 : decode cX11_put 37 = .ok (.goto 4, 3) := by decide +kernel
theorem dX11_put_40 : decode cX11_put 40 = .ok (.iconst 3, 1) := by decide +kernel
theorem dX11_put_41 : decode cX11_put 41 = .ok (.putfield 92, 3) := by decide +kernel
theorem dX11_put_44 : decode cX11_put 44 = .ok (.aload_n 0, 1) := by decide +kernel
theorem dX11_put_45 : decode cX11_put 45 = .ok (.getfield 92, 3) := by decide +kernel
theorem dX11_put_48 : decode cX11_put 48 = .ok (.ifCond .le 7, 3) := by decide +kernel
theorem dX11_put_51 : decode cX11_put 51 = .ok (.iconst 0, 1) := by decide +kernel
theorem dX11_put_52 : decode cX11_put 52 = .ok (.goto 9, 3) := by decide +kernel
theorem dX11_put_55 : decode cX11_put 55 = .ok (.aload_n 0, 1) := by decide +kernel
theorem dX11_put_56 : decode cX11_put 56 = .ok (.iload_n 1, 1) := by decide +kernel
theorem dX11_put_57 : decode cX11_put 57 = .ok (.iload_n 2, 1) := by decide +kernel
theorem dX11_put_58 : decode cX11_put 58 = .ok (.invokevirtual 309, 3) := by decide +kernel
theorem dX11_put_61 : decode cX11_put 61 = .ok (.ireturn, 1) := by decide +kernel
theorem dX11_take_0 : decode cX11_take 0 = .ok (.aload_n 0, 1) := by decide +kernel
theorem dX11_take_1 : decode cX11_take 1 = .ok (.aload_n 0, 1) := by decide +kernel
theorem dX11_take_2 : decode cX11_take 2 = .ok (.iload_n 1, 1) := by decide +kernel
theorem dX11_take_3 : decode cX11_take 3 = .ok (.invokevirtual 256, 3) := by decide +kernel
theorem dX11_take_6 : decode cX11_take 6 = .ok (.ifCond .ne 7, 3) := by decide +kernel
theorem dX11_take_9 : decode cX11_take 9 = .ok (.iconst 1, 1) := by decide +kernel
theorem dX11_take_10 : decode cX11_take 10 = .ok (.goto 41, 3) := by decide +kernel
theorem dX11_take_13 : decode cX11_take 13 = .ok (.aload_n 0, 1) := by decide +kernel
theorem dX11_take_14 : decode cX11_take 14 = .ok (.iload_n 1, 1) := by decide +kernel
theorem dX11_take_15 : decode cX11_take 15 = .ok (.iconst 0, 1) := by decide +kernel
theorem dX11_take_16 : decode cX11_take 16 = .ok (.invokevirtual 237, 3) := by decide +kernel
theorem dX11_take_19 : decode cX11_take 19 = .ok (.iconst 1, 1) := by decide +kernel
theorem dX11_take_20 : decode cX11_take 20 = .ok (.if_icmp .eq 17, 3) := by decide +kernel
theorem dX11_take_23 : decode cX11_take 23 = .ok (.aload_n 0, 1) := by decide +kernel
theorem dX11_take_24 : decode cX11_take 24 = .ok (.iload_n 1, 1) := by decide +kernel
theorem dX11_take_25 : decode cX11_take 25 = .ok (.iconst 0, 1) := by decide +kernel
theorem dX11_take_26 : decode cX11_take 26 = .ok (.invokevirtual 237, 3) := by decide +kernel
theorem dX11_take_29 : decode cX11_take 29 = .ok (.iconst 2, 1) := by decide +kernel
theorem dX11_take_30 : decode cX11_take 30 = .ok (.if_icmp .eq 7, 3) := by decide +kernel
theorem dX11_take_33 : decode cX11_take 33 = .ok (.iconst 2, 1) := by decide +kernel
theorem dX11_take_34 : decode cX11_take 34 = .ok (.goto 17, 3) := by decide +kernel
theorem dX11_take_37 : decode cX11_take 37 = .ok (.aload_n 0, 1) := by decide +kernel
theorem dX11_take_38 : decode cX11_take 38 = .ok (.iload_n 2, 1) := by decide +kernel
theorem dX11_take_39 : decode cX11_take 39 = .ok (.i2l, 1) := by decide +kernel
theorem dX11_take_40 : decode cX11_take 40 = .ok (.invokevirtual 228, 3) := by decide +kernel
theorem dX11_take_43 : decode cX11_take 43 = .ok (.ifCond .eq 7, 3) := by decide +kernel
theorem dX11_take_46 : decode cX11_take 46 = .ok (.iconst 0, 1) := by decide +kernel
theorem dX11_take_47 : decode cX11_take 47 = .ok (.goto 4, 3) := by decide +kernel
theorem dX11_take_50 : decode cX11_take 50 = .ok (.iconst 3, 1) := by decide +kernel
theorem dX11_take_51 : decode cX11_take 51 = .ok (.putfield 92, 3) := by decide +kernel
theorem dX11_take_54 : decode cX11_take 54 = .ok (.aload_n 0, 1) := by decide +kernel
theorem dX11_take_55 : decode cX11_take 55 = .ok (.getfield 92, 3) := by decide +kernel
theorem dX11_take_58 : decode cX11_take 58 = .ok (.ifCond .gt 12, 3) := by decide +kernel
theorem dX11_take_61 : decode cX11_take 61 = .ok (.aload_n 0, 1) := by decide +kernel
theorem dX11_take_62 : decode cX11_take 62 = .ok (.iload_n 1, 1) := by decide +kernel
theorem dX11_take_63 : decode cX11_take 63 = .ok (.iload_n 2, 1) := by decide +kernel
theorem dX11_take_64 : decode cX11_take 64 = .ok (.invokevirtual 300, 3) := by decide +kernel
theorem dX11_take_67 : decode cX11_take 67 = .ok (.ifCond .ne 5, 3) := by decide +kernel
theorem dX11_take_70 : decode cX11_take 70 = .ok (.iconst 0, 1) := by decide +kernel
theorem dX11_take_71 : decode cX11_take 71 = .ok (.ireturn, 1) := by decide +kernel
theorem dX11_take_72 : decode cX11_take 72 = .ok (.aload_n 0, 1) := by decide +kernel
theorem dX11_take_73 : decode cX11_take 73 = .ok (.iload_n 1, 1) := by decide +kernel
theorem dX11_take_74 : decode cX11_take 74 = .ok (.sipush 250, 3) := by decide +kernel
theorem dX11_take_77 : decode cX11_take 77 = .ok (.iload_n 2, 1) := by decide +kernel
theorem dX11_take_78 : decode cX11_take 78 = .ok (.iadd, 1) := by decide +kernel
theorem dX11_take_79 : decode cX11_take 79 = .ok (.iconst 0, 1) := by decide +kernel
theorem dX11_take_80 : decode cX11_take 80 = .ok (.invokevirtual 252, 3) := by decide +kernel
theorem dX11_take_83 : decode cX11_take 83 = .ok (.aload_n 0, 1) := by decide +kernel
theorem dX11_take_84 : decode cX11_take 84 = .ok (.iload_n 1, 1) := by decide +kernel
theorem dX11_take_85 : decode cX11_take 85 = .ok (.iconst 0, 1) := by decide +kernel
theorem dX11_take_86 : decode cX11_take 86 = .ok (.invokevirtual 237, 3) := by decide +kernel
theorem dX11_take_89 : decode cX11_take 89 = .ok (.iconst 1, 1) := by decide +kernel
theorem dX11_take_90 : decode cX11_take 90 = .ok (.if_icmp .ne 69, 3) := by decide +kernel
theorem dX11_take_93 : decode cX11_take 93 = .ok (.iconst 0, 1) := by decide +kernel
theorem dX11_take_94 : decode cX11_take 94 = .ok (.istore_n 3, 1) := by decide +kernel
theorem dX11_take_95 : decode cX11_take 95 = .ok (.iload_n 3, 1) := by decide +kernel
theorem dX11_take_96 : decode cX11_take 96 = .ok (.aload_n 0, 1) := by decide +kernel
theorem dX11_take_97 : decode cX11_take 97 = .ok (.iload_n 1, 1) := by decide +kernel
theorem dX11_take_98 : decode cX11_take 98 = .ok (.iconst 2, 1) := by decide +kernel
theorem dX11_take_99 : decode cX11_take 99 = .ok (.invokevirtual 237, 3) := by decide +kernel
theorem dX11_take_102 : decode cX11_take 102 = .ok (.if_icmp .ge 55, 3) := by decide +kernel
theorem dX11_take_105 : decode cX11_take 105 = .ok (.bipush 10, 2) := by decide +kernel
theorem dX11_take_107 : decode cX11_take 107 = .ok (.aload_n 0, 1) := by decide +kernel
theorem dX11_take_108 : decode cX11_take 108 = .ok (.iload_n 1, 1) := by decide +kernel
theorem dX11_take_109 : decode cX11_take 109 = .ok (.iload_n 3, 1) := by decide +kernel
theorem dX11_take_110 : decode cX11_take 110 = .ok (.iload_n 2, 1) := by decide +kernel
theorem dX11_take_111 : decode cX11_take 111 = .ok (.invokevirtual 273, 3) := by decide +kernel
theorem dX11_take_114 : decode cX11_take 114 = .ok (.iadd, 1) := by decide +kernel
theorem dX11_take_115 : decode cX11_take 115 = .ok (.istore 4, 2) := by decide +kernel
theorem dX11_take_117 : decode cX11_take 117 = .ok (.aload_n 0, 1) := by decide +kernel
theorem dX11_take_118 : decode cX11_take 118 = .ok (.iload_n 1, 1) := by decide +kernel
theorem dX11_take_119 : decode cX11_take 119 = .ok (.iload 4, 2) := by decide +kernel
theorem dX11_take_121 : decode cX11_take 121 = .ok (.invokevirtual 237, 3) := by decide +kernel
theorem dX11_take_124 : decode cX11_take 124 = .ok (.i2l, 1) := by decide +kernel
theorem dX11_take_125 : decode cX11_take 125 = .ok (.lconst 1, 1) := by decide +kernel
theorem dX11_take_126 : decode cX11_take 126 = .ok (.ldc2_w 312, 3) := by decide +kernel
theorem dX11_take_129 : decode cX11_take 129 = .ok (.invokestatic 157, 3) := by decide +kernel
theorem dX11_take_132 : decode cX11_take 132 = .ok (.ifCond .eq 19, 3) := by decide +kernel
theorem dX11_take_135 : decode cX11_take 135 = .ok (.aload_n 0, 1) := by decide +kernel
theorem dX11_take_136 : decode cX11_take 136 = .ok (.iload_n 1, 1) := by decide +kernel
theorem dX11_take_137 : decode cX11_take 137 = .ok (.iload 4, 2) := by decide +kernel
theorem dX11_take_139 : decode cX11_take 139 = .ok (.aload_n 0, 1) := by decide +kernel
theorem dX11_take_140 : decode cX11_take 140 = .ok (.iload_n 1, 1) := by decide +kernel
theorem dX11_take_141 : decode cX11_take 141 = .ok (.iload 4, 2) := by decide +kernel
theorem dX11_take_143 : decode cX11_take 143 = .ok (.invokevirtual 237, 3) := by decide +kernel
theorem dX11_take_146 : decode cX11_take 146 = .ok (.iconst 1, 1) := by decide +kernel
theorem dX11_take_147 : decode cX11_take 147 = .ok (.isub, 1) := by decide +kernel
theorem dX11_take_148 : decode cX11_take 148 = .ok (.invokevirtual 252, 3) := by decide +kernel
theorem dX11_take_151 : decode cX11_take 151 = .ok (.iinc 3 1, 3) := by decide +kernel
theorem dX11_take_154 : decode cX11_take 154 = .ok (.goto (-59), 3) := by decide +kernel
theorem dX11_take_157 : decode cX11_take 157 = .ok (.iconst 1, 1) := by decide +kernel
theorem dX11_take_158 : decode cX11_take 158 = .ok (.ireturn, 1) := by decide +kernel
theorem dX11_take_159 : decode cX11_take 159 = .ok (.bipush 10, 2) := by decide +kernel
theorem dX11_take_161 : decode cX11_take 161 = .ok (.istore_n 3, 1) := by decide +kernel
theorem dX11_take_162 : decode cX11_take 162 = .ok (.iload_n 3, 1) := by decide +kernel
theorem dX11_take_163 : decode cX11_take 163 = .ok (.aload_n 0, 1) := by decide +kernel
theorem dX11_take_164 : decode cX11_take 164 = .ok (.iload_n 1, 1) := by decide +kernel
theorem dX11_take_165 : decode cX11_take 165 = .ok (.aload_n 0, 1) := by decide +kernel
theorem dX11_take_166 : decode cX11_take 166 = .ok (.iload_n 1, 1) := by decide +kernel
theorem dX11_take_167 : decode cX11_take 167 = .ok (.iconst 1, 1) := by decide +kernel
theorem dX11_take_168 : decode cX11_take 168 = .ok (.invokevirtual 237, 3) := by decide +kernel
theorem dX11_take_171 : decode cX11_take 171 = .ok (.iconst 0, 1) := by decide +kernel
theorem dX11_take_172 : decode cX11_take 172 = .ok (.invokevirtual 270, 3) := by decide +kernel
theorem dX11_take_175 : decode cX11_take 175 = .ok (.if_icmp .ge 28, 3) := by decide +kernel
theorem dX11_take_178 : decode cX11_take 178 = .ok (.aload_n 0, 1) := by decide +kernel
theorem dX11_take_179 : decode cX11_take 179 = .ok (.iload_n 1, 1) := by decide +kernel
theorem dX11_take_180 : decode cX11_take 180 = .ok (.iload_n 3, 1) := by decide +kernel
theorem dX11_take_181 : decode cX11_take 181 = .ok (.invokevirtual 237, 3) := by decide +kernel
theorem dX11_take_184 : decode cX11_take 184 = .ok (.iload_n 2, 1) := by decide +kernel
theorem dX11_take_185 : decode cX11_take 185 = .ok (.iconst 1, 1) := by decide +kernel
theorem dX11_take_186 : decode cX11_take 186 = .ok (.iadd, 1) := by decide +kernel
theorem dX11_take_187 : decode cX11_take 187 = .ok (.if_icmp .ne 10, 3) := by decide +kernel
theorem dX11_take_190 : decode cX11_take 190 = .ok (.aload_n 0, 1) := by decide +kernel
theorem dX11_take_191 : decode cX11_take 191 = .ok (.iload_n 1, 1) := by decide +kernel
theorem dX11_take_192 : decode cX11_take 192 = .ok (.iload_n 3, 1) := by decide +kernel
theorem dX11_take_193 : decode cX11_take 193 = .ok (.iconst 0, 1) := by decide +kernel
theorem dX11_take_194 : decode cX11_take 194 = .ok (.invokevirtual 252, 3) := by decide +kernel
theorem dX11_take_197 : decode cX11_take 197 = .ok (.iinc 3 1, 3) := by decide +kernel
theorem dX11_take_200 : decode cX11_take 200 = .ok (.goto (-38), 3) := by decide +kernel
theorem dX11_take_203 : decode cX11_take 203 = .ok (.iconst 1, 1) := by decide +kernel
theorem dX11_take_204 : decode cX11_take 204 = .ok (.ireturn, 1) := by decide +kernel
theorem dX11_isCounted_0 : decode cX11_isCounted 0 = .ok (.iload_n 0, 1) := by decide +kernel
theorem dX11_isCounted_1 : decode cX11_isCounted 1 = .ok (.ifCond .eq 8, 3) := by decide +kernel
theorem dX11_isCounted_4 : decode cX11_isCounted 4 = .ok (.iload_n 0, 1) := by decide +kernel
theorem dX11_isCounted_5 : decode cX11_isCounted 5 = .ok (.iconst 1, 1) := by decide +kernel
theorem dX11_isCounted_6 : decode cX11_isCounted 6 = .ok (.if_icmp .ne 7, 3) := by decide +kernel
theorem dX11_isCounted_9 : decode cX11_isCounted 9 = .ok (.iconst 1, 1) := by decide +kernel
theorem dX11_isCounted_10 : decode cX11_isCounted 10 = .ok (.goto 4, 3) := by decide +kernel
theorem dX11_isCounted_13 : decode cX11_isCounted 13 = .ok (.iconst 0, 1) := by decide +kernel
theorem dX11_isCounted_14 : decode cX11_isCounted 14 = .ok (.ireturn, 1) := by decide +kernel
theorem dX11_together_0 : decode cX11_together 0 = .ok (.aload_n 0, 1) := by decide +kernel
theorem dX11_together_1 : decode cX11_together 1 = .ok (.iload_n 1, 1) := by decide +kernel
theorem dX11_together_2 : decode cX11_together 2 = .ok (.iconst 0, 1) := by decide +kernel
theorem dX11_together_3 : decode cX11_together 3 = .ok (.invokevirtual 237, 3) := by decide +kernel
theorem dX11_together_6 : decode cX11_together 6 = .ok (.ifCond .ne 9, 3) := by decide +kernel
theorem dX11_together_9 : decode cX11_together 9 = .ok (.iload_n 2, 1) := by decide +kernel
theorem dX11_together_10 : decode cX11_together 10 = .ok (.iload_n 3, 1) := by decide +kernel
theorem dX11_together_11 : decode cX11_together 11 = .ok (.ior, 1) := by decide +kernel
theorem dX11_together_12 : decode cX11_together 12 = .ok (.goto 11, 3) := by decide +kernel
theorem dX11_together_15 : decode cX11_together 15 = .ok (.bipush 15, 2) := by decide +kernel
theorem dX11_together_17 : decode cX11_together 17 = .ok (.iload_n 2, 1) := by decide +kernel
theorem dX11_together_18 : decode cX11_together 18 = .ok (.iload_n 3, 1) := by decide +kernel
theorem dX11_together_19 : decode cX11_together 19 = .ok (.iadd, 1) := by decide +kernel
theorem dX11_together_20 : decode cX11_together 20 = .ok (.invokestatic 240, 3) := by decide +kernel
theorem dX11_together_23 : decode cX11_together 23 = .ok (.ireturn, 1) := by decide +kernel
theorem dX11_join_0 : decode cX11_join 0 = .ok (.aload_n 0, 1) := by decide +kernel
theorem dX11_join_1 : decode cX11_join 1 = .ok (.iconst 0, 1) := by decide +kernel
theorem dX11_join_2 : decode cX11_join 2 = .ok (.putfield 92, 3) := by decide +kernel
theorem dX11_join_5 : decode cX11_join 5 = .ok (.aload_n 0, 1) := by decide +kernel
theorem dX11_join_6 : decode cX11_join 6 = .ok (.iload_n 1, 1) := by decide +kernel
theorem dX11_join_7 : decode cX11_join 7 = .ok (.invokevirtual 256, 3) := by decide +kernel
theorem dX11_join_10 : decode cX11_join 10 = .ok (.ifCond .eq 11, 3) := by decide +kernel
theorem dX11_join_13 : decode cX11_join 13 = .ok (.aload_n 0, 1) := by decide +kernel
theorem dX11_join_14 : decode cX11_join 14 = .ok (.iload_n 2, 1) := by decide +kernel
theorem dX11_join_15 : decode cX11_join 15 = .ok (.invokevirtual 256, 3) := by decide +kernel
theorem dX11_join_18 : decode cX11_join 18 = .ok (.ifCond .ne 9, 3) := by decide +kernel
theorem dX11_join_21 : decode cX11_join 21 = .ok (.aload_n 0, 1) := by decide +kernel
theorem dX11_join_22 : decode cX11_join 22 = .ok (.iconst 1, 1) := by decide +kernel
theorem dX11_join_23 : decode cX11_join 23 = .ok (.invokevirtual 201, 3) := by decide +kernel
theorem dX11_join_26 : decode cX11_join 26 = .ok (.ireturn, 1) := by decide +kernel
theorem dX11_join_27 : decode cX11_join 27 = .ok (.iconst 0, 1) := by decide +kernel
theorem dX11_join_28 : decode cX11_join 28 = .ok (.istore_n 3, 1) := by decide +kernel
theorem dX11_join_29 : decode cX11_join 29 = .ok (.iload_n 3, 1) := by decide +kernel
theorem dX11_join_30 : decode cX11_join 30 = .ok (.iconst 2, 1) := by decide +kernel
theorem dX11_join_31 : decode cX11_join 31 = .ok (.if_icmp .gt 30, 3) := by decide +kernel
theorem dX11_join_34 : decode cX11_join 34 = .ok (.aload_n 0, 1) := by decide +kernel
theorem dX11_join_35 : decode cX11_join 35 = .ok (.iload_n 1, 1) := by decide +kernel
theorem dX11_join_36 : decode cX11_join 36 = .ok (.iload_n 3, 1) := by decide +kernel
theorem dX11_join_37 : decode cX11_join 37 = .ok (.invokevirtual 237, 3) := by decide +kernel
theorem dX11_join_40 : decode cX11_join 40 = .ok (.aload_n 0, 1) := by decide +kernel
theorem dX11_join_41 : decode cX11_join 41 = .ok (.iload_n 2, 1) := by decide +kernel
theorem dX11_join_42 : decode cX11_join 42 = .ok (.iload_n 3, 1) := by decide +kernel
theorem dX11_join_43 : decode cX11_join 43 = .ok (.invokevirtual 237, 3) := by decide +kernel
theorem dX11_join_46 : decode cX11_join 46 = .ok (.if_icmp .eq 9, 3) := by decide +kernel
theorem dX11_join_49 : decode cX11_join 49 = .ok (.aload_n 0, 1) := by decide +kernel
theorem dX11_join_50 : decode cX11_join 50 = .ok (.iconst 2, 1) := by decide +kernel
theorem dX11_join_51 : decode cX11_join 51 = .ok (.invokevirtual 201, 3) := by decide +kernel
theorem dX11_join_54 : decode cX11_join 54 = .ok (.ireturn, 1) := by decide +kernel
theorem dX11_join_55 : decode cX11_join 55 = .ok (.iinc 3 1, 3) := by decide +kernel
theorem dX11_join_58 : decode cX11_join 58 = .ok (.goto (-29), 3) := by decide +kernel
theorem dX11_join_61 : decode cX11_join 61 = .ok (.aload_n 0, 1) := by decide +kernel
theorem dX11_join_62 : decode cX11_join 62 = .ok (.iload_n 1, 1) := by decide +kernel
theorem dX11_join_63 : decode cX11_join 63 = .ok (.iconst 0, 1) := by decide +kernel
theorem dX11_join_64 : decode cX11_join 64 = .ok (.invokevirtual 237, 3) := by decide +kernel
theorem dX11_join_67 : decode cX11_join 67 = .ok (.invokestatic 314, 3) := by decide +kernel
theorem dX11_join_70 : decode cX11_join 70 = .ok (.ifCond .ne 9, 3) := by decide +kernel
theorem dX11_join_73 : decode cX11_join 73 = .ok (.aload_n 0, 1) := by decide +kernel
theorem dX11_join_74 : decode cX11_join 74 = .ok (.iconst 2, 1) := by decide +kernel
theorem dX11_join_75 : decode cX11_join 75 = .ok (.invokevirtual 201, 3) := by decide +kernel
theorem dX11_join_78 : decode cX11_join 78 = .ok (.ireturn, 1) := by decide +kernel
theorem dX11_join_79 : decode cX11_join 79 = .ok (.iload_n 1, 1) := by decide +kernel
theorem dX11_join_80 : decode cX11_join 80 = .ok (.iload_n 2, 1) := by decide +kernel
theorem dX11_join_81 : decode cX11_join 81 = .ok (.if_icmp .ne 9, 3) := by decide +kernel
theorem dX11_join_84 : decode cX11_join 84 = .ok (.aload_n 0, 1) := by decide +kernel
theorem dX11_join_85 : decode cX11_join 85 = .ok (.iconst 3, 1) := by decide +kernel
theorem dX11_join_86 : decode cX11_join 86 = .ok (.invokevirtual 201, 3) := by decide +kernel
theorem dX11_join_89 : decode cX11_join 89 = .ok (.ireturn, 1) := by decide +kernel
theorem dX11_join_90 : decode cX11_join 90 = .ok (.bipush 10, 2) := by decide +kernel
theorem dX11_join_92 : decode cX11_join 92 = .ok (.istore_n 3, 1) := by decide +kernel
theorem dX11_join_93 : decode cX11_join 93 = .ok (.iload_n 3, 1) := by decide +kernel
theorem dX11_join_94 : decode cX11_join 94 = .ok (.bipush 10, 2) := by decide +kernel
theorem dX11_join_96 : decode cX11_join 96 = .ok (.aload_n 0, 1) := by decide +kernel
theorem dX11_join_97 : decode cX11_join 97 = .ok (.iload_n 1, 1) := by decide +kernel
theorem dX11_join_98 : decode cX11_join 98 = .ok (.iconst 1, 1) := by decide +kernel
theorem dX11_join_99 : decode cX11_join 99 = .ok (.invokevirtual 237, 3) := by decide +kernel
theorem dX11_join_102 : decode cX11_join 102 = .ok (.iadd, 1) := by decide +kernel
theorem dX11_join_103 : decode cX11_join 103 = .ok (.if_icmp .ge 32, 3) := by decide +kernel
theorem dX11_join_106 : decode cX11_join 106 = .ok (.aload_n 0, 1) := by decide +kernel
theorem dX11_join_107 : decode cX11_join 107 = .ok (.iload_n 1, 1) := by decide +kernel
theorem dX11_join_108 : decode cX11_join 108 = .ok (.iload_n 3, 1) := by decide +kernel
theorem dX11_join_109 : decode cX11_join 109 = .ok (.aload_n 0, 1) := by decide +kernel
theorem dX11_join_110 : decode cX11_join 110 = .ok (.iload_n 1, 1) := by decide +kernel
theorem dX11_join_111 : decode cX11_join 111 = .ok (.aload_n 0, 1) := by decide +kernel
theorem dX11_join_112 : decode cX11_join 112 = .ok (.iload_n 1, 1) := by decide +kernel
theorem dX11_join_113 : decode cX11_join 113 = .ok (.iload_n 3, 1) := by decide +kernel
theorem dX11_join_114 : decode cX11_join 114 = .ok (.invokevirtual 237, 3) := by decide +kernel
theorem dX11_join_117 : decode cX11_join 117 = .ok (.aload_n 0, 1) := by decide +kernel
theorem dX11_join_118 : decode cX11_join 118 = .ok (.iload_n 2, 1) := by decide +kernel
theorem dX11_join_119 : decode cX11_join 119 = .ok (.iload_n 3, 1) := by decide +kernel
theorem dX11_join_120 : decode cX11_join 120 = .ok (.invokevirtual 237, 3) := by decide +kernel
theorem dX11_join_123 : decode cX11_join 123 = .ok (.invokevirtual 317, 3) := by decide +kernel
theorem dX11_join_126 : decode cX11_join 126 = .ok (.invokevirtual 252, 3) := by decide +kernel
theorem dX11_join_129 : decode cX11_join 129 = .ok (.iinc 3 1, 3) := by decide +kernel
theorem dX11_join_132 : decode cX11_join 132 = .ok (.goto (-39), 3) := by decide +kernel
theorem dX11_join_135 : decode cX11_join 135 = .ok (.iconst 0, 1) := by decide +kernel
theorem dX11_join_136 : decode cX11_join 136 = .ok (.istore_n 3, 1) := by decide +kernel
theorem dX11_join_137 : decode cX11_join 137 = .ok (.iload_n 3, 1) := by decide +kernel
theorem dX11_join_138 : decode cX11_join 138 = .ok (.aload_n 0, 1) := by decide +kernel
theorem dX11_join_139 : decode cX11_join 139 = .ok (.getfield 9, 3) := by decide +kernel
theorem dX11_join_142 : decode cX11_join 142 = .ok (.iconst 1, 1) := by decide +kernel
theorem dX11_join_143 : decode cX11_join 143 = .ok (.iaload, 1) := by decide +kernel
theorem dX11_join_144 : decode cX11_join 144 = .ok (.if_icmp .ge 29, 3) := by decide +kernel
theorem dX11_join_147 : decode cX11_join 147 = .ok (.aload_n 0, 1) := by decide +kernel
theorem dX11_join_148 : decode cX11_join 148 = .ok (.iload_n 2, 1) := by decide +kernel
theorem dX11_join_149 : decode cX11_join 149 = .ok (.iload_n 3, 1) := by decide +kernel
theorem dX11_join_150 : decode cX11_join 150 = .ok (.invokevirtual 300, 3) := by decide +kernel
theorem dX11_join_153 : decode cX11_join 153 = .ok (.ifCond .eq 14, 3) := by decide +kernel
theorem dX11_join_156 : decode cX11_join 156 = .ok (.aload_n 0, 1) := by decide +kernel
theorem dX11_join_157 : decode cX11_join 157 = .ok (.iload_n 1, 1) := by decide +kernel
theorem dX11_join_158 : decode cX11_join 158 = .ok (.sipush 250, 3) := by decide +kernel
theorem dX11_join_161 : decode cX11_join 161 = .ok (.iload_n 3, 1) := by decide +kernel
theorem dX11_join_162 : decode cX11_join 162 = .ok (.iadd, 1) := by decide +kernel
theorem dX11_join_163 : decode cX11_join 163 = .ok (.iconst 1, 1) := by decide +kernel
theorem dX11_join_164 : decode cX11_join 164 = .ok (.invokevirtual 252, 3) := by decide +kernel
theorem dX11_join_167 : decode cX11_join 167 = .ok (.iinc 3 1, 3) := by decide +kernel
theorem dX11_join_170 : decode cX11_join 170 = .ok (.goto (-33), 3) := by decide +kernel
theorem dX11_join_173 : decode cX11_join 173 = .ok (.aload_n 0, 1) := by decide +kernel
theorem dX11_join_174 : decode cX11_join 174 = .ok (.iload_n 1, 1) := by decide +kernel
theorem dX11_join_175 : decode cX11_join 175 = .ok (.invokevirtual 261, 3) := by decide +kernel
theorem dX11_join_178 : decode cX11_join 178 = .ok (.ireturn, 1) := by decide +kernel
theorem dX11_halve_0 : decode cX11_halve 0 = .ok (.aload_n 0, 1) := by decide +kernel
theorem dX11_halve_1 : decode cX11_halve 1 = .ok (.iconst 0, 1) := by decide +kernel
theorem dX11_halve_2 : decode cX11_halve 2 = .ok (.putfield 92, 3) := by decide +kernel
theorem dX11_halve_5 : decode cX11_halve 5 = .ok (.aload_n 0, 1) := by decide +kernel
theorem dX11_halve_6 : decode cX11_halve 6 = .ok (.iload_n 1, 1) := by decide +kernel
theorem dX11_halve_7 : decode cX11_halve 7 = .ok (.invokevirtual 256, 3) := by decide +kernel
theorem dX11_halve_10 : decode cX11_halve 10 = .ok (.ifCond .ne 9, 3) := by decide +kernel
theorem dX11_halve_13 : decode cX11_halve 13 = .ok (.aload_n 0, 1) := by decide +kernel
theorem dX11_halve_14 : decode cX11_halve 14 = .ok (.iconst 1, 1) := by decide +kernel
theorem dX11_halve_15 : decode cX11_halve 15 = .ok (.invokevirtual 201, 3) := by decide +kernel
theorem dX11_halve_18 : decode cX11_halve 18 = .ok (.ireturn, 1) := by decide +kernel
theorem dX11_halve_19 : decode cX11_halve 19 = .ok (.aload_n 0, 1) := by decide +kernel
theorem dX11_halve_20 : decode cX11_halve 20 = .ok (.iload_n 1, 1) := by decide +kernel
theorem dX11_halve_21 : decode cX11_halve 21 = .ok (.iconst 0, 1) := by decide +kernel
theorem dX11_halve_22 : decode cX11_halve 22 = .ok (.invokevirtual 237, 3) := by decide +kernel
theorem dX11_halve_25 : decode cX11_halve 25 = .ok (.invokestatic 314, 3) := by decide +kernel
theorem dX11_halve_28 : decode cX11_halve 28 = .ok (.ifCond .eq 15, 3) := by decide +kernel
theorem dX11_halve_31 : decode cX11_halve 31 = .ok (.aload_n 0, 1) := by decide +kernel
theorem dX11_halve_32 : decode cX11_halve 32 = .ok (.iload_n 1, 1) := by decide +kernel
theorem dX11_halve_33 : decode cX11_halve 33 = .ok (.iconst 1, 1) := by decide +kernel
theorem dX11_halve_34 : decode cX11_halve 34 = .ok (.invokevirtual 237, 3) := by decide +kernel
theorem dX11_halve_37 : decode cX11_halve 37 = .ok (.iconst 2, 1) := by decide +kernel
theorem dX11_halve_38 : decode cX11_halve 38 = .ok (.irem, 1) := by decide +kernel
theorem dX11_halve_39 : decode cX11_halve 39 = .ok (.iconst 1, 1) := by decide +kernel
theorem dX11_halve_40 : decode cX11_halve 40 = .ok (.if_icmp .ne 9, 3) := by decide +kernel
theorem dX11_halve_43 : decode cX11_halve 43 = .ok (.aload_n 0, 1) := by decide +kernel
theorem dX11_halve_44 : decode cX11_halve 44 = .ok (.iconst 2, 1) := by decide +kernel
theorem dX11_halve_45 : decode cX11_halve 45 = .ok (.invokevirtual 201, 3) := by decide +kernel
theorem dX11_halve_48 : decode cX11_halve 48 = .ok (.ireturn, 1) := by decide +kernel
theorem dX11_halve_49 : decode cX11_halve 49 = .ok (.aload_n 0, 1) := by decide +kernel
theorem dX11_halve_50 : decode cX11_halve 50 = .ok (.iload_n 1, 1) := by decide +kernel
theorem dX11_halve_51 : decode cX11_halve 51 = .ok (.iconst 1, 1) := by decide +kernel
theorem dX11_halve_52 : decode cX11_halve 52 = .ok (.invokevirtual 237, 3) := by decide +kernel
theorem dX11_halve_55 : decode cX11_halve 55 = .ok (.iconst 2, 1) := by decide +kernel
theorem dX11_halve_56 : decode cX11_halve 56 = .ok (.idiv, 1) := by decide +kernel
theorem dX11_halve_57 : decode cX11_halve 57 = .ok (.istore_n 2, 1) := by decide +kernel
theorem dX11_halve_58 : decode cX11_halve 58 = .ok (.bipush 10, 2) := by decide +kernel
theorem dX11_halve_60 : decode cX11_halve 60 = .ok (.istore_n 3, 1) := by decide +kernel
theorem dX11_halve_61 : decode cX11_halve 61 = .ok (.iload_n 3, 1) := by decide +kernel
theorem dX11_halve_62 : decode cX11_halve 62 = .ok (.bipush 10, 2) := by decide +kernel
theorem dX11_halve_64 : decode cX11_halve 64 = .ok (.iload_n 2, 1) := by decide +kernel
theorem dX11_halve_65 : decode cX11_halve 65 = .ok (.iadd, 1) := by decide +kernel
theorem dX11_halve_66 : decode cX11_halve 66 = .ok (.if_icmp .ge 43, 3) := by decide +kernel
theorem dX11_halve_69 : decode cX11_halve 69 = .ok (.aload_n 0, 1) := by decide +kernel
theorem dX11_halve_70 : decode cX11_halve 70 = .ok (.iload_n 1, 1) := by decide +kernel
theorem dX11_halve_71 : decode cX11_halve 71 = .ok (.iload_n 3, 1) := by decide +kernel
theorem dX11_halve_72 : decode cX11_halve 72 = .ok (.aload_n 0, 1) := by decide +kernel
theorem dX11_halve_73 : decode cX11_halve 73 = .ok (.iload_n 1, 1) := by decide +kernel
theorem dX11_halve_74 : decode cX11_halve 74 = .ok (.aload_n 0, 1) := by decide +kernel
theorem dX11_halve_75 : decode cX11_halve 75 = .ok (.iload_n 1, 1) := by decide +kernel
theorem dX11_halve_76 : decode cX11_halve 76 = .ok (.iload_n 3, 1) := by decide +kernel
theorem dX11_halve_77 : decode cX11_halve 77 = .ok (.invokevirtual 237, 3) := by decide +kernel
theorem dX11_halve_80 : decode cX11_halve 80 = .ok (.aload_n 0, 1) := by decide +kernel
theorem dX11_halve_81 : decode cX11_halve 81 = .ok (.iload_n 1, 1) := by decide +kernel
theorem dX11_halve_82 : decode cX11_halve 82 = .ok (.iload_n 3, 1) := by decide +kernel
theorem dX11_halve_83 : decode cX11_halve 83 = .ok (.iload_n 2, 1) := by decide +kernel
theorem dX11_halve_84 : decode cX11_halve 84 = .ok (.iadd, 1) := by decide +kernel
theorem dX11_halve_85 : decode cX11_halve 85 = .ok (.invokevirtual 237, 3) := by decide +kernel
theorem dX11_halve_88 : decode cX11_halve 88 = .ok (.invokevirtual 317, 3) := by decide +kernel
theorem dX11_halve_91 : decode cX11_halve 91 = .ok (.invokevirtual 252, 3) := by decide +kernel
theorem dX11_halve_94 : decode cX11_halve 94 = .ok (.aload_n 0, 1) := by decide +kernel
theorem dX11_halve_95 : decode cX11_halve 95 = .ok (.iload_n 1, 1) := by decide +kernel
theorem dX11_halve_96 : decode cX11_halve 96 = .ok (.iload_n 3, 1) := by decide +kernel
theorem dX11_halve_97 : decode cX11_halve 97 = .ok (.iload_n 2, 1) := by decide +kernel
theorem dX11_halve_98 : decode cX11_halve 98 = .ok (.iadd, 1) := by decide +kernel
theorem dX11_halve_99 : decode cX11_halve 99 = .ok (.iconst 0, 1) := by decide +kernel
theorem dX11_halve_100 : decode cX11_halve 100 = .ok (.invokevirtual 252, 3) := by decide +kernel
theorem dX11_halve_103 : decode cX11_halve 103 = .ok (.iinc 3 1, 3) := by decide +kernel
theorem dX11_halve_106 : decode cX11_halve 106 = .ok (.goto (-45), 3) := by decide +kernel
theorem dX11_halve_109 : decode cX11_halve 109 = .ok (.aload_n 0, 1) := by decide +kernel
theorem dX11_halve_110 : decode cX11_halve 110 = .ok (.iload_n 1, 1) := by decide +kernel
theorem dX11_halve_111 : decode cX11_halve 111 = .ok (.iconst 1, 1) := by decide +kernel
theorem dX11_halve_112 : decode cX11_halve 112 = .ok (.iload_n 2, 1) := by decide +kernel
theorem dX11_halve_113 : decode cX11_halve 113 = .ok (.invokevirtual 252, 3) := by decide +kernel
theorem dX11_halve_116 : decode cX11_halve 116 = .ok (.iload_n 2, 1) := by decide +kernel
theorem dX11_halve_117 : decode cX11_halve 117 = .ok (.ireturn, 1) := by decide +kernel
theorem dX11_grow_0 : decode cX11_grow 0 = .ok (.aload_n 0, 1) := by decide +kernel
theorem dX11_grow_1 : decode cX11_grow 1 = .ok (.iconst 0, 1) := by decide +kernel
theorem dX11_grow_2 : decode cX11_grow 2 = .ok (.putfield 92, 3) := by decide +kernel
theorem dX11_grow_5 : decode cX11_grow 5 = .ok (.aload_n 0, 1) := by decide +kernel
theorem dX11_grow_6 : decode cX11_grow 6 = .ok (.iload_n 1, 1) := by decide +kernel
theorem dX11_grow_7 : decode cX11_grow 7 = .ok (.invokevirtual 256, 3) := by decide +kernel
theorem dX11_grow_10 : decode cX11_grow 10 = .ok (.ifCond .ne 9, 3) := by decide +kernel
theorem dX11_grow_13 : decode cX11_grow 13 = .ok (.aload_n 0, 1) := by decide +kernel
theorem dX11_grow_14 : decode cX11_grow 14 = .ok (.iconst 1, 1) := by decide +kernel
theorem dX11_grow_15 : decode cX11_grow 15 = .ok (.invokevirtual 201, 3) := by decide +kernel
theorem dX11_grow_18 : decode cX11_grow 18 = .ok (.ireturn, 1) := by decide +kernel
theorem dX11_grow_19 : decode cX11_grow 19 = .ok (.aload_n 0, 1) := by decide +kernel
theorem dX11_grow_20 : decode cX11_grow 20 = .ok (.iload_n 1, 1) := by decide +kernel
theorem dX11_grow_21 : decode cX11_grow 21 = .ok (.iconst 0, 1) := by decide +kernel
theorem dX11_grow_22 : decode cX11_grow 22 = .ok (.invokevirtual 237, 3) := by decide +kernel
theorem dX11_grow_25 : decode cX11_grow 25 = .ok (.iconst 2, 1) := by decide +kernel
theorem dX11_grow_26 : decode cX11_grow 26 = .ok (.if_icmp .ne 14, 3) := by decide +kernel
theorem dX11_grow_29 : decode cX11_grow 29 = .ok (.aload_n 0, 1) := by decide +kernel
theorem dX11_grow_30 : decode cX11_grow 30 = .ok (.iload_n 1, 1) := by decide +kernel
theorem dX11_grow_31 : decode cX11_grow 31 = .ok (.iconst 1, 1) := by decide +kernel
theorem dX11_grow_32 : decode cX11_grow 32 = .ok (.invokevirtual 237, 3) := by decide +kernel
theorem dX11_grow_35 : decode cX11_grow 35 = .ok (.bipush 8, 2) := by decide +kernel
theorem dX11_grow_37 : decode cX11_grow 37 = .ok (.if_icmp .le 9, 3) := by decide +kernel
theorem dX11_grow_40 : decode cX11_grow 40 = .ok (.aload_n 0, 1) := by decide +kernel
theorem dX11_grow_41 : decode cX11_grow 41 = .ok (.iconst 2, 1) := by decide +kernel
theorem dX11_grow_42 : decode cX11_grow 42 = .ok (.invokevirtual 201, 3) := by decide +kernel
theorem dX11_grow_45 : decode cX11_grow 45 = .ok (.ireturn, 1) := by decide +kernel
theorem dX11_grow_46 : decode cX11_grow 46 = .ok (.iconst 0, 1) := by decide +kernel
theorem dX11_grow_47 : decode cX11_grow 47 = .ok (.istore_n 2, 1) := by decide +kernel
theorem dX11_grow_48 : decode cX11_grow 48 = .ok (.iload_n 2, 1) := by decide +kernel
theorem dX11_grow_49 : decode cX11_grow 49 = .ok (.sipush 512, 3) := by decide +kernel
theorem dX11_grow_52 : decode cX11_grow 52 = .ok (.if_icmp .ge 21, 3) := by decide +kernel
theorem dX11_grow_55 : decode cX11_grow 55 = .ok (.aload_n 0, 1) := by decide +kernel
theorem dX11_grow_56 : decode cX11_grow 56 = .ok (.getfield 19, 3) := by decide +kernel
theorem dX11_grow_59 : decode cX11_grow 59 = .ok (.iload_n 2, 1) := by decide +kernel
theorem dX11_grow_60 : decode cX11_grow 60 = .ok (.aload_n 0, 1) := by decide +kernel
theorem dX11_grow_61 : decode cX11_grow 61 = .ok (.iload_n 1, 1) := by decide +kernel
theorem dX11_grow_62 : decode cX11_grow 62 = .ok (.iload_n 2, 1) := by decide +kernel
theorem dX11_grow_63 : decode cX11_grow 63 = .ok (.invokevirtual 237, 3) := by decide +kernel
theorem dX11_grow_66 : decode cX11_grow 66 = .ok (.iastore, 1) := by decide +kernel
theorem dX11_grow_67 : decode cX11_grow 67 = .ok (.iinc 2 1, 3) := by decide +kernel
theorem dX11_grow_70 : decode cX11_grow 70 = .ok (.goto (-22), 3) := by decide +kernel
theorem dX11_grow_73 : decode cX11_grow 73 = .ok (.bipush 10, 2) := by decide +kernel
theorem dX11_grow_75 : decode cX11_grow 75 = .ok (.istore_n 2, 1) := by decide +kernel
theorem dX11_grow_76 : decode cX11_grow 76 = .ok (.iload_n 2, 1) := by decide +kernel
theorem dX11_grow_77 : decode cX11_grow 77 = .ok (.sipush 250, 3) := by decide +kernel
theorem dX11_grow_80 : decode cX11_grow 80 = .ok (.if_icmp .ge 16, 3) := by decide +kernel
theorem dX11_grow_83 : decode cX11_grow 83 = .ok (.aload_n 0, 1) := by decide +kernel
theorem dX11_grow_84 : decode cX11_grow 84 = .ok (.iload_n 1, 1) := by decide +kernel
theorem dX11_grow_85 : decode cX11_grow 85 = .ok (.iload_n 2, 1) := by decide +kernel
theorem dX11_grow_86 : decode cX11_grow 86 = .ok (.iconst 0, 1) := by decide +kernel
theorem dX11_grow_87 : decode cX11_grow 87 = .ok (.invokevirtual 252, 3) := by decide +kernel
theorem dX11_grow_90 : decode cX11_grow 90 = .ok (.iinc 2 1, 3) := by decide +kernel
theorem dX11_grow_93 : decode cX11_grow 93 = .ok (.goto (-17), 3) := by decide +kernel
theorem dX11_grow_96 : decode cX11_grow 96 = .ok (.aload_n 0, 1) := by decide +kernel
theorem dX11_grow_97 : decode cX11_grow 97 = .ok (.iload_n 1, 1) := by decide +kernel
theorem dX11_grow_98 : decode cX11_grow 98 = .ok (.iconst 1, 1) := by decide +kernel
theorem dX11_grow_99 : decode cX11_grow 99 = .ok (.iconst 2, 1) := by decide +kernel
theorem dX11_grow_100 : decode cX11_grow 100 = .ok (.aload_n 0, 1) := by decide +kernel
theorem dX11_grow_101 : decode cX11_grow 101 = .ok (.iload_n 1, 1) := by decide +kernel
theorem dX11_grow_102 : decode cX11_grow 102 = .ok (.iconst 1, 1) := by decide +kernel
theorem dX11_grow_103 : decode cX11_grow 103 = .ok (.invokevirtual 237, 3) := by decide +kernel
theorem dX11_grow_106 : decode cX11_grow 106 = .ok (.imul, 1) := by decide +kernel
theorem dX11_grow_107 : decode cX11_grow 107 = .ok (.invokevirtual 252, 3) := by decide +kernel
theorem dX11_grow_110 : decode cX11_grow 110 = .ok (.iconst 0, 1) := by decide +kernel
theorem dX11_grow_111 : decode cX11_grow 111 = .ok (.istore_n 2, 1) := by decide +kernel
theorem dX11_grow_112 : decode cX11_grow 112 = .ok (.iload_n 2, 1) := by decide +kernel
theorem dX11_grow_113 : decode cX11_grow 113 = .ok (.aload_n 0, 1) := by decide +kernel
theorem dX11_grow_114 : decode cX11_grow 114 = .ok (.getfield 9, 3) := by decide +kernel
theorem dX11_grow_117 : decode cX11_grow 117 = .ok (.iconst 1, 1) := by decide +kernel
theorem dX11_grow_118 : decode cX11_grow 118 = .ok (.iaload, 1) := by decide +kernel
theorem dX11_grow_119 : decode cX11_grow 119 = .ok (.if_icmp .ge 59, 3) := by decide +kernel
theorem dX11_grow_122 : decode cX11_grow 122 = .ok (.aload_n 0, 1) := by decide +kernel
theorem dX11_grow_123 : decode cX11_grow 123 = .ok (.iload_n 1, 1) := by decide +kernel
theorem dX11_grow_124 : decode cX11_grow 124 = .ok (.iload_n 2, 1) := by decide +kernel
theorem dX11_grow_125 : decode cX11_grow 125 = .ok (.invokevirtual 300, 3) := by decide +kernel
theorem dX11_grow_128 : decode cX11_grow 128 = .ok (.ifCond .eq 44, 3) := by decide +kernel
theorem dX11_grow_131 : decode cX11_grow 131 = .ok (.aload_n 0, 1) := by decide +kernel
theorem dX11_grow_132 : decode cX11_grow 132 = .ok (.iload_n 1, 1) := by decide +kernel
theorem dX11_grow_133 : decode cX11_grow 133 = .ok (.iload_n 2, 1) := by decide +kernel
theorem dX11_grow_134 : decode cX11_grow 134 = .ok (.invokevirtual 303, 3) := by decide +kernel
theorem dX11_grow_137 : decode cX11_grow 137 = .ok (.ifCond .eq 6, 3) := by decide +kernel
theorem dX11_grow_140 : decode cX11_grow 140 = .ok (.goto 32, 3) := by decide +kernel
theorem dX11_grow_143 : decode cX11_grow 143 = .ok (.iconst 0, 1) := by decide +kernel
theorem dX11_grow_144 : decode cX11_grow 144 = .ok (.istore_n 3, 1) := by decide +kernel
theorem dX11_grow_145 : decode cX11_grow 145 = .ok (.iload_n 3, 1) := by decide +kernel
theorem dX11_grow_146 : decode cX11_grow 146 = .ok (.sipush 512, 3) := by decide +kernel
theorem dX11_grow_149 : decode cX11_grow 149 = .ok (.if_icmp .ge 21, 3) := by decide +kernel
theorem dX11_grow_152 : decode cX11_grow 152 = .ok (.aload_n 0, 1) := by decide +kernel
theorem dX11_grow_153 : decode cX11_grow 153 = .ok (.iload_n 1, 1) := by decide +kernel
theorem dX11_grow_154 : decode cX11_grow 154 = .ok (.iload_n 3, 1) := by decide +kernel
theorem dX11_grow_155 : decode cX11_grow 155 = .ok (.aload_n 0, 1) := by decide +kernel
theorem dX11_grow_156 : decode cX11_grow 156 = .ok (.getfield 19, 3) := by decide +kernel
theorem dX11_grow_159 : decode cX11_grow 159 = .ok (.iload_n 3, 1) := by decide +kernel
theorem dX11_grow_160 : decode cX11_grow 160 = .ok (.iaload, 1) := by decide +kernel
theorem dX11_grow_161 : decode cX11_grow 161 = .ok (.invokevirtual 252, 3) := by decide +kernel
theorem dX11_grow_164 : decode cX11_grow 164 = .ok (.iinc 3 1, 3) := by decide +kernel
theorem dX11_grow_167 : decode cX11_grow 167 = .ok (.goto (-22), 3) := by decide +kernel
theorem dX11_grow_170 : decode cX11_grow 170 = .ok (.iconst (-1), 1) := by decide +kernel
theorem dX11_grow_171 : decode cX11_grow 171 = .ok (.ireturn, 1) := by decide +kernel
theorem dX11_grow_172 : decode cX11_grow 172 = .ok (.iinc 2 1, 3) := by decide +kernel
theorem dX11_grow_175 : decode cX11_grow 175 = .ok (.goto (-63), 3) := by decide +kernel
theorem dX11_grow_178 : decode cX11_grow 178 = .ok (.aload_n 0, 1) := by decide +kernel
theorem dX11_grow_179 : decode cX11_grow 179 = .ok (.iload_n 1, 1) := by decide +kernel
theorem dX11_grow_180 : decode cX11_grow 180 = .ok (.iconst 1, 1) := by decide +kernel
theorem dX11_grow_181 : decode cX11_grow 181 = .ok (.invokevirtual 237, 3) := by decide +kernel
theorem dX11_grow_184 : decode cX11_grow 184 = .ok (.ireturn, 1) := by decide +kernel
theorem dX11_areNames_0 : decode cX11_areNames 0 = .ok (.iconst 0, 1) := by decide +kernel
theorem dX11_areNames_1 : decode cX11_areNames 1 = .ok (.istore_n 3, 1) := by decide +kernel
theorem dX11_areNames_2 : decode cX11_areNames 2 = .ok (.iload_n 3, 1) := by decide +kernel
theorem dX11_areNames_3 : decode cX11_areNames 3 = .ok (.aload_n 0, 1) := by decide +kernel
theorem dX11_areNames_4 : decode cX11_areNames 4 = .ok (.getfield 82, 3) := by decide +kernel
theorem dX11_areNames_7 : decode cX11_areNames 7 = .ok (.iload_n 1, 1) := by decide +kernel
theorem dX11_areNames_8 : decode cX11_areNames 8 = .ok (.iaload, 1) := by decide +kernel
theorem dX11_areNames_9 : decode cX11_areNames 9 = .ok (.if_icmp .ge 77, 3) := by decide +kernel
theorem dX11_areNames_12 : decode cX11_areNames 12 = .ok (.aload_n 0, 1) := by decide +kernel
theorem dX11_areNames_13 : decode cX11_areNames 13 = .ok (.aload_n 0, 1) := by decide +kernel
theorem dX11_areNames_14 : decode cX11_areNames 14 = .ok (.getfield 85, 3) := by decide +kernel
theorem dX11_areNames_17 : decode cX11_areNames 17 = .ok (.bipush 40, 2) := by decide +kernel
theorem dX11_areNames_19 : decode cX11_areNames 19 = .ok (.iload_n 1, 1) := by decide +kernel
theorem dX11_areNames_20 : decode cX11_areNames 20 = .ok (.imul, 1) := by decide +kernel
theorem dX11_areNames_21 : decode cX11_areNames 21 = .ok (.iload_n 3, 1) := by decide +kernel
theorem dX11_areNames_22 : decode cX11_areNames 22 = .ok (.iadd, 1) := by decide +kernel
theorem dX11_areNames_23 : decode cX11_areNames 23 = .ok (.laload, 1) := by decide +kernel
theorem dX11_areNames_24 : decode cX11_areNames 24 = .ok (.invokevirtual 228, 3) := by decide +kernel
theorem dX11_areNames_27 : decode cX11_areNames 27 = .ok (.ifCond .ne 5, 3) := by decide +kernel
theorem dX11_areNames_30 : decode cX11_areNames 30 = .ok (.iconst 0, 1) := by decide +kernel
theorem dX11_areNames_31 : decode cX11_areNames 31 = .ok (.ireturn, 1) := by decide +kernel
theorem dX11_areNames_32 : decode cX11_areNames 32 = .ok (.iconst 0, 1) := by decide +kernel
theorem dX11_areNames_33 : decode cX11_areNames 33 = .ok (.istore 4, 2) := by decide +kernel
theorem dX11_areNames_35 : decode cX11_areNames 35 = .ok (.iload 4, 2) := by decide +kernel
theorem dX11_areNames_37 : decode cX11_areNames 37 = .ok (.iload_n 3, 1) := by decide +kernel
theorem dX11_areNames_38 : decode cX11_areNames 38 = .ok (.if_icmp .ge 42, 3) := by decide +kernel
theorem dX11_areNames_41 : decode cX11_areNames 41 = .ok (.iload_n 2, 1) := by decide +kernel
theorem dX11_areNames_42 : decode cX11_areNames 42 = .ok (.ifCond .eq 38, 3) := by decide +kernel
theorem dX11_areNames_45 : decode cX11_areNames 45 = .ok (.aload_n 0, 1) := by decide +kernel
theorem dX11_areNames_46 : decode cX11_areNames 46 = .ok (.getfield 85, 3) := by decide +kernel
theorem dX11_areNames_49 : decode cX11_areNames 49 = .ok (.bipush 40, 2) := by decide +kernel
theorem dX11_areNames_51 : decode cX11_areNames 51 = .ok (.iload_n 1, 1) := by decide +kernel
theorem dX11_areNames_52 : decode cX11_areNames 52 = .ok (.imul, 1) := by decide +kernel
theorem dX11_areNames_53 : decode cX11_areNames 53 = .ok (.iload 4, 2) := by decide +kernel
theorem dX11_areNames_55 : decode cX11_areNames 55 = .ok (.iadd, 1) := by decide +kernel
theorem dX11_areNames_56 : decode cX11_areNames 56 = .ok (.laload, 1) := by decide +kernel
theorem dX11_areNames_57 : decode cX11_areNames 57 = .ok (.aload_n 0, 1) := by decide +kernel
theorem dX11_areNames_58 : decode cX11_areNames 58 = .ok (.getfield 85, 3) := by decide +kernel
theorem dX11_areNames_61 : decode cX11_areNames 61 = .ok (.bipush 40, 2) := by decide +kernel
theorem dX11_areNames_63 : decode cX11_areNames 63 = .ok (.iload_n 1, 1) := by decide +kernel
theorem dX11_areNames_64 : decode cX11_areNames 64 = .ok (.imul, 1) := by decide +kernel
theorem dX11_areNames_65 : decode cX11_areNames 65 = .ok (.iload_n 3, 1) := by decide +kernel
theorem dX11_areNames_66 : decode cX11_areNames 66 = .ok (.iadd, 1) := by decide +kernel
theorem dX11_areNames_67 : decode cX11_areNames 67 = .ok (.laload, 1) := by decide +kernel
theorem dX11_areNames_68 : decode cX11_areNames 68 = .ok (.lcmp, 1) := by decide +kernel
theorem dX11_areNames_69 : decode cX11_areNames 69 = .ok (.ifCond .ne 5, 3) := by decide +kernel
theorem dX11_areNames_72 : decode cX11_areNames 72 = .ok (.iconst 0, 1) := by decide +kernel
theorem dX11_areNames_73 : decode cX11_areNames 73 = .ok (.ireturn, 1) := by decide +kernel
theorem dX11_areNames_74 : decode cX11_areNames 74 = .ok (.iinc 4 1, 3) := by decide +kernel
theorem dX11_areNames_77 : decode cX11_areNames 77 = .ok (.goto (-42), 3) := by decide +kernel
theorem dX11_areNames_80 : decode cX11_areNames 80 = .ok (.iinc 3 1, 3) := by decide +kernel
theorem dX11_areNames_83 : decode cX11_areNames 83 = .ok (.goto (-81), 3) := by decide +kernel
theorem dX11_areNames_86 : decode cX11_areNames 86 = .ok (.iconst 1, 1) := by decide +kernel
theorem dX11_areNames_87 : decode cX11_areNames 87 = .ok (.ireturn, 1) := by decide +kernel
theorem dX11_inTray_0 : decode cX11_inTray 0 = .ok (.aload_n 0, 1) := by decide +kernel
theorem dX11_inTray_1 : decode cX11_inTray 1 = .ok (.getfield 85, 3) := by decide +kernel
theorem dX11_inTray_4 : decode cX11_inTray 4 = .ok (.bipush 40, 2) := by decide +kernel
theorem dX11_inTray_6 : decode cX11_inTray 6 = .ok (.iload_n 1, 1) := by decide +kernel
theorem dX11_inTray_7 : decode cX11_inTray 7 = .ok (.imul, 1) := by decide +kernel
theorem dX11_inTray_8 : decode cX11_inTray 8 = .ok (.iload_n 2, 1) := by decide +kernel
theorem dX11_inTray_9 : decode cX11_inTray 9 = .ok (.iadd, 1) := by decide +kernel
theorem dX11_inTray_10 : decode cX11_inTray 10 = .ok (.laload, 1) := by decide +kernel
theorem dX11_inTray_11 : decode cX11_inTray 11 = .ok (.l2i, 1) := by decide +kernel
theorem dX11_inTray_12 : decode cX11_inTray 12 = .ok (.ireturn, 1) := by decide +kernel
theorem dX11_canSolve_0 : decode cX11_canSolve 0 = .ok (.iconst 0, 1) := by decide +kernel
theorem dX11_canSolve_1 : decode cX11_canSolve 1 = .ok (.istore_n 3, 1) := by decide +kernel
theorem dX11_canSolve_2 : decode cX11_canSolve 2 = .ok (.iload_n 3, 1) := by decide +kernel
theorem dX11_canSolve_3 : decode cX11_canSolve 3 = .ok (.aload_n 0, 1) := by decide +kernel
theorem dX11_canSolve_4 : decode cX11_canSolve 4 = .ok (.iload_n 1, 1) := by decide +kernel
theorem dX11_canSolve_5 : decode cX11_canSolve 5 = .ok (.iconst 1, 1) := by decide +kernel
theorem dX11_canSolve_6 : decode cX11_canSolve 6 = .ok (.invokevirtual 237, 3) := by decide +kernel
theorem dX11_canSolve_9 : decode cX11_canSolve 9 = .ok (.if_icmp .ge 175, 3) := by decide +kernel
theorem dX11_canSolve_12 : decode cX11_canSolve 12 = .ok (.aload_n 0, 1) := by decide +kernel
theorem dX11_canSolve_13 : decode cX11_canSolve 13 = .ok (.getfield 52, 3) := by decide +kernel
theorem dX11_canSolve_16 : decode cX11_canSolve 16 = .ok (.iload_n 3, 1) := by decide +kernel
theorem dX11_canSolve_17 : decode cX11_canSolve 17 = .ok (.iconst (-1), 1) := by decide +kernel
theorem dX11_canSolve_18 : decode cX11_canSolve 18 = .ok (.iastore, 1) := by decide +kernel
theorem dX11_canSolve_19 : decode cX11_canSolve 19 = .ok (.iconst 0, 1) := by decide +kernel
theorem dX11_canSolve_20 : decode cX11_canSolve 20 = .ok (.istore 4, 2) := by decide +kernel
theorem dX11_canSolve_22 : decode cX11_canSolve 22 = .ok (.iload 4, 2) := by decide +kernel
theorem dX11_canSolve_24 : decode cX11_canSolve 24 = .ok (.iload_n 2, 1) := by decide +kernel
theorem dX11_canSolve_25 : decode cX11_canSolve 25 = .ok (.if_icmp .ge 53, 3) := by decide +kernel
theorem dX11_canSolve_28 : decode cX11_canSolve 28 = .ok (.aload_n 0, 1) := by decide +kernel
theorem dX11_canSolve_29 : decode cX11_canSolve 29 = .ok (.getfield 52, 3) := by decide +kernel
theorem dX11_canSolve_32 : decode cX11_canSolve 32 = .ok (.iload_n 3, 1) := by decide +kernel
theorem dX11_canSolve_33 : decode cX11_canSolve 33 = .ok (.iaload, 1) := by decide +kernel
theorem dX11_canSolve_34 : decode cX11_canSolve 34 = .ok (.iconst (-1), 1) := by decide +kernel
theorem dX11_canSolve_35 : decode cX11_canSolve 35 = .ok (.if_icmp .ne 43, 3) := by decide +kernel
theorem dX11_canSolve_38 : decode cX11_canSolve 38 = .ok (.aload_n 0, 1) := by decide +kernel
theorem dX11_canSolve_39 : decode cX11_canSolve 39 = .ok (.getfield 55, 3) := by decide +kernel
theorem dX11_canSolve_42 : decode cX11_canSolve 42 = .ok (.iload 4, 2) := by decide +kernel
theorem dX11_canSolve_44 : decode cX11_canSolve 44 = .ok (.baload, 1) := by decide +kernel
theorem dX11_canSolve_45 : decode cX11_canSolve 45 = .ok (.ifCond .ne 27, 3) := by decide +kernel
theorem dX11_canSolve_48 : decode cX11_canSolve 48 = .ok (.aload_n 0, 1) := by decide +kernel
theorem dX11_canSolve_49 : decode cX11_canSolve 49 = .ok (.getfield 45, 3) := by decide +kernel
theorem dX11_canSolve_52 : decode cX11_canSolve 52 = .ok (.iload 4, 2) := by decide +kernel
theorem dX11_canSolve_54 : decode cX11_canSolve 54 = .ok (.laload, 1) := by decide +kernel
theorem dX11_canSolve_55 : decode cX11_canSolve 55 = .ok (.iload_n 3, 1) := by decide +kernel
theorem dX11_canSolve_56 : decode cX11_canSolve 56 = .ok (.lshr, 1) := by decide +kernel
theorem dX11_canSolve_57 : decode cX11_canSolve 57 = .ok (.lconst 1, 1) := by decide +kernel
theorem dX11_canSolve_58 : decode cX11_canSolve 58 = .ok (.land, 1) := by decide +kernel
theorem dX11_canSolve_59 : decode cX11_canSolve 59 = .ok (.lconst 1, 1) := by decide +kernel
theorem dX11_canSolve_60 : decode cX11_canSolve 60 = .ok (.lcmp, 1) := by decide +kernel
theorem dX11_canSolve_61 : decode cX11_canSolve 61 = .ok (.ifCond .ne 11, 3) := by decide +kernel
theorem dX11_canSolve_64 : decode cX11_canSolve 64 = .ok (.aload_n 0, 1) := by decide +kernel
theorem dX11_canSolve_65 : decode cX11_canSolve 65 = .ok (.getfield 52, 3) := by decide +kernel
theorem dX11_canSolve_68 : decode cX11_canSolve 68 = .ok (.iload_n 3, 1) := by decide +kernel
theorem dX11_canSolve_69 : decode cX11_canSolve 69 = .ok (.iload 4, 2) := by decide +kernel
theorem dX11_canSolve_71 : decode cX11_canSolve 71 = .ok (.iastore, 1) := by decide +kernel
theorem dX11_canSolve_72 : decode cX11_canSolve 72 = .ok (.iinc 4 1, 3) := by decide +kernel
theorem dX11_canSolve_75 : decode cX11_canSolve 75 = .ok (.goto (-53), 3) := by decide +kernel
theorem dX11_canSolve_78 : decode cX11_canSolve 78 = .ok (.aload_n 0, 1) := by decide +kernel
theorem dX11_canSolve_79 : decode cX11_canSolve 79 = .ok (.getfield 52, 3) := by decide +kernel
theorem dX11_canSolve_82 : decode cX11_canSolve 82 = .ok (.iload_n 3, 1) := by decide +kernel
theorem dX11_canSolve_83 : decode cX11_canSolve 83 = .ok (.iaload, 1) := by decide +kernel
theorem dX11_canSolve_84 : decode cX11_canSolve 84 = .ok (.istore 4, 2) := by decide +kernel
theorem dX11_canSolve_86 : decode cX11_canSolve 86 = .ok (.iload 4, 2) := by decide +kernel
theorem dX11_canSolve_88 : decode cX11_canSolve 88 = .ok (.iconst (-1), 1) := by decide +kernel
theorem dX11_canSolve_89 : decode cX11_canSolve 89 = .ok (.if_icmp .ne 6, 3) := by decide +kernel
theorem dX11_canSolve_92 : decode cX11_canSolve 92 = .ok (.goto 86, 3) := by decide +kernel
theorem dX11_canSolve_95 : decode cX11_canSolve 95 = .ok (.aload_n 0, 1) := by decide +kernel
theorem dX11_canSolve_96 : decode cX11_canSolve 96 = .ok (.getfield 55, 3) := by decide +kernel
theorem dX11_canSolve_99 : decode cX11_canSolve 99 = .ok (.iload 4, 2) := by decide +kernel
theorem dX11_canSolve_101 : decode cX11_canSolve 101 = .ok (.iconst 1, 1) := by decide +kernel
theorem dX11_canSolve_102 : decode cX11_canSolve 102 = .ok (.bastore, 1) := by decide +kernel
theorem dX11_canSolve_103 : decode cX11_canSolve 103 = .ok (.iconst 0, 1) := by decide +kernel
theorem dX11_canSolve_104 : decode cX11_canSolve 104 = .ok (.istore 5, 2) := by decide +kernel
theorem dX11_canSolve_106 : decode cX11_canSolve 106 = .ok (.iload 5, 2) := by decide +kernel
theorem dX11_canSolve_108 : decode cX11_canSolve 108 = .ok (.iload_n 2, 1) := by decide +kernel
theorem dX11_canSolve_109 : decode cX11_canSolve 109 = .ok (.if_icmp .ge 69, 3) := by decide +kernel
theorem dX11_canSolve_112 : decode cX11_canSolve 112 = .ok (.iload 5, 2) := by decide +kernel
theorem dX11_canSolve_114 : decode cX11_canSolve 114 = .ok (.iload 4, 2) := by decide +kernel
theorem dX11_canSolve_116 : decode cX11_canSolve 116 = .ok (.if_icmp .eq 56, 3) := by decide +kernel
theorem dX11_canSolve_119 : decode cX11_canSolve 119 = .ok (.aload_n 0, 1) := by decide +kernel
theorem dX11_canSolve_120 : decode cX11_canSolve 120 = .ok (.getfield 45, 3) := by decide +kernel
theorem dX11_canSolve_123 : decode cX11_canSolve 123 = .ok (.iload 5, 2) := by decide +kernel
theorem dX11_canSolve_125 : decode cX11_canSolve 125 = .ok (.laload, 1) := by decide +kernel
theorem dX11_canSolve_126 : decode cX11_canSolve 126 = .ok (.iload_n 3, 1) := by decide +kernel
theorem dX11_canSolve_127 : decode cX11_canSolve 127 = .ok (.lshr, 1) := by decide +kernel
theorem dX11_canSolve_128 : decode cX11_canSolve 128 = .ok (.lconst 1, 1) := by decide +kernel
theorem dX11_canSolve_129 : decode cX11_canSolve 129 = .ok (.land, 1) := by decide +kernel
theorem dX11_canSolve_130 : decode cX11_canSolve 130 = .ok (.lconst 0, 1) := by decide +kernel
theorem dX11_canSolve_131 : decode cX11_canSolve 131 = .ok (.lcmp, 1) := by decide +kernel
theorem dX11_canSolve_132 : decode cX11_canSolve 132 = .ok (.ifCond .ne 6, 3) := by decide +kernel
theorem dX11_canSolve_135 : decode cX11_canSolve 135 = .ok (.goto 37, 3) := by decide +kernel
theorem dX11_canSolve_138 : decode cX11_canSolve 138 = .ok (.aload_n 0, 1) := by decide +kernel
theorem dX11_canSolve_139 : decode cX11_canSolve 139 = .ok (.getfield 45, 3) := by decide +kernel
theorem dX11_canSolve_142 : decode cX11_canSolve 142 = .ok (.iload 5, 2) := by decide +kernel
theorem dX11_canSolve_144 : decode cX11_canSolve 144 = .ok (.dup2, 1) := by decide +kernel
theorem dX11_canSolve_145 : decode cX11_canSolve 145 = .ok (.laload, 1) := by decide +kernel
theorem dX11_canSolve_146 : decode cX11_canSolve 146 = .ok (.aload_n 0, 1) := by decide +kernel
theorem dX11_canSolve_147 : decode cX11_canSolve 147 = .ok (.getfield 45, 3) := by decide +kernel
theorem dX11_canSolve_150 : decode cX11_canSolve 150 = .ok (.iload 4, 2) := by decide +kernel
theorem dX11_canSolve_152 : decode cX11_canSolve 152 = .ok (.laload, 1) := by decide +kernel
theorem dX11_canSolve_153 : decode cX11_canSolve 153 = .ok (.lxor, 1) := by decide +kernel
theorem dX11_canSolve_154 : decode cX11_canSolve 154 = .ok (.lastore, 1) := by decide +kernel
theorem dX11_canSolve_155 : decode cX11_canSolve 155 = .ok (.aload_n 0, 1) := by decide +kernel
theorem dX11_canSolve_156 : decode cX11_canSolve 156 = .ok (.getfield 49, 3) := by decide +kernel
theorem dX11_canSolve_159 : decode cX11_canSolve 159 = .ok (.iload 5, 2) := by decide +kernel
theorem dX11_canSolve_161 : decode cX11_canSolve 161 = .ok (.dup2, 1) := by decide +kernel
theorem dX11_canSolve_162 : decode cX11_canSolve 162 = .ok (.iaload, 1) := by decide +kernel
theorem dX11_canSolve_163 : decode cX11_canSolve 163 = .ok (.aload_n 0, 1) := by decide +kernel
theorem dX11_canSolve_164 : decode cX11_canSolve 164 = .ok (.getfield 49, 3) := by decide +kernel
theorem dX11_canSolve_167 : decode cX11_canSolve 167 = .ok (.iload 4, 2) := by decide +kernel
theorem dX11_canSolve_169 : decode cX11_canSolve 169 = .ok (.iaload, 1) := by decide +kernel
theorem dX11_canSolve_170 : decode cX11_canSolve 170 = .ok (.ixor, 1) := by decide +kernel
theorem dX11_canSolve_171 : decode cX11_canSolve 171 = .ok (.iastore, 1) := by decide +kernel
theorem dX11_canSolve_172 : decode cX11_canSolve 172 = .ok (.iinc 5 1, 3) := by decide +kernel
theorem dX11_canSolve_175 : decode cX11_canSolve 175 = .ok (.goto (-69), 3) := by decide +kernel
theorem dX11_canSolve_178 : decode cX11_canSolve 178 = .ok (.iinc 3 1, 3) := by decide +kernel
theorem dX11_canSolve_181 : decode cX11_canSolve 181 = .ok (.goto (-179), 3) := by decide +kernel
theorem dX11_canSolve_184 : decode cX11_canSolve 184 = .ok (.iconst 0, 1) := by decide +kernel
theorem dX11_canSolve_185 : decode cX11_canSolve 185 = .ok (.istore_n 3, 1) := by decide +kernel
theorem dX11_canSolve_186 : decode cX11_canSolve 186 = .ok (.iload_n 3, 1) := by decide +kernel
theorem dX11_canSolve_187 : decode cX11_canSolve 187 = .ok (.iload_n 2, 1) := by decide +kernel
theorem dX11_canSolve_188 : decode cX11_canSolve 188 = .ok (.if_icmp .ge 31, 3) := by decide +kernel
theorem dX11_canSolve_191 : decode cX11_canSolve 191 = .ok (.aload_n 0, 1) := by decide +kernel
theorem dX11_canSolve_192 : decode cX11_canSolve 192 = .ok (.getfield 45, 3) := by decide +kernel
theorem dX11_canSolve_195 : decode cX11_canSolve 195 = .ok (.iload_n 3, 1) := by decide +kernel
theorem dX11_canSolve_196 : decode cX11_canSolve 196 = .ok (.laload, 1) := by decide +kernel
theorem dX11_canSolve_197 : decode cX11_canSolve 197 = .ok (.lconst 0, 1) := by decide +kernel
theorem dX11_canSolve_198 : decode cX11_canSolve 198 = .ok (.lcmp, 1) := by decide +kernel
theorem dX11_canSolve_199 : decode cX11_canSolve 199 = .ok (.ifCond .ne 14, 3) := by decide +kernel
theorem dX11_canSolve_202 : decode cX11_canSolve 202 = .ok (.aload_n 0, 1) := by decide +kernel
theorem dX11_canSolve_203 : decode cX11_canSolve 203 = .ok (.getfield 49, 3) := by decide +kernel
theorem dX11_canSolve_206 : decode cX11_canSolve 206 = .ok (.iload_n 3, 1) := by decide +kernel
theorem dX11_canSolve_207 : decode cX11_canSolve 207 = .ok (.iaload, 1) := by decide +kernel
theorem dX11_canSolve_208 : decode cX11_canSolve 208 = .ok (.ifCond .eq 5, 3) := by decide +kernel
theorem dX11_canSolve_211 : decode cX11_canSolve 211 = .ok (.iconst 0, 1) := by decide +kernel
theorem dX11_canSolve_212 : decode cX11_canSolve 212 = .ok (.ireturn, 1) := by decide +kernel
theorem dX11_canSolve_213 : decode cX11_canSolve 213 = .ok (.iinc 3 1, 3) := by decide +kernel
theorem dX11_canSolve_216 : decode cX11_canSolve 216 = .ok (.goto (-30), 3) := by decide +kernel
theorem dX11_canSolve_219 : decode cX11_canSolve 219 = .ok (.iconst 1, 1) := by decide +kernel
theorem dX11_canSolve_220 : decode cX11_canSolve 220 = .ok (.ireturn, 1) := by decide +kernel
theorem dX11_rowTrayFault_0 : decode cX11_rowTrayFault 0 = .ok (.aload_n 0, 1) := by decide +kernel
theorem dX11_rowTrayFault_1 : decode cX11_rowTrayFault 1 = .ok (.iload_n 1, 1) := by decide +kernel
theorem dX11_rowTrayFault_2 : decode cX11_rowTrayFault 2 = .ok (.invokevirtual 256, 3) := by decide +kernel
theorem dX11_rowTrayFault_5 : decode cX11_rowTrayFault 5 = .ok (.ifCond .eq 10, 3) := by decide +kernel
theorem dX11_rowTrayFault_8 : decode cX11_rowTrayFault 8 = .ok (.iload_n 2, 1) := by decide +kernel
theorem dX11_rowTrayFault_9 : decode cX11_rowTrayFault 9 = .ok (.invokestatic 320, 3) := by decide +kernel
theorem dX11_rowTrayFault_12 : decode cX11_rowTrayFault 12 = .ok (.ifCond .ne 7, 3) := by decide +kernel
theorem dX11_rowTrayFault_15 : decode cX11_rowTrayFault 15 = .ok (.iconst 1, 1) := by decide +kernel
theorem dX11_rowTrayFault_16 : decode cX11_rowTrayFault 16 = .ok (.goto 4, 3) := by decide +kernel
theorem dX11_rowTrayFault_19 : decode cX11_rowTrayFault 19 = .ok (.iconst 0, 1) := by decide +kernel
theorem dX11_rowTrayFault_20 : decode cX11_rowTrayFault 20 = .ok (.ireturn, 1) := by decide +kernel
theorem dX11_solve_0 : decode cX11_solve 0 = .ok (.aload_n 0, 1) := by decide +kernel
theorem dX11_solve_1 : decode cX11_solve 1 = .ok (.aload_n 0, 1) := by decide +kernel
theorem dX11_solve_2 : decode cX11_solve 2 = .ok (.iload_n 1, 1) := by decide +kernel
theorem dX11_solve_3 : decode cX11_solve 3 = .ok (.iload_n 2, 1) := by decide +kernel
theorem dX11_solve_4 : decode cX11_solve 4 = .ok (.invokevirtual 323, 3) := by decide +kernel
theorem dX11_solve_7 : decode cX11_solve 7 = .ok (.putfield 92, 3) := by decide +kernel
theorem dX11_solve_10 : decode cX11_solve 10 = .ok (.aload_n 0, 1) := by decide +kernel
theorem dX11_solve_11 : decode cX11_solve 11 = .ok (.getfield 92, 3) := by decide +kernel
theorem dX11_solve_14 : decode cX11_solve 14 = .ok (.ifCond .ne 28, 3) := by decide +kernel
theorem dX11_solve_17 : decode cX11_solve 17 = .ok (.aload_n 0, 1) := by decide +kernel
theorem dX11_solve_18 : decode cX11_solve 18 = .ok (.iload_n 1, 1) := by decide +kernel
theorem dX11_solve_19 : decode cX11_solve 19 = .ok (.iconst 0, 1) := by decide +kernel
theorem dX11_solve_20 : decode cX11_solve 20 = .ok (.invokevirtual 237, 3) := by decide +kernel
theorem dX11_solve_23 : decode cX11_solve 23 = .ok (.iconst 4, 1) := by decide +kernel
theorem dX11_solve_24 : decode cX11_solve 24 = .ok (.if_icmp .ne 13, 3) := by decide +kernel
theorem dX11_solve_27 : decode cX11_solve 27 = .ok (.aload_n 0, 1) := by decide +kernel
theorem dX11_solve_28 : decode cX11_solve 28 = .ok (.getfield 79, 3) := by decide +kernel
theorem dX11_solve_31 : decode cX11_solve 31 = .ok (.iload_n 2, 1) := by decide +kernel
theorem dX11_solve_32 : decode cX11_solve 32 = .ok (.iaload, 1) := by decide +kernel
theorem dX11_solve_33 : decode cX11_solve 33 = .ok (.iconst (-1), 1) := by decide +kernel
theorem dX11_solve_34 : decode cX11_solve 34 = .ok (.if_icmp .ne 8, 3) := by decide +kernel
theorem dX11_solve_37 : decode cX11_solve 37 = .ok (.aload_n 0, 1) := by decide +kernel
theorem dX11_solve_38 : decode cX11_solve 38 = .ok (.iconst 2, 1) := by decide +kernel
theorem dX11_solve_39 : decode cX11_solve 39 = .ok (.putfield 92, 3) := by decide +kernel
theorem dX11_solve_42 : decode cX11_solve 42 = .ok (.aload_n 0, 1) := by decide +kernel
theorem dX11_solve_43 : decode cX11_solve 43 = .ok (.getfield 92, 3) := by decide +kernel
theorem dX11_solve_46 : decode cX11_solve 46 = .ok (.ifCond .ne 17, 3) := by decide +kernel
theorem dX11_solve_49 : decode cX11_solve 49 = .ok (.aload_n 0, 1) := by decide +kernel
theorem dX11_solve_50 : decode cX11_solve 50 = .ok (.iload_n 2, 1) := by decide +kernel
theorem dX11_solve_51 : decode cX11_solve 51 = .ok (.iconst 1, 1) := by decide +kernel
theorem dX11_solve_52 : decode cX11_solve 52 = .ok (.invokevirtual 326, 3) := by decide +kernel
theorem dX11_solve_55 : decode cX11_solve 55 = .ok (.ifCond .ne 8, 3) := by decide +kernel
theorem dX11_solve_58 : decode cX11_solve 58 = .ok (.aload_n 0, 1) := by decide +kernel
theorem dX11_solve_59 : decode cX11_solve 59 = .ok (.iconst 3, 1) := by decide +kernel
theorem dX11_solve_60 : decode cX11_solve 60 = .ok (.putfield 92, 3) := by decide +kernel
theorem dX11_solve_63 : decode cX11_solve 63 = .ok (.aload_n 0, 1) := by decide +kernel
theorem dX11_solve_64 : decode cX11_solve 64 = .ok (.getfield 92, 3) := by decide +kernel
theorem dX11_solve_67 : decode cX11_solve 67 = .ok (.ifCond .le 5, 3) := by decide +kernel
theorem dX11_solve_70 : decode cX11_solve 70 = .ok (.iconst 0, 1) := by decide +kernel
theorem dX11_solve_71 : decode cX11_solve 71 = .ok (.ireturn, 1) := by decide +kernel
theorem dX11_solve_72 : decode cX11_solve 72 = .ok (.aload_n 0, 1) := by decide +kernel
theorem dX11_solve_73 : decode cX11_solve 73 = .ok (.getfield 82, 3) := by decide +kernel
theorem dX11_solve_76 : decode cX11_solve 76 = .ok (.iload_n 2, 1) := by decide +kernel
theorem dX11_solve_77 : decode cX11_solve 77 = .ok (.iaload, 1) := by decide +kernel
theorem dX11_solve_78 : decode cX11_solve 78 = .ok (.istore_n 3, 1) := by decide +kernel
theorem dX11_solve_79 : decode cX11_solve 79 = .ok (.iconst 0, 1) := by decide +kernel
theorem dX11_solve_80 : decode cX11_solve 80 = .ok (.istore 4, 2) := by decide +kernel
theorem dX11_solve_82 : decode cX11_solve 82 = .ok (.iload 4, 2) := by decide +kernel
theorem dX11_solve_84 : decode cX11_solve 84 = .ok (.iload_n 3, 1) := by decide +kernel
theorem dX11_solve_85 : decode cX11_solve 85 = .ok (.if_icmp .ge 89, 3) := by decide +kernel
theorem dX11_solve_88 : decode cX11_solve 88 = .ok (.aload_n 0, 1) := by decide +kernel
theorem dX11_solve_89 : decode cX11_solve 89 = .ok (.getfield 45, 3) := by decide +kernel
theorem dX11_solve_92 : decode cX11_solve 92 = .ok (.iload 4, 2) := by decide +kernel
theorem dX11_solve_94 : decode cX11_solve 94 = .ok (.lconst 0, 1) := by decide +kernel
theorem dX11_solve_95 : decode cX11_solve 95 = .ok (.lastore, 1) := by decide +kernel
theorem dX11_solve_96 : decode cX11_solve 96 = .ok (.aload_n 0, 1) := by decide +kernel
theorem dX11_solve_97 : decode cX11_solve 97 = .ok (.getfield 55, 3) := by decide +kernel
theorem dX11_solve_100 : decode cX11_solve 100 = .ok (.iload 4, 2) := by decide +kernel
theorem dX11_solve_102 : decode cX11_solve 102 = .ok (.iconst 0, 1) := by decide +kernel
theorem dX11_solve_103 : decode cX11_solve 103 = .ok (.bastore, 1) := by decide +kernel
theorem dX11_solve_104 : decode cX11_solve 104 = .ok (.aload_n 0, 1) := by decide +kernel
theorem dX11_solve_105 : decode cX11_solve 105 = .ok (.getfield 49, 3) := by decide +kernel
theorem dX11_solve_108 : decode cX11_solve 108 = .ok (.iload 4, 2) := by decide +kernel
theorem dX11_solve_110 : decode cX11_solve 110 = .ok (.aload_n 0, 1) := by decide +kernel
theorem dX11_solve_111 : decode cX11_solve 111 = .ok (.aload_n 0, 1) := by decide +kernel
theorem dX11_solve_112 : decode cX11_solve 112 = .ok (.iload_n 2, 1) := by decide +kernel
theorem dX11_solve_113 : decode cX11_solve 113 = .ok (.iload 4, 2) := by decide +kernel
theorem dX11_solve_115 : decode cX11_solve 115 = .ok (.invokevirtual 330, 3) := by decide +kernel
theorem dX11_solve_118 : decode cX11_solve 118 = .ok (.invokevirtual 232, 3) := by decide +kernel
theorem dX11_solve_121 : decode cX11_solve 121 = .ok (.iastore, 1) := by decide +kernel
theorem dX11_solve_122 : decode cX11_solve 122 = .ok (.iconst 0, 1) := by decide +kernel
theorem dX11_solve_123 : decode cX11_solve 123 = .ok (.istore 5, 2) := by decide +kernel
theorem dX11_solve_125 : decode cX11_solve 125 = .ok (.iload 5, 2) := by decide +kernel
theorem dX11_solve_127 : decode cX11_solve 127 = .ok (.aload_n 0, 1) := by decide +kernel
theorem dX11_solve_128 : decode cX11_solve 128 = .ok (.iload_n 1, 1) := by decide +kernel
theorem dX11_solve_129 : decode cX11_solve 129 = .ok (.iconst 2, 1) := by decide +kernel
theorem dX11_solve_130 : decode cX11_solve 130 = .ok (.invokevirtual 237, 3) := by decide +kernel
theorem dX11_solve_133 : decode cX11_solve 133 = .ok (.if_icmp .ge 35, 3) := by decide +kernel
theorem dX11_solve_136 : decode cX11_solve 136 = .ok (.aload_n 0, 1) := by decide +kernel
theorem dX11_solve_137 : decode cX11_solve 137 = .ok (.getfield 45, 3) := by decide +kernel
theorem dX11_solve_140 : decode cX11_solve 140 = .ok (.iload 4, 2) := by decide +kernel
theorem dX11_solve_142 : decode cX11_solve 142 = .ok (.dup2, 1) := by decide +kernel
theorem dX11_solve_143 : decode cX11_solve 143 = .ok (.laload, 1) := by decide +kernel
theorem dX11_solve_144 : decode cX11_solve 144 = .ok (.lconst 1, 1) := by decide +kernel
theorem dX11_solve_145 : decode cX11_solve 145 = .ok (.aload_n 0, 1) := by decide +kernel
theorem dX11_solve_146 : decode cX11_solve 146 = .ok (.iload_n 1, 1) := by decide +kernel
theorem dX11_solve_147 : decode cX11_solve 147 = .ok (.iload 5, 2) := by decide +kernel
theorem dX11_solve_149 : decode cX11_solve 149 = .ok (.aload_n 0, 1) := by decide +kernel
theorem dX11_solve_150 : decode cX11_solve 150 = .ok (.iload_n 2, 1) := by decide +kernel
theorem dX11_solve_151 : decode cX11_solve 151 = .ok (.iload 4, 2) := by decide +kernel
theorem dX11_solve_153 : decode cX11_solve 153 = .ok (.invokevirtual 330, 3) := by decide +kernel
theorem dX11_solve_156 : decode cX11_solve 156 = .ok (.invokevirtual 273, 3) := by decide +kernel
theorem dX11_solve_159 : decode cX11_solve 159 = .ok (.lshl, 1) := by decide +kernel
theorem dX11_solve_160 : decode cX11_solve 160 = .ok (.lxor, 1) := by decide +kernel
theorem dX11_solve_161 : decode cX11_solve 161 = .ok (.lastore, 1) := by decide +kernel
theorem dX11_solve_162 : decode cX11_solve 162 = .ok (.iinc 5 1, 3) := by decide +kernel
theorem dX11_solve_165 : decode cX11_solve 165 = .ok (.goto (-40), 3) := by decide +kernel
theorem dX11_solve_168 : decode cX11_solve 168 = .ok (.iinc 4 1, 3) := by decide +kernel
theorem dX11_solve_171 : decode cX11_solve 171 = .ok (.goto (-89), 3) := by decide +kernel
theorem dX11_solve_174 : decode cX11_solve 174 = .ok (.aload_n 0, 1) := by decide +kernel
theorem dX11_solve_175 : decode cX11_solve 175 = .ok (.iload_n 1, 1) := by decide +kernel
theorem dX11_solve_176 : decode cX11_solve 176 = .ok (.iload_n 3, 1) := by decide +kernel
theorem dX11_solve_177 : decode cX11_solve 177 = .ok (.invokevirtual 333, 3) := by decide +kernel
theorem dX11_solve_180 : decode cX11_solve 180 = .ok (.ifCond .ne 5, 3) := by decide +kernel
theorem dX11_solve_183 : decode cX11_solve 183 = .ok (.iconst (-1), 1) := by decide +kernel
theorem dX11_solve_184 : decode cX11_solve 184 = .ok (.ireturn, 1) := by decide +kernel
theorem dX11_solve_185 : decode cX11_solve 185 = .ok (.iconst 0, 1) := by decide +kernel
theorem dX11_solve_186 : decode cX11_solve 186 = .ok (.istore 4, 2) := by decide +kernel
theorem dX11_solve_188 : decode cX11_solve 188 = .ok (.iload 4, 2) := by decide +kernel
theorem dX11_solve_190 : decode cX11_solve 190 = .ok (.aload_n 0, 1) := by decide +kernel
theorem dX11_solve_191 : decode cX11_solve 191 = .ok (.iload_n 1, 1) := by decide +kernel
theorem dX11_solve_192 : decode cX11_solve 192 = .ok (.iconst 1, 1) := by decide +kernel
theorem dX11_solve_193 : decode cX11_solve 193 = .ok (.invokevirtual 237, 3) := by decide +kernel
theorem dX11_solve_196 : decode cX11_solve 196 = .ok (.if_icmp .ge 46, 3) := by decide +kernel
theorem dX11_solve_199 : decode cX11_solve 199 = .ok (.aload_n 0, 1) := by decide +kernel
theorem dX11_solve_200 : decode cX11_solve 200 = .ok (.iload_n 1, 1) := by decide +kernel
theorem dX11_solve_201 : decode cX11_solve 201 = .ok (.bipush 10, 2) := by decide +kernel
theorem dX11_solve_203 : decode cX11_solve 203 = .ok (.iload 4, 2) := by decide +kernel
theorem dX11_solve_205 : decode cX11_solve 205 = .ok (.iadd, 1) := by decide +kernel
theorem dX11_solve_206 : decode cX11_solve 206 = .ok (.aload_n 0, 1) := by decide +kernel
theorem dX11_solve_207 : decode cX11_solve 207 = .ok (.getfield 52, 3) := by decide +kernel
theorem dX11_solve_210 : decode cX11_solve 210 = .ok (.iload 4, 2) := by decide +kernel
theorem dX11_solve_212 : decode cX11_solve 212 = .ok (.iaload, 1) := by decide +kernel
theorem dX11_solve_213 : decode cX11_solve 213 = .ok (.iconst (-1), 1) := by decide +kernel
theorem dX11_solve_214 : decode cX11_solve 214 = .ok (.if_icmp .ne 7, 3) := by decide +kernel
theorem dX11_solve_217 : decode cX11_solve 217 = .ok (.iconst 0, 1) := by decide +kernel
theorem dX11_solve_218 : decode cX11_solve 218 = .ok (.goto 15, 3) := by decide +kernel
theorem dX11_solve_221 : decode cX11_solve 221 = .ok (.aload_n 0, 1) := by decide +kernel
theorem dX11_solve_222 : decode cX11_solve 222 = .ok (.getfield 49, 3) := by decide +kernel
theorem dX11_solve_225 : decode cX11_solve 225 = .ok (.aload_n 0, 1) := by decide +kernel
theorem dX11_solve_226 : decode cX11_solve 226 = .ok (.getfield 52, 3) := by decide +kernel
theorem dX11_solve_229 : decode cX11_solve 229 = .ok (.iload 4, 2) := by decide +kernel
theorem dX11_solve_231 : decode cX11_solve 231 = .ok (.iaload, 1) := by decide +kernel
theorem dX11_solve_232 : decode cX11_solve 232 = .ok (.iaload, 1) := by decide +kernel
theorem dX11_solve_233 : decode cX11_solve 233 = .ok (.invokevirtual 252, 3) := by decide +kernel
theorem dX11_solve_236 : decode cX11_solve 236 = .ok (.iinc 4 1, 3) := by decide +kernel
theorem dX11_solve_239 : decode cX11_solve 239 = .ok (.goto (-51), 3) := by decide +kernel
theorem dX11_solve_242 : decode cX11_solve 242 = .ok (.iconst 0, 1) := by decide +kernel
theorem dX11_solve_243 : decode cX11_solve 243 = .ok (.istore 4, 2) := by decide +kernel
theorem dX11_solve_245 : decode cX11_solve 245 = .ok (.iload 4, 2) := by decide +kernel
theorem dX11_solve_247 : decode cX11_solve 247 = .ok (.aload_n 0, 1) := by decide +kernel
theorem dX11_solve_248 : decode cX11_solve 248 = .ok (.getfield 9, 3) := by decide +kernel
theorem dX11_solve_251 : decode cX11_solve 251 = .ok (.iconst 1, 1) := by decide +kernel
theorem dX11_solve_252 : decode cX11_solve 252 = .ok (.iaload, 1) := by decide +kernel
theorem dX11_solve_253 : decode cX11_solve 253 = .ok (.if_icmp .ge 21, 3) := by decide +kernel
theorem dX11_solve_256 : decode cX11_solve 256 = .ok (.aload_n 0, 1) := by decide +kernel
theorem dX11_solve_257 : decode cX11_solve 257 = .ok (.iload_n 1, 1) := by decide +kernel
theorem dX11_solve_258 : decode cX11_solve 258 = .ok (.sipush 250, 3) := by decide +kernel
theorem dX11_solve_261 : decode cX11_solve 261 = .ok (.iload 4, 2) := by decide +kernel
theorem dX11_solve_263 : decode cX11_solve 263 = .ok (.iadd, 1) := by decide +kernel
theorem dX11_solve_264 : decode cX11_solve 264 = .ok (.iconst 0, 1) := by decide +kernel
theorem dX11_solve_265 : decode cX11_solve 265 = .ok (.invokevirtual 252, 3) := by decide +kernel
theorem dX11_solve_268 : decode cX11_solve 268 = .ok (.iinc 4 1, 3) := by decide +kernel
theorem dX11_solve_271 : decode cX11_solve 271 = .ok (.goto (-26), 3) := by decide +kernel
theorem dX11_solve_274 : decode cX11_solve 274 = .ok (.iconst 0, 1) := by decide +kernel
theorem dX11_solve_275 : decode cX11_solve 275 = .ok (.istore 4, 2) := by decide +kernel
theorem dX11_solve_277 : decode cX11_solve 277 = .ok (.iload 4, 2) := by decide +kernel
theorem dX11_solve_279 : decode cX11_solve 279 = .ok (.iload_n 3, 1) := by decide +kernel
theorem dX11_solve_280 : decode cX11_solve 280 = .ok (.if_icmp .ge 26, 3) := by decide +kernel
theorem dX11_solve_283 : decode cX11_solve 283 = .ok (.aload_n 0, 1) := by decide +kernel
theorem dX11_solve_284 : decode cX11_solve 284 = .ok (.iload_n 1, 1) := by decide +kernel
theorem dX11_solve_285 : decode cX11_solve 285 = .ok (.sipush 250, 3) := by decide +kernel
theorem dX11_solve_288 : decode cX11_solve 288 = .ok (.aload_n 0, 1) := by decide +kernel
theorem dX11_solve_289 : decode cX11_solve 289 = .ok (.iload_n 2, 1) := by decide +kernel
theorem dX11_solve_290 : decode cX11_solve 290 = .ok (.iload 4, 2) := by decide +kernel
theorem dX11_solve_292 : decode cX11_solve 292 = .ok (.invokevirtual 330, 3) := by decide +kernel
theorem dX11_solve_295 : decode cX11_solve 295 = .ok (.iadd, 1) := by decide +kernel
theorem dX11_solve_296 : decode cX11_solve 296 = .ok (.iconst 1, 1) := by decide +kernel
theorem dX11_solve_297 : decode cX11_solve 297 = .ok (.invokevirtual 252, 3) := by decide +kernel
theorem dX11_solve_300 : decode cX11_solve 300 = .ok (.iinc 4 1, 3) := by decide +kernel
theorem dX11_solve_303 : decode cX11_solve 303 = .ok (.goto (-26), 3) := by decide +kernel
theorem dX11_solve_306 : decode cX11_solve 306 = .ok (.iload_n 3, 1) := by decide +kernel
theorem dX11_solve_307 : decode cX11_solve 307 = .ok (.ireturn, 1) := by decide +kernel
theorem dX11_isLie_0 : decode cX11_isLie 0 = .ok (.aload_n 0, 1) := by decide +kernel
theorem dX11_isLie_1 : decode cX11_isLie 1 = .ok (.iload_n 1, 1) := by decide +kernel
theorem dX11_isLie_2 : decode cX11_isLie 2 = .ok (.iload_n 2, 1) := by decide +kernel
theorem dX11_isLie_3 : decode cX11_isLie 3 = .ok (.invokevirtual 300, 3) := by decide +kernel
theorem dX11_isLie_6 : decode cX11_isLie 6 = .ok (.ifCond .ne 16, 3) := by decide +kernel
theorem dX11_isLie_9 : decode cX11_isLie 9 = .ok (.aload_n 0, 1) := by decide +kernel
theorem dX11_isLie_10 : decode cX11_isLie 10 = .ok (.iload_n 1, 1) := by decide +kernel
theorem dX11_isLie_11 : decode cX11_isLie 11 = .ok (.iload_n 2, 1) := by decide +kernel
theorem dX11_isLie_12 : decode cX11_isLie 12 = .ok (.invokevirtual 296, 3) := by decide +kernel
theorem dX11_isLie_15 : decode cX11_isLie 15 = .ok (.ifCond .eq 7, 3) := by decide +kernel
theorem dX11_isLie_18 : decode cX11_isLie 18 = .ok (.iconst 1, 1) := by decide +kernel
theorem dX11_isLie_19 : decode cX11_isLie 19 = .ok (.goto 4, 3) := by decide +kernel
theorem dX11_isLie_22 : decode cX11_isLie 22 = .ok (.iconst 0, 1) := by decide +kernel
theorem dX11_isLie_23 : decode cX11_isLie 23 = .ok (.ireturn, 1) := by decide +kernel
theorem dX11_lies_0 : decode cX11_lies 0 = .ok (.iconst 0, 1) := by decide +kernel
theorem dX11_lies_1 : decode cX11_lies 1 = .ok (.istore_n 2, 1) := by decide +kernel
theorem dX11_lies_2 : decode cX11_lies 2 = .ok (.iconst 0, 1) := by decide +kernel
theorem dX11_lies_3 : decode cX11_lies 3 = .ok (.istore_n 3, 1) := by decide +kernel
theorem dX11_lies_4 : decode cX11_lies 4 = .ok (.iload_n 3, 1) := by decide +kernel
theorem dX11_lies_5 : decode cX11_lies 5 = .ok (.aload_n 0, 1) := by decide +kernel
theorem dX11_lies_6 : decode cX11_lies 6 = .ok (.getfield 9, 3) := by decide +kernel
theorem dX11_lies_9 : decode cX11_lies 9 = .ok (.iconst 1, 1) := by decide +kernel
theorem dX11_lies_10 : decode cX11_lies 10 = .ok (.iaload, 1) := by decide +kernel
theorem dX11_lies_11 : decode cX11_lies 11 = .ok (.if_icmp .ge 26, 3) := by decide +kernel
theorem dX11_lies_14 : decode cX11_lies 14 = .ok (.iload_n 2, 1) := by decide +kernel
theorem dX11_lies_15 : decode cX11_lies 15 = .ok (.aload_n 0, 1) := by decide +kernel
theorem dX11_lies_16 : decode cX11_lies 16 = .ok (.iload_n 1, 1) := by decide +kernel
theorem dX11_lies_17 : decode cX11_lies 17 = .ok (.iload_n 3, 1) := by decide +kernel
theorem dX11_lies_18 : decode cX11_lies 18 = .ok (.invokevirtual 336, 3) := by decide +kernel
theorem dX11_lies_21 : decode cX11_lies 21 = .ok (.ifCond .eq 7, 3) := by decide +kernel
theorem dX11_lies_24 : decode cX11_lies 24 = .ok (.iconst 1, 1) := by decide +kernel
theorem dX11_lies_25 : decode cX11_lies 25 = .ok (.goto 4, 3) := by decide +kernel
theorem dX11_lies_28 : decode cX11_lies 28 = .ok (.iconst 0, 1) := by decide +kernel
theorem dX11_lies_29 : decode cX11_lies 29 = .ok (.iadd, 1) := by decide +kernel
theorem dX11_lies_30 : decode cX11_lies 30 = .ok (.istore_n 2, 1) := by decide +kernel
theorem dX11_lies_31 : decode cX11_lies 31 = .ok (.iinc 3 1, 3) := by decide +kernel
theorem dX11_lies_34 : decode cX11_lies 34 = .ok (.goto (-30), 3) := by decide +kernel
theorem dX11_lies_37 : decode cX11_lies 37 = .ok (.iload_n 2, 1) := by decide +kernel
theorem dX11_lies_38 : decode cX11_lies 38 = .ok (.ireturn, 1) := by decide +kernel
theorem dX11_lying_0 : decode cX11_lying 0 = .ok (.aload_n 0, 1) := by decide +kernel
theorem dX11_lying_1 : decode cX11_lying 1 = .ok (.aload_n 0, 1) := by decide +kernel
theorem dX11_lying_2 : decode cX11_lying 2 = .ok (.iload_n 1, 1) := by decide +kernel
theorem dX11_lying_3 : decode cX11_lying 3 = .ok (.invokevirtual 256, 3) := by decide +kernel
theorem dX11_lying_6 : decode cX11_lying 6 = .ok (.ifCond .eq 7, 3) := by decide +kernel
theorem dX11_lying_9 : decode cX11_lying 9 = .ok (.iconst 0, 1) := by decide +kernel
theorem dX11_lying_10 : decode cX11_lying 10 = .ok (.goto 4, 3) := by decide +kernel
theorem dX11_lying_13 : decode cX11_lying 13 = .ok (.iconst 1, 1) := by decide +kernel
theorem dX11_lying_14 : decode cX11_lying 14 = .ok (.putfield 92, 3) := by decide +kernel
theorem dX11_lying_17 : decode cX11_lying 17 = .ok (.aload_n 0, 1) := by decide +kernel
theorem dX11_lying_18 : decode cX11_lying 18 = .ok (.getfield 92, 3) := by decide +kernel
theorem dX11_lying_21 : decode cX11_lying 21 = .ok (.ifCond .le 5, 3) := by decide +kernel
theorem dX11_lying_24 : decode cX11_lying 24 = .ok (.iconst 0, 1) := by decide +kernel
theorem dX11_lying_25 : decode cX11_lying 25 = .ok (.ireturn, 1) := by decide +kernel
theorem dX11_lying_26 : decode cX11_lying 26 = .ok (.aload_n 0, 1) := by decide +kernel
theorem dX11_lying_27 : decode cX11_lying 27 = .ok (.iload_n 1, 1) := by decide +kernel
theorem dX11_lying_28 : decode cX11_lying 28 = .ok (.invokevirtual 339, 3) := by decide +kernel
theorem dX11_lying_31 : decode cX11_lying 31 = .ok (.istore_n 2, 1) := by decide +kernel
theorem dX11_lying_32 : decode cX11_lying 32 = .ok (.aload_n 0, 1) := by decide +kernel
theorem dX11_lying_33 : decode cX11_lying 33 = .ok (.getfield 9, 3) := by decide +kernel
theorem dX11_lying_36 : decode cX11_lying 36 = .ok (.iconst 1, 1) := by decide +kernel
theorem dX11_lying_37 : decode cX11_lying 37 = .ok (.iaload, 1) := by decide +kernel
theorem dX11_lying_38 : decode cX11_lying 38 = .ok (.aload_n 0, 1) := by decide +kernel
theorem dX11_lying_39 : decode cX11_lying 39 = .ok (.iload_n 1, 1) := by decide +kernel
theorem dX11_lying_40 : decode cX11_lying 40 = .ok (.invokevirtual 261, 3) := by decide +kernel
theorem dX11_lying_43 : decode cX11_lying 43 = .ok (.isub, 1) := by decide +kernel
theorem dX11_lying_44 : decode cX11_lying 44 = .ok (.istore_n 3, 1) := by decide +kernel
theorem dX11_lying_45 : decode cX11_lying 45 = .ok (.iload_n 3, 1) := by decide +kernel
theorem dX11_lying_46 : decode cX11_lying 46 = .ok (.istore 4, 2) := by decide +kernel
theorem dX11_lying_48 : decode cX11_lying 48 = .ok (.iload 4, 2) := by decide +kernel
theorem dX11_lying_50 : decode cX11_lying 50 = .ok (.iconst 1, 1) := by decide +kernel
theorem dX11_lying_51 : decode cX11_lying 51 = .ok (.if_icmp .le 23, 3) := by decide +kernel
theorem dX11_lying_54 : decode cX11_lying 54 = .ok (.iload_n 2, 1) := by decide +kernel
theorem dX11_lying_55 : decode cX11_lying 55 = .ok (.iload 4, 2) := by decide +kernel
theorem dX11_lying_57 : decode cX11_lying 57 = .ok (.irem, 1) := by decide +kernel
theorem dX11_lying_58 : decode cX11_lying 58 = .ok (.ifCond .ne 10, 3) := by decide +kernel
theorem dX11_lying_61 : decode cX11_lying 61 = .ok (.iload_n 3, 1) := by decide +kernel
theorem dX11_lying_62 : decode cX11_lying 62 = .ok (.iload 4, 2) := by decide +kernel
theorem dX11_lying_64 : decode cX11_lying 64 = .ok (.irem, 1) := by decide +kernel
theorem dX11_lying_65 : decode cX11_lying 65 = .ok (.ifCond .eq 9, 3) := by decide +kernel
theorem dX11_lying_68 : decode cX11_lying 68 = .ok (.iinc 4 (-1), 3) := by decide +kernel
theorem dX11_lying_71 : decode cX11_lying 71 = .ok (.goto (-23), 3) := by decide +kernel
theorem dX11_lying_74 : decode cX11_lying 74 = .ok (.aload_n 0, 1) := by decide +kernel
theorem dX11_lying_75 : decode cX11_lying 75 = .ok (.iload_n 3, 1) := by decide +kernel
theorem dX11_lying_76 : decode cX11_lying 76 = .ok (.ifCond .ne 7, 3) := by decide +kernel
theorem dX11_lying_79 : decode cX11_lying 79 = .ok (.iconst 0, 1) := by decide +kernel
theorem dX11_lying_80 : decode cX11_lying 80 = .ok (.goto 7, 3) := by decide +kernel
theorem dX11_lying_83 : decode cX11_lying 83 = .ok (.iload_n 2, 1) := by decide +kernel
theorem dX11_lying_84 : decode cX11_lying 84 = .ok (.iload 4, 2) := by decide +kernel
theorem dX11_lying_86 : decode cX11_lying 86 = .ok (.idiv, 1) := by decide +kernel
theorem dX11_lying_87 : decode cX11_lying 87 = .ok (.putfield 342, 3) := by decide +kernel
theorem dX11_lying_90 : decode cX11_lying 90 = .ok (.aload_n 0, 1) := by decide +kernel
theorem dX11_lying_91 : decode cX11_lying 91 = .ok (.iload_n 3, 1) := by decide +kernel
theorem dX11_lying_92 : decode cX11_lying 92 = .ok (.ifCond .ne 7, 3) := by decide +kernel
theorem dX11_lying_95 : decode cX11_lying 95 = .ok (.iconst 0, 1) := by decide +kernel
theorem dX11_lying_96 : decode cX11_lying 96 = .ok (.goto 7, 3) := by decide +kernel
theorem dX11_lying_99 : decode cX11_lying 99 = .ok (.iload_n 3, 1) := by decide +kernel
theorem dX11_lying_100 : decode cX11_lying 100 = .ok (.iload 4, 2) := by decide +kernel
theorem dX11_lying_102 : decode cX11_lying 102 = .ok (.idiv, 1) := by decide +kernel
theorem dX11_lying_103 : decode cX11_lying 103 = .ok (.putfield 345, 3) := by decide +kernel
theorem dX11_lying_106 : decode cX11_lying 106 = .ok (.iload_n 3, 1) := by decide +kernel
theorem dX11_lying_107 : decode cX11_lying 107 = .ok (.ifCond .le 7, 3) := by decide +kernel
theorem dX11_lying_110 : decode cX11_lying 110 = .ok (.iconst 1, 1) := by decide +kernel
theorem dX11_lying_111 : decode cX11_lying 111 = .ok (.goto 4, 3) := by decide +kernel
theorem dX11_lying_114 : decode cX11_lying 114 = .ok (.iconst 0, 1) := by decide +kernel
theorem dX11_lying_115 : decode cX11_lying 115 = .ok (.ireturn, 1) := by decide +kernel
theorem dX11_upper_0 : decode cX11_upper 0 = .ok (.aload_n 0, 1) := by decide +kernel
theorem dX11_upper_1 : decode cX11_upper 1 = .ok (.iconst 0, 1) := by decide +kernel
theorem dX11_upper_2 : decode cX11_upper 2 = .ok (.putfield 92, 3) := by decide +kernel
theorem dX11_upper_5 : decode cX11_upper 5 = .ok (.aload_n 0, 1) := by decide +kernel
theorem dX11_upper_6 : decode cX11_upper 6 = .ok (.getfield 342, 3) := by decide +kernel
theorem dX11_upper_9 : decode cX11_upper 9 = .ok (.ireturn, 1) := by decide +kernel
theorem dX11_lower_0 : decode cX11_lower 0 = .ok (.aload_n 0, 1) := by decide +kernel
theorem dX11_lower_1 : decode cX11_lower 1 = .ok (.iconst 0, 1) := by decide +kernel
theorem dX11_lower_2 : decode cX11_lower 2 = .ok (.putfield 92, 3) := by decide +kernel
theorem dX11_lower_5 : decode cX11_lower 5 = .ok (.aload_n 0, 1) := by decide +kernel
theorem dX11_lower_6 : decode cX11_lower 6 = .ok (.getfield 345, 3) := by decide +kernel
theorem dX11_lower_9 : decode cX11_lower 9 = .ok (.ireturn, 1) := by decide +kernel
theorem dX11_lie_0 : decode cX11_lie 0 = .ok (.aload_n 0, 1) := by decide +kernel
theorem dX11_lie_1 : decode cX11_lie 1 = .ok (.iconst 0, 1) := by decide +kernel
theorem dX11_lie_2 : decode cX11_lie 2 = .ok (.putfield 92, 3) := by decide +kernel
theorem dX11_lie_5 : decode cX11_lie 5 = .ok (.aload_n 0, 1) := by decide +kernel
theorem dX11_lie_6 : decode cX11_lie 6 = .ok (.iload_n 1, 1) := by decide +kernel
theorem dX11_lie_7 : decode cX11_lie 7 = .ok (.invokevirtual 256, 3) := by decide +kernel
theorem dX11_lie_10 : decode cX11_lie 10 = .ok (.ifCond .ne 9, 3) := by decide +kernel
theorem dX11_lie_13 : decode cX11_lie 13 = .ok (.aload_n 0, 1) := by decide +kernel
theorem dX11_lie_14 : decode cX11_lie 14 = .ok (.iconst 1, 1) := by decide +kernel
theorem dX11_lie_15 : decode cX11_lie 15 = .ok (.invokevirtual 201, 3) := by decide +kernel
theorem dX11_lie_18 : decode cX11_lie 18 = .ok (.ireturn, 1) := by decide +kernel
theorem dX11_lie_19 : decode cX11_lie 19 = .ok (.iload_n 2, 1) := by decide +kernel
theorem dX11_lie_20 : decode cX11_lie 20 = .ok (.istore_n 3, 1) := by decide +kernel
theorem dX11_lie_21 : decode cX11_lie 21 = .ok (.iconst 0, 1) := by decide +kernel
theorem dX11_lie_22 : decode cX11_lie 22 = .ok (.istore 4, 2) := by decide +kernel
theorem dX11_lie_24 : decode cX11_lie 24 = .ok (.iload 4, 2) := by decide +kernel
theorem dX11_lie_26 : decode cX11_lie 26 = .ok (.aload_n 0, 1) := by decide +kernel
theorem dX11_lie_27 : decode cX11_lie 27 = .ok (.getfield 9, 3) := by decide +kernel
theorem dX11_lie_30 : decode cX11_lie 30 = .ok (.iconst 1, 1) := by decide +kernel
theorem dX11_lie_31 : decode cX11_lie 31 = .ok (.iaload, 1) := by decide +kernel
theorem dX11_lie_32 : decode cX11_lie 32 = .ok (.if_icmp .ge 32, 3) := by decide +kernel
theorem dX11_lie_35 : decode cX11_lie 35 = .ok (.aload_n 0, 1) := by decide +kernel
theorem dX11_lie_36 : decode cX11_lie 36 = .ok (.iload_n 1, 1) := by decide +kernel
theorem dX11_lie_37 : decode cX11_lie 37 = .ok (.iload 4, 2) := by decide +kernel
theorem dX11_lie_39 : decode cX11_lie 39 = .ok (.invokevirtual 336, 3) := by decide +kernel
theorem dX11_lie_42 : decode cX11_lie 42 = .ok (.ifCond .ne 6, 3) := by decide +kernel
theorem dX11_lie_45 : decode cX11_lie 45 = .ok (.goto 13, 3) := by decide +kernel
theorem dX11_lie_48 : decode cX11_lie 48 = .ok (.iload_n 3, 1) := by decide +kernel
theorem dX11_lie_49 : decode cX11_lie 49 = .ok (.ifCond .ne 6, 3) := by decide +kernel
theorem dX11_lie_52 : decode cX11_lie 52 = .ok (.iload 4, 2) := by decide +kernel
theorem dX11_lie_54 : decode cX11_lie 54 = .ok (.ireturn, 1) := by decide +kernel
theorem dX11_lie_55 : decode cX11_lie 55 = .ok (.iinc 3 (-1), 3) := by decide +kernel
theorem dX11_lie_58 : decode cX11_lie 58 = .ok (.iinc 4 1, 3) := by decide +kernel
theorem dX11_lie_61 : decode cX11_lie 61 = .ok (.goto (-37), 3) := by decide +kernel
theorem dX11_lie_64 : decode cX11_lie 64 = .ok (.iconst (-1), 1) := by decide +kernel
theorem dX11_lie_65 : decode cX11_lie 65 = .ok (.ireturn, 1) := by decide +kernel
theorem dX11_wronged_0 : decode cX11_wronged 0 = .ok (.aload_n 0, 1) := by decide +kernel
theorem dX11_wronged_1 : decode cX11_wronged 1 = .ok (.aload_n 0, 1) := by decide +kernel
theorem dX11_wronged_2 : decode cX11_wronged 2 = .ok (.iload_n 1, 1) := by decide +kernel
theorem dX11_wronged_3 : decode cX11_wronged 3 = .ok (.iload_n 2, 1) := by decide +kernel
theorem dX11_wronged_4 : decode cX11_wronged 4 = .ok (.invokevirtual 323, 3) := by decide +kernel
theorem dX11_wronged_7 : decode cX11_wronged 7 = .ok (.putfield 92, 3) := by decide +kernel
theorem dX11_wronged_10 : decode cX11_wronged 10 = .ok (.aload_n 0, 1) := by decide +kernel
theorem dX11_wronged_11 : decode cX11_wronged 11 = .ok (.getfield 92, 3) := by decide +kernel
theorem dX11_wronged_14 : decode cX11_wronged 14 = .ok (.ifCond .ne 18, 3) := by decide +kernel
theorem dX11_wronged_17 : decode cX11_wronged 17 = .ok (.aload_n 0, 1) := by decide +kernel
theorem dX11_wronged_18 : decode cX11_wronged 18 = .ok (.getfield 79, 3) := by decide +kernel
theorem dX11_wronged_21 : decode cX11_wronged 21 = .ok (.iload_n 2, 1) := by decide +kernel
theorem dX11_wronged_22 : decode cX11_wronged 22 = .ok (.iaload, 1) := by decide +kernel
theorem dX11_wronged_23 : decode cX11_wronged 23 = .ok (.iconst (-1), 1) := by decide +kernel
theorem dX11_wronged_24 : decode cX11_wronged 24 = .ok (.if_icmp .ne 8, 3) := by decide +kernel
theorem dX11_wronged_27 : decode cX11_wronged 27 = .ok (.aload_n 0, 1) := by decide +kernel
theorem dX11_wronged_28 : decode cX11_wronged 28 = .ok (.iconst 2, 1) := by decide +kernel
theorem dX11_wronged_29 : decode cX11_wronged 29 = .ok (.putfield 92, 3) := by decide +kernel
theorem dX11_wronged_32 : decode cX11_wronged 32 = .ok (.aload_n 0, 1) := by decide +kernel
theorem dX11_wronged_33 : decode cX11_wronged 33 = .ok (.getfield 92, 3) := by decide +kernel
theorem dX11_wronged_36 : decode cX11_wronged 36 = .ok (.ifCond .le 5, 3) := by decide +kernel
theorem dX11_wronged_39 : decode cX11_wronged 39 = .ok (.iconst 0, 1) := by decide +kernel
theorem dX11_wronged_40 : decode cX11_wronged 40 = .ok (.ireturn, 1) := by decide +kernel
theorem dX11_wronged_41 : decode cX11_wronged 41 = .ok (.iconst 0, 1) := by decide +kernel
theorem dX11_wronged_42 : decode cX11_wronged 42 = .ok (.istore 4, 2) := by decide +kernel
theorem dX11_wronged_44 : decode cX11_wronged 44 = .ok (.iconst 0, 1) := by decide +kernel
theorem dX11_wronged_45 : decode cX11_wronged 45 = .ok (.istore 5, 2) := by decide +kernel
theorem dX11_wronged_47 : decode cX11_wronged 47 = .ok (.iload 5, 2) := by decide +kernel
theorem dX11_wronged_49 : decode cX11_wronged 49 = .ok (.aload_n 0, 1) := by decide +kernel
theorem dX11_wronged_50 : decode cX11_wronged 50 = .ok (.getfield 82, 3) := by decide +kernel
theorem dX11_wronged_53 : decode cX11_wronged 53 = .ok (.iload_n 2, 1) := by decide +kernel
theorem dX11_wronged_54 : decode cX11_wronged 54 = .ok (.iaload, 1) := by decide +kernel
theorem dX11_wronged_55 : decode cX11_wronged 55 = .ok (.if_icmp .ge 63, 3) := by decide +kernel
theorem dX11_wronged_58 : decode cX11_wronged 58 = .ok (.aload_n 0, 1) := by decide +kernel
theorem dX11_wronged_59 : decode cX11_wronged 59 = .ok (.aload_n 0, 1) := by decide +kernel
theorem dX11_wronged_60 : decode cX11_wronged 60 = .ok (.getfield 85, 3) := by decide +kernel
theorem dX11_wronged_63 : decode cX11_wronged 63 = .ok (.bipush 40, 2) := by decide +kernel
theorem dX11_wronged_65 : decode cX11_wronged 65 = .ok (.iload_n 2, 1) := by decide +kernel
theorem dX11_wronged_66 : decode cX11_wronged 66 = .ok (.imul, 1) := by decide +kernel
theorem dX11_wronged_67 : decode cX11_wronged 67 = .ok (.iload 5, 2) := by decide +kernel
theorem dX11_wronged_69 : decode cX11_wronged 69 = .ok (.iadd, 1) := by decide +kernel
theorem dX11_wronged_70 : decode cX11_wronged 70 = .ok (.laload, 1) := by decide +kernel
theorem dX11_wronged_71 : decode cX11_wronged 71 = .ok (.invokevirtual 228, 3) := by decide +kernel
theorem dX11_wronged_74 : decode cX11_wronged 74 = .ok (.ifCond .eq 38, 3) := by decide +kernel
theorem dX11_wronged_77 : decode cX11_wronged 77 = .ok (.aload_n 0, 1) := by decide +kernel
theorem dX11_wronged_78 : decode cX11_wronged 78 = .ok (.iload_n 1, 1) := by decide +kernel
theorem dX11_wronged_79 : decode cX11_wronged 79 = .ok (.aload_n 0, 1) := by decide +kernel
theorem dX11_wronged_80 : decode cX11_wronged 80 = .ok (.iload_n 2, 1) := by decide +kernel
theorem dX11_wronged_81 : decode cX11_wronged 81 = .ok (.iload 5, 2) := by decide +kernel
theorem dX11_wronged_83 : decode cX11_wronged 83 = .ok (.invokevirtual 330, 3) := by decide +kernel
theorem dX11_wronged_86 : decode cX11_wronged 86 = .ok (.invokevirtual 336, 3) := by decide +kernel
theorem dX11_wronged_89 : decode cX11_wronged 89 = .ok (.ifCond .ne 6, 3) := by decide +kernel
theorem dX11_wronged_92 : decode cX11_wronged 92 = .ok (.goto 20, 3) := by decide +kernel
theorem dX11_wronged_95 : decode cX11_wronged 95 = .ok (.iload 4, 2) := by decide +kernel
theorem dX11_wronged_97 : decode cX11_wronged 97 = .ok (.iload_n 3, 1) := by decide +kernel
theorem dX11_wronged_98 : decode cX11_wronged 98 = .ok (.if_icmp .ne 11, 3) := by decide +kernel
theorem dX11_wronged_101 : decode cX11_wronged 101 = .ok (.aload_n 0, 1) := by decide +kernel
theorem dX11_wronged_102 : decode cX11_wronged 102 = .ok (.iload_n 2, 1) := by decide +kernel
theorem dX11_wronged_103 : decode cX11_wronged 103 = .ok (.iload 5, 2) := by decide +kernel
theorem dX11_wronged_105 : decode cX11_wronged 105 = .ok (.invokevirtual 330, 3) := by decide +kernel
theorem dX11_wronged_108 : decode cX11_wronged 108 = .ok (.ireturn, 1) := by decide +kernel
theorem dX11_wronged_109 : decode cX11_wronged 109 = .ok (.iinc 4 1, 3) := by decide +kernel
theorem dX11_wronged_112 : decode cX11_wronged 112 = .ok (.iinc 5 1, 3) := by decide +kernel
theorem dX11_wronged_115 : decode cX11_wronged 115 = .ok (.goto (-68), 3) := by decide +kernel
theorem dX11_wronged_118 : decode cX11_wronged 118 = .ok (.iload_n 3, 1) := by decide +kernel
theorem dX11_wronged_119 : decode cX11_wronged 119 = .ok (.iconst (-1), 1) := by decide +kernel
theorem dX11_wronged_120 : decode cX11_wronged 120 = .ok (.if_icmp .ne 8, 3) := by decide +kernel
theorem dX11_wronged_123 : decode cX11_wronged 123 = .ok (.iload 4, 2) := by decide +kernel
theorem dX11_wronged_125 : decode cX11_wronged 125 = .ok (.goto 4, 3) := by decide +kernel
theorem dX11_wronged_128 : decode cX11_wronged 128 = .ok (.iconst (-1), 1) := by decide +kernel
theorem dX11_wronged_129 : decode cX11_wronged 129 = .ok (.ireturn, 1) := by decide +kernel
theorem dX11_worse_0 : decode cX11_worse 0 = .ok (.aload_n 0, 1) := by decide +kernel
theorem dX11_worse_1 : decode cX11_worse 1 = .ok (.iconst 0, 1) := by decide +kernel
theorem dX11_worse_2 : decode cX11_worse 2 = .ok (.putfield 92, 3) := by decide +kernel
theorem dX11_worse_5 : decode cX11_worse 5 = .ok (.aload_n 0, 1) := by decide +kernel
theorem dX11_worse_6 : decode cX11_worse 6 = .ok (.iload_n 1, 1) := by decide +kernel
theorem dX11_worse_7 : decode cX11_worse 7 = .ok (.invokevirtual 256, 3) := by decide +kernel
theorem dX11_worse_10 : decode cX11_worse 10 = .ok (.ifCond .eq 11, 3) := by decide +kernel
theorem dX11_worse_13 : decode cX11_worse 13 = .ok (.aload_n 0, 1) := by decide +kernel
theorem dX11_worse_14 : decode cX11_worse 14 = .ok (.iload_n 2, 1) := by decide +kernel
theorem dX11_worse_15 : decode cX11_worse 15 = .ok (.invokevirtual 256, 3) := by decide +kernel
theorem dX11_worse_18 : decode cX11_worse 18 = .ok (.ifCond .ne 9, 3) := by decide +kernel
theorem dX11_worse_21 : decode cX11_worse 21 = .ok (.aload_n 0, 1) := by decide +kernel
theorem dX11_worse_22 : decode cX11_worse 22 = .ok (.iconst 1, 1) := by decide +kernel
theorem dX11_worse_23 : decode cX11_worse 23 = .ok (.invokevirtual 201, 3) := by decide +kernel
theorem dX11_worse_26 : decode cX11_worse 26 = .ok (.ireturn, 1) := by decide +kernel
theorem dX11_worse_27 : decode cX11_worse 27 = .ok (.aload_n 0, 1) := by decide +kernel
theorem dX11_worse_28 : decode cX11_worse 28 = .ok (.iload_n 1, 1) := by decide +kernel
theorem dX11_worse_29 : decode cX11_worse 29 = .ok (.invokevirtual 339, 3) := by decide +kernel
theorem dX11_worse_32 : decode cX11_worse 32 = .ok (.aload_n 0, 1) := by decide +kernel
theorem dX11_worse_33 : decode cX11_worse 33 = .ok (.iload_n 2, 1) := by decide +kernel
theorem dX11_worse_34 : decode cX11_worse 34 = .ok (.invokevirtual 339, 3) := by decide +kernel
theorem dX11_worse_37 : decode cX11_worse 37 = .ok (.isub, 1) := by decide +kernel
theorem dX11_worse_38 : decode cX11_worse 38 = .ok (.ireturn, 1) := by decide +kernel
theorem dX11_layBits_0 : decode cX11_layBits 0 = .ok (.iconst 0, 1) := by decide +kernel
theorem dX11_layBits_1 : decode cX11_layBits 1 = .ok (.istore_n 3, 1) := by decide +kernel
theorem dX11_layBits_2 : decode cX11_layBits 2 = .ok (.iload_n 3, 1) := by decide +kernel
theorem dX11_layBits_3 : decode cX11_layBits 3 = .ok (.bipush 64, 2) := by decide +kernel
theorem dX11_layBits_5 : decode cX11_layBits 5 = .ok (.if_icmp .ge 16, 3) := by decide +kernel
theorem dX11_layBits_8 : decode cX11_layBits 8 = .ok (.aload_n 0, 1) := by decide +kernel
theorem dX11_layBits_9 : decode cX11_layBits 9 = .ok (.getfield 58, 3) := by decide +kernel
theorem dX11_layBits_12 : decode cX11_layBits 12 = .ok (.iload_n 3, 1) := by decide +kernel
theorem dX11_layBits_13 : decode cX11_layBits 13 = .ok (.iconst 0, 1) := by decide +kernel
theorem dX11_layBits_14 : decode cX11_layBits 14 = .ok (.bastore, 1) := by decide +kernel
theorem dX11_layBits_15 : decode cX11_layBits 15 = .ok (.iinc 3 1, 3) := by decide +kernel
theorem dX11_layBits_18 : decode cX11_layBits 18 = .ok (.goto (-16), 3) := by decide +kernel
theorem dX11_layBits_21 : decode cX11_layBits 21 = .ok (.iconst 0, 1) := by decide +kernel
theorem dX11_layBits_22 : decode cX11_layBits 22 = .ok (.istore_n 3, 1) := by decide +kernel
theorem dX11_layBits_23 : decode cX11_layBits 23 = .ok (.iload_n 3, 1) := by decide +kernel
theorem dX11_layBits_24 : decode cX11_layBits 24 = .ok (.aload_n 0, 1) := by decide +kernel
theorem dX11_layBits_25 : decode cX11_layBits 25 = .ok (.getfield 9, 3) := by decide +kernel
theorem dX11_layBits_28 : decode cX11_layBits 28 = .ok (.iconst 1, 1) := by decide +kernel
theorem dX11_layBits_29 : decode cX11_layBits 29 = .ok (.iaload, 1) := by decide +kernel
theorem dX11_layBits_30 : decode cX11_layBits 30 = .ok (.if_icmp .ge 47, 3) := by decide +kernel
theorem dX11_layBits_33 : decode cX11_layBits 33 = .ok (.iconst 0, 1) := by decide +kernel
theorem dX11_layBits_34 : decode cX11_layBits 34 = .ok (.istore 4, 2) := by decide +kernel
theorem dX11_layBits_36 : decode cX11_layBits 36 = .ok (.iload 4, 2) := by decide +kernel
theorem dX11_layBits_38 : decode cX11_layBits 38 = .ok (.iload_n 2, 1) := by decide +kernel
theorem dX11_layBits_39 : decode cX11_layBits 39 = .ok (.if_icmp .ge 32, 3) := by decide +kernel
theorem dX11_layBits_42 : decode cX11_layBits 42 = .ok (.aload_n 0, 1) := by decide +kernel
theorem dX11_layBits_43 : decode cX11_layBits 43 = .ok (.getfield 61, 3) := by decide +kernel
theorem dX11_layBits_46 : decode cX11_layBits 46 = .ok (.iload_n 3, 1) := by decide +kernel
theorem dX11_layBits_47 : decode cX11_layBits 47 = .ok (.baload, 1) := by decide +kernel
theorem dX11_layBits_48 : decode cX11_layBits 48 = .ok (.ifCond .eq 23, 3) := by decide +kernel
theorem dX11_layBits_51 : decode cX11_layBits 51 = .ok (.aload_n 0, 1) := by decide +kernel
theorem dX11_layBits_52 : decode cX11_layBits 52 = .ok (.getfield 58, 3) := by decide +kernel
theorem dX11_layBits_55 : decode cX11_layBits 55 = .ok (.aload_n 0, 1) := by decide +kernel
theorem dX11_layBits_56 : decode cX11_layBits 56 = .ok (.iload 4, 2) := by decide +kernel
theorem dX11_layBits_58 : decode cX11_layBits 58 = .ok (.iload_n 3, 1) := by decide +kernel
theorem dX11_layBits_59 : decode cX11_layBits 59 = .ok (.iload_n 1, 1) := by decide +kernel
theorem dX11_layBits_60 : decode cX11_layBits 60 = .ok (.invokevirtual 225, 3) := by decide +kernel
theorem dX11_layBits_63 : decode cX11_layBits 63 = .ok (.iconst 1, 1) := by decide +kernel
theorem dX11_layBits_64 : decode cX11_layBits 64 = .ok (.bastore, 1) := by decide +kernel
theorem dX11_layBits_65 : decode cX11_layBits 65 = .ok (.iinc 4 1, 3) := by decide +kernel
theorem dX11_layBits_68 : decode cX11_layBits 68 = .ok (.goto (-32), 3) := by decide +kernel
theorem dX11_layBits_71 : decode cX11_layBits 71 = .ok (.iinc 3 1, 3) := by decide +kernel
theorem dX11_layBits_74 : decode cX11_layBits 74 = .ok (.goto (-51), 3) := by decide +kernel
theorem dX11_layBits_77 : decode cX11_layBits 77 = .ok (.return_, 1) := by decide +kernel
theorem dX11_isSaid_0 : decode cX11_isSaid 0 = .ok (.iconst 0, 1) := by decide +kernel
theorem dX11_isSaid_1 : decode cX11_isSaid 1 = .ok (.istore 4, 2) := by decide +kernel
theorem dX11_isSaid_3 : decode cX11_isSaid 3 = .ok (.iload 4, 2) := by decide +kernel
theorem dX11_isSaid_5 : decode cX11_isSaid 5 = .ok (.iload_n 2, 1) := by decide +kernel
theorem dX11_isSaid_6 : decode cX11_isSaid 6 = .ok (.if_icmp .ge 27, 3) := by decide +kernel
theorem dX11_isSaid_9 : decode cX11_isSaid 9 = .ok (.aload_n 0, 1) := by decide +kernel
theorem dX11_isSaid_10 : decode cX11_isSaid 10 = .ok (.getfield 58, 3) := by decide +kernel
theorem dX11_isSaid_13 : decode cX11_isSaid 13 = .ok (.aload_n 0, 1) := by decide +kernel
theorem dX11_isSaid_14 : decode cX11_isSaid 14 = .ok (.iload 4, 2) := by decide +kernel
theorem dX11_isSaid_16 : decode cX11_isSaid 16 = .ok (.iload_n 3, 1) := by decide +kernel
theorem dX11_isSaid_17 : decode cX11_isSaid 17 = .ok (.iload_n 1, 1) := by decide +kernel
theorem dX11_isSaid_18 : decode cX11_isSaid 18 = .ok (.invokevirtual 225, 3) := by decide +kernel
theorem dX11_isSaid_21 : decode cX11_isSaid 21 = .ok (.baload, 1) := by decide +kernel
theorem dX11_isSaid_22 : decode cX11_isSaid 22 = .ok (.ifCond .ne 5, 3) := by decide +kernel
theorem dX11_isSaid_25 : decode cX11_isSaid 25 = .ok (.iconst 0, 1) := by decide +kernel
theorem dX11_isSaid_26 : decode cX11_isSaid 26 = .ok (.ireturn, 1) := by decide +kernel
theorem dX11_isSaid_27 : decode cX11_isSaid 27 = .ok (.iinc 4 1, 3) := by decide +kernel
theorem dX11_isSaid_30 : decode cX11_isSaid 30 = .ok (.goto (-27), 3) := by decide +kernel
theorem dX11_isSaid_33 : decode cX11_isSaid 33 = .ok (.iconst 1, 1) := by decide +kernel
theorem dX11_isSaid_34 : decode cX11_isSaid 34 = .ok (.ireturn, 1) := by decide +kernel
theorem dX11_takesPut_0 : decode cX11_takesPut 0 = .ok (.iconst 0, 1) := by decide +kernel
theorem dX11_takesPut_1 : decode cX11_takesPut 1 = .ok (.istore_n 2, 1) := by decide +kernel
theorem dX11_takesPut_2 : decode cX11_takesPut 2 = .ok (.iload_n 2, 1) := by decide +kernel
theorem dX11_takesPut_3 : decode cX11_takesPut 3 = .ok (.aload_n 0, 1) := by decide +kernel
theorem dX11_takesPut_4 : decode cX11_takesPut 4 = .ok (.getfield 9, 3) := by decide +kernel
theorem dX11_takesPut_7 : decode cX11_takesPut 7 = .ok (.iconst 1, 1) := by decide +kernel
theorem dX11_takesPut_8 : decode cX11_takesPut 8 = .ok (.iaload, 1) := by decide +kernel
theorem dX11_takesPut_9 : decode cX11_takesPut 9 = .ok (.if_icmp .ge 21, 3) := by decide +kernel
theorem dX11_takesPut_12 : decode cX11_takesPut 12 = .ok (.aload_n 0, 1) := by decide +kernel
theorem dX11_takesPut_13 : decode cX11_takesPut 13 = .ok (.getfield 61, 3) := by decide +kernel
theorem dX11_takesPut_16 : decode cX11_takesPut 16 = .ok (.iload_n 2, 1) := by decide +kernel
theorem dX11_takesPut_17 : decode cX11_takesPut 17 = .ok (.aload_n 0, 1) := by decide +kernel
theorem dX11_takesPut_18 : decode cX11_takesPut 18 = .ok (.iload_n 1, 1) := by decide +kernel
theorem dX11_takesPut_19 : decode cX11_takesPut 19 = .ok (.iload_n 2, 1) := by decide +kernel
theorem dX11_takesPut_20 : decode cX11_takesPut 20 = .ok (.invokevirtual 300, 3) := by decide +kernel
theorem dX11_takesPut_23 : decode cX11_takesPut 23 = .ok (.bastore, 1) := by decide +kernel
theorem dX11_takesPut_24 : decode cX11_takesPut 24 = .ok (.iinc 2 1, 3) := by decide +kernel
theorem dX11_takesPut_27 : decode cX11_takesPut 27 = .ok (.goto (-25), 3) := by decide +kernel
theorem dX11_takesPut_30 : decode cX11_takesPut 30 = .ok (.return_, 1) := by decide +kernel
theorem dX11_cascade_0 : decode cX11_cascade 0 = .ok (.aload_n 0, 1) := by decide +kernel
theorem dX11_cascade_1 : decode cX11_cascade 1 = .ok (.aload_n 0, 1) := by decide +kernel
theorem dX11_cascade_2 : decode cX11_cascade 2 = .ok (.iload_n 1, 1) := by decide +kernel
theorem dX11_cascade_3 : decode cX11_cascade 3 = .ok (.invokevirtual 256, 3) := by decide +kernel
theorem dX11_cascade_6 : decode cX11_cascade 6 = .ok (.ifCond .eq 17, 3) := by decide +kernel
theorem dX11_cascade_9 : decode cX11_cascade 9 = .ok (.iload_n 2, 1) := by decide +kernel
theorem dX11_cascade_10 : decode cX11_cascade 10 = .ok (.invokestatic 320, 3) := by decide +kernel
theorem dX11_cascade_13 : decode cX11_cascade 13 = .ok (.ifCond .eq 10, 3) := by decide +kernel
theorem dX11_cascade_16 : decode cX11_cascade 16 = .ok (.iload_n 3, 1) := by decide +kernel
theorem dX11_cascade_17 : decode cX11_cascade 17 = .ok (.invokestatic 320, 3) := by decide +kernel
theorem dX11_cascade_20 : decode cX11_cascade 20 = .ok (.ifCond .ne 7, 3) := by decide +kernel
theorem dX11_cascade_23 : decode cX11_cascade 23 = .ok (.iconst 1, 1) := by decide +kernel
theorem dX11_cascade_24 : decode cX11_cascade 24 = .ok (.goto 4, 3) := by decide +kernel
theorem dX11_cascade_27 : decode cX11_cascade 27 = .ok (.iconst 0, 1) := by decide +kernel
theorem dX11_cascade_28 : decode cX11_cascade 28 = .ok (.putfield 92, 3) := by decide +kernel
theorem dX11_cascade_31 : decode cX11_cascade 31 = .ok (.aload_n 0, 1) := by decide +kernel
theorem dX11_cascade_32 : decode cX11_cascade 32 = .ok (.getfield 92, 3) := by decide +kernel
theorem dX11_cascade_35 : decode cX11_cascade 35 = .ok (.ifCond .ne 37, 3) := by decide +kernel
theorem dX11_cascade_38 : decode cX11_cascade 38 = .ok (.aload_n 0, 1) := by decide +kernel
theorem dX11_cascade_39 : decode cX11_cascade 39 = .ok (.iload_n 1, 1) := by decide +kernel
theorem dX11_cascade_40 : decode cX11_cascade 40 = .ok (.iconst 0, 1) := by decide +kernel
theorem dX11_cascade_41 : decode cX11_cascade 41 = .ok (.invokevirtual 237, 3) := by decide +kernel
theorem dX11_cascade_44 : decode cX11_cascade 44 = .ok (.ifCond .ne 23, 3) := by decide +kernel
theorem dX11_cascade_47 : decode cX11_cascade 47 = .ok (.aload_n 0, 1) := by decide +kernel
theorem dX11_cascade_48 : decode cX11_cascade 48 = .ok (.getfield 79, 3) := by decide +kernel
theorem dX11_cascade_51 : decode cX11_cascade 51 = .ok (.iload_n 2, 1) := by decide +kernel
theorem dX11_cascade_52 : decode cX11_cascade 52 = .ok (.iaload, 1) := by decide +kernel
theorem dX11_cascade_53 : decode cX11_cascade 53 = .ok (.iconst (-1), 1) := by decide +kernel
theorem dX11_cascade_54 : decode cX11_cascade 54 = .ok (.if_icmp .eq 13, 3) := by decide +kernel
theorem dX11_cascade_57 : decode cX11_cascade 57 = .ok (.aload_n 0, 1) := by decide +kernel
theorem dX11_cascade_58 : decode cX11_cascade 58 = .ok (.getfield 79, 3) := by decide +kernel
theorem dX11_cascade_61 : decode cX11_cascade 61 = .ok (.iload_n 3, 1) := by decide +kernel
theorem dX11_cascade_62 : decode cX11_cascade 62 = .ok (.iaload, 1) := by decide +kernel
theorem dX11_cascade_63 : decode cX11_cascade 63 = .ok (.iconst (-1), 1) := by decide +kernel
theorem dX11_cascade_64 : decode cX11_cascade 64 = .ok (.if_icmp .ne 8, 3) := by decide +kernel
theorem dX11_cascade_67 : decode cX11_cascade 67 = .ok (.aload_n 0, 1) := by decide +kernel
theorem dX11_cascade_68 : decode cX11_cascade 68 = .ok (.iconst 2, 1) := by decide +kernel
theorem dX11_cascade_69 : decode cX11_cascade 69 = .ok (.putfield 92, 3) := by decide +kernel
theorem dX11_cascade_72 : decode cX11_cascade 72 = .ok (.aload_n 0, 1) := by decide +kernel
theorem dX11_cascade_73 : decode cX11_cascade 73 = .ok (.getfield 92, 3) := by decide +kernel
theorem dX11_cascade_76 : decode cX11_cascade 76 = .ok (.ifCond .ne 29, 3) := by decide +kernel
theorem dX11_cascade_79 : decode cX11_cascade 79 = .ok (.iload 4, 2) := by decide +kernel
theorem dX11_cascade_81 : decode cX11_cascade 81 = .ok (.i2l, 1) := by decide +kernel
theorem dX11_cascade_82 : decode cX11_cascade 82 = .ok (.lconst 0, 1) := by decide +kernel
theorem dX11_cascade_83 : decode cX11_cascade 83 = .ok (.ldc2_w 348, 3) := by decide +kernel
theorem dX11_cascade_86 : decode cX11_cascade 86 = .ok (.invokestatic 157, 3) := by decide +kernel
theorem dX11_cascade_89 : decode cX11_cascade 89 = .ok (.ifCond .eq 16, 3) := by decide +kernel
theorem dX11_cascade_92 : decode cX11_cascade 92 = .ok (.aload_n 0, 1) := by decide +kernel
theorem dX11_cascade_93 : decode cX11_cascade 93 = .ok (.iload_n 2, 1) := by decide +kernel
theorem dX11_cascade_94 : decode cX11_cascade 94 = .ok (.iconst 0, 1) := by decide +kernel
theorem dX11_cascade_95 : decode cX11_cascade 95 = .ok (.invokevirtual 326, 3) := by decide +kernel
theorem dX11_cascade_98 : decode cX11_cascade 98 = .ok (.ifCond .eq 7, 3) := by decide +kernel
theorem dX11_cascade_101 : decode cX11_cascade 101 = .ok (.iconst 1, 1) := by decide +kernel
theorem dX11_cascade_102 : decode cX11_cascade 102 = .ok (.goto 4, 3) := by decide +kernel
theorem dX11_cascade_105 : decode cX11_cascade 105 = .ok (.iconst 0, 1) := by decide +kernel
theorem dX11_cascade_106 : decode cX11_cascade 106 = .ok (.istore 5, 2) := by decide +kernel
theorem dX11_cascade_108 : decode cX11_cascade 108 = .ok (.iconst 0, 1) := by decide +kernel
theorem dX11_cascade_109 : decode cX11_cascade 109 = .ok (.istore 6, 2) := by decide +kernel
theorem dX11_cascade_111 : decode cX11_cascade 111 = .ok (.iload 5, 2) := by decide +kernel
theorem dX11_cascade_113 : decode cX11_cascade 113 = .ok (.ifCond .eq 41, 3) := by decide +kernel
theorem dX11_cascade_116 : decode cX11_cascade 116 = .ok (.iload 6, 2) := by decide +kernel
theorem dX11_cascade_118 : decode cX11_cascade 118 = .ok (.aload_n 0, 1) := by decide +kernel
theorem dX11_cascade_119 : decode cX11_cascade 119 = .ok (.getfield 82, 3) := by decide +kernel
theorem dX11_cascade_122 : decode cX11_cascade 122 = .ok (.iload_n 3, 1) := by decide +kernel
theorem dX11_cascade_123 : decode cX11_cascade 123 = .ok (.iaload, 1) := by decide +kernel
theorem dX11_cascade_124 : decode cX11_cascade 124 = .ok (.if_icmp .ge 30, 3) := by decide +kernel
theorem dX11_cascade_127 : decode cX11_cascade 127 = .ok (.aload_n 0, 1) := by decide +kernel
theorem dX11_cascade_128 : decode cX11_cascade 128 = .ok (.getfield 85, 3) := by decide +kernel
theorem dX11_cascade_131 : decode cX11_cascade 131 = .ok (.bipush 40, 2) := by decide +kernel
theorem dX11_cascade_133 : decode cX11_cascade 133 = .ok (.iload_n 3, 1) := by decide +kernel
theorem dX11_cascade_134 : decode cX11_cascade 134 = .ok (.imul, 1) := by decide +kernel
theorem dX11_cascade_135 : decode cX11_cascade 135 = .ok (.iload 6, 2) := by decide +kernel
theorem dX11_cascade_137 : decode cX11_cascade 137 = .ok (.iadd, 1) := by decide +kernel
theorem dX11_cascade_138 : decode cX11_cascade 138 = .ok (.laload, 1) := by decide +kernel
theorem dX11_cascade_139 : decode cX11_cascade 139 = .ok (.lconst 1, 1) := by decide +kernel
theorem dX11_cascade_140 : decode cX11_cascade 140 = .ok (.ldc2_w 350, 3) := by decide +kernel
theorem dX11_cascade_143 : decode cX11_cascade 143 = .ok (.invokestatic 157, 3) := by decide +kernel
theorem dX11_cascade_146 : decode cX11_cascade 146 = .ok (.istore 5, 2) := by decide +kernel
theorem dX11_cascade_148 : decode cX11_cascade 148 = .ok (.iinc 6 1, 3) := by decide +kernel
theorem dX11_cascade_151 : decode cX11_cascade 151 = .ok (.goto (-40), 3) := by decide +kernel
theorem dX11_cascade_154 : decode cX11_cascade 154 = .ok (.aload_n 0, 1) := by decide +kernel
theorem dX11_cascade_155 : decode cX11_cascade 155 = .ok (.getfield 92, 3) := by decide +kernel
theorem dX11_cascade_158 : decode cX11_cascade 158 = .ok (.ifCond .ne 13, 3) := by decide +kernel
theorem dX11_cascade_161 : decode cX11_cascade 161 = .ok (.iload 5, 2) := by decide +kernel
theorem dX11_cascade_163 : decode cX11_cascade 163 = .ok (.ifCond .ne 8, 3) := by decide +kernel
theorem dX11_cascade_166 : decode cX11_cascade 166 = .ok (.aload_n 0, 1) := by decide +kernel
theorem dX11_cascade_167 : decode cX11_cascade 167 = .ok (.iconst 3, 1) := by decide +kernel
theorem dX11_cascade_168 : decode cX11_cascade 168 = .ok (.putfield 92, 3) := by decide +kernel
theorem dX11_cascade_171 : decode cX11_cascade 171 = .ok (.aload_n 0, 1) := by decide +kernel
theorem dX11_cascade_172 : decode cX11_cascade 172 = .ok (.getfield 92, 3) := by decide +kernel
theorem dX11_cascade_175 : decode cX11_cascade 175 = .ok (.ifCond .le 5, 3) := by decide +kernel
theorem dX11_cascade_178 : decode cX11_cascade 178 = .ok (.iconst 0, 1) := by decide +kernel
theorem dX11_cascade_179 : decode cX11_cascade 179 = .ok (.ireturn, 1) := by decide +kernel
theorem dX11_cascade_180 : decode cX11_cascade 180 = .ok (.aload_n 0, 1) := by decide +kernel
theorem dX11_cascade_181 : decode cX11_cascade 181 = .ok (.iload_n 1, 1) := by decide +kernel
theorem dX11_cascade_182 : decode cX11_cascade 182 = .ok (.iconst 2, 1) := by decide +kernel
theorem dX11_cascade_183 : decode cX11_cascade 183 = .ok (.invokevirtual 237, 3) := by decide +kernel
theorem dX11_cascade_186 : decode cX11_cascade 186 = .ok (.istore 6, 2) := by decide +kernel
theorem dX11_cascade_188 : decode cX11_cascade 188 = .ok (.aload_n 0, 1) := by decide +kernel
theorem dX11_cascade_189 : decode cX11_cascade 189 = .ok (.iload_n 1, 1) := by decide +kernel
theorem dX11_cascade_190 : decode cX11_cascade 190 = .ok (.invokevirtual 352, 3) := by decide +kernel
theorem dX11_cascade_193 : decode cX11_cascade 193 = .ok (.iconst 0, 1) := by decide +kernel
theorem dX11_cascade_194 : decode cX11_cascade 194 = .ok (.istore 7, 2) := by decide +kernel
theorem dX11_cascade_196 : decode cX11_cascade 196 = .ok (.iload 7, 2) := by decide +kernel
theorem dX11_cascade_198 : decode cX11_cascade 198 = .ok (.aload_n 0, 1) := by decide +kernel
theorem dX11_cascade_199 : decode cX11_cascade 199 = .ok (.getfield 9, 3) := by decide +kernel
theorem dX11_cascade_202 : decode cX11_cascade 202 = .ok (.iconst 1, 1) := by decide +kernel
theorem dX11_cascade_203 : decode cX11_cascade 203 = .ok (.iaload, 1) := by decide +kernel
theorem dX11_cascade_204 : decode cX11_cascade 204 = .ok (.if_icmp .ge 17, 3) := by decide +kernel
theorem dX11_cascade_207 : decode cX11_cascade 207 = .ok (.aload_n 0, 1) := by decide +kernel
theorem dX11_cascade_208 : decode cX11_cascade 208 = .ok (.getfield 64, 3) := by decide +kernel
theorem dX11_cascade_211 : decode cX11_cascade 211 = .ok (.iload 7, 2) := by decide +kernel
theorem dX11_cascade_213 : decode cX11_cascade 213 = .ok (.iconst 0, 1) := by decide +kernel
theorem dX11_cascade_214 : decode cX11_cascade 214 = .ok (.bastore, 1) := by decide +kernel
theorem dX11_cascade_215 : decode cX11_cascade 215 = .ok (.iinc 7 1, 3) := by decide +kernel
theorem dX11_cascade_218 : decode cX11_cascade 218 = .ok (.goto (-22), 3) := by decide +kernel
theorem dX11_cascade_221 : decode cX11_cascade 221 = .ok (.iconst 0, 1) := by decide +kernel
theorem dX11_cascade_222 : decode cX11_cascade 222 = .ok (.istore 7, 2) := by decide +kernel
theorem dX11_cascade_224 : decode cX11_cascade 224 = .ok (.iload 7, 2) := by decide +kernel
theorem dX11_cascade_226 : decode cX11_cascade 226 = .ok (.aload_n 0, 1) := by decide +kernel
theorem dX11_cascade_227 : decode cX11_cascade 227 = .ok (.getfield 82, 3) := by decide +kernel
theorem dX11_cascade_230 : decode cX11_cascade 230 = .ok (.iload_n 2, 1) := by decide +kernel
theorem dX11_cascade_231 : decode cX11_cascade 231 = .ok (.iaload, 1) := by decide +kernel
theorem dX11_cascade_232 : decode cX11_cascade 232 = .ok (.if_icmp .ge 41, 3) := by decide +kernel
theorem dX11_cascade_235 : decode cX11_cascade 235 = .ok (.aload_n 0, 1) := by decide +kernel
theorem dX11_cascade_236 : decode cX11_cascade 236 = .ok (.getfield 64, 3) := by decide +kernel
theorem dX11_cascade_239 : decode cX11_cascade 239 = .ok (.aload_n 0, 1) := by decide +kernel
theorem dX11_cascade_240 : decode cX11_cascade 240 = .ok (.iload_n 2, 1) := by decide +kernel
theorem dX11_cascade_241 : decode cX11_cascade 241 = .ok (.iload 7, 2) := by decide +kernel
theorem dX11_cascade_243 : decode cX11_cascade 243 = .ok (.invokevirtual 330, 3) := by decide +kernel
theorem dX11_cascade_246 : decode cX11_cascade 246 = .ok (.aload_n 0, 1) := by decide +kernel
theorem dX11_cascade_247 : decode cX11_cascade 247 = .ok (.iload_n 1, 1) := by decide +kernel
theorem dX11_cascade_248 : decode cX11_cascade 248 = .ok (.aload_n 0, 1) := by decide +kernel
theorem dX11_cascade_249 : decode cX11_cascade 249 = .ok (.iload_n 2, 1) := by decide +kernel
theorem dX11_cascade_250 : decode cX11_cascade 250 = .ok (.iload 7, 2) := by decide +kernel
theorem dX11_cascade_252 : decode cX11_cascade 252 = .ok (.invokevirtual 330, 3) := by decide +kernel
theorem dX11_cascade_255 : decode cX11_cascade 255 = .ok (.invokevirtual 300, 3) := by decide +kernel
theorem dX11_cascade_258 : decode cX11_cascade 258 = .ok (.ifCond .ne 7, 3) := by decide +kernel
theorem dX11_cascade_261 : decode cX11_cascade 261 = .ok (.iconst 1, 1) := by decide +kernel
theorem dX11_cascade_262 : decode cX11_cascade 262 = .ok (.goto 4, 3) := by decide +kernel
theorem dX11_cascade_265 : decode cX11_cascade 265 = .ok (.iconst 0, 1) := by decide +kernel
theorem dX11_cascade_266 : decode cX11_cascade 266 = .ok (.bastore, 1) := by decide +kernel
theorem dX11_cascade_267 : decode cX11_cascade 267 = .ok (.iinc 7 1, 3) := by decide +kernel
theorem dX11_cascade_270 : decode cX11_cascade 270 = .ok (.goto (-46), 3) := by decide +kernel
theorem dX11_cascade_273 : decode cX11_cascade 273 = .ok (.iconst 0, 1) := by decide +kernel
theorem dX11_cascade_274 : decode cX11_cascade 274 = .ok (.istore 7, 2) := by decide +kernel
theorem dX11_cascade_276 : decode cX11_cascade 276 = .ok (.iconst 0, 1) := by decide +kernel
theorem dX11_cascade_277 : decode cX11_cascade 277 = .ok (.istore 8, 2) := by decide +kernel
theorem dX11_cascade_279 : decode cX11_cascade 279 = .ok (.iconst 0, 1) := by decide +kernel
theorem dX11_cascade_280 : decode cX11_cascade 280 = .ok (.istore 9, 2) := by decide +kernel
theorem dX11_cascade_282 : decode cX11_cascade 282 = .ok (.iload 9, 2) := by decide +kernel
theorem dX11_cascade_284 : decode cX11_cascade 284 = .ok (.aload_n 0, 1) := by decide +kernel
theorem dX11_cascade_285 : decode cX11_cascade 285 = .ok (.getfield 82, 3) := by decide +kernel
theorem dX11_cascade_288 : decode cX11_cascade 288 = .ok (.iload_n 3, 1) := by decide +kernel
theorem dX11_cascade_289 : decode cX11_cascade 289 = .ok (.iaload, 1) := by decide +kernel
theorem dX11_cascade_290 : decode cX11_cascade 290 = .ok (.if_icmp .ge 210, 3) := by decide +kernel
theorem dX11_cascade_293 : decode cX11_cascade 293 = .ok (.aload_n 0, 1) := by decide +kernel
theorem dX11_cascade_294 : decode cX11_cascade 294 = .ok (.iload_n 3, 1) := by decide +kernel
theorem dX11_cascade_295 : decode cX11_cascade 295 = .ok (.iload 9, 2) := by decide +kernel
theorem dX11_cascade_297 : decode cX11_cascade 297 = .ok (.invokevirtual 330, 3) := by decide +kernel
theorem dX11_cascade_300 : decode cX11_cascade 300 = .ok (.istore 10, 2) := by decide +kernel
theorem dX11_cascade_302 : decode cX11_cascade 302 = .ok (.aload_n 0, 1) := by decide +kernel
theorem dX11_cascade_303 : decode cX11_cascade 303 = .ok (.iload 10, 2) := by decide +kernel
theorem dX11_cascade_305 : decode cX11_cascade 305 = .ok (.iload 6, 2) := by decide +kernel
theorem dX11_cascade_307 : decode cX11_cascade 307 = .ok (.invokevirtual 355, 3) := by decide +kernel
theorem dX11_cascade_310 : decode cX11_cascade 310 = .ok (.iload 8, 2) := by decide +kernel
theorem dX11_cascade_312 : decode cX11_cascade 312 = .ok (.iload 10, 2) := by decide +kernel
theorem dX11_cascade_314 : decode cX11_cascade 314 = .ok (.iadd, 1) := by decide +kernel
theorem dX11_cascade_315 : decode cX11_cascade 315 = .ok (.istore 8, 2) := by decide +kernel
theorem dX11_cascade_317 : decode cX11_cascade 317 = .ok (.iconst 0, 1) := by decide +kernel
theorem dX11_cascade_318 : decode cX11_cascade 318 = .ok (.istore 11, 2) := by decide +kernel
theorem dX11_cascade_320 : decode cX11_cascade 320 = .ok (.iconst 0, 1) := by decide +kernel
theorem dX11_cascade_321 : decode cX11_cascade 321 = .ok (.istore 12, 2) := by decide +kernel
theorem dX11_cascade_323 : decode cX11_cascade 323 = .ok (.iload 12, 2) := by decide +kernel
theorem dX11_cascade_325 : decode cX11_cascade 325 = .ok (.aload_n 0, 1) := by decide +kernel
theorem dX11_cascade_326 : decode cX11_cascade 326 = .ok (.getfield 9, 3) := by decide +kernel
theorem dX11_cascade_329 : decode cX11_cascade 329 = .ok (.iconst 1, 1) := by decide +kernel
theorem dX11_cascade_330 : decode cX11_cascade 330 = .ok (.iaload, 1) := by decide +kernel
theorem dX11_cascade_331 : decode cX11_cascade 331 = .ok (.if_icmp .ge 84, 3) := by decide +kernel
theorem dX11_cascade_334 : decode cX11_cascade 334 = .ok (.iload 7, 2) := by decide +kernel
theorem dX11_cascade_336 : decode cX11_cascade 336 = .ok (.aload_n 0, 1) := by decide +kernel
theorem dX11_cascade_337 : decode cX11_cascade 337 = .ok (.getfield 61, 3) := by decide +kernel
theorem dX11_cascade_340 : decode cX11_cascade 340 = .ok (.iload 12, 2) := by decide +kernel
theorem dX11_cascade_342 : decode cX11_cascade 342 = .ok (.baload, 1) := by decide +kernel
theorem dX11_cascade_343 : decode cX11_cascade 343 = .ok (.ifCond .eq 7, 3) := by decide +kernel
theorem dX11_cascade_346 : decode cX11_cascade 346 = .ok (.iconst 1, 1) := by decide +kernel
theorem dX11_cascade_347 : decode cX11_cascade 347 = .ok (.goto 4, 3) := by decide +kernel
theorem dX11_cascade_350 : decode cX11_cascade 350 = .ok (.iconst 0, 1) := by decide +kernel
theorem dX11_cascade_351 : decode cX11_cascade 351 = .ok (.iadd, 1) := by decide +kernel
theorem dX11_cascade_352 : decode cX11_cascade 352 = .ok (.istore 7, 2) := by decide +kernel
theorem dX11_cascade_354 : decode cX11_cascade 354 = .ok (.aload_n 0, 1) := by decide +kernel
theorem dX11_cascade_355 : decode cX11_cascade 355 = .ok (.getfield 67, 3) := by decide +kernel
theorem dX11_cascade_358 : decode cX11_cascade 358 = .ok (.iload 12, 2) := by decide +kernel
theorem dX11_cascade_360 : decode cX11_cascade 360 = .ok (.aload_n 0, 1) := by decide +kernel
theorem dX11_cascade_361 : decode cX11_cascade 361 = .ok (.getfield 64, 3) := by decide +kernel
theorem dX11_cascade_364 : decode cX11_cascade 364 = .ok (.iload 12, 2) := by decide +kernel
theorem dX11_cascade_366 : decode cX11_cascade 366 = .ok (.baload, 1) := by decide +kernel
theorem dX11_cascade_367 : decode cX11_cascade 367 = .ok (.ifCond .eq 20, 3) := by decide +kernel
theorem dX11_cascade_370 : decode cX11_cascade 370 = .ok (.aload_n 0, 1) := by decide +kernel
theorem dX11_cascade_371 : decode cX11_cascade 371 = .ok (.iload 10, 2) := by decide +kernel
theorem dX11_cascade_373 : decode cX11_cascade 373 = .ok (.iload 6, 2) := by decide +kernel
theorem dX11_cascade_375 : decode cX11_cascade 375 = .ok (.iload 12, 2) := by decide +kernel
theorem dX11_cascade_377 : decode cX11_cascade 377 = .ok (.invokevirtual 358, 3) := by decide +kernel
theorem dX11_cascade_380 : decode cX11_cascade 380 = .ok (.ifCond .eq 7, 3) := by decide +kernel
theorem dX11_cascade_383 : decode cX11_cascade 383 = .ok (.iconst 1, 1) := by decide +kernel
theorem dX11_cascade_384 : decode cX11_cascade 384 = .ok (.goto 4, 3) := by decide +kernel
theorem dX11_cascade_387 : decode cX11_cascade 387 = .ok (.iconst 0, 1) := by decide +kernel
theorem dX11_cascade_388 : decode cX11_cascade 388 = .ok (.bastore, 1) := by decide +kernel
theorem dX11_cascade_389 : decode cX11_cascade 389 = .ok (.iload 11, 2) := by decide +kernel
theorem dX11_cascade_391 : decode cX11_cascade 391 = .ok (.aload_n 0, 1) := by decide +kernel
theorem dX11_cascade_392 : decode cX11_cascade 392 = .ok (.getfield 67, 3) := by decide +kernel
theorem dX11_cascade_395 : decode cX11_cascade 395 = .ok (.iload 12, 2) := by decide +kernel
theorem dX11_cascade_397 : decode cX11_cascade 397 = .ok (.baload, 1) := by decide +kernel
theorem dX11_cascade_398 : decode cX11_cascade 398 = .ok (.ifCond .eq 7, 3) := by decide +kernel
theorem dX11_cascade_401 : decode cX11_cascade 401 = .ok (.iconst 1, 1) := by decide +kernel
theorem dX11_cascade_402 : decode cX11_cascade 402 = .ok (.goto 4, 3) := by decide +kernel
theorem dX11_cascade_405 : decode cX11_cascade 405 = .ok (.iconst 0, 1) := by decide +kernel
theorem dX11_cascade_406 : decode cX11_cascade 406 = .ok (.iadd, 1) := by decide +kernel
theorem dX11_cascade_407 : decode cX11_cascade 407 = .ok (.istore 11, 2) := by decide +kernel
theorem dX11_cascade_409 : decode cX11_cascade 409 = .ok (.iinc 12 1, 3) := by decide +kernel
theorem dX11_cascade_412 : decode cX11_cascade 412 = .ok (.goto (-89), 3) := by decide +kernel
theorem dX11_cascade_415 : decode cX11_cascade 415 = .ok (.iload 11, 2) := by decide +kernel
theorem dX11_cascade_417 : decode cX11_cascade 417 = .ok (.ifCond .ne 29, 3) := by decide +kernel
theorem dX11_cascade_420 : decode cX11_cascade 420 = .ok (.iload 4, 2) := by decide +kernel
theorem dX11_cascade_422 : decode cX11_cascade 422 = .ok (.ifCond .ne 10, 3) := by decide +kernel
theorem dX11_cascade_425 : decode cX11_cascade 425 = .ok (.iload 9, 2) := by decide +kernel
theorem dX11_cascade_427 : decode cX11_cascade 427 = .ok (.iconst 1, 1) := by decide +kernel
theorem dX11_cascade_428 : decode cX11_cascade 428 = .ok (.iadd, 1) := by decide +kernel
theorem dX11_cascade_429 : decode cX11_cascade 429 = .ok (.goto 16, 3) := by decide +kernel
theorem dX11_cascade_432 : decode cX11_cascade 432 = .ok (.iload 4, 2) := by decide +kernel
theorem dX11_cascade_434 : decode cX11_cascade 434 = .ok (.iconst 1, 1) := by decide +kernel
theorem dX11_cascade_435 : decode cX11_cascade 435 = .ok (.if_icmp .ne 8, 3) := by decide +kernel
theorem dX11_cascade_438 : decode cX11_cascade 438 = .ok (.iload 7, 2) := by decide +kernel
theorem dX11_cascade_440 : decode cX11_cascade 440 = .ok (.goto 5, 3) := by decide +kernel
theorem dX11_cascade_443 : decode cX11_cascade 443 = .ok (.iload 8, 2) := by decide +kernel
theorem dX11_cascade_445 : decode cX11_cascade 445 = .ok (.ireturn, 1) := by decide +kernel
theorem dX11_cascade_446 : decode cX11_cascade 446 = .ok (.iconst 0, 1) := by decide +kernel
theorem dX11_cascade_447 : decode cX11_cascade 447 = .ok (.istore 12, 2) := by decide +kernel
theorem dX11_cascade_449 : decode cX11_cascade 449 = .ok (.iload 12, 2) := by decide +kernel
theorem dX11_cascade_451 : decode cX11_cascade 451 = .ok (.aload_n 0, 1) := by decide +kernel
theorem dX11_cascade_452 : decode cX11_cascade 452 = .ok (.getfield 9, 3) := by decide +kernel
theorem dX11_cascade_455 : decode cX11_cascade 455 = .ok (.iconst 1, 1) := by decide +kernel
theorem dX11_cascade_456 : decode cX11_cascade 456 = .ok (.iaload, 1) := by decide +kernel
theorem dX11_cascade_457 : decode cX11_cascade 457 = .ok (.if_icmp .ge 37, 3) := by decide +kernel
theorem dX11_cascade_460 : decode cX11_cascade 460 = .ok (.aload_n 0, 1) := by decide +kernel
theorem dX11_cascade_461 : decode cX11_cascade 461 = .ok (.getfield 64, 3) := by decide +kernel
theorem dX11_cascade_464 : decode cX11_cascade 464 = .ok (.iload 12, 2) := by decide +kernel
theorem dX11_cascade_466 : decode cX11_cascade 466 = .ok (.aload_n 0, 1) := by decide +kernel
theorem dX11_cascade_467 : decode cX11_cascade 467 = .ok (.getfield 61, 3) := by decide +kernel
theorem dX11_cascade_470 : decode cX11_cascade 470 = .ok (.iload 12, 2) := by decide +kernel
theorem dX11_cascade_472 : decode cX11_cascade 472 = .ok (.baload, 1) := by decide +kernel
theorem dX11_cascade_473 : decode cX11_cascade 473 = .ok (.bastore, 1) := by decide +kernel
theorem dX11_cascade_474 : decode cX11_cascade 474 = .ok (.aload_n 0, 1) := by decide +kernel
theorem dX11_cascade_475 : decode cX11_cascade 475 = .ok (.getfield 61, 3) := by decide +kernel
theorem dX11_cascade_478 : decode cX11_cascade 478 = .ok (.iload 12, 2) := by decide +kernel
theorem dX11_cascade_480 : decode cX11_cascade 480 = .ok (.aload_n 0, 1) := by decide +kernel
theorem dX11_cascade_481 : decode cX11_cascade 481 = .ok (.getfield 67, 3) := by decide +kernel
theorem dX11_cascade_484 : decode cX11_cascade 484 = .ok (.iload 12, 2) := by decide +kernel
theorem dX11_cascade_486 : decode cX11_cascade 486 = .ok (.baload, 1) := by decide +kernel
theorem dX11_cascade_487 : decode cX11_cascade 487 = .ok (.bastore, 1) := by decide +kernel
theorem dX11_cascade_488 : decode cX11_cascade 488 = .ok (.iinc 12 1, 3) := by decide +kernel
theorem dX11_cascade_491 : decode cX11_cascade 491 = .ok (.goto (-42), 3) := by decide +kernel
theorem dX11_cascade_494 : decode cX11_cascade 494 = .ok (.iinc 9 1, 3) := by decide +kernel
theorem dX11_cascade_497 : decode cX11_cascade 497 = .ok (.goto (-215), 3) := by decide +kernel
theorem dX11_cascade_500 : decode cX11_cascade 500 = .ok (.iconst (-1), 1) := by decide +kernel
theorem dX11_cascade_501 : decode cX11_cascade 501 = .ok (.ireturn, 1) := by decide +kernel
theorem dX11_askFault_0 : decode cX11_askFault 0 = .ok (.aload_n 0, 1) := by decide +kernel
theorem dX11_askFault_1 : decode cX11_askFault 1 = .ok (.iload_n 1, 1) := by decide +kernel
theorem dX11_askFault_2 : decode cX11_askFault 2 = .ok (.iload_n 2, 1) := by decide +kernel
theorem dX11_askFault_3 : decode cX11_askFault 3 = .ok (.invokevirtual 323, 3) := by decide +kernel
theorem dX11_askFault_6 : decode cX11_askFault 6 = .ok (.istore_n 3, 1) := by decide +kernel
theorem dX11_askFault_7 : decode cX11_askFault 7 = .ok (.iload_n 3, 1) := by decide +kernel
theorem dX11_askFault_8 : decode cX11_askFault 8 = .ok (.ifCond .ne 24, 3) := by decide +kernel
theorem dX11_askFault_11 : decode cX11_askFault 11 = .ok (.aload_n 0, 1) := by decide +kernel
theorem dX11_askFault_12 : decode cX11_askFault 12 = .ok (.iload_n 1, 1) := by decide +kernel
theorem dX11_askFault_13 : decode cX11_askFault 13 = .ok (.iconst 0, 1) := by decide +kernel
theorem dX11_askFault_14 : decode cX11_askFault 14 = .ok (.invokevirtual 237, 3) := by decide +kernel
theorem dX11_askFault_17 : decode cX11_askFault 17 = .ok (.ifCond .ne 13, 3) := by decide +kernel
theorem dX11_askFault_20 : decode cX11_askFault 20 = .ok (.aload_n 0, 1) := by decide +kernel
theorem dX11_askFault_21 : decode cX11_askFault 21 = .ok (.getfield 79, 3) := by decide +kernel
theorem dX11_askFault_24 : decode cX11_askFault 24 = .ok (.iload_n 2, 1) := by decide +kernel
theorem dX11_askFault_25 : decode cX11_askFault 25 = .ok (.iaload, 1) := by decide +kernel
theorem dX11_askFault_26 : decode cX11_askFault 26 = .ok (.iconst (-1), 1) := by decide +kernel
theorem dX11_askFault_27 : decode cX11_askFault 27 = .ok (.if_icmp .ne 5, 3) := by decide +kernel
theorem dX11_askFault_30 : decode cX11_askFault 30 = .ok (.iconst 2, 1) := by decide +kernel
theorem dX11_askFault_31 : decode cX11_askFault 31 = .ok (.istore_n 3, 1) := by decide +kernel
theorem dX11_askFault_32 : decode cX11_askFault 32 = .ok (.iload_n 3, 1) := by decide +kernel
theorem dX11_askFault_33 : decode cX11_askFault 33 = .ok (.ireturn, 1) := by decide +kernel
theorem dX11_learns_0 : decode cX11_learns 0 = .ok (.iconst 0, 1) := by decide +kernel
theorem dX11_learns_1 : decode cX11_learns 1 = .ok (.istore_n 3, 1) := by decide +kernel
theorem dX11_learns_2 : decode cX11_learns 2 = .ok (.iload_n 3, 1) := by decide +kernel
theorem dX11_learns_3 : decode cX11_learns 3 = .ok (.bipush 64, 2) := by decide +kernel
theorem dX11_learns_5 : decode cX11_learns 5 = .ok (.if_icmp .ge 16, 3) := by decide +kernel
theorem dX11_learns_8 : decode cX11_learns 8 = .ok (.aload_n 0, 1) := by decide +kernel
theorem dX11_learns_9 : decode cX11_learns 9 = .ok (.getfield 70, 3) := by decide +kernel
theorem dX11_learns_12 : decode cX11_learns 12 = .ok (.iload_n 3, 1) := by decide +kernel
theorem dX11_learns_13 : decode cX11_learns 13 = .ok (.iconst 0, 1) := by decide +kernel
theorem dX11_learns_14 : decode cX11_learns 14 = .ok (.bastore, 1) := by decide +kernel
theorem dX11_learns_15 : decode cX11_learns 15 = .ok (.iinc 3 1, 3) := by decide +kernel
theorem dX11_learns_18 : decode cX11_learns 18 = .ok (.goto (-16), 3) := by decide +kernel
theorem dX11_learns_21 : decode cX11_learns 21 = .ok (.iconst 0, 1) := by decide +kernel
theorem dX11_learns_22 : decode cX11_learns 22 = .ok (.istore_n 3, 1) := by decide +kernel
theorem dX11_learns_23 : decode cX11_learns 23 = .ok (.iload_n 3, 1) := by decide +kernel
theorem dX11_learns_24 : decode cX11_learns 24 = .ok (.aload_n 0, 1) := by decide +kernel
theorem dX11_learns_25 : decode cX11_learns 25 = .ok (.getfield 9, 3) := by decide +kernel
theorem dX11_learns_28 : decode cX11_learns 28 = .ok (.iconst 1, 1) := by decide +kernel
theorem dX11_learns_29 : decode cX11_learns 29 = .ok (.iaload, 1) := by decide +kernel
theorem dX11_learns_30 : decode cX11_learns 30 = .ok (.if_icmp .ge 16, 3) := by decide +kernel
theorem dX11_learns_33 : decode cX11_learns 33 = .ok (.aload_n 0, 1) := by decide +kernel
theorem dX11_learns_34 : decode cX11_learns 34 = .ok (.getfield 73, 3) := by decide +kernel
theorem dX11_learns_37 : decode cX11_learns 37 = .ok (.iload_n 3, 1) := by decide +kernel
theorem dX11_learns_38 : decode cX11_learns 38 = .ok (.iconst 0, 1) := by decide +kernel
theorem dX11_learns_39 : decode cX11_learns 39 = .ok (.bastore, 1) := by decide +kernel
theorem dX11_learns_40 : decode cX11_learns 40 = .ok (.iinc 3 1, 3) := by decide +kernel
theorem dX11_learns_43 : decode cX11_learns 43 = .ok (.goto (-20), 3) := by decide +kernel
theorem dX11_learns_46 : decode cX11_learns 46 = .ok (.iconst 0, 1) := by decide +kernel
theorem dX11_learns_47 : decode cX11_learns 47 = .ok (.istore_n 3, 1) := by decide +kernel
theorem dX11_learns_48 : decode cX11_learns 48 = .ok (.iload_n 3, 1) := by decide +kernel
theorem dX11_learns_49 : decode cX11_learns 49 = .ok (.aload_n 0, 1) := by decide +kernel
theorem dX11_learns_50 : decode cX11_learns 50 = .ok (.getfield 82, 3) := by decide +kernel
theorem dX11_learns_53 : decode cX11_learns 53 = .ok (.iload_n 2, 1) := by decide +kernel
theorem dX11_learns_54 : decode cX11_learns 54 = .ok (.iaload, 1) := by decide +kernel
theorem dX11_learns_55 : decode cX11_learns 55 = .ok (.if_icmp .ge 70, 3) := by decide +kernel
theorem dX11_learns_58 : decode cX11_learns 58 = .ok (.aload_n 0, 1) := by decide +kernel
theorem dX11_learns_59 : decode cX11_learns 59 = .ok (.iload_n 2, 1) := by decide +kernel
theorem dX11_learns_60 : decode cX11_learns 60 = .ok (.iload_n 3, 1) := by decide +kernel
theorem dX11_learns_61 : decode cX11_learns 61 = .ok (.invokevirtual 330, 3) := by decide +kernel
theorem dX11_learns_64 : decode cX11_learns 64 = .ok (.istore 4, 2) := by decide +kernel
theorem dX11_learns_66 : decode cX11_learns 66 = .ok (.aload_n 0, 1) := by decide +kernel
theorem dX11_learns_67 : decode cX11_learns 67 = .ok (.getfield 73, 3) := by decide +kernel
theorem dX11_learns_70 : decode cX11_learns 70 = .ok (.iload 4, 2) := by decide +kernel
theorem dX11_learns_72 : decode cX11_learns 72 = .ok (.iconst 1, 1) := by decide +kernel
theorem dX11_learns_73 : decode cX11_learns 73 = .ok (.bastore, 1) := by decide +kernel
theorem dX11_learns_74 : decode cX11_learns 74 = .ok (.iconst 0, 1) := by decide +kernel
theorem dX11_learns_75 : decode cX11_learns 75 = .ok (.istore 5, 2) := by decide +kernel
theorem dX11_learns_77 : decode cX11_learns 77 = .ok (.iload 5, 2) := by decide +kernel
theorem dX11_learns_79 : decode cX11_learns 79 = .ok (.aload_n 0, 1) := by decide +kernel
theorem dX11_learns_80 : decode cX11_learns 80 = .ok (.iload_n 1, 1) := by decide +kernel
theorem dX11_learns_81 : decode cX11_learns 81 = .ok (.iconst 2, 1) := by decide +kernel
theorem dX11_learns_82 : decode cX11_learns 82 = .ok (.invokevirtual 237, 3) := by decide +kernel
theorem dX11_learns_85 : decode cX11_learns 85 = .ok (.if_icmp .ge 34, 3) := by decide +kernel
theorem dX11_learns_88 : decode cX11_learns 88 = .ok (.aload_n 0, 1) := by decide +kernel
theorem dX11_learns_89 : decode cX11_learns 89 = .ok (.iload_n 1, 1) := by decide +kernel
theorem dX11_learns_90 : decode cX11_learns 90 = .ok (.iload 4, 2) := by decide +kernel
theorem dX11_learns_92 : decode cX11_learns 92 = .ok (.invokevirtual 296, 3) := by decide +kernel
theorem dX11_learns_95 : decode cX11_learns 95 = .ok (.ifCond .eq 24, 3) := by decide +kernel
theorem dX11_learns_98 : decode cX11_learns 98 = .ok (.aload_n 0, 1) := by decide +kernel
theorem dX11_learns_99 : decode cX11_learns 99 = .ok (.getfield 70, 3) := by decide +kernel
theorem dX11_learns_102 : decode cX11_learns 102 = .ok (.aload_n 0, 1) := by decide +kernel
theorem dX11_learns_103 : decode cX11_learns 103 = .ok (.iload_n 1, 1) := by decide +kernel
theorem dX11_learns_104 : decode cX11_learns 104 = .ok (.iload 5, 2) := by decide +kernel
theorem dX11_learns_106 : decode cX11_learns 106 = .ok (.iload 4, 2) := by decide +kernel
theorem dX11_learns_108 : decode cX11_learns 108 = .ok (.invokevirtual 273, 3) := by decide +kernel
theorem dX11_learns_111 : decode cX11_learns 111 = .ok (.iconst 1, 1) := by decide +kernel
theorem dX11_learns_112 : decode cX11_learns 112 = .ok (.bastore, 1) := by decide +kernel
theorem dX11_learns_113 : decode cX11_learns 113 = .ok (.iinc 5 1, 3) := by decide +kernel
theorem dX11_learns_116 : decode cX11_learns 116 = .ok (.goto (-39), 3) := by decide +kernel
theorem dX11_learns_119 : decode cX11_learns 119 = .ok (.iinc 3 1, 3) := by decide +kernel
theorem dX11_learns_122 : decode cX11_learns 122 = .ok (.goto (-74), 3) := by decide +kernel
theorem dX11_learns_125 : decode cX11_learns 125 = .ok (.return_, 1) := by decide +kernel
theorem dX11_unknown_0 : decode cX11_unknown 0 = .ok (.iconst 0, 1) := by decide +kernel
theorem dX11_unknown_1 : decode cX11_unknown 1 = .ok (.istore_n 3, 1) := by decide +kernel
theorem dX11_unknown_2 : decode cX11_unknown 2 = .ok (.iconst 0, 1) := by decide +kernel
theorem dX11_unknown_3 : decode cX11_unknown 3 = .ok (.istore 4, 2) := by decide +kernel
theorem dX11_unknown_5 : decode cX11_unknown 5 = .ok (.iload 4, 2) := by decide +kernel
theorem dX11_unknown_7 : decode cX11_unknown 7 = .ok (.aload_n 0, 1) := by decide +kernel
theorem dX11_unknown_8 : decode cX11_unknown 8 = .ok (.iload_n 1, 1) := by decide +kernel
theorem dX11_unknown_9 : decode cX11_unknown 9 = .ok (.iconst 2, 1) := by decide +kernel
theorem dX11_unknown_10 : decode cX11_unknown 10 = .ok (.invokevirtual 237, 3) := by decide +kernel
theorem dX11_unknown_13 : decode cX11_unknown 13 = .ok (.if_icmp .ge 90, 3) := by decide +kernel
theorem dX11_unknown_16 : decode cX11_unknown 16 = .ok (.aload_n 0, 1) := by decide +kernel
theorem dX11_unknown_17 : decode cX11_unknown 17 = .ok (.iload_n 1, 1) := by decide +kernel
theorem dX11_unknown_18 : decode cX11_unknown 18 = .ok (.iload 4, 2) := by decide +kernel
theorem dX11_unknown_20 : decode cX11_unknown 20 = .ok (.iload_n 2, 1) := by decide +kernel
theorem dX11_unknown_21 : decode cX11_unknown 21 = .ok (.invokevirtual 273, 3) := by decide +kernel
theorem dX11_unknown_24 : decode cX11_unknown 24 = .ok (.istore 5, 2) := by decide +kernel
theorem dX11_unknown_26 : decode cX11_unknown 26 = .ok (.aload_n 0, 1) := by decide +kernel
theorem dX11_unknown_27 : decode cX11_unknown 27 = .ok (.getfield 70, 3) := by decide +kernel
theorem dX11_unknown_30 : decode cX11_unknown 30 = .ok (.iload 5, 2) := by decide +kernel
theorem dX11_unknown_32 : decode cX11_unknown 32 = .ok (.baload, 1) := by decide +kernel
theorem dX11_unknown_33 : decode cX11_unknown 33 = .ok (.ifCond .ne 7, 3) := by decide +kernel
theorem dX11_unknown_36 : decode cX11_unknown 36 = .ok (.iconst 1, 1) := by decide +kernel
theorem dX11_unknown_37 : decode cX11_unknown 37 = .ok (.goto 4, 3) := by decide +kernel
theorem dX11_unknown_40 : decode cX11_unknown 40 = .ok (.iconst 0, 1) := by decide +kernel
theorem dX11_unknown_41 : decode cX11_unknown 41 = .ok (.istore 6, 2) := by decide +kernel
theorem dX11_unknown_43 : decode cX11_unknown 43 = .ok (.iconst 0, 1) := by decide +kernel
theorem dX11_unknown_44 : decode cX11_unknown 44 = .ok (.istore 7, 2) := by decide +kernel
theorem dX11_unknown_46 : decode cX11_unknown 46 = .ok (.iload 7, 2) := by decide +kernel
theorem dX11_unknown_48 : decode cX11_unknown 48 = .ok (.iload 4, 2) := by decide +kernel
theorem dX11_unknown_50 : decode cX11_unknown 50 = .ok (.if_icmp .ge 34, 3) := by decide +kernel
theorem dX11_unknown_53 : decode cX11_unknown 53 = .ok (.iload 6, 2) := by decide +kernel
theorem dX11_unknown_55 : decode cX11_unknown 55 = .ok (.ifCond .eq 20, 3) := by decide +kernel
theorem dX11_unknown_58 : decode cX11_unknown 58 = .ok (.aload_n 0, 1) := by decide +kernel
theorem dX11_unknown_59 : decode cX11_unknown 59 = .ok (.iload_n 1, 1) := by decide +kernel
theorem dX11_unknown_60 : decode cX11_unknown 60 = .ok (.iload 7, 2) := by decide +kernel
theorem dX11_unknown_62 : decode cX11_unknown 62 = .ok (.iload_n 2, 1) := by decide +kernel
theorem dX11_unknown_63 : decode cX11_unknown 63 = .ok (.invokevirtual 273, 3) := by decide +kernel
theorem dX11_unknown_66 : decode cX11_unknown 66 = .ok (.iload 5, 2) := by decide +kernel
theorem dX11_unknown_68 : decode cX11_unknown 68 = .ok (.if_icmp .eq 7, 3) := by decide +kernel
theorem dX11_unknown_71 : decode cX11_unknown 71 = .ok (.iconst 1, 1) := by decide +kernel
theorem dX11_unknown_72 : decode cX11_unknown 72 = .ok (.goto 4, 3) := by decide +kernel
theorem dX11_unknown_75 : decode cX11_unknown 75 = .ok (.iconst 0, 1) := by decide +kernel
theorem dX11_unknown_76 : decode cX11_unknown 76 = .ok (.istore 6, 2) := by decide +kernel
theorem dX11_unknown_78 : decode cX11_unknown 78 = .ok (.iinc 7 1, 3) := by decide +kernel
theorem dX11_unknown_81 : decode cX11_unknown 81 = .ok (.goto (-35), 3) := by decide +kernel
theorem dX11_unknown_84 : decode cX11_unknown 84 = .ok (.iload_n 3, 1) := by decide +kernel
theorem dX11_unknown_85 : decode cX11_unknown 85 = .ok (.iload 6, 2) := by decide +kernel
theorem dX11_unknown_87 : decode cX11_unknown 87 = .ok (.ifCond .eq 7, 3) := by decide +kernel
theorem dX11_unknown_90 : decode cX11_unknown 90 = .ok (.iconst 1, 1) := by decide +kernel
theorem dX11_unknown_91 : decode cX11_unknown 91 = .ok (.goto 4, 3) := by decide +kernel
theorem dX11_unknown_94 : decode cX11_unknown 94 = .ok (.iconst 0, 1) := by decide +kernel
theorem dX11_unknown_95 : decode cX11_unknown 95 = .ok (.iadd, 1) := by decide +kernel
theorem dX11_unknown_96 : decode cX11_unknown 96 = .ok (.istore_n 3, 1) := by decide +kernel
theorem dX11_unknown_97 : decode cX11_unknown 97 = .ok (.iinc 4 1, 3) := by decide +kernel
theorem dX11_unknown_100 : decode cX11_unknown 100 = .ok (.goto (-95), 3) := by decide +kernel
theorem dX11_unknown_103 : decode cX11_unknown 103 = .ok (.iload_n 3, 1) := by decide +kernel
theorem dX11_unknown_104 : decode cX11_unknown 104 = .ok (.ireturn, 1) := by decide +kernel
theorem dX11_learn_0 : decode cX11_learn 0 = .ok (.aload_n 0, 1) := by decide +kernel
theorem dX11_learn_1 : decode cX11_learn 1 = .ok (.aload_n 0, 1) := by decide +kernel
theorem dX11_learn_2 : decode cX11_learn 2 = .ok (.iload_n 1, 1) := by decide +kernel
theorem dX11_learn_3 : decode cX11_learn 3 = .ok (.iload_n 2, 1) := by decide +kernel
theorem dX11_learn_4 : decode cX11_learn 4 = .ok (.invokevirtual 361, 3) := by decide +kernel
theorem dX11_learn_7 : decode cX11_learn 7 = .ok (.putfield 92, 3) := by decide +kernel
theorem dX11_learn_10 : decode cX11_learn 10 = .ok (.aload_n 0, 1) := by decide +kernel
theorem dX11_learn_11 : decode cX11_learn 11 = .ok (.getfield 92, 3) := by decide +kernel
theorem dX11_learn_14 : decode cX11_learn 14 = .ok (.ifCond .ne 29, 3) := by decide +kernel
theorem dX11_learn_17 : decode cX11_learn 17 = .ok (.iload_n 3, 1) := by decide +kernel
theorem dX11_learn_18 : decode cX11_learn 18 = .ok (.i2l, 1) := by decide +kernel
theorem dX11_learn_19 : decode cX11_learn 19 = .ok (.lconst 0, 1) := by decide +kernel
theorem dX11_learn_20 : decode cX11_learn 20 = .ok (.ldc2_w 348, 3) := by decide +kernel
theorem dX11_learn_23 : decode cX11_learn 23 = .ok (.invokestatic 157, 3) := by decide +kernel
theorem dX11_learn_26 : decode cX11_learn 26 = .ok (.ifCond .eq 12, 3) := by decide +kernel
theorem dX11_learn_29 : decode cX11_learn 29 = .ok (.aload_n 0, 1) := by decide +kernel
theorem dX11_learn_30 : decode cX11_learn 30 = .ok (.iload_n 2, 1) := by decide +kernel
theorem dX11_learn_31 : decode cX11_learn 31 = .ok (.iconst 0, 1) := by decide +kernel
theorem dX11_learn_32 : decode cX11_learn 32 = .ok (.invokevirtual 326, 3) := by decide +kernel
theorem dX11_learn_35 : decode cX11_learn 35 = .ok (.ifCond .ne 8, 3) := by decide +kernel
theorem dX11_learn_38 : decode cX11_learn 38 = .ok (.aload_n 0, 1) := by decide +kernel
theorem dX11_learn_39 : decode cX11_learn 39 = .ok (.iconst 3, 1) := by decide +kernel
theorem dX11_learn_40 : decode cX11_learn 40 = .ok (.putfield 92, 3) := by decide +kernel
theorem dX11_learn_43 : decode cX11_learn 43 = .ok (.aload_n 0, 1) := by decide +kernel
theorem dX11_learn_44 : decode cX11_learn 44 = .ok (.getfield 92, 3) := by decide +kernel
theorem dX11_learn_47 : decode cX11_learn 47 = .ok (.ifCond .le 5, 3) := by decide +kernel
theorem dX11_learn_50 : decode cX11_learn 50 = .ok (.iconst 0, 1) := by decide +kernel
theorem dX11_learn_51 : decode cX11_learn 51 = .ok (.ireturn, 1) := by decide +kernel
theorem dX11_learn_52 : decode cX11_learn 52 = .ok (.aload_n 0, 1) := by decide +kernel
theorem dX11_learn_53 : decode cX11_learn 53 = .ok (.iload_n 1, 1) := by decide +kernel
theorem dX11_learn_54 : decode cX11_learn 54 = .ok (.iload_n 2, 1) := by decide +kernel
theorem dX11_learn_55 : decode cX11_learn 55 = .ok (.invokevirtual 364, 3) := by decide +kernel
theorem dX11_learn_58 : decode cX11_learn 58 = .ok (.iconst 0, 1) := by decide +kernel
theorem dX11_learn_59 : decode cX11_learn 59 = .ok (.istore 4, 2) := by decide +kernel
theorem dX11_learn_61 : decode cX11_learn 61 = .ok (.iconst 0, 1) := by decide +kernel
theorem dX11_learn_62 : decode cX11_learn 62 = .ok (.istore 5, 2) := by decide +kernel
theorem dX11_learn_64 : decode cX11_learn 64 = .ok (.iload 5, 2) := by decide +kernel
theorem dX11_learn_66 : decode cX11_learn 66 = .ok (.bipush 64, 2) := by decide +kernel
theorem dX11_learn_68 : decode cX11_learn 68 = .ok (.if_icmp .ge 33, 3) := by decide +kernel
theorem dX11_learn_71 : decode cX11_learn 71 = .ok (.iload_n 3, 1) := by decide +kernel
theorem dX11_learn_72 : decode cX11_learn 72 = .ok (.ifCond .ne 29, 3) := by decide +kernel
theorem dX11_learn_75 : decode cX11_learn 75 = .ok (.iload 4, 2) := by decide +kernel
theorem dX11_learn_77 : decode cX11_learn 77 = .ok (.aload_n 0, 1) := by decide +kernel
theorem dX11_learn_78 : decode cX11_learn 78 = .ok (.getfield 70, 3) := by decide +kernel
theorem dX11_learn_81 : decode cX11_learn 81 = .ok (.iload 5, 2) := by decide +kernel
theorem dX11_learn_83 : decode cX11_learn 83 = .ok (.baload, 1) := by decide +kernel
theorem dX11_learn_84 : decode cX11_learn 84 = .ok (.ifCond .eq 7, 3) := by decide +kernel
theorem dX11_learn_87 : decode cX11_learn 87 = .ok (.iconst 1, 1) := by decide +kernel
theorem dX11_learn_88 : decode cX11_learn 88 = .ok (.goto 4, 3) := by decide +kernel
theorem dX11_learn_91 : decode cX11_learn 91 = .ok (.iconst 0, 1) := by decide +kernel
theorem dX11_learn_92 : decode cX11_learn 92 = .ok (.iadd, 1) := by decide +kernel
theorem dX11_learn_93 : decode cX11_learn 93 = .ok (.istore 4, 2) := by decide +kernel
theorem dX11_learn_95 : decode cX11_learn 95 = .ok (.iinc 5 1, 3) := by decide +kernel
theorem dX11_learn_98 : decode cX11_learn 98 = .ok (.goto (-34), 3) := by decide +kernel
theorem dX11_learn_101 : decode cX11_learn 101 = .ok (.iconst 0, 1) := by decide +kernel
theorem dX11_learn_102 : decode cX11_learn 102 = .ok (.istore 5, 2) := by decide +kernel
theorem dX11_learn_104 : decode cX11_learn 104 = .ok (.iload 5, 2) := by decide +kernel
theorem dX11_learn_106 : decode cX11_learn 106 = .ok (.aload_n 0, 1) := by decide +kernel
theorem dX11_learn_107 : decode cX11_learn 107 = .ok (.getfield 9, 3) := by decide +kernel
theorem dX11_learn_110 : decode cX11_learn 110 = .ok (.iconst 1, 1) := by decide +kernel
theorem dX11_learn_111 : decode cX11_learn 111 = .ok (.iaload, 1) := by decide +kernel
theorem dX11_learn_112 : decode cX11_learn 112 = .ok (.if_icmp .ge 48, 3) := by decide +kernel
theorem dX11_learn_115 : decode cX11_learn 115 = .ok (.iload_n 3, 1) := by decide +kernel
theorem dX11_learn_116 : decode cX11_learn 116 = .ok (.ifCond .le 44, 3) := by decide +kernel
theorem dX11_learn_119 : decode cX11_learn 119 = .ok (.iload 4, 2) := by decide +kernel
theorem dX11_learn_121 : decode cX11_learn 121 = .ok (.aload_n 0, 1) := by decide +kernel
theorem dX11_learn_122 : decode cX11_learn 122 = .ok (.iload_n 1, 1) := by decide +kernel
theorem dX11_learn_123 : decode cX11_learn 123 = .ok (.iload 5, 2) := by decide +kernel
theorem dX11_learn_125 : decode cX11_learn 125 = .ok (.invokevirtual 367, 3) := by decide +kernel
theorem dX11_learn_128 : decode cX11_learn 128 = .ok (.ifCond .ne 22, 3) := by decide +kernel
theorem dX11_learn_131 : decode cX11_learn 131 = .ok (.iload_n 3, 1) := by decide +kernel
theorem dX11_learn_132 : decode cX11_learn 132 = .ok (.iconst 2, 1) := by decide +kernel
theorem dX11_learn_133 : decode cX11_learn 133 = .ok (.if_icmp .ne 13, 3) := by decide +kernel
theorem dX11_learn_136 : decode cX11_learn 136 = .ok (.aload_n 0, 1) := by decide +kernel
theorem dX11_learn_137 : decode cX11_learn 137 = .ok (.getfield 73, 3) := by decide +kernel
theorem dX11_learn_140 : decode cX11_learn 140 = .ok (.iload 5, 2) := by decide +kernel
theorem dX11_learn_142 : decode cX11_learn 142 = .ok (.baload, 1) := by decide +kernel
theorem dX11_learn_143 : decode cX11_learn 143 = .ok (.ifCond .ne 7, 3) := by decide +kernel
theorem dX11_learn_146 : decode cX11_learn 146 = .ok (.iconst 1, 1) := by decide +kernel
theorem dX11_learn_147 : decode cX11_learn 147 = .ok (.goto 4, 3) := by decide +kernel
theorem dX11_learn_150 : decode cX11_learn 150 = .ok (.iconst 0, 1) := by decide +kernel
theorem dX11_learn_151 : decode cX11_learn 151 = .ok (.iadd, 1) := by decide +kernel
theorem dX11_learn_152 : decode cX11_learn 152 = .ok (.istore 4, 2) := by decide +kernel
theorem dX11_learn_154 : decode cX11_learn 154 = .ok (.iinc 5 1, 3) := by decide +kernel
theorem dX11_learn_157 : decode cX11_learn 157 = .ok (.goto (-53), 3) := by decide +kernel
theorem dX11_learn_160 : decode cX11_learn 160 = .ok (.iload 4, 2) := by decide +kernel
theorem dX11_learn_162 : decode cX11_learn 162 = .ok (.ireturn, 1) := by decide +kernel
theorem dX11_ask_0 : decode cX11_ask 0 = .ok (.aload_n 0, 1) := by decide +kernel
theorem dX11_ask_1 : decode cX11_ask 1 = .ok (.aload_n 0, 1) := by decide +kernel
theorem dX11_ask_2 : decode cX11_ask 2 = .ok (.iload_n 1, 1) := by decide +kernel
theorem dX11_ask_3 : decode cX11_ask 3 = .ok (.iload_n 2, 1) := by decide +kernel
theorem dX11_ask_4 : decode cX11_ask 4 = .ok (.invokevirtual 361, 3) := by decide +kernel
theorem dX11_ask_7 : decode cX11_ask 7 = .ok (.putfield 92, 3) := by decide +kernel
theorem dX11_ask_10 : decode cX11_ask 10 = .ok (.aload_n 0, 1) := by decide +kernel
theorem dX11_ask_11 : decode cX11_ask 11 = .ok (.getfield 92, 3) := by decide +kernel
theorem dX11_ask_14 : decode cX11_ask 14 = .ok (.ifCond .ne 17, 3) := by decide +kernel
theorem dX11_ask_17 : decode cX11_ask 17 = .ok (.aload_n 0, 1) := by decide +kernel
theorem dX11_ask_18 : decode cX11_ask 18 = .ok (.iload_n 2, 1) := by decide +kernel
theorem dX11_ask_19 : decode cX11_ask 19 = .ok (.iconst 0, 1) := by decide +kernel
theorem dX11_ask_20 : decode cX11_ask 20 = .ok (.invokevirtual 326, 3) := by decide +kernel
theorem dX11_ask_23 : decode cX11_ask 23 = .ok (.ifCond .ne 8, 3) := by decide +kernel
theorem dX11_ask_26 : decode cX11_ask 26 = .ok (.aload_n 0, 1) := by decide +kernel
theorem dX11_ask_27 : decode cX11_ask 27 = .ok (.iconst 3, 1) := by decide +kernel
theorem dX11_ask_28 : decode cX11_ask 28 = .ok (.putfield 92, 3) := by decide +kernel
theorem dX11_ask_31 : decode cX11_ask 31 = .ok (.aload_n 0, 1) := by decide +kernel
theorem dX11_ask_32 : decode cX11_ask 32 = .ok (.getfield 92, 3) := by decide +kernel
theorem dX11_ask_35 : decode cX11_ask 35 = .ok (.ifCond .le 5, 3) := by decide +kernel
theorem dX11_ask_38 : decode cX11_ask 38 = .ok (.iconst 0, 1) := by decide +kernel
theorem dX11_ask_39 : decode cX11_ask 39 = .ok (.ireturn, 1) := by decide +kernel
theorem dX11_ask_40 : decode cX11_ask 40 = .ok (.aload_n 0, 1) := by decide +kernel
theorem dX11_ask_41 : decode cX11_ask 41 = .ok (.iload_n 1, 1) := by decide +kernel
theorem dX11_ask_42 : decode cX11_ask 42 = .ok (.iload_n 2, 1) := by decide +kernel
theorem dX11_ask_43 : decode cX11_ask 43 = .ok (.invokevirtual 364, 3) := by decide +kernel
theorem dX11_ask_46 : decode cX11_ask 46 = .ok (.iconst (-1), 1) := by decide +kernel
theorem dX11_ask_47 : decode cX11_ask 47 = .ok (.istore_n 3, 1) := by decide +kernel
theorem dX11_ask_48 : decode cX11_ask 48 = .ok (.iconst 0, 1) := by decide +kernel
theorem dX11_ask_49 : decode cX11_ask 49 = .ok (.istore 4, 2) := by decide +kernel
theorem dX11_ask_51 : decode cX11_ask 51 = .ok (.iload 4, 2) := by decide +kernel
theorem dX11_ask_53 : decode cX11_ask 53 = .ok (.aload_n 0, 1) := by decide +kernel
theorem dX11_ask_54 : decode cX11_ask 54 = .ok (.getfield 9, 3) := by decide +kernel
theorem dX11_ask_57 : decode cX11_ask 57 = .ok (.iconst 1, 1) := by decide +kernel
theorem dX11_ask_58 : decode cX11_ask 58 = .ok (.iaload, 1) := by decide +kernel
theorem dX11_ask_59 : decode cX11_ask 59 = .ok (.if_icmp .ge 43, 3) := by decide +kernel
theorem dX11_ask_62 : decode cX11_ask 62 = .ok (.aload_n 0, 1) := by decide +kernel
theorem dX11_ask_63 : decode cX11_ask 63 = .ok (.getfield 73, 3) := by decide +kernel
theorem dX11_ask_66 : decode cX11_ask 66 = .ok (.iload 4, 2) := by decide +kernel
theorem dX11_ask_68 : decode cX11_ask 68 = .ok (.baload, 1) := by decide +kernel
theorem dX11_ask_69 : decode cX11_ask 69 = .ok (.ifCond .ne 27, 3) := by decide +kernel
theorem dX11_ask_72 : decode cX11_ask 72 = .ok (.iload_n 3, 1) := by decide +kernel
theorem dX11_ask_73 : decode cX11_ask 73 = .ok (.iconst (-1), 1) := by decide +kernel
theorem dX11_ask_74 : decode cX11_ask 74 = .ok (.if_icmp .eq 19, 3) := by decide +kernel
theorem dX11_ask_77 : decode cX11_ask 77 = .ok (.aload_n 0, 1) := by decide +kernel
theorem dX11_ask_78 : decode cX11_ask 78 = .ok (.iload_n 1, 1) := by decide +kernel
theorem dX11_ask_79 : decode cX11_ask 79 = .ok (.iload 4, 2) := by decide +kernel
theorem dX11_ask_81 : decode cX11_ask 81 = .ok (.invokevirtual 367, 3) := by decide +kernel
theorem dX11_ask_84 : decode cX11_ask 84 = .ok (.aload_n 0, 1) := by decide +kernel
theorem dX11_ask_85 : decode cX11_ask 85 = .ok (.iload_n 1, 1) := by decide +kernel
theorem dX11_ask_86 : decode cX11_ask 86 = .ok (.iload_n 3, 1) := by decide +kernel
theorem dX11_ask_87 : decode cX11_ask 87 = .ok (.invokevirtual 367, 3) := by decide +kernel
theorem dX11_ask_90 : decode cX11_ask 90 = .ok (.if_icmp .le 6, 3) := by decide +kernel
theorem dX11_ask_93 : decode cX11_ask 93 = .ok (.iload 4, 2) := by decide +kernel
theorem dX11_ask_95 : decode cX11_ask 95 = .ok (.istore_n 3, 1) := by decide +kernel
theorem dX11_ask_96 : decode cX11_ask 96 = .ok (.iinc 4 1, 3) := by decide +kernel
theorem dX11_ask_99 : decode cX11_ask 99 = .ok (.goto (-48), 3) := by decide +kernel
theorem dX11_ask_102 : decode cX11_ask 102 = .ok (.iload_n 3, 1) := by decide +kernel
theorem dX11_ask_103 : decode cX11_ask 103 = .ok (.ireturn, 1) := by decide +kernel
theorem dX11_liesWith_0 : decode cX11_liesWith 0 = .ok (.iconst 0, 1) := by decide +kernel
theorem dX11_liesWith_1 : decode cX11_liesWith 1 = .ok (.istore_n 3, 1) := by decide +kernel
theorem dX11_liesWith_2 : decode cX11_liesWith 2 = .ok (.iload_n 3, 1) := by decide +kernel
theorem dX11_liesWith_3 : decode cX11_liesWith 3 = .ok (.bipush 64, 2) := by decide +kernel
theorem dX11_liesWith_5 : decode cX11_liesWith 5 = .ok (.if_icmp .ge 43, 3) := by decide +kernel
theorem dX11_liesWith_8 : decode cX11_liesWith 8 = .ok (.aload_n 0, 1) := by decide +kernel
theorem dX11_liesWith_9 : decode cX11_liesWith 9 = .ok (.getfield 58, 3) := by decide +kernel
theorem dX11_liesWith_12 : decode cX11_liesWith 12 = .ok (.iload_n 3, 1) := by decide +kernel
theorem dX11_liesWith_13 : decode cX11_liesWith 13 = .ok (.iload_n 3, 1) := by decide +kernel
theorem dX11_liesWith_14 : decode cX11_liesWith 14 = .ok (.aload_n 0, 1) := by decide +kernel
theorem dX11_liesWith_15 : decode cX11_liesWith 15 = .ok (.iload_n 1, 1) := by decide +kernel
theorem dX11_liesWith_16 : decode cX11_liesWith 16 = .ok (.iconst 1, 1) := by decide +kernel
theorem dX11_liesWith_17 : decode cX11_liesWith 17 = .ok (.invokevirtual 237, 3) := by decide +kernel
theorem dX11_liesWith_20 : decode cX11_liesWith 20 = .ok (.if_icmp .ge 20, 3) := by decide +kernel
theorem dX11_liesWith_23 : decode cX11_liesWith 23 = .ok (.aload_n 0, 1) := by decide +kernel
theorem dX11_liesWith_24 : decode cX11_liesWith 24 = .ok (.iload_n 1, 1) := by decide +kernel
theorem dX11_liesWith_25 : decode cX11_liesWith 25 = .ok (.bipush 10, 2) := by decide +kernel
theorem dX11_liesWith_27 : decode cX11_liesWith 27 = .ok (.iload_n 3, 1) := by decide +kernel
theorem dX11_liesWith_28 : decode cX11_liesWith 28 = .ok (.iadd, 1) := by decide +kernel
theorem dX11_liesWith_29 : decode cX11_liesWith 29 = .ok (.invokevirtual 237, 3) := by decide +kernel
theorem dX11_liesWith_32 : decode cX11_liesWith 32 = .ok (.iconst 1, 1) := by decide +kernel
theorem dX11_liesWith_33 : decode cX11_liesWith 33 = .ok (.if_icmp .ne 7, 3) := by decide +kernel
theorem dX11_liesWith_36 : decode cX11_liesWith 36 = .ok (.iconst 1, 1) := by decide +kernel
theorem dX11_liesWith_37 : decode cX11_liesWith 37 = .ok (.goto 4, 3) := by decide +kernel
theorem dX11_liesWith_40 : decode cX11_liesWith 40 = .ok (.iconst 0, 1) := by decide +kernel
theorem dX11_liesWith_41 : decode cX11_liesWith 41 = .ok (.bastore, 1) := by decide +kernel
theorem dX11_liesWith_42 : decode cX11_liesWith 42 = .ok (.iinc 3 1, 3) := by decide +kernel
theorem dX11_liesWith_45 : decode cX11_liesWith 45 = .ok (.goto (-43), 3) := by decide +kernel
theorem dX11_liesWith_48 : decode cX11_liesWith 48 = .ok (.iconst 0, 1) := by decide +kernel
theorem dX11_liesWith_49 : decode cX11_liesWith 49 = .ok (.istore_n 3, 1) := by decide +kernel
theorem dX11_liesWith_50 : decode cX11_liesWith 50 = .ok (.iload_n 3, 1) := by decide +kernel
theorem dX11_liesWith_51 : decode cX11_liesWith 51 = .ok (.aload_n 0, 1) := by decide +kernel
theorem dX11_liesWith_52 : decode cX11_liesWith 52 = .ok (.iload_n 1, 1) := by decide +kernel
theorem dX11_liesWith_53 : decode cX11_liesWith 53 = .ok (.iconst 2, 1) := by decide +kernel
theorem dX11_liesWith_54 : decode cX11_liesWith 54 = .ok (.invokevirtual 237, 3) := by decide +kernel
theorem dX11_liesWith_57 : decode cX11_liesWith 57 = .ok (.if_icmp .ge 22, 3) := by decide +kernel
theorem dX11_liesWith_60 : decode cX11_liesWith 60 = .ok (.aload_n 0, 1) := by decide +kernel
theorem dX11_liesWith_61 : decode cX11_liesWith 61 = .ok (.getfield 58, 3) := by decide +kernel
theorem dX11_liesWith_64 : decode cX11_liesWith 64 = .ok (.aload_n 0, 1) := by decide +kernel
theorem dX11_liesWith_65 : decode cX11_liesWith 65 = .ok (.iload_n 1, 1) := by decide +kernel
theorem dX11_liesWith_66 : decode cX11_liesWith 66 = .ok (.iload_n 3, 1) := by decide +kernel
theorem dX11_liesWith_67 : decode cX11_liesWith 67 = .ok (.iload_n 2, 1) := by decide +kernel
theorem dX11_liesWith_68 : decode cX11_liesWith 68 = .ok (.invokevirtual 273, 3) := by decide +kernel
theorem dX11_liesWith_71 : decode cX11_liesWith 71 = .ok (.iconst 1, 1) := by decide +kernel
theorem dX11_liesWith_72 : decode cX11_liesWith 72 = .ok (.bastore, 1) := by decide +kernel
theorem dX11_liesWith_73 : decode cX11_liesWith 73 = .ok (.iinc 3 1, 3) := by decide +kernel
theorem dX11_liesWith_76 : decode cX11_liesWith 76 = .ok (.goto (-26), 3) := by decide +kernel
theorem dX11_liesWith_79 : decode cX11_liesWith 79 = .ok (.iconst 0, 1) := by decide +kernel
theorem dX11_liesWith_80 : decode cX11_liesWith 80 = .ok (.istore_n 3, 1) := by decide +kernel
theorem dX11_liesWith_81 : decode cX11_liesWith 81 = .ok (.iconst 0, 1) := by decide +kernel
theorem dX11_liesWith_82 : decode cX11_liesWith 82 = .ok (.istore 4, 2) := by decide +kernel
theorem dX11_liesWith_84 : decode cX11_liesWith 84 = .ok (.iload 4, 2) := by decide +kernel
theorem dX11_liesWith_86 : decode cX11_liesWith 86 = .ok (.aload_n 0, 1) := by decide +kernel
theorem dX11_liesWith_87 : decode cX11_liesWith 87 = .ok (.getfield 9, 3) := by decide +kernel
theorem dX11_liesWith_90 : decode cX11_liesWith 90 = .ok (.iconst 1, 1) := by decide +kernel
theorem dX11_liesWith_91 : decode cX11_liesWith 91 = .ok (.iaload, 1) := by decide +kernel
theorem dX11_liesWith_92 : decode cX11_liesWith 92 = .ok (.if_icmp .ge 54, 3) := by decide +kernel
theorem dX11_liesWith_95 : decode cX11_liesWith 95 = .ok (.iload_n 3, 1) := by decide +kernel
theorem dX11_liesWith_96 : decode cX11_liesWith 96 = .ok (.iload 4, 2) := by decide +kernel
theorem dX11_liesWith_98 : decode cX11_liesWith 98 = .ok (.iload_n 2, 1) := by decide +kernel
theorem dX11_liesWith_99 : decode cX11_liesWith 99 = .ok (.if_icmp .eq 38, 3) := by decide +kernel
theorem dX11_liesWith_102 : decode cX11_liesWith 102 = .ok (.aload_n 0, 1) := by decide +kernel
theorem dX11_liesWith_103 : decode cX11_liesWith 103 = .ok (.iload_n 1, 1) := by decide +kernel
theorem dX11_liesWith_104 : decode cX11_liesWith 104 = .ok (.iload 4, 2) := by decide +kernel
theorem dX11_liesWith_106 : decode cX11_liesWith 106 = .ok (.invokevirtual 300, 3) := by decide +kernel
theorem dX11_liesWith_109 : decode cX11_liesWith 109 = .ok (.ifCond .ne 28, 3) := by decide +kernel
theorem dX11_liesWith_112 : decode cX11_liesWith 112 = .ok (.aload_n 0, 1) := by decide +kernel
theorem dX11_liesWith_113 : decode cX11_liesWith 113 = .ok (.aload_n 0, 1) := by decide +kernel
theorem dX11_liesWith_114 : decode cX11_liesWith 114 = .ok (.iload_n 1, 1) := by decide +kernel
theorem dX11_liesWith_115 : decode cX11_liesWith 115 = .ok (.iconst 1, 1) := by decide +kernel
theorem dX11_liesWith_116 : decode cX11_liesWith 116 = .ok (.invokevirtual 237, 3) := by decide +kernel
theorem dX11_liesWith_119 : decode cX11_liesWith 119 = .ok (.aload_n 0, 1) := by decide +kernel
theorem dX11_liesWith_120 : decode cX11_liesWith 120 = .ok (.iload_n 1, 1) := by decide +kernel
theorem dX11_liesWith_121 : decode cX11_liesWith 121 = .ok (.iconst 2, 1) := by decide +kernel
theorem dX11_liesWith_122 : decode cX11_liesWith 122 = .ok (.invokevirtual 237, 3) := by decide +kernel
theorem dX11_liesWith_125 : decode cX11_liesWith 125 = .ok (.iload 4, 2) := by decide +kernel
theorem dX11_liesWith_127 : decode cX11_liesWith 127 = .ok (.invokevirtual 358, 3) := by decide +kernel
theorem dX11_liesWith_130 : decode cX11_liesWith 130 = .ok (.ifCond .eq 7, 3) := by decide +kernel
theorem dX11_liesWith_133 : decode cX11_liesWith 133 = .ok (.iconst 1, 1) := by decide +kernel
theorem dX11_liesWith_134 : decode cX11_liesWith 134 = .ok (.goto 4, 3) := by decide +kernel
theorem dX11_liesWith_137 : decode cX11_liesWith 137 = .ok (.iconst 0, 1) := by decide +kernel
theorem dX11_liesWith_138 : decode cX11_liesWith 138 = .ok (.iadd, 1) := by decide +kernel
theorem dX11_liesWith_139 : decode cX11_liesWith 139 = .ok (.istore_n 3, 1) := by decide +kernel
theorem dX11_liesWith_140 : decode cX11_liesWith 140 = .ok (.iinc 4 1, 3) := by decide +kernel
theorem dX11_liesWith_143 : decode cX11_liesWith 143 = .ok (.goto (-59), 3) := by decide +kernel
theorem dX11_liesWith_146 : decode cX11_liesWith 146 = .ok (.iload_n 3, 1) := by decide +kernel
theorem dX11_liesWith_147 : decode cX11_liesWith 147 = .ok (.ireturn, 1) := by decide +kernel
theorem dX11_worst_0 : decode cX11_worst 0 = .ok (.aload_n 0, 1) := by decide +kernel
theorem dX11_worst_1 : decode cX11_worst 1 = .ok (.aload_n 0, 1) := by decide +kernel
theorem dX11_worst_2 : decode cX11_worst 2 = .ok (.iload_n 1, 1) := by decide +kernel
theorem dX11_worst_3 : decode cX11_worst 3 = .ok (.invokevirtual 256, 3) := by decide +kernel
theorem dX11_worst_6 : decode cX11_worst 6 = .ok (.ifCond .ne 7, 3) := by decide +kernel
theorem dX11_worst_9 : decode cX11_worst 9 = .ok (.iconst 1, 1) := by decide +kernel
theorem dX11_worst_10 : decode cX11_worst 10 = .ok (.goto 31, 3) := by decide +kernel
theorem dX11_worst_13 : decode cX11_worst 13 = .ok (.aload_n 0, 1) := by decide +kernel
theorem dX11_worst_14 : decode cX11_worst 14 = .ok (.iload_n 1, 1) := by decide +kernel
theorem dX11_worst_15 : decode cX11_worst 15 = .ok (.iconst 0, 1) := by decide +kernel
theorem dX11_worst_16 : decode cX11_worst 16 = .ok (.invokevirtual 237, 3) := by decide +kernel
theorem dX11_worst_19 : decode cX11_worst 19 = .ok (.ifCond .eq 7, 3) := by decide +kernel
theorem dX11_worst_22 : decode cX11_worst 22 = .ok (.iconst 2, 1) := by decide +kernel
theorem dX11_worst_23 : decode cX11_worst 23 = .ok (.goto 18, 3) := by decide +kernel
theorem dX11_worst_26 : decode cX11_worst 26 = .ok (.iload_n 2, 1) := by decide +kernel
theorem dX11_worst_27 : decode cX11_worst 27 = .ok (.i2l, 1) := by decide +kernel
theorem dX11_worst_28 : decode cX11_worst 28 = .ok (.lconst 0, 1) := by decide +kernel
theorem dX11_worst_29 : decode cX11_worst 29 = .ok (.lconst 1, 1) := by decide +kernel
theorem dX11_worst_30 : decode cX11_worst 30 = .ok (.invokestatic 157, 3) := by decide +kernel
theorem dX11_worst_33 : decode cX11_worst 33 = .ok (.ifCond .eq 7, 3) := by decide +kernel
theorem dX11_worst_36 : decode cX11_worst 36 = .ok (.iconst 0, 1) := by decide +kernel
theorem dX11_worst_37 : decode cX11_worst 37 = .ok (.goto 4, 3) := by decide +kernel
theorem dX11_worst_40 : decode cX11_worst 40 = .ok (.iconst 3, 1) := by decide +kernel
theorem dX11_worst_41 : decode cX11_worst 41 = .ok (.putfield 92, 3) := by decide +kernel
theorem dX11_worst_44 : decode cX11_worst 44 = .ok (.aload_n 0, 1) := by decide +kernel
theorem dX11_worst_45 : decode cX11_worst 45 = .ok (.getfield 92, 3) := by decide +kernel
theorem dX11_worst_48 : decode cX11_worst 48 = .ok (.ifCond .le 5, 3) := by decide +kernel
theorem dX11_worst_51 : decode cX11_worst 51 = .ok (.iconst 0, 1) := by decide +kernel
theorem dX11_worst_52 : decode cX11_worst 52 = .ok (.ireturn, 1) := by decide +kernel
theorem dX11_worst_53 : decode cX11_worst 53 = .ok (.iconst (-1), 1) := by decide +kernel
theorem dX11_worst_54 : decode cX11_worst 54 = .ok (.istore_n 3, 1) := by decide +kernel
theorem dX11_worst_55 : decode cX11_worst 55 = .ok (.iconst (-1), 1) := by decide +kernel
theorem dX11_worst_56 : decode cX11_worst 56 = .ok (.istore 4, 2) := by decide +kernel
theorem dX11_worst_58 : decode cX11_worst 58 = .ok (.iconst 0, 1) := by decide +kernel
theorem dX11_worst_59 : decode cX11_worst 59 = .ok (.istore 5, 2) := by decide +kernel
theorem dX11_worst_61 : decode cX11_worst 61 = .ok (.iload 5, 2) := by decide +kernel
theorem dX11_worst_63 : decode cX11_worst 63 = .ok (.aload_n 0, 1) := by decide +kernel
theorem dX11_worst_64 : decode cX11_worst 64 = .ok (.getfield 9, 3) := by decide +kernel
theorem dX11_worst_67 : decode cX11_worst 67 = .ok (.iconst 1, 1) := by decide +kernel
theorem dX11_worst_68 : decode cX11_worst 68 = .ok (.iaload, 1) := by decide +kernel
theorem dX11_worst_69 : decode cX11_worst 69 = .ok (.if_icmp .ge 48, 3) := by decide +kernel
theorem dX11_worst_72 : decode cX11_worst 72 = .ok (.aload_n 0, 1) := by decide +kernel
theorem dX11_worst_73 : decode cX11_worst 73 = .ok (.iload_n 1, 1) := by decide +kernel
theorem dX11_worst_74 : decode cX11_worst 74 = .ok (.iload 5, 2) := by decide +kernel
theorem dX11_worst_76 : decode cX11_worst 76 = .ok (.invokevirtual 300, 3) := by decide +kernel
theorem dX11_worst_79 : decode cX11_worst 79 = .ok (.ifCond .eq 6, 3) := by decide +kernel
theorem dX11_worst_82 : decode cX11_worst 82 = .ok (.goto 29, 3) := by decide +kernel
theorem dX11_worst_85 : decode cX11_worst 85 = .ok (.aload_n 0, 1) := by decide +kernel
theorem dX11_worst_86 : decode cX11_worst 86 = .ok (.iload_n 1, 1) := by decide +kernel
theorem dX11_worst_87 : decode cX11_worst 87 = .ok (.iload 5, 2) := by decide +kernel
theorem dX11_worst_89 : decode cX11_worst 89 = .ok (.invokevirtual 370, 3) := by decide +kernel
theorem dX11_worst_92 : decode cX11_worst 92 = .ok (.istore 6, 2) := by decide +kernel
theorem dX11_worst_94 : decode cX11_worst 94 = .ok (.iload 6, 2) := by decide +kernel
theorem dX11_worst_96 : decode cX11_worst 96 = .ok (.iload 4, 2) := by decide +kernel
theorem dX11_worst_98 : decode cX11_worst 98 = .ok (.if_icmp .gt 6, 3) := by decide +kernel
theorem dX11_worst_101 : decode cX11_worst 101 = .ok (.goto 10, 3) := by decide +kernel
theorem dX11_worst_104 : decode cX11_worst 104 = .ok (.iload 6, 2) := by decide +kernel
theorem dX11_worst_106 : decode cX11_worst 106 = .ok (.istore 4, 2) := by decide +kernel
theorem dX11_worst_108 : decode cX11_worst 108 = .ok (.iload 5, 2) := by decide +kernel
theorem dX11_worst_110 : decode cX11_worst 110 = .ok (.istore_n 3, 1) := by decide +kernel
theorem dX11_worst_111 : decode cX11_worst 111 = .ok (.iinc 5 1, 3) := by decide +kernel
theorem dX11_worst_114 : decode cX11_worst 114 = .ok (.goto (-53), 3) := by decide +kernel
theorem dX11_worst_117 : decode cX11_worst 117 = .ok (.iload_n 2, 1) := by decide +kernel
theorem dX11_worst_118 : decode cX11_worst 118 = .ok (.ifCond .ne 7, 3) := by decide +kernel
theorem dX11_worst_121 : decode cX11_worst 121 = .ok (.iload_n 3, 1) := by decide +kernel
theorem dX11_worst_122 : decode cX11_worst 122 = .ok (.goto 5, 3) := by decide +kernel
theorem dX11_worst_125 : decode cX11_worst 125 = .ok (.iload 4, 2) := by decide +kernel
theorem dX11_worst_127 : decode cX11_worst 127 = .ok (.ireturn, 1) := by decide +kernel
theorem dX11_blame_0 : decode cX11_blame 0 = .ok (.aload_n 0, 1) := by decide +kernel
theorem dX11_blame_1 : decode cX11_blame 1 = .ok (.aload_n 0, 1) := by decide +kernel
theorem dX11_blame_2 : decode cX11_blame 2 = .ok (.iload_n 1, 1) := by decide +kernel
theorem dX11_blame_3 : decode cX11_blame 3 = .ok (.invokevirtual 256, 3) := by decide +kernel
theorem dX11_blame_6 : decode cX11_blame 6 = .ok (.ifCond .ne 7, 3) := by decide +kernel
theorem dX11_blame_9 : decode cX11_blame 9 = .ok (.iconst 1, 1) := by decide +kernel
theorem dX11_blame_10 : decode cX11_blame 10 = .ok (.goto 30, 3) := by decide +kernel
theorem dX11_blame_13 : decode cX11_blame 13 = .ok (.aload_n 0, 1) := by decide +kernel
theorem dX11_blame_14 : decode cX11_blame 14 = .ok (.iload_n 1, 1) := by decide +kernel
theorem dX11_blame_15 : decode cX11_blame 15 = .ok (.iconst 0, 1) := by decide +kernel
theorem dX11_blame_16 : decode cX11_blame 16 = .ok (.invokevirtual 237, 3) := by decide +kernel
theorem dX11_blame_19 : decode cX11_blame 19 = .ok (.ifCond .eq 7, 3) := by decide +kernel
theorem dX11_blame_22 : decode cX11_blame 22 = .ok (.iconst 2, 1) := by decide +kernel
theorem dX11_blame_23 : decode cX11_blame 23 = .ok (.goto 17, 3) := by decide +kernel
theorem dX11_blame_26 : decode cX11_blame 26 = .ok (.aload_n 0, 1) := by decide +kernel
theorem dX11_blame_27 : decode cX11_blame 27 = .ok (.iload_n 2, 1) := by decide +kernel
theorem dX11_blame_28 : decode cX11_blame 28 = .ok (.i2l, 1) := by decide +kernel
theorem dX11_blame_29 : decode cX11_blame 29 = .ok (.invokevirtual 228, 3) := by decide +kernel
theorem dX11_blame_32 : decode cX11_blame 32 = .ok (.ifCond .eq 7, 3) := by decide +kernel
theorem dX11_blame_35 : decode cX11_blame 35 = .ok (.iconst 0, 1) := by decide +kernel
theorem dX11_blame_36 : decode cX11_blame 36 = .ok (.goto 4, 3) := by decide +kernel
theorem dX11_blame_39 : decode cX11_blame 39 = .ok (.iconst 3, 1) := by decide +kernel
theorem dX11_blame_40 : decode cX11_blame 40 = .ok (.putfield 92, 3) := by decide +kernel
theorem dX11_blame_43 : decode cX11_blame 43 = .ok (.aload_n 0, 1) := by decide +kernel
theorem dX11_blame_44 : decode cX11_blame 44 = .ok (.getfield 92, 3) := by decide +kernel
theorem dX11_blame_47 : decode cX11_blame 47 = .ok (.ifCond .le 5, 3) := by decide +kernel
theorem dX11_blame_50 : decode cX11_blame 50 = .ok (.iconst 0, 1) := by decide +kernel
theorem dX11_blame_51 : decode cX11_blame 51 = .ok (.ireturn, 1) := by decide +kernel
theorem dX11_blame_52 : decode cX11_blame 52 = .ok (.iconst 1, 1) := by decide +kernel
theorem dX11_blame_53 : decode cX11_blame 53 = .ok (.aload_n 0, 1) := by decide +kernel
theorem dX11_blame_54 : decode cX11_blame 54 = .ok (.iload_n 1, 1) := by decide +kernel
theorem dX11_blame_55 : decode cX11_blame 55 = .ok (.iconst 2, 1) := by decide +kernel
theorem dX11_blame_56 : decode cX11_blame 56 = .ok (.invokevirtual 237, 3) := by decide +kernel
theorem dX11_blame_59 : decode cX11_blame 59 = .ok (.ishl, 1) := by decide +kernel
theorem dX11_blame_60 : decode cX11_blame 60 = .ok (.iconst 1, 1) := by decide +kernel
theorem dX11_blame_61 : decode cX11_blame 61 = .ok (.isub, 1) := by decide +kernel
theorem dX11_blame_62 : decode cX11_blame 62 = .ok (.istore_n 3, 1) := by decide +kernel
theorem dX11_blame_63 : decode cX11_blame 63 = .ok (.iconst 1, 1) := by decide +kernel
theorem dX11_blame_64 : decode cX11_blame 64 = .ok (.istore 4, 2) := by decide +kernel
theorem dX11_blame_66 : decode cX11_blame 66 = .ok (.iload 4, 2) := by decide +kernel
theorem dX11_blame_68 : decode cX11_blame 68 = .ok (.iload_n 3, 1) := by decide +kernel
theorem dX11_blame_69 : decode cX11_blame 69 = .ok (.if_icmp .gt 19, 3) := by decide +kernel
theorem dX11_blame_72 : decode cX11_blame 72 = .ok (.aload_n 0, 1) := by decide +kernel
theorem dX11_blame_73 : decode cX11_blame 73 = .ok (.getfield 76, 3) := by decide +kernel
theorem dX11_blame_76 : decode cX11_blame 76 = .ok (.iload 4, 2) := by decide +kernel
theorem dX11_blame_78 : decode cX11_blame 78 = .ok (.sipush 1000, 3) := by decide +kernel
theorem dX11_blame_81 : decode cX11_blame 81 = .ok (.iastore, 1) := by decide +kernel
theorem dX11_blame_82 : decode cX11_blame 82 = .ok (.iinc 4 1, 3) := by decide +kernel
theorem dX11_blame_85 : decode cX11_blame 85 = .ok (.goto (-19), 3) := by decide +kernel
theorem dX11_blame_88 : decode cX11_blame 88 = .ok (.aload_n 0, 1) := by decide +kernel
theorem dX11_blame_89 : decode cX11_blame 89 = .ok (.getfield 76, 3) := by decide +kernel
theorem dX11_blame_92 : decode cX11_blame 92 = .ok (.iconst 0, 1) := by decide +kernel
theorem dX11_blame_93 : decode cX11_blame 93 = .ok (.iconst 0, 1) := by decide +kernel
theorem dX11_blame_94 : decode cX11_blame 94 = .ok (.iastore, 1) := by decide +kernel
theorem dX11_blame_95 : decode cX11_blame 95 = .ok (.iconst 0, 1) := by decide +kernel
theorem dX11_blame_96 : decode cX11_blame 96 = .ok (.istore 4, 2) := by decide +kernel
theorem dX11_blame_98 : decode cX11_blame 98 = .ok (.iload 4, 2) := by decide +kernel
theorem dX11_blame_100 : decode cX11_blame 100 = .ok (.aload_n 0, 1) := by decide +kernel
theorem dX11_blame_101 : decode cX11_blame 101 = .ok (.getfield 9, 3) := by decide +kernel
theorem dX11_blame_104 : decode cX11_blame 104 = .ok (.iconst 1, 1) := by decide +kernel
theorem dX11_blame_105 : decode cX11_blame 105 = .ok (.iaload, 1) := by decide +kernel
theorem dX11_blame_106 : decode cX11_blame 106 = .ok (.if_icmp .ge 142, 3) := by decide +kernel
theorem dX11_blame_109 : decode cX11_blame 109 = .ok (.aload_n 0, 1) := by decide +kernel
theorem dX11_blame_110 : decode cX11_blame 110 = .ok (.iload_n 1, 1) := by decide +kernel
theorem dX11_blame_111 : decode cX11_blame 111 = .ok (.iload 4, 2) := by decide +kernel
theorem dX11_blame_113 : decode cX11_blame 113 = .ok (.invokevirtual 300, 3) := by decide +kernel
theorem dX11_blame_116 : decode cX11_blame 116 = .ok (.ifCond .ne 6, 3) := by decide +kernel
theorem dX11_blame_119 : decode cX11_blame 119 = .ok (.goto 123, 3) := by decide +kernel
theorem dX11_blame_122 : decode cX11_blame 122 = .ok (.iconst 0, 1) := by decide +kernel
theorem dX11_blame_123 : decode cX11_blame 123 = .ok (.istore 5, 2) := by decide +kernel
theorem dX11_blame_125 : decode cX11_blame 125 = .ok (.iconst 0, 1) := by decide +kernel
theorem dX11_blame_126 : decode cX11_blame 126 = .ok (.istore 6, 2) := by decide +kernel
theorem dX11_blame_128 : decode cX11_blame 128 = .ok (.iload 6, 2) := by decide +kernel
theorem dX11_blame_130 : decode cX11_blame 130 = .ok (.aload_n 0, 1) := by decide +kernel
theorem dX11_blame_131 : decode cX11_blame 131 = .ok (.iload_n 1, 1) := by decide +kernel
theorem dX11_blame_132 : decode cX11_blame 132 = .ok (.iconst 2, 1) := by decide +kernel
theorem dX11_blame_133 : decode cX11_blame 133 = .ok (.invokevirtual 237, 3) := by decide +kernel
theorem dX11_blame_136 : decode cX11_blame 136 = .ok (.iconst 1, 1) := by decide +kernel
theorem dX11_blame_137 : decode cX11_blame 137 = .ok (.isub, 1) := by decide +kernel
theorem dX11_blame_138 : decode cX11_blame 138 = .ok (.if_icmp .gt 58, 3) := by decide +kernel
theorem dX11_blame_141 : decode cX11_blame 141 = .ok (.iconst 0, 1) := by decide +kernel
theorem dX11_blame_142 : decode cX11_blame 142 = .ok (.istore 7, 2) := by decide +kernel
theorem dX11_blame_144 : decode cX11_blame 144 = .ok (.iload 7, 2) := by decide +kernel
theorem dX11_blame_146 : decode cX11_blame 146 = .ok (.aload_n 0, 1) := by decide +kernel
theorem dX11_blame_147 : decode cX11_blame 147 = .ok (.iload_n 1, 1) := by decide +kernel
theorem dX11_blame_148 : decode cX11_blame 148 = .ok (.iconst 2, 1) := by decide +kernel
theorem dX11_blame_149 : decode cX11_blame 149 = .ok (.invokevirtual 237, 3) := by decide +kernel
theorem dX11_blame_152 : decode cX11_blame 152 = .ok (.if_icmp .ge 38, 3) := by decide +kernel
theorem dX11_blame_155 : decode cX11_blame 155 = .ok (.aload_n 0, 1) := by decide +kernel
theorem dX11_blame_156 : decode cX11_blame 156 = .ok (.iload_n 1, 1) := by decide +kernel
theorem dX11_blame_157 : decode cX11_blame 157 = .ok (.iload 7, 2) := by decide +kernel
theorem dX11_blame_159 : decode cX11_blame 159 = .ok (.iload 4, 2) := by decide +kernel
theorem dX11_blame_161 : decode cX11_blame 161 = .ok (.invokevirtual 273, 3) := by decide +kernel
theorem dX11_blame_164 : decode cX11_blame 164 = .ok (.aload_n 0, 1) := by decide +kernel
theorem dX11_blame_165 : decode cX11_blame 165 = .ok (.iload_n 1, 1) := by decide +kernel
theorem dX11_blame_166 : decode cX11_blame 166 = .ok (.iload 6, 2) := by decide +kernel
theorem dX11_blame_168 : decode cX11_blame 168 = .ok (.iload_n 2, 1) := by decide +kernel
theorem dX11_blame_169 : decode cX11_blame 169 = .ok (.invokevirtual 273, 3) := by decide +kernel
theorem dX11_blame_172 : decode cX11_blame 172 = .ok (.if_icmp .ne 12, 3) := by decide +kernel
theorem dX11_blame_175 : decode cX11_blame 175 = .ok (.iload 5, 2) := by decide +kernel
theorem dX11_blame_177 : decode cX11_blame 177 = .ok (.iconst 1, 1) := by decide +kernel
theorem dX11_blame_178 : decode cX11_blame 178 = .ok (.iload 6, 2) := by decide +kernel
theorem dX11_blame_180 : decode cX11_blame 180 = .ok (.ishl, 1) := by decide +kernel
theorem dX11_blame_181 : decode cX11_blame 181 = .ok (.ior, 1) := by decide +kernel
theorem dX11_blame_182 : decode cX11_blame 182 = .ok (.istore 5, 2) := by decide +kernel
theorem dX11_blame_184 : decode cX11_blame 184 = .ok (.iinc 7 1, 3) := by decide +kernel
theorem dX11_blame_187 : decode cX11_blame 187 = .ok (.goto (-43), 3) := by decide +kernel
theorem dX11_blame_190 : decode cX11_blame 190 = .ok (.iinc 6 1, 3) := by decide +kernel
theorem dX11_blame_193 : decode cX11_blame 193 = .ok (.goto (-65), 3) := by decide +kernel
theorem dX11_blame_196 : decode cX11_blame 196 = .ok (.iload_n 3, 1) := by decide +kernel
theorem dX11_blame_197 : decode cX11_blame 197 = .ok (.istore 6, 2) := by decide +kernel
theorem dX11_blame_199 : decode cX11_blame 199 = .ok (.iload 6, 2) := by decide +kernel
theorem dX11_blame_201 : decode cX11_blame 201 = .ok (.ifCond .lt 41, 3) := by decide +kernel
theorem dX11_blame_204 : decode cX11_blame 204 = .ok (.aload_n 0, 1) := by decide +kernel
theorem dX11_blame_205 : decode cX11_blame 205 = .ok (.getfield 76, 3) := by decide +kernel
theorem dX11_blame_208 : decode cX11_blame 208 = .ok (.iload 6, 2) := by decide +kernel
theorem dX11_blame_210 : decode cX11_blame 210 = .ok (.iload 5, 2) := by decide +kernel
theorem dX11_blame_212 : decode cX11_blame 212 = .ok (.ior, 1) := by decide +kernel
theorem dX11_blame_213 : decode cX11_blame 213 = .ok (.aload_n 0, 1) := by decide +kernel
theorem dX11_blame_214 : decode cX11_blame 214 = .ok (.getfield 76, 3) := by decide +kernel
theorem dX11_blame_217 : decode cX11_blame 217 = .ok (.iload 6, 2) := by decide +kernel
theorem dX11_blame_219 : decode cX11_blame 219 = .ok (.iload 5, 2) := by decide +kernel
theorem dX11_blame_221 : decode cX11_blame 221 = .ok (.ior, 1) := by decide +kernel
theorem dX11_blame_222 : decode cX11_blame 222 = .ok (.iaload, 1) := by decide +kernel
theorem dX11_blame_223 : decode cX11_blame 223 = .ok (.aload_n 0, 1) := by decide +kernel
theorem dX11_blame_224 : decode cX11_blame 224 = .ok (.getfield 76, 3) := by decide +kernel
theorem dX11_blame_227 : decode cX11_blame 227 = .ok (.iload 6, 2) := by decide +kernel
theorem dX11_blame_229 : decode cX11_blame 229 = .ok (.iaload, 1) := by decide +kernel
theorem dX11_blame_230 : decode cX11_blame 230 = .ok (.iconst 1, 1) := by decide +kernel
theorem dX11_blame_231 : decode cX11_blame 231 = .ok (.iadd, 1) := by decide +kernel
theorem dX11_blame_232 : decode cX11_blame 232 = .ok (.invokestatic 240, 3) := by decide +kernel
theorem dX11_blame_235 : decode cX11_blame 235 = .ok (.iastore, 1) := by decide +kernel
theorem dX11_blame_236 : decode cX11_blame 236 = .ok (.iinc 6 (-1), 3) := by decide +kernel
theorem dX11_blame_239 : decode cX11_blame 239 = .ok (.goto (-40), 3) := by decide +kernel
theorem dX11_blame_242 : decode cX11_blame 242 = .ok (.iinc 4 1, 3) := by decide +kernel
theorem dX11_blame_245 : decode cX11_blame 245 = .ok (.goto (-147), 3) := by decide +kernel
theorem dX11_blame_248 : decode cX11_blame 248 = .ok (.aload_n 0, 1) := by decide +kernel
theorem dX11_blame_249 : decode cX11_blame 249 = .ok (.getfield 76, 3) := by decide +kernel
theorem dX11_blame_252 : decode cX11_blame 252 = .ok (.iload_n 3, 1) := by decide +kernel
theorem dX11_blame_253 : decode cX11_blame 253 = .ok (.iaload, 1) := by decide +kernel
theorem dX11_blame_254 : decode cX11_blame 254 = .ok (.sipush 1000, 3) := by decide +kernel
theorem dX11_blame_257 : decode cX11_blame 257 = .ok (.if_icmp .lt 7, 3) := by decide +kernel
theorem dX11_blame_260 : decode cX11_blame 260 = .ok (.iconst (-1), 1) := by decide +kernel
theorem dX11_blame_261 : decode cX11_blame 261 = .ok (.goto 9, 3) := by decide +kernel
theorem dX11_blame_264 : decode cX11_blame 264 = .ok (.aload_n 0, 1) := by decide +kernel
theorem dX11_blame_265 : decode cX11_blame 265 = .ok (.getfield 76, 3) := by decide +kernel
theorem dX11_blame_268 : decode cX11_blame 268 = .ok (.iload_n 3, 1) := by decide +kernel
theorem dX11_blame_269 : decode cX11_blame 269 = .ok (.iaload, 1) := by decide +kernel
theorem dX11_blame_270 : decode cX11_blame 270 = .ok (.ireturn, 1) := by decide +kernel
theorem dX11_choose_0 : decode cX11_choose 0 = .ok (.aload_n 0, 1) := by decide +kernel
theorem dX11_choose_1 : decode cX11_choose 1 = .ok (.aload_n 0, 1) := by decide +kernel
theorem dX11_choose_2 : decode cX11_choose 2 = .ok (.iload_n 1, 1) := by decide +kernel
theorem dX11_choose_3 : decode cX11_choose 3 = .ok (.invokevirtual 256, 3) := by decide +kernel
theorem dX11_choose_6 : decode cX11_choose 6 = .ok (.ifCond .ne 7, 3) := by decide +kernel
theorem dX11_choose_9 : decode cX11_choose 9 = .ok (.iconst 1, 1) := by decide +kernel
theorem dX11_choose_10 : decode cX11_choose 10 = .ok (.goto 32, 3) := by decide +kernel
theorem dX11_choose_13 : decode cX11_choose 13 = .ok (.iload_n 2, 1) := by decide +kernel
theorem dX11_choose_14 : decode cX11_choose 14 = .ok (.i2l, 1) := by decide +kernel
theorem dX11_choose_15 : decode cX11_choose 15 = .ok (.lconst 0, 1) := by decide +kernel
theorem dX11_choose_16 : decode cX11_choose 16 = .ok (.ldc2_w 373, 3) := by decide +kernel
theorem dX11_choose_19 : decode cX11_choose 19 = .ok (.invokestatic 157, 3) := by decide +kernel
theorem dX11_choose_22 : decode cX11_choose 22 = .ok (.ifCond .eq 19, 3) := by decide +kernel
theorem dX11_choose_25 : decode cX11_choose 25 = .ok (.iload_n 3, 1) := by decide +kernel
theorem dX11_choose_26 : decode cX11_choose 26 = .ok (.i2l, 1) := by decide +kernel
theorem dX11_choose_27 : decode cX11_choose 27 = .ok (.lconst 0, 1) := by decide +kernel
theorem dX11_choose_28 : decode cX11_choose 28 = .ok (.ldc2_w 348, 3) := by decide +kernel
theorem dX11_choose_31 : decode cX11_choose 31 = .ok (.invokestatic 157, 3) := by decide +kernel
theorem dX11_choose_34 : decode cX11_choose 34 = .ok (.ifCond .eq 7, 3) := by decide +kernel
theorem dX11_choose_37 : decode cX11_choose 37 = .ok (.iconst 0, 1) := by decide +kernel
theorem dX11_choose_38 : decode cX11_choose 38 = .ok (.goto 4, 3) := by decide +kernel
theorem dX11_choose_41 : decode cX11_choose 41 = .ok (.iconst 2, 1) := by decide +kernel
theorem dX11_choose_42 : decode cX11_choose 42 = .ok (.putfield 92, 3) := by decide +kernel
theorem dX11_choose_45 : decode cX11_choose 45 = .ok (.aload_n 0, 1) := by decide +kernel
theorem dX11_choose_46 : decode cX11_choose 46 = .ok (.getfield 92, 3) := by decide +kernel
theorem dX11_choose_49 : decode cX11_choose 49 = .ok (.ifCond .le 5, 3) := by decide +kernel
theorem dX11_choose_52 : decode cX11_choose 52 = .ok (.iconst 0, 1) := by decide +kernel
theorem dX11_choose_53 : decode cX11_choose 53 = .ok (.ireturn, 1) := by decide +kernel
theorem dX11_choose_54 : decode cX11_choose 54 = .ok (.aload_n 0, 1) := by decide +kernel
theorem dX11_choose_55 : decode cX11_choose 55 = .ok (.iload_n 1, 1) := by decide +kernel
theorem dX11_choose_56 : decode cX11_choose 56 = .ok (.invokevirtual 352, 3) := by decide +kernel
theorem dX11_choose_59 : decode cX11_choose 59 = .ok (.iconst (-1), 1) := by decide +kernel
theorem dX11_choose_60 : decode cX11_choose 60 = .ok (.istore 4, 2) := by decide +kernel
theorem dX11_choose_62 : decode cX11_choose 62 = .ok (.iconst (-1), 1) := by decide +kernel
theorem dX11_choose_63 : decode cX11_choose 63 = .ok (.istore 5, 2) := by decide +kernel
theorem dX11_choose_65 : decode cX11_choose 65 = .ok (.iconst (-1), 1) := by decide +kernel
theorem dX11_choose_66 : decode cX11_choose 66 = .ok (.istore 6, 2) := by decide +kernel
theorem dX11_choose_68 : decode cX11_choose 68 = .ok (.iconst 0, 1) := by decide +kernel
theorem dX11_choose_69 : decode cX11_choose 69 = .ok (.istore 7, 2) := by decide +kernel
theorem dX11_choose_71 : decode cX11_choose 71 = .ok (.iload 7, 2) := by decide +kernel
theorem dX11_choose_73 : decode cX11_choose 73 = .ok (.iload_n 2, 1) := by decide +kernel
theorem dX11_choose_74 : decode cX11_choose 74 = .ok (.if_icmp .gt 106, 3) := by decide +kernel
theorem dX11_choose_77 : decode cX11_choose 77 = .ok (.bipush 8, 2) := by decide +kernel
theorem dX11_choose_79 : decode cX11_choose 79 = .ok (.istore 8, 2) := by decide +kernel
theorem dX11_choose_81 : decode cX11_choose 81 = .ok (.iload 8, 2) := by decide +kernel
theorem dX11_choose_83 : decode cX11_choose 83 = .ok (.bipush 64, 2) := by decide +kernel
theorem dX11_choose_85 : decode cX11_choose 85 = .ok (.if_icmp .gt 89, 3) := by decide +kernel
theorem dX11_choose_88 : decode cX11_choose 88 = .ok (.iload 7, 2) := by decide +kernel
theorem dX11_choose_90 : decode cX11_choose 90 = .ok (.iload 8, 2) := by decide +kernel
theorem dX11_choose_92 : decode cX11_choose 92 = .ok (.isub, 1) := by decide +kernel
theorem dX11_choose_93 : decode cX11_choose 93 = .ok (.iconst 4, 1) := by decide +kernel
theorem dX11_choose_94 : decode cX11_choose 94 = .ok (.idiv, 1) := by decide +kernel
theorem dX11_choose_95 : decode cX11_choose 95 = .ok (.istore 9, 2) := by decide +kernel
theorem dX11_choose_97 : decode cX11_choose 97 = .ok (.iload 8, 2) := by decide +kernel
theorem dX11_choose_99 : decode cX11_choose 99 = .ok (.iconst 4, 1) := by decide +kernel
theorem dX11_choose_100 : decode cX11_choose 100 = .ok (.iload 9, 2) := by decide +kernel
theorem dX11_choose_102 : decode cX11_choose 102 = .ok (.imul, 1) := by decide +kernel
theorem dX11_choose_103 : decode cX11_choose 103 = .ok (.iadd, 1) := by decide +kernel
theorem dX11_choose_104 : decode cX11_choose 104 = .ok (.iload 7, 2) := by decide +kernel
theorem dX11_choose_106 : decode cX11_choose 106 = .ok (.if_icmp .ne 62, 3) := by decide +kernel
theorem dX11_choose_109 : decode cX11_choose 109 = .ok (.iload 9, 2) := by decide +kernel
theorem dX11_choose_111 : decode cX11_choose 111 = .ok (.i2l, 1) := by decide +kernel
theorem dX11_choose_112 : decode cX11_choose 112 = .ok (.lconst 1, 1) := by decide +kernel
theorem dX11_choose_113 : decode cX11_choose 113 = .ok (.aload_n 0, 1) := by decide +kernel
theorem dX11_choose_114 : decode cX11_choose 114 = .ok (.getfield 9, 3) := by decide +kernel
theorem dX11_choose_117 : decode cX11_choose 117 = .ok (.iconst 3, 1) := by decide +kernel
theorem dX11_choose_118 : decode cX11_choose 118 = .ok (.iaload, 1) := by decide +kernel
theorem dX11_choose_119 : decode cX11_choose 119 = .ok (.i2l, 1) := by decide +kernel
theorem dX11_choose_120 : decode cX11_choose 120 = .ok (.invokestatic 157, 3) := by decide +kernel
theorem dX11_choose_123 : decode cX11_choose 123 = .ok (.ifCond .ne 6, 3) := by decide +kernel
theorem dX11_choose_126 : decode cX11_choose 126 = .ok (.goto 42, 3) := by decide +kernel
theorem dX11_choose_129 : decode cX11_choose 129 = .ok (.aload_n 0, 1) := by decide +kernel
theorem dX11_choose_130 : decode cX11_choose 130 = .ok (.iload_n 1, 1) := by decide +kernel
theorem dX11_choose_131 : decode cX11_choose 131 = .ok (.iload 8, 2) := by decide +kernel
theorem dX11_choose_133 : decode cX11_choose 133 = .ok (.iload 9, 2) := by decide +kernel
theorem dX11_choose_135 : decode cX11_choose 135 = .ok (.invokevirtual 375, 3) := by decide +kernel
theorem dX11_choose_138 : decode cX11_choose 138 = .ok (.istore 10, 2) := by decide +kernel
theorem dX11_choose_140 : decode cX11_choose 140 = .ok (.iload 6, 2) := by decide +kernel
theorem dX11_choose_142 : decode cX11_choose 142 = .ok (.iconst (-1), 1) := by decide +kernel
theorem dX11_choose_143 : decode cX11_choose 143 = .ok (.if_icmp .eq 13, 3) := by decide +kernel
theorem dX11_choose_146 : decode cX11_choose 146 = .ok (.iload 10, 2) := by decide +kernel
theorem dX11_choose_148 : decode cX11_choose 148 = .ok (.iload 6, 2) := by decide +kernel
theorem dX11_choose_150 : decode cX11_choose 150 = .ok (.if_icmp .lt 6, 3) := by decide +kernel
theorem dX11_choose_153 : decode cX11_choose 153 = .ok (.goto 15, 3) := by decide +kernel
theorem dX11_choose_156 : decode cX11_choose 156 = .ok (.iload 10, 2) := by decide +kernel
theorem dX11_choose_158 : decode cX11_choose 158 = .ok (.istore 6, 2) := by decide +kernel
theorem dX11_choose_160 : decode cX11_choose 160 = .ok (.iload 8, 2) := by decide +kernel
theorem dX11_choose_162 : decode cX11_choose 162 = .ok (.istore 4, 2) := by decide +kernel
theorem dX11_choose_164 : decode cX11_choose 164 = .ok (.iload 9, 2) := by decide +kernel
theorem dX11_choose_166 : decode cX11_choose 166 = .ok (.istore 5, 2) := by decide +kernel
theorem dX11_choose_168 : decode cX11_choose 168 = .ok (.iinc 8 8, 3) := by decide +kernel
theorem dX11_choose_171 : decode cX11_choose 171 = .ok (.goto (-90), 3) := by decide +kernel
theorem dX11_choose_174 : decode cX11_choose 174 = .ok (.iinc 7 1, 3) := by decide +kernel
theorem dX11_choose_177 : decode cX11_choose 177 = .ok (.goto (-106), 3) := by decide +kernel
theorem dX11_choose_180 : decode cX11_choose 180 = .ok (.iload_n 3, 1) := by decide +kernel
theorem dX11_choose_181 : decode cX11_choose 181 = .ok (.ifCond .ne 8, 3) := by decide +kernel
theorem dX11_choose_184 : decode cX11_choose 184 = .ok (.iload 4, 2) := by decide +kernel
theorem dX11_choose_186 : decode cX11_choose 186 = .ok (.goto 15, 3) := by decide +kernel
theorem dX11_choose_189 : decode cX11_choose 189 = .ok (.iload_n 3, 1) := by decide +kernel
theorem dX11_choose_190 : decode cX11_choose 190 = .ok (.iconst 1, 1) := by decide +kernel
theorem dX11_choose_191 : decode cX11_choose 191 = .ok (.if_icmp .ne 8, 3) := by decide +kernel
theorem dX11_choose_194 : decode cX11_choose 194 = .ok (.iload 5, 2) := by decide +kernel
theorem dX11_choose_196 : decode cX11_choose 196 = .ok (.goto 5, 3) := by decide +kernel
theorem dX11_choose_199 : decode cX11_choose 199 = .ok (.iload 6, 2) := by decide +kernel
theorem dX11_choose_201 : decode cX11_choose 201 = .ok (.ireturn, 1) := by decide +kernel
theorem dX11_liesBy_0 : decode cX11_liesBy 0 = .ok (.aload_n 0, 1) := by decide +kernel
theorem dX11_liesBy_1 : decode cX11_liesBy 1 = .ok (.iload_n 2, 1) := by decide +kernel
theorem dX11_liesBy_2 : decode cX11_liesBy 2 = .ok (.iload_n 3, 1) := by decide +kernel
theorem dX11_liesBy_3 : decode cX11_liesBy 3 = .ok (.invokevirtual 355, 3) := by decide +kernel
theorem dX11_liesBy_6 : decode cX11_liesBy 6 = .ok (.iconst 0, 1) := by decide +kernel
theorem dX11_liesBy_7 : decode cX11_liesBy 7 = .ok (.istore 4, 2) := by decide +kernel
theorem dX11_liesBy_9 : decode cX11_liesBy 9 = .ok (.iconst 0, 1) := by decide +kernel
theorem dX11_liesBy_10 : decode cX11_liesBy 10 = .ok (.istore 5, 2) := by decide +kernel
theorem dX11_liesBy_12 : decode cX11_liesBy 12 = .ok (.iload 5, 2) := by decide +kernel
theorem dX11_liesBy_14 : decode cX11_liesBy 14 = .ok (.aload_n 0, 1) := by decide +kernel
theorem dX11_liesBy_15 : decode cX11_liesBy 15 = .ok (.getfield 9, 3) := by decide +kernel
theorem dX11_liesBy_18 : decode cX11_liesBy 18 = .ok (.iconst 1, 1) := by decide +kernel
theorem dX11_liesBy_19 : decode cX11_liesBy 19 = .ok (.iaload, 1) := by decide +kernel
theorem dX11_liesBy_20 : decode cX11_liesBy 20 = .ok (.if_icmp .ge 40, 3) := by decide +kernel
theorem dX11_liesBy_23 : decode cX11_liesBy 23 = .ok (.iload 4, 2) := by decide +kernel
theorem dX11_liesBy_25 : decode cX11_liesBy 25 = .ok (.aload_n 0, 1) := by decide +kernel
theorem dX11_liesBy_26 : decode cX11_liesBy 26 = .ok (.iload_n 1, 1) := by decide +kernel
theorem dX11_liesBy_27 : decode cX11_liesBy 27 = .ok (.iload 5, 2) := by decide +kernel
theorem dX11_liesBy_29 : decode cX11_liesBy 29 = .ok (.invokevirtual 300, 3) := by decide +kernel
theorem dX11_liesBy_32 : decode cX11_liesBy 32 = .ok (.ifCond .ne 18, 3) := by decide +kernel
theorem dX11_liesBy_35 : decode cX11_liesBy 35 = .ok (.aload_n 0, 1) := by decide +kernel
theorem dX11_liesBy_36 : decode cX11_liesBy 36 = .ok (.iload_n 2, 1) := by decide +kernel
theorem dX11_liesBy_37 : decode cX11_liesBy 37 = .ok (.iload_n 3, 1) := by decide +kernel
theorem dX11_liesBy_38 : decode cX11_liesBy 38 = .ok (.iload 5, 2) := by decide +kernel
theorem dX11_liesBy_40 : decode cX11_liesBy 40 = .ok (.invokevirtual 358, 3) := by decide +kernel
theorem dX11_liesBy_43 : decode cX11_liesBy 43 = .ok (.ifCond .eq 7, 3) := by decide +kernel
theorem dX11_liesBy_46 : decode cX11_liesBy 46 = .ok (.iconst 1, 1) := by decide +kernel
theorem dX11_liesBy_47 : decode cX11_liesBy 47 = .ok (.goto 4, 3) := by decide +kernel
theorem dX11_liesBy_50 : decode cX11_liesBy 50 = .ok (.iconst 0, 1) := by decide +kernel
theorem dX11_liesBy_51 : decode cX11_liesBy 51 = .ok (.iadd, 1) := by decide +kernel
theorem dX11_liesBy_52 : decode cX11_liesBy 52 = .ok (.istore 4, 2) := by decide +kernel
theorem dX11_liesBy_54 : decode cX11_liesBy 54 = .ok (.iinc 5 1, 3) := by decide +kernel
theorem dX11_liesBy_57 : decode cX11_liesBy 57 = .ok (.goto (-45), 3) := by decide +kernel
theorem dX11_liesBy_60 : decode cX11_liesBy 60 = .ok (.iload 4, 2) := by decide +kernel
theorem dX11_liesBy_62 : decode cX11_liesBy 62 = .ok (.ireturn, 1) := by decide +kernel
theorem dX11_isTray_0 : decode cX11_isTray 0 = .ok (.iload_n 0, 1) := by decide +kernel
theorem dX11_isTray_1 : decode cX11_isTray 1 = .ok (.i2l, 1) := by decide +kernel
theorem dX11_isTray_2 : decode cX11_isTray 2 = .ok (.lconst 0, 1) := by decide +kernel
theorem dX11_isTray_3 : decode cX11_isTray 3 = .ok (.ldc2_w 235, 3) := by decide +kernel
theorem dX11_isTray_6 : decode cX11_isTray 6 = .ok (.invokestatic 157, 3) := by decide +kernel
theorem dX11_isTray_9 : decode cX11_isTray 9 = .ok (.ireturn, 1) := by decide +kernel
theorem dX11_tray_0 : decode cX11_tray 0 = .ok (.aload_n 0, 1) := by decide +kernel
theorem dX11_tray_1 : decode cX11_tray 1 = .ok (.iload_n 1, 1) := by decide +kernel
theorem dX11_tray_2 : decode cX11_tray 2 = .ok (.invokestatic 320, 3) := by decide +kernel
theorem dX11_tray_5 : decode cX11_tray 5 = .ok (.ifCond .ne 7, 3) := by decide +kernel
theorem dX11_tray_8 : decode cX11_tray 8 = .ok (.iconst 1, 1) := by decide +kernel
theorem dX11_tray_9 : decode cX11_tray 9 = .ok (.goto 32, 3) := by decide +kernel
theorem dX11_tray_12 : decode cX11_tray 12 = .ok (.iload_n 2, 1) := by decide +kernel
theorem dX11_tray_13 : decode cX11_tray 13 = .ok (.i2l, 1) := by decide +kernel
theorem dX11_tray_14 : decode cX11_tray 14 = .ok (.lconst 0, 1) := by decide +kernel
theorem dX11_tray_15 : decode cX11_tray 15 = .ok (.ldc2_w 235, 3) := by decide +kernel
theorem dX11_tray_18 : decode cX11_tray 18 = .ok (.invokestatic 157, 3) := by decide +kernel
theorem dX11_tray_21 : decode cX11_tray 21 = .ok (.ifCond .eq 15, 3) := by decide +kernel
theorem dX11_tray_24 : decode cX11_tray 24 = .ok (.iload_n 3, 1) := by decide +kernel
theorem dX11_tray_25 : decode cX11_tray 25 = .ok (.i2l, 1) := by decide +kernel
theorem dX11_tray_26 : decode cX11_tray 26 = .ok (.lconst 0, 1) := by decide +kernel
theorem dX11_tray_27 : decode cX11_tray 27 = .ok (.ldc2_w 378, 3) := by decide +kernel
theorem dX11_tray_30 : decode cX11_tray 30 = .ok (.invokestatic 157, 3) := by decide +kernel
theorem dX11_tray_33 : decode cX11_tray 33 = .ok (.ifCond .ne 7, 3) := by decide +kernel
theorem dX11_tray_36 : decode cX11_tray 36 = .ok (.iconst 2, 1) := by decide +kernel
theorem dX11_tray_37 : decode cX11_tray 37 = .ok (.goto 4, 3) := by decide +kernel
theorem dX11_tray_40 : decode cX11_tray 40 = .ok (.iconst 0, 1) := by decide +kernel
theorem dX11_tray_41 : decode cX11_tray 41 = .ok (.putfield 92, 3) := by decide +kernel
theorem dX11_tray_44 : decode cX11_tray 44 = .ok (.aload_n 0, 1) := by decide +kernel
theorem dX11_tray_45 : decode cX11_tray 45 = .ok (.getfield 92, 3) := by decide +kernel
theorem dX11_tray_48 : decode cX11_tray 48 = .ok (.ifCond .le 4, 3) := by decide +kernel
theorem dX11_tray_51 : decode cX11_tray 51 = .ok (.return_, 1) := by decide +kernel
theorem dX11_tray_52 : decode cX11_tray 52 = .ok (.aload_n 0, 1) := by decide +kernel
theorem dX11_tray_53 : decode cX11_tray 53 = .ok (.getfield 79, 3) := by decide +kernel
theorem dX11_tray_56 : decode cX11_tray 56 = .ok (.iload_n 1, 1) := by decide +kernel
theorem dX11_tray_57 : decode cX11_tray 57 = .ok (.iload_n 2, 1) := by decide +kernel
theorem dX11_tray_58 : decode cX11_tray 58 = .ok (.iastore, 1) := by decide +kernel
theorem dX11_tray_59 : decode cX11_tray 59 = .ok (.aload_n 0, 1) := by decide +kernel
theorem dX11_tray_60 : decode cX11_tray 60 = .ok (.getfield 82, 3) := by decide +kernel
theorem dX11_tray_63 : decode cX11_tray 63 = .ok (.iload_n 1, 1) := by decide +kernel
theorem dX11_tray_64 : decode cX11_tray 64 = .ok (.iload_n 3, 1) := by decide +kernel
theorem dX11_tray_65 : decode cX11_tray 65 = .ok (.iastore, 1) := by decide +kernel
theorem dX11_tray_66 : decode cX11_tray 66 = .ok (.iconst 0, 1) := by decide +kernel
theorem dX11_tray_67 : decode cX11_tray 67 = .ok (.istore 4, 2) := by decide +kernel
theorem dX11_tray_69 : decode cX11_tray 69 = .ok (.iload 4, 2) := by decide +kernel
theorem dX11_tray_71 : decode cX11_tray 71 = .ok (.bipush 40, 2) := by decide +kernel
theorem dX11_tray_73 : decode cX11_tray 73 = .ok (.if_icmp .ge 22, 3) := by decide +kernel
theorem dX11_tray_76 : decode cX11_tray 76 = .ok (.aload_n 0, 1) := by decide +kernel
theorem dX11_tray_77 : decode cX11_tray 77 = .ok (.getfield 85, 3) := by decide +kernel
theorem dX11_tray_80 : decode cX11_tray 80 = .ok (.bipush 40, 2) := by decide +kernel
theorem dX11_tray_82 : decode cX11_tray 82 = .ok (.iload_n 1, 1) := by decide +kernel
theorem dX11_tray_83 : decode cX11_tray 83 = .ok (.imul, 1) := by decide +kernel
theorem dX11_tray_84 : decode cX11_tray 84 = .ok (.iload 4, 2) := by decide +kernel
theorem dX11_tray_86 : decode cX11_tray 86 = .ok (.iadd, 1) := by decide +kernel
theorem dX11_tray_87 : decode cX11_tray 87 = .ok (.lconst 0, 1) := by decide +kernel
theorem dX11_tray_88 : decode cX11_tray 88 = .ok (.lastore, 1) := by decide +kernel
theorem dX11_tray_89 : decode cX11_tray 89 = .ok (.iinc 4 1, 3) := by decide +kernel
theorem dX11_tray_92 : decode cX11_tray 92 = .ok (.goto (-23), 3) := by decide +kernel
theorem dX11_tray_95 : decode cX11_tray 95 = .ok (.return_, 1) := by decide +kernel
theorem dX11_write_0 : decode cX11_write 0 = .ok (.aload_n 0, 1) := by decide +kernel
theorem dX11_write_1 : decode cX11_write 1 = .ok (.iconst 0, 1) := by decide +kernel
theorem dX11_write_2 : decode cX11_write 2 = .ok (.putfield 92, 3) := by decide +kernel
theorem dX11_write_5 : decode cX11_write 5 = .ok (.iload_n 1, 1) := by decide +kernel
theorem dX11_write_6 : decode cX11_write 6 = .ok (.invokestatic 320, 3) := by decide +kernel
theorem dX11_write_9 : decode cX11_write 9 = .ok (.ifCond .ne 10, 3) := by decide +kernel
theorem dX11_write_12 : decode cX11_write 12 = .ok (.aload_n 0, 1) := by decide +kernel
theorem dX11_write_13 : decode cX11_write 13 = .ok (.iconst 1, 1) := by decide +kernel
theorem dX11_write_14 : decode cX11_write 14 = .ok (.invokevirtual 201, 3) := by decide +kernel
theorem dX11_write_17 : decode cX11_write 17 = .ok (.i2l, 1) := by decide +kernel
theorem dX11_write_18 : decode cX11_write 18 = .ok (.lreturn, 1) := by decide +kernel
theorem dX11_write_19 : decode cX11_write 19 = .ok (.aload_n 0, 1) := by decide +kernel
theorem dX11_write_20 : decode cX11_write 20 = .ok (.getfield 79, 3) := by decide +kernel
theorem dX11_write_23 : decode cX11_write 23 = .ok (.iload_n 1, 1) := by decide +kernel
theorem dX11_write_24 : decode cX11_write 24 = .ok (.iaload, 1) := by decide +kernel
theorem dX11_write_25 : decode cX11_write 25 = .ok (.iconst (-1), 1) := by decide +kernel
theorem dX11_write_26 : decode cX11_write 26 = .ok (.if_icmp .ne 10, 3) := by decide +kernel
theorem dX11_write_29 : decode cX11_write 29 = .ok (.aload_n 0, 1) := by decide +kernel
theorem dX11_write_30 : decode cX11_write 30 = .ok (.iconst 2, 1) := by decide +kernel
theorem dX11_write_31 : decode cX11_write 31 = .ok (.invokevirtual 201, 3) := by decide +kernel
theorem dX11_write_34 : decode cX11_write 34 = .ok (.i2l, 1) := by decide +kernel
theorem dX11_write_35 : decode cX11_write 35 = .ok (.lreturn, 1) := by decide +kernel
theorem dX11_write_36 : decode cX11_write 36 = .ok (.iload_n 2, 1) := by decide +kernel
theorem dX11_write_37 : decode cX11_write 37 = .ok (.i2l, 1) := by decide +kernel
theorem dX11_write_38 : decode cX11_write 38 = .ok (.lconst 0, 1) := by decide +kernel
theorem dX11_write_39 : decode cX11_write 39 = .ok (.aload_n 0, 1) := by decide +kernel
theorem dX11_write_40 : decode cX11_write 40 = .ok (.getfield 82, 3) := by decide +kernel
theorem dX11_write_43 : decode cX11_write 43 = .ok (.iload_n 1, 1) := by decide +kernel
theorem dX11_write_44 : decode cX11_write 44 = .ok (.iaload, 1) := by decide +kernel
theorem dX11_write_45 : decode cX11_write 45 = .ok (.iconst 1, 1) := by decide +kernel
theorem dX11_write_46 : decode cX11_write 46 = .ok (.isub, 1) := by decide +kernel
theorem dX11_write_47 : decode cX11_write 47 = .ok (.i2l, 1) := by decide +kernel
theorem dX11_write_48 : decode cX11_write 48 = .ok (.invokestatic 157, 3) := by decide +kernel
theorem dX11_write_51 : decode cX11_write 51 = .ok (.ifCond .ne 10, 3) := by decide +kernel
theorem dX11_write_54 : decode cX11_write 54 = .ok (.aload_n 0, 1) := by decide +kernel
theorem dX11_write_55 : decode cX11_write 55 = .ok (.iconst 3, 1) := by decide +kernel
theorem dX11_write_56 : decode cX11_write 56 = .ok (.invokevirtual 201, 3) := by decide +kernel
theorem dX11_write_59 : decode cX11_write 59 = .ok (.i2l, 1) := by decide +kernel
theorem dX11_write_60 : decode cX11_write 60 = .ok (.lreturn, 1) := by decide +kernel
theorem dX11_write_61 : decode cX11_write 61 = .ok (.bipush 64, 2) := by decide +kernel
theorem dX11_write_63 : decode cX11_write 63 = .ok (.bipush 8, 2) := by decide +kernel
theorem dX11_write_65 : decode cX11_write 65 = .ok (.aload_n 0, 1) := by decide +kernel
theorem dX11_write_66 : decode cX11_write 66 = .ok (.getfield 79, 3) := by decide +kernel
theorem dX11_write_69 : decode cX11_write 69 = .ok (.iload_n 1, 1) := by decide +kernel
theorem dX11_write_70 : decode cX11_write 70 = .ok (.iaload, 1) := by decide +kernel
theorem dX11_write_71 : decode cX11_write 71 = .ok (.ishl, 1) := by decide +kernel
theorem dX11_write_72 : decode cX11_write 72 = .ok (.isub, 1) := by decide +kernel
theorem dX11_write_73 : decode cX11_write 73 = .ok (.istore 5, 2) := by decide +kernel
theorem dX11_write_75 : decode cX11_write 75 = .ok (.aload_n 0, 1) := by decide +kernel
theorem dX11_write_76 : decode cX11_write 76 = .ok (.getfield 85, 3) := by decide +kernel
theorem dX11_write_79 : decode cX11_write 79 = .ok (.bipush 40, 2) := by decide +kernel
theorem dX11_write_81 : decode cX11_write 81 = .ok (.iload_n 1, 1) := by decide +kernel
theorem dX11_write_82 : decode cX11_write 82 = .ok (.imul, 1) := by decide +kernel
theorem dX11_write_83 : decode cX11_write 83 = .ok (.iload_n 2, 1) := by decide +kernel
theorem dX11_write_84 : decode cX11_write 84 = .ok (.iadd, 1) := by decide +kernel
theorem dX11_write_85 : decode cX11_write 85 = .ok (.lload_n 3, 1) := by decide +kernel
theorem dX11_write_86 : decode cX11_write 86 = .ok (.iload 5, 2) := by decide +kernel
theorem dX11_write_88 : decode cX11_write 88 = .ok (.lshl, 1) := by decide +kernel
theorem dX11_write_89 : decode cX11_write 89 = .ok (.iload 5, 2) := by decide +kernel
theorem dX11_write_91 : decode cX11_write 91 = .ok (.lshr, 1) := by decide +kernel
theorem dX11_write_92 : decode cX11_write 92 = .ok (.lastore, 1) := by decide +kernel
theorem dX11_write_93 : decode cX11_write 93 = .ok (.aload_n 0, 1) := by decide +kernel
theorem dX11_write_94 : decode cX11_write 94 = .ok (.getfield 85, 3) := by decide +kernel
theorem dX11_write_97 : decode cX11_write 97 = .ok (.bipush 40, 2) := by decide +kernel
theorem dX11_write_99 : decode cX11_write 99 = .ok (.iload_n 1, 1) := by decide +kernel
theorem dX11_write_100 : decode cX11_write 100 = .ok (.imul, 1) := by decide +kernel
theorem dX11_write_101 : decode cX11_write 101 = .ok (.iload_n 2, 1) := by decide +kernel
theorem dX11_write_102 : decode cX11_write 102 = .ok (.iadd, 1) := by decide +kernel
theorem dX11_write_103 : decode cX11_write 103 = .ok (.laload, 1) := by decide +kernel
theorem dX11_write_104 : decode cX11_write 104 = .ok (.lreturn, 1) := by decide +kernel
theorem dX11_pour_0 : decode cX11_pour 0 = .ok (.aload_n 0, 1) := by decide +kernel
theorem dX11_pour_1 : decode cX11_pour 1 = .ok (.aload_n 0, 1) := by decide +kernel
theorem dX11_pour_2 : decode cX11_pour 2 = .ok (.iload_n 1, 1) := by decide +kernel
theorem dX11_pour_3 : decode cX11_pour 3 = .ok (.iload_n 2, 1) := by decide +kernel
theorem dX11_pour_4 : decode cX11_pour 4 = .ok (.invokevirtual 323, 3) := by decide +kernel
theorem dX11_pour_7 : decode cX11_pour 7 = .ok (.putfield 92, 3) := by decide +kernel
theorem dX11_pour_10 : decode cX11_pour 10 = .ok (.aload_n 0, 1) := by decide +kernel
theorem dX11_pour_11 : decode cX11_pour 11 = .ok (.getfield 92, 3) := by decide +kernel
theorem dX11_pour_14 : decode cX11_pour 14 = .ok (.ifCond .ne 28, 3) := by decide +kernel
theorem dX11_pour_17 : decode cX11_pour 17 = .ok (.aload_n 0, 1) := by decide +kernel
theorem dX11_pour_18 : decode cX11_pour 18 = .ok (.iload_n 1, 1) := by decide +kernel
theorem dX11_pour_19 : decode cX11_pour 19 = .ok (.iconst 0, 1) := by decide +kernel
theorem dX11_pour_20 : decode cX11_pour 20 = .ok (.invokevirtual 237, 3) := by decide +kernel
theorem dX11_pour_23 : decode cX11_pour 23 = .ok (.iconst 4, 1) := by decide +kernel
theorem dX11_pour_24 : decode cX11_pour 24 = .ok (.if_icmp .eq 13, 3) := by decide +kernel
theorem dX11_pour_27 : decode cX11_pour 27 = .ok (.aload_n 0, 1) := by decide +kernel
theorem dX11_pour_28 : decode cX11_pour 28 = .ok (.getfield 79, 3) := by decide +kernel
theorem dX11_pour_31 : decode cX11_pour 31 = .ok (.iload_n 2, 1) := by decide +kernel
theorem dX11_pour_32 : decode cX11_pour 32 = .ok (.iaload, 1) := by decide +kernel
theorem dX11_pour_33 : decode cX11_pour 33 = .ok (.iconst (-1), 1) := by decide +kernel
theorem dX11_pour_34 : decode cX11_pour 34 = .ok (.if_icmp .ne 8, 3) := by decide +kernel
theorem dX11_pour_37 : decode cX11_pour 37 = .ok (.aload_n 0, 1) := by decide +kernel
theorem dX11_pour_38 : decode cX11_pour 38 = .ok (.iconst 2, 1) := by decide +kernel
theorem dX11_pour_39 : decode cX11_pour 39 = .ok (.putfield 92, 3) := by decide +kernel
theorem dX11_pour_42 : decode cX11_pour 42 = .ok (.aload_n 0, 1) := by decide +kernel
theorem dX11_pour_43 : decode cX11_pour 43 = .ok (.getfield 92, 3) := by decide +kernel
theorem dX11_pour_46 : decode cX11_pour 46 = .ok (.ifCond .le 5, 3) := by decide +kernel
theorem dX11_pour_49 : decode cX11_pour 49 = .ok (.iconst 0, 1) := by decide +kernel
theorem dX11_pour_50 : decode cX11_pour 50 = .ok (.ireturn, 1) := by decide +kernel
theorem dX11_pour_51 : decode cX11_pour 51 = .ok (.iconst 0, 1) := by decide +kernel
theorem dX11_pour_52 : decode cX11_pour 52 = .ok (.istore_n 3, 1) := by decide +kernel
theorem dX11_pour_53 : decode cX11_pour 53 = .ok (.iload_n 3, 1) := by decide +kernel
theorem dX11_pour_54 : decode cX11_pour 54 = .ok (.aload_n 0, 1) := by decide +kernel
theorem dX11_pour_55 : decode cX11_pour 55 = .ok (.getfield 82, 3) := by decide +kernel
theorem dX11_pour_58 : decode cX11_pour 58 = .ok (.iload_n 2, 1) := by decide +kernel
theorem dX11_pour_59 : decode cX11_pour 59 = .ok (.iaload, 1) := by decide +kernel
theorem dX11_pour_60 : decode cX11_pour 60 = .ok (.if_icmp .ge 42, 3) := by decide +kernel
theorem dX11_pour_63 : decode cX11_pour 63 = .ok (.aload_n 0, 1) := by decide +kernel
theorem dX11_pour_64 : decode cX11_pour 64 = .ok (.aload_n 0, 1) := by decide +kernel
theorem dX11_pour_65 : decode cX11_pour 65 = .ok (.getfield 85, 3) := by decide +kernel
theorem dX11_pour_68 : decode cX11_pour 68 = .ok (.bipush 40, 2) := by decide +kernel
theorem dX11_pour_70 : decode cX11_pour 70 = .ok (.iload_n 2, 1) := by decide +kernel
theorem dX11_pour_71 : decode cX11_pour 71 = .ok (.imul, 1) := by decide +kernel
theorem dX11_pour_72 : decode cX11_pour 72 = .ok (.iload_n 3, 1) := by decide +kernel
theorem dX11_pour_73 : decode cX11_pour 73 = .ok (.iadd, 1) := by decide +kernel
theorem dX11_pour_74 : decode cX11_pour 74 = .ok (.laload, 1) := by decide +kernel
theorem dX11_pour_75 : decode cX11_pour 75 = .ok (.invokevirtual 228, 3) := by decide +kernel
theorem dX11_pour_78 : decode cX11_pour 78 = .ok (.ifCond .eq 24, 3) := by decide +kernel
theorem dX11_pour_81 : decode cX11_pour 81 = .ok (.aload_n 0, 1) := by decide +kernel
theorem dX11_pour_82 : decode cX11_pour 82 = .ok (.iload_n 1, 1) := by decide +kernel
theorem dX11_pour_83 : decode cX11_pour 83 = .ok (.aload_n 0, 1) := by decide +kernel
theorem dX11_pour_84 : decode cX11_pour 84 = .ok (.iload_n 2, 1) := by decide +kernel
theorem dX11_pour_85 : decode cX11_pour 85 = .ok (.iload_n 3, 1) := by decide +kernel
theorem dX11_pour_86 : decode cX11_pour 86 = .ok (.invokevirtual 330, 3) := by decide +kernel
theorem dX11_pour_89 : decode cX11_pour 89 = .ok (.invokevirtual 309, 3) := by decide +kernel
theorem dX11_pour_92 : decode cX11_pour 92 = .ok (.iconst (-1), 1) := by decide +kernel
theorem dX11_pour_93 : decode cX11_pour 93 = .ok (.if_icmp .eq 9, 3) := by decide +kernel
theorem dX11_pour_96 : decode cX11_pour 96 = .ok (.iinc 3 1, 3) := by decide +kernel
theorem dX11_pour_99 : decode cX11_pour 99 = .ok (.goto (-46), 3) := by decide +kernel
theorem dX11_pour_102 : decode cX11_pour 102 = .ok (.iload_n 3, 1) := by decide +kernel
theorem dX11_pour_103 : decode cX11_pour 103 = .ok (.ireturn, 1) := by decide +kernel
theorem dX11_image_0 : decode cX11_image 0 = .ok (.aload_n 0, 1) := by decide +kernel
theorem dX11_image_1 : decode cX11_image 1 = .ok (.iload_n 1, 1) := by decide +kernel
theorem dX11_image_2 : decode cX11_image 2 = .ok (.i2l, 1) := by decide +kernel
theorem dX11_image_3 : decode cX11_image 3 = .ok (.lconst 0, 1) := by decide +kernel
theorem dX11_image_4 : decode cX11_image 4 = .ok (.ldc2_w 348, 3) := by decide +kernel
theorem dX11_image_7 : decode cX11_image 7 = .ok (.invokestatic 157, 3) := by decide +kernel
theorem dX11_image_10 : decode cX11_image 10 = .ok (.ifCond .eq 7, 3) := by decide +kernel
theorem dX11_image_13 : decode cX11_image 13 = .ok (.iconst 0, 1) := by decide +kernel
theorem dX11_image_14 : decode cX11_image 14 = .ok (.goto 4, 3) := by decide +kernel
theorem dX11_image_17 : decode cX11_image 17 = .ok (.iconst 1, 1) := by decide +kernel
theorem dX11_image_18 : decode cX11_image 18 = .ok (.putfield 92, 3) := by decide +kernel
theorem dX11_image_21 : decode cX11_image 21 = .ok (.aload_n 0, 1) := by decide +kernel
theorem dX11_image_22 : decode cX11_image 22 = .ok (.getfield 92, 3) := by decide +kernel
theorem dX11_image_25 : decode cX11_image 25 = .ok (.ifCond .le 4, 3) := by decide +kernel
theorem dX11_image_28 : decode cX11_image 28 = .ok (.return_, 1) := by decide +kernel
theorem dX11_image_29 : decode cX11_image 29 = .ok (.aload_n 0, 1) := by decide +kernel
theorem dX11_image_30 : decode cX11_image 30 = .ok (.getfield 22, 3) := by decide +kernel
theorem dX11_image_33 : decode cX11_image 33 = .ok (.iload_n 1, 1) := by decide +kernel
theorem dX11_image_34 : decode cX11_image 34 = .ok (.iconst 1, 1) := by decide +kernel
theorem dX11_image_35 : decode cX11_image 35 = .ok (.bastore, 1) := by decide +kernel
theorem dX11_image_36 : decode cX11_image 36 = .ok (.iconst 0, 1) := by decide +kernel
theorem dX11_image_37 : decode cX11_image 37 = .ok (.istore_n 2, 1) := by decide +kernel
theorem dX11_image_38 : decode cX11_image 38 = .ok (.iload_n 2, 1) := by decide +kernel
theorem dX11_image_39 : decode cX11_image 39 = .ok (.sipush 3268, 3) := by decide +kernel
theorem dX11_image_42 : decode cX11_image 42 = .ok (.if_icmp .ge 27, 3) := by decide +kernel
theorem dX11_image_45 : decode cX11_image 45 = .ok (.aload_n 0, 1) := by decide +kernel
theorem dX11_image_46 : decode cX11_image 46 = .ok (.getfield 16, 3) := by decide +kernel
theorem dX11_image_49 : decode cX11_image 49 = .ok (.sipush 3268, 3) := by decide +kernel
theorem dX11_image_52 : decode cX11_image 52 = .ok (.iload_n 1, 1) := by decide +kernel
theorem dX11_image_53 : decode cX11_image 53 = .ok (.imul, 1) := by decide +kernel
theorem dX11_image_54 : decode cX11_image 54 = .ok (.iload_n 2, 1) := by decide +kernel
theorem dX11_image_55 : decode cX11_image 55 = .ok (.iadd, 1) := by decide +kernel
theorem dX11_image_56 : decode cX11_image 56 = .ok (.aload_n 0, 1) := by decide +kernel
theorem dX11_image_57 : decode cX11_image 57 = .ok (.getfield 9, 3) := by decide +kernel
theorem dX11_image_60 : decode cX11_image 60 = .ok (.iload_n 2, 1) := by decide +kernel
theorem dX11_image_61 : decode cX11_image 61 = .ok (.iaload, 1) := by decide +kernel
theorem dX11_image_62 : decode cX11_image 62 = .ok (.iastore, 1) := by decide +kernel
theorem dX11_image_63 : decode cX11_image 63 = .ok (.iinc 2 1, 3) := by decide +kernel
theorem dX11_image_66 : decode cX11_image 66 = .ok (.goto (-28), 3) := by decide +kernel
theorem dX11_image_69 : decode cX11_image 69 = .ok (.return_, 1) := by decide +kernel
theorem dX11_restore_0 : decode cX11_restore 0 = .ok (.aload_n 0, 1) := by decide +kernel
theorem dX11_restore_1 : decode cX11_restore 1 = .ok (.iload_n 1, 1) := by decide +kernel
theorem dX11_restore_2 : decode cX11_restore 2 = .ok (.i2l, 1) := by decide +kernel
theorem dX11_restore_3 : decode cX11_restore 3 = .ok (.lconst 0, 1) := by decide +kernel
theorem dX11_restore_4 : decode cX11_restore 4 = .ok (.ldc2_w 348, 3) := by decide +kernel
theorem dX11_restore_7 : decode cX11_restore 7 = .ok (.invokestatic 157, 3) := by decide +kernel
theorem dX11_restore_10 : decode cX11_restore 10 = .ok (.ifCond .ne 7, 3) := by decide +kernel
theorem dX11_restore_13 : decode cX11_restore 13 = .ok (.iconst 1, 1) := by decide +kernel
theorem dX11_restore_14 : decode cX11_restore 14 = .ok (.goto 17, 3) := by decide +kernel
theorem dX11_restore_17 : decode cX11_restore 17 = .ok (.aload_n 0, 1) := by decide +kernel
theorem dX11_restore_18 : decode cX11_restore 18 = .ok (.getfield 22, 3) := by decide +kernel
theorem dX11_restore_21 : decode cX11_restore 21 = .ok (.iload_n 1, 1) := by decide +kernel
theorem dX11_restore_22 : decode cX11_restore 22 = .ok (.baload, 1) := by decide +kernel
theorem dX11_restore_23 : decode cX11_restore 23 = .ok (.ifCond .ne 7, 3) := by decide +kernel
theorem dX11_restore_26 : decode cX11_restore 26 = .ok (.iconst 2, 1) := by decide +kernel
theorem dX11_restore_27 : decode cX11_restore 27 = .ok (.goto 4, 3) := by decide +kernel
theorem dX11_restore_30 : decode cX11_restore 30 = .ok (.iconst 0, 1) := by decide +kernel
theorem dX11_restore_31 : decode cX11_restore 31 = .ok (.putfield 92, 3) := by decide +kernel
theorem dX11_restore_34 : decode cX11_restore 34 = .ok (.aload_n 0, 1) := by decide +kernel
theorem dX11_restore_35 : decode cX11_restore 35 = .ok (.getfield 92, 3) := by decide +kernel
theorem dX11_restore_38 : decode cX11_restore 38 = .ok (.ifCond .le 4, 3) := by decide +kernel
theorem dX11_restore_41 : decode cX11_restore 41 = .ok (.return_, 1) := by decide +kernel
theorem dX11_restore_42 : decode cX11_restore 42 = .ok (.iconst 0, 1) := by decide +kernel
theorem dX11_restore_43 : decode cX11_restore 43 = .ok (.istore_n 2, 1) := by decide +kernel
theorem dX11_restore_44 : decode cX11_restore 44 = .ok (.iload_n 2, 1) := by decide +kernel
theorem dX11_restore_45 : decode cX11_restore 45 = .ok (.sipush 3268, 3) := by decide +kernel
theorem dX11_restore_48 : decode cX11_restore 48 = .ok (.if_icmp .ge 27, 3) := by decide +kernel
theorem dX11_restore_51 : decode cX11_restore 51 = .ok (.aload_n 0, 1) := by decide +kernel
theorem dX11_restore_52 : decode cX11_restore 52 = .ok (.getfield 9, 3) := by decide +kernel
theorem dX11_restore_55 : decode cX11_restore 55 = .ok (.iload_n 2, 1) := by decide +kernel
theorem dX11_restore_56 : decode cX11_restore 56 = .ok (.aload_n 0, 1) := by decide +kernel
theorem dX11_restore_57 : decode cX11_restore 57 = .ok (.getfield 16, 3) := by decide +kernel
theorem dX11_restore_60 : decode cX11_restore 60 = .ok (.sipush 3268, 3) := by decide +kernel
theorem dX11_restore_63 : decode cX11_restore 63 = .ok (.iload_n 1, 1) := by decide +kernel
theorem dX11_restore_64 : decode cX11_restore 64 = .ok (.imul, 1) := by decide +kernel
theorem dX11_restore_65 : decode cX11_restore 65 = .ok (.iload_n 2, 1) := by decide +kernel
theorem dX11_restore_66 : decode cX11_restore 66 = .ok (.iadd, 1) := by decide +kernel
theorem dX11_restore_67 : decode cX11_restore 67 = .ok (.iaload, 1) := by decide +kernel
theorem dX11_restore_68 : decode cX11_restore 68 = .ok (.iastore, 1) := by decide +kernel
theorem dX11_restore_69 : decode cX11_restore 69 = .ok (.iinc 2 1, 3) := by decide +kernel
theorem dX11_restore_72 : decode cX11_restore 72 = .ok (.goto (-28), 3) := by decide +kernel
theorem dX11_restore_75 : decode cX11_restore 75 = .ok (.return_, 1) := by decide +kernel
theorem dX11_count_0 : decode cX11_count 0 = .ok (.aload_n 0, 1) := by decide +kernel
theorem dX11_count_1 : decode cX11_count 1 = .ok (.iconst 0, 1) := by decide +kernel
theorem dX11_count_2 : decode cX11_count 2 = .ok (.putfield 92, 3) := by decide +kernel
theorem dX11_count_5 : decode cX11_count 5 = .ok (.iconst 0, 1) := by decide +kernel
theorem dX11_count_6 : decode cX11_count 6 = .ok (.istore_n 2, 1) := by decide +kernel
theorem dX11_count_7 : decode cX11_count 7 = .ok (.iconst 0, 1) := by decide +kernel
theorem dX11_count_8 : decode cX11_count 8 = .ok (.istore_n 3, 1) := by decide +kernel
theorem dX11_count_9 : decode cX11_count 9 = .ok (.iload_n 3, 1) := by decide +kernel
theorem dX11_count_10 : decode cX11_count 10 = .ok (.iconst 4, 1) := by decide +kernel
theorem dX11_count_11 : decode cX11_count 11 = .ok (.if_icmp .ge 27, 3) := by decide +kernel
theorem dX11_count_14 : decode cX11_count 14 = .ok (.iload_n 2, 1) := by decide +kernel
theorem dX11_count_15 : decode cX11_count 15 = .ok (.aload_n 0, 1) := by decide +kernel
theorem dX11_count_16 : decode cX11_count 16 = .ok (.iload_n 3, 1) := by decide +kernel
theorem dX11_count_17 : decode cX11_count 17 = .ok (.invokevirtual 256, 3) := by decide +kernel
theorem dX11_count_20 : decode cX11_count 20 = .ok (.ifCond .eq 9, 3) := by decide +kernel
theorem dX11_count_23 : decode cX11_count 23 = .ok (.iconst 1, 1) := by decide +kernel
theorem dX11_count_24 : decode cX11_count 24 = .ok (.iload_n 3, 1) := by decide +kernel
theorem dX11_count_25 : decode cX11_count 25 = .ok (.ishl, 1) := by decide +kernel
theorem dX11_count_26 : decode cX11_count 26 = .ok (.goto 4, 3) := by decide +kernel
theorem dX11_count_29 : decode cX11_count 29 = .ok (.iconst 0, 1) := by decide +kernel
theorem dX11_count_30 : decode cX11_count 30 = .ok (.ior, 1) := by decide +kernel
theorem dX11_count_31 : decode cX11_count 31 = .ok (.istore_n 2, 1) := by decide +kernel
theorem dX11_count_32 : decode cX11_count 32 = .ok (.iinc 3 1, 3) := by decide +kernel
theorem dX11_count_35 : decode cX11_count 35 = .ok (.goto (-26), 3) := by decide +kernel
theorem dX11_count_38 : decode cX11_count 38 = .ok (.iload_n 1, 1) := by decide +kernel
theorem dX11_count_39 : decode cX11_count 39 = .ok (.i2l, 1) := by decide +kernel
theorem dX11_count_40 : decode cX11_count 40 = .ok (.lconst 0, 1) := by decide +kernel
theorem dX11_count_41 : decode cX11_count 41 = .ok (.ldc2_w 235, 3) := by decide +kernel
theorem dX11_count_44 : decode cX11_count 44 = .ok (.invokestatic 157, 3) := by decide +kernel
theorem dX11_count_47 : decode cX11_count 47 = .ok (.ifCond .eq 12, 3) := by decide +kernel
theorem dX11_count_50 : decode cX11_count 50 = .ok (.aload_n 0, 1) := by decide +kernel
theorem dX11_count_51 : decode cX11_count 51 = .ok (.getfield 9, 3) := by decide +kernel
theorem dX11_count_54 : decode cX11_count 54 = .ok (.iload_n 1, 1) := by decide +kernel
theorem dX11_count_55 : decode cX11_count 55 = .ok (.iaload, 1) := by decide +kernel
theorem dX11_count_56 : decode cX11_count 56 = .ok (.goto 25, 3) := by decide +kernel
theorem dX11_count_59 : decode cX11_count 59 = .ok (.iload_n 1, 1) := by decide +kernel
theorem dX11_count_60 : decode cX11_count 60 = .ok (.iconst 4, 1) := by decide +kernel
theorem dX11_count_61 : decode cX11_count 61 = .ok (.if_icmp .ne 7, 3) := by decide +kernel
theorem dX11_count_64 : decode cX11_count 64 = .ok (.iload_n 2, 1) := by decide +kernel
theorem dX11_count_65 : decode cX11_count 65 = .ok (.goto 16, 3) := by decide +kernel
theorem dX11_count_68 : decode cX11_count 68 = .ok (.iload_n 1, 1) := by decide +kernel
theorem dX11_count_69 : decode cX11_count 69 = .ok (.iconst 5, 1) := by decide +kernel
theorem dX11_count_70 : decode cX11_count 70 = .ok (.if_icmp .ne 10, 3) := by decide +kernel
theorem dX11_count_73 : decode cX11_count 73 = .ok (.aload_n 0, 1) := by decide +kernel
theorem dX11_count_74 : decode cX11_count 74 = .ok (.getfield 95, 3) := by decide +kernel
theorem dX11_count_77 : decode cX11_count 77 = .ok (.goto 4, 3) := by decide +kernel
theorem dX11_count_80 : decode cX11_count 80 = .ok (.iconst (-1), 1) := by decide +kernel
theorem dX11_count_81 : decode cX11_count 81 = .ok (.ireturn, 1) := by decide +kernel
