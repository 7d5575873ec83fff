theorem dX11_init_0 : decode cX11_init 0 = .ok (.aload_n 0, 1) := by decide +kernel
theorem dX11_init_1 : decode cX11_init 1 = .ok (.invokespecial 1, 3) := by decide +kernel
theorem dX11_init_4 : decode cX11_init 4 = .ok (.aload_n 0, 1) := by decide +kernel
theorem dX11_init_5 : decode cX11_init 5 = .ok (.iconst 4, 1) := by decide +kernel
theorem dX11_init_6 : decode cX11_init 6 = .ok (.newarray .int, 2) := by decide +kernel
theorem dX11_init_8 : decode cX11_init 8 = .ok (.putfield 7, 3) := by decide +kernel
theorem dX11_init_11 : decode cX11_init 11 = .ok (.aload_n 0, 1) := by decide +kernel
theorem dX11_init_12 : decode cX11_init 12 = .ok (.iconst 4, 1) := by decide +kernel
theorem dX11_init_13 : decode cX11_init 13 = .ok (.newarray .int, 2) := by decide +kernel
theorem dX11_init_15 : decode cX11_init 15 = .ok (.putfield 13, 3) := by decide +kernel
theorem dX11_init_18 : decode cX11_init 18 = .ok (.aload_n 0, 1) := by decide +kernel
theorem dX11_init_19 : decode cX11_init 19 = .ok (.bipush 16, 2) := by decide +kernel
theorem dX11_init_21 : decode cX11_init 21 = .ok (.newarray .int, 2) := by decide +kernel
theorem dX11_init_23 : decode cX11_init 23 = .ok (.putfield 16, 3) := by decide +kernel
theorem dX11_init_26 : decode cX11_init 26 = .ok (.aload_n 0, 1) := by decide +kernel
theorem dX11_init_27 : decode cX11_init 27 = .ok (.bipush 16, 2) := by decide +kernel
theorem dX11_init_29 : decode cX11_init 29 = .ok (.newarray .int, 2) := by decide +kernel
theorem dX11_init_31 : decode cX11_init 31 = .ok (.putfield 19, 3) := by decide +kernel
theorem dX11_init_34 : decode cX11_init 34 = .ok (.aload_n 0, 1) := by decide +kernel
theorem dX11_init_35 : decode cX11_init 35 = .ok (.iconst 2, 1) := by decide +kernel
theorem dX11_init_36 : decode cX11_init 36 = .ok (.newarray .int, 2) := by decide +kernel
theorem dX11_init_38 : decode cX11_init 38 = .ok (.putfield 22, 3) := by decide +kernel
theorem dX11_init_41 : decode cX11_init 41 = .ok (.aload_n 0, 1) := by decide +kernel
theorem dX11_init_42 : decode cX11_init 42 = .ok (.iconst 3, 1) := by decide +kernel
theorem dX11_init_43 : decode cX11_init 43 = .ok (.putfield 25, 3) := by decide +kernel
theorem dX11_init_46 : decode cX11_init 46 = .ok (.aload_n 0, 1) := by decide +kernel
theorem dX11_init_47 : decode cX11_init 47 = .ok (.bipush 6, 2) := by decide +kernel
theorem dX11_init_49 : decode cX11_init 49 = .ok (.newarray .int, 2) := by decide +kernel
theorem dX11_init_51 : decode cX11_init 51 = .ok (.putfield 29, 3) := by decide +kernel
theorem dX11_init_54 : decode cX11_init 54 = .ok (.aload_n 0, 1) := by decide +kernel
theorem dX11_init_55 : decode cX11_init 55 = .ok (.bipush 6, 2) := by decide +kernel
theorem dX11_init_57 : decode cX11_init 57 = .ok (.newarray .int, 2) := by decide +kernel
theorem dX11_init_59 : decode cX11_init 59 = .ok (.putfield 32, 3) := by decide +kernel
theorem dX11_init_62 : decode cX11_init 62 = .ok (.aload_n 0, 1) := by decide +kernel
theorem dX11_init_63 : decode cX11_init 63 = .ok (.bipush 6, 2) := by decide +kernel
theorem dX11_init_65 : decode cX11_init 65 = .ok (.newarray .int, 2) := by decide +kernel
theorem dX11_init_67 : decode cX11_init 67 = .ok (.putfield 35, 3) := by decide +kernel
theorem dX11_init_70 : decode cX11_init 70 = .ok (.aload_n 0, 1) := by decide +kernel
theorem dX11_init_71 : decode cX11_init 71 = .ok (.bipush 6, 2) := by decide +kernel
theorem dX11_init_73 : decode cX11_init 73 = .ok (.newarray .int, 2) := by decide +kernel
theorem dX11_init_75 : decode cX11_init 75 = .ok (.putfield 38, 3) := by decide +kernel
theorem dX11_init_78 : decode cX11_init 78 = .ok (.aload_n 0, 1) := by decide +kernel
theorem dX11_init_79 : decode cX11_init 79 = .ok (.bipush 16, 2) := by decide +kernel
theorem dX11_init_81 : decode cX11_init 81 = .ok (.newarray .int, 2) := by decide +kernel
theorem dX11_init_83 : decode cX11_init 83 = .ok (.putfield 41, 3) := by decide +kernel
theorem dX11_init_86 : decode cX11_init 86 = .ok (.aload_n 0, 1) := by decide +kernel
theorem dX11_init_87 : decode cX11_init 87 = .ok (.bipush 16, 2) := by decide +kernel
theorem dX11_init_89 : decode cX11_init 89 = .ok (.newarray .int, 2) := by decide +kernel
theorem dX11_init_91 : decode cX11_init 91 = .ok (.putfield 44, 3) := by decide +kernel
theorem dX11_init_94 : decode cX11_init 94 = .ok (.aload_n 0, 1) := by decide +kernel
theorem dX11_init_95 : decode cX11_init 95 = .ok (.bipush 16, 2) := by decide +kernel
theorem dX11_init_97 : decode cX11_init 97 = .ok (.newarray .int, 2) := by decide +kernel
theorem dX11_init_99 : decode cX11_init 99 = .ok (.putfield 47, 3) := by decide +kernel
theorem dX11_init_102 : decode cX11_init 102 = .ok (.aload_n 0, 1) := by decide +kernel
theorem dX11_init_103 : decode cX11_init 103 = .ok (.bipush 16, 2) := by decide +kernel
theorem dX11_init_105 : decode cX11_init 105 = .ok (.newarray .int, 2) := by decide +kernel
theorem dX11_init_107 : decode cX11_init 107 = .ok (.putfield 50, 3) := by decide +kernel
theorem dX11_init_110 : decode cX11_init 110 = .ok (.aload_n 0, 1) := by decide +kernel
theorem dX11_init_111 : decode cX11_init 111 = .ok (.bipush 16, 2) := by decide +kernel
theorem dX11_init_113 : decode cX11_init 113 = .ok (.newarray .int, 2) := by decide +kernel
theorem dX11_init_115 : decode cX11_init 115 = .ok (.putfield 53, 3) := by decide +kernel
theorem dX11_init_118 : decode cX11_init 118 = .ok (.aload_n 0, 1) := by decide +kernel
theorem dX11_init_119 : decode cX11_init 119 = .ok (.bipush 40, 2) := by decide +kernel
theorem dX11_init_121 : decode cX11_init 121 = .ok (.newarray .int, 2) := by decide +kernel
theorem dX11_init_123 : decode cX11_init 123 = .ok (.putfield 56, 3) := by decide +kernel
theorem dX11_init_126 : decode cX11_init 126 = .ok (.aload_n 0, 1) := by decide +kernel
theorem dX11_init_127 : decode cX11_init 127 = .ok (.ldc 59, 2) := by decide +kernel
theorem dX11_init_129 : decode cX11_init 129 = .ok (.newarray .byte, 2) := by decide +kernel
theorem dX11_init_131 : decode cX11_init 131 = .ok (.putfield 60, 3) := by decide +kernel
theorem dX11_init_134 : decode cX11_init 134 = .ok (.aload_n 0, 1) := by decide +kernel
theorem dX11_init_135 : decode cX11_init 135 = .ok (.sipush 4000, 3) := by decide +kernel
theorem dX11_init_138 : decode cX11_init 138 = .ok (.newarray .byte, 2) := by decide +kernel
theorem dX11_init_140 : decode cX11_init 140 = .ok (.putfield 64, 3) := by decide +kernel
theorem dX11_init_143 : decode cX11_init 143 = .ok (.aload_n 0, 1) := by decide +kernel
theorem dX11_init_144 : decode cX11_init 144 = .ok (.sipush 4000, 3) := by decide +kernel
theorem dX11_init_147 : decode cX11_init 147 = .ok (.newarray .int, 2) := by decide +kernel
theorem dX11_init_149 : decode cX11_init 149 = .ok (.putfield 67, 3) := by decide +kernel
theorem dX11_init_152 : decode cX11_init 152 = .ok (.aload_n 0, 1) := by decide +kernel
theorem dX11_init_153 : decode cX11_init 153 = .ok (.sipush 4000, 3) := by decide +kernel
theorem dX11_init_156 : decode cX11_init 156 = .ok (.newarray .boolean, 2) := by decide +kernel
theorem dX11_init_158 : decode cX11_init 158 = .ok (.putfield 70, 3) := by decide +kernel
theorem dX11_init_161 : decode cX11_init 161 = .ok (.aload_n 0, 1) := by decide +kernel
theorem dX11_init_162 : decode cX11_init 162 = .ok (.ldc 74, 2) := by decide +kernel
theorem dX11_init_164 : decode cX11_init 164 = .ok (.newarray .byte, 2) := by decide +kernel
theorem dX11_init_166 : decode cX11_init 166 = .ok (.putfield 75, 3) := by decide +kernel
theorem dX11_init_169 : decode cX11_init 169 = .ok (.aload_n 0, 1) := by decide +kernel
theorem dX11_init_170 : decode cX11_init 170 = .ok (.sipush 4000, 3) := by decide +kernel
theorem dX11_init_173 : decode cX11_init 173 = .ok (.newarray .byte, 2) := by decide +kernel
theorem dX11_init_175 : decode cX11_init 175 = .ok (.putfield 78, 3) := by decide +kernel
theorem dX11_init_178 : decode cX11_init 178 = .ok (.aload_n 0, 1) := by decide +kernel
theorem dX11_init_179 : decode cX11_init 179 = .ok (.sipush 4000, 3) := by decide +kernel
theorem dX11_init_182 : decode cX11_init 182 = .ok (.newarray .byte, 2) := by decide +kernel
theorem dX11_init_184 : decode cX11_init 184 = .ok (.putfield 81, 3) := by decide +kernel
theorem dX11_init_187 : decode cX11_init 187 = .ok (.aload_n 0, 1) := by decide +kernel
theorem dX11_init_188 : decode cX11_init 188 = .ok (.sipush 4000, 3) := by decide +kernel
theorem dX11_init_191 : decode cX11_init 191 = .ok (.newarray .byte, 2) := by decide +kernel
theorem dX11_init_193 : decode cX11_init 193 = .ok (.putfield 84, 3) := by decide +kernel
theorem dX11_init_196 : decode cX11_init 196 = .ok (.aload_n 0, 1) := by decide +kernel
theorem dX11_init_197 : decode cX11_init 197 = .ok (.sipush 4000, 3) := by decide +kernel
theorem dX11_init_200 : decode cX11_init 200 = .ok (.newarray .int, 2) := by decide +kernel
theorem dX11_init_202 : decode cX11_init 202 = .ok (.putfield 87, 3) := by decide +kernel
theorem dX11_init_205 : decode cX11_init 205 = .ok (.aload_n 0, 1) := by decide +kernel
theorem dX11_init_206 : decode cX11_init 206 = .ok (.sipush 4000, 3) := by decide +kernel
theorem dX11_init_209 : decode cX11_init 209 = .ok (.newarray .int, 2) := by decide +kernel
theorem dX11_init_211 : decode cX11_init 211 = .ok (.putfield 90, 3) := by decide +kernel
theorem dX11_init_214 : decode cX11_init 214 = .ok (.aload_n 0, 1) := by decide +kernel
theorem dX11_init_215 : decode cX11_init 215 = .ok (.bipush 41, 2) := by decide +kernel
theorem dX11_init_217 : decode cX11_init 217 = .ok (.newarray .int, 2) := by decide +kernel
theorem dX11_init_219 : decode cX11_init 219 = .ok (.putfield 93, 3) := by decide +kernel
theorem dX11_init_222 : decode cX11_init 222 = .ok (.aload_n 0, 1) := by decide +kernel
theorem dX11_init_223 : decode cX11_init 223 = .ok (.iconst 5, 1) := by decide +kernel
theorem dX11_init_224 : decode cX11_init 224 = .ok (.newarray .int, 2) := by decide +kernel
theorem dX11_init_226 : decode cX11_init 226 = .ok (.putfield 96, 3) := by decide +kernel
theorem dX11_init_229 : decode cX11_init 229 = .ok (.aload_n 0, 1) := by decide +kernel
theorem dX11_init_230 : decode cX11_init 230 = .ok (.iconst 2, 1) := by decide +kernel
theorem dX11_init_231 : decode cX11_init 231 = .ok (.newarray .int, 2) := by decide +kernel
theorem dX11_init_233 : decode cX11_init 233 = .ok (.putfield 99, 3) := by decide +kernel
theorem dX11_init_236 : decode cX11_init 236 = .ok (.aload_n 0, 1) := by decide +kernel
theorem dX11_init_237 : decode cX11_init 237 = .ok (.bipush 20, 2) := by decide +kernel
theorem dX11_init_239 : decode cX11_init 239 = .ok (.newarray .int, 2) := by decide +kernel
theorem dX11_init_241 : decode cX11_init 241 = .ok (.putfield 102, 3) := by decide +kernel
theorem dX11_init_244 : decode cX11_init 244 = .ok (.aload_n 0, 1) := by decide +kernel
theorem dX11_init_245 : decode cX11_init 245 = .ok (.bipush 25, 2) := by decide +kernel
theorem dX11_init_247 : decode cX11_init 247 = .ok (.newarray .boolean, 2) := by decide +kernel
theorem dX11_init_249 : decode cX11_init 249 = .ok (.putfield 105, 3) := by decide +kernel
theorem dX11_init_252 : decode cX11_init 252 = .ok (.aload_n 0, 1) := by decide +kernel
theorem dX11_init_253 : decode cX11_init 253 = .ok (.iconst 4, 1) := by decide +kernel
theorem dX11_init_254 : decode cX11_init 254 = .ok (.newarray .int, 2) := by decide +kernel
theorem dX11_init_256 : decode cX11_init 256 = .ok (.putfield 108, 3) := by decide +kernel
theorem dX11_init_259 : decode cX11_init 259 = .ok (.aload_n 0, 1) := by decide +kernel
theorem dX11_init_260 : decode cX11_init 260 = .ok (.iconst 4, 1) := by decide +kernel
theorem dX11_init_261 : decode cX11_init 261 = .ok (.newarray .boolean, 2) := by decide +kernel
theorem dX11_init_263 : decode cX11_init 263 = .ok (.putfield 111, 3) := by decide +kernel
theorem dX11_init_266 : decode cX11_init 266 = .ok (.aload_n 0, 1) := by decide +kernel
theorem dX11_init_267 : decode cX11_init 267 = .ok (.iconst 2, 1) := by decide +kernel
theorem dX11_init_268 : decode cX11_init 268 = .ok (.newarray .boolean, 2) := by decide +kernel
theorem dX11_init_270 : decode cX11_init 270 = .ok (.putfield 114, 3) := by decide +kernel
theorem dX11_init_273 : decode cX11_init 273 = .ok (.aload_n 0, 1) := by decide +kernel
theorem dX11_init_274 : decode cX11_init 274 = .ok (.bipush 20, 2) := by decide +kernel
theorem dX11_init_276 : decode cX11_init 276 = .ok (.newarray .boolean, 2) := by decide +kernel
theorem dX11_init_278 : decode cX11_init 278 = .ok (.putfield 117, 3) := by decide +kernel
theorem dX11_init_281 : decode cX11_init 281 = .ok (.aload_n 0, 1) := by decide +kernel
theorem dX11_init_282 : decode cX11_init 282 = .ok (.iconst 5, 1) := by decide +kernel
theorem dX11_init_283 : decode cX11_init 283 = .ok (.newarray .int, 2) := by decide +kernel
theorem dX11_init_285 : decode cX11_init 285 = .ok (.putfield 120, 3) := by decide +kernel
theorem dX11_init_288 : decode cX11_init 288 = .ok (.aload_n 0, 1) := by decide +kernel
theorem dX11_init_289 : decode cX11_init 289 = .ok (.bipush 20, 2) := by decide +kernel
theorem dX11_init_291 : decode cX11_init 291 = .ok (.newarray .int, 2) := by decide +kernel
theorem dX11_init_293 : decode cX11_init 293 = .ok (.putfield 123, 3) := by decide +kernel
theorem dX11_init_296 : decode cX11_init 296 = .ok (.aload_n 0, 1) := by decide +kernel
theorem dX11_init_297 : decode cX11_init 297 = .ok (.iconst 0, 1) := by decide +kernel
theorem dX11_init_298 : decode cX11_init 298 = .ok (.putfield 126, 3) := by decide +kernel
theorem dX11_init_301 : decode cX11_init 301 = .ok (.return_, 1) := by decide +kernel
theorem dX11_in_0 : decode cX11_in 0 = .ok (.iload_n 0, 1) := by decide +kernel
theorem dX11_in_1 : decode cX11_in 1 = .ok (.iload_n 1, 1) := by decide +kernel
theorem dX11_in_2 : decode cX11_in 2 = .ok (.if_icmp .lt 12, 3) := by decide +kernel
theorem dX11_in_5 : decode cX11_in 5 = .ok (.iload_n 0, 1) := by decide +kernel
theorem dX11_in_6 : decode cX11_in 6 = .ok (.iload_n 2, 1) := by decide +kernel
theorem dX11_in_7 : decode cX11_in 7 = .ok (.if_icmp .gt 7, 3) := by decide +kernel
theorem dX11_in_10 : decode cX11_in 10 = .ok (.iconst 1, 1) := by decide +kernel
theorem dX11_in_11 : decode cX11_in 11 = .ok (.goto 4, 3) := by decide +kernel
theorem dX11_in_14 : decode cX11_in 14 = .ok (.iconst 0, 1) := by decide +kernel
theorem dX11_in_15 : decode cX11_in 15 = .ok (.ireturn, 1) := by decide +kernel
theorem dX11_isUnder_0 : decode cX11_isUnder 0 = .ok (.iload_n 1, 1) := by decide +kernel
theorem dX11_isUnder_1 : decode cX11_isUnder 1 = .ok (.istore_n 3, 1) := by decide +kernel
theorem dX11_isUnder_2 : decode cX11_isUnder 2 = .ok (.iload_n 3, 1) := by decide +kernel
theorem dX11_isUnder_3 : decode cX11_isUnder 3 = .ok (.iconst (-1), 1) := by decide +kernel
theorem dX11_isUnder_4 : decode cX11_isUnder 4 = .ok (.if_icmp .eq 18, 3) := by decide +kernel
theorem dX11_isUnder_7 : decode cX11_isUnder 7 = .ok (.iload_n 3, 1) := by decide +kernel
theorem dX11_isUnder_8 : decode cX11_isUnder 8 = .ok (.iload_n 2, 1) := by decide +kernel
theorem dX11_isUnder_9 : decode cX11_isUnder 9 = .ok (.if_icmp .eq 13, 3) := by decide +kernel
theorem dX11_isUnder_12 : decode cX11_isUnder 12 = .ok (.aload_n 0, 1) := by decide +kernel
theorem dX11_isUnder_13 : decode cX11_isUnder 13 = .ok (.getfield 7, 3) := by decide +kernel
theorem dX11_isUnder_16 : decode cX11_isUnder 16 = .ok (.iload_n 3, 1) := by decide +kernel
theorem dX11_isUnder_17 : decode cX11_isUnder 17 = .ok (.iaload, 1) := by decide +kernel
theorem dX11_isUnder_18 : decode cX11_isUnder 18 = .ok (.istore_n 3, 1) := by decide +kernel
theorem dX11_isUnder_19 : decode cX11_isUnder 19 = .ok (.goto (-17), 3) := by decide +kernel
theorem dX11_isUnder_22 : decode cX11_isUnder 22 = .ok (.iload_n 3, 1) := by decide +kernel
theorem dX11_isUnder_23 : decode cX11_isUnder 23 = .ok (.iload_n 2, 1) := by decide +kernel
theorem dX11_isUnder_24 : decode cX11_isUnder 24 = .ok (.if_icmp .ne 7, 3) := by decide +kernel
theorem dX11_isUnder_27 : decode cX11_isUnder 27 = .ok (.iconst 1, 1) := by decide +kernel
theorem dX11_isUnder_28 : decode cX11_isUnder 28 = .ok (.goto 4, 3) := by decide +kernel
theorem dX11_isUnder_31 : decode cX11_isUnder 31 = .ok (.iconst 0, 1) := by decide +kernel
theorem dX11_isUnder_32 : decode cX11_isUnder 32 = .ok (.ireturn, 1) := by decide +kernel
theorem dX11_changed_0 : decode cX11_changed 0 = .ok (.aload_n 0, 1) := by decide +kernel
theorem dX11_changed_1 : decode cX11_changed 1 = .ok (.iconst 0, 1) := by decide +kernel
theorem dX11_changed_2 : decode cX11_changed 2 = .ok (.putfield 126, 3) := by decide +kernel
theorem dX11_changed_5 : decode cX11_changed 5 = .ok (.aload_n 0, 1) := by decide +kernel
theorem dX11_changed_6 : decode cX11_changed 6 = .ok (.iconst 0, 1) := by decide +kernel
theorem dX11_changed_7 : decode cX11_changed 7 = .ok (.putfield 130, 3) := by decide +kernel
theorem dX11_changed_10 : decode cX11_changed 10 = .ok (.return_, 1) := by decide +kernel
theorem dX11_kind_0 : decode cX11_kind 0 = .ok (.iload_n 1, 1) := by decide +kernel
theorem dX11_kind_1 : decode cX11_kind 1 = .ok (.iconst (-1), 1) := by decide +kernel
theorem dX11_kind_2 : decode cX11_kind 2 = .ok (.if_icmp .eq 20, 3) := by decide +kernel
theorem dX11_kind_5 : decode cX11_kind 5 = .ok (.iload_n 1, 1) := by decide +kernel
theorem dX11_kind_6 : decode cX11_kind 6 = .ok (.iconst 0, 1) := by decide +kernel
theorem dX11_kind_7 : decode cX11_kind 7 = .ok (.aload_n 0, 1) := by decide +kernel
theorem dX11_kind_8 : decode cX11_kind 8 = .ok (.getfield 133, 3) := by decide +kernel
theorem dX11_kind_11 : decode cX11_kind 11 = .ok (.iconst 1, 1) := by decide +kernel
theorem dX11_kind_12 : decode cX11_kind 12 = .ok (.isub, 1) := by decide +kernel
theorem dX11_kind_13 : decode cX11_kind 13 = .ok (.invokestatic 136, 3) := by decide +kernel
theorem dX11_kind_16 : decode cX11_kind 16 = .ok (.ifCond .ne 6, 3) := by decide +kernel
theorem dX11_kind_19 : decode cX11_kind 19 = .ok (.bipush (-101), 2) := by decide +kernel
theorem dX11_kind_21 : decode cX11_kind 21 = .ok (.ireturn, 1) := by decide +kernel
theorem dX11_kind_22 : decode cX11_kind 22 = .ok (.aload_n 0, 1) := by decide +kernel
theorem dX11_kind_23 : decode cX11_kind 23 = .ok (.getfield 133, 3) := by decide +kernel
theorem dX11_kind_26 : decode cX11_kind 26 = .ok (.iconst 4, 1) := by decide +kernel
theorem dX11_kind_27 : decode cX11_kind 27 = .ok (.if_icmp .ne 6, 3) := by decide +kernel
theorem dX11_kind_30 : decode cX11_kind 30 = .ok (.bipush (-104), 2) := by decide +kernel
theorem dX11_kind_32 : decode cX11_kind 32 = .ok (.ireturn, 1) := by decide +kernel
theorem dX11_kind_33 : decode cX11_kind 33 = .ok (.aload_n 0, 1) := by decide +kernel
theorem dX11_kind_34 : decode cX11_kind 34 = .ok (.getfield 7, 3) := by decide +kernel
theorem dX11_kind_37 : decode cX11_kind 37 = .ok (.aload_n 0, 1) := by decide +kernel
theorem dX11_kind_38 : decode cX11_kind 38 = .ok (.getfield 133, 3) := by decide +kernel
theorem dX11_kind_41 : decode cX11_kind 41 = .ok (.iload_n 1, 1) := by decide +kernel
theorem dX11_kind_42 : decode cX11_kind 42 = .ok (.iastore, 1) := by decide +kernel
theorem dX11_kind_43 : decode cX11_kind 43 = .ok (.aload_n 0, 1) := by decide +kernel
theorem dX11_kind_44 : decode cX11_kind 44 = .ok (.getfield 13, 3) := by decide +kernel
theorem dX11_kind_47 : decode cX11_kind 47 = .ok (.aload_n 0, 1) := by decide +kernel
theorem dX11_kind_48 : decode cX11_kind 48 = .ok (.getfield 133, 3) := by decide +kernel
theorem dX11_kind_51 : decode cX11_kind 51 = .ok (.iload_n 1, 1) := by decide +kernel
theorem dX11_kind_52 : decode cX11_kind 52 = .ok (.iconst (-1), 1) := by decide +kernel
theorem dX11_kind_53 : decode cX11_kind 53 = .ok (.if_icmp .ne 7, 3) := by decide +kernel
theorem dX11_kind_56 : decode cX11_kind 56 = .ok (.iconst 0, 1) := by decide +kernel
theorem dX11_kind_57 : decode cX11_kind 57 = .ok (.goto 9, 3) := by decide +kernel
theorem dX11_kind_60 : decode cX11_kind 60 = .ok (.aload_n 0, 1) := by decide +kernel
theorem dX11_kind_61 : decode cX11_kind 61 = .ok (.getfield 13, 3) := by decide +kernel
theorem dX11_kind_64 : decode cX11_kind 64 = .ok (.iload_n 1, 1) := by decide +kernel
theorem dX11_kind_65 : decode cX11_kind 65 = .ok (.iaload, 1) := by decide +kernel
theorem dX11_kind_66 : decode cX11_kind 66 = .ok (.iastore, 1) := by decide +kernel
theorem dX11_kind_67 : decode cX11_kind 67 = .ok (.iconst 0, 1) := by decide +kernel
theorem dX11_kind_68 : decode cX11_kind 68 = .ok (.istore_n 2, 1) := by decide +kernel
theorem dX11_kind_69 : decode cX11_kind 69 = .ok (.iload_n 2, 1) := by decide +kernel
theorem dX11_kind_70 : decode cX11_kind 70 = .ok (.aload_n 0, 1) := by decide +kernel
theorem dX11_kind_71 : decode cX11_kind 71 = .ok (.getfield 13, 3) := by decide +kernel
theorem dX11_kind_74 : decode cX11_kind 74 = .ok (.aload_n 0, 1) := by decide +kernel
theorem dX11_kind_75 : decode cX11_kind 75 = .ok (.getfield 133, 3) := by decide +kernel
theorem dX11_kind_78 : decode cX11_kind 78 = .ok (.iaload, 1) := by decide +kernel
theorem dX11_kind_79 : decode cX11_kind 79 = .ok (.if_icmp .ge 55, 3) := by decide +kernel
theorem dX11_kind_82 : decode cX11_kind 82 = .ok (.aload_n 0, 1) := by decide +kernel
theorem dX11_kind_83 : decode cX11_kind 83 = .ok (.getfield 16, 3) := by decide +kernel
theorem dX11_kind_86 : decode cX11_kind 86 = .ok (.iconst 4, 1) := by decide +kernel
theorem dX11_kind_87 : decode cX11_kind 87 = .ok (.aload_n 0, 1) := by decide +kernel
theorem dX11_kind_88 : decode cX11_kind 88 = .ok (.getfield 133, 3) := by decide +kernel
theorem dX11_kind_91 : decode cX11_kind 91 = .ok (.imul, 1) := by decide +kernel
theorem dX11_kind_92 : decode cX11_kind 92 = .ok (.iload_n 2, 1) := by decide +kernel
theorem dX11_kind_93 : decode cX11_kind 93 = .ok (.iadd, 1) := by decide +kernel
theorem dX11_kind_94 : decode cX11_kind 94 = .ok (.aload_n 0, 1) := by decide +kernel
theorem dX11_kind_95 : decode cX11_kind 95 = .ok (.getfield 16, 3) := by decide +kernel
theorem dX11_kind_98 : decode cX11_kind 98 = .ok (.iconst 4, 1) := by decide +kernel
theorem dX11_kind_99 : decode cX11_kind 99 = .ok (.iload_n 1, 1) := by decide +kernel
theorem dX11_kind_100 : decode cX11_kind 100 = .ok (.imul, 1) := by decide +kernel
theorem dX11_kind_101 : decode cX11_kind 101 = .ok (.iload_n 2, 1) := by decide +kernel
theorem dX11_kind_102 : decode cX11_kind 102 = .ok (.iadd, 1) := by decide +kernel
theorem dX11_kind_103 : decode cX11_kind 103 = .ok (.iaload, 1) := by decide +kernel
theorem dX11_kind_104 : decode cX11_kind 104 = .ok (.iastore, 1) := by decide +kernel
theorem dX11_kind_105 : decode cX11_kind 105 = .ok (.aload_n 0, 1) := by decide +kernel
theorem dX11_kind_106 : decode cX11_kind 106 = .ok (.getfield 19, 3) := by decide +kernel
theorem dX11_kind_109 : decode cX11_kind 109 = .ok (.iconst 4, 1) := by decide +kernel
theorem dX11_kind_110 : decode cX11_kind 110 = .ok (.aload_n 0, 1) := by decide +kernel
theorem dX11_kind_111 : decode cX11_kind 111 = .ok (.getfield 133, 3) := by decide +kernel
theorem dX11_kind_114 : decode cX11_kind 114 = .ok (.imul, 1) := by decide +kernel
theorem dX11_kind_115 : decode cX11_kind 115 = .ok (.iload_n 2, 1) := by decide +kernel
theorem dX11_kind_116 : decode cX11_kind 116 = .ok (.iadd, 1) := by decide +kernel
theorem dX11_kind_117 : decode cX11_kind 117 = .ok (.aload_n 0, 1) := by decide +kernel
theorem dX11_kind_118 : decode cX11_kind 118 = .ok (.getfield 19, 3) := by decide +kernel
theorem dX11_kind_121 : decode cX11_kind 121 = .ok (.iconst 4, 1) := by decide +kernel
theorem dX11_kind_122 : decode cX11_kind 122 = .ok (.iload_n 1, 1) := by decide +kernel
theorem dX11_kind_123 : decode cX11_kind 123 = .ok (.imul, 1) := by decide +kernel
theorem dX11_kind_124 : decode cX11_kind 124 = .ok (.iload_n 2, 1) := by decide +kernel
theorem dX11_kind_125 : decode cX11_kind 125 = .ok (.iadd, 1) := by decide +kernel
theorem dX11_kind_126 : decode cX11_kind 126 = .ok (.iaload, 1) := by decide +kernel
theorem dX11_kind_127 : decode cX11_kind 127 = .ok (.iastore, 1) := by decide +kernel
theorem dX11_kind_128 : decode cX11_kind 128 = .ok (.iinc 2 1, 3) := by decide +kernel
theorem dX11_kind_131 : decode cX11_kind 131 = .ok (.goto (-62), 3) := by decide +kernel
theorem dX11_kind_134 : decode cX11_kind 134 = .ok (.aload_n 0, 1) := by decide +kernel
theorem dX11_kind_135 : decode cX11_kind 135 = .ok (.dup, 1) := by decide +kernel
theorem dX11_kind_136 : decode cX11_kind 136 = .ok (.getfield 133, 3) := by decide +kernel
theorem dX11_kind_139 : decode cX11_kind 139 = .ok (.iconst 1, 1) := by decide +kernel
theorem dX11_kind_140 : decode cX11_kind 140 = .ok (.iadd, 1) := by decide +kernel
theorem dX11_kind_141 : decode cX11_kind 141 = .ok (.putfield 133, 3) := by decide +kernel
theorem dX11_kind_144 : decode cX11_kind 144 = .ok (.aload_n 0, 1) := by decide +kernel
theorem dX11_kind_145 : decode cX11_kind 145 = .ok (.invokevirtual 140, 3) := by decide +kernel
theorem dX11_kind_148 : decode cX11_kind 148 = .ok (.aload_n 0, 1) := by decide +kernel
theorem dX11_kind_149 : decode cX11_kind 149 = .ok (.getfield 133, 3) := by decide +kernel
theorem dX11_kind_152 : decode cX11_kind 152 = .ok (.iconst 1, 1) := by decide +kernel
theorem dX11_kind_153 : decode cX11_kind 153 = .ok (.isub, 1) := by decide +kernel
theorem dX11_kind_154 : decode cX11_kind 154 = .ok (.ireturn, 1) := by decide +kernel
theorem dX11_field_0 : decode cX11_field 0 = .ok (.iload_n 1, 1) := by decide +kernel
theorem dX11_field_1 : decode cX11_field 1 = .ok (.iconst 0, 1) := by decide +kernel
theorem dX11_field_2 : decode cX11_field 2 = .ok (.aload_n 0, 1) := by decide +kernel
theorem dX11_field_3 : decode cX11_field 3 = .ok (.getfield 133, 3) := by decide +kernel
theorem dX11_field_6 : decode cX11_field 6 = .ok (.iconst 1, 1) := by decide +kernel
theorem dX11_field_7 : decode cX11_field 7 = .ok (.isub, 1) := by decide +kernel
theorem dX11_field_8 : decode cX11_field 8 = .ok (.invokestatic 136, 3) := by decide +kernel
theorem dX11_field_11 : decode cX11_field 11 = .ok (.ifCond .eq 21, 3) := by decide +kernel
theorem dX11_field_14 : decode cX11_field 14 = .ok (.iload_n 2, 1) := by decide +kernel
theorem dX11_field_15 : decode cX11_field 15 = .ok (.ifCond .ne 20, 3) := by decide +kernel
theorem dX11_field_18 : decode cX11_field 18 = .ok (.iload_n 3, 1) := by decide +kernel
theorem dX11_field_19 : decode cX11_field 19 = .ok (.iconst 0, 1) := by decide +kernel
theorem dX11_field_20 : decode cX11_field 20 = .ok (.aload_n 0, 1) := by decide +kernel
theorem dX11_field_21 : decode cX11_field 21 = .ok (.getfield 133, 3) := by decide +kernel
theorem dX11_field_24 : decode cX11_field 24 = .ok (.iconst 1, 1) := by decide +kernel
theorem dX11_field_25 : decode cX11_field 25 = .ok (.isub, 1) := by decide +kernel
theorem dX11_field_26 : decode cX11_field 26 = .ok (.invokestatic 136, 3) := by decide +kernel
theorem dX11_field_29 : decode cX11_field 29 = .ok (.ifCond .ne 6, 3) := by decide +kernel
theorem dX11_field_32 : decode cX11_field 32 = .ok (.bipush (-101), 2) := by decide +kernel
theorem dX11_field_34 : decode cX11_field 34 = .ok (.ireturn, 1) := by decide +kernel
theorem dX11_field_35 : decode cX11_field 35 = .ok (.iload_n 2, 1) := by decide +kernel
theorem dX11_field_36 : decode cX11_field 36 = .ok (.iconst 0, 1) := by decide +kernel
theorem dX11_field_37 : decode cX11_field 37 = .ok (.iconst 1, 1) := by decide +kernel
theorem dX11_field_38 : decode cX11_field 38 = .ok (.invokestatic 136, 3) := by decide +kernel
theorem dX11_field_41 : decode cX11_field 41 = .ok (.ifCond .eq 17, 3) := by decide +kernel
theorem dX11_field_44 : decode cX11_field 44 = .ok (.iload_n 2, 1) := by decide +kernel
theorem dX11_field_45 : decode cX11_field 45 = .ok (.iconst 1, 1) := by decide +kernel
theorem dX11_field_46 : decode cX11_field 46 = .ok (.if_icmp .ne 15, 3) := by decide +kernel
theorem dX11_field_49 : decode cX11_field 49 = .ok (.iload_n 3, 1) := by decide +kernel
theorem dX11_field_50 : decode cX11_field 50 = .ok (.iconst 1, 1) := by decide +kernel
theorem dX11_field_51 : decode cX11_field 51 = .ok (.iconst 3, 1) := by decide +kernel
theorem dX11_field_52 : decode cX11_field 52 = .ok (.invokestatic 136, 3) := by decide +kernel
theorem dX11_field_55 : decode cX11_field 55 = .ok (.ifCond .ne 6, 3) := by decide +kernel
theorem dX11_field_58 : decode cX11_field 58 = .ok (.bipush (-102), 2) := by decide +kernel
theorem dX11_field_60 : decode cX11_field 60 = .ok (.ireturn, 1) := by decide +kernel
theorem dX11_field_61 : decode cX11_field 61 = .ok (.iconst 0, 1) := by decide +kernel
theorem dX11_field_62 : decode cX11_field 62 = .ok (.istore 4, 2) := by decide +kernel
theorem dX11_field_64 : decode cX11_field 64 = .ok (.iload 4, 2) := by decide +kernel
theorem dX11_field_66 : decode cX11_field 66 = .ok (.aload_n 0, 1) := by decide +kernel
theorem dX11_field_67 : decode cX11_field 67 = .ok (.getfield 133, 3) := by decide +kernel
theorem dX11_field_70 : decode cX11_field 70 = .ok (.if_icmp .ge 23, 3) := by decide +kernel
theorem dX11_field_73 : decode cX11_field 73 = .ok (.aload_n 0, 1) := by decide +kernel
theorem dX11_field_74 : decode cX11_field 74 = .ok (.getfield 7, 3) := by decide +kernel
theorem dX11_field_77 : decode cX11_field 77 = .ok (.iload 4, 2) := by decide +kernel
theorem dX11_field_79 : decode cX11_field 79 = .ok (.iaload, 1) := by decide +kernel
theorem dX11_field_80 : decode cX11_field 80 = .ok (.iload_n 1, 1) := by decide +kernel
theorem dX11_field_81 : decode cX11_field 81 = .ok (.if_icmp .ne 6, 3) := by decide +kernel
theorem dX11_field_84 : decode cX11_field 84 = .ok (.bipush (-103), 2) := by decide +kernel
theorem dX11_field_86 : decode cX11_field 86 = .ok (.ireturn, 1) := by decide +kernel
theorem dX11_field_87 : decode cX11_field 87 = .ok (.iinc 4 1, 3) := by decide +kernel
theorem dX11_field_90 : decode cX11_field 90 = .ok (.goto (-26), 3) := by decide +kernel
theorem dX11_field_93 : decode cX11_field 93 = .ok (.aload_n 0, 1) := by decide +kernel
theorem dX11_field_94 : decode cX11_field 94 = .ok (.getfield 13, 3) := by decide +kernel
theorem dX11_field_97 : decode cX11_field 97 = .ok (.iload_n 1, 1) := by decide +kernel
theorem dX11_field_98 : decode cX11_field 98 = .ok (.iaload, 1) := by decide +kernel
theorem dX11_field_99 : decode cX11_field 99 = .ok (.iconst 4, 1) := by decide +kernel
theorem dX11_field_100 : decode cX11_field 100 = .ok (.if_icmp .ne 6, 3) := by decide +kernel
theorem dX11_field_103 : decode cX11_field 103 = .ok (.bipush (-104), 2) := by decide +kernel
theorem dX11_field_105 : decode cX11_field 105 = .ok (.ireturn, 1) := by decide +kernel
theorem dX11_field_106 : decode cX11_field 106 = .ok (.aload_n 0, 1) := by decide +kernel
theorem dX11_field_107 : decode cX11_field 107 = .ok (.getfield 16, 3) := by decide +kernel
theorem dX11_field_110 : decode cX11_field 110 = .ok (.iconst 4, 1) := by decide +kernel
theorem dX11_field_111 : decode cX11_field 111 = .ok (.iload_n 1, 1) := by decide +kernel
theorem dX11_field_112 : decode cX11_field 112 = .ok (.imul, 1) := by decide +kernel
theorem dX11_field_113 : decode cX11_field 113 = .ok (.aload_n 0, 1) := by decide +kernel
theorem dX11_field_114 : decode cX11_field 114 = .ok (.getfield 13, 3) := by decide +kernel
theorem dX11_field_117 : decode cX11_field 117 = .ok (.iload_n 1, 1) := by decide +kernel
theorem dX11_field_118 : decode cX11_field 118 = .ok (.iaload, 1) := by decide +kernel
theorem dX11_field_119 : decode cX11_field 119 = .ok (.iadd, 1) := by decide +kernel
theorem dX11_field_120 : decode cX11_field 120 = .ok (.iload_n 2, 1) := by decide +kernel
theorem dX11_field_121 : decode cX11_field 121 = .ok (.iastore, 1) := by decide +kernel
theorem dX11_field_122 : decode cX11_field 122 = .ok (.aload_n 0, 1) := by decide +kernel
theorem dX11_field_123 : decode cX11_field 123 = .ok (.getfield 19, 3) := by decide +kernel
theorem dX11_field_126 : decode cX11_field 126 = .ok (.iconst 4, 1) := by decide +kernel
theorem dX11_field_127 : decode cX11_field 127 = .ok (.iload_n 1, 1) := by decide +kernel
theorem dX11_field_128 : decode cX11_field 128 = .ok (.imul, 1) := by decide +kernel
theorem dX11_field_129 : decode cX11_field 129 = .ok (.aload_n 0, 1) := by decide +kernel
theorem dX11_field_130 : decode cX11_field 130 = .ok (.getfield 13, 3) := by decide +kernel
theorem dX11_field_133 : decode cX11_field 133 = .ok (.iload_n 1, 1) := by decide +kernel
theorem dX11_field_134 : decode cX11_field 134 = .ok (.iaload, 1) := by decide +kernel
theorem dX11_field_135 : decode cX11_field 135 = .ok (.iadd, 1) := by decide +kernel
theorem dX11_field_136 : decode cX11_field 136 = .ok (.iload_n 3, 1) := by decide +kernel
theorem dX11_field_137 : decode cX11_field 137 = .ok (.iastore, 1) := by decide +kernel
theorem dX11_field_138 : decode cX11_field 138 = .ok (.aload_n 0, 1) := by decide +kernel
theorem dX11_field_139 : decode cX11_field 139 = .ok (.getfield 13, 3) := by decide +kernel
theorem dX11_field_142 : decode cX11_field 142 = .ok (.iload_n 1, 1) := by decide +kernel
theorem dX11_field_143 : decode cX11_field 143 = .ok (.dup2, 1) := by decide +kernel
theorem dX11_field_144 : decode cX11_field 144 = .ok (.iaload, 1) := by decide +kernel
theorem dX11_field_145 : decode cX11_field 145 = .ok (.iconst 1, 1) := by decide +kernel
theorem dX11_field_146 : decode cX11_field 146 = .ok (.iadd, 1) := by decide +kernel
theorem dX11_field_147 : decode cX11_field 147 = .ok (.iastore, 1) := by decide +kernel
theorem dX11_field_148 : decode cX11_field 148 = .ok (.aload_n 0, 1) := by decide +kernel
theorem dX11_field_149 : decode cX11_field 149 = .ok (.invokevirtual 140, 3) := by decide +kernel
theorem dX11_field_152 : decode cX11_field 152 = .ok (.aload_n 0, 1) := by decide +kernel
theorem dX11_field_153 : decode cX11_field 153 = .ok (.getfield 13, 3) := by decide +kernel
theorem dX11_field_156 : decode cX11_field 156 = .ok (.iload_n 1, 1) := by decide +kernel
theorem dX11_field_157 : decode cX11_field 157 = .ok (.iaload, 1) := by decide +kernel
theorem dX11_field_158 : decode cX11_field 158 = .ok (.iconst 1, 1) := by decide +kernel
theorem dX11_field_159 : decode cX11_field 159 = .ok (.isub, 1) := by decide +kernel
theorem dX11_field_160 : decode cX11_field 160 = .ok (.ireturn, 1) := by decide +kernel
theorem dX11_input_0 : decode cX11_input 0 = .ok (.iload_n 1, 1) := by decide +kernel
theorem dX11_input_1 : decode cX11_input 1 = .ok (.iconst 0, 1) := by decide +kernel
theorem dX11_input_2 : decode cX11_input 2 = .ok (.aload_n 0, 1) := by decide +kernel
theorem dX11_input_3 : decode cX11_input 3 = .ok (.getfield 133, 3) := by decide +kernel
theorem dX11_input_6 : decode cX11_input 6 = .ok (.iconst 1, 1) := by decide +kernel
theorem dX11_input_7 : decode cX11_input 7 = .ok (.isub, 1) := by decide +kernel
theorem dX11_input_8 : decode cX11_input 8 = .ok (.invokestatic 136, 3) := by decide +kernel
theorem dX11_input_11 : decode cX11_input 11 = .ok (.ifCond .ne 6, 3) := by decide +kernel
theorem dX11_input_14 : decode cX11_input 14 = .ok (.bipush (-101), 2) := by decide +kernel
theorem dX11_input_16 : decode cX11_input 16 = .ok (.ireturn, 1) := by decide +kernel
theorem dX11_input_17 : decode cX11_input 17 = .ok (.aload_n 0, 1) := by decide +kernel
theorem dX11_input_18 : decode cX11_input 18 = .ok (.getfield 143, 3) := by decide +kernel
theorem dX11_input_21 : decode cX11_input 21 = .ok (.iconst 2, 1) := by decide +kernel
theorem dX11_input_22 : decode cX11_input 22 = .ok (.if_icmp .ne 6, 3) := by decide +kernel
theorem dX11_input_25 : decode cX11_input 25 = .ok (.bipush (-104), 2) := by decide +kernel
theorem dX11_input_27 : decode cX11_input 27 = .ok (.ireturn, 1) := by decide +kernel
theorem dX11_input_28 : decode cX11_input 28 = .ok (.aload_n 0, 1) := by decide +kernel
theorem dX11_input_29 : decode cX11_input 29 = .ok (.getfield 22, 3) := by decide +kernel
theorem dX11_input_32 : decode cX11_input 32 = .ok (.aload_n 0, 1) := by decide +kernel
theorem dX11_input_33 : decode cX11_input 33 = .ok (.getfield 143, 3) := by decide +kernel
theorem dX11_input_36 : decode cX11_input 36 = .ok (.iload_n 1, 1) := by decide +kernel
theorem dX11_input_37 : decode cX11_input 37 = .ok (.iastore, 1) := by decide +kernel
theorem dX11_input_38 : decode cX11_input 38 = .ok (.aload_n 0, 1) := by decide +kernel
theorem dX11_input_39 : decode cX11_input 39 = .ok (.dup, 1) := by decide +kernel
theorem dX11_input_40 : decode cX11_input 40 = .ok (.getfield 143, 3) := by decide +kernel
theorem dX11_input_43 : decode cX11_input 43 = .ok (.iconst 1, 1) := by decide +kernel
theorem dX11_input_44 : decode cX11_input 44 = .ok (.iadd, 1) := by decide +kernel
theorem dX11_input_45 : decode cX11_input 45 = .ok (.putfield 143, 3) := by decide +kernel
theorem dX11_input_48 : decode cX11_input 48 = .ok (.aload_n 0, 1) := by decide +kernel
theorem dX11_input_49 : decode cX11_input 49 = .ok (.invokevirtual 140, 3) := by decide +kernel
theorem dX11_input_52 : decode cX11_input 52 = .ok (.aload_n 0, 1) := by decide +kernel
theorem dX11_input_53 : decode cX11_input 53 = .ok (.getfield 143, 3) := by decide +kernel
theorem dX11_input_56 : decode cX11_input 56 = .ok (.iconst 1, 1) := by decide +kernel
theorem dX11_input_57 : decode cX11_input 57 = .ok (.isub, 1) := by decide +kernel
theorem dX11_input_58 : decode cX11_input 58 = .ok (.ireturn, 1) := by decide +kernel
theorem dX11_bound_0 : decode cX11_bound 0 = .ok (.iload_n 1, 1) := by decide +kernel
theorem dX11_bound_1 : decode cX11_bound 1 = .ok (.iconst 1, 1) := by decide +kernel
theorem dX11_bound_2 : decode cX11_bound 2 = .ok (.iconst 5, 1) := by decide +kernel
theorem dX11_bound_3 : decode cX11_bound 3 = .ok (.invokestatic 136, 3) := by decide +kernel
theorem dX11_bound_6 : decode cX11_bound 6 = .ok (.ifCond .ne 6, 3) := by decide +kernel
theorem dX11_bound_9 : decode cX11_bound 9 = .ok (.bipush (-102), 2) := by decide +kernel
theorem dX11_bound_11 : decode cX11_bound 11 = .ok (.ireturn, 1) := by decide +kernel
theorem dX11_bound_12 : decode cX11_bound 12 = .ok (.aload_n 0, 1) := by decide +kernel
theorem dX11_bound_13 : decode cX11_bound 13 = .ok (.getfield 25, 3) := by decide +kernel
theorem dX11_bound_16 : decode cX11_bound 16 = .ok (.istore_n 2, 1) := by decide +kernel
theorem dX11_bound_17 : decode cX11_bound 17 = .ok (.aload_n 0, 1) := by decide +kernel
theorem dX11_bound_18 : decode cX11_bound 18 = .ok (.iload_n 1, 1) := by decide +kernel
theorem dX11_bound_19 : decode cX11_bound 19 = .ok (.putfield 25, 3) := by decide +kernel
theorem dX11_bound_22 : decode cX11_bound 22 = .ok (.aload_n 0, 1) := by decide +kernel
theorem dX11_bound_23 : decode cX11_bound 23 = .ok (.invokevirtual 140, 3) := by decide +kernel
theorem dX11_bound_26 : decode cX11_bound 26 = .ok (.iload_n 2, 1) := by decide +kernel
theorem dX11_bound_27 : decode cX11_bound 27 = .ok (.ireturn, 1) := by decide +kernel
theorem dX11_isField_0 : decode cX11_isField 0 = .ok (.iload_n 2, 1) := by decide +kernel
theorem dX11_isField_1 : decode cX11_isField 1 = .ok (.iconst 0, 1) := by decide +kernel
theorem dX11_isField_2 : decode cX11_isField 2 = .ok (.aload_n 0, 1) := by decide +kernel
theorem dX11_isField_3 : decode cX11_isField 3 = .ok (.getfield 13, 3) := by decide +kernel
theorem dX11_isField_6 : decode cX11_isField 6 = .ok (.iload_n 1, 1) := by decide +kernel
theorem dX11_isField_7 : decode cX11_isField 7 = .ok (.iaload, 1) := by decide +kernel
theorem dX11_isField_8 : decode cX11_isField 8 = .ok (.iconst 1, 1) := by decide +kernel
theorem dX11_isField_9 : decode cX11_isField 9 = .ok (.isub, 1) := by decide +kernel
theorem dX11_isField_10 : decode cX11_isField 10 = .ok (.invokestatic 136, 3) := by decide +kernel
theorem dX11_isField_13 : decode cX11_isField 13 = .ok (.ireturn, 1) := by decide +kernel
theorem dX11_isSort_0 : decode cX11_isSort 0 = .ok (.aload_n 0, 1) := by decide +kernel
theorem dX11_isSort_1 : decode cX11_isSort 1 = .ok (.getfield 16, 3) := by decide +kernel
theorem dX11_isSort_4 : decode cX11_isSort 4 = .ok (.iconst 4, 1) := by decide +kernel
theorem dX11_isSort_5 : decode cX11_isSort 5 = .ok (.iload_n 1, 1) := by decide +kernel
theorem dX11_isSort_6 : decode cX11_isSort 6 = .ok (.imul, 1) := by decide +kernel
theorem dX11_isSort_7 : decode cX11_isSort 7 = .ok (.iload_n 2, 1) := by decide +kernel
theorem dX11_isSort_8 : decode cX11_isSort 8 = .ok (.iadd, 1) := by decide +kernel
theorem dX11_isSort_9 : decode cX11_isSort 9 = .ok (.iaload, 1) := by decide +kernel
theorem dX11_isSort_10 : decode cX11_isSort 10 = .ok (.iload_n 3, 1) := by decide +kernel
theorem dX11_isSort_11 : decode cX11_isSort 11 = .ok (.if_icmp .ne 7, 3) := by decide +kernel
theorem dX11_isSort_14 : decode cX11_isSort 14 = .ok (.iconst 1, 1) := by decide +kernel
theorem dX11_isSort_15 : decode cX11_isSort 15 = .ok (.goto 4, 3) := by decide +kernel
theorem dX11_isSort_18 : decode cX11_isSort 18 = .ok (.iconst 0, 1) := by decide +kernel
theorem dX11_isSort_19 : decode cX11_isSort 19 = .ok (.ireturn, 1) := by decide +kernel
theorem dX11_rule_0 : decode cX11_rule 0 = .ok (.iload_n 1, 1) := by decide +kernel
theorem dX11_rule_1 : decode cX11_rule 1 = .ok (.iconst 1, 1) := by decide +kernel
theorem dX11_rule_2 : decode cX11_rule 2 = .ok (.if_icmp .eq 8, 3) := by decide +kernel
theorem dX11_rule_5 : decode cX11_rule 5 = .ok (.iload_n 1, 1) := by decide +kernel
theorem dX11_rule_6 : decode cX11_rule 6 = .ok (.iconst 2, 1) := by decide +kernel
theorem dX11_rule_7 : decode cX11_rule 7 = .ok (.if_icmp .ne 13, 3) := by decide +kernel
theorem dX11_rule_10 : decode cX11_rule 10 = .ok (.iload 4, 2) := by decide +kernel
theorem dX11_rule_12 : decode cX11_rule 12 = .ok (.iconst (-1), 1) := by decide +kernel
theorem dX11_rule_13 : decode cX11_rule 13 = .ok (.if_icmp .ne 7, 3) := by decide +kernel
theorem dX11_rule_16 : decode cX11_rule 16 = .ok (.iconst 1, 1) := by decide +kernel
theorem dX11_rule_17 : decode cX11_rule 17 = .ok (.goto 4, 3) := by decide +kernel
theorem dX11_rule_20 : decode cX11_rule 20 = .ok (.iconst 0, 1) := by decide +kernel
theorem dX11_rule_21 : decode cX11_rule 21 = .ok (.istore 5, 2) := by decide +kernel
theorem dX11_rule_23 : decode cX11_rule 23 = .ok (.iload_n 1, 1) := by decide +kernel
theorem dX11_rule_24 : decode cX11_rule 24 = .ok (.bipush 6, 2) := by decide +kernel
theorem dX11_rule_26 : decode cX11_rule 26 = .ok (.if_icmp .eq 156, 3) := by decide +kernel
theorem dX11_rule_29 : decode cX11_rule 29 = .ok (.iload_n 2, 1) := by decide +kernel
theorem dX11_rule_30 : decode cX11_rule 30 = .ok (.iconst 0, 1) := by decide +kernel
theorem dX11_rule_31 : decode cX11_rule 31 = .ok (.aload_n 0, 1) := by decide +kernel
theorem dX11_rule_32 : decode cX11_rule 32 = .ok (.getfield 133, 3) := by decide +kernel
theorem dX11_rule_35 : decode cX11_rule 35 = .ok (.iconst 1, 1) := by decide +kernel
theorem dX11_rule_36 : decode cX11_rule 36 = .ok (.isub, 1) := by decide +kernel
theorem dX11_rule_37 : decode cX11_rule 37 = .ok (.invokestatic 136, 3) := by decide +kernel
theorem dX11_rule_40 : decode cX11_rule 40 = .ok (.ifCond .eq 31, 3) := by decide +kernel
theorem dX11_rule_43 : decode cX11_rule 43 = .ok (.aload_n 0, 1) := by decide +kernel
theorem dX11_rule_44 : decode cX11_rule 44 = .ok (.iload_n 2, 1) := by decide +kernel
theorem dX11_rule_45 : decode cX11_rule 45 = .ok (.iload_n 3, 1) := by decide +kernel
theorem dX11_rule_46 : decode cX11_rule 46 = .ok (.invokevirtual 146, 3) := by decide +kernel
theorem dX11_rule_49 : decode cX11_rule 49 = .ok (.ifCond .eq 22, 3) := by decide +kernel
theorem dX11_rule_52 : decode cX11_rule 52 = .ok (.iload_n 1, 1) := by decide +kernel
theorem dX11_rule_53 : decode cX11_rule 53 = .ok (.ifCond .eq 21, 3) := by decide +kernel
theorem dX11_rule_56 : decode cX11_rule 56 = .ok (.iload 5, 2) := by decide +kernel
theorem dX11_rule_58 : decode cX11_rule 58 = .ok (.ifCond .ne 16, 3) := by decide +kernel
theorem dX11_rule_61 : decode cX11_rule 61 = .ok (.aload_n 0, 1) := by decide +kernel
theorem dX11_rule_62 : decode cX11_rule 62 = .ok (.iload_n 2, 1) := by decide +kernel
theorem dX11_rule_63 : decode cX11_rule 63 = .ok (.iload 4, 2) := by decide +kernel
theorem dX11_rule_65 : decode cX11_rule 65 = .ok (.invokevirtual 146, 3) := by decide +kernel
theorem dX11_rule_68 : decode cX11_rule 68 = .ok (.ifCond .ne 6, 3) := by decide +kernel
theorem dX11_rule_71 : decode cX11_rule 71 = .ok (.bipush (-101), 2) := by decide +kernel
theorem dX11_rule_73 : decode cX11_rule 73 = .ok (.ireturn, 1) := by decide +kernel
theorem dX11_rule_74 : decode cX11_rule 74 = .ok (.iload_n 1, 1) := by decide +kernel
theorem dX11_rule_75 : decode cX11_rule 75 = .ok (.iconst 0, 1) := by decide +kernel
theorem dX11_rule_76 : decode cX11_rule 76 = .ok (.iconst 5, 1) := by decide +kernel
theorem dX11_rule_77 : decode cX11_rule 77 = .ok (.invokestatic 136, 3) := by decide +kernel
theorem dX11_rule_80 : decode cX11_rule 80 = .ok (.ifCond .eq 17, 3) := by decide +kernel
theorem dX11_rule_83 : decode cX11_rule 83 = .ok (.aload_n 0, 1) := by decide +kernel
theorem dX11_rule_84 : decode cX11_rule 84 = .ok (.iload_n 2, 1) := by decide +kernel
theorem dX11_rule_85 : decode cX11_rule 85 = .ok (.iload_n 3, 1) := by decide +kernel
theorem dX11_rule_86 : decode cX11_rule 86 = .ok (.iconst 0, 1) := by decide +kernel
theorem dX11_rule_87 : decode cX11_rule 87 = .ok (.invokevirtual 150, 3) := by decide +kernel
theorem dX11_rule_90 : decode cX11_rule 90 = .ok (.ifCond .eq 7, 3) := by decide +kernel
theorem dX11_rule_93 : decode cX11_rule 93 = .ok (.iconst 1, 1) := by decide +kernel
theorem dX11_rule_94 : decode cX11_rule 94 = .ok (.goto 4, 3) := by decide +kernel
theorem dX11_rule_97 : decode cX11_rule 97 = .ok (.iconst 0, 1) := by decide +kernel
theorem dX11_rule_98 : decode cX11_rule 98 = .ok (.istore 6, 2) := by decide +kernel
theorem dX11_rule_100 : decode cX11_rule 100 = .ok (.iload_n 1, 1) := by decide +kernel
theorem dX11_rule_101 : decode cX11_rule 101 = .ok (.iconst 1, 1) := by decide +kernel
theorem dX11_rule_102 : decode cX11_rule 102 = .ok (.if_icmp .lt 39, 3) := by decide +kernel
theorem dX11_rule_105 : decode cX11_rule 105 = .ok (.iload_n 1, 1) := by decide +kernel
theorem dX11_rule_106 : decode cX11_rule 106 = .ok (.iconst 3, 1) := by decide +kernel
theorem dX11_rule_107 : decode cX11_rule 107 = .ok (.if_icmp .gt 34, 3) := by decide +kernel
theorem dX11_rule_110 : decode cX11_rule 110 = .ok (.iload 6, 2) := by decide +kernel
theorem dX11_rule_112 : decode cX11_rule 112 = .ok (.ifCond .eq 23, 3) := by decide +kernel
theorem dX11_rule_115 : decode cX11_rule 115 = .ok (.iload 5, 2) := by decide +kernel
theorem dX11_rule_117 : decode cX11_rule 117 = .ok (.ifCond .ne 14, 3) := by decide +kernel
theorem dX11_rule_120 : decode cX11_rule 120 = .ok (.aload_n 0, 1) := by decide +kernel
theorem dX11_rule_121 : decode cX11_rule 121 = .ok (.iload_n 2, 1) := by decide +kernel
theorem dX11_rule_122 : decode cX11_rule 122 = .ok (.iload 4, 2) := by decide +kernel
theorem dX11_rule_124 : decode cX11_rule 124 = .ok (.iconst 0, 1) := by decide +kernel
theorem dX11_rule_125 : decode cX11_rule 125 = .ok (.invokevirtual 150, 3) := by decide +kernel
theorem dX11_rule_128 : decode cX11_rule 128 = .ok (.ifCond .eq 7, 3) := by decide +kernel
theorem dX11_rule_131 : decode cX11_rule 131 = .ok (.iconst 1, 1) := by decide +kernel
theorem dX11_rule_132 : decode cX11_rule 132 = .ok (.goto 4, 3) := by decide +kernel
theorem dX11_rule_135 : decode cX11_rule 135 = .ok (.iconst 0, 1) := by decide +kernel
theorem dX11_rule_136 : decode cX11_rule 136 = .ok (.istore 6, 2) := by decide +kernel
theorem dX11_rule_138 : decode cX11_rule 138 = .ok (.goto 36, 3) := by decide +kernel
theorem dX11_rule_141 : decode cX11_rule 141 = .ok (.iload_n 1, 1) := by decide +kernel
theorem dX11_rule_142 : decode cX11_rule 142 = .ok (.iconst 4, 1) := by decide +kernel
theorem dX11_rule_143 : decode cX11_rule 143 = .ok (.if_icmp .eq 8, 3) := by decide +kernel
theorem dX11_rule_146 : decode cX11_rule 146 = .ok (.iload_n 1, 1) := by decide +kernel
theorem dX11_rule_147 : decode cX11_rule 147 = .ok (.iconst 5, 1) := by decide +kernel
theorem dX11_rule_148 : decode cX11_rule 148 = .ok (.if_icmp .ne 26, 3) := by decide +kernel
theorem dX11_rule_151 : decode cX11_rule 151 = .ok (.iload 6, 2) := by decide +kernel
theorem dX11_rule_153 : decode cX11_rule 153 = .ok (.ifCond .eq 18, 3) := by decide +kernel
theorem dX11_rule_156 : decode cX11_rule 156 = .ok (.aload_n 0, 1) := by decide +kernel
theorem dX11_rule_157 : decode cX11_rule 157 = .ok (.iload_n 2, 1) := by decide +kernel
theorem dX11_rule_158 : decode cX11_rule 158 = .ok (.iload 4, 2) := by decide +kernel
theorem dX11_rule_160 : decode cX11_rule 160 = .ok (.iconst 1, 1) := by decide +kernel
theorem dX11_rule_161 : decode cX11_rule 161 = .ok (.invokevirtual 150, 3) := by decide +kernel
theorem dX11_rule_164 : decode cX11_rule 164 = .ok (.ifCond .eq 7, 3) := by decide +kernel
theorem dX11_rule_167 : decode cX11_rule 167 = .ok (.iconst 1, 1) := by decide +kernel
theorem dX11_rule_168 : decode cX11_rule 168 = .ok (.goto 4, 3) := by decide +kernel
theorem dX11_rule_171 : decode cX11_rule 171 = .ok (.iconst 0, 1) := by decide +kernel
theorem dX11_rule_172 : decode cX11_rule 172 = .ok (.istore 6, 2) := by decide +kernel
theorem dX11_rule_174 : decode cX11_rule 174 = .ok (.iload 6, 2) := by decide +kernel
theorem dX11_rule_176 : decode cX11_rule 176 = .ok (.ifCond .ne 6, 3) := by decide +kernel
theorem dX11_rule_179 : decode cX11_rule 179 = .ok (.bipush (-102), 2) := by decide +kernel
theorem dX11_rule_181 : decode cX11_rule 181 = .ok (.ireturn, 1) := by decide +kernel
theorem dX11_rule_182 : decode cX11_rule 182 = .ok (.aload_n 0, 1) := by decide +kernel
theorem dX11_rule_183 : decode cX11_rule 183 = .ok (.getfield 153, 3) := by decide +kernel
theorem dX11_rule_186 : decode cX11_rule 186 = .ok (.bipush 6, 2) := by decide +kernel
theorem dX11_rule_188 : decode cX11_rule 188 = .ok (.if_icmp .ne 6, 3) := by decide +kernel
theorem dX11_rule_191 : decode cX11_rule 191 = .ok (.bipush (-104), 2) := by decide +kernel
theorem dX11_rule_193 : decode cX11_rule 193 = .ok (.ireturn, 1) := by decide +kernel
theorem dX11_rule_194 : decode cX11_rule 194 = .ok (.aload_n 0, 1) := by decide +kernel
theorem dX11_rule_195 : decode cX11_rule 195 = .ok (.getfield 29, 3) := by decide +kernel
theorem dX11_rule_198 : decode cX11_rule 198 = .ok (.aload_n 0, 1) := by decide +kernel
theorem dX11_rule_199 : decode cX11_rule 199 = .ok (.getfield 153, 3) := by decide +kernel
theorem dX11_rule_202 : decode cX11_rule 202 = .ok (.iload_n 1, 1) := by decide +kernel
theorem dX11_rule_203 : decode cX11_rule 203 = .ok (.iastore, 1) := by decide +kernel
theorem dX11_rule_204 : decode cX11_rule 204 = .ok (.aload_n 0, 1) := by decide +kernel
theorem dX11_rule_205 : decode cX11_rule 205 = .ok (.getfield 32, 3) := by decide +kernel
theorem dX11_rule_208 : decode cX11_rule 208 = .ok (.aload_n 0, 1) := by decide +kernel
theorem dX11_rule_209 : decode cX11_rule 209 = .ok (.getfield 153, 3) := by decide +kernel
theorem dX11_rule_212 : decode cX11_rule 212 = .ok (.iload_n 2, 1) := by decide +kernel
theorem dX11_rule_213 : decode cX11_rule 213 = .ok (.iastore, 1) := by decide +kernel
theorem dX11_rule_214 : decode cX11_rule 214 = .ok (.aload_n 0, 1) := by decide +kernel
theorem dX11_rule_215 : decode cX11_rule 215 = .ok (.getfield 35, 3) := by decide +kernel
theorem dX11_rule_218 : decode cX11_rule 218 = .ok (.aload_n 0, 1) := by decide +kernel
theorem dX11_rule_219 : decode cX11_rule 219 = .ok (.getfield 153, 3) := by decide +kernel
theorem dX11_rule_222 : decode cX11_rule 222 = .ok (.iload_n 3, 1) := by decide +kernel
theorem dX11_rule_223 : decode cX11_rule 223 = .ok (.iastore, 1) := by decide +kernel
theorem dX11_rule_224 : decode cX11_rule 224 = .ok (.aload_n 0, 1) := by decide +kernel
theorem dX11_rule_225 : decode cX11_rule 225 = .ok (.getfield 38, 3) := by decide +kernel
theorem dX11_rule_228 : decode cX11_rule 228 = .ok (.aload_n 0, 1) := by decide +kernel
theorem dX11_rule_229 : decode cX11_rule 229 = .ok (.getfield 153, 3) := by decide +kernel
theorem dX11_rule_232 : decode cX11_rule 232 = .ok (.iload 4, 2) := by decide +kernel
theorem dX11_rule_234 : decode cX11_rule 234 = .ok (.iastore, 1) := by decide +kernel
theorem dX11_rule_235 : decode cX11_rule 235 = .ok (.aload_n 0, 1) := by decide +kernel
theorem dX11_rule_236 : decode cX11_rule 236 = .ok (.dup, 1) := by decide +kernel
theorem dX11_rule_237 : decode cX11_rule 237 = .ok (.getfield 153, 3) := by decide +kernel
theorem dX11_rule_240 : decode cX11_rule 240 = .ok (.iconst 1, 1) := by decide +kernel
theorem dX11_rule_241 : decode cX11_rule 241 = .ok (.iadd, 1) := by decide +kernel
theorem dX11_rule_242 : decode cX11_rule 242 = .ok (.putfield 153, 3) := by decide +kernel
theorem dX11_rule_245 : decode cX11_rule 245 = .ok (.aload_n 0, 1) := by decide +kernel
theorem dX11_rule_246 : decode cX11_rule 246 = .ok (.invokevirtual 140, 3) := by decide +kernel
theorem dX11_rule_249 : decode cX11_rule 249 = .ok (.aload_n 0, 1) := by decide +kernel
theorem dX11_rule_250 : decode cX11_rule 250 = .ok (.getfield 153, 3) := by decide +kernel
theorem dX11_rule_253 : decode cX11_rule 253 = .ok (.iconst 1, 1) := by decide +kernel
theorem dX11_rule_254 : decode cX11_rule 254 = .ok (.isub, 1) := by decide +kernel
theorem dX11_rule_255 : decode cX11_rule 255 = .ok (.ireturn, 1) := by decide +kernel
theorem dX11_clear_0 : decode cX11_clear 0 = .ok (.aload_n 0, 1) := by decide +kernel
theorem dX11_clear_1 : decode cX11_clear 1 = .ok (.getfield 153, 3) := by decide +kernel
theorem dX11_clear_4 : decode cX11_clear 4 = .ok (.istore_n 1, 1) := by decide +kernel
theorem dX11_clear_5 : decode cX11_clear 5 = .ok (.aload_n 0, 1) := by decide +kernel
theorem dX11_clear_6 : decode cX11_clear 6 = .ok (.iconst 0, 1) := by decide +kernel
theorem dX11_clear_7 : decode cX11_clear 7 = .ok (.putfield 153, 3) := by decide +kernel
theorem dX11_clear_10 : decode cX11_clear 10 = .ok (.aload_n 0, 1) := by decide +kernel
theorem dX11_clear_11 : decode cX11_clear 11 = .ok (.invokevirtual 140, 3) := by decide +kernel
theorem dX11_clear_14 : decode cX11_clear 14 = .ok (.iload_n 1, 1) := by decide +kernel
theorem dX11_clear_15 : decode cX11_clear 15 = .ok (.ireturn, 1) := by decide +kernel
theorem dX11_about_0 : decode cX11_about 0 = .ok (.iload_n 1, 1) := by decide +kernel
theorem dX11_about_1 : decode cX11_about 1 = .ok (.tableswitch 69 0 5 #[39, 44, 49, 54, 59, 64], 39) := by decide +kernel
theorem dX11_about_40 : decode cX11_about 40 = .ok (.aload_n 0, 1) := by decide +kernel
theorem dX11_about_41 : decode cX11_about 41 = .ok (.getfield 133, 3) := by decide +kernel
theorem dX11_about_44 : decode cX11_about 44 = .ok (.ireturn, 1) := by decide +kernel
theorem dX11_about_45 : decode cX11_about 45 = .ok (.aload_n 0, 1) := by decide +kernel
theorem dX11_about_46 : decode cX11_about 46 = .ok (.getfield 143, 3) := by decide +kernel
theorem dX11_about_49 : decode cX11_about 49 = .ok (.ireturn, 1) := by decide +kernel
theorem dX11_about_50 : decode cX11_about 50 = .ok (.aload_n 0, 1) := by decide +kernel
theorem dX11_about_51 : decode cX11_about 51 = .ok (.getfield 25, 3) := by decide +kernel
theorem dX11_about_54 : decode cX11_about 54 = .ok (.ireturn, 1) := by decide +kernel
theorem dX11_about_55 : decode cX11_about 55 = .ok (.aload_n 0, 1) := by decide +kernel
theorem dX11_about_56 : decode cX11_about 56 = .ok (.getfield 153, 3) := by decide +kernel
theorem dX11_about_59 : decode cX11_about 59 = .ok (.ireturn, 1) := by decide +kernel
theorem dX11_about_60 : decode cX11_about 60 = .ok (.aload_n 0, 1) := by decide +kernel
theorem dX11_about_61 : decode cX11_about 61 = .ok (.getfield 156, 3) := by decide +kernel
theorem dX11_about_64 : decode cX11_about 64 = .ok (.ireturn, 1) := by decide +kernel
theorem dX11_about_65 : decode cX11_about 65 = .ok (.aload_n 0, 1) := by decide +kernel
theorem dX11_about_66 : decode cX11_about 66 = .ok (.getfield 159, 3) := by decide +kernel
theorem dX11_about_69 : decode cX11_about 69 = .ok (.ireturn, 1) := by decide +kernel
theorem dX11_about_70 : decode cX11_about 70 = .ok (.iload_n 1, 1) := by decide +kernel
theorem dX11_about_71 : decode cX11_about 71 = .ok (.bipush 10, 2) := by decide +kernel
theorem dX11_about_73 : decode cX11_about 73 = .ok (.bipush 9, 2) := by decide +kernel
theorem dX11_about_75 : decode cX11_about 75 = .ok (.aload_n 0, 1) := by decide +kernel
theorem dX11_about_76 : decode cX11_about 76 = .ok (.getfield 133, 3) := by decide +kernel
theorem dX11_about_79 : decode cX11_about 79 = .ok (.iadd, 1) := by decide +kernel
theorem dX11_about_80 : decode cX11_about 80 = .ok (.invokestatic 136, 3) := by decide +kernel
theorem dX11_about_83 : decode cX11_about 83 = .ok (.ifCond .eq 15, 3) := by decide +kernel
theorem dX11_about_86 : decode cX11_about 86 = .ok (.aload_n 0, 1) := by decide +kernel
theorem dX11_about_87 : decode cX11_about 87 = .ok (.getfield 13, 3) := by decide +kernel
theorem dX11_about_90 : decode cX11_about 90 = .ok (.iload_n 1, 1) := by decide +kernel
theorem dX11_about_91 : decode cX11_about 91 = .ok (.bipush 10, 2) := by decide +kernel
theorem dX11_about_93 : decode cX11_about 93 = .ok (.isub, 1) := by decide +kernel
theorem dX11_about_94 : decode cX11_about 94 = .ok (.iaload, 1) := by decide +kernel
theorem dX11_about_95 : decode cX11_about 95 = .ok (.goto 5, 3) := by decide +kernel
theorem dX11_about_98 : decode cX11_about 98 = .ok (.bipush (-102), 2) := by decide +kernel
theorem dX11_about_100 : decode cX11_about 100 = .ok (.ireturn, 1) := by decide +kernel
theorem dX11_tellOf_0 : decode cX11_tellOf 0 = .ok (.iload_n 1, 1) := by decide +kernel
theorem dX11_tellOf_1 : decode cX11_tellOf 1 = .ok (.iconst 1, 1) := by decide +kernel
theorem dX11_tellOf_2 : decode cX11_tellOf 2 = .ok (.if_icmp .ne 5, 3) := by decide +kernel
theorem dX11_tellOf_5 : decode cX11_tellOf 5 = .ok (.iload_n 2, 1) := by decide +kernel
theorem dX11_tellOf_6 : decode cX11_tellOf 6 = .ok (.ireturn, 1) := by decide +kernel
theorem dX11_tellOf_7 : decode cX11_tellOf 7 = .ok (.iload_n 2, 1) := by decide +kernel
theorem dX11_tellOf_8 : decode cX11_tellOf 8 = .ok (.bipush 10, 2) := by decide +kernel
theorem dX11_tellOf_10 : decode cX11_tellOf 10 = .ok (.if_icmp .lt 33, 3) := by decide +kernel
theorem dX11_tellOf_13 : decode cX11_tellOf 13 = .ok (.aload_n 0, 1) := by decide +kernel
theorem dX11_tellOf_14 : decode cX11_tellOf 14 = .ok (.getfield 96, 3) := by decide +kernel
theorem dX11_tellOf_17 : decode cX11_tellOf 17 = .ok (.aload_n 0, 1) := by decide +kernel
theorem dX11_tellOf_18 : decode cX11_tellOf 18 = .ok (.getfield 162, 3) := by decide +kernel
theorem dX11_tellOf_21 : decode cX11_tellOf 21 = .ok (.iload_n 2, 1) := by decide +kernel
theorem dX11_tellOf_22 : decode cX11_tellOf 22 = .ok (.bipush 10, 2) := by decide +kernel
theorem dX11_tellOf_24 : decode cX11_tellOf 24 = .ok (.isub, 1) := by decide +kernel
theorem dX11_tellOf_25 : decode cX11_tellOf 25 = .ok (.iastore, 1) := by decide +kernel
theorem dX11_tellOf_26 : decode cX11_tellOf 26 = .ok (.aload_n 0, 1) := by decide +kernel
theorem dX11_tellOf_27 : decode cX11_tellOf 27 = .ok (.dup, 1) := by decide +kernel
theorem dX11_tellOf_28 : decode cX11_tellOf 28 = .ok (.getfield 162, 3) := by decide +kernel
theorem dX11_tellOf_31 : decode cX11_tellOf 31 = .ok (.iconst 1, 1) := by decide +kernel
theorem dX11_tellOf_32 : decode cX11_tellOf 32 = .ok (.iadd, 1) := by decide +kernel
theorem dX11_tellOf_33 : decode cX11_tellOf 33 = .ok (.putfield 162, 3) := by decide +kernel
theorem dX11_tellOf_36 : decode cX11_tellOf 36 = .ok (.aload_n 0, 1) := by decide +kernel
theorem dX11_tellOf_37 : decode cX11_tellOf 37 = .ok (.getfield 162, 3) := by decide +kernel
theorem dX11_tellOf_40 : decode cX11_tellOf 40 = .ok (.iconst 1, 1) := by decide +kernel
theorem dX11_tellOf_41 : decode cX11_tellOf 41 = .ok (.isub, 1) := by decide +kernel
theorem dX11_tellOf_42 : decode cX11_tellOf 42 = .ok (.ireturn, 1) := by decide +kernel
theorem dX11_tellOf_43 : decode cX11_tellOf 43 = .ok (.iload_n 2, 1) := by decide +kernel
theorem dX11_tellOf_44 : decode cX11_tellOf 44 = .ok (.ifCond .ne 7, 3) := by decide +kernel
theorem dX11_tellOf_47 : decode cX11_tellOf 47 = .ok (.iconst (-1), 1) := by decide +kernel
theorem dX11_tellOf_48 : decode cX11_tellOf 48 = .ok (.goto 6, 3) := by decide +kernel
theorem dX11_tellOf_51 : decode cX11_tellOf 51 = .ok (.iload_n 2, 1) := by decide +kernel
theorem dX11_tellOf_52 : decode cX11_tellOf 52 = .ok (.iconst 1, 1) := by decide +kernel
theorem dX11_tellOf_53 : decode cX11_tellOf 53 = .ok (.isub, 1) := by decide +kernel
theorem dX11_tellOf_54 : decode cX11_tellOf 54 = .ok (.ireturn, 1) := by decide +kernel
theorem dX11_goThrough_0 : decode cX11_goThrough 0 = .ok (.aload_n 0, 1) := by decide +kernel
theorem dX11_goThrough_1 : decode cX11_goThrough 1 = .ok (.iconst 0, 1) := by decide +kernel
theorem dX11_goThrough_2 : decode cX11_goThrough 2 = .ok (.putfield 162, 3) := by decide +kernel
theorem dX11_goThrough_5 : decode cX11_goThrough 5 = .ok (.iconst 0, 1) := by decide +kernel
theorem dX11_goThrough_6 : decode cX11_goThrough 6 = .ok (.istore_n 2, 1) := by decide +kernel
theorem dX11_goThrough_7 : decode cX11_goThrough 7 = .ok (.iconst 0, 1) := by decide +kernel
theorem dX11_goThrough_8 : decode cX11_goThrough 8 = .ok (.istore_n 3, 1) := by decide +kernel
theorem dX11_goThrough_9 : decode cX11_goThrough 9 = .ok (.iload_n 3, 1) := by decide +kernel
theorem dX11_goThrough_10 : decode cX11_goThrough 10 = .ok (.aload_n 0, 1) := by decide +kernel
theorem dX11_goThrough_11 : decode cX11_goThrough 11 = .ok (.getfield 143, 3) := by decide +kernel
theorem dX11_goThrough_14 : decode cX11_goThrough 14 = .ok (.if_icmp .ge 50, 3) := by decide +kernel
theorem dX11_goThrough_17 : decode cX11_goThrough 17 = .ok (.iload_n 2, 1) := by decide +kernel
theorem dX11_goThrough_18 : decode cX11_goThrough 18 = .ok (.iload_n 1, 1) := by decide +kernel
theorem dX11_goThrough_19 : decode cX11_goThrough 19 = .ok (.if_icmp .ne 19, 3) := by decide +kernel
theorem dX11_goThrough_22 : decode cX11_goThrough 22 = .ok (.aload_n 0, 1) := by decide +kernel
theorem dX11_goThrough_23 : decode cX11_goThrough 23 = .ok (.iconst 0, 1) := by decide +kernel
theorem dX11_goThrough_24 : decode cX11_goThrough 24 = .ok (.putfield 165, 3) := by decide +kernel
theorem dX11_goThrough_27 : decode cX11_goThrough 27 = .ok (.aload_n 0, 1) := by decide +kernel
theorem dX11_goThrough_28 : decode cX11_goThrough 28 = .ok (.aload_n 0, 1) := by decide +kernel
theorem dX11_goThrough_29 : decode cX11_goThrough 29 = .ok (.getfield 22, 3) := by decide +kernel
theorem dX11_goThrough_32 : decode cX11_goThrough 32 = .ok (.iload_n 3, 1) := by decide +kernel
theorem dX11_goThrough_33 : decode cX11_goThrough 33 = .ok (.iaload, 1) := by decide +kernel
theorem dX11_goThrough_34 : decode cX11_goThrough 34 = .ok (.putfield 168, 3) := by decide +kernel
theorem dX11_goThrough_37 : decode cX11_goThrough 37 = .ok (.return_, 1) := by decide +kernel
theorem dX11_goThrough_38 : decode cX11_goThrough 38 = .ok (.aload_n 0, 1) := by decide +kernel
theorem dX11_goThrough_39 : decode cX11_goThrough 39 = .ok (.getfield 99, 3) := by decide +kernel
theorem dX11_goThrough_42 : decode cX11_goThrough 42 = .ok (.iload_n 3, 1) := by decide +kernel
theorem dX11_goThrough_43 : decode cX11_goThrough 43 = .ok (.aload_n 0, 1) := by decide +kernel
theorem dX11_goThrough_44 : decode cX11_goThrough 44 = .ok (.iconst 0, 1) := by decide +kernel
theorem dX11_goThrough_45 : decode cX11_goThrough 45 = .ok (.aload_n 0, 1) := by decide +kernel
theorem dX11_goThrough_46 : decode cX11_goThrough 46 = .ok (.getfield 93, 3) := by decide +kernel
theorem dX11_goThrough_49 : decode cX11_goThrough 49 = .ok (.iload_n 2, 1) := by decide +kernel
theorem dX11_goThrough_50 : decode cX11_goThrough 50 = .ok (.iaload, 1) := by decide +kernel
theorem dX11_goThrough_51 : decode cX11_goThrough 51 = .ok (.invokevirtual 171, 3) := by decide +kernel
theorem dX11_goThrough_54 : decode cX11_goThrough 54 = .ok (.iastore, 1) := by decide +kernel
theorem dX11_goThrough_55 : decode cX11_goThrough 55 = .ok (.iinc 2 1, 3) := by decide +kernel
theorem dX11_goThrough_58 : decode cX11_goThrough 58 = .ok (.iinc 3 1, 3) := by decide +kernel
theorem dX11_goThrough_61 : decode cX11_goThrough 61 = .ok (.goto (-52), 3) := by decide +kernel
theorem dX11_goThrough_64 : decode cX11_goThrough 64 = .ok (.iconst 0, 1) := by decide +kernel
theorem dX11_goThrough_65 : decode cX11_goThrough 65 = .ok (.istore_n 3, 1) := by decide +kernel
theorem dX11_goThrough_66 : decode cX11_goThrough 66 = .ok (.iload_n 3, 1) := by decide +kernel
theorem dX11_goThrough_67 : decode cX11_goThrough 67 = .ok (.aload_n 0, 1) := by decide +kernel
theorem dX11_goThrough_68 : decode cX11_goThrough 68 = .ok (.getfield 162, 3) := by decide +kernel
theorem dX11_goThrough_71 : decode cX11_goThrough 71 = .ok (.if_icmp .ge 112, 3) := by decide +kernel
theorem dX11_goThrough_74 : decode cX11_goThrough 74 = .ok (.aload_n 0, 1) := by decide +kernel
theorem dX11_goThrough_75 : decode cX11_goThrough 75 = .ok (.getfield 96, 3) := by decide +kernel
theorem dX11_goThrough_78 : decode cX11_goThrough 78 = .ok (.iload_n 3, 1) := by decide +kernel
theorem dX11_goThrough_79 : decode cX11_goThrough 79 = .ok (.iaload, 1) := by decide +kernel
theorem dX11_goThrough_80 : decode cX11_goThrough 80 = .ok (.istore 4, 2) := by decide +kernel
theorem dX11_goThrough_82 : decode cX11_goThrough 82 = .ok (.iconst 0, 1) := by decide +kernel
theorem dX11_goThrough_83 : decode cX11_goThrough 83 = .ok (.istore 5, 2) := by decide +kernel
theorem dX11_goThrough_85 : decode cX11_goThrough 85 = .ok (.iload 5, 2) := by decide +kernel
theorem dX11_goThrough_87 : decode cX11_goThrough 87 = .ok (.aload_n 0, 1) := by decide +kernel
theorem dX11_goThrough_88 : decode cX11_goThrough 88 = .ok (.getfield 13, 3) := by decide +kernel
theorem dX11_goThrough_91 : decode cX11_goThrough 91 = .ok (.iload 4, 2) := by decide +kernel
theorem dX11_goThrough_93 : decode cX11_goThrough 93 = .ok (.iaload, 1) := by decide +kernel
theorem dX11_goThrough_94 : decode cX11_goThrough 94 = .ok (.if_icmp .ge 83, 3) := by decide +kernel
theorem dX11_goThrough_97 : decode cX11_goThrough 97 = .ok (.iload_n 2, 1) := by decide +kernel
theorem dX11_goThrough_98 : decode cX11_goThrough 98 = .ok (.iload_n 1, 1) := by decide +kernel
theorem dX11_goThrough_99 : decode cX11_goThrough 99 = .ok (.if_icmp .ne 36, 3) := by decide +kernel
theorem dX11_goThrough_102 : decode cX11_goThrough 102 = .ok (.aload_n 0, 1) := by decide +kernel
theorem dX11_goThrough_103 : decode cX11_goThrough 103 = .ok (.aload_n 0, 1) := by decide +kernel
theorem dX11_goThrough_104 : decode cX11_goThrough 104 = .ok (.getfield 16, 3) := by decide +kernel
theorem dX11_goThrough_107 : decode cX11_goThrough 107 = .ok (.iconst 4, 1) := by decide +kernel
theorem dX11_goThrough_108 : decode cX11_goThrough 108 = .ok (.iload 4, 2) := by decide +kernel
theorem dX11_goThrough_110 : decode cX11_goThrough 110 = .ok (.imul, 1) := by decide +kernel
theorem dX11_goThrough_111 : decode cX11_goThrough 111 = .ok (.iload 5, 2) := by decide +kernel
theorem dX11_goThrough_113 : decode cX11_goThrough 113 = .ok (.iadd, 1) := by decide +kernel
theorem dX11_goThrough_114 : decode cX11_goThrough 114 = .ok (.iaload, 1) := by decide +kernel
theorem dX11_goThrough_115 : decode cX11_goThrough 115 = .ok (.putfield 165, 3) := by decide +kernel
theorem dX11_goThrough_118 : decode cX11_goThrough 118 = .ok (.aload_n 0, 1) := by decide +kernel
theorem dX11_goThrough_119 : decode cX11_goThrough 119 = .ok (.aload_n 0, 1) := by decide +kernel
theorem dX11_goThrough_120 : decode cX11_goThrough 120 = .ok (.getfield 19, 3) := by decide +kernel
theorem dX11_goThrough_123 : decode cX11_goThrough 123 = .ok (.iconst 4, 1) := by decide +kernel
theorem dX11_goThrough_124 : decode cX11_goThrough 124 = .ok (.iload 4, 2) := by decide +kernel
theorem dX11_goThrough_126 : decode cX11_goThrough 126 = .ok (.imul, 1) := by decide +kernel
theorem dX11_goThrough_127 : decode cX11_goThrough 127 = .ok (.iload 5, 2) := by decide +kernel
theorem dX11_goThrough_129 : decode cX11_goThrough 129 = .ok (.iadd, 1) := by decide +kernel
theorem dX11_goThrough_130 : decode cX11_goThrough 130 = .ok (.iaload, 1) := by decide +kernel
theorem dX11_goThrough_131 : decode cX11_goThrough 131 = .ok (.putfield 168, 3) := by decide +kernel
theorem dX11_goThrough_134 : decode cX11_goThrough 134 = .ok (.return_, 1) := by decide +kernel
theorem dX11_goThrough_135 : decode cX11_goThrough 135 = .ok (.aload_n 0, 1) := by decide +kernel
theorem dX11_goThrough_136 : decode cX11_goThrough 136 = .ok (.getfield 102, 3) := by decide +kernel
theorem dX11_goThrough_139 : decode cX11_goThrough 139 = .ok (.iconst 4, 1) := by decide +kernel
theorem dX11_goThrough_140 : decode cX11_goThrough 140 = .ok (.iload_n 3, 1) := by decide +kernel
theorem dX11_goThrough_141 : decode cX11_goThrough 141 = .ok (.imul, 1) := by decide +kernel
theorem dX11_goThrough_142 : decode cX11_goThrough 142 = .ok (.iload 5, 2) := by decide +kernel
theorem dX11_goThrough_144 : decode cX11_goThrough 144 = .ok (.iadd, 1) := by decide +kernel
theorem dX11_goThrough_145 : decode cX11_goThrough 145 = .ok (.aload_n 0, 1) := by decide +kernel
theorem dX11_goThrough_146 : decode cX11_goThrough 146 = .ok (.aload_n 0, 1) := by decide +kernel
theorem dX11_goThrough_147 : decode cX11_goThrough 147 = .ok (.getfield 16, 3) := by decide +kernel
theorem dX11_goThrough_150 : decode cX11_goThrough 150 = .ok (.iconst 4, 1) := by decide +kernel
theorem dX11_goThrough_151 : decode cX11_goThrough 151 = .ok (.iload 4, 2) := by decide +kernel
theorem dX11_goThrough_153 : decode cX11_goThrough 153 = .ok (.imul, 1) := by decide +kernel
theorem dX11_goThrough_154 : decode cX11_goThrough 154 = .ok (.iload 5, 2) := by decide +kernel
theorem dX11_goThrough_156 : decode cX11_goThrough 156 = .ok (.iadd, 1) := by decide +kernel
theorem dX11_goThrough_157 : decode cX11_goThrough 157 = .ok (.iaload, 1) := by decide +kernel
theorem dX11_goThrough_158 : decode cX11_goThrough 158 = .ok (.aload_n 0, 1) := by decide +kernel
theorem dX11_goThrough_159 : decode cX11_goThrough 159 = .ok (.getfield 93, 3) := by decide +kernel
theorem dX11_goThrough_162 : decode cX11_goThrough 162 = .ok (.iload_n 2, 1) := by decide +kernel
theorem dX11_goThrough_163 : decode cX11_goThrough 163 = .ok (.iaload, 1) := by decide +kernel
theorem dX11_goThrough_164 : decode cX11_goThrough 164 = .ok (.invokevirtual 171, 3) := by decide +kernel
theorem dX11_goThrough_167 : decode cX11_goThrough 167 = .ok (.iastore, 1) := by decide +kernel
theorem dX11_goThrough_168 : decode cX11_goThrough 168 = .ok (.iinc 2 1, 3) := by decide +kernel
theorem dX11_goThrough_171 : decode cX11_goThrough 171 = .ok (.iinc 5 1, 3) := by decide +kernel
theorem dX11_goThrough_174 : decode cX11_goThrough 174 = .ok (.goto (-89), 3) := by decide +kernel
theorem dX11_goThrough_177 : decode cX11_goThrough 177 = .ok (.iinc 3 1, 3) := by decide +kernel
theorem dX11_goThrough_180 : decode cX11_goThrough 180 = .ok (.goto (-114), 3) := by decide +kernel
theorem dX11_goThrough_183 : decode cX11_goThrough 183 = .ok (.aload_n 0, 1) := by decide +kernel
theorem dX11_goThrough_184 : decode cX11_goThrough 184 = .ok (.iconst (-1), 1) := by decide +kernel
theorem dX11_goThrough_185 : decode cX11_goThrough 185 = .ok (.putfield 165, 3) := by decide +kernel
theorem dX11_goThrough_188 : decode cX11_goThrough 188 = .ok (.return_, 1) := by decide +kernel
theorem dX11_canBe_0 : decode cX11_canBe 0 = .ok (.aload_n 0, 1) := by decide +kernel
theorem dX11_canBe_1 : decode cX11_canBe 1 = .ok (.getfield 165, 3) := by decide +kernel
theorem dX11_canBe_4 : decode cX11_canBe 4 = .ok (.iconst 1, 1) := by decide +kernel
theorem dX11_canBe_5 : decode cX11_canBe 5 = .ok (.if_icmp .ne 13, 3) := by decide +kernel
theorem dX11_canBe_8 : decode cX11_canBe 8 = .ok (.iload_n 1, 1) := by decide +kernel
theorem dX11_canBe_9 : decode cX11_canBe 9 = .ok (.iconst 0, 1) := by decide +kernel
theorem dX11_canBe_10 : decode cX11_canBe 10 = .ok (.aload_n 0, 1) := by decide +kernel
theorem dX11_canBe_11 : decode cX11_canBe 11 = .ok (.getfield 168, 3) := by decide +kernel
theorem dX11_canBe_14 : decode cX11_canBe 14 = .ok (.invokestatic 136, 3) := by decide +kernel
theorem dX11_canBe_17 : decode cX11_canBe 17 = .ok (.ireturn, 1) := by decide +kernel
theorem dX11_canBe_18 : decode cX11_canBe 18 = .ok (.iload_n 1, 1) := by decide +kernel
theorem dX11_canBe_19 : decode cX11_canBe 19 = .ok (.iconst 1, 1) := by decide +kernel
theorem dX11_canBe_20 : decode cX11_canBe 20 = .ok (.bipush 9, 2) := by decide +kernel
theorem dX11_canBe_22 : decode cX11_canBe 22 = .ok (.invokestatic 136, 3) := by decide +kernel
theorem dX11_canBe_25 : decode cX11_canBe 25 = .ok (.ifCond .eq 38, 3) := by decide +kernel
theorem dX11_canBe_28 : decode cX11_canBe 28 = .ok (.iload_n 1, 1) := by decide +kernel
theorem dX11_canBe_29 : decode cX11_canBe 29 = .ok (.iconst 1, 1) := by decide +kernel
theorem dX11_canBe_30 : decode cX11_canBe 30 = .ok (.isub, 1) := by decide +kernel
theorem dX11_canBe_31 : decode cX11_canBe 31 = .ok (.aload_n 0, 1) := by decide +kernel
theorem dX11_canBe_32 : decode cX11_canBe 32 = .ok (.getfield 162, 3) := by decide +kernel
theorem dX11_canBe_35 : decode cX11_canBe 35 = .ok (.if_icmp .ge 26, 3) := by decide +kernel
theorem dX11_canBe_38 : decode cX11_canBe 38 = .ok (.aload_n 0, 1) := by decide +kernel
theorem dX11_canBe_39 : decode cX11_canBe 39 = .ok (.aload_n 0, 1) := by decide +kernel
theorem dX11_canBe_40 : decode cX11_canBe 40 = .ok (.getfield 96, 3) := by decide +kernel
theorem dX11_canBe_43 : decode cX11_canBe 43 = .ok (.iload_n 1, 1) := by decide +kernel
theorem dX11_canBe_44 : decode cX11_canBe 44 = .ok (.iconst 1, 1) := by decide +kernel
theorem dX11_canBe_45 : decode cX11_canBe 45 = .ok (.isub, 1) := by decide +kernel
theorem dX11_canBe_46 : decode cX11_canBe 46 = .ok (.iaload, 1) := by decide +kernel
theorem dX11_canBe_47 : decode cX11_canBe 47 = .ok (.aload_n 0, 1) := by decide +kernel
theorem dX11_canBe_48 : decode cX11_canBe 48 = .ok (.getfield 168, 3) := by decide +kernel
theorem dX11_canBe_51 : decode cX11_canBe 51 = .ok (.invokevirtual 175, 3) := by decide +kernel
theorem dX11_canBe_54 : decode cX11_canBe 54 = .ok (.ifCond .eq 7, 3) := by decide +kernel
theorem dX11_canBe_57 : decode cX11_canBe 57 = .ok (.iconst 1, 1) := by decide +kernel
theorem dX11_canBe_58 : decode cX11_canBe 58 = .ok (.goto 4, 3) := by decide +kernel
theorem dX11_canBe_61 : decode cX11_canBe 61 = .ok (.iconst 0, 1) := by decide +kernel
theorem dX11_canBe_62 : decode cX11_canBe 62 = .ok (.ireturn, 1) := by decide +kernel
theorem dX11_canBe_63 : decode cX11_canBe 63 = .ok (.iload_n 1, 1) := by decide +kernel
theorem dX11_canBe_64 : decode cX11_canBe 64 = .ok (.ifCond .eq 45, 3) := by decide +kernel
theorem dX11_canBe_67 : decode cX11_canBe 67 = .ok (.iload_n 1, 1) := by decide +kernel
theorem dX11_canBe_68 : decode cX11_canBe 68 = .ok (.bipush 10, 2) := by decide +kernel
theorem dX11_canBe_70 : decode cX11_canBe 70 = .ok (.bipush 9, 2) := by decide +kernel
theorem dX11_canBe_72 : decode cX11_canBe 72 = .ok (.aload_n 0, 1) := by decide +kernel
theorem dX11_canBe_73 : decode cX11_canBe 73 = .ok (.getfield 133, 3) := by decide +kernel
theorem dX11_canBe_76 : decode cX11_canBe 76 = .ok (.iadd, 1) := by decide +kernel
theorem dX11_canBe_77 : decode cX11_canBe 77 = .ok (.invokestatic 136, 3) := by decide +kernel
theorem dX11_canBe_80 : decode cX11_canBe 80 = .ok (.ifCond .eq 33, 3) := by decide +kernel
theorem dX11_canBe_83 : decode cX11_canBe 83 = .ok (.aload_n 0, 1) := by decide +kernel
theorem dX11_canBe_84 : decode cX11_canBe 84 = .ok (.getfield 162, 3) := by decide +kernel
theorem dX11_canBe_87 : decode cX11_canBe 87 = .ok (.aload_n 0, 1) := by decide +kernel
theorem dX11_canBe_88 : decode cX11_canBe 88 = .ok (.getfield 25, 3) := by decide +kernel
theorem dX11_canBe_91 : decode cX11_canBe 91 = .ok (.if_icmp .ge 22, 3) := by decide +kernel
theorem dX11_canBe_94 : decode cX11_canBe 94 = .ok (.aload_n 0, 1) := by decide +kernel
theorem dX11_canBe_95 : decode cX11_canBe 95 = .ok (.iload_n 1, 1) := by decide +kernel
theorem dX11_canBe_96 : decode cX11_canBe 96 = .ok (.bipush 10, 2) := by decide +kernel
theorem dX11_canBe_98 : decode cX11_canBe 98 = .ok (.isub, 1) := by decide +kernel
theorem dX11_canBe_99 : decode cX11_canBe 99 = .ok (.aload_n 0, 1) := by decide +kernel
theorem dX11_canBe_100 : decode cX11_canBe 100 = .ok (.getfield 168, 3) := by decide +kernel
theorem dX11_canBe_103 : decode cX11_canBe 103 = .ok (.invokevirtual 175, 3) := by decide +kernel
theorem dX11_canBe_106 : decode cX11_canBe 106 = .ok (.ifCond .eq 7, 3) := by decide +kernel
theorem dX11_canBe_109 : decode cX11_canBe 109 = .ok (.iconst 1, 1) := by decide +kernel
theorem dX11_canBe_110 : decode cX11_canBe 110 = .ok (.goto 4, 3) := by decide +kernel
theorem dX11_canBe_113 : decode cX11_canBe 113 = .ok (.iconst 0, 1) := by decide +kernel
theorem dX11_canBe_114 : decode cX11_canBe 114 = .ok (.ireturn, 1) := by decide +kernel
theorem dX11_nextChoice_0 : decode cX11_nextChoice 0 = .ok (.iload_n 1, 1) := by decide +kernel
theorem dX11_nextChoice_1 : decode cX11_nextChoice 1 = .ok (.iconst 1, 1) := by decide +kernel
theorem dX11_nextChoice_2 : decode cX11_nextChoice 2 = .ok (.iadd, 1) := by decide +kernel
theorem dX11_nextChoice_3 : decode cX11_nextChoice 3 = .ok (.istore_n 2, 1) := by decide +kernel
theorem dX11_nextChoice_4 : decode cX11_nextChoice 4 = .ok (.iload_n 2, 1) := by decide +kernel
theorem dX11_nextChoice_5 : decode cX11_nextChoice 5 = .ok (.bipush 14, 2) := by decide +kernel
theorem dX11_nextChoice_7 : decode cX11_nextChoice 7 = .ok (.if_icmp .ge 19, 3) := by decide +kernel
theorem dX11_nextChoice_10 : decode cX11_nextChoice 10 = .ok (.aload_n 0, 1) := by decide +kernel
theorem dX11_nextChoice_11 : decode cX11_nextChoice 11 = .ok (.iload_n 2, 1) := by decide +kernel
theorem dX11_nextChoice_12 : decode cX11_nextChoice 12 = .ok (.invokevirtual 178, 3) := by decide +kernel
theorem dX11_nextChoice_15 : decode cX11_nextChoice 15 = .ok (.ifCond .eq 5, 3) := by decide +kernel
theorem dX11_nextChoice_18 : decode cX11_nextChoice 18 = .ok (.iload_n 2, 1) := by decide +kernel
theorem dX11_nextChoice_19 : decode cX11_nextChoice 19 = .ok (.ireturn, 1) := by decide +kernel
theorem dX11_nextChoice_20 : decode cX11_nextChoice 20 = .ok (.iinc 2 1, 3) := by decide +kernel
theorem dX11_nextChoice_23 : decode cX11_nextChoice 23 = .ok (.goto (-19), 3) := by decide +kernel
theorem dX11_nextChoice_26 : decode cX11_nextChoice 26 = .ok (.iconst (-1), 1) := by decide +kernel
theorem dX11_nextChoice_27 : decode cX11_nextChoice 27 = .ok (.ireturn, 1) := by decide +kernel
theorem dX11_fill_0 : decode cX11_fill 0 = .ok (.iload_n 1, 1) := by decide +kernel
theorem dX11_fill_1 : decode cX11_fill 1 = .ok (.istore_n 2, 1) := by decide +kernel
theorem dX11_fill_2 : decode cX11_fill 2 = .ok (.aload_n 0, 1) := by decide +kernel
theorem dX11_fill_3 : decode cX11_fill 3 = .ok (.iload_n 2, 1) := by decide +kernel
theorem dX11_fill_4 : decode cX11_fill 4 = .ok (.invokevirtual 182, 3) := by decide +kernel
theorem dX11_fill_7 : decode cX11_fill 7 = .ok (.aload_n 0, 1) := by decide +kernel
theorem dX11_fill_8 : decode cX11_fill 8 = .ok (.getfield 165, 3) := by decide +kernel
theorem dX11_fill_11 : decode cX11_fill 11 = .ok (.iconst (-1), 1) := by decide +kernel
theorem dX11_fill_12 : decode cX11_fill 12 = .ok (.if_icmp .eq 25, 3) := by decide +kernel
theorem dX11_fill_15 : decode cX11_fill 15 = .ok (.aload_n 0, 1) := by decide +kernel
theorem dX11_fill_16 : decode cX11_fill 16 = .ok (.getfield 93, 3) := by decide +kernel
theorem dX11_fill_19 : decode cX11_fill 19 = .ok (.iload_n 2, 1) := by decide +kernel
theorem dX11_fill_20 : decode cX11_fill 20 = .ok (.aload_n 0, 1) := by decide +kernel
theorem dX11_fill_21 : decode cX11_fill 21 = .ok (.iconst (-1), 1) := by decide +kernel
theorem dX11_fill_22 : decode cX11_fill 22 = .ok (.invokevirtual 186, 3) := by decide +kernel
theorem dX11_fill_25 : decode cX11_fill 25 = .ok (.iastore, 1) := by decide +kernel
theorem dX11_fill_26 : decode cX11_fill 26 = .ok (.iinc 2 1, 3) := by decide +kernel
theorem dX11_fill_29 : decode cX11_fill 29 = .ok (.aload_n 0, 1) := by decide +kernel
theorem dX11_fill_30 : decode cX11_fill 30 = .ok (.iload_n 2, 1) := by decide +kernel
theorem dX11_fill_31 : decode cX11_fill 31 = .ok (.invokevirtual 182, 3) := by decide +kernel
theorem dX11_fill_34 : decode cX11_fill 34 = .ok (.goto (-27), 3) := by decide +kernel
