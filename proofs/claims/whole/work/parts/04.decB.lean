theorem dX3_init_0 : decode cX3_init 0 = .ok (.aload_n 0, 1) := by decide +kernel
theorem dX3_init_1 : decode cX3_init 1 = .ok (.invokespecial 1, 3) := by decide +kernel
theorem dX3_init_4 : decode cX3_init 4 = .ok (.aload_n 0, 1) := by decide +kernel
theorem dX3_init_5 : decode cX3_init 5 = .ok (.bipush 21, 2) := by decide +kernel
theorem dX3_init_7 : decode cX3_init 7 = .ok (.newarray .int, 2) := by decide +kernel
theorem dX3_init_9 : decode cX3_init 9 = .ok (.putfield 7, 3) := by decide +kernel
theorem dX3_init_12 : decode cX3_init 12 = .ok (.aload_n 0, 1) := by decide +kernel
theorem dX3_init_13 : decode cX3_init 13 = .ok (.bipush 21, 2) := by decide +kernel
theorem dX3_init_15 : decode cX3_init 15 = .ok (.newarray .int, 2) := by decide +kernel
theorem dX3_init_17 : decode cX3_init 17 = .ok (.putfield 13, 3) := by decide +kernel
theorem dX3_init_20 : decode cX3_init 20 = .ok (.aload_n 0, 1) := by decide +kernel
theorem dX3_init_21 : decode cX3_init 21 = .ok (.bipush 21, 2) := by decide +kernel
theorem dX3_init_23 : decode cX3_init 23 = .ok (.newarray .int, 2) := by decide +kernel
theorem dX3_init_25 : decode cX3_init 25 = .ok (.putfield 16, 3) := by decide +kernel
theorem dX3_init_28 : decode cX3_init 28 = .ok (.aload_n 0, 1) := by decide +kernel
theorem dX3_init_29 : decode cX3_init 29 = .ok (.iconst 2, 1) := by decide +kernel
theorem dX3_init_30 : decode cX3_init 30 = .ok (.putfield 19, 3) := by decide +kernel
theorem dX3_init_33 : decode cX3_init 33 = .ok (.aload_n 0, 1) := by decide +kernel
theorem dX3_init_34 : decode cX3_init 34 = .ok (.bipush 21, 2) := by decide +kernel
theorem dX3_init_36 : decode cX3_init 36 = .ok (.newarray .int, 2) := by decide +kernel
theorem dX3_init_38 : decode cX3_init 38 = .ok (.putfield 23, 3) := by decide +kernel
theorem dX3_init_41 : decode cX3_init 41 = .ok (.aload_n 0, 1) := by decide +kernel
theorem dX3_init_42 : decode cX3_init 42 = .ok (.bipush 21, 2) := by decide +kernel
theorem dX3_init_44 : decode cX3_init 44 = .ok (.newarray .int, 2) := by decide +kernel
theorem dX3_init_46 : decode cX3_init 46 = .ok (.putfield 26, 3) := by decide +kernel
theorem dX3_init_49 : decode cX3_init 49 = .ok (.aload_n 0, 1) := by decide +kernel
theorem dX3_init_50 : decode cX3_init 50 = .ok (.iconst 2, 1) := by decide +kernel
theorem dX3_init_51 : decode cX3_init 51 = .ok (.newarray .int, 2) := by decide +kernel
theorem dX3_init_53 : decode cX3_init 53 = .ok (.putfield 29, 3) := by decide +kernel
theorem dX3_init_56 : decode cX3_init 56 = .ok (.aload_n 0, 1) := by decide +kernel
theorem dX3_init_57 : decode cX3_init 57 = .ok (.iconst 2, 1) := by decide +kernel
theorem dX3_init_58 : decode cX3_init 58 = .ok (.newarray .int, 2) := by decide +kernel
theorem dX3_init_60 : decode cX3_init 60 = .ok (.putfield 32, 3) := by decide +kernel
theorem dX3_init_63 : decode cX3_init 63 = .ok (.aload_n 0, 1) := by decide +kernel
theorem dX3_init_64 : decode cX3_init 64 = .ok (.bipush 20, 2) := by decide +kernel
theorem dX3_init_66 : decode cX3_init 66 = .ok (.newarray .int, 2) := by decide +kernel
theorem dX3_init_68 : decode cX3_init 68 = .ok (.putfield 35, 3) := by decide +kernel
theorem dX3_init_71 : decode cX3_init 71 = .ok (.aload_n 0, 1) := by decide +kernel
theorem dX3_init_72 : decode cX3_init 72 = .ok (.bipush 20, 2) := by decide +kernel
theorem dX3_init_74 : decode cX3_init 74 = .ok (.newarray .boolean, 2) := by decide +kernel
theorem dX3_init_76 : decode cX3_init 76 = .ok (.putfield 38, 3) := by decide +kernel
theorem dX3_init_79 : decode cX3_init 79 = .ok (.aload_n 0, 1) := by decide +kernel
theorem dX3_init_80 : decode cX3_init 80 = .ok (.bipush 20, 2) := by decide +kernel
theorem dX3_init_82 : decode cX3_init 82 = .ok (.newarray .int, 2) := by decide +kernel
theorem dX3_init_84 : decode cX3_init 84 = .ok (.putfield 42, 3) := by decide +kernel
theorem dX3_init_87 : decode cX3_init 87 = .ok (.aload_n 0, 1) := by decide +kernel
theorem dX3_init_88 : decode cX3_init 88 = .ok (.iconst 4, 1) := by decide +kernel
theorem dX3_init_89 : decode cX3_init 89 = .ok (.newarray .int, 2) := by decide +kernel
theorem dX3_init_91 : decode cX3_init 91 = .ok (.putfield 45, 3) := by decide +kernel
theorem dX3_init_94 : decode cX3_init 94 = .ok (.aload_n 0, 1) := by decide +kernel
theorem dX3_init_95 : decode cX3_init 95 = .ok (.bipush 48, 2) := by decide +kernel
theorem dX3_init_97 : decode cX3_init 97 = .ok (.newarray .int, 2) := by decide +kernel
theorem dX3_init_99 : decode cX3_init 99 = .ok (.putfield 48, 3) := by decide +kernel
theorem dX3_init_102 : decode cX3_init 102 = .ok (.aload_n 0, 1) := by decide +kernel
theorem dX3_init_103 : decode cX3_init 103 = .ok (.bipush 48, 2) := by decide +kernel
theorem dX3_init_105 : decode cX3_init 105 = .ok (.newarray .int, 2) := by decide +kernel
theorem dX3_init_107 : decode cX3_init 107 = .ok (.putfield 51, 3) := by decide +kernel
theorem dX3_init_110 : decode cX3_init 110 = .ok (.aload_n 0, 1) := by decide +kernel
theorem dX3_init_111 : decode cX3_init 111 = .ok (.bipush 48, 2) := by decide +kernel
theorem dX3_init_113 : decode cX3_init 113 = .ok (.newarray .int, 2) := by decide +kernel
theorem dX3_init_115 : decode cX3_init 115 = .ok (.putfield 54, 3) := by decide +kernel
theorem dX3_init_118 : decode cX3_init 118 = .ok (.aload_n 0, 1) := by decide +kernel
theorem dX3_init_119 : decode cX3_init 119 = .ok (.bipush 48, 2) := by decide +kernel
theorem dX3_init_121 : decode cX3_init 121 = .ok (.newarray .int, 2) := by decide +kernel
theorem dX3_init_123 : decode cX3_init 123 = .ok (.putfield 57, 3) := by decide +kernel
theorem dX3_init_126 : decode cX3_init 126 = .ok (.aload_n 0, 1) := by decide +kernel
theorem dX3_init_127 : decode cX3_init 127 = .ok (.bipush 48, 2) := by decide +kernel
theorem dX3_init_129 : decode cX3_init 129 = .ok (.newarray .int, 2) := by decide +kernel
theorem dX3_init_131 : decode cX3_init 131 = .ok (.putfield 60, 3) := by decide +kernel
theorem dX3_init_134 : decode cX3_init 134 = .ok (.aload_n 0, 1) := by decide +kernel
theorem dX3_init_135 : decode cX3_init 135 = .ok (.bipush 80, 2) := by decide +kernel
theorem dX3_init_137 : decode cX3_init 137 = .ok (.newarray .boolean, 2) := by decide +kernel
theorem dX3_init_139 : decode cX3_init 139 = .ok (.putfield 63, 3) := by decide +kernel
theorem dX3_init_142 : decode cX3_init 142 = .ok (.aload_n 0, 1) := by decide +kernel
theorem dX3_init_143 : decode cX3_init 143 = .ok (.bipush 12, 2) := by decide +kernel
theorem dX3_init_145 : decode cX3_init 145 = .ok (.newarray .int, 2) := by decide +kernel
theorem dX3_init_147 : decode cX3_init 147 = .ok (.putfield 66, 3) := by decide +kernel
theorem dX3_init_150 : decode cX3_init 150 = .ok (.aload_n 0, 1) := by decide +kernel
theorem dX3_init_151 : decode cX3_init 151 = .ok (.bipush 12, 2) := by decide +kernel
theorem dX3_init_153 : decode cX3_init 153 = .ok (.newarray .int, 2) := by decide +kernel
theorem dX3_init_155 : decode cX3_init 155 = .ok (.putfield 69, 3) := by decide +kernel
theorem dX3_init_158 : decode cX3_init 158 = .ok (.aload_n 0, 1) := by decide +kernel
theorem dX3_init_159 : decode cX3_init 159 = .ok (.iconst 4, 1) := by decide +kernel
theorem dX3_init_160 : decode cX3_init 160 = .ok (.newarray .int, 2) := by decide +kernel
theorem dX3_init_162 : decode cX3_init 162 = .ok (.putfield 72, 3) := by decide +kernel
theorem dX3_init_165 : decode cX3_init 165 = .ok (.aload_n 0, 1) := by decide +kernel
theorem dX3_init_166 : decode cX3_init 166 = .ok (.bipush 12, 2) := by decide +kernel
theorem dX3_init_168 : decode cX3_init 168 = .ok (.newarray .int, 2) := by decide +kernel
theorem dX3_init_170 : decode cX3_init 170 = .ok (.putfield 75, 3) := by decide +kernel
theorem dX3_init_173 : decode cX3_init 173 = .ok (.aload_n 0, 1) := by decide +kernel
theorem dX3_init_174 : decode cX3_init 174 = .ok (.iconst 4, 1) := by decide +kernel
theorem dX3_init_175 : decode cX3_init 175 = .ok (.newarray .int, 2) := by decide +kernel
theorem dX3_init_177 : decode cX3_init 177 = .ok (.putfield 78, 3) := by decide +kernel
theorem dX3_init_180 : decode cX3_init 180 = .ok (.aload_n 0, 1) := by decide +kernel
theorem dX3_init_181 : decode cX3_init 181 = .ok (.iconst 4, 1) := by decide +kernel
theorem dX3_init_182 : decode cX3_init 182 = .ok (.newarray .int, 2) := by decide +kernel
theorem dX3_init_184 : decode cX3_init 184 = .ok (.putfield 81, 3) := by decide +kernel
theorem dX3_init_187 : decode cX3_init 187 = .ok (.aload_n 0, 1) := by decide +kernel
theorem dX3_init_188 : decode cX3_init 188 = .ok (.bipush 21, 2) := by decide +kernel
theorem dX3_init_190 : decode cX3_init 190 = .ok (.newarray .int, 2) := by decide +kernel
theorem dX3_init_192 : decode cX3_init 192 = .ok (.putfield 84, 3) := by decide +kernel
theorem dX3_init_195 : decode cX3_init 195 = .ok (.aload_n 0, 1) := by decide +kernel
theorem dX3_init_196 : decode cX3_init 196 = .ok (.bipush 21, 2) := by decide +kernel
theorem dX3_init_198 : decode cX3_init 198 = .ok (.newarray .int, 2) := by decide +kernel
theorem dX3_init_200 : decode cX3_init 200 = .ok (.putfield 87, 3) := by decide +kernel
theorem dX3_init_203 : decode cX3_init 203 = .ok (.aload_n 0, 1) := by decide +kernel
theorem dX3_init_204 : decode cX3_init 204 = .ok (.bipush 20, 2) := by decide +kernel
theorem dX3_init_206 : decode cX3_init 206 = .ok (.newarray .int, 2) := by decide +kernel
theorem dX3_init_208 : decode cX3_init 208 = .ok (.putfield 90, 3) := by decide +kernel
theorem dX3_init_211 : decode cX3_init 211 = .ok (.aload_n 0, 1) := by decide +kernel
theorem dX3_init_212 : decode cX3_init 212 = .ok (.bipush (-6), 2) := by decide +kernel
theorem dX3_init_214 : decode cX3_init 214 = .ok (.putfield 93, 3) := by decide +kernel
theorem dX3_init_217 : decode cX3_init 217 = .ok (.aload_n 0, 1) := by decide +kernel
theorem dX3_init_218 : decode cX3_init 218 = .ok (.iconst 3, 1) := by decide +kernel
theorem dX3_init_219 : decode cX3_init 219 = .ok (.newarray .int, 2) := by decide +kernel
theorem dX3_init_221 : decode cX3_init 221 = .ok (.putfield 96, 3) := by decide +kernel
theorem dX3_init_224 : decode cX3_init 224 = .ok (.aload_n 0, 1) := by decide +kernel
theorem dX3_init_225 : decode cX3_init 225 = .ok (.iconst 3, 1) := by decide +kernel
theorem dX3_init_226 : decode cX3_init 226 = .ok (.newarray .int, 2) := by decide +kernel
theorem dX3_init_228 : decode cX3_init 228 = .ok (.putfield 99, 3) := by decide +kernel
theorem dX3_init_231 : decode cX3_init 231 = .ok (.aload_n 0, 1) := by decide +kernel
theorem dX3_init_232 : decode cX3_init 232 = .ok (.iconst 3, 1) := by decide +kernel
theorem dX3_init_233 : decode cX3_init 233 = .ok (.newarray .boolean, 2) := by decide +kernel
theorem dX3_init_235 : decode cX3_init 235 = .ok (.putfield 102, 3) := by decide +kernel
theorem dX3_init_238 : decode cX3_init 238 = .ok (.iconst 0, 1) := by decide +kernel
theorem dX3_init_239 : decode cX3_init 239 = .ok (.istore_n 1, 1) := by decide +kernel
theorem dX3_init_240 : decode cX3_init 240 = .ok (.iload_n 1, 1) := by decide +kernel
theorem dX3_init_241 : decode cX3_init 241 = .ok (.bipush 20, 2) := by decide +kernel
theorem dX3_init_243 : decode cX3_init 243 = .ok (.if_icmp .ge 16, 3) := by decide +kernel
theorem dX3_init_246 : decode cX3_init 246 = .ok (.aload_n 0, 1) := by decide +kernel
theorem dX3_init_247 : decode cX3_init 247 = .ok (.getfield 42, 3) := by decide +kernel
theorem dX3_init_250 : decode cX3_init 250 = .ok (.iload_n 1, 1) := by decide +kernel
theorem dX3_init_251 : decode cX3_init 251 = .ok (.iconst 5, 1) := by decide +kernel
theorem dX3_init_252 : decode cX3_init 252 = .ok (.iastore, 1) := by decide +kernel
theorem dX3_init_253 : decode cX3_init 253 = .ok (.iinc 1 1, 3) := by decide +kernel
theorem dX3_init_256 : decode cX3_init 256 = .ok (.goto (-16), 3) := by decide +kernel
theorem dX3_init_259 : decode cX3_init 259 = .ok (.iconst 0, 1) := by decide +kernel
theorem dX3_init_260 : decode cX3_init 260 = .ok (.istore_n 1, 1) := by decide +kernel
theorem dX3_init_261 : decode cX3_init 261 = .ok (.iload_n 1, 1) := by decide +kernel
theorem dX3_init_262 : decode cX3_init 262 = .ok (.bipush 12, 2) := by decide +kernel
theorem dX3_init_264 : decode cX3_init 264 = .ok (.if_icmp .ge 16, 3) := by decide +kernel
theorem dX3_init_267 : decode cX3_init 267 = .ok (.aload_n 0, 1) := by decide +kernel
theorem dX3_init_268 : decode cX3_init 268 = .ok (.getfield 69, 3) := by decide +kernel
theorem dX3_init_271 : decode cX3_init 271 = .ok (.iload_n 1, 1) := by decide +kernel
theorem dX3_init_272 : decode cX3_init 272 = .ok (.iconst 1, 1) := by decide +kernel
theorem dX3_init_273 : decode cX3_init 273 = .ok (.iastore, 1) := by decide +kernel
theorem dX3_init_274 : decode cX3_init 274 = .ok (.iinc 1 1, 3) := by decide +kernel
theorem dX3_init_277 : decode cX3_init 277 = .ok (.goto (-16), 3) := by decide +kernel
theorem dX3_init_280 : decode cX3_init 280 = .ok (.iconst 0, 1) := by decide +kernel
theorem dX3_init_281 : decode cX3_init 281 = .ok (.istore_n 1, 1) := by decide +kernel
theorem dX3_init_282 : decode cX3_init 282 = .ok (.iload_n 1, 1) := by decide +kernel
theorem dX3_init_283 : decode cX3_init 283 = .ok (.iconst 4, 1) := by decide +kernel
theorem dX3_init_284 : decode cX3_init 284 = .ok (.if_icmp .ge 25, 3) := by decide +kernel
theorem dX3_init_287 : decode cX3_init 287 = .ok (.aload_n 0, 1) := by decide +kernel
theorem dX3_init_288 : decode cX3_init 288 = .ok (.getfield 78, 3) := by decide +kernel
theorem dX3_init_291 : decode cX3_init 291 = .ok (.iload_n 1, 1) := by decide +kernel
theorem dX3_init_292 : decode cX3_init 292 = .ok (.ldc 105, 2) := by decide +kernel
theorem dX3_init_294 : decode cX3_init 294 = .ok (.iastore, 1) := by decide +kernel
theorem dX3_init_295 : decode cX3_init 295 = .ok (.aload_n 0, 1) := by decide +kernel
theorem dX3_init_296 : decode cX3_init 296 = .ok (.getfield 81, 3) := by decide +kernel
theorem dX3_init_299 : decode cX3_init 299 = .ok (.iload_n 1, 1) := by decide +kernel
theorem dX3_init_300 : decode cX3_init 300 = .ok (.ldc 106, 2) := by decide +kernel
theorem dX3_init_302 : decode cX3_init 302 = .ok (.iastore, 1) := by decide +kernel
theorem dX3_init_303 : decode cX3_init 303 = .ok (.iinc 1 1, 3) := by decide +kernel
theorem dX3_init_306 : decode cX3_init 306 = .ok (.goto (-24), 3) := by decide +kernel
theorem dX3_init_309 : decode cX3_init 309 = .ok (.aload_n 0, 1) := by decide +kernel
theorem dX3_init_310 : decode cX3_init 310 = .ok (.invokevirtual 107, 3) := by decide +kernel
theorem dX3_init_313 : decode cX3_init 313 = .ok (.pop, 1) := by decide +kernel
theorem dX3_init_314 : decode cX3_init 314 = .ok (.return_, 1) := by decide +kernel
theorem dX3_in_0 : decode cX3_in 0 = .ok (.iload_n 0, 1) := by decide +kernel
theorem dX3_in_1 : decode cX3_in 1 = .ok (.iload_n 1, 1) := by decide +kernel
theorem dX3_in_2 : decode cX3_in 2 = .ok (.if_icmp .lt 12, 3) := by decide +kernel
theorem dX3_in_5 : decode cX3_in 5 = .ok (.iload_n 0, 1) := by decide +kernel
theorem dX3_in_6 : decode cX3_in 6 = .ok (.iload_n 2, 1) := by decide +kernel
theorem dX3_in_7 : decode cX3_in 7 = .ok (.if_icmp .gt 7, 3) := by decide +kernel
theorem dX3_in_10 : decode cX3_in 10 = .ok (.iconst 1, 1) := by decide +kernel
theorem dX3_in_11 : decode cX3_in 11 = .ok (.goto 4, 3) := by decide +kernel
theorem dX3_in_14 : decode cX3_in 14 = .ok (.iconst 0, 1) := by decide +kernel
theorem dX3_in_15 : decode cX3_in 15 = .ok (.ireturn, 1) := by decide +kernel
theorem dX3_isDay_0 : decode cX3_isDay 0 = .ok (.iload_n 0, 1) := by decide +kernel
theorem dX3_isDay_1 : decode cX3_isDay 1 = .ok (.iconst 0, 1) := by decide +kernel
theorem dX3_isDay_2 : decode cX3_isDay 2 = .ok (.bipush 19, 2) := by decide +kernel
theorem dX3_isDay_4 : decode cX3_isDay 4 = .ok (.invokestatic 111, 3) := by decide +kernel
theorem dX3_isDay_7 : decode cX3_isDay 7 = .ok (.ireturn, 1) := by decide +kernel
theorem dX3_isEnd_0 : decode cX3_isEnd 0 = .ok (.iload_n 0, 1) := by decide +kernel
theorem dX3_isEnd_1 : decode cX3_isEnd 1 = .ok (.iconst 0, 1) := by decide +kernel
theorem dX3_isEnd_2 : decode cX3_isEnd 2 = .ok (.iconst 1, 1) := by decide +kernel
theorem dX3_isEnd_3 : decode cX3_isEnd 3 = .ok (.invokestatic 111, 3) := by decide +kernel
theorem dX3_isEnd_6 : decode cX3_isEnd 6 = .ok (.ireturn, 1) := by decide +kernel
theorem dX3_isShip_0 : decode cX3_isShip 0 = .ok (.iload_n 1, 1) := by decide +kernel
theorem dX3_isShip_1 : decode cX3_isShip 1 = .ok (.iconst 0, 1) := by decide +kernel
theorem dX3_isShip_2 : decode cX3_isShip 2 = .ok (.aload_n 0, 1) := by decide +kernel
theorem dX3_isShip_3 : decode cX3_isShip 3 = .ok (.getfield 115, 3) := by decide +kernel
theorem dX3_isShip_6 : decode cX3_isShip 6 = .ok (.iconst 1, 1) := by decide +kernel
theorem dX3_isShip_7 : decode cX3_isShip 7 = .ok (.isub, 1) := by decide +kernel
theorem dX3_isShip_8 : decode cX3_isShip 8 = .ok (.invokestatic 111, 3) := by decide +kernel
theorem dX3_isShip_11 : decode cX3_isShip 11 = .ok (.ireturn, 1) := by decide +kernel
theorem dX3_isClock_0 : decode cX3_isClock 0 = .ok (.iload_n 0, 1) := by decide +kernel
theorem dX3_isClock_1 : decode cX3_isClock 1 = .ok (.iconst 0, 1) := by decide +kernel
theorem dX3_isClock_2 : decode cX3_isClock 2 = .ok (.iconst 2, 1) := by decide +kernel
theorem dX3_isClock_3 : decode cX3_isClock 3 = .ok (.invokestatic 111, 3) := by decide +kernel
theorem dX3_isClock_6 : decode cX3_isClock 6 = .ok (.ireturn, 1) := by decide +kernel
theorem dX3_down_0 : decode cX3_down 0 = .ok (.iload_n 0, 1) := by decide +kernel
theorem dX3_down_1 : decode cX3_down 1 = .ok (.iload_n 1, 1) := by decide +kernel
theorem dX3_down_2 : decode cX3_down 2 = .ok (.idiv, 1) := by decide +kernel
theorem dX3_down_3 : decode cX3_down 3 = .ok (.istore_n 2, 1) := by decide +kernel
theorem dX3_down_4 : decode cX3_down 4 = .ok (.iload_n 2, 1) := by decide +kernel
theorem dX3_down_5 : decode cX3_down 5 = .ok (.iload_n 1, 1) := by decide +kernel
theorem dX3_down_6 : decode cX3_down 6 = .ok (.imul, 1) := by decide +kernel
theorem dX3_down_7 : decode cX3_down 7 = .ok (.iload_n 0, 1) := by decide +kernel
theorem dX3_down_8 : decode cX3_down 8 = .ok (.if_icmp .le 9, 3) := by decide +kernel
theorem dX3_down_11 : decode cX3_down 11 = .ok (.iload_n 2, 1) := by decide +kernel
theorem dX3_down_12 : decode cX3_down 12 = .ok (.iconst 1, 1) := by decide +kernel
theorem dX3_down_13 : decode cX3_down 13 = .ok (.isub, 1) := by decide +kernel
theorem dX3_down_14 : decode cX3_down 14 = .ok (.goto 4, 3) := by decide +kernel
theorem dX3_down_17 : decode cX3_down 17 = .ok (.iload_n 2, 1) := by decide +kernel
theorem dX3_down_18 : decode cX3_down 18 = .ok (.ireturn, 1) := by decide +kernel
theorem dX3_up_0 : decode cX3_up 0 = .ok (.iload_n 0, 1) := by decide +kernel
theorem dX3_up_1 : decode cX3_up 1 = .ok (.ineg, 1) := by decide +kernel
theorem dX3_up_2 : decode cX3_up 2 = .ok (.iload_n 1, 1) := by decide +kernel
theorem dX3_up_3 : decode cX3_up 3 = .ok (.invokestatic 118, 3) := by decide +kernel
theorem dX3_up_6 : decode cX3_up 6 = .ok (.ineg, 1) := by decide +kernel
theorem dX3_up_7 : decode cX3_up 7 = .ok (.ireturn, 1) := by decide +kernel
theorem dX3_within_0 : decode cX3_within 0 = .ok (.iload_n 2, 1) := by decide +kernel
theorem dX3_within_1 : decode cX3_within 1 = .ok (.aload_n 0, 1) := by decide +kernel
theorem dX3_within_2 : decode cX3_within 2 = .ok (.getfield 84, 3) := by decide +kernel
theorem dX3_within_5 : decode cX3_within 5 = .ok (.iload_n 1, 1) := by decide +kernel
theorem dX3_within_6 : decode cX3_within 6 = .ok (.iaload, 1) := by decide +kernel
theorem dX3_within_7 : decode cX3_within 7 = .ok (.if_icmp .le 15, 3) := by decide +kernel
theorem dX3_within_10 : decode cX3_within 10 = .ok (.aload_n 0, 1) := by decide +kernel
theorem dX3_within_11 : decode cX3_within 11 = .ok (.getfield 84, 3) := by decide +kernel
theorem dX3_within_14 : decode cX3_within 14 = .ok (.iload_n 1, 1) := by decide +kernel
theorem dX3_within_15 : decode cX3_within 15 = .ok (.iload_n 2, 1) := by decide +kernel
theorem dX3_within_16 : decode cX3_within 16 = .ok (.iastore, 1) := by decide +kernel
theorem dX3_within_17 : decode cX3_within 17 = .ok (.aload_n 0, 1) := by decide +kernel
theorem dX3_within_18 : decode cX3_within 18 = .ok (.iconst 1, 1) := by decide +kernel
theorem dX3_within_19 : decode cX3_within 19 = .ok (.putfield 122, 3) := by decide +kernel
theorem dX3_within_22 : decode cX3_within 22 = .ok (.iload_n 3, 1) := by decide +kernel
theorem dX3_within_23 : decode cX3_within 23 = .ok (.aload_n 0, 1) := by decide +kernel
theorem dX3_within_24 : decode cX3_within 24 = .ok (.getfield 87, 3) := by decide +kernel
theorem dX3_within_27 : decode cX3_within 27 = .ok (.iload_n 1, 1) := by decide +kernel
theorem dX3_within_28 : decode cX3_within 28 = .ok (.iaload, 1) := by decide +kernel
theorem dX3_within_29 : decode cX3_within 29 = .ok (.if_icmp .ge 15, 3) := by decide +kernel
theorem dX3_within_32 : decode cX3_within 32 = .ok (.aload_n 0, 1) := by decide +kernel
theorem dX3_within_33 : decode cX3_within 33 = .ok (.getfield 87, 3) := by decide +kernel
theorem dX3_within_36 : decode cX3_within 36 = .ok (.iload_n 1, 1) := by decide +kernel
theorem dX3_within_37 : decode cX3_within 37 = .ok (.iload_n 3, 1) := by decide +kernel
theorem dX3_within_38 : decode cX3_within 38 = .ok (.iastore, 1) := by decide +kernel
theorem dX3_within_39 : decode cX3_within 39 = .ok (.aload_n 0, 1) := by decide +kernel
theorem dX3_within_40 : decode cX3_within 40 = .ok (.iconst 1, 1) := by decide +kernel
theorem dX3_within_41 : decode cX3_within 41 = .ok (.putfield 122, 3) := by decide +kernel
theorem dX3_within_44 : decode cX3_within 44 = .ok (.return_, 1) := by decide +kernel
theorem dX3_isLeft_0 : decode cX3_isLeft 0 = .ok (.iconst 0, 1) := by decide +kernel
theorem dX3_isLeft_1 : decode cX3_isLeft 1 = .ok (.istore_n 1, 1) := by decide +kernel
theorem dX3_isLeft_2 : decode cX3_isLeft 2 = .ok (.iload_n 1, 1) := by decide +kernel
theorem dX3_isLeft_3 : decode cX3_isLeft 3 = .ok (.bipush 21, 2) := by decide +kernel
theorem dX3_isLeft_5 : decode cX3_isLeft 5 = .ok (.if_icmp .ge 26, 3) := by decide +kernel
theorem dX3_isLeft_8 : decode cX3_isLeft 8 = .ok (.aload_n 0, 1) := by decide +kernel
theorem dX3_isLeft_9 : decode cX3_isLeft 9 = .ok (.getfield 84, 3) := by decide +kernel
theorem dX3_isLeft_12 : decode cX3_isLeft 12 = .ok (.iload_n 1, 1) := by decide +kernel
theorem dX3_isLeft_13 : decode cX3_isLeft 13 = .ok (.iaload, 1) := by decide +kernel
theorem dX3_isLeft_14 : decode cX3_isLeft 14 = .ok (.aload_n 0, 1) := by decide +kernel
theorem dX3_isLeft_15 : decode cX3_isLeft 15 = .ok (.getfield 87, 3) := by decide +kernel
theorem dX3_isLeft_18 : decode cX3_isLeft 18 = .ok (.iload_n 1, 1) := by decide +kernel
theorem dX3_isLeft_19 : decode cX3_isLeft 19 = .ok (.iaload, 1) := by decide +kernel
theorem dX3_isLeft_20 : decode cX3_isLeft 20 = .ok (.if_icmp .le 5, 3) := by decide +kernel
theorem dX3_isLeft_23 : decode cX3_isLeft 23 = .ok (.iconst 0, 1) := by decide +kernel
theorem dX3_isLeft_24 : decode cX3_isLeft 24 = .ok (.ireturn, 1) := by decide +kernel
theorem dX3_isLeft_25 : decode cX3_isLeft 25 = .ok (.iinc 1 1, 3) := by decide +kernel
theorem dX3_isLeft_28 : decode cX3_isLeft 28 = .ok (.goto (-26), 3) := by decide +kernel
theorem dX3_isLeft_31 : decode cX3_isLeft 31 = .ok (.iconst 1, 1) := by decide +kernel
theorem dX3_isLeft_32 : decode cX3_isLeft 32 = .ok (.ireturn, 1) := by decide +kernel
theorem dX3_narrow_0 : decode cX3_narrow 0 = .ok (.aload_n 0, 1) := by decide +kernel
theorem dX3_narrow_1 : decode cX3_narrow 1 = .ok (.iconst 1, 1) := by decide +kernel
theorem dX3_narrow_2 : decode cX3_narrow 2 = .ok (.putfield 122, 3) := by decide +kernel
theorem dX3_narrow_5 : decode cX3_narrow 5 = .ok (.aload_n 0, 1) := by decide +kernel
theorem dX3_narrow_6 : decode cX3_narrow 6 = .ok (.getfield 122, 3) := by decide +kernel
theorem dX3_narrow_9 : decode cX3_narrow 9 = .ok (.ifCond .eq 199, 3) := by decide +kernel
theorem dX3_narrow_12 : decode cX3_narrow 12 = .ok (.aload_n 0, 1) := by decide +kernel
theorem dX3_narrow_13 : decode cX3_narrow 13 = .ok (.invokevirtual 126, 3) := by decide +kernel
theorem dX3_narrow_16 : decode cX3_narrow 16 = .ok (.ifCond .eq 192, 3) := by decide +kernel
theorem dX3_narrow_19 : decode cX3_narrow 19 = .ok (.aload_n 0, 1) := by decide +kernel
theorem dX3_narrow_20 : decode cX3_narrow 20 = .ok (.iconst 0, 1) := by decide +kernel
theorem dX3_narrow_21 : decode cX3_narrow 21 = .ok (.putfield 122, 3) := by decide +kernel
theorem dX3_narrow_24 : decode cX3_narrow 24 = .ok (.iconst 0, 1) := by decide +kernel
theorem dX3_narrow_25 : decode cX3_narrow 25 = .ok (.istore_n 1, 1) := by decide +kernel
theorem dX3_narrow_26 : decode cX3_narrow 26 = .ok (.iload_n 1, 1) := by decide +kernel
theorem dX3_narrow_27 : decode cX3_narrow 27 = .ok (.bipush 20, 2) := by decide +kernel
theorem dX3_narrow_29 : decode cX3_narrow 29 = .ok (.if_icmp .ge 176, 3) := by decide +kernel
theorem dX3_narrow_32 : decode cX3_narrow 32 = .ok (.iload_n 1, 1) := by decide +kernel
theorem dX3_narrow_33 : decode cX3_narrow 33 = .ok (.iconst 1, 1) := by decide +kernel
theorem dX3_narrow_34 : decode cX3_narrow 34 = .ok (.iadd, 1) := by decide +kernel
theorem dX3_narrow_35 : decode cX3_narrow 35 = .ok (.istore_n 2, 1) := by decide +kernel
theorem dX3_narrow_36 : decode cX3_narrow 36 = .ok (.iload_n 2, 1) := by decide +kernel
theorem dX3_narrow_37 : decode cX3_narrow 37 = .ok (.bipush 20, 2) := by decide +kernel
theorem dX3_narrow_39 : decode cX3_narrow 39 = .ok (.if_icmp .ge 160, 3) := by decide +kernel
theorem dX3_narrow_42 : decode cX3_narrow 42 = .ok (.iload_n 2, 1) := by decide +kernel
theorem dX3_narrow_43 : decode cX3_narrow 43 = .ok (.iload_n 1, 1) := by decide +kernel
theorem dX3_narrow_44 : decode cX3_narrow 44 = .ok (.isub, 1) := by decide +kernel
theorem dX3_narrow_45 : decode cX3_narrow 45 = .ok (.istore_n 3, 1) := by decide +kernel
theorem dX3_narrow_46 : decode cX3_narrow 46 = .ok (.aload_n 0, 1) := by decide +kernel
theorem dX3_narrow_47 : decode cX3_narrow 47 = .ok (.getfield 90, 3) := by decide +kernel
theorem dX3_narrow_50 : decode cX3_narrow 50 = .ok (.iload_n 2, 1) := by decide +kernel
theorem dX3_narrow_51 : decode cX3_narrow 51 = .ok (.iaload, 1) := by decide +kernel
theorem dX3_narrow_52 : decode cX3_narrow 52 = .ok (.aload_n 0, 1) := by decide +kernel
theorem dX3_narrow_53 : decode cX3_narrow 53 = .ok (.getfield 90, 3) := by decide +kernel
theorem dX3_narrow_56 : decode cX3_narrow 56 = .ok (.iload_n 1, 1) := by decide +kernel
theorem dX3_narrow_57 : decode cX3_narrow 57 = .ok (.iaload, 1) := by decide +kernel
theorem dX3_narrow_58 : decode cX3_narrow 58 = .ok (.isub, 1) := by decide +kernel
theorem dX3_narrow_59 : decode cX3_narrow 59 = .ok (.istore 4, 2) := by decide +kernel
theorem dX3_narrow_61 : decode cX3_narrow 61 = .ok (.aload_n 0, 1) := by decide +kernel
theorem dX3_narrow_62 : decode cX3_narrow 62 = .ok (.iload_n 2, 1) := by decide +kernel
theorem dX3_narrow_63 : decode cX3_narrow 63 = .ok (.aload_n 0, 1) := by decide +kernel
theorem dX3_narrow_64 : decode cX3_narrow 64 = .ok (.getfield 84, 3) := by decide +kernel
theorem dX3_narrow_67 : decode cX3_narrow 67 = .ok (.iload_n 1, 1) := by decide +kernel
theorem dX3_narrow_68 : decode cX3_narrow 68 = .ok (.iaload, 1) := by decide +kernel
theorem dX3_narrow_69 : decode cX3_narrow 69 = .ok (.iload_n 3, 1) := by decide +kernel
theorem dX3_narrow_70 : decode cX3_narrow 70 = .ok (.aload_n 0, 1) := by decide +kernel
theorem dX3_narrow_71 : decode cX3_narrow 71 = .ok (.getfield 84, 3) := by decide +kernel
theorem dX3_narrow_74 : decode cX3_narrow 74 = .ok (.bipush 20, 2) := by decide +kernel
theorem dX3_narrow_76 : decode cX3_narrow 76 = .ok (.iaload, 1) := by decide +kernel
theorem dX3_narrow_77 : decode cX3_narrow 77 = .ok (.imul, 1) := by decide +kernel
theorem dX3_narrow_78 : decode cX3_narrow 78 = .ok (.iadd, 1) := by decide +kernel
theorem dX3_narrow_79 : decode cX3_narrow 79 = .ok (.iload 4, 2) := by decide +kernel
theorem dX3_narrow_81 : decode cX3_narrow 81 = .ok (.iadd, 1) := by decide +kernel
theorem dX3_narrow_82 : decode cX3_narrow 82 = .ok (.aload_n 0, 1) := by decide +kernel
theorem dX3_narrow_83 : decode cX3_narrow 83 = .ok (.getfield 87, 3) := by decide +kernel
theorem dX3_narrow_86 : decode cX3_narrow 86 = .ok (.iload_n 1, 1) := by decide +kernel
theorem dX3_narrow_87 : decode cX3_narrow 87 = .ok (.iaload, 1) := by decide +kernel
theorem dX3_narrow_88 : decode cX3_narrow 88 = .ok (.iload_n 3, 1) := by decide +kernel
theorem dX3_narrow_89 : decode cX3_narrow 89 = .ok (.aload_n 0, 1) := by decide +kernel
theorem dX3_narrow_90 : decode cX3_narrow 90 = .ok (.getfield 87, 3) := by decide +kernel
theorem dX3_narrow_93 : decode cX3_narrow 93 = .ok (.bipush 20, 2) := by decide +kernel
theorem dX3_narrow_95 : decode cX3_narrow 95 = .ok (.iaload, 1) := by decide +kernel
theorem dX3_narrow_96 : decode cX3_narrow 96 = .ok (.imul, 1) := by decide +kernel
theorem dX3_narrow_97 : decode cX3_narrow 97 = .ok (.iadd, 1) := by decide +kernel
theorem dX3_narrow_98 : decode cX3_narrow 98 = .ok (.iload 4, 2) := by decide +kernel
theorem dX3_narrow_100 : decode cX3_narrow 100 = .ok (.iadd, 1) := by decide +kernel
theorem dX3_narrow_101 : decode cX3_narrow 101 = .ok (.invokevirtual 129, 3) := by decide +kernel
theorem dX3_narrow_104 : decode cX3_narrow 104 = .ok (.aload_n 0, 1) := by decide +kernel
theorem dX3_narrow_105 : decode cX3_narrow 105 = .ok (.iload_n 1, 1) := by decide +kernel
theorem dX3_narrow_106 : decode cX3_narrow 106 = .ok (.aload_n 0, 1) := by decide +kernel
theorem dX3_narrow_107 : decode cX3_narrow 107 = .ok (.getfield 84, 3) := by decide +kernel
theorem dX3_narrow_110 : decode cX3_narrow 110 = .ok (.iload_n 2, 1) := by decide +kernel
theorem dX3_narrow_111 : decode cX3_narrow 111 = .ok (.iaload, 1) := by decide +kernel
theorem dX3_narrow_112 : decode cX3_narrow 112 = .ok (.iload_n 3, 1) := by decide +kernel
theorem dX3_narrow_113 : decode cX3_narrow 113 = .ok (.aload_n 0, 1) := by decide +kernel
theorem dX3_narrow_114 : decode cX3_narrow 114 = .ok (.getfield 87, 3) := by decide +kernel
theorem dX3_narrow_117 : decode cX3_narrow 117 = .ok (.bipush 20, 2) := by decide +kernel
theorem dX3_narrow_119 : decode cX3_narrow 119 = .ok (.iaload, 1) := by decide +kernel
theorem dX3_narrow_120 : decode cX3_narrow 120 = .ok (.imul, 1) := by decide +kernel
theorem dX3_narrow_121 : decode cX3_narrow 121 = .ok (.isub, 1) := by decide +kernel
theorem dX3_narrow_122 : decode cX3_narrow 122 = .ok (.iload 4, 2) := by decide +kernel
theorem dX3_narrow_124 : decode cX3_narrow 124 = .ok (.isub, 1) := by decide +kernel
theorem dX3_narrow_125 : decode cX3_narrow 125 = .ok (.aload_n 0, 1) := by decide +kernel
theorem dX3_narrow_126 : decode cX3_narrow 126 = .ok (.getfield 87, 3) := by decide +kernel
theorem dX3_narrow_129 : decode cX3_narrow 129 = .ok (.iload_n 2, 1) := by decide +kernel
theorem dX3_narrow_130 : decode cX3_narrow 130 = .ok (.iaload, 1) := by decide +kernel
theorem dX3_narrow_131 : decode cX3_narrow 131 = .ok (.iload_n 3, 1) := by decide +kernel
theorem dX3_narrow_132 : decode cX3_narrow 132 = .ok (.aload_n 0, 1) := by decide +kernel
theorem dX3_narrow_133 : decode cX3_narrow 133 = .ok (.getfield 84, 3) := by decide +kernel
theorem dX3_narrow_136 : decode cX3_narrow 136 = .ok (.bipush 20, 2) := by decide +kernel
theorem dX3_narrow_138 : decode cX3_narrow 138 = .ok (.iaload, 1) := by decide +kernel
theorem dX3_narrow_139 : decode cX3_narrow 139 = .ok (.imul, 1) := by decide +kernel
theorem dX3_narrow_140 : decode cX3_narrow 140 = .ok (.isub, 1) := by decide +kernel
theorem dX3_narrow_141 : decode cX3_narrow 141 = .ok (.iload 4, 2) := by decide +kernel
theorem dX3_narrow_143 : decode cX3_narrow 143 = .ok (.isub, 1) := by decide +kernel
theorem dX3_narrow_144 : decode cX3_narrow 144 = .ok (.invokevirtual 129, 3) := by decide +kernel
theorem dX3_narrow_147 : decode cX3_narrow 147 = .ok (.aload_n 0, 1) := by decide +kernel
theorem dX3_narrow_148 : decode cX3_narrow 148 = .ok (.bipush 20, 2) := by decide +kernel
theorem dX3_narrow_150 : decode cX3_narrow 150 = .ok (.aload_n 0, 1) := by decide +kernel
theorem dX3_narrow_151 : decode cX3_narrow 151 = .ok (.getfield 84, 3) := by decide +kernel
theorem dX3_narrow_154 : decode cX3_narrow 154 = .ok (.iload_n 2, 1) := by decide +kernel
theorem dX3_narrow_155 : decode cX3_narrow 155 = .ok (.iaload, 1) := by decide +kernel
theorem dX3_narrow_156 : decode cX3_narrow 156 = .ok (.aload_n 0, 1) := by decide +kernel
theorem dX3_narrow_157 : decode cX3_narrow 157 = .ok (.getfield 87, 3) := by decide +kernel
theorem dX3_narrow_160 : decode cX3_narrow 160 = .ok (.iload_n 1, 1) := by decide +kernel
theorem dX3_narrow_161 : decode cX3_narrow 161 = .ok (.iaload, 1) := by decide +kernel
theorem dX3_narrow_162 : decode cX3_narrow 162 = .ok (.isub, 1) := by decide +kernel
theorem dX3_narrow_163 : decode cX3_narrow 163 = .ok (.iload 4, 2) := by decide +kernel
theorem dX3_narrow_165 : decode cX3_narrow 165 = .ok (.isub, 1) := by decide +kernel
theorem dX3_narrow_166 : decode cX3_narrow 166 = .ok (.iload_n 3, 1) := by decide +kernel
theorem dX3_narrow_167 : decode cX3_narrow 167 = .ok (.invokestatic 133, 3) := by decide +kernel
theorem dX3_narrow_170 : decode cX3_narrow 170 = .ok (.aload_n 0, 1) := by decide +kernel
theorem dX3_narrow_171 : decode cX3_narrow 171 = .ok (.getfield 87, 3) := by decide +kernel
theorem dX3_narrow_174 : decode cX3_narrow 174 = .ok (.iload_n 2, 1) := by decide +kernel
theorem dX3_narrow_175 : decode cX3_narrow 175 = .ok (.iaload, 1) := by decide +kernel
theorem dX3_narrow_176 : decode cX3_narrow 176 = .ok (.aload_n 0, 1) := by decide +kernel
theorem dX3_narrow_177 : decode cX3_narrow 177 = .ok (.getfield 84, 3) := by decide +kernel
theorem dX3_narrow_180 : decode cX3_narrow 180 = .ok (.iload_n 1, 1) := by decide +kernel
theorem dX3_narrow_181 : decode cX3_narrow 181 = .ok (.iaload, 1) := by decide +kernel
theorem dX3_narrow_182 : decode cX3_narrow 182 = .ok (.isub, 1) := by decide +kernel
theorem dX3_narrow_183 : decode cX3_narrow 183 = .ok (.iload 4, 2) := by decide +kernel
theorem dX3_narrow_185 : decode cX3_narrow 185 = .ok (.isub, 1) := by decide +kernel
theorem dX3_narrow_186 : decode cX3_narrow 186 = .ok (.iload_n 3, 1) := by decide +kernel
theorem dX3_narrow_187 : decode cX3_narrow 187 = .ok (.invokestatic 118, 3) := by decide +kernel
theorem dX3_narrow_190 : decode cX3_narrow 190 = .ok (.invokevirtual 129, 3) := by decide +kernel
theorem dX3_narrow_193 : decode cX3_narrow 193 = .ok (.iinc 2 1, 3) := by decide +kernel
theorem dX3_narrow_196 : decode cX3_narrow 196 = .ok (.goto (-160), 3) := by decide +kernel
theorem dX3_narrow_199 : decode cX3_narrow 199 = .ok (.iinc 1 1, 3) := by decide +kernel
theorem dX3_narrow_202 : decode cX3_narrow 202 = .ok (.goto (-176), 3) := by decide +kernel
theorem dX3_narrow_205 : decode cX3_narrow 205 = .ok (.goto (-200), 3) := by decide +kernel
theorem dX3_narrow_208 : decode cX3_narrow 208 = .ok (.aload_n 0, 1) := by decide +kernel
theorem dX3_narrow_209 : decode cX3_narrow 209 = .ok (.invokevirtual 126, 3) := by decide +kernel
theorem dX3_narrow_212 : decode cX3_narrow 212 = .ok (.ireturn, 1) := by decide +kernel
theorem dX3_start_0 : decode cX3_start 0 = .ok (.iconst 0, 1) := by decide +kernel
theorem dX3_start_1 : decode cX3_start 1 = .ok (.istore_n 3, 1) := by decide +kernel
theorem dX3_start_2 : decode cX3_start 2 = .ok (.iload_n 3, 1) := by decide +kernel
theorem dX3_start_3 : decode cX3_start 3 = .ok (.bipush 21, 2) := by decide +kernel
theorem dX3_start_5 : decode cX3_start 5 = .ok (.if_icmp .ge 45, 3) := by decide +kernel
theorem dX3_start_8 : decode cX3_start 8 = .ok (.aload_n 0, 1) := by decide +kernel
theorem dX3_start_9 : decode cX3_start 9 = .ok (.getfield 84, 3) := by decide +kernel
theorem dX3_start_12 : decode cX3_start 12 = .ok (.iload_n 3, 1) := by decide +kernel
theorem dX3_start_13 : decode cX3_start 13 = .ok (.iload_n 3, 1) := by decide +kernel
theorem dX3_start_14 : decode cX3_start 14 = .ok (.bipush 20, 2) := by decide +kernel
theorem dX3_start_16 : decode cX3_start 16 = .ok (.if_icmp .ne 8, 3) := by decide +kernel
theorem dX3_start_19 : decode cX3_start 19 = .ok (.iload_n 2, 1) := by decide +kernel
theorem dX3_start_20 : decode cX3_start 20 = .ok (.ineg, 1) := by decide +kernel
theorem dX3_start_21 : decode cX3_start 21 = .ok (.goto 5, 3) := by decide +kernel
theorem dX3_start_24 : decode cX3_start 24 = .ok (.iload_n 1, 1) := by decide +kernel
theorem dX3_start_25 : decode cX3_start 25 = .ok (.ineg, 1) := by decide +kernel
theorem dX3_start_26 : decode cX3_start 26 = .ok (.iastore, 1) := by decide +kernel
theorem dX3_start_27 : decode cX3_start 27 = .ok (.aload_n 0, 1) := by decide +kernel
theorem dX3_start_28 : decode cX3_start 28 = .ok (.getfield 87, 3) := by decide +kernel
theorem dX3_start_31 : decode cX3_start 31 = .ok (.iload_n 3, 1) := by decide +kernel
theorem dX3_start_32 : decode cX3_start 32 = .ok (.iload_n 3, 1) := by decide +kernel
theorem dX3_start_33 : decode cX3_start 33 = .ok (.bipush 20, 2) := by decide +kernel
theorem dX3_start_35 : decode cX3_start 35 = .ok (.if_icmp .ne 7, 3) := by decide +kernel
theorem dX3_start_38 : decode cX3_start 38 = .ok (.iload_n 2, 1) := by decide +kernel
theorem dX3_start_39 : decode cX3_start 39 = .ok (.goto 4, 3) := by decide +kernel
theorem dX3_start_42 : decode cX3_start 42 = .ok (.iload_n 1, 1) := by decide +kernel
theorem dX3_start_43 : decode cX3_start 43 = .ok (.iastore, 1) := by decide +kernel
theorem dX3_start_44 : decode cX3_start 44 = .ok (.iinc 3 1, 3) := by decide +kernel
theorem dX3_start_47 : decode cX3_start 47 = .ok (.goto (-45), 3) := by decide +kernel
theorem dX3_start_50 : decode cX3_start 50 = .ok (.return_, 1) := by decide +kernel
theorem dX3_layOffs_0 : decode cX3_layOffs 0 = .ok (.aload_n 0, 1) := by decide +kernel
theorem dX3_layOffs_1 : decode cX3_layOffs 1 = .ok (.sipush 600, 3) := by decide +kernel
theorem dX3_layOffs_4 : decode cX3_layOffs 4 = .ok (.bipush 20, 2) := by decide +kernel
theorem dX3_layOffs_6 : decode cX3_layOffs 6 = .ok (.invokevirtual 136, 3) := by decide +kernel
theorem dX3_layOffs_9 : decode cX3_layOffs 9 = .ok (.iconst 0, 1) := by decide +kernel
theorem dX3_layOffs_10 : decode cX3_layOffs 10 = .ok (.istore_n 1, 1) := by decide +kernel
theorem dX3_layOffs_11 : decode cX3_layOffs 11 = .ok (.iload_n 1, 1) := by decide +kernel
theorem dX3_layOffs_12 : decode cX3_layOffs 12 = .ok (.bipush 20, 2) := by decide +kernel
theorem dX3_layOffs_14 : decode cX3_layOffs 14 = .ok (.if_icmp .ge 16, 3) := by decide +kernel
theorem dX3_layOffs_17 : decode cX3_layOffs 17 = .ok (.aload_n 0, 1) := by decide +kernel
theorem dX3_layOffs_18 : decode cX3_layOffs 18 = .ok (.getfield 90, 3) := by decide +kernel
theorem dX3_layOffs_21 : decode cX3_layOffs 21 = .ok (.iload_n 1, 1) := by decide +kernel
theorem dX3_layOffs_22 : decode cX3_layOffs 22 = .ok (.iconst 0, 1) := by decide +kernel
theorem dX3_layOffs_23 : decode cX3_layOffs 23 = .ok (.iastore, 1) := by decide +kernel
theorem dX3_layOffs_24 : decode cX3_layOffs 24 = .ok (.iinc 1 1, 3) := by decide +kernel
theorem dX3_layOffs_27 : decode cX3_layOffs 27 = .ok (.goto (-16), 3) := by decide +kernel
theorem dX3_layOffs_30 : decode cX3_layOffs 30 = .ok (.iconst 0, 1) := by decide +kernel
theorem dX3_layOffs_31 : decode cX3_layOffs 31 = .ok (.istore_n 1, 1) := by decide +kernel
theorem dX3_layOffs_32 : decode cX3_layOffs 32 = .ok (.iload_n 1, 1) := by decide +kernel
theorem dX3_layOffs_33 : decode cX3_layOffs 33 = .ok (.aload_n 0, 1) := by decide +kernel
theorem dX3_layOffs_34 : decode cX3_layOffs 34 = .ok (.getfield 140, 3) := by decide +kernel
theorem dX3_layOffs_37 : decode cX3_layOffs 37 = .ok (.if_icmp .ge 45, 3) := by decide +kernel
theorem dX3_layOffs_40 : decode cX3_layOffs 40 = .ok (.aload_n 0, 1) := by decide +kernel
theorem dX3_layOffs_41 : decode cX3_layOffs 41 = .ok (.aload_n 0, 1) := by decide +kernel
theorem dX3_layOffs_42 : decode cX3_layOffs 42 = .ok (.getfield 7, 3) := by decide +kernel
theorem dX3_layOffs_45 : decode cX3_layOffs 45 = .ok (.iload_n 1, 1) := by decide +kernel
theorem dX3_layOffs_46 : decode cX3_layOffs 46 = .ok (.iaload, 1) := by decide +kernel
theorem dX3_layOffs_47 : decode cX3_layOffs 47 = .ok (.aload_n 0, 1) := by decide +kernel
theorem dX3_layOffs_48 : decode cX3_layOffs 48 = .ok (.getfield 13, 3) := by decide +kernel
theorem dX3_layOffs_51 : decode cX3_layOffs 51 = .ok (.iload_n 1, 1) := by decide +kernel
theorem dX3_layOffs_52 : decode cX3_layOffs 52 = .ok (.iaload, 1) := by decide +kernel
theorem dX3_layOffs_53 : decode cX3_layOffs 53 = .ok (.aload_n 0, 1) := by decide +kernel
theorem dX3_layOffs_54 : decode cX3_layOffs 54 = .ok (.getfield 16, 3) := by decide +kernel
theorem dX3_layOffs_57 : decode cX3_layOffs 57 = .ok (.iload_n 1, 1) := by decide +kernel
theorem dX3_layOffs_58 : decode cX3_layOffs 58 = .ok (.iaload, 1) := by decide +kernel
theorem dX3_layOffs_59 : decode cX3_layOffs 59 = .ok (.isub, 1) := by decide +kernel
theorem dX3_layOffs_60 : decode cX3_layOffs 60 = .ok (.aload_n 0, 1) := by decide +kernel
theorem dX3_layOffs_61 : decode cX3_layOffs 61 = .ok (.getfield 13, 3) := by decide +kernel
theorem dX3_layOffs_64 : decode cX3_layOffs 64 = .ok (.iload_n 1, 1) := by decide +kernel
theorem dX3_layOffs_65 : decode cX3_layOffs 65 = .ok (.iaload, 1) := by decide +kernel
theorem dX3_layOffs_66 : decode cX3_layOffs 66 = .ok (.aload_n 0, 1) := by decide +kernel
theorem dX3_layOffs_67 : decode cX3_layOffs 67 = .ok (.getfield 16, 3) := by decide +kernel
theorem dX3_layOffs_70 : decode cX3_layOffs 70 = .ok (.iload_n 1, 1) := by decide +kernel
theorem dX3_layOffs_71 : decode cX3_layOffs 71 = .ok (.iaload, 1) := by decide +kernel
theorem dX3_layOffs_72 : decode cX3_layOffs 72 = .ok (.iadd, 1) := by decide +kernel
theorem dX3_layOffs_73 : decode cX3_layOffs 73 = .ok (.invokevirtual 129, 3) := by decide +kernel
theorem dX3_layOffs_76 : decode cX3_layOffs 76 = .ok (.iinc 1 1, 3) := by decide +kernel
theorem dX3_layOffs_79 : decode cX3_layOffs 79 = .ok (.goto (-47), 3) := by decide +kernel
theorem dX3_layOffs_82 : decode cX3_layOffs 82 = .ok (.aload_n 0, 1) := by decide +kernel
theorem dX3_layOffs_83 : decode cX3_layOffs 83 = .ok (.invokevirtual 143, 3) := by decide +kernel
theorem dX3_layOffs_86 : decode cX3_layOffs 86 = .ok (.istore_n 1, 1) := by decide +kernel
theorem dX3_layOffs_87 : decode cX3_layOffs 87 = .ok (.iconst 0, 1) := by decide +kernel
theorem dX3_layOffs_88 : decode cX3_layOffs 88 = .ok (.istore_n 2, 1) := by decide +kernel
theorem dX3_layOffs_89 : decode cX3_layOffs 89 = .ok (.iload_n 2, 1) := by decide +kernel
theorem dX3_layOffs_90 : decode cX3_layOffs 90 = .ok (.bipush 21, 2) := by decide +kernel
theorem dX3_layOffs_92 : decode cX3_layOffs 92 = .ok (.if_icmp .ge 37, 3) := by decide +kernel
theorem dX3_layOffs_95 : decode cX3_layOffs 95 = .ok (.iload_n 1, 1) := by decide +kernel
theorem dX3_layOffs_96 : decode cX3_layOffs 96 = .ok (.ifCond .eq 33, 3) := by decide +kernel
theorem dX3_layOffs_99 : decode cX3_layOffs 99 = .ok (.aload_n 0, 1) := by decide +kernel
theorem dX3_layOffs_100 : decode cX3_layOffs 100 = .ok (.getfield 23, 3) := by decide +kernel
theorem dX3_layOffs_103 : decode cX3_layOffs 103 = .ok (.iload_n 2, 1) := by decide +kernel
theorem dX3_layOffs_104 : decode cX3_layOffs 104 = .ok (.aload_n 0, 1) := by decide +kernel
theorem dX3_layOffs_105 : decode cX3_layOffs 105 = .ok (.getfield 84, 3) := by decide +kernel
theorem dX3_layOffs_108 : decode cX3_layOffs 108 = .ok (.iload_n 2, 1) := by decide +kernel
theorem dX3_layOffs_109 : decode cX3_layOffs 109 = .ok (.iaload, 1) := by decide +kernel
theorem dX3_layOffs_110 : decode cX3_layOffs 110 = .ok (.iastore, 1) := by decide +kernel
theorem dX3_layOffs_111 : decode cX3_layOffs 111 = .ok (.aload_n 0, 1) := by decide +kernel
theorem dX3_layOffs_112 : decode cX3_layOffs 112 = .ok (.getfield 26, 3) := by decide +kernel
theorem dX3_layOffs_115 : decode cX3_layOffs 115 = .ok (.iload_n 2, 1) := by decide +kernel
theorem dX3_layOffs_116 : decode cX3_layOffs 116 = .ok (.aload_n 0, 1) := by decide +kernel
theorem dX3_layOffs_117 : decode cX3_layOffs 117 = .ok (.getfield 87, 3) := by decide +kernel
theorem dX3_layOffs_120 : decode cX3_layOffs 120 = .ok (.iload_n 2, 1) := by decide +kernel
theorem dX3_layOffs_121 : decode cX3_layOffs 121 = .ok (.iaload, 1) := by decide +kernel
theorem dX3_layOffs_122 : decode cX3_layOffs 122 = .ok (.iastore, 1) := by decide +kernel
theorem dX3_layOffs_123 : decode cX3_layOffs 123 = .ok (.iinc 2 1, 3) := by decide +kernel
theorem dX3_layOffs_126 : decode cX3_layOffs 126 = .ok (.goto (-37), 3) := by decide +kernel
theorem dX3_layOffs_129 : decode cX3_layOffs 129 = .ok (.iload_n 1, 1) := by decide +kernel
theorem dX3_layOffs_130 : decode cX3_layOffs 130 = .ok (.ireturn, 1) := by decide +kernel
theorem dX3_star_0 : decode cX3_star 0 = .ok (.iload_n 1, 1) := by decide +kernel
theorem dX3_star_1 : decode cX3_star 1 = .ok (.invokestatic 146, 3) := by decide +kernel
theorem dX3_star_4 : decode cX3_star 4 = .ok (.ifCond .ne 5, 3) := by decide +kernel
theorem dX3_star_7 : decode cX3_star 7 = .ok (.iconst (-1), 1) := by decide +kernel
theorem dX3_star_8 : decode cX3_star 8 = .ok (.ireturn, 1) := by decide +kernel
theorem dX3_star_9 : decode cX3_star 9 = .ok (.iload_n 2, 1) := by decide +kernel
theorem dX3_star_10 : decode cX3_star 10 = .ok (.sipush (-600), 3) := by decide +kernel
theorem dX3_star_13 : decode cX3_star 13 = .ok (.sipush 600, 3) := by decide +kernel
theorem dX3_star_16 : decode cX3_star 16 = .ok (.invokestatic 111, 3) := by decide +kernel
theorem dX3_star_19 : decode cX3_star 19 = .ok (.ifCond .ne 6, 3) := by decide +kernel
theorem dX3_star_22 : decode cX3_star 22 = .ok (.bipush (-2), 2) := by decide +kernel
theorem dX3_star_24 : decode cX3_star 24 = .ok (.ireturn, 1) := by decide +kernel
theorem dX3_star_25 : decode cX3_star 25 = .ok (.aload_n 0, 1) := by decide +kernel
theorem dX3_star_26 : decode cX3_star 26 = .ok (.getfield 140, 3) := by decide +kernel
theorem dX3_star_29 : decode cX3_star 29 = .ok (.bipush 20, 2) := by decide +kernel
theorem dX3_star_31 : decode cX3_star 31 = .ok (.if_icmp .ne 6, 3) := by decide +kernel
theorem dX3_star_34 : decode cX3_star 34 = .ok (.bipush (-4), 2) := by decide +kernel
theorem dX3_star_36 : decode cX3_star 36 = .ok (.ireturn, 1) := by decide +kernel
theorem dX3_star_37 : decode cX3_star 37 = .ok (.aload_n 0, 1) := by decide +kernel
theorem dX3_star_38 : decode cX3_star 38 = .ok (.getfield 7, 3) := by decide +kernel
theorem dX3_star_41 : decode cX3_star 41 = .ok (.aload_n 0, 1) := by decide +kernel
theorem dX3_star_42 : decode cX3_star 42 = .ok (.getfield 140, 3) := by decide +kernel
theorem dX3_star_45 : decode cX3_star 45 = .ok (.iload_n 1, 1) := by decide +kernel
theorem dX3_star_46 : decode cX3_star 46 = .ok (.iastore, 1) := by decide +kernel
theorem dX3_star_47 : decode cX3_star 47 = .ok (.aload_n 0, 1) := by decide +kernel
theorem dX3_star_48 : decode cX3_star 48 = .ok (.getfield 13, 3) := by decide +kernel
theorem dX3_star_51 : decode cX3_star 51 = .ok (.aload_n 0, 1) := by decide +kernel
theorem dX3_star_52 : decode cX3_star 52 = .ok (.getfield 140, 3) := by decide +kernel
theorem dX3_star_55 : decode cX3_star 55 = .ok (.iload_n 2, 1) := by decide +kernel
theorem dX3_star_56 : decode cX3_star 56 = .ok (.iastore, 1) := by decide +kernel
theorem dX3_star_57 : decode cX3_star 57 = .ok (.aload_n 0, 1) := by decide +kernel
theorem dX3_star_58 : decode cX3_star 58 = .ok (.getfield 16, 3) := by decide +kernel
theorem dX3_star_61 : decode cX3_star 61 = .ok (.aload_n 0, 1) := by decide +kernel
theorem dX3_star_62 : decode cX3_star 62 = .ok (.getfield 140, 3) := by decide +kernel
theorem dX3_star_65 : decode cX3_star 65 = .ok (.aload_n 0, 1) := by decide +kernel
theorem dX3_star_66 : decode cX3_star 66 = .ok (.getfield 19, 3) := by decide +kernel
theorem dX3_star_69 : decode cX3_star 69 = .ok (.iastore, 1) := by decide +kernel
theorem dX3_star_70 : decode cX3_star 70 = .ok (.aload_n 0, 1) := by decide +kernel
theorem dX3_star_71 : decode cX3_star 71 = .ok (.dup, 1) := by decide +kernel
theorem dX3_star_72 : decode cX3_star 72 = .ok (.getfield 140, 3) := by decide +kernel
theorem dX3_star_75 : decode cX3_star 75 = .ok (.iconst 1, 1) := by decide +kernel
theorem dX3_star_76 : decode cX3_star 76 = .ok (.iadd, 1) := by decide +kernel
theorem dX3_star_77 : decode cX3_star 77 = .ok (.putfield 140, 3) := by decide +kernel
theorem dX3_star_80 : decode cX3_star 80 = .ok (.aload_n 0, 1) := by decide +kernel
theorem dX3_star_81 : decode cX3_star 81 = .ok (.invokevirtual 107, 3) := by decide +kernel
theorem dX3_star_84 : decode cX3_star 84 = .ok (.ifCond .eq 8, 3) := by decide +kernel
theorem dX3_star_87 : decode cX3_star 87 = .ok (.aload_n 0, 1) := by decide +kernel
theorem dX3_star_88 : decode cX3_star 88 = .ok (.getfield 140, 3) := by decide +kernel
theorem dX3_star_91 : decode cX3_star 91 = .ok (.ireturn, 1) := by decide +kernel
theorem dX3_star_92 : decode cX3_star 92 = .ok (.aload_n 0, 1) := by decide +kernel
theorem dX3_star_93 : decode cX3_star 93 = .ok (.dup, 1) := by decide +kernel
theorem dX3_star_94 : decode cX3_star 94 = .ok (.getfield 140, 3) := by decide +kernel
theorem dX3_star_97 : decode cX3_star 97 = .ok (.iconst 1, 1) := by decide +kernel
theorem dX3_star_98 : decode cX3_star 98 = .ok (.isub, 1) := by decide +kernel
theorem dX3_star_99 : decode cX3_star 99 = .ok (.putfield 140, 3) := by decide +kernel
theorem dX3_star_102 : decode cX3_star 102 = .ok (.aload_n 0, 1) := by decide +kernel
theorem dX3_star_103 : decode cX3_star 103 = .ok (.invokevirtual 107, 3) := by decide +kernel
theorem dX3_star_106 : decode cX3_star 106 = .ok (.pop, 1) := by decide +kernel
theorem dX3_star_107 : decode cX3_star 107 = .ok (.bipush (-5), 2) := by decide +kernel
theorem dX3_star_109 : decode cX3_star 109 = .ok (.ireturn, 1) := by decide +kernel
theorem dX3_care_0 : decode cX3_care 0 = .ok (.iload_n 1, 1) := by decide +kernel
theorem dX3_care_1 : decode cX3_care 1 = .ok (.iconst 0, 1) := by decide +kernel
theorem dX3_care_2 : decode cX3_care 2 = .ok (.bipush 9, 2) := by decide +kernel
theorem dX3_care_4 : decode cX3_care 4 = .ok (.invokestatic 111, 3) := by decide +kernel
theorem dX3_care_7 : decode cX3_care 7 = .ok (.ifCond .ne 6, 3) := by decide +kernel
theorem dX3_care_10 : decode cX3_care 10 = .ok (.bipush (-2), 2) := by decide +kernel
theorem dX3_care_12 : decode cX3_care 12 = .ok (.ireturn, 1) := by decide +kernel
theorem dX3_care_13 : decode cX3_care 13 = .ok (.aload_n 0, 1) := by decide +kernel
theorem dX3_care_14 : decode cX3_care 14 = .ok (.getfield 19, 3) := by decide +kernel
theorem dX3_care_17 : decode cX3_care 17 = .ok (.istore_n 2, 1) := by decide +kernel
theorem dX3_care_18 : decode cX3_care 18 = .ok (.aload_n 0, 1) := by decide +kernel
theorem dX3_care_19 : decode cX3_care 19 = .ok (.iload_n 1, 1) := by decide +kernel
theorem dX3_care_20 : decode cX3_care 20 = .ok (.putfield 19, 3) := by decide +kernel
theorem dX3_care_23 : decode cX3_care 23 = .ok (.iload_n 2, 1) := by decide +kernel
theorem dX3_care_24 : decode cX3_care 24 = .ok (.ireturn, 1) := by decide +kernel
theorem dX3_off_0 : decode cX3_off 0 = .ok (.iload_n 1, 1) := by decide +kernel
theorem dX3_off_1 : decode cX3_off 1 = .ok (.invokestatic 146, 3) := by decide +kernel
theorem dX3_off_4 : decode cX3_off 4 = .ok (.ifCond .ne 6, 3) := by decide +kernel
theorem dX3_off_7 : decode cX3_off 7 = .ok (.ldc 150, 2) := by decide +kernel
theorem dX3_off_9 : decode cX3_off 9 = .ok (.ireturn, 1) := by decide +kernel
theorem dX3_off_10 : decode cX3_off 10 = .ok (.iload_n 2, 1) := by decide +kernel
theorem dX3_off_11 : decode cX3_off 11 = .ok (.invokestatic 151, 3) := by decide +kernel
theorem dX3_off_14 : decode cX3_off 14 = .ok (.ifCond .ne 8, 3) := by decide +kernel
theorem dX3_off_17 : decode cX3_off 17 = .ok (.ldc 154, 2) := by decide +kernel
theorem dX3_off_19 : decode cX3_off 19 = .ok (.goto 22, 3) := by decide +kernel
theorem dX3_off_22 : decode cX3_off 22 = .ok (.iload_n 2, 1) := by decide +kernel
theorem dX3_off_23 : decode cX3_off 23 = .ok (.ifCond .ne 12, 3) := by decide +kernel
theorem dX3_off_26 : decode cX3_off 26 = .ok (.aload_n 0, 1) := by decide +kernel
theorem dX3_off_27 : decode cX3_off 27 = .ok (.getfield 23, 3) := by decide +kernel
theorem dX3_off_30 : decode cX3_off 30 = .ok (.iload_n 1, 1) := by decide +kernel
theorem dX3_off_31 : decode cX3_off 31 = .ok (.iaload, 1) := by decide +kernel
theorem dX3_off_32 : decode cX3_off 32 = .ok (.goto 9, 3) := by decide +kernel
theorem dX3_off_35 : decode cX3_off 35 = .ok (.aload_n 0, 1) := by decide +kernel
theorem dX3_off_36 : decode cX3_off 36 = .ok (.getfield 26, 3) := by decide +kernel
theorem dX3_off_39 : decode cX3_off 39 = .ok (.iload_n 1, 1) := by decide +kernel
theorem dX3_off_40 : decode cX3_off 40 = .ok (.iaload, 1) := by decide +kernel
theorem dX3_off_41 : decode cX3_off 41 = .ok (.ireturn, 1) := by decide +kernel
theorem dX3_rate_0 : decode cX3_rate 0 = .ok (.iload_n 1, 1) := by decide +kernel
theorem dX3_rate_1 : decode cX3_rate 1 = .ok (.invokestatic 151, 3) := by decide +kernel
theorem dX3_rate_4 : decode cX3_rate 4 = .ok (.ifCond .ne 8, 3) := by decide +kernel
theorem dX3_rate_7 : decode cX3_rate 7 = .ok (.ldc 154, 2) := by decide +kernel
theorem dX3_rate_9 : decode cX3_rate 9 = .ok (.goto 24, 3) := by decide +kernel
theorem dX3_rate_12 : decode cX3_rate 12 = .ok (.iload_n 1, 1) := by decide +kernel
theorem dX3_rate_13 : decode cX3_rate 13 = .ok (.ifCond .ne 13, 3) := by decide +kernel
theorem dX3_rate_16 : decode cX3_rate 16 = .ok (.aload_n 0, 1) := by decide +kernel
theorem dX3_rate_17 : decode cX3_rate 17 = .ok (.getfield 23, 3) := by decide +kernel
theorem dX3_rate_20 : decode cX3_rate 20 = .ok (.bipush 20, 2) := by decide +kernel
theorem dX3_rate_22 : decode cX3_rate 22 = .ok (.iaload, 1) := by decide +kernel
theorem dX3_rate_23 : decode cX3_rate 23 = .ok (.goto 10, 3) := by decide +kernel
theorem dX3_rate_26 : decode cX3_rate 26 = .ok (.aload_n 0, 1) := by decide +kernel
theorem dX3_rate_27 : decode cX3_rate 27 = .ok (.getfield 26, 3) := by decide +kernel
theorem dX3_rate_30 : decode cX3_rate 30 = .ok (.bipush 20, 2) := by decide +kernel
theorem dX3_rate_32 : decode cX3_rate 32 = .ok (.iaload, 1) := by decide +kernel
theorem dX3_rate_33 : decode cX3_rate 33 = .ok (.ireturn, 1) := by decide +kernel
theorem dX3_slow_0 : decode cX3_slow 0 = .ok (.iload_n 1, 1) := by decide +kernel
theorem dX3_slow_1 : decode cX3_slow 1 = .ok (.iconst 0, 1) := by decide +kernel
theorem dX3_slow_2 : decode cX3_slow 2 = .ok (.iconst 1, 1) := by decide +kernel
theorem dX3_slow_3 : decode cX3_slow 3 = .ok (.invokestatic 111, 3) := by decide +kernel
theorem dX3_slow_6 : decode cX3_slow 6 = .ok (.ifCond .eq 23, 3) := by decide +kernel
theorem dX3_slow_9 : decode cX3_slow 9 = .ok (.iload_n 2, 1) := by decide +kernel
theorem dX3_slow_10 : decode cX3_slow 10 = .ok (.iconst 0, 1) := by decide +kernel
theorem dX3_slow_11 : decode cX3_slow 11 = .ok (.bipush 50, 2) := by decide +kernel
theorem dX3_slow_13 : decode cX3_slow 13 = .ok (.invokestatic 111, 3) := by decide +kernel
theorem dX3_slow_16 : decode cX3_slow 16 = .ok (.ifCond .eq 13, 3) := by decide +kernel
theorem dX3_slow_19 : decode cX3_slow 19 = .ok (.iload_n 3, 1) := by decide +kernel
theorem dX3_slow_20 : decode cX3_slow 20 = .ok (.iload_n 2, 1) := by decide +kernel
theorem dX3_slow_21 : decode cX3_slow 21 = .ok (.bipush 50, 2) := by decide +kernel
theorem dX3_slow_23 : decode cX3_slow 23 = .ok (.invokestatic 111, 3) := by decide +kernel
theorem dX3_slow_26 : decode cX3_slow 26 = .ok (.ifCond .ne 6, 3) := by decide +kernel
theorem dX3_slow_29 : decode cX3_slow 29 = .ok (.bipush (-2), 2) := by decide +kernel
theorem dX3_slow_31 : decode cX3_slow 31 = .ok (.ireturn, 1) := by decide +kernel
theorem dX3_slow_32 : decode cX3_slow 32 = .ok (.bipush 100, 2) := by decide +kernel
theorem dX3_slow_34 : decode cX3_slow 34 = .ok (.aload_n 0, 1) := by decide +kernel
theorem dX3_slow_35 : decode cX3_slow 35 = .ok (.getfield 29, 3) := by decide +kernel
theorem dX3_slow_38 : decode cX3_slow 38 = .ok (.iload_n 1, 1) := by decide +kernel
theorem dX3_slow_39 : decode cX3_slow 39 = .ok (.iaload, 1) := by decide +kernel
theorem dX3_slow_40 : decode cX3_slow 40 = .ok (.imul, 1) := by decide +kernel
theorem dX3_slow_41 : decode cX3_slow 41 = .ok (.aload_n 0, 1) := by decide +kernel
theorem dX3_slow_42 : decode cX3_slow 42 = .ok (.getfield 32, 3) := by decide +kernel
theorem dX3_slow_45 : decode cX3_slow 45 = .ok (.iload_n 1, 1) := by decide +kernel
theorem dX3_slow_46 : decode cX3_slow 46 = .ok (.iaload, 1) := by decide +kernel
theorem dX3_slow_47 : decode cX3_slow 47 = .ok (.iadd, 1) := by decide +kernel
theorem dX3_slow_48 : decode cX3_slow 48 = .ok (.istore 4, 2) := by decide +kernel
theorem dX3_slow_50 : decode cX3_slow 50 = .ok (.aload_n 0, 1) := by decide +kernel
theorem dX3_slow_51 : decode cX3_slow 51 = .ok (.getfield 29, 3) := by decide +kernel
theorem dX3_slow_54 : decode cX3_slow 54 = .ok (.iload_n 1, 1) := by decide +kernel
theorem dX3_slow_55 : decode cX3_slow 55 = .ok (.iload_n 2, 1) := by decide +kernel
theorem dX3_slow_56 : decode cX3_slow 56 = .ok (.iastore, 1) := by decide +kernel
theorem dX3_slow_57 : decode cX3_slow 57 = .ok (.aload_n 0, 1) := by decide +kernel
theorem dX3_slow_58 : decode cX3_slow 58 = .ok (.getfield 32, 3) := by decide +kernel
theorem dX3_slow_61 : decode cX3_slow 61 = .ok (.iload_n 1, 1) := by decide +kernel
theorem dX3_slow_62 : decode cX3_slow 62 = .ok (.iload_n 3, 1) := by decide +kernel
theorem dX3_slow_63 : decode cX3_slow 63 = .ok (.iastore, 1) := by decide +kernel
theorem dX3_slow_64 : decode cX3_slow 64 = .ok (.iload 4, 2) := by decide +kernel
theorem dX3_slow_66 : decode cX3_slow 66 = .ok (.ireturn, 1) := by decide +kernel
theorem dX3_slip_0 : decode cX3_slip 0 = .ok (.iload_n 1, 1) := by decide +kernel
theorem dX3_slip_1 : decode cX3_slip 1 = .ok (.invokestatic 146, 3) := by decide +kernel
theorem dX3_slip_4 : decode cX3_slip 4 = .ok (.ifCond .ne 6, 3) := by decide +kernel
theorem dX3_slip_7 : decode cX3_slip 7 = .ok (.ldc 150, 2) := by decide +kernel
theorem dX3_slip_9 : decode cX3_slip 9 = .ok (.ireturn, 1) := by decide +kernel
theorem dX3_slip_10 : decode cX3_slip 10 = .ok (.iload_n 2, 1) := by decide +kernel
theorem dX3_slip_11 : decode cX3_slip 11 = .ok (.bipush (-60), 2) := by decide +kernel
theorem dX3_slip_13 : decode cX3_slip 13 = .ok (.bipush 60, 2) := by decide +kernel
theorem dX3_slip_15 : decode cX3_slip 15 = .ok (.invokestatic 111, 3) := by decide +kernel
theorem dX3_slip_18 : decode cX3_slip 18 = .ok (.ifCond .ne 6, 3) := by decide +kernel
theorem dX3_slip_21 : decode cX3_slip 21 = .ok (.ldc 154, 2) := by decide +kernel
theorem dX3_slip_23 : decode cX3_slip 23 = .ok (.ireturn, 1) := by decide +kernel
theorem dX3_slip_24 : decode cX3_slip 24 = .ok (.aload_n 0, 1) := by decide +kernel
theorem dX3_slip_25 : decode cX3_slip 25 = .ok (.getfield 35, 3) := by decide +kernel
theorem dX3_slip_28 : decode cX3_slip 28 = .ok (.iload_n 1, 1) := by decide +kernel
theorem dX3_slip_29 : decode cX3_slip 29 = .ok (.iaload, 1) := by decide +kernel
theorem dX3_slip_30 : decode cX3_slip 30 = .ok (.istore_n 3, 1) := by decide +kernel
theorem dX3_slip_31 : decode cX3_slip 31 = .ok (.aload_n 0, 1) := by decide +kernel
theorem dX3_slip_32 : decode cX3_slip 32 = .ok (.getfield 35, 3) := by decide +kernel
theorem dX3_slip_35 : decode cX3_slip 35 = .ok (.iload_n 1, 1) := by decide +kernel
theorem dX3_slip_36 : decode cX3_slip 36 = .ok (.iload_n 2, 1) := by decide +kernel
theorem dX3_slip_37 : decode cX3_slip 37 = .ok (.iastore, 1) := by decide +kernel
theorem dX3_slip_38 : decode cX3_slip 38 = .ok (.iload_n 3, 1) := by decide +kernel
theorem dX3_slip_39 : decode cX3_slip 39 = .ok (.ireturn, 1) := by decide +kernel
theorem dX3_back_0 : decode cX3_back 0 = .ok (.iload_n 1, 1) := by decide +kernel
theorem dX3_back_1 : decode cX3_back 1 = .ok (.invokestatic 146, 3) := by decide +kernel
theorem dX3_back_4 : decode cX3_back 4 = .ok (.ifCond .ne 5, 3) := by decide +kernel
theorem dX3_back_7 : decode cX3_back 7 = .ok (.iconst (-1), 1) := by decide +kernel
theorem dX3_back_8 : decode cX3_back 8 = .ok (.ireturn, 1) := by decide +kernel
theorem dX3_back_9 : decode cX3_back 9 = .ok (.aload_n 0, 1) := by decide +kernel
theorem dX3_back_10 : decode cX3_back 10 = .ok (.getfield 38, 3) := by decide +kernel
theorem dX3_back_13 : decode cX3_back 13 = .ok (.iload_n 1, 1) := by decide +kernel
theorem dX3_back_14 : decode cX3_back 14 = .ok (.baload, 1) := by decide +kernel
theorem dX3_back_15 : decode cX3_back 15 = .ok (.ifCond .eq 7, 3) := by decide +kernel
theorem dX3_back_18 : decode cX3_back 18 = .ok (.iconst 1, 1) := by decide +kernel
theorem dX3_back_19 : decode cX3_back 19 = .ok (.goto 4, 3) := by decide +kernel
theorem dX3_back_22 : decode cX3_back 22 = .ok (.iconst 0, 1) := by decide +kernel
theorem dX3_back_23 : decode cX3_back 23 = .ok (.istore_n 3, 1) := by decide +kernel
theorem dX3_back_24 : decode cX3_back 24 = .ok (.aload_n 0, 1) := by decide +kernel
theorem dX3_back_25 : decode cX3_back 25 = .ok (.getfield 38, 3) := by decide +kernel
theorem dX3_back_28 : decode cX3_back 28 = .ok (.iload_n 1, 1) := by decide +kernel
theorem dX3_back_29 : decode cX3_back 29 = .ok (.iload_n 2, 1) := by decide +kernel
theorem dX3_back_30 : decode cX3_back 30 = .ok (.bastore, 1) := by decide +kernel
theorem dX3_back_31 : decode cX3_back 31 = .ok (.iload_n 3, 1) := by decide +kernel
theorem dX3_back_32 : decode cX3_back 32 = .ok (.ireturn, 1) := by decide +kernel
theorem dX3_lateOf_0 : decode cX3_lateOf 0 = .ok (.aload_n 0, 1) := by decide +kernel
theorem dX3_lateOf_1 : decode cX3_lateOf 1 = .ok (.getfield 23, 3) := by decide +kernel
theorem dX3_lateOf_4 : decode cX3_lateOf 4 = .ok (.iload_n 1, 1) := by decide +kernel
theorem dX3_lateOf_5 : decode cX3_lateOf 5 = .ok (.iaload, 1) := by decide +kernel
theorem dX3_lateOf_6 : decode cX3_lateOf 6 = .ok (.aload_n 0, 1) := by decide +kernel
theorem dX3_lateOf_7 : decode cX3_lateOf 7 = .ok (.getfield 26, 3) := by decide +kernel
theorem dX3_lateOf_10 : decode cX3_lateOf 10 = .ok (.iload_n 1, 1) := by decide +kernel
theorem dX3_lateOf_11 : decode cX3_lateOf 11 = .ok (.iaload, 1) := by decide +kernel
theorem dX3_lateOf_12 : decode cX3_lateOf 12 = .ok (.iadd, 1) := by decide +kernel
theorem dX3_lateOf_13 : decode cX3_lateOf 13 = .ok (.iconst 2, 1) := by decide +kernel
theorem dX3_lateOf_14 : decode cX3_lateOf 14 = .ok (.invokestatic 118, 3) := by decide +kernel
theorem dX3_lateOf_17 : decode cX3_lateOf 17 = .ok (.istore_n 3, 1) := by decide +kernel
theorem dX3_lateOf_18 : decode cX3_lateOf 18 = .ok (.iload_n 2, 1) := by decide +kernel
theorem dX3_lateOf_19 : decode cX3_lateOf 19 = .ok (.ifCond .ne 26, 3) := by decide +kernel
theorem dX3_lateOf_22 : decode cX3_lateOf 22 = .ok (.aload_n 0, 1) := by decide +kernel
theorem dX3_lateOf_23 : decode cX3_lateOf 23 = .ok (.getfield 29, 3) := by decide +kernel
theorem dX3_lateOf_26 : decode cX3_lateOf 26 = .ok (.iconst 0, 1) := by decide +kernel
theorem dX3_lateOf_27 : decode cX3_lateOf 27 = .ok (.iaload, 1) := by decide +kernel
theorem dX3_lateOf_28 : decode cX3_lateOf 28 = .ok (.aload_n 0, 1) := by decide +kernel
theorem dX3_lateOf_29 : decode cX3_lateOf 29 = .ok (.getfield 29, 3) := by decide +kernel
theorem dX3_lateOf_32 : decode cX3_lateOf 32 = .ok (.iconst 1, 1) := by decide +kernel
theorem dX3_lateOf_33 : decode cX3_lateOf 33 = .ok (.iaload, 1) := by decide +kernel
theorem dX3_lateOf_34 : decode cX3_lateOf 34 = .ok (.iadd, 1) := by decide +kernel
theorem dX3_lateOf_35 : decode cX3_lateOf 35 = .ok (.aload_n 0, 1) := by decide +kernel
theorem dX3_lateOf_36 : decode cX3_lateOf 36 = .ok (.getfield 26, 3) := by decide +kernel
theorem dX3_lateOf_39 : decode cX3_lateOf 39 = .ok (.iload_n 1, 1) := by decide +kernel
theorem dX3_lateOf_40 : decode cX3_lateOf 40 = .ok (.iaload, 1) := by decide +kernel
theorem dX3_lateOf_41 : decode cX3_lateOf 41 = .ok (.isub, 1) := by decide +kernel
theorem dX3_lateOf_42 : decode cX3_lateOf 42 = .ok (.goto 23, 3) := by decide +kernel
theorem dX3_lateOf_45 : decode cX3_lateOf 45 = .ok (.aload_n 0, 1) := by decide +kernel
theorem dX3_lateOf_46 : decode cX3_lateOf 46 = .ok (.getfield 32, 3) := by decide +kernel
theorem dX3_lateOf_49 : decode cX3_lateOf 49 = .ok (.iconst 0, 1) := by decide +kernel
theorem dX3_lateOf_50 : decode cX3_lateOf 50 = .ok (.iaload, 1) := by decide +kernel
theorem dX3_lateOf_51 : decode cX3_lateOf 51 = .ok (.aload_n 0, 1) := by decide +kernel
theorem dX3_lateOf_52 : decode cX3_lateOf 52 = .ok (.getfield 32, 3) := by decide +kernel
theorem dX3_lateOf_55 : decode cX3_lateOf 55 = .ok (.iconst 1, 1) := by decide +kernel
theorem dX3_lateOf_56 : decode cX3_lateOf 56 = .ok (.iaload, 1) := by decide +kernel
theorem dX3_lateOf_57 : decode cX3_lateOf 57 = .ok (.iadd, 1) := by decide +kernel
theorem dX3_lateOf_58 : decode cX3_lateOf 58 = .ok (.aload_n 0, 1) := by decide +kernel
theorem dX3_lateOf_59 : decode cX3_lateOf 59 = .ok (.getfield 23, 3) := by decide +kernel
theorem dX3_lateOf_62 : decode cX3_lateOf 62 = .ok (.iload_n 1, 1) := by decide +kernel
theorem dX3_lateOf_63 : decode cX3_lateOf 63 = .ok (.iaload, 1) := by decide +kernel
theorem dX3_lateOf_64 : decode cX3_lateOf 64 = .ok (.isub, 1) := by decide +kernel
theorem dX3_lateOf_65 : decode cX3_lateOf 65 = .ok (.istore 4, 2) := by decide +kernel
theorem dX3_lateOf_67 : decode cX3_lateOf 67 = .ok (.iload_n 3, 1) := by decide +kernel
theorem dX3_lateOf_68 : decode cX3_lateOf 68 = .ok (.iload 4, 2) := by decide +kernel
theorem dX3_lateOf_70 : decode cX3_lateOf 70 = .ok (.iadd, 1) := by decide +kernel
theorem dX3_lateOf_71 : decode cX3_lateOf 71 = .ok (.aload_n 0, 1) := by decide +kernel
theorem dX3_lateOf_72 : decode cX3_lateOf 72 = .ok (.getfield 35, 3) := by decide +kernel
theorem dX3_lateOf_75 : decode cX3_lateOf 75 = .ok (.iload_n 1, 1) := by decide +kernel
theorem dX3_lateOf_76 : decode cX3_lateOf 76 = .ok (.iaload, 1) := by decide +kernel
theorem dX3_lateOf_77 : decode cX3_lateOf 77 = .ok (.iadd, 1) := by decide +kernel
theorem dX3_lateOf_78 : decode cX3_lateOf 78 = .ok (.ireturn, 1) := by decide +kernel
theorem dX3_late_0 : decode cX3_late 0 = .ok (.iload_n 1, 1) := by decide +kernel
theorem dX3_late_1 : decode cX3_late 1 = .ok (.invokestatic 146, 3) := by decide +kernel
theorem dX3_late_4 : decode cX3_late 4 = .ok (.ifCond .ne 6, 3) := by decide +kernel
theorem dX3_late_7 : decode cX3_late 7 = .ok (.ldc 150, 2) := by decide +kernel
theorem dX3_late_9 : decode cX3_late 9 = .ok (.ireturn, 1) := by decide +kernel
theorem dX3_late_10 : decode cX3_late 10 = .ok (.iload_n 2, 1) := by decide +kernel
theorem dX3_late_11 : decode cX3_late 11 = .ok (.invokestatic 151, 3) := by decide +kernel
theorem dX3_late_14 : decode cX3_late 14 = .ok (.ifCond .eq 12, 3) := by decide +kernel
theorem dX3_late_17 : decode cX3_late 17 = .ok (.aload_n 0, 1) := by decide +kernel
theorem dX3_late_18 : decode cX3_late 18 = .ok (.iload_n 1, 1) := by decide +kernel
theorem dX3_late_19 : decode cX3_late 19 = .ok (.iload_n 2, 1) := by decide +kernel
theorem dX3_late_20 : decode cX3_late 20 = .ok (.invokevirtual 155, 3) := by decide +kernel
theorem dX3_late_23 : decode cX3_late 23 = .ok (.goto 5, 3) := by decide +kernel
theorem dX3_late_26 : decode cX3_late 26 = .ok (.ldc 154, 2) := by decide +kernel
theorem dX3_late_28 : decode cX3_late 28 = .ok (.ireturn, 1) := by decide +kernel
theorem dX3_ship_0 : decode cX3_ship 0 = .ok (.aload_n 0, 1) := by decide +kernel
theorem dX3_ship_1 : decode cX3_ship 1 = .ok (.getfield 115, 3) := by decide +kernel
theorem dX3_ship_4 : decode cX3_ship 4 = .ok (.iconst 4, 1) := by decide +kernel
theorem dX3_ship_5 : decode cX3_ship 5 = .ok (.if_icmp .ne 6, 3) := by decide +kernel
theorem dX3_ship_8 : decode cX3_ship 8 = .ok (.bipush (-4), 2) := by decide +kernel
theorem dX3_ship_10 : decode cX3_ship 10 = .ok (.ireturn, 1) := by decide +kernel
theorem dX3_ship_11 : decode cX3_ship 11 = .ok (.aload_n 0, 1) := by decide +kernel
theorem dX3_ship_12 : decode cX3_ship 12 = .ok (.getfield 45, 3) := by decide +kernel
theorem dX3_ship_15 : decode cX3_ship 15 = .ok (.aload_n 0, 1) := by decide +kernel
theorem dX3_ship_16 : decode cX3_ship 16 = .ok (.getfield 115, 3) := by decide +kernel
theorem dX3_ship_19 : decode cX3_ship 19 = .ok (.iconst 0, 1) := by decide +kernel
theorem dX3_ship_20 : decode cX3_ship 20 = .ok (.iastore, 1) := by decide +kernel
theorem dX3_ship_21 : decode cX3_ship 21 = .ok (.aload_n 0, 1) := by decide +kernel
theorem dX3_ship_22 : decode cX3_ship 22 = .ok (.dup, 1) := by decide +kernel
theorem dX3_ship_23 : decode cX3_ship 23 = .ok (.getfield 115, 3) := by decide +kernel
theorem dX3_ship_26 : decode cX3_ship 26 = .ok (.iconst 1, 1) := by decide +kernel
theorem dX3_ship_27 : decode cX3_ship 27 = .ok (.iadd, 1) := by decide +kernel
theorem dX3_ship_28 : decode cX3_ship 28 = .ok (.putfield 115, 3) := by decide +kernel
theorem dX3_ship_31 : decode cX3_ship 31 = .ok (.aload_n 0, 1) := by decide +kernel
theorem dX3_ship_32 : decode cX3_ship 32 = .ok (.getfield 115, 3) := by decide +kernel
theorem dX3_ship_35 : decode cX3_ship 35 = .ok (.iconst 1, 1) := by decide +kernel
theorem dX3_ship_36 : decode cX3_ship 36 = .ok (.isub, 1) := by decide +kernel
theorem dX3_ship_37 : decode cX3_ship 37 = .ok (.ireturn, 1) := by decide +kernel
theorem dX3_mark_0 : decode cX3_mark 0 = .ok (.aload_n 0, 1) := by decide +kernel
theorem dX3_mark_1 : decode cX3_mark 1 = .ok (.getfield 45, 3) := by decide +kernel
theorem dX3_mark_4 : decode cX3_mark 4 = .ok (.iload_n 1, 1) := by decide +kernel
theorem dX3_mark_5 : decode cX3_mark 5 = .ok (.iaload, 1) := by decide +kernel
theorem dX3_mark_6 : decode cX3_mark 6 = .ok (.bipush 12, 2) := by decide +kernel
theorem dX3_mark_8 : decode cX3_mark 8 = .ok (.if_icmp .ne 6, 3) := by decide +kernel
theorem dX3_mark_11 : decode cX3_mark 11 = .ok (.bipush (-4), 2) := by decide +kernel
theorem dX3_mark_13 : decode cX3_mark 13 = .ok (.ireturn, 1) := by decide +kernel
theorem dX3_mark_14 : decode cX3_mark 14 = .ok (.bipush 12, 2) := by decide +kernel
theorem dX3_mark_16 : decode cX3_mark 16 = .ok (.iload_n 1, 1) := by decide +kernel
theorem dX3_mark_17 : decode cX3_mark 17 = .ok (.imul, 1) := by decide +kernel
theorem dX3_mark_18 : decode cX3_mark 18 = .ok (.aload_n 0, 1) := by decide +kernel
theorem dX3_mark_19 : decode cX3_mark 19 = .ok (.getfield 45, 3) := by decide +kernel
theorem dX3_mark_22 : decode cX3_mark 22 = .ok (.iload_n 1, 1) := by decide +kernel
theorem dX3_mark_23 : decode cX3_mark 23 = .ok (.iaload, 1) := by decide +kernel
theorem dX3_mark_24 : decode cX3_mark 24 = .ok (.iadd, 1) := by decide +kernel
theorem dX3_mark_25 : decode cX3_mark 25 = .ok (.istore 7, 2) := by decide +kernel
theorem dX3_mark_27 : decode cX3_mark 27 = .ok (.aload_n 0, 1) := by decide +kernel
theorem dX3_mark_28 : decode cX3_mark 28 = .ok (.getfield 48, 3) := by decide +kernel
theorem dX3_mark_31 : decode cX3_mark 31 = .ok (.iload 7, 2) := by decide +kernel
theorem dX3_mark_33 : decode cX3_mark 33 = .ok (.iload_n 2, 1) := by decide +kernel
theorem dX3_mark_34 : decode cX3_mark 34 = .ok (.iastore, 1) := by decide +kernel
theorem dX3_mark_35 : decode cX3_mark 35 = .ok (.aload_n 0, 1) := by decide +kernel
theorem dX3_mark_36 : decode cX3_mark 36 = .ok (.getfield 51, 3) := by decide +kernel
theorem dX3_mark_39 : decode cX3_mark 39 = .ok (.iload 7, 2) := by decide +kernel
theorem dX3_mark_41 : decode cX3_mark 41 = .ok (.iload_n 3, 1) := by decide +kernel
theorem dX3_mark_42 : decode cX3_mark 42 = .ok (.iastore, 1) := by decide +kernel
theorem dX3_mark_43 : decode cX3_mark 43 = .ok (.aload_n 0, 1) := by decide +kernel
theorem dX3_mark_44 : decode cX3_mark 44 = .ok (.getfield 54, 3) := by decide +kernel
theorem dX3_mark_47 : decode cX3_mark 47 = .ok (.iload 7, 2) := by decide +kernel
theorem dX3_mark_49 : decode cX3_mark 49 = .ok (.iload 4, 2) := by decide +kernel
theorem dX3_mark_51 : decode cX3_mark 51 = .ok (.iastore, 1) := by decide +kernel
theorem dX3_mark_52 : decode cX3_mark 52 = .ok (.aload_n 0, 1) := by decide +kernel
theorem dX3_mark_53 : decode cX3_mark 53 = .ok (.getfield 57, 3) := by decide +kernel
theorem dX3_mark_56 : decode cX3_mark 56 = .ok (.iload 7, 2) := by decide +kernel
theorem dX3_mark_58 : decode cX3_mark 58 = .ok (.iload 5, 2) := by decide +kernel
theorem dX3_mark_60 : decode cX3_mark 60 = .ok (.iastore, 1) := by decide +kernel
theorem dX3_mark_61 : decode cX3_mark 61 = .ok (.aload_n 0, 1) := by decide +kernel
theorem dX3_mark_62 : decode cX3_mark 62 = .ok (.getfield 60, 3) := by decide +kernel
theorem dX3_mark_65 : decode cX3_mark 65 = .ok (.iload 7, 2) := by decide +kernel
theorem dX3_mark_67 : decode cX3_mark 67 = .ok (.iload 6, 2) := by decide +kernel
theorem dX3_mark_69 : decode cX3_mark 69 = .ok (.iastore, 1) := by decide +kernel
theorem dX3_mark_70 : decode cX3_mark 70 = .ok (.aload_n 0, 1) := by decide +kernel
theorem dX3_mark_71 : decode cX3_mark 71 = .ok (.getfield 45, 3) := by decide +kernel
theorem dX3_mark_74 : decode cX3_mark 74 = .ok (.iload_n 1, 1) := by decide +kernel
theorem dX3_mark_75 : decode cX3_mark 75 = .ok (.dup2, 1) := by decide +kernel
theorem dX3_mark_76 : decode cX3_mark 76 = .ok (.iaload, 1) := by decide +kernel
theorem dX3_mark_77 : decode cX3_mark 77 = .ok (.iconst 1, 1) := by decide +kernel
theorem dX3_mark_78 : decode cX3_mark 78 = .ok (.iadd, 1) := by decide +kernel
theorem dX3_mark_79 : decode cX3_mark 79 = .ok (.iastore, 1) := by decide +kernel
theorem dX3_mark_80 : decode cX3_mark 80 = .ok (.aload_n 0, 1) := by decide +kernel
theorem dX3_mark_81 : decode cX3_mark 81 = .ok (.getfield 45, 3) := by decide +kernel
theorem dX3_mark_84 : decode cX3_mark 84 = .ok (.iload_n 1, 1) := by decide +kernel
theorem dX3_mark_85 : decode cX3_mark 85 = .ok (.iaload, 1) := by decide +kernel
theorem dX3_mark_86 : decode cX3_mark 86 = .ok (.ireturn, 1) := by decide +kernel
theorem dX3_isOne_0 : decode cX3_isOne 0 = .ok (.aload_n 0, 1) := by decide +kernel
theorem dX3_isOne_1 : decode cX3_isOne 1 = .ok (.iload_n 1, 1) := by decide +kernel
theorem dX3_isOne_2 : decode cX3_isOne 2 = .ok (.invokevirtual 158, 3) := by decide +kernel
theorem dX3_isOne_5 : decode cX3_isOne 5 = .ok (.ifCond .eq 21, 3) := by decide +kernel
theorem dX3_isOne_8 : decode cX3_isOne 8 = .ok (.iload_n 2, 1) := by decide +kernel
theorem dX3_isOne_9 : decode cX3_isOne 9 = .ok (.invokestatic 161, 3) := by decide +kernel
theorem dX3_isOne_12 : decode cX3_isOne 12 = .ok (.ifCond .eq 14, 3) := by decide +kernel
theorem dX3_isOne_15 : decode cX3_isOne 15 = .ok (.iload_n 3, 1) := by decide +kernel
theorem dX3_isOne_16 : decode cX3_isOne 16 = .ok (.invokestatic 146, 3) := by decide +kernel
theorem dX3_isOne_19 : decode cX3_isOne 19 = .ok (.ifCond .eq 7, 3) := by decide +kernel
theorem dX3_isOne_22 : decode cX3_isOne 22 = .ok (.iconst 1, 1) := by decide +kernel
theorem dX3_isOne_23 : decode cX3_isOne 23 = .ok (.goto 4, 3) := by decide +kernel
theorem dX3_isOne_26 : decode cX3_isOne 26 = .ok (.iconst 0, 1) := by decide +kernel
theorem dX3_isOne_27 : decode cX3_isOne 27 = .ok (.ireturn, 1) := by decide +kernel
theorem dX3_set_0 : decode cX3_set 0 = .ok (.aload_n 0, 1) := by decide +kernel
theorem dX3_set_1 : decode cX3_set 1 = .ok (.iload_n 1, 1) := by decide +kernel
theorem dX3_set_2 : decode cX3_set 2 = .ok (.iload_n 2, 1) := by decide +kernel
theorem dX3_set_3 : decode cX3_set 3 = .ok (.iload_n 3, 1) := by decide +kernel
theorem dX3_set_4 : decode cX3_set 4 = .ok (.invokevirtual 164, 3) := by decide +kernel
theorem dX3_set_7 : decode cX3_set 7 = .ok (.ifCond .ne 5, 3) := by decide +kernel
theorem dX3_set_10 : decode cX3_set 10 = .ok (.iconst (-1), 1) := by decide +kernel
theorem dX3_set_11 : decode cX3_set 11 = .ok (.ireturn, 1) := by decide +kernel
theorem dX3_set_12 : decode cX3_set 12 = .ok (.iload 4, 2) := by decide +kernel
theorem dX3_set_14 : decode cX3_set 14 = .ok (.iconst 0, 1) := by decide +kernel
theorem dX3_set_15 : decode cX3_set 15 = .ok (.iconst 2, 1) := by decide +kernel
theorem dX3_set_16 : decode cX3_set 16 = .ok (.invokestatic 111, 3) := by decide +kernel
theorem dX3_set_19 : decode cX3_set 19 = .ok (.ifCond .eq 38, 3) := by decide +kernel
theorem dX3_set_22 : decode cX3_set 22 = .ok (.iload 5, 2) := by decide +kernel
theorem dX3_set_24 : decode cX3_set 24 = .ok (.iconst 0, 1) := by decide +kernel
theorem dX3_set_25 : decode cX3_set 25 = .ok (.iload 4, 2) := by decide +kernel
theorem dX3_set_27 : decode cX3_set 27 = .ok (.iconst 2, 1) := by decide +kernel
theorem dX3_set_28 : decode cX3_set 28 = .ok (.if_icmp .ne 8, 3) := by decide +kernel
theorem dX3_set_31 : decode cX3_set 31 = .ok (.bipush 30, 2) := by decide +kernel
theorem dX3_set_33 : decode cX3_set 33 = .ok (.goto 4, 3) := by decide +kernel
theorem dX3_set_36 : decode cX3_set 36 = .ok (.iconst 0, 1) := by decide +kernel
theorem dX3_set_37 : decode cX3_set 37 = .ok (.invokestatic 111, 3) := by decide +kernel
theorem dX3_set_40 : decode cX3_set 40 = .ok (.ifCond .eq 17, 3) := by decide +kernel
theorem dX3_set_43 : decode cX3_set 43 = .ok (.iload 6, 2) := by decide +kernel
theorem dX3_set_45 : decode cX3_set 45 = .ok (.sipush (-9999), 3) := by decide +kernel
theorem dX3_set_48 : decode cX3_set 48 = .ok (.sipush 9999, 3) := by decide +kernel
theorem dX3_set_51 : decode cX3_set 51 = .ok (.invokestatic 111, 3) := by decide +kernel
theorem dX3_set_54 : decode cX3_set 54 = .ok (.ifCond .ne 6, 3) := by decide +kernel
theorem dX3_set_57 : decode cX3_set 57 = .ok (.bipush (-2), 2) := by decide +kernel
theorem dX3_set_59 : decode cX3_set 59 = .ok (.ireturn, 1) := by decide +kernel
theorem dX3_set_60 : decode cX3_set 60 = .ok (.aload_n 0, 1) := by decide +kernel
theorem dX3_set_61 : decode cX3_set 61 = .ok (.iload_n 1, 1) := by decide +kernel
theorem dX3_set_62 : decode cX3_set 62 = .ok (.iload_n 2, 1) := by decide +kernel
theorem dX3_set_63 : decode cX3_set 63 = .ok (.iload_n 3, 1) := by decide +kernel
theorem dX3_set_64 : decode cX3_set 64 = .ok (.iload 4, 2) := by decide +kernel
theorem dX3_set_66 : decode cX3_set 66 = .ok (.iload 5, 2) := by decide +kernel
theorem dX3_set_68 : decode cX3_set 68 = .ok (.iload 6, 2) := by decide +kernel
theorem dX3_set_70 : decode cX3_set 70 = .ok (.invokevirtual 167, 3) := by decide +kernel
theorem dX3_set_73 : decode cX3_set 73 = .ok (.ireturn, 1) := by decide +kernel
theorem dX3_meet_0 : decode cX3_meet 0 = .ok (.aload_n 0, 1) := by decide +kernel
theorem dX3_meet_1 : decode cX3_meet 1 = .ok (.iload_n 1, 1) := by decide +kernel
theorem dX3_meet_2 : decode cX3_meet 2 = .ok (.iload_n 2, 1) := by decide +kernel
theorem dX3_meet_3 : decode cX3_meet 3 = .ok (.iload_n 3, 1) := by decide +kernel
theorem dX3_meet_4 : decode cX3_meet 4 = .ok (.invokevirtual 164, 3) := by decide +kernel
theorem dX3_meet_7 : decode cX3_meet 7 = .ok (.ifCond .ne 5, 3) := by decide +kernel
theorem dX3_meet_10 : decode cX3_meet 10 = .ok (.iconst (-1), 1) := by decide +kernel
theorem dX3_meet_11 : decode cX3_meet 11 = .ok (.ireturn, 1) := by decide +kernel
theorem dX3_meet_12 : decode cX3_meet 12 = .ok (.iload 4, 2) := by decide +kernel
theorem dX3_meet_14 : decode cX3_meet 14 = .ok (.ldc 105, 2) := by decide +kernel
theorem dX3_meet_16 : decode cX3_meet 16 = .ok (.ldc 106, 2) := by decide +kernel
theorem dX3_meet_18 : decode cX3_meet 18 = .ok (.invokestatic 111, 3) := by decide +kernel
theorem dX3_meet_21 : decode cX3_meet 21 = .ok (.ifCond .eq 17, 3) := by decide +kernel
theorem dX3_meet_24 : decode cX3_meet 24 = .ok (.iload 5, 2) := by decide +kernel
theorem dX3_meet_26 : decode cX3_meet 26 = .ok (.sipush (-9999), 3) := by decide +kernel
theorem dX3_meet_29 : decode cX3_meet 29 = .ok (.sipush 9999, 3) := by decide +kernel
theorem dX3_meet_32 : decode cX3_meet 32 = .ok (.invokestatic 111, 3) := by decide +kernel
theorem dX3_meet_35 : decode cX3_meet 35 = .ok (.ifCond .ne 6, 3) := by decide +kernel
theorem dX3_meet_38 : decode cX3_meet 38 = .ok (.bipush (-2), 2) := by decide +kernel
theorem dX3_meet_40 : decode cX3_meet 40 = .ok (.ireturn, 1) := by decide +kernel
theorem dX3_meet_41 : decode cX3_meet 41 = .ok (.aload_n 0, 1) := by decide +kernel
theorem dX3_meet_42 : decode cX3_meet 42 = .ok (.iload_n 1, 1) := by decide +kernel
theorem dX3_meet_43 : decode cX3_meet 43 = .ok (.iload_n 2, 1) := by decide +kernel
theorem dX3_meet_44 : decode cX3_meet 44 = .ok (.iload_n 3, 1) := by decide +kernel
theorem dX3_meet_45 : decode cX3_meet 45 = .ok (.iconst 3, 1) := by decide +kernel
theorem dX3_meet_46 : decode cX3_meet 46 = .ok (.iload 5, 2) := by decide +kernel
theorem dX3_meet_48 : decode cX3_meet 48 = .ok (.iload 4, 2) := by decide +kernel
theorem dX3_meet_50 : decode cX3_meet 50 = .ok (.invokevirtual 167, 3) := by decide +kernel
theorem dX3_meet_53 : decode cX3_meet 53 = .ok (.ireturn, 1) := by decide +kernel
theorem dX3_strike_0 : decode cX3_strike 0 = .ok (.aload_n 0, 1) := by decide +kernel
theorem dX3_strike_1 : decode cX3_strike 1 = .ok (.iload_n 1, 1) := by decide +kernel
theorem dX3_strike_2 : decode cX3_strike 2 = .ok (.invokevirtual 158, 3) := by decide +kernel
theorem dX3_strike_5 : decode cX3_strike 5 = .ok (.ifCond .ne 5, 3) := by decide +kernel
theorem dX3_strike_8 : decode cX3_strike 8 = .ok (.iconst (-1), 1) := by decide +kernel
theorem dX3_strike_9 : decode cX3_strike 9 = .ok (.ireturn, 1) := by decide +kernel
theorem dX3_strike_10 : decode cX3_strike 10 = .ok (.aload_n 0, 1) := by decide +kernel
theorem dX3_strike_11 : decode cX3_strike 11 = .ok (.getfield 45, 3) := by decide +kernel
theorem dX3_strike_14 : decode cX3_strike 14 = .ok (.iload_n 1, 1) := by decide +kernel
theorem dX3_strike_15 : decode cX3_strike 15 = .ok (.iaload, 1) := by decide +kernel
theorem dX3_strike_16 : decode cX3_strike 16 = .ok (.ifCond .ne 6, 3) := by decide +kernel
theorem dX3_strike_19 : decode cX3_strike 19 = .ok (.bipush (-5), 2) := by decide +kernel
theorem dX3_strike_21 : decode cX3_strike 21 = .ok (.ireturn, 1) := by decide +kernel
theorem dX3_strike_22 : decode cX3_strike 22 = .ok (.aload_n 0, 1) := by decide +kernel
theorem dX3_strike_23 : decode cX3_strike 23 = .ok (.getfield 45, 3) := by decide +kernel
theorem dX3_strike_26 : decode cX3_strike 26 = .ok (.iload_n 1, 1) := by decide +kernel
theorem dX3_strike_27 : decode cX3_strike 27 = .ok (.dup2, 1) := by decide +kernel
theorem dX3_strike_28 : decode cX3_strike 28 = .ok (.iaload, 1) := by decide +kernel
theorem dX3_strike_29 : decode cX3_strike 29 = .ok (.iconst 1, 1) := by decide +kernel
theorem dX3_strike_30 : decode cX3_strike 30 = .ok (.isub, 1) := by decide +kernel
theorem dX3_strike_31 : decode cX3_strike 31 = .ok (.iastore, 1) := by decide +kernel
theorem dX3_strike_32 : decode cX3_strike 32 = .ok (.aload_n 0, 1) := by decide +kernel
theorem dX3_strike_33 : decode cX3_strike 33 = .ok (.getfield 45, 3) := by decide +kernel
theorem dX3_strike_36 : decode cX3_strike 36 = .ok (.iload_n 1, 1) := by decide +kernel
theorem dX3_strike_37 : decode cX3_strike 37 = .ok (.iaload, 1) := by decide +kernel
theorem dX3_strike_38 : decode cX3_strike 38 = .ok (.ireturn, 1) := by decide +kernel
theorem dX3_saw_0 : decode cX3_saw 0 = .ok (.aload_n 0, 1) := by decide +kernel
theorem dX3_saw_1 : decode cX3_saw 1 = .ok (.iload_n 1, 1) := by decide +kernel
theorem dX3_saw_2 : decode cX3_saw 2 = .ok (.invokevirtual 158, 3) := by decide +kernel
theorem dX3_saw_5 : decode cX3_saw 5 = .ok (.ifCond .eq 10, 3) := by decide +kernel
theorem dX3_saw_8 : decode cX3_saw 8 = .ok (.iload_n 2, 1) := by decide +kernel
theorem dX3_saw_9 : decode cX3_saw 9 = .ok (.invokestatic 146, 3) := by decide +kernel
theorem dX3_saw_12 : decode cX3_saw 12 = .ok (.ifCond .ne 5, 3) := by decide +kernel
theorem dX3_saw_15 : decode cX3_saw 15 = .ok (.iconst (-1), 1) := by decide +kernel
theorem dX3_saw_16 : decode cX3_saw 16 = .ok (.ireturn, 1) := by decide +kernel
theorem dX3_saw_17 : decode cX3_saw 17 = .ok (.aload_n 0, 1) := by decide +kernel
theorem dX3_saw_18 : decode cX3_saw 18 = .ok (.getfield 63, 3) := by decide +kernel
theorem dX3_saw_21 : decode cX3_saw 21 = .ok (.bipush 20, 2) := by decide +kernel
theorem dX3_saw_23 : decode cX3_saw 23 = .ok (.iload_n 1, 1) := by decide +kernel
theorem dX3_saw_24 : decode cX3_saw 24 = .ok (.imul, 1) := by decide +kernel
theorem dX3_saw_25 : decode cX3_saw 25 = .ok (.iload_n 2, 1) := by decide +kernel
theorem dX3_saw_26 : decode cX3_saw 26 = .ok (.iadd, 1) := by decide +kernel
theorem dX3_saw_27 : decode cX3_saw 27 = .ok (.baload, 1) := by decide +kernel
theorem dX3_saw_28 : decode cX3_saw 28 = .ok (.ifCond .eq 7, 3) := by decide +kernel
theorem dX3_saw_31 : decode cX3_saw 31 = .ok (.iconst 1, 1) := by decide +kernel
theorem dX3_saw_32 : decode cX3_saw 32 = .ok (.goto 4, 3) := by decide +kernel
theorem dX3_saw_35 : decode cX3_saw 35 = .ok (.iconst 0, 1) := by decide +kernel
theorem dX3_saw_36 : decode cX3_saw 36 = .ok (.istore 4, 2) := by decide +kernel
theorem dX3_saw_38 : decode cX3_saw 38 = .ok (.aload_n 0, 1) := by decide +kernel
theorem dX3_saw_39 : decode cX3_saw 39 = .ok (.getfield 63, 3) := by decide +kernel
theorem dX3_saw_42 : decode cX3_saw 42 = .ok (.bipush 20, 2) := by decide +kernel
theorem dX3_saw_44 : decode cX3_saw 44 = .ok (.iload_n 1, 1) := by decide +kernel
theorem dX3_saw_45 : decode cX3_saw 45 = .ok (.imul, 1) := by decide +kernel
theorem dX3_saw_46 : decode cX3_saw 46 = .ok (.iload_n 2, 1) := by decide +kernel
theorem dX3_saw_47 : decode cX3_saw 47 = .ok (.iadd, 1) := by decide +kernel
theorem dX3_saw_48 : decode cX3_saw 48 = .ok (.iload_n 3, 1) := by decide +kernel
theorem dX3_saw_49 : decode cX3_saw 49 = .ok (.bastore, 1) := by decide +kernel
theorem dX3_saw_50 : decode cX3_saw 50 = .ok (.iload 4, 2) := by decide +kernel
theorem dX3_saw_52 : decode cX3_saw 52 = .ok (.ireturn, 1) := by decide +kernel
theorem dX3_clock_0 : decode cX3_clock 0 = .ok (.aload_n 0, 1) := by decide +kernel
theorem dX3_clock_1 : decode cX3_clock 1 = .ok (.iload_n 1, 1) := by decide +kernel
theorem dX3_clock_2 : decode cX3_clock 2 = .ok (.invokevirtual 158, 3) := by decide +kernel
theorem dX3_clock_5 : decode cX3_clock 5 = .ok (.ifCond .eq 10, 3) := by decide +kernel
theorem dX3_clock_8 : decode cX3_clock 8 = .ok (.iload_n 2, 1) := by decide +kernel
theorem dX3_clock_9 : decode cX3_clock 9 = .ok (.invokestatic 161, 3) := by decide +kernel
theorem dX3_clock_12 : decode cX3_clock 12 = .ok (.ifCond .ne 5, 3) := by decide +kernel
theorem dX3_clock_15 : decode cX3_clock 15 = .ok (.iconst (-1), 1) := by decide +kernel
theorem dX3_clock_16 : decode cX3_clock 16 = .ok (.ireturn, 1) := by decide +kernel
theorem dX3_clock_17 : decode cX3_clock 17 = .ok (.iload_n 3, 1) := by decide +kernel
theorem dX3_clock_18 : decode cX3_clock 18 = .ok (.iconst 0, 1) := by decide +kernel
theorem dX3_clock_19 : decode cX3_clock 19 = .ok (.iconst 1, 1) := by decide +kernel
theorem dX3_clock_20 : decode cX3_clock 20 = .ok (.invokestatic 111, 3) := by decide +kernel
theorem dX3_clock_23 : decode cX3_clock 23 = .ok (.ifCond .eq 22, 3) := by decide +kernel
theorem dX3_clock_26 : decode cX3_clock 26 = .ok (.iload 4, 2) := by decide +kernel
theorem dX3_clock_28 : decode cX3_clock 28 = .ok (.iload_n 3, 1) := by decide +kernel
theorem dX3_clock_29 : decode cX3_clock 29 = .ok (.iload_n 3, 1) := by decide +kernel
theorem dX3_clock_30 : decode cX3_clock 30 = .ok (.ifCond .ne 7, 3) := by decide +kernel
theorem dX3_clock_33 : decode cX3_clock 33 = .ok (.iconst 5, 1) := by decide +kernel
theorem dX3_clock_34 : decode cX3_clock 34 = .ok (.goto 5, 3) := by decide +kernel
theorem dX3_clock_37 : decode cX3_clock 37 = .ok (.bipush 9, 2) := by decide +kernel
theorem dX3_clock_39 : decode cX3_clock 39 = .ok (.invokestatic 111, 3) := by decide +kernel
theorem dX3_clock_42 : decode cX3_clock 42 = .ok (.ifCond .ne 6, 3) := by decide +kernel
theorem dX3_clock_45 : decode cX3_clock 45 = .ok (.bipush (-2), 2) := by decide +kernel
theorem dX3_clock_47 : decode cX3_clock 47 = .ok (.ireturn, 1) := by decide +kernel
theorem dX3_clock_48 : decode cX3_clock 48 = .ok (.iconst 3, 1) := by decide +kernel
theorem dX3_clock_49 : decode cX3_clock 49 = .ok (.iload_n 1, 1) := by decide +kernel
theorem dX3_clock_50 : decode cX3_clock 50 = .ok (.imul, 1) := by decide +kernel
theorem dX3_clock_51 : decode cX3_clock 51 = .ok (.iload_n 2, 1) := by decide +kernel
theorem dX3_clock_52 : decode cX3_clock 52 = .ok (.iadd, 1) := by decide +kernel
theorem dX3_clock_53 : decode cX3_clock 53 = .ok (.istore 5, 2) := by decide +kernel
theorem dX3_clock_55 : decode cX3_clock 55 = .ok (.iload_n 3, 1) := by decide +kernel
theorem dX3_clock_56 : decode cX3_clock 56 = .ok (.ifCond .ne 13, 3) := by decide +kernel
theorem dX3_clock_59 : decode cX3_clock 59 = .ok (.aload_n 0, 1) := by decide +kernel
theorem dX3_clock_60 : decode cX3_clock 60 = .ok (.getfield 66, 3) := by decide +kernel
theorem dX3_clock_63 : decode cX3_clock 63 = .ok (.iload 5, 2) := by decide +kernel
theorem dX3_clock_65 : decode cX3_clock 65 = .ok (.iaload, 1) := by decide +kernel
theorem dX3_clock_66 : decode cX3_clock 66 = .ok (.goto 10, 3) := by decide +kernel
theorem dX3_clock_69 : decode cX3_clock 69 = .ok (.aload_n 0, 1) := by decide +kernel
theorem dX3_clock_70 : decode cX3_clock 70 = .ok (.getfield 69, 3) := by decide +kernel
theorem dX3_clock_73 : decode cX3_clock 73 = .ok (.iload 5, 2) := by decide +kernel
theorem dX3_clock_75 : decode cX3_clock 75 = .ok (.iaload, 1) := by decide +kernel
theorem dX3_clock_76 : decode cX3_clock 76 = .ok (.istore 6, 2) := by decide +kernel
theorem dX3_clock_78 : decode cX3_clock 78 = .ok (.iload_n 3, 1) := by decide +kernel
theorem dX3_clock_79 : decode cX3_clock 79 = .ok (.ifCond .ne 15, 3) := by decide +kernel
theorem dX3_clock_82 : decode cX3_clock 82 = .ok (.aload_n 0, 1) := by decide +kernel
theorem dX3_clock_83 : decode cX3_clock 83 = .ok (.getfield 66, 3) := by decide +kernel
theorem dX3_clock_86 : decode cX3_clock 86 = .ok (.iload 5, 2) := by decide +kernel
theorem dX3_clock_88 : decode cX3_clock 88 = .ok (.iload 4, 2) := by decide +kernel
theorem dX3_clock_90 : decode cX3_clock 90 = .ok (.iastore, 1) := by decide +kernel
theorem dX3_clock_91 : decode cX3_clock 91 = .ok (.goto 12, 3) := by decide +kernel
theorem dX3_clock_94 : decode cX3_clock 94 = .ok (.aload_n 0, 1) := by decide +kernel
theorem dX3_clock_95 : decode cX3_clock 95 = .ok (.getfield 69, 3) := by decide +kernel
theorem dX3_clock_98 : decode cX3_clock 98 = .ok (.iload 5, 2) := by decide +kernel
theorem dX3_clock_100 : decode cX3_clock 100 = .ok (.iload 4, 2) := by decide +kernel
theorem dX3_clock_102 : decode cX3_clock 102 = .ok (.iastore, 1) := by decide +kernel
theorem dX3_clock_103 : decode cX3_clock 103 = .ok (.iload 6, 2) := by decide +kernel
theorem dX3_clock_105 : decode cX3_clock 105 = .ok (.ireturn, 1) := by decide +kernel
theorem dX3_warm_0 : decode cX3_warm 0 = .ok (.iload_n 1, 1) := by decide +kernel
theorem dX3_warm_1 : decode cX3_warm 1 = .ok (.invokestatic 146, 3) := by decide +kernel
theorem dX3_warm_4 : decode cX3_warm 4 = .ok (.ifCond .ne 5, 3) := by decide +kernel
theorem dX3_warm_7 : decode cX3_warm 7 = .ok (.iconst (-1), 1) := by decide +kernel
theorem dX3_warm_8 : decode cX3_warm 8 = .ok (.ireturn, 1) := by decide +kernel
theorem dX3_warm_9 : decode cX3_warm 9 = .ok (.iload_n 2, 1) := by decide +kernel
theorem dX3_warm_10 : decode cX3_warm 10 = .ok (.iconst 0, 1) := by decide +kernel
theorem dX3_warm_11 : decode cX3_warm 11 = .ok (.bipush 9, 2) := by decide +kernel
theorem dX3_warm_13 : decode cX3_warm 13 = .ok (.invokestatic 111, 3) := by decide +kernel
theorem dX3_warm_16 : decode cX3_warm 16 = .ok (.ifCond .ne 6, 3) := by decide +kernel
theorem dX3_warm_19 : decode cX3_warm 19 = .ok (.bipush (-2), 2) := by decide +kernel
theorem dX3_warm_21 : decode cX3_warm 21 = .ok (.ireturn, 1) := by decide +kernel
theorem dX3_warm_22 : decode cX3_warm 22 = .ok (.aload_n 0, 1) := by decide +kernel
theorem dX3_warm_23 : decode cX3_warm 23 = .ok (.getfield 42, 3) := by decide +kernel
theorem dX3_warm_26 : decode cX3_warm 26 = .ok (.iload_n 1, 1) := by decide +kernel
theorem dX3_warm_27 : decode cX3_warm 27 = .ok (.iaload, 1) := by decide +kernel
theorem dX3_warm_28 : decode cX3_warm 28 = .ok (.istore_n 3, 1) := by decide +kernel
theorem dX3_warm_29 : decode cX3_warm 29 = .ok (.aload_n 0, 1) := by decide +kernel
theorem dX3_warm_30 : decode cX3_warm 30 = .ok (.getfield 42, 3) := by decide +kernel
theorem dX3_warm_33 : decode cX3_warm 33 = .ok (.iload_n 1, 1) := by decide +kernel
theorem dX3_warm_34 : decode cX3_warm 34 = .ok (.iload_n 2, 1) := by decide +kernel
theorem dX3_warm_35 : decode cX3_warm 35 = .ok (.iastore, 1) := by decide +kernel
theorem dX3_warm_36 : decode cX3_warm 36 = .ok (.iload_n 3, 1) := by decide +kernel
theorem dX3_warm_37 : decode cX3_warm 37 = .ok (.ireturn, 1) := by decide +kernel
theorem dX3_doesCount_0 : decode cX3_doesCount 0 = .ok (.aload_n 0, 1) := by decide +kernel
theorem dX3_doesCount_1 : decode cX3_doesCount 1 = .ok (.getfield 51, 3) := by decide +kernel
theorem dX3_doesCount_4 : decode cX3_doesCount 4 = .ok (.iload_n 2, 1) := by decide +kernel
theorem dX3_doesCount_5 : decode cX3_doesCount 5 = .ok (.iaload, 1) := by decide +kernel
theorem dX3_doesCount_6 : decode cX3_doesCount 6 = .ok (.istore_n 3, 1) := by decide +kernel
theorem dX3_doesCount_7 : decode cX3_doesCount 7 = .ok (.aload_n 0, 1) := by decide +kernel
theorem dX3_doesCount_8 : decode cX3_doesCount 8 = .ok (.getfield 54, 3) := by decide +kernel
theorem dX3_doesCount_11 : decode cX3_doesCount 11 = .ok (.iload_n 2, 1) := by decide +kernel
theorem dX3_doesCount_12 : decode cX3_doesCount 12 = .ok (.iaload, 1) := by decide +kernel
theorem dX3_doesCount_13 : decode cX3_doesCount 13 = .ok (.iconst 3, 1) := by decide +kernel
theorem dX3_doesCount_14 : decode cX3_doesCount 14 = .ok (.if_icmp .eq 34, 3) := by decide +kernel
theorem dX3_doesCount_17 : decode cX3_doesCount 17 = .ok (.iload_n 3, 1) := by decide +kernel
theorem dX3_doesCount_18 : decode cX3_doesCount 18 = .ok (.aload_n 0, 1) := by decide +kernel
theorem dX3_doesCount_19 : decode cX3_doesCount 19 = .ok (.getfield 93, 3) := by decide +kernel
theorem dX3_doesCount_22 : decode cX3_doesCount 22 = .ok (.if_icmp .eq 30, 3) := by decide +kernel
theorem dX3_doesCount_25 : decode cX3_doesCount 25 = .ok (.aload_n 0, 1) := by decide +kernel
theorem dX3_doesCount_26 : decode cX3_doesCount 26 = .ok (.getfield 38, 3) := by decide +kernel
theorem dX3_doesCount_29 : decode cX3_doesCount 29 = .ok (.iload_n 3, 1) := by decide +kernel
theorem dX3_doesCount_30 : decode cX3_doesCount 30 = .ok (.baload, 1) := by decide +kernel
theorem dX3_doesCount_31 : decode cX3_doesCount 31 = .ok (.ifCond .eq 17, 3) := by decide +kernel
theorem dX3_doesCount_34 : decode cX3_doesCount 34 = .ok (.aload_n 0, 1) := by decide +kernel
theorem dX3_doesCount_35 : decode cX3_doesCount 35 = .ok (.getfield 63, 3) := by decide +kernel
theorem dX3_doesCount_38 : decode cX3_doesCount 38 = .ok (.bipush 20, 2) := by decide +kernel
theorem dX3_doesCount_40 : decode cX3_doesCount 40 = .ok (.iload_n 1, 1) := by decide +kernel
theorem dX3_doesCount_41 : decode cX3_doesCount 41 = .ok (.imul, 1) := by decide +kernel
theorem dX3_doesCount_42 : decode cX3_doesCount 42 = .ok (.iload_n 3, 1) := by decide +kernel
theorem dX3_doesCount_43 : decode cX3_doesCount 43 = .ok (.iadd, 1) := by decide +kernel
theorem dX3_doesCount_44 : decode cX3_doesCount 44 = .ok (.baload, 1) := by decide +kernel
theorem dX3_doesCount_45 : decode cX3_doesCount 45 = .ok (.ifCond .ne 7, 3) := by decide +kernel
theorem dX3_doesCount_48 : decode cX3_doesCount 48 = .ok (.iconst 1, 1) := by decide +kernel
theorem dX3_doesCount_49 : decode cX3_doesCount 49 = .ok (.goto 4, 3) := by decide +kernel
theorem dX3_doesCount_52 : decode cX3_doesCount 52 = .ok (.iconst 0, 1) := by decide +kernel
theorem dX3_doesCount_53 : decode cX3_doesCount 53 = .ok (.ireturn, 1) := by decide +kernel
theorem dX3_lay_0 : decode cX3_lay 0 = .ok (.aload_n 0, 1) := by decide +kernel
theorem dX3_lay_1 : decode cX3_lay 1 = .ok (.ldc 106, 2) := by decide +kernel
theorem dX3_lay_3 : decode cX3_lay 3 = .ok (.bipush 99, 2) := by decide +kernel
theorem dX3_lay_5 : decode cX3_lay 5 = .ok (.invokevirtual 136, 3) := by decide +kernel
theorem dX3_lay_8 : decode cX3_lay 8 = .ok (.iconst 1, 1) := by decide +kernel
theorem dX3_lay_9 : decode cX3_lay 9 = .ok (.istore_n 3, 1) := by decide +kernel
theorem dX3_lay_10 : decode cX3_lay 10 = .ok (.iload_n 3, 1) := by decide +kernel
theorem dX3_lay_11 : decode cX3_lay 11 = .ok (.bipush 20, 2) := by decide +kernel
theorem dX3_lay_13 : decode cX3_lay 13 = .ok (.if_icmp .ge 45, 3) := by decide +kernel
theorem dX3_lay_16 : decode cX3_lay 16 = .ok (.aload_n 0, 1) := by decide +kernel
theorem dX3_lay_17 : decode cX3_lay 17 = .ok (.getfield 90, 3) := by decide +kernel
theorem dX3_lay_20 : decode cX3_lay 20 = .ok (.iload_n 3, 1) := by decide +kernel
theorem dX3_lay_21 : decode cX3_lay 21 = .ok (.aload_n 0, 1) := by decide +kernel
theorem dX3_lay_22 : decode cX3_lay 22 = .ok (.getfield 90, 3) := by decide +kernel
theorem dX3_lay_25 : decode cX3_lay 25 = .ok (.iload_n 3, 1) := by decide +kernel
theorem dX3_lay_26 : decode cX3_lay 26 = .ok (.iconst 1, 1) := by decide +kernel
theorem dX3_lay_27 : decode cX3_lay 27 = .ok (.isub, 1) := by decide +kernel
theorem dX3_lay_28 : decode cX3_lay 28 = .ok (.iaload, 1) := by decide +kernel
theorem dX3_lay_29 : decode cX3_lay 29 = .ok (.aload_n 0, 1) := by decide +kernel
theorem dX3_lay_30 : decode cX3_lay 30 = .ok (.getfield 66, 3) := by decide +kernel
theorem dX3_lay_33 : decode cX3_lay 33 = .ok (.iconst 3, 1) := by decide +kernel
theorem dX3_lay_34 : decode cX3_lay 34 = .ok (.iload_n 1, 1) := by decide +kernel
theorem dX3_lay_35 : decode cX3_lay 35 = .ok (.imul, 1) := by decide +kernel
theorem dX3_lay_36 : decode cX3_lay 36 = .ok (.iload_n 2, 1) := by decide +kernel
theorem dX3_lay_37 : decode cX3_lay 37 = .ok (.iadd, 1) := by decide +kernel
theorem dX3_lay_38 : decode cX3_lay 38 = .ok (.iaload, 1) := by decide +kernel
theorem dX3_lay_39 : decode cX3_lay 39 = .ok (.aload_n 0, 1) := by decide +kernel
theorem dX3_lay_40 : decode cX3_lay 40 = .ok (.getfield 42, 3) := by decide +kernel
theorem dX3_lay_43 : decode cX3_lay 43 = .ok (.iload_n 3, 1) := by decide +kernel
theorem dX3_lay_44 : decode cX3_lay 44 = .ok (.iconst 1, 1) := by decide +kernel
theorem dX3_lay_45 : decode cX3_lay 45 = .ok (.isub, 1) := by decide +kernel
theorem dX3_lay_46 : decode cX3_lay 46 = .ok (.iaload, 1) := by decide +kernel
theorem dX3_lay_47 : decode cX3_lay 47 = .ok (.iconst 5, 1) := by decide +kernel
theorem dX3_lay_48 : decode cX3_lay 48 = .ok (.isub, 1) := by decide +kernel
theorem dX3_lay_49 : decode cX3_lay 49 = .ok (.imul, 1) := by decide +kernel
theorem dX3_lay_50 : decode cX3_lay 50 = .ok (.iadd, 1) := by decide +kernel
theorem dX3_lay_51 : decode cX3_lay 51 = .ok (.iastore, 1) := by decide +kernel
theorem dX3_lay_52 : decode cX3_lay 52 = .ok (.iinc 3 1, 3) := by decide +kernel
theorem dX3_lay_55 : decode cX3_lay 55 = .ok (.goto (-45), 3) := by decide +kernel
theorem dX3_lay_58 : decode cX3_lay 58 = .ok (.iconst 0, 1) := by decide +kernel
theorem dX3_lay_59 : decode cX3_lay 59 = .ok (.istore_n 3, 1) := by decide +kernel
theorem dX3_lay_60 : decode cX3_lay 60 = .ok (.iload_n 3, 1) := by decide +kernel
theorem dX3_lay_61 : decode cX3_lay 61 = .ok (.aload_n 0, 1) := by decide +kernel
theorem dX3_lay_62 : decode cX3_lay 62 = .ok (.getfield 45, 3) := by decide +kernel
theorem dX3_lay_65 : decode cX3_lay 65 = .ok (.iload_n 1, 1) := by decide +kernel
theorem dX3_lay_66 : decode cX3_lay 66 = .ok (.iaload, 1) := by decide +kernel
theorem dX3_lay_67 : decode cX3_lay 67 = .ok (.if_icmp .ge 206, 3) := by decide +kernel
theorem dX3_lay_70 : decode cX3_lay 70 = .ok (.bipush 12, 2) := by decide +kernel
theorem dX3_lay_72 : decode cX3_lay 72 = .ok (.iload_n 1, 1) := by decide +kernel
theorem dX3_lay_73 : decode cX3_lay 73 = .ok (.imul, 1) := by decide +kernel
theorem dX3_lay_74 : decode cX3_lay 74 = .ok (.iload_n 3, 1) := by decide +kernel
theorem dX3_lay_75 : decode cX3_lay 75 = .ok (.iadd, 1) := by decide +kernel
theorem dX3_lay_76 : decode cX3_lay 76 = .ok (.istore 4, 2) := by decide +kernel
theorem dX3_lay_78 : decode cX3_lay 78 = .ok (.aload_n 0, 1) := by decide +kernel
theorem dX3_lay_79 : decode cX3_lay 79 = .ok (.getfield 48, 3) := by decide +kernel
theorem dX3_lay_82 : decode cX3_lay 82 = .ok (.iload 4, 2) := by decide +kernel
theorem dX3_lay_84 : decode cX3_lay 84 = .ok (.iaload, 1) := by decide +kernel
theorem dX3_lay_85 : decode cX3_lay 85 = .ok (.iload_n 2, 1) := by decide +kernel
theorem dX3_lay_86 : decode cX3_lay 86 = .ok (.if_icmp .ne 181, 3) := by decide +kernel
theorem dX3_lay_89 : decode cX3_lay 89 = .ok (.aload_n 0, 1) := by decide +kernel
theorem dX3_lay_90 : decode cX3_lay 90 = .ok (.iload_n 1, 1) := by decide +kernel
theorem dX3_lay_91 : decode cX3_lay 91 = .ok (.iload 4, 2) := by decide +kernel
theorem dX3_lay_93 : decode cX3_lay 93 = .ok (.invokevirtual 171, 3) := by decide +kernel
theorem dX3_lay_96 : decode cX3_lay 96 = .ok (.ifCond .eq 171, 3) := by decide +kernel
theorem dX3_lay_99 : decode cX3_lay 99 = .ok (.aload_n 0, 1) := by decide +kernel
theorem dX3_lay_100 : decode cX3_lay 100 = .ok (.getfield 51, 3) := by decide +kernel
theorem dX3_lay_103 : decode cX3_lay 103 = .ok (.iload 4, 2) := by decide +kernel
theorem dX3_lay_105 : decode cX3_lay 105 = .ok (.iaload, 1) := by decide +kernel
theorem dX3_lay_106 : decode cX3_lay 106 = .ok (.istore 5, 2) := by decide +kernel
theorem dX3_lay_108 : decode cX3_lay 108 = .ok (.aload_n 0, 1) := by decide +kernel
theorem dX3_lay_109 : decode cX3_lay 109 = .ok (.getfield 57, 3) := by decide +kernel
theorem dX3_lay_112 : decode cX3_lay 112 = .ok (.iload 4, 2) := by decide +kernel
theorem dX3_lay_114 : decode cX3_lay 114 = .ok (.iaload, 1) := by decide +kernel
theorem dX3_lay_115 : decode cX3_lay 115 = .ok (.istore 6, 2) := by decide +kernel
theorem dX3_lay_117 : decode cX3_lay 117 = .ok (.aload_n 0, 1) := by decide +kernel
theorem dX3_lay_118 : decode cX3_lay 118 = .ok (.getfield 54, 3) := by decide +kernel
theorem dX3_lay_121 : decode cX3_lay 121 = .ok (.iload 4, 2) := by decide +kernel
theorem dX3_lay_123 : decode cX3_lay 123 = .ok (.iaload, 1) := by decide +kernel
theorem dX3_lay_124 : decode cX3_lay 124 = .ok (.istore 7, 2) := by decide +kernel
theorem dX3_lay_126 : decode cX3_lay 126 = .ok (.iload 7, 2) := by decide +kernel
theorem dX3_lay_128 : decode cX3_lay 128 = .ok (.iconst 3, 1) := by decide +kernel
theorem dX3_lay_129 : decode cX3_lay 129 = .ok (.if_icmp .ne 40, 3) := by decide +kernel
theorem dX3_lay_132 : decode cX3_lay 132 = .ok (.aload_n 0, 1) := by decide +kernel
theorem dX3_lay_133 : decode cX3_lay 133 = .ok (.iload 5, 2) := by decide +kernel
theorem dX3_lay_135 : decode cX3_lay 135 = .ok (.aload_n 0, 1) := by decide +kernel
theorem dX3_lay_136 : decode cX3_lay 136 = .ok (.getfield 60, 3) := by decide +kernel
theorem dX3_lay_139 : decode cX3_lay 139 = .ok (.iload 4, 2) := by decide +kernel
theorem dX3_lay_141 : decode cX3_lay 141 = .ok (.iaload, 1) := by decide +kernel
theorem dX3_lay_142 : decode cX3_lay 142 = .ok (.iconst 4, 1) := by decide +kernel
theorem dX3_lay_143 : decode cX3_lay 143 = .ok (.iload 6, 2) := by decide +kernel
theorem dX3_lay_145 : decode cX3_lay 145 = .ok (.imul, 1) := by decide +kernel
theorem dX3_lay_146 : decode cX3_lay 146 = .ok (.isub, 1) := by decide +kernel
theorem dX3_lay_147 : decode cX3_lay 147 = .ok (.iconst 4, 1) := by decide +kernel
theorem dX3_lay_148 : decode cX3_lay 148 = .ok (.isub, 1) := by decide +kernel
theorem dX3_lay_149 : decode cX3_lay 149 = .ok (.aload_n 0, 1) := by decide +kernel
theorem dX3_lay_150 : decode cX3_lay 150 = .ok (.getfield 60, 3) := by decide +kernel
theorem dX3_lay_153 : decode cX3_lay 153 = .ok (.iload 4, 2) := by decide +kernel
theorem dX3_lay_155 : decode cX3_lay 155 = .ok (.iaload, 1) := by decide +kernel
theorem dX3_lay_156 : decode cX3_lay 156 = .ok (.iconst 4, 1) := by decide +kernel
theorem dX3_lay_157 : decode cX3_lay 157 = .ok (.iload 6, 2) := by decide +kernel
theorem dX3_lay_159 : decode cX3_lay 159 = .ok (.imul, 1) := by decide +kernel
theorem dX3_lay_160 : decode cX3_lay 160 = .ok (.isub, 1) := by decide +kernel
theorem dX3_lay_161 : decode cX3_lay 161 = .ok (.iconst 4, 1) := by decide +kernel
theorem dX3_lay_162 : decode cX3_lay 162 = .ok (.iadd, 1) := by decide +kernel
theorem dX3_lay_163 : decode cX3_lay 163 = .ok (.invokevirtual 129, 3) := by decide +kernel
theorem dX3_lay_166 : decode cX3_lay 166 = .ok (.goto 101, 3) := by decide +kernel
theorem dX3_lay_169 : decode cX3_lay 169 = .ok (.iload 7, 2) := by decide +kernel
theorem dX3_lay_171 : decode cX3_lay 171 = .ok (.ifCond .ne 8, 3) := by decide +kernel
theorem dX3_lay_174 : decode cX3_lay 174 = .ok (.bipush (-2), 2) := by decide +kernel
theorem dX3_lay_176 : decode cX3_lay 176 = .ok (.goto 19, 3) := by decide +kernel
theorem dX3_lay_179 : decode cX3_lay 179 = .ok (.iload 7, 2) := by decide +kernel
theorem dX3_lay_181 : decode cX3_lay 181 = .ok (.iconst 1, 1) := by decide +kernel
theorem dX3_lay_182 : decode cX3_lay 182 = .ok (.if_icmp .ne 7, 3) := by decide +kernel
theorem dX3_lay_185 : decode cX3_lay 185 = .ok (.iconst (-1), 1) := by decide +kernel
theorem dX3_lay_186 : decode cX3_lay 186 = .ok (.goto 9, 3) := by decide +kernel
theorem dX3_lay_189 : decode cX3_lay 189 = .ok (.iconst 5, 1) := by decide +kernel
theorem dX3_lay_190 : decode cX3_lay 190 = .ok (.iload 6, 2) := by decide +kernel
theorem dX3_lay_192 : decode cX3_lay 192 = .ok (.imul, 1) := by decide +kernel
theorem dX3_lay_193 : decode cX3_lay 193 = .ok (.iconst 3, 1) := by decide +kernel
theorem dX3_lay_194 : decode cX3_lay 194 = .ok (.isub, 1) := by decide +kernel
theorem dX3_lay_195 : decode cX3_lay 195 = .ok (.istore 8, 2) := by decide +kernel
theorem dX3_lay_197 : decode cX3_lay 197 = .ok (.iload 7, 2) := by decide +kernel
theorem dX3_lay_199 : decode cX3_lay 199 = .ok (.ifCond .ne 7, 3) := by decide +kernel
theorem dX3_lay_202 : decode cX3_lay 202 = .ok (.iconst 2, 1) := by decide +kernel
theorem dX3_lay_203 : decode cX3_lay 203 = .ok (.goto 20, 3) := by decide +kernel
theorem dX3_lay_206 : decode cX3_lay 206 = .ok (.iload 7, 2) := by decide +kernel
theorem dX3_lay_208 : decode cX3_lay 208 = .ok (.iconst 1, 1) := by decide +kernel
theorem dX3_lay_209 : decode cX3_lay 209 = .ok (.if_icmp .ne 7, 3) := by decide +kernel
theorem dX3_lay_212 : decode cX3_lay 212 = .ok (.iconst 1, 1) := by decide +kernel
theorem dX3_lay_213 : decode cX3_lay 213 = .ok (.goto 10, 3) := by decide +kernel
theorem dX3_lay_216 : decode cX3_lay 216 = .ok (.bipush 7, 2) := by decide +kernel
theorem dX3_lay_218 : decode cX3_lay 218 = .ok (.iload 6, 2) := by decide +kernel
theorem dX3_lay_220 : decode cX3_lay 220 = .ok (.imul, 1) := by decide +kernel
theorem dX3_lay_221 : decode cX3_lay 221 = .ok (.iconst 3, 1) := by decide +kernel
theorem dX3_lay_222 : decode cX3_lay 222 = .ok (.iadd, 1) := by decide +kernel
theorem dX3_lay_223 : decode cX3_lay 223 = .ok (.istore 9, 2) := by decide +kernel
theorem dX3_lay_225 : decode cX3_lay 225 = .ok (.aload_n 0, 1) := by decide +kernel
theorem dX3_lay_226 : decode cX3_lay 226 = .ok (.iload 5, 2) := by decide +kernel
theorem dX3_lay_228 : decode cX3_lay 228 = .ok (.aload_n 0, 1) := by decide +kernel
theorem dX3_lay_229 : decode cX3_lay 229 = .ok (.getfield 60, 3) := by decide +kernel
theorem dX3_lay_232 : decode cX3_lay 232 = .ok (.iload 4, 2) := by decide +kernel
theorem dX3_lay_234 : decode cX3_lay 234 = .ok (.iaload, 1) := by decide +kernel
theorem dX3_lay_235 : decode cX3_lay 235 = .ok (.aload_n 0, 1) := by decide +kernel
theorem dX3_lay_236 : decode cX3_lay 236 = .ok (.iload 5, 2) := by decide +kernel
theorem dX3_lay_238 : decode cX3_lay 238 = .ok (.iconst 1, 1) := by decide +kernel
theorem dX3_lay_239 : decode cX3_lay 239 = .ok (.invokevirtual 155, 3) := by decide +kernel
theorem dX3_lay_242 : decode cX3_lay 242 = .ok (.isub, 1) := by decide +kernel
theorem dX3_lay_243 : decode cX3_lay 243 = .ok (.iload 9, 2) := by decide +kernel
theorem dX3_lay_245 : decode cX3_lay 245 = .ok (.isub, 1) := by decide +kernel
theorem dX3_lay_246 : decode cX3_lay 246 = .ok (.aload_n 0, 1) := by decide +kernel
theorem dX3_lay_247 : decode cX3_lay 247 = .ok (.getfield 60, 3) := by decide +kernel
theorem dX3_lay_250 : decode cX3_lay 250 = .ok (.iload 4, 2) := by decide +kernel
theorem dX3_lay_252 : decode cX3_lay 252 = .ok (.iaload, 1) := by decide +kernel
theorem dX3_lay_253 : decode cX3_lay 253 = .ok (.aload_n 0, 1) := by decide +kernel
theorem dX3_lay_254 : decode cX3_lay 254 = .ok (.iload 5, 2) := by decide +kernel
theorem dX3_lay_256 : decode cX3_lay 256 = .ok (.iconst 0, 1) := by decide +kernel
theorem dX3_lay_257 : decode cX3_lay 257 = .ok (.invokevirtual 155, 3) := by decide +kernel
theorem dX3_lay_260 : decode cX3_lay 260 = .ok (.isub, 1) := by decide +kernel
theorem dX3_lay_261 : decode cX3_lay 261 = .ok (.iload 8, 2) := by decide +kernel
theorem dX3_lay_263 : decode cX3_lay 263 = .ok (.isub, 1) := by decide +kernel
theorem dX3_lay_264 : decode cX3_lay 264 = .ok (.invokevirtual 129, 3) := by decide +kernel
theorem dX3_lay_267 : decode cX3_lay 267 = .ok (.iinc 3 1, 3) := by decide +kernel
theorem dX3_lay_270 : decode cX3_lay 270 = .ok (.goto (-210), 3) := by decide +kernel
theorem dX3_lay_273 : decode cX3_lay 273 = .ok (.aload_n 0, 1) := by decide +kernel
theorem dX3_lay_274 : decode cX3_lay 274 = .ok (.invokevirtual 143, 3) := by decide +kernel
theorem dX3_lay_277 : decode cX3_lay 277 = .ok (.ireturn, 1) := by decide +kernel
theorem dX3_jumped_0 : decode cX3_jumped 0 = .ok (.aload_n 0, 1) := by decide +kernel
theorem dX3_jumped_1 : decode cX3_jumped 1 = .ok (.iload_n 1, 1) := by decide +kernel
theorem dX3_jumped_2 : decode cX3_jumped 2 = .ok (.invokevirtual 158, 3) := by decide +kernel
theorem dX3_jumped_5 : decode cX3_jumped 5 = .ok (.ifCond .eq 10, 3) := by decide +kernel
theorem dX3_jumped_8 : decode cX3_jumped 8 = .ok (.iload_n 2, 1) := by decide +kernel
theorem dX3_jumped_9 : decode cX3_jumped 9 = .ok (.invokestatic 161, 3) := by decide +kernel
theorem dX3_jumped_12 : decode cX3_jumped 12 = .ok (.ifCond .ne 5, 3) := by decide +kernel
theorem dX3_jumped_15 : decode cX3_jumped 15 = .ok (.iconst (-1), 1) := by decide +kernel
theorem dX3_jumped_16 : decode cX3_jumped 16 = .ok (.ireturn, 1) := by decide +kernel
theorem dX3_jumped_17 : decode cX3_jumped 17 = .ok (.aload_n 0, 1) := by decide +kernel
theorem dX3_jumped_18 : decode cX3_jumped 18 = .ok (.iload_n 1, 1) := by decide +kernel
theorem dX3_jumped_19 : decode cX3_jumped 19 = .ok (.iload_n 2, 1) := by decide +kernel
theorem dX3_jumped_20 : decode cX3_jumped 20 = .ok (.invokevirtual 175, 3) := by decide +kernel
theorem dX3_jumped_23 : decode cX3_jumped 23 = .ok (.ifCond .eq 7, 3) := by decide +kernel
theorem dX3_jumped_26 : decode cX3_jumped 26 = .ok (.iconst 0, 1) := by decide +kernel
theorem dX3_jumped_27 : decode cX3_jumped 27 = .ok (.goto 4, 3) := by decide +kernel
theorem dX3_jumped_30 : decode cX3_jumped 30 = .ok (.iconst 1, 1) := by decide +kernel
theorem dX3_jumped_31 : decode cX3_jumped 31 = .ok (.ireturn, 1) := by decide +kernel
theorem dX3_ahead_0 : decode cX3_ahead 0 = .ok (.aload_n 0, 1) := by decide +kernel
theorem dX3_ahead_1 : decode cX3_ahead 1 = .ok (.iload_n 1, 1) := by decide +kernel
theorem dX3_ahead_2 : decode cX3_ahead 2 = .ok (.iload_n 2, 1) := by decide +kernel
theorem dX3_ahead_3 : decode cX3_ahead 3 = .ok (.iload_n 3, 1) := by decide +kernel
theorem dX3_ahead_4 : decode cX3_ahead 4 = .ok (.invokevirtual 164, 3) := by decide +kernel
theorem dX3_ahead_7 : decode cX3_ahead 7 = .ok (.ifCond .ne 6, 3) := by decide +kernel
theorem dX3_ahead_10 : decode cX3_ahead 10 = .ok (.ldc 150, 2) := by decide +kernel
theorem dX3_ahead_12 : decode cX3_ahead 12 = .ok (.ireturn, 1) := by decide +kernel
theorem dX3_ahead_13 : decode cX3_ahead 13 = .ok (.iload 4, 2) := by decide +kernel
theorem dX3_ahead_15 : decode cX3_ahead 15 = .ok (.invokestatic 151, 3) := by decide +kernel
theorem dX3_ahead_18 : decode cX3_ahead 18 = .ok (.ifCond .ne 6, 3) := by decide +kernel
theorem dX3_ahead_21 : decode cX3_ahead 21 = .ok (.ldc 154, 2) := by decide +kernel
theorem dX3_ahead_23 : decode cX3_ahead 23 = .ok (.ireturn, 1) := by decide +kernel
theorem dX3_ahead_24 : decode cX3_ahead 24 = .ok (.aload_n 0, 1) := by decide +kernel
theorem dX3_ahead_25 : decode cX3_ahead 25 = .ok (.iload_n 1, 1) := by decide +kernel
theorem dX3_ahead_26 : decode cX3_ahead 26 = .ok (.iload_n 2, 1) := by decide +kernel
theorem dX3_ahead_27 : decode cX3_ahead 27 = .ok (.invokevirtual 175, 3) := by decide +kernel
theorem dX3_ahead_30 : decode cX3_ahead 30 = .ok (.ifCond .ne 8, 3) := by decide +kernel
theorem dX3_ahead_33 : decode cX3_ahead 33 = .ok (.ldc 178, 2) := by decide +kernel
theorem dX3_ahead_35 : decode cX3_ahead 35 = .ok (.goto 23, 3) := by decide +kernel
theorem dX3_ahead_38 : decode cX3_ahead 38 = .ok (.iload 4, 2) := by decide +kernel
theorem dX3_ahead_40 : decode cX3_ahead 40 = .ok (.ifCond .ne 12, 3) := by decide +kernel
theorem dX3_ahead_43 : decode cX3_ahead 43 = .ok (.aload_n 0, 1) := by decide +kernel
theorem dX3_ahead_44 : decode cX3_ahead 44 = .ok (.getfield 84, 3) := by decide +kernel
theorem dX3_ahead_47 : decode cX3_ahead 47 = .ok (.iload_n 3, 1) := by decide +kernel
theorem dX3_ahead_48 : decode cX3_ahead 48 = .ok (.iaload, 1) := by decide +kernel
theorem dX3_ahead_49 : decode cX3_ahead 49 = .ok (.goto 9, 3) := by decide +kernel
theorem dX3_ahead_52 : decode cX3_ahead 52 = .ok (.aload_n 0, 1) := by decide +kernel
theorem dX3_ahead_53 : decode cX3_ahead 53 = .ok (.getfield 87, 3) := by decide +kernel
theorem dX3_ahead_56 : decode cX3_ahead 56 = .ok (.iload_n 3, 1) := by decide +kernel
theorem dX3_ahead_57 : decode cX3_ahead 57 = .ok (.iaload, 1) := by decide +kernel
theorem dX3_ahead_58 : decode cX3_ahead 58 = .ok (.ireturn, 1) := by decide +kernel
theorem dX3_gains_0 : decode cX3_gains 0 = .ok (.aload_n 0, 1) := by decide +kernel
theorem dX3_gains_1 : decode cX3_gains 1 = .ok (.iload_n 1, 1) := by decide +kernel
theorem dX3_gains_2 : decode cX3_gains 2 = .ok (.invokevirtual 158, 3) := by decide +kernel
theorem dX3_gains_5 : decode cX3_gains 5 = .ok (.ifCond .eq 10, 3) := by decide +kernel
theorem dX3_gains_8 : decode cX3_gains 8 = .ok (.iload_n 2, 1) := by decide +kernel
theorem dX3_gains_9 : decode cX3_gains 9 = .ok (.invokestatic 161, 3) := by decide +kernel
theorem dX3_gains_12 : decode cX3_gains 12 = .ok (.ifCond .ne 6, 3) := by decide +kernel
theorem dX3_gains_15 : decode cX3_gains 15 = .ok (.ldc 150, 2) := by decide +kernel
theorem dX3_gains_17 : decode cX3_gains 17 = .ok (.ireturn, 1) := by decide +kernel
theorem dX3_gains_18 : decode cX3_gains 18 = .ok (.iload_n 3, 1) := by decide +kernel
theorem dX3_gains_19 : decode cX3_gains 19 = .ok (.invokestatic 151, 3) := by decide +kernel
theorem dX3_gains_22 : decode cX3_gains 22 = .ok (.ifCond .ne 6, 3) := by decide +kernel
theorem dX3_gains_25 : decode cX3_gains 25 = .ok (.ldc 154, 2) := by decide +kernel
theorem dX3_gains_27 : decode cX3_gains 27 = .ok (.ireturn, 1) := by decide +kernel
theorem dX3_gains_28 : decode cX3_gains 28 = .ok (.aload_n 0, 1) := by decide +kernel
theorem dX3_gains_29 : decode cX3_gains 29 = .ok (.iload_n 1, 1) := by decide +kernel
theorem dX3_gains_30 : decode cX3_gains 30 = .ok (.iload_n 2, 1) := by decide +kernel
theorem dX3_gains_31 : decode cX3_gains 31 = .ok (.invokevirtual 175, 3) := by decide +kernel
theorem dX3_gains_34 : decode cX3_gains 34 = .ok (.ifCond .ne 8, 3) := by decide +kernel
theorem dX3_gains_37 : decode cX3_gains 37 = .ok (.ldc 178, 2) := by decide +kernel
theorem dX3_gains_39 : decode cX3_gains 39 = .ok (.goto 24, 3) := by decide +kernel
theorem dX3_gains_42 : decode cX3_gains 42 = .ok (.iload_n 3, 1) := by decide +kernel
theorem dX3_gains_43 : decode cX3_gains 43 = .ok (.ifCond .ne 13, 3) := by decide +kernel
theorem dX3_gains_46 : decode cX3_gains 46 = .ok (.aload_n 0, 1) := by decide +kernel
theorem dX3_gains_47 : decode cX3_gains 47 = .ok (.getfield 84, 3) := by decide +kernel
theorem dX3_gains_50 : decode cX3_gains 50 = .ok (.bipush 20, 2) := by decide +kernel
theorem dX3_gains_52 : decode cX3_gains 52 = .ok (.iaload, 1) := by decide +kernel
theorem dX3_gains_53 : decode cX3_gains 53 = .ok (.goto 10, 3) := by decide +kernel
theorem dX3_gains_56 : decode cX3_gains 56 = .ok (.aload_n 0, 1) := by decide +kernel
theorem dX3_gains_57 : decode cX3_gains 57 = .ok (.getfield 87, 3) := by decide +kernel
theorem dX3_gains_60 : decode cX3_gains 60 = .ok (.bipush 20, 2) := by decide +kernel
theorem dX3_gains_62 : decode cX3_gains 62 = .ok (.iaload, 1) := by decide +kernel
theorem dX3_gains_63 : decode cX3_gains 63 = .ok (.ireturn, 1) := by decide +kernel
theorem dX3_placeOf_0 : decode cX3_placeOf 0 = .ok (.iload_n 3, 1) := by decide +kernel
theorem dX3_placeOf_1 : decode cX3_placeOf 1 = .ok (.ifCond .ne 18, 3) := by decide +kernel
theorem dX3_placeOf_4 : decode cX3_placeOf 4 = .ok (.iload_n 2, 1) := by decide +kernel
theorem dX3_placeOf_5 : decode cX3_placeOf 5 = .ok (.aload_n 0, 1) := by decide +kernel
theorem dX3_placeOf_6 : decode cX3_placeOf 6 = .ok (.getfield 87, 3) := by decide +kernel
theorem dX3_placeOf_9 : decode cX3_placeOf 9 = .ok (.iload_n 1, 1) := by decide +kernel
theorem dX3_placeOf_10 : decode cX3_placeOf 10 = .ok (.iaload, 1) := by decide +kernel
theorem dX3_placeOf_11 : decode cX3_placeOf 11 = .ok (.isub, 1) := by decide +kernel
theorem dX3_placeOf_12 : decode cX3_placeOf 12 = .ok (.iconst 4, 1) := by decide +kernel
theorem dX3_placeOf_13 : decode cX3_placeOf 13 = .ok (.invokestatic 118, 3) := by decide +kernel
theorem dX3_placeOf_16 : decode cX3_placeOf 16 = .ok (.goto 15, 3) := by decide +kernel
theorem dX3_placeOf_19 : decode cX3_placeOf 19 = .ok (.iload_n 2, 1) := by decide +kernel
theorem dX3_placeOf_20 : decode cX3_placeOf 20 = .ok (.aload_n 0, 1) := by decide +kernel
theorem dX3_placeOf_21 : decode cX3_placeOf 21 = .ok (.getfield 84, 3) := by decide +kernel
theorem dX3_placeOf_24 : decode cX3_placeOf 24 = .ok (.iload_n 1, 1) := by decide +kernel
theorem dX3_placeOf_25 : decode cX3_placeOf 25 = .ok (.iaload, 1) := by decide +kernel
theorem dX3_placeOf_26 : decode cX3_placeOf 26 = .ok (.isub, 1) := by decide +kernel
theorem dX3_placeOf_27 : decode cX3_placeOf 27 = .ok (.iconst 4, 1) := by decide +kernel
theorem dX3_placeOf_28 : decode cX3_placeOf 28 = .ok (.invokestatic 133, 3) := by decide +kernel
theorem dX3_placeOf_31 : decode cX3_placeOf 31 = .ok (.ireturn, 1) := by decide +kernel
theorem dX3_place_0 : decode cX3_place 0 = .ok (.aload_n 0, 1) := by decide +kernel
theorem dX3_place_1 : decode cX3_place 1 = .ok (.iload_n 1, 1) := by decide +kernel
theorem dX3_place_2 : decode cX3_place 2 = .ok (.iload_n 2, 1) := by decide +kernel
theorem dX3_place_3 : decode cX3_place 3 = .ok (.iload_n 3, 1) := by decide +kernel
theorem dX3_place_4 : decode cX3_place 4 = .ok (.invokevirtual 164, 3) := by decide +kernel
theorem dX3_place_7 : decode cX3_place 7 = .ok (.ifCond .ne 6, 3) := by decide +kernel
theorem dX3_place_10 : decode cX3_place 10 = .ok (.ldc 150, 2) := by decide +kernel
theorem dX3_place_12 : decode cX3_place 12 = .ok (.ireturn, 1) := by decide +kernel
theorem dX3_place_13 : decode cX3_place 13 = .ok (.iload 4, 2) := by decide +kernel
theorem dX3_place_15 : decode cX3_place 15 = .ok (.ldc 105, 2) := by decide +kernel
theorem dX3_place_17 : decode cX3_place 17 = .ok (.ldc 106, 2) := by decide +kernel
theorem dX3_place_19 : decode cX3_place 19 = .ok (.invokestatic 111, 3) := by decide +kernel
theorem dX3_place_22 : decode cX3_place 22 = .ok (.ifCond .eq 11, 3) := by decide +kernel
theorem dX3_place_25 : decode cX3_place 25 = .ok (.iload 5, 2) := by decide +kernel
theorem dX3_place_27 : decode cX3_place 27 = .ok (.invokestatic 151, 3) := by decide +kernel
theorem dX3_place_30 : decode cX3_place 30 = .ok (.ifCond .ne 6, 3) := by decide +kernel
theorem dX3_place_33 : decode cX3_place 33 = .ok (.ldc 154, 2) := by decide +kernel
theorem dX3_place_35 : decode cX3_place 35 = .ok (.ireturn, 1) := by decide +kernel
theorem dX3_place_36 : decode cX3_place 36 = .ok (.aload_n 0, 1) := by decide +kernel
theorem dX3_place_37 : decode cX3_place 37 = .ok (.iload_n 1, 1) := by decide +kernel
theorem dX3_place_38 : decode cX3_place 38 = .ok (.iload_n 2, 1) := by decide +kernel
theorem dX3_place_39 : decode cX3_place 39 = .ok (.invokevirtual 175, 3) := by decide +kernel
theorem dX3_place_42 : decode cX3_place 42 = .ok (.ifCond .eq 15, 3) := by decide +kernel
theorem dX3_place_45 : decode cX3_place 45 = .ok (.aload_n 0, 1) := by decide +kernel
theorem dX3_place_46 : decode cX3_place 46 = .ok (.iload_n 3, 1) := by decide +kernel
theorem dX3_place_47 : decode cX3_place 47 = .ok (.iload 4, 2) := by decide +kernel
theorem dX3_place_49 : decode cX3_place 49 = .ok (.iload 5, 2) := by decide +kernel
theorem dX3_place_51 : decode cX3_place 51 = .ok (.invokevirtual 179, 3) := by decide +kernel
theorem dX3_place_54 : decode cX3_place 54 = .ok (.goto 5, 3) := by decide +kernel
theorem dX3_place_57 : decode cX3_place 57 = .ok (.ldc 178, 2) := by decide +kernel
theorem dX3_place_59 : decode cX3_place 59 = .ok (.ireturn, 1) := by decide +kernel
theorem dX3_reads_0 : decode cX3_reads 0 = .ok (.aload_n 0, 1) := by decide +kernel
theorem dX3_reads_1 : decode cX3_reads 1 = .ok (.iload_n 1, 1) := by decide +kernel
theorem dX3_reads_2 : decode cX3_reads 2 = .ok (.invokevirtual 158, 3) := by decide +kernel
theorem dX3_reads_5 : decode cX3_reads 5 = .ok (.ifCond .eq 10, 3) := by decide +kernel
theorem dX3_reads_8 : decode cX3_reads 8 = .ok (.iload_n 2, 1) := by decide +kernel
theorem dX3_reads_9 : decode cX3_reads 9 = .ok (.invokestatic 146, 3) := by decide +kernel
theorem dX3_reads_12 : decode cX3_reads 12 = .ok (.ifCond .ne 5, 3) := by decide +kernel
theorem dX3_reads_15 : decode cX3_reads 15 = .ok (.iconst (-1), 1) := by decide +kernel
theorem dX3_reads_16 : decode cX3_reads 16 = .ok (.ireturn, 1) := by decide +kernel
theorem dX3_reads_17 : decode cX3_reads 17 = .ok (.iload_n 3, 1) := by decide +kernel
theorem dX3_reads_18 : decode cX3_reads 18 = .ok (.ldc 105, 2) := by decide +kernel
theorem dX3_reads_20 : decode cX3_reads 20 = .ok (.ldc 106, 2) := by decide +kernel
theorem dX3_reads_22 : decode cX3_reads 22 = .ok (.invokestatic 111, 3) := by decide +kernel
theorem dX3_reads_25 : decode cX3_reads 25 = .ok (.ifCond .eq 27, 3) := by decide +kernel
theorem dX3_reads_28 : decode cX3_reads 28 = .ok (.iload 4, 2) := by decide +kernel
theorem dX3_reads_30 : decode cX3_reads 30 = .ok (.ldc 105, 2) := by decide +kernel
theorem dX3_reads_32 : decode cX3_reads 32 = .ok (.ldc 106, 2) := by decide +kernel
theorem dX3_reads_34 : decode cX3_reads 34 = .ok (.invokestatic 111, 3) := by decide +kernel
theorem dX3_reads_37 : decode cX3_reads 37 = .ok (.ifCond .eq 15, 3) := by decide +kernel
theorem dX3_reads_40 : decode cX3_reads 40 = .ok (.iload 5, 2) := by decide +kernel
theorem dX3_reads_42 : decode cX3_reads 42 = .ok (.ldc 105, 2) := by decide +kernel
theorem dX3_reads_44 : decode cX3_reads 44 = .ok (.ldc 106, 2) := by decide +kernel
theorem dX3_reads_46 : decode cX3_reads 46 = .ok (.invokestatic 111, 3) := by decide +kernel
theorem dX3_reads_49 : decode cX3_reads 49 = .ok (.ifCond .ne 6, 3) := by decide +kernel
theorem dX3_reads_52 : decode cX3_reads 52 = .ok (.bipush (-2), 2) := by decide +kernel
theorem dX3_reads_54 : decode cX3_reads 54 = .ok (.ireturn, 1) := by decide +kernel
theorem dX3_reads_55 : decode cX3_reads 55 = .ok (.aload_n 0, 1) := by decide +kernel
theorem dX3_reads_56 : decode cX3_reads 56 = .ok (.getfield 72, 3) := by decide +kernel
theorem dX3_reads_59 : decode cX3_reads 59 = .ok (.iload_n 1, 1) := by decide +kernel
theorem dX3_reads_60 : decode cX3_reads 60 = .ok (.iload_n 2, 1) := by decide +kernel
theorem dX3_reads_61 : decode cX3_reads 61 = .ok (.iastore, 1) := by decide +kernel
theorem dX3_reads_62 : decode cX3_reads 62 = .ok (.aload_n 0, 1) := by decide +kernel
theorem dX3_reads_63 : decode cX3_reads 63 = .ok (.getfield 75, 3) := by decide +kernel
theorem dX3_reads_66 : decode cX3_reads 66 = .ok (.iconst 3, 1) := by decide +kernel
theorem dX3_reads_67 : decode cX3_reads 67 = .ok (.iload_n 1, 1) := by decide +kernel
theorem dX3_reads_68 : decode cX3_reads 68 = .ok (.imul, 1) := by decide +kernel
theorem dX3_reads_69 : decode cX3_reads 69 = .ok (.iload_n 3, 1) := by decide +kernel
theorem dX3_reads_70 : decode cX3_reads 70 = .ok (.iastore, 1) := by decide +kernel
theorem dX3_reads_71 : decode cX3_reads 71 = .ok (.aload_n 0, 1) := by decide +kernel
theorem dX3_reads_72 : decode cX3_reads 72 = .ok (.getfield 75, 3) := by decide +kernel
theorem dX3_reads_75 : decode cX3_reads 75 = .ok (.iconst 3, 1) := by decide +kernel
theorem dX3_reads_76 : decode cX3_reads 76 = .ok (.iload_n 1, 1) := by decide +kernel
theorem dX3_reads_77 : decode cX3_reads 77 = .ok (.imul, 1) := by decide +kernel
theorem dX3_reads_78 : decode cX3_reads 78 = .ok (.iconst 1, 1) := by decide +kernel
theorem dX3_reads_79 : decode cX3_reads 79 = .ok (.iadd, 1) := by decide +kernel
theorem dX3_reads_80 : decode cX3_reads 80 = .ok (.iload 4, 2) := by decide +kernel
theorem dX3_reads_82 : decode cX3_reads 82 = .ok (.iastore, 1) := by decide +kernel
theorem dX3_reads_83 : decode cX3_reads 83 = .ok (.aload_n 0, 1) := by decide +kernel
theorem dX3_reads_84 : decode cX3_reads 84 = .ok (.getfield 75, 3) := by decide +kernel
theorem dX3_reads_87 : decode cX3_reads 87 = .ok (.iconst 3, 1) := by decide +kernel
theorem dX3_reads_88 : decode cX3_reads 88 = .ok (.iload_n 1, 1) := by decide +kernel
theorem dX3_reads_89 : decode cX3_reads 89 = .ok (.imul, 1) := by decide +kernel
theorem dX3_reads_90 : decode cX3_reads 90 = .ok (.iconst 2, 1) := by decide +kernel
theorem dX3_reads_91 : decode cX3_reads 91 = .ok (.iadd, 1) := by decide +kernel
theorem dX3_reads_92 : decode cX3_reads 92 = .ok (.iload 5, 2) := by decide +kernel
theorem dX3_reads_94 : decode cX3_reads 94 = .ok (.iastore, 1) := by decide +kernel
theorem dX3_reads_95 : decode cX3_reads 95 = .ok (.iconst 1, 1) := by decide +kernel
theorem dX3_reads_96 : decode cX3_reads 96 = .ok (.ireturn, 1) := by decide +kernel
theorem dX3_layPlaces_0 : decode cX3_layPlaces 0 = .ok (.iconst 0, 1) := by decide +kernel
theorem dX3_layPlaces_1 : decode cX3_layPlaces 1 = .ok (.istore_n 2, 1) := by decide +kernel
theorem dX3_layPlaces_2 : decode cX3_layPlaces 2 = .ok (.iload_n 2, 1) := by decide +kernel
theorem dX3_layPlaces_3 : decode cX3_layPlaces 3 = .ok (.iconst 3, 1) := by decide +kernel
theorem dX3_layPlaces_4 : decode cX3_layPlaces 4 = .ok (.if_icmp .ge 75, 3) := by decide +kernel
theorem dX3_layPlaces_7 : decode cX3_layPlaces 7 = .ok (.aload_n 0, 1) := by decide +kernel
theorem dX3_layPlaces_8 : decode cX3_layPlaces 8 = .ok (.getfield 102, 3) := by decide +kernel
theorem dX3_layPlaces_11 : decode cX3_layPlaces 11 = .ok (.iload_n 2, 1) := by decide +kernel
theorem dX3_layPlaces_12 : decode cX3_layPlaces 12 = .ok (.aload_n 0, 1) := by decide +kernel
theorem dX3_layPlaces_13 : decode cX3_layPlaces 13 = .ok (.iload_n 1, 1) := by decide +kernel
theorem dX3_layPlaces_14 : decode cX3_layPlaces 14 = .ok (.iload_n 2, 1) := by decide +kernel
theorem dX3_layPlaces_15 : decode cX3_layPlaces 15 = .ok (.invokevirtual 175, 3) := by decide +kernel
theorem dX3_layPlaces_18 : decode cX3_layPlaces 18 = .ok (.bastore, 1) := by decide +kernel
theorem dX3_layPlaces_19 : decode cX3_layPlaces 19 = .ok (.aload_n 0, 1) := by decide +kernel
theorem dX3_layPlaces_20 : decode cX3_layPlaces 20 = .ok (.getfield 96, 3) := by decide +kernel
theorem dX3_layPlaces_23 : decode cX3_layPlaces 23 = .ok (.iload_n 2, 1) := by decide +kernel
theorem dX3_layPlaces_24 : decode cX3_layPlaces 24 = .ok (.aload_n 0, 1) := by decide +kernel
theorem dX3_layPlaces_25 : decode cX3_layPlaces 25 = .ok (.aload_n 0, 1) := by decide +kernel
theorem dX3_layPlaces_26 : decode cX3_layPlaces 26 = .ok (.getfield 72, 3) := by decide +kernel
theorem dX3_layPlaces_29 : decode cX3_layPlaces 29 = .ok (.iload_n 1, 1) := by decide +kernel
theorem dX3_layPlaces_30 : decode cX3_layPlaces 30 = .ok (.iaload, 1) := by decide +kernel
theorem dX3_layPlaces_31 : decode cX3_layPlaces 31 = .ok (.aload_n 0, 1) := by decide +kernel
theorem dX3_layPlaces_32 : decode cX3_layPlaces 32 = .ok (.getfield 75, 3) := by decide +kernel
theorem dX3_layPlaces_35 : decode cX3_layPlaces 35 = .ok (.iconst 3, 1) := by decide +kernel
theorem dX3_layPlaces_36 : decode cX3_layPlaces 36 = .ok (.iload_n 1, 1) := by decide +kernel
theorem dX3_layPlaces_37 : decode cX3_layPlaces 37 = .ok (.imul, 1) := by decide +kernel
theorem dX3_layPlaces_38 : decode cX3_layPlaces 38 = .ok (.iload_n 2, 1) := by decide +kernel
theorem dX3_layPlaces_39 : decode cX3_layPlaces 39 = .ok (.iadd, 1) := by decide +kernel
theorem dX3_layPlaces_40 : decode cX3_layPlaces 40 = .ok (.iaload, 1) := by decide +kernel
theorem dX3_layPlaces_41 : decode cX3_layPlaces 41 = .ok (.iconst 0, 1) := by decide +kernel
theorem dX3_layPlaces_42 : decode cX3_layPlaces 42 = .ok (.invokevirtual 179, 3) := by decide +kernel
theorem dX3_layPlaces_45 : decode cX3_layPlaces 45 = .ok (.iastore, 1) := by decide +kernel
theorem dX3_layPlaces_46 : decode cX3_layPlaces 46 = .ok (.aload_n 0, 1) := by decide +kernel
theorem dX3_layPlaces_47 : decode cX3_layPlaces 47 = .ok (.getfield 99, 3) := by decide +kernel
theorem dX3_layPlaces_50 : decode cX3_layPlaces 50 = .ok (.iload_n 2, 1) := by decide +kernel
theorem dX3_layPlaces_51 : decode cX3_layPlaces 51 = .ok (.aload_n 0, 1) := by decide +kernel
theorem dX3_layPlaces_52 : decode cX3_layPlaces 52 = .ok (.aload_n 0, 1) := by decide +kernel
theorem dX3_layPlaces_53 : decode cX3_layPlaces 53 = .ok (.getfield 72, 3) := by decide +kernel
theorem dX3_layPlaces_56 : decode cX3_layPlaces 56 = .ok (.iload_n 1, 1) := by decide +kernel
theorem dX3_layPlaces_57 : decode cX3_layPlaces 57 = .ok (.iaload, 1) := by decide +kernel
theorem dX3_layPlaces_58 : decode cX3_layPlaces 58 = .ok (.aload_n 0, 1) := by decide +kernel
theorem dX3_layPlaces_59 : decode cX3_layPlaces 59 = .ok (.getfield 75, 3) := by decide +kernel
theorem dX3_layPlaces_62 : decode cX3_layPlaces 62 = .ok (.iconst 3, 1) := by decide +kernel
theorem dX3_layPlaces_63 : decode cX3_layPlaces 63 = .ok (.iload_n 1, 1) := by decide +kernel
theorem dX3_layPlaces_64 : decode cX3_layPlaces 64 = .ok (.imul, 1) := by decide +kernel
theorem dX3_layPlaces_65 : decode cX3_layPlaces 65 = .ok (.iload_n 2, 1) := by decide +kernel
theorem dX3_layPlaces_66 : decode cX3_layPlaces 66 = .ok (.iadd, 1) := by decide +kernel
theorem dX3_layPlaces_67 : decode cX3_layPlaces 67 = .ok (.iaload, 1) := by decide +kernel
theorem dX3_layPlaces_68 : decode cX3_layPlaces 68 = .ok (.iconst 1, 1) := by decide +kernel
theorem dX3_layPlaces_69 : decode cX3_layPlaces 69 = .ok (.invokevirtual 179, 3) := by decide +kernel
theorem dX3_layPlaces_72 : decode cX3_layPlaces 72 = .ok (.iastore, 1) := by decide +kernel
theorem dX3_layPlaces_73 : decode cX3_layPlaces 73 = .ok (.iinc 2 1, 3) := by decide +kernel
theorem dX3_layPlaces_76 : decode cX3_layPlaces 76 = .ok (.goto (-74), 3) := by decide +kernel
theorem dX3_layPlaces_79 : decode cX3_layPlaces 79 = .ok (.return_, 1) := by decide +kernel
theorem dX3_agrees_0 : decode cX3_agrees 0 = .ok (.aload_n 0, 1) := by decide +kernel
theorem dX3_agrees_1 : decode cX3_agrees 1 = .ok (.ldc 183, 2) := by decide +kernel
theorem dX3_agrees_3 : decode cX3_agrees 3 = .ok (.putfield 184, 3) := by decide +kernel
theorem dX3_agrees_6 : decode cX3_agrees 6 = .ok (.aload_n 0, 1) := by decide +kernel
theorem dX3_agrees_7 : decode cX3_agrees 7 = .ok (.ldc 187, 2) := by decide +kernel
theorem dX3_agrees_9 : decode cX3_agrees 9 = .ok (.putfield 188, 3) := by decide +kernel
theorem dX3_agrees_12 : decode cX3_agrees 12 = .ok (.iconst 1, 1) := by decide +kernel
theorem dX3_agrees_13 : decode cX3_agrees 13 = .ok (.istore_n 2, 1) := by decide +kernel
theorem dX3_agrees_14 : decode cX3_agrees 14 = .ok (.iconst 0, 1) := by decide +kernel
theorem dX3_agrees_15 : decode cX3_agrees 15 = .ok (.istore_n 3, 1) := by decide +kernel
theorem dX3_agrees_16 : decode cX3_agrees 16 = .ok (.iload_n 3, 1) := by decide +kernel
theorem dX3_agrees_17 : decode cX3_agrees 17 = .ok (.iconst 3, 1) := by decide +kernel
theorem dX3_agrees_18 : decode cX3_agrees 18 = .ok (.if_icmp .ge 97, 3) := by decide +kernel
theorem dX3_agrees_21 : decode cX3_agrees 21 = .ok (.iload_n 1, 1) := by decide +kernel
theorem dX3_agrees_22 : decode cX3_agrees 22 = .ok (.iload_n 3, 1) := by decide +kernel
theorem dX3_agrees_23 : decode cX3_agrees 23 = .ok (.ishr, 1) := by decide +kernel
theorem dX3_agrees_24 : decode cX3_agrees 24 = .ok (.iconst 1, 1) := by decide +kernel
theorem dX3_agrees_25 : decode cX3_agrees 25 = .ok (.iand, 1) := by decide +kernel
theorem dX3_agrees_26 : decode cX3_agrees 26 = .ok (.iconst 1, 1) := by decide +kernel
theorem dX3_agrees_27 : decode cX3_agrees 27 = .ok (.if_icmp .ne 82, 3) := by decide +kernel
theorem dX3_agrees_30 : decode cX3_agrees 30 = .ok (.iload_n 2, 1) := by decide +kernel
theorem dX3_agrees_31 : decode cX3_agrees 31 = .ok (.ifCond .eq 16, 3) := by decide +kernel
theorem dX3_agrees_34 : decode cX3_agrees 34 = .ok (.aload_n 0, 1) := by decide +kernel
theorem dX3_agrees_35 : decode cX3_agrees 35 = .ok (.getfield 102, 3) := by decide +kernel
theorem dX3_agrees_38 : decode cX3_agrees 38 = .ok (.iload_n 3, 1) := by decide +kernel
theorem dX3_agrees_39 : decode cX3_agrees 39 = .ok (.baload, 1) := by decide +kernel
theorem dX3_agrees_40 : decode cX3_agrees 40 = .ok (.ifCond .eq 7, 3) := by decide +kernel
theorem dX3_agrees_43 : decode cX3_agrees 43 = .ok (.iconst 1, 1) := by decide +kernel
theorem dX3_agrees_44 : decode cX3_agrees 44 = .ok (.goto 4, 3) := by decide +kernel
theorem dX3_agrees_47 : decode cX3_agrees 47 = .ok (.iconst 0, 1) := by decide +kernel
theorem dX3_agrees_48 : decode cX3_agrees 48 = .ok (.istore_n 2, 1) := by decide +kernel
theorem dX3_agrees_49 : decode cX3_agrees 49 = .ok (.aload_n 0, 1) := by decide +kernel
theorem dX3_agrees_50 : decode cX3_agrees 50 = .ok (.aload_n 0, 1) := by decide +kernel
theorem dX3_agrees_51 : decode cX3_agrees 51 = .ok (.getfield 96, 3) := by decide +kernel
theorem dX3_agrees_54 : decode cX3_agrees 54 = .ok (.iload_n 3, 1) := by decide +kernel
theorem dX3_agrees_55 : decode cX3_agrees 55 = .ok (.iaload, 1) := by decide +kernel
theorem dX3_agrees_56 : decode cX3_agrees 56 = .ok (.aload_n 0, 1) := by decide +kernel
theorem dX3_agrees_57 : decode cX3_agrees 57 = .ok (.getfield 184, 3) := by decide +kernel
theorem dX3_agrees_60 : decode cX3_agrees 60 = .ok (.if_icmp .le 12, 3) := by decide +kernel
theorem dX3_agrees_63 : decode cX3_agrees 63 = .ok (.aload_n 0, 1) := by decide +kernel
theorem dX3_agrees_64 : decode cX3_agrees 64 = .ok (.getfield 96, 3) := by decide +kernel
theorem dX3_agrees_67 : decode cX3_agrees 67 = .ok (.iload_n 3, 1) := by decide +kernel
theorem dX3_agrees_68 : decode cX3_agrees 68 = .ok (.iaload, 1) := by decide +kernel
theorem dX3_agrees_69 : decode cX3_agrees 69 = .ok (.goto 7, 3) := by decide +kernel
theorem dX3_agrees_72 : decode cX3_agrees 72 = .ok (.aload_n 0, 1) := by decide +kernel
theorem dX3_agrees_73 : decode cX3_agrees 73 = .ok (.getfield 184, 3) := by decide +kernel
theorem dX3_agrees_76 : decode cX3_agrees 76 = .ok (.putfield 184, 3) := by decide +kernel
theorem dX3_agrees_79 : decode cX3_agrees 79 = .ok (.aload_n 0, 1) := by decide +kernel
theorem dX3_agrees_80 : decode cX3_agrees 80 = .ok (.aload_n 0, 1) := by decide +kernel
theorem dX3_agrees_81 : decode cX3_agrees 81 = .ok (.getfield 99, 3) := by decide +kernel
theorem dX3_agrees_84 : decode cX3_agrees 84 = .ok (.iload_n 3, 1) := by decide +kernel
theorem dX3_agrees_85 : decode cX3_agrees 85 = .ok (.iaload, 1) := by decide +kernel
theorem dX3_agrees_86 : decode cX3_agrees 86 = .ok (.aload_n 0, 1) := by decide +kernel
theorem dX3_agrees_87 : decode cX3_agrees 87 = .ok (.getfield 188, 3) := by decide +kernel
theorem dX3_agrees_90 : decode cX3_agrees 90 = .ok (.if_icmp .ge 12, 3) := by decide +kernel
theorem dX3_agrees_93 : decode cX3_agrees 93 = .ok (.aload_n 0, 1) := by decide +kernel
theorem dX3_agrees_94 : decode cX3_agrees 94 = .ok (.getfield 99, 3) := by decide +kernel
theorem dX3_agrees_97 : decode cX3_agrees 97 = .ok (.iload_n 3, 1) := by decide +kernel
theorem dX3_agrees_98 : decode cX3_agrees 98 = .ok (.iaload, 1) := by decide +kernel
theorem dX3_agrees_99 : decode cX3_agrees 99 = .ok (.goto 7, 3) := by decide +kernel
theorem dX3_agrees_102 : decode cX3_agrees 102 = .ok (.aload_n 0, 1) := by decide +kernel
theorem dX3_agrees_103 : decode cX3_agrees 103 = .ok (.getfield 188, 3) := by decide +kernel
theorem dX3_agrees_106 : decode cX3_agrees 106 = .ok (.putfield 188, 3) := by decide +kernel
theorem dX3_agrees_109 : decode cX3_agrees 109 = .ok (.iinc 3 1, 3) := by decide +kernel
theorem dX3_agrees_112 : decode cX3_agrees 112 = .ok (.goto (-96), 3) := by decide +kernel
theorem dX3_agrees_115 : decode cX3_agrees 115 = .ok (.iload_n 2, 1) := by decide +kernel
theorem dX3_agrees_116 : decode cX3_agrees 116 = .ok (.ifCond .eq 18, 3) := by decide +kernel
theorem dX3_agrees_119 : decode cX3_agrees 119 = .ok (.aload_n 0, 1) := by decide +kernel
theorem dX3_agrees_120 : decode cX3_agrees 120 = .ok (.getfield 184, 3) := by decide +kernel
theorem dX3_agrees_123 : decode cX3_agrees 123 = .ok (.aload_n 0, 1) := by decide +kernel
theorem dX3_agrees_124 : decode cX3_agrees 124 = .ok (.getfield 188, 3) := by decide +kernel
theorem dX3_agrees_127 : decode cX3_agrees 127 = .ok (.if_icmp .gt 7, 3) := by decide +kernel
theorem dX3_agrees_130 : decode cX3_agrees 130 = .ok (.iconst 1, 1) := by decide +kernel
theorem dX3_agrees_131 : decode cX3_agrees 131 = .ok (.goto 4, 3) := by decide +kernel
theorem dX3_agrees_134 : decode cX3_agrees 134 = .ok (.iconst 0, 1) := by decide +kernel
theorem dX3_agrees_135 : decode cX3_agrees 135 = .ok (.ireturn, 1) := by decide +kernel
theorem dX3_weightOf_0 : decode cX3_weightOf 0 = .ok (.aload_n 0, 1) := by decide +kernel
theorem dX3_weightOf_1 : decode cX3_weightOf 1 = .ok (.iload_n 2, 1) := by decide +kernel
theorem dX3_weightOf_2 : decode cX3_weightOf 2 = .ok (.invokevirtual 191, 3) := by decide +kernel
theorem dX3_weightOf_5 : decode cX3_weightOf 5 = .ok (.ifCond .ne 5, 3) := by decide +kernel
theorem dX3_weightOf_8 : decode cX3_weightOf 8 = .ok (.iconst 0, 1) := by decide +kernel
theorem dX3_weightOf_9 : decode cX3_weightOf 9 = .ok (.ireturn, 1) := by decide +kernel
theorem dX3_weightOf_10 : decode cX3_weightOf 10 = .ok (.iconst 1, 1) := by decide +kernel
theorem dX3_weightOf_11 : decode cX3_weightOf 11 = .ok (.istore_n 3, 1) := by decide +kernel
theorem dX3_weightOf_12 : decode cX3_weightOf 12 = .ok (.iconst 0, 1) := by decide +kernel
theorem dX3_weightOf_13 : decode cX3_weightOf 13 = .ok (.istore 4, 2) := by decide +kernel
theorem dX3_weightOf_15 : decode cX3_weightOf 15 = .ok (.iload 4, 2) := by decide +kernel
theorem dX3_weightOf_17 : decode cX3_weightOf 17 = .ok (.iconst 3, 1) := by decide +kernel
theorem dX3_weightOf_18 : decode cX3_weightOf 18 = .ok (.if_icmp .ge 45, 3) := by decide +kernel
theorem dX3_weightOf_21 : decode cX3_weightOf 21 = .ok (.aload_n 0, 1) := by decide +kernel
theorem dX3_weightOf_22 : decode cX3_weightOf 22 = .ok (.getfield 69, 3) := by decide +kernel
theorem dX3_weightOf_25 : decode cX3_weightOf 25 = .ok (.iconst 3, 1) := by decide +kernel
theorem dX3_weightOf_26 : decode cX3_weightOf 26 = .ok (.iload_n 1, 1) := by decide +kernel
theorem dX3_weightOf_27 : decode cX3_weightOf 27 = .ok (.imul, 1) := by decide +kernel
theorem dX3_weightOf_28 : decode cX3_weightOf 28 = .ok (.iload 4, 2) := by decide +kernel
theorem dX3_weightOf_30 : decode cX3_weightOf 30 = .ok (.iadd, 1) := by decide +kernel
theorem dX3_weightOf_31 : decode cX3_weightOf 31 = .ok (.iaload, 1) := by decide +kernel
theorem dX3_weightOf_32 : decode cX3_weightOf 32 = .ok (.istore 5, 2) := by decide +kernel
theorem dX3_weightOf_34 : decode cX3_weightOf 34 = .ok (.iload_n 3, 1) := by decide +kernel
theorem dX3_weightOf_35 : decode cX3_weightOf 35 = .ok (.iload_n 2, 1) := by decide +kernel
theorem dX3_weightOf_36 : decode cX3_weightOf 36 = .ok (.iload 4, 2) := by decide +kernel
theorem dX3_weightOf_38 : decode cX3_weightOf 38 = .ok (.ishr, 1) := by decide +kernel
theorem dX3_weightOf_39 : decode cX3_weightOf 39 = .ok (.iconst 1, 1) := by decide +kernel
theorem dX3_weightOf_40 : decode cX3_weightOf 40 = .ok (.iand, 1) := by decide +kernel
theorem dX3_weightOf_41 : decode cX3_weightOf 41 = .ok (.iconst 1, 1) := by decide +kernel
theorem dX3_weightOf_42 : decode cX3_weightOf 42 = .ok (.if_icmp .ne 11, 3) := by decide +kernel
theorem dX3_weightOf_45 : decode cX3_weightOf 45 = .ok (.bipush 10, 2) := by decide +kernel
theorem dX3_weightOf_47 : decode cX3_weightOf 47 = .ok (.iload 5, 2) := by decide +kernel
theorem dX3_weightOf_49 : decode cX3_weightOf 49 = .ok (.isub, 1) := by decide +kernel
theorem dX3_weightOf_50 : decode cX3_weightOf 50 = .ok (.goto 5, 3) := by decide +kernel
theorem dX3_weightOf_53 : decode cX3_weightOf 53 = .ok (.iload 5, 2) := by decide +kernel
theorem dX3_weightOf_55 : decode cX3_weightOf 55 = .ok (.imul, 1) := by decide +kernel
theorem dX3_weightOf_56 : decode cX3_weightOf 56 = .ok (.istore_n 3, 1) := by decide +kernel
theorem dX3_weightOf_57 : decode cX3_weightOf 57 = .ok (.iinc 4 1, 3) := by decide +kernel
theorem dX3_weightOf_60 : decode cX3_weightOf 60 = .ok (.goto (-45), 3) := by decide +kernel
theorem dX3_weightOf_63 : decode cX3_weightOf 63 = .ok (.iload_n 3, 1) := by decide +kernel
theorem dX3_weightOf_64 : decode cX3_weightOf 64 = .ok (.ireturn, 1) := by decide +kernel
theorem dX3_weight_0 : decode cX3_weight 0 = .ok (.aload_n 0, 1) := by decide +kernel
theorem dX3_weight_1 : decode cX3_weight 1 = .ok (.iload_n 1, 1) := by decide +kernel
theorem dX3_weight_2 : decode cX3_weight 2 = .ok (.invokevirtual 158, 3) := by decide +kernel
theorem dX3_weight_5 : decode cX3_weight 5 = .ok (.ifCond .ne 5, 3) := by decide +kernel
theorem dX3_weight_8 : decode cX3_weight 8 = .ok (.iconst (-1), 1) := by decide +kernel
theorem dX3_weight_9 : decode cX3_weight 9 = .ok (.ireturn, 1) := by decide +kernel
theorem dX3_weight_10 : decode cX3_weight 10 = .ok (.iload_n 2, 1) := by decide +kernel
theorem dX3_weight_11 : decode cX3_weight 11 = .ok (.iconst 0, 1) := by decide +kernel
theorem dX3_weight_12 : decode cX3_weight 12 = .ok (.bipush 7, 2) := by decide +kernel
theorem dX3_weight_14 : decode cX3_weight 14 = .ok (.invokestatic 111, 3) := by decide +kernel
theorem dX3_weight_17 : decode cX3_weight 17 = .ok (.ifCond .ne 6, 3) := by decide +kernel
theorem dX3_weight_20 : decode cX3_weight 20 = .ok (.bipush (-2), 2) := by decide +kernel
theorem dX3_weight_22 : decode cX3_weight 22 = .ok (.ireturn, 1) := by decide +kernel
theorem dX3_weight_23 : decode cX3_weight 23 = .ok (.aload_n 0, 1) := by decide +kernel
theorem dX3_weight_24 : decode cX3_weight 24 = .ok (.iload_n 1, 1) := by decide +kernel
theorem dX3_weight_25 : decode cX3_weight 25 = .ok (.invokevirtual 194, 3) := by decide +kernel
theorem dX3_weight_28 : decode cX3_weight 28 = .ok (.aload_n 0, 1) := by decide +kernel
theorem dX3_weight_29 : decode cX3_weight 29 = .ok (.iload_n 1, 1) := by decide +kernel
theorem dX3_weight_30 : decode cX3_weight 30 = .ok (.iload_n 2, 1) := by decide +kernel
theorem dX3_weight_31 : decode cX3_weight 31 = .ok (.invokevirtual 198, 3) := by decide +kernel
theorem dX3_weight_34 : decode cX3_weight 34 = .ok (.ireturn, 1) := by decide +kernel
theorem dX3_odds_0 : decode cX3_odds 0 = .ok (.aload_n 0, 1) := by decide +kernel
theorem dX3_odds_1 : decode cX3_odds 1 = .ok (.iload_n 1, 1) := by decide +kernel
theorem dX3_odds_2 : decode cX3_odds 2 = .ok (.invokevirtual 158, 3) := by decide +kernel
theorem dX3_odds_5 : decode cX3_odds 5 = .ok (.ifCond .ne 7, 3) := by decide +kernel
theorem dX3_odds_8 : decode cX3_odds 8 = .ok (.ldc2_w 201, 3) := by decide +kernel
theorem dX3_odds_11 : decode cX3_odds 11 = .ok (.lreturn, 1) := by decide +kernel
theorem dX3_odds_12 : decode cX3_odds 12 = .ok (.iload_n 2, 1) := by decide +kernel
theorem dX3_odds_13 : decode cX3_odds 13 = .ok (.iconst 0, 1) := by decide +kernel
theorem dX3_odds_14 : decode cX3_odds 14 = .ok (.bipush 7, 2) := by decide +kernel
theorem dX3_odds_16 : decode cX3_odds 16 = .ok (.invokestatic 111, 3) := by decide +kernel
theorem dX3_odds_19 : decode cX3_odds 19 = .ok (.ifCond .eq 10, 3) := by decide +kernel
theorem dX3_odds_22 : decode cX3_odds 22 = .ok (.iload_n 3, 1) := by decide +kernel
theorem dX3_odds_23 : decode cX3_odds 23 = .ok (.invokestatic 151, 3) := by decide +kernel
theorem dX3_odds_26 : decode cX3_odds 26 = .ok (.ifCond .ne 7, 3) := by decide +kernel
theorem dX3_odds_29 : decode cX3_odds 29 = .ok (.ldc2_w 203, 3) := by decide +kernel
theorem dX3_odds_32 : decode cX3_odds 32 = .ok (.lreturn, 1) := by decide +kernel
theorem dX3_odds_33 : decode cX3_odds 33 = .ok (.aload_n 0, 1) := by decide +kernel
theorem dX3_odds_34 : decode cX3_odds 34 = .ok (.iload_n 1, 1) := by decide +kernel
theorem dX3_odds_35 : decode cX3_odds 35 = .ok (.invokevirtual 194, 3) := by decide +kernel
theorem dX3_odds_38 : decode cX3_odds 38 = .ok (.lconst 0, 1) := by decide +kernel
theorem dX3_odds_39 : decode cX3_odds 39 = .ok (.lstore 4, 2) := by decide +kernel
theorem dX3_odds_41 : decode cX3_odds 41 = .ok (.iconst 0, 1) := by decide +kernel
theorem dX3_odds_42 : decode cX3_odds 42 = .ok (.istore 6, 2) := by decide +kernel
theorem dX3_odds_44 : decode cX3_odds 44 = .ok (.iload 6, 2) := by decide +kernel
theorem dX3_odds_46 : decode cX3_odds 46 = .ok (.bipush 8, 2) := by decide +kernel
theorem dX3_odds_48 : decode cX3_odds 48 = .ok (.if_icmp .ge 22, 3) := by decide +kernel
theorem dX3_odds_51 : decode cX3_odds 51 = .ok (.lload 4, 2) := by decide +kernel
theorem dX3_odds_53 : decode cX3_odds 53 = .ok (.aload_n 0, 1) := by decide +kernel
theorem dX3_odds_54 : decode cX3_odds 54 = .ok (.iload_n 1, 1) := by decide +kernel
theorem dX3_odds_55 : decode cX3_odds 55 = .ok (.iload 6, 2) := by decide +kernel
theorem dX3_odds_57 : decode cX3_odds 57 = .ok (.invokevirtual 198, 3) := by decide +kernel
theorem dX3_odds_60 : decode cX3_odds 60 = .ok (.i2l, 1) := by decide +kernel
theorem dX3_odds_61 : decode cX3_odds 61 = .ok (.ladd, 1) := by decide +kernel
theorem dX3_odds_62 : decode cX3_odds 62 = .ok (.lstore 4, 2) := by decide +kernel
theorem dX3_odds_64 : decode cX3_odds 64 = .ok (.iinc 6 1, 3) := by decide +kernel
theorem dX3_odds_67 : decode cX3_odds 67 = .ok (.goto (-23), 3) := by decide +kernel
theorem dX3_odds_70 : decode cX3_odds 70 = .ok (.aload_n 0, 1) := by decide +kernel
theorem dX3_odds_71 : decode cX3_odds 71 = .ok (.iload_n 1, 1) := by decide +kernel
theorem dX3_odds_72 : decode cX3_odds 72 = .ok (.iload_n 2, 1) := by decide +kernel
theorem dX3_odds_73 : decode cX3_odds 73 = .ok (.invokevirtual 198, 3) := by decide +kernel
theorem dX3_odds_76 : decode cX3_odds 76 = .ok (.i2l, 1) := by decide +kernel
theorem dX3_odds_77 : decode cX3_odds 77 = .ok (.lstore 6, 2) := by decide +kernel
theorem dX3_odds_79 : decode cX3_odds 79 = .ok (.lload 6, 2) := by decide +kernel
theorem dX3_odds_81 : decode cX3_odds 81 = .ok (.lstore 8, 2) := by decide +kernel
theorem dX3_odds_83 : decode cX3_odds 83 = .ok (.lload 4, 2) := by decide +kernel
theorem dX3_odds_85 : decode cX3_odds 85 = .ok (.lstore 10, 2) := by decide +kernel
theorem dX3_odds_87 : decode cX3_odds 87 = .ok (.lload 10, 2) := by decide +kernel
theorem dX3_odds_89 : decode cX3_odds 89 = .ok (.lconst 0, 1) := by decide +kernel
theorem dX3_odds_90 : decode cX3_odds 90 = .ok (.lcmp, 1) := by decide +kernel
theorem dX3_odds_91 : decode cX3_odds 91 = .ok (.ifCond .eq 21, 3) := by decide +kernel
theorem dX3_odds_94 : decode cX3_odds 94 = .ok (.lload 8, 2) := by decide +kernel
theorem dX3_odds_96 : decode cX3_odds 96 = .ok (.lload 10, 2) := by decide +kernel
theorem dX3_odds_98 : decode cX3_odds 98 = .ok (.lrem, 1) := by decide +kernel
theorem dX3_odds_99 : decode cX3_odds 99 = .ok (.lstore 12, 2) := by decide +kernel
theorem dX3_odds_101 : decode cX3_odds 101 = .ok (.lload 10, 2) := by decide +kernel
theorem dX3_odds_103 : decode cX3_odds 103 = .ok (.lstore 8, 2) := by decide +kernel
theorem dX3_odds_105 : decode cX3_odds 105 = .ok (.lload 12, 2) := by decide +kernel
theorem dX3_odds_107 : decode cX3_odds 107 = .ok (.lstore 10, 2) := by decide +kernel
theorem dX3_odds_109 : decode cX3_odds 109 = .ok (.goto (-22), 3) := by decide +kernel
theorem dX3_odds_112 : decode cX3_odds 112 = .ok (.iload_n 3, 1) := by decide +kernel
theorem dX3_odds_113 : decode cX3_odds 113 = .ok (.ifCond .ne 11, 3) := by decide +kernel
theorem dX3_odds_116 : decode cX3_odds 116 = .ok (.lload 6, 2) := by decide +kernel
theorem dX3_odds_118 : decode cX3_odds 118 = .ok (.lload 8, 2) := by decide +kernel
theorem dX3_odds_120 : decode cX3_odds 120 = .ok (.ldiv, 1) := by decide +kernel
theorem dX3_odds_121 : decode cX3_odds 121 = .ok (.goto 8, 3) := by decide +kernel
theorem dX3_odds_124 : decode cX3_odds 124 = .ok (.lload 4, 2) := by decide +kernel
theorem dX3_odds_126 : decode cX3_odds 126 = .ok (.lload 8, 2) := by decide +kernel
theorem dX3_odds_128 : decode cX3_odds 128 = .ok (.ldiv, 1) := by decide +kernel
theorem dX3_odds_129 : decode cX3_odds 129 = .ok (.lreturn, 1) := by decide +kernel
theorem dX3_bits_0 : decode cX3_bits 0 = .ok (.iload_n 0, 1) := by decide +kernel
theorem dX3_bits_1 : decode cX3_bits 1 = .ok (.iconst 1, 1) := by decide +kernel
theorem dX3_bits_2 : decode cX3_bits 2 = .ok (.iand, 1) := by decide +kernel
theorem dX3_bits_3 : decode cX3_bits 3 = .ok (.iload_n 0, 1) := by decide +kernel
theorem dX3_bits_4 : decode cX3_bits 4 = .ok (.iconst 1, 1) := by decide +kernel
theorem dX3_bits_5 : decode cX3_bits 5 = .ok (.ishr, 1) := by decide +kernel
theorem dX3_bits_6 : decode cX3_bits 6 = .ok (.iconst 1, 1) := by decide +kernel
theorem dX3_bits_7 : decode cX3_bits 7 = .ok (.iand, 1) := by decide +kernel
theorem dX3_bits_8 : decode cX3_bits 8 = .ok (.iadd, 1) := by decide +kernel
theorem dX3_bits_9 : decode cX3_bits 9 = .ok (.iload_n 0, 1) := by decide +kernel
theorem dX3_bits_10 : decode cX3_bits 10 = .ok (.iconst 2, 1) := by decide +kernel
theorem dX3_bits_11 : decode cX3_bits 11 = .ok (.ishr, 1) := by decide +kernel
theorem dX3_bits_12 : decode cX3_bits 12 = .ok (.iconst 1, 1) := by decide +kernel
theorem dX3_bits_13 : decode cX3_bits 13 = .ok (.iand, 1) := by decide +kernel
theorem dX3_bits_14 : decode cX3_bits 14 = .ok (.iadd, 1) := by decide +kernel
theorem dX3_bits_15 : decode cX3_bits 15 = .ok (.ireturn, 1) := by decide +kernel
theorem dX3_bestOf_0 : decode cX3_bestOf 0 = .ok (.aload_n 0, 1) := by decide +kernel
theorem dX3_bestOf_1 : decode cX3_bestOf 1 = .ok (.iload_n 1, 1) := by decide +kernel
theorem dX3_bestOf_2 : decode cX3_bestOf 2 = .ok (.invokevirtual 194, 3) := by decide +kernel
theorem dX3_bestOf_5 : decode cX3_bestOf 5 = .ok (.iconst 0, 1) := by decide +kernel
theorem dX3_bestOf_6 : decode cX3_bestOf 6 = .ok (.istore_n 2, 1) := by decide +kernel
theorem dX3_bestOf_7 : decode cX3_bestOf 7 = .ok (.iconst 1, 1) := by decide +kernel
theorem dX3_bestOf_8 : decode cX3_bestOf 8 = .ok (.istore_n 3, 1) := by decide +kernel
theorem dX3_bestOf_9 : decode cX3_bestOf 9 = .ok (.iload_n 3, 1) := by decide +kernel
theorem dX3_bestOf_10 : decode cX3_bestOf 10 = .ok (.bipush 8, 2) := by decide +kernel
theorem dX3_bestOf_12 : decode cX3_bestOf 12 = .ok (.if_icmp .ge 51, 3) := by decide +kernel
theorem dX3_bestOf_15 : decode cX3_bestOf 15 = .ok (.aload_n 0, 1) := by decide +kernel
theorem dX3_bestOf_16 : decode cX3_bestOf 16 = .ok (.iload_n 1, 1) := by decide +kernel
theorem dX3_bestOf_17 : decode cX3_bestOf 17 = .ok (.iload_n 3, 1) := by decide +kernel
theorem dX3_bestOf_18 : decode cX3_bestOf 18 = .ok (.invokevirtual 198, 3) := by decide +kernel
theorem dX3_bestOf_21 : decode cX3_bestOf 21 = .ok (.aload_n 0, 1) := by decide +kernel
theorem dX3_bestOf_22 : decode cX3_bestOf 22 = .ok (.iload_n 1, 1) := by decide +kernel
theorem dX3_bestOf_23 : decode cX3_bestOf 23 = .ok (.iload_n 2, 1) := by decide +kernel
theorem dX3_bestOf_24 : decode cX3_bestOf 24 = .ok (.invokevirtual 198, 3) := by decide +kernel
theorem dX3_bestOf_27 : decode cX3_bestOf 27 = .ok (.isub, 1) := by decide +kernel
theorem dX3_bestOf_28 : decode cX3_bestOf 28 = .ok (.istore 4, 2) := by decide +kernel
theorem dX3_bestOf_30 : decode cX3_bestOf 30 = .ok (.iload 4, 2) := by decide +kernel
theorem dX3_bestOf_32 : decode cX3_bestOf 32 = .ok (.ifCond .gt 19, 3) := by decide +kernel
theorem dX3_bestOf_35 : decode cX3_bestOf 35 = .ok (.iload 4, 2) := by decide +kernel
theorem dX3_bestOf_37 : decode cX3_bestOf 37 = .ok (.ifCond .ne 18, 3) := by decide +kernel
theorem dX3_bestOf_40 : decode cX3_bestOf 40 = .ok (.iload_n 3, 1) := by decide +kernel
theorem dX3_bestOf_41 : decode cX3_bestOf 41 = .ok (.invokestatic 205, 3) := by decide +kernel
theorem dX3_bestOf_44 : decode cX3_bestOf 44 = .ok (.iload_n 2, 1) := by decide +kernel
theorem dX3_bestOf_45 : decode cX3_bestOf 45 = .ok (.invokestatic 205, 3) := by decide +kernel
theorem dX3_bestOf_48 : decode cX3_bestOf 48 = .ok (.if_icmp .le 7, 3) := by decide +kernel
theorem dX3_bestOf_51 : decode cX3_bestOf 51 = .ok (.iload_n 3, 1) := by decide +kernel
theorem dX3_bestOf_52 : decode cX3_bestOf 52 = .ok (.goto 4, 3) := by decide +kernel
theorem dX3_bestOf_55 : decode cX3_bestOf 55 = .ok (.iload_n 2, 1) := by decide +kernel
theorem dX3_bestOf_56 : decode cX3_bestOf 56 = .ok (.istore_n 2, 1) := by decide +kernel
theorem dX3_bestOf_57 : decode cX3_bestOf 57 = .ok (.iinc 3 1, 3) := by decide +kernel
theorem dX3_bestOf_60 : decode cX3_bestOf 60 = .ok (.goto (-51), 3) := by decide +kernel
theorem dX3_bestOf_63 : decode cX3_bestOf 63 = .ok (.iload_n 2, 1) := by decide +kernel
theorem dX3_bestOf_64 : decode cX3_bestOf 64 = .ok (.ireturn, 1) := by decide +kernel
theorem dX3_best_0 : decode cX3_best 0 = .ok (.aload_n 0, 1) := by decide +kernel
theorem dX3_best_1 : decode cX3_best 1 = .ok (.iload_n 1, 1) := by decide +kernel
theorem dX3_best_2 : decode cX3_best 2 = .ok (.invokevirtual 158, 3) := by decide +kernel
theorem dX3_best_5 : decode cX3_best 5 = .ok (.ifCond .eq 11, 3) := by decide +kernel
theorem dX3_best_8 : decode cX3_best 8 = .ok (.aload_n 0, 1) := by decide +kernel
theorem dX3_best_9 : decode cX3_best 9 = .ok (.iload_n 1, 1) := by decide +kernel
theorem dX3_best_10 : decode cX3_best 10 = .ok (.invokevirtual 209, 3) := by decide +kernel
theorem dX3_best_13 : decode cX3_best 13 = .ok (.goto 4, 3) := by decide +kernel
theorem dX3_best_16 : decode cX3_best 16 = .ok (.iconst (-1), 1) := by decide +kernel
theorem dX3_best_17 : decode cX3_best 17 = .ok (.ireturn, 1) := by decide +kernel
theorem dX3_landfall_0 : decode cX3_landfall 0 = .ok (.aload_n 0, 1) := by decide +kernel
theorem dX3_landfall_1 : decode cX3_landfall 1 = .ok (.iload_n 1, 1) := by decide +kernel
theorem dX3_landfall_2 : decode cX3_landfall 2 = .ok (.invokevirtual 158, 3) := by decide +kernel
theorem dX3_landfall_5 : decode cX3_landfall 5 = .ok (.ifCond .ne 6, 3) := by decide +kernel
theorem dX3_landfall_8 : decode cX3_landfall 8 = .ok (.ldc 150, 2) := by decide +kernel
theorem dX3_landfall_10 : decode cX3_landfall 10 = .ok (.ireturn, 1) := by decide +kernel
theorem dX3_landfall_11 : decode cX3_landfall 11 = .ok (.iload_n 2, 1) := by decide +kernel
theorem dX3_landfall_12 : decode cX3_landfall 12 = .ok (.invokestatic 151, 3) := by decide +kernel
theorem dX3_landfall_15 : decode cX3_landfall 15 = .ok (.ifCond .ne 6, 3) := by decide +kernel
theorem dX3_landfall_18 : decode cX3_landfall 18 = .ok (.ldc 154, 2) := by decide +kernel
theorem dX3_landfall_20 : decode cX3_landfall 20 = .ok (.ireturn, 1) := by decide +kernel
theorem dX3_landfall_21 : decode cX3_landfall 21 = .ok (.aload_n 0, 1) := by decide +kernel
theorem dX3_landfall_22 : decode cX3_landfall 22 = .ok (.iload_n 1, 1) := by decide +kernel
theorem dX3_landfall_23 : decode cX3_landfall 23 = .ok (.invokevirtual 209, 3) := by decide +kernel
theorem dX3_landfall_26 : decode cX3_landfall 26 = .ok (.istore_n 3, 1) := by decide +kernel
theorem dX3_landfall_27 : decode cX3_landfall 27 = .ok (.iload_n 3, 1) := by decide +kernel
theorem dX3_landfall_28 : decode cX3_landfall 28 = .ok (.ifCond .ne 6, 3) := by decide +kernel
theorem dX3_landfall_31 : decode cX3_landfall 31 = .ok (.ldc 178, 2) := by decide +kernel
theorem dX3_landfall_33 : decode cX3_landfall 33 = .ok (.ireturn, 1) := by decide +kernel
theorem dX3_landfall_34 : decode cX3_landfall 34 = .ok (.aload_n 0, 1) := by decide +kernel
theorem dX3_landfall_35 : decode cX3_landfall 35 = .ok (.iload_n 3, 1) := by decide +kernel
theorem dX3_landfall_36 : decode cX3_landfall 36 = .ok (.invokevirtual 191, 3) := by decide +kernel
theorem dX3_landfall_39 : decode cX3_landfall 39 = .ok (.pop, 1) := by decide +kernel
theorem dX3_landfall_40 : decode cX3_landfall 40 = .ok (.iload_n 2, 1) := by decide +kernel
theorem dX3_landfall_41 : decode cX3_landfall 41 = .ok (.ifCond .ne 10, 3) := by decide +kernel
theorem dX3_landfall_44 : decode cX3_landfall 44 = .ok (.aload_n 0, 1) := by decide +kernel
theorem dX3_landfall_45 : decode cX3_landfall 45 = .ok (.getfield 184, 3) := by decide +kernel
theorem dX3_landfall_48 : decode cX3_landfall 48 = .ok (.goto 7, 3) := by decide +kernel
theorem dX3_landfall_51 : decode cX3_landfall 51 = .ok (.aload_n 0, 1) := by decide +kernel
theorem dX3_landfall_52 : decode cX3_landfall 52 = .ok (.getfield 188, 3) := by decide +kernel
theorem dX3_landfall_55 : decode cX3_landfall 55 = .ok (.ireturn, 1) := by decide +kernel
theorem dX3_suspects_0 : decode cX3_suspects 0 = .ok (.iconst 0, 1) := by decide +kernel
theorem dX3_suspects_1 : decode cX3_suspects 1 = .ok (.istore_n 2, 1) := by decide +kernel
theorem dX3_suspects_2 : decode cX3_suspects 2 = .ok (.iconst 0, 1) := by decide +kernel
theorem dX3_suspects_3 : decode cX3_suspects 3 = .ok (.istore_n 3, 1) := by decide +kernel
theorem dX3_suspects_4 : decode cX3_suspects 4 = .ok (.iload_n 3, 1) := by decide +kernel
theorem dX3_suspects_5 : decode cX3_suspects 5 = .ok (.aload_n 0, 1) := by decide +kernel
theorem dX3_suspects_6 : decode cX3_suspects 6 = .ok (.getfield 115, 3) := by decide +kernel
theorem dX3_suspects_9 : decode cX3_suspects 9 = .ok (.if_icmp .ge 63, 3) := by decide +kernel
theorem dX3_suspects_12 : decode cX3_suspects 12 = .ok (.iconst 0, 1) := by decide +kernel
theorem dX3_suspects_13 : decode cX3_suspects 13 = .ok (.istore 4, 2) := by decide +kernel
theorem dX3_suspects_15 : decode cX3_suspects 15 = .ok (.iload 4, 2) := by decide +kernel
theorem dX3_suspects_17 : decode cX3_suspects 17 = .ok (.iconst 3, 1) := by decide +kernel
theorem dX3_suspects_18 : decode cX3_suspects 18 = .ok (.if_icmp .ge 48, 3) := by decide +kernel
theorem dX3_suspects_21 : decode cX3_suspects 21 = .ok (.aload_n 0, 1) := by decide +kernel
theorem dX3_suspects_22 : decode cX3_suspects 22 = .ok (.iload_n 3, 1) := by decide +kernel
theorem dX3_suspects_23 : decode cX3_suspects 23 = .ok (.iload 4, 2) := by decide +kernel
theorem dX3_suspects_25 : decode cX3_suspects 25 = .ok (.invokevirtual 175, 3) := by decide +kernel
theorem dX3_suspects_28 : decode cX3_suspects 28 = .ok (.ifCond .ne 32, 3) := by decide +kernel
theorem dX3_suspects_31 : decode cX3_suspects 31 = .ok (.aload_n 0, 1) := by decide +kernel
theorem dX3_suspects_32 : decode cX3_suspects 32 = .ok (.iload_n 1, 1) := by decide +kernel
theorem dX3_suspects_33 : decode cX3_suspects 33 = .ok (.putfield 93, 3) := by decide +kernel
theorem dX3_suspects_36 : decode cX3_suspects 36 = .ok (.iload_n 2, 1) := by decide +kernel
theorem dX3_suspects_37 : decode cX3_suspects 37 = .ok (.aload_n 0, 1) := by decide +kernel
theorem dX3_suspects_38 : decode cX3_suspects 38 = .ok (.iload_n 3, 1) := by decide +kernel
theorem dX3_suspects_39 : decode cX3_suspects 39 = .ok (.iload 4, 2) := by decide +kernel
theorem dX3_suspects_41 : decode cX3_suspects 41 = .ok (.invokevirtual 175, 3) := by decide +kernel
theorem dX3_suspects_44 : decode cX3_suspects 44 = .ok (.ifCond .eq 7, 3) := by decide +kernel
theorem dX3_suspects_47 : decode cX3_suspects 47 = .ok (.iconst 1, 1) := by decide +kernel
theorem dX3_suspects_48 : decode cX3_suspects 48 = .ok (.goto 4, 3) := by decide +kernel
theorem dX3_suspects_51 : decode cX3_suspects 51 = .ok (.iconst 0, 1) := by decide +kernel
theorem dX3_suspects_52 : decode cX3_suspects 52 = .ok (.iadd, 1) := by decide +kernel
theorem dX3_suspects_53 : decode cX3_suspects 53 = .ok (.istore_n 2, 1) := by decide +kernel
theorem dX3_suspects_54 : decode cX3_suspects 54 = .ok (.aload_n 0, 1) := by decide +kernel
theorem dX3_suspects_55 : decode cX3_suspects 55 = .ok (.bipush (-6), 2) := by decide +kernel
theorem dX3_suspects_57 : decode cX3_suspects 57 = .ok (.putfield 93, 3) := by decide +kernel
theorem dX3_suspects_60 : decode cX3_suspects 60 = .ok (.iinc 4 1, 3) := by decide +kernel
theorem dX3_suspects_63 : decode cX3_suspects 63 = .ok (.goto (-48), 3) := by decide +kernel
theorem dX3_suspects_66 : decode cX3_suspects 66 = .ok (.iinc 3 1, 3) := by decide +kernel
theorem dX3_suspects_69 : decode cX3_suspects 69 = .ok (.goto (-65), 3) := by decide +kernel
theorem dX3_suspects_72 : decode cX3_suspects 72 = .ok (.iload_n 2, 1) := by decide +kernel
theorem dX3_suspects_73 : decode cX3_suspects 73 = .ok (.ireturn, 1) := by decide +kernel
theorem dX3_suspect_0 : decode cX3_suspect 0 = .ok (.iload_n 1, 1) := by decide +kernel
theorem dX3_suspect_1 : decode cX3_suspect 1 = .ok (.invokestatic 146, 3) := by decide +kernel
theorem dX3_suspect_4 : decode cX3_suspect 4 = .ok (.ifCond .eq 11, 3) := by decide +kernel
theorem dX3_suspect_7 : decode cX3_suspect 7 = .ok (.aload_n 0, 1) := by decide +kernel
theorem dX3_suspect_8 : decode cX3_suspect 8 = .ok (.iload_n 1, 1) := by decide +kernel
theorem dX3_suspect_9 : decode cX3_suspect 9 = .ok (.invokevirtual 212, 3) := by decide +kernel
theorem dX3_suspect_12 : decode cX3_suspect 12 = .ok (.goto 4, 3) := by decide +kernel
theorem dX3_suspect_15 : decode cX3_suspect 15 = .ok (.iconst (-1), 1) := by decide +kernel
theorem dX3_suspect_16 : decode cX3_suspect 16 = .ok (.ireturn, 1) := by decide +kernel
theorem dX3_worst_0 : decode cX3_worst 0 = .ok (.iload_n 1, 1) := by decide +kernel
theorem dX3_worst_1 : decode cX3_worst 1 = .ok (.iconst 0, 1) := by decide +kernel
theorem dX3_worst_2 : decode cX3_worst 2 = .ok (.iconst 1, 1) := by decide +kernel
theorem dX3_worst_3 : decode cX3_worst 3 = .ok (.invokestatic 111, 3) := by decide +kernel
theorem dX3_worst_6 : decode cX3_worst 6 = .ok (.ifCond .ne 6, 3) := by decide +kernel
theorem dX3_worst_9 : decode cX3_worst 9 = .ok (.bipush (-2), 2) := by decide +kernel
theorem dX3_worst_11 : decode cX3_worst 11 = .ok (.ireturn, 1) := by decide +kernel
theorem dX3_worst_12 : decode cX3_worst 12 = .ok (.iconst 0, 1) := by decide +kernel
theorem dX3_worst_13 : decode cX3_worst 13 = .ok (.istore_n 2, 1) := by decide +kernel
theorem dX3_worst_14 : decode cX3_worst 14 = .ok (.iconst (-1), 1) := by decide +kernel
theorem dX3_worst_15 : decode cX3_worst 15 = .ok (.istore_n 3, 1) := by decide +kernel
theorem dX3_worst_16 : decode cX3_worst 16 = .ok (.iconst 0, 1) := by decide +kernel
theorem dX3_worst_17 : decode cX3_worst 17 = .ok (.istore 4, 2) := by decide +kernel
theorem dX3_worst_19 : decode cX3_worst 19 = .ok (.iload 4, 2) := by decide +kernel
theorem dX3_worst_21 : decode cX3_worst 21 = .ok (.bipush 20, 2) := by decide +kernel
theorem dX3_worst_23 : decode cX3_worst 23 = .ok (.if_icmp .ge 43, 3) := by decide +kernel
theorem dX3_worst_26 : decode cX3_worst 26 = .ok (.aload_n 0, 1) := by decide +kernel
theorem dX3_worst_27 : decode cX3_worst 27 = .ok (.iload 4, 2) := by decide +kernel
theorem dX3_worst_29 : decode cX3_worst 29 = .ok (.invokevirtual 212, 3) := by decide +kernel
theorem dX3_worst_32 : decode cX3_worst 32 = .ok (.istore 5, 2) := by decide +kernel
theorem dX3_worst_34 : decode cX3_worst 34 = .ok (.iload 5, 2) := by decide +kernel
theorem dX3_worst_36 : decode cX3_worst 36 = .ok (.iload_n 3, 1) := by decide +kernel
theorem dX3_worst_37 : decode cX3_worst 37 = .ok (.if_icmp .le 8, 3) := by decide +kernel
theorem dX3_worst_40 : decode cX3_worst 40 = .ok (.iload 4, 2) := by decide +kernel
theorem dX3_worst_42 : decode cX3_worst 42 = .ok (.goto 4, 3) := by decide +kernel
theorem dX3_worst_45 : decode cX3_worst 45 = .ok (.iload_n 2, 1) := by decide +kernel
theorem dX3_worst_46 : decode cX3_worst 46 = .ok (.istore_n 2, 1) := by decide +kernel
theorem dX3_worst_47 : decode cX3_worst 47 = .ok (.iload 5, 2) := by decide +kernel
theorem dX3_worst_49 : decode cX3_worst 49 = .ok (.iload_n 3, 1) := by decide +kernel
theorem dX3_worst_50 : decode cX3_worst 50 = .ok (.if_icmp .le 8, 3) := by decide +kernel
theorem dX3_worst_53 : decode cX3_worst 53 = .ok (.iload 5, 2) := by decide +kernel
theorem dX3_worst_55 : decode cX3_worst 55 = .ok (.goto 4, 3) := by decide +kernel
theorem dX3_worst_58 : decode cX3_worst 58 = .ok (.iload_n 3, 1) := by decide +kernel
theorem dX3_worst_59 : decode cX3_worst 59 = .ok (.istore_n 3, 1) := by decide +kernel
theorem dX3_worst_60 : decode cX3_worst 60 = .ok (.iinc 4 1, 3) := by decide +kernel
theorem dX3_worst_63 : decode cX3_worst 63 = .ok (.goto (-44), 3) := by decide +kernel
theorem dX3_worst_66 : decode cX3_worst 66 = .ok (.iload_n 1, 1) := by decide +kernel
theorem dX3_worst_67 : decode cX3_worst 67 = .ok (.ifCond .ne 7, 3) := by decide +kernel
theorem dX3_worst_70 : decode cX3_worst 70 = .ok (.iload_n 2, 1) := by decide +kernel
theorem dX3_worst_71 : decode cX3_worst 71 = .ok (.goto 4, 3) := by decide +kernel
theorem dX3_worst_74 : decode cX3_worst 74 = .ok (.iload_n 3, 1) := by decide +kernel
theorem dX3_worst_75 : decode cX3_worst 75 = .ok (.ireturn, 1) := by decide +kernel
theorem dX3_isSetBy_0 : decode cX3_isSetBy 0 = .ok (.iconst 0, 1) := by decide +kernel
theorem dX3_isSetBy_1 : decode cX3_isSetBy 1 = .ok (.istore 4, 2) := by decide +kernel
theorem dX3_isSetBy_3 : decode cX3_isSetBy 3 = .ok (.iconst 0, 1) := by decide +kernel
theorem dX3_isSetBy_4 : decode cX3_isSetBy 4 = .ok (.istore 5, 2) := by decide +kernel
theorem dX3_isSetBy_6 : decode cX3_isSetBy 6 = .ok (.iload 5, 2) := by decide +kernel
theorem dX3_isSetBy_8 : decode cX3_isSetBy 8 = .ok (.aload_n 0, 1) := by decide +kernel
theorem dX3_isSetBy_9 : decode cX3_isSetBy 9 = .ok (.getfield 45, 3) := by decide +kernel
theorem dX3_isSetBy_12 : decode cX3_isSetBy 12 = .ok (.iload_n 1, 1) := by decide +kernel
theorem dX3_isSetBy_13 : decode cX3_isSetBy 13 = .ok (.iaload, 1) := by decide +kernel
theorem dX3_isSetBy_14 : decode cX3_isSetBy 14 = .ok (.if_icmp .ge 73, 3) := by decide +kernel
theorem dX3_isSetBy_17 : decode cX3_isSetBy 17 = .ok (.bipush 12, 2) := by decide +kernel
theorem dX3_isSetBy_19 : decode cX3_isSetBy 19 = .ok (.iload_n 1, 1) := by decide +kernel
theorem dX3_isSetBy_20 : decode cX3_isSetBy 20 = .ok (.imul, 1) := by decide +kernel
theorem dX3_isSetBy_21 : decode cX3_isSetBy 21 = .ok (.iload 5, 2) := by decide +kernel
theorem dX3_isSetBy_23 : decode cX3_isSetBy 23 = .ok (.iadd, 1) := by decide +kernel
theorem dX3_isSetBy_24 : decode cX3_isSetBy 24 = .ok (.istore 6, 2) := by decide +kernel
theorem dX3_isSetBy_26 : decode cX3_isSetBy 26 = .ok (.iload 4, 2) := by decide +kernel
theorem dX3_isSetBy_28 : decode cX3_isSetBy 28 = .ok (.ifCond .ne 46, 3) := by decide +kernel
theorem dX3_isSetBy_31 : decode cX3_isSetBy 31 = .ok (.aload_n 0, 1) := by decide +kernel
theorem dX3_isSetBy_32 : decode cX3_isSetBy 32 = .ok (.getfield 48, 3) := by decide +kernel
theorem dX3_isSetBy_35 : decode cX3_isSetBy 35 = .ok (.iload 6, 2) := by decide +kernel
theorem dX3_isSetBy_37 : decode cX3_isSetBy 37 = .ok (.iaload, 1) := by decide +kernel
theorem dX3_isSetBy_38 : decode cX3_isSetBy 38 = .ok (.iload_n 2, 1) := by decide +kernel
theorem dX3_isSetBy_39 : decode cX3_isSetBy 39 = .ok (.if_icmp .ne 39, 3) := by decide +kernel
theorem dX3_isSetBy_42 : decode cX3_isSetBy 42 = .ok (.aload_n 0, 1) := by decide +kernel
theorem dX3_isSetBy_43 : decode cX3_isSetBy 43 = .ok (.getfield 54, 3) := by decide +kernel
theorem dX3_isSetBy_46 : decode cX3_isSetBy 46 = .ok (.iload 6, 2) := by decide +kernel
theorem dX3_isSetBy_48 : decode cX3_isSetBy 48 = .ok (.iaload, 1) := by decide +kernel
theorem dX3_isSetBy_49 : decode cX3_isSetBy 49 = .ok (.iconst 3, 1) := by decide +kernel
theorem dX3_isSetBy_50 : decode cX3_isSetBy 50 = .ok (.if_icmp .ge 28, 3) := by decide +kernel
theorem dX3_isSetBy_53 : decode cX3_isSetBy 53 = .ok (.aload_n 0, 1) := by decide +kernel
theorem dX3_isSetBy_54 : decode cX3_isSetBy 54 = .ok (.getfield 51, 3) := by decide +kernel
theorem dX3_isSetBy_57 : decode cX3_isSetBy 57 = .ok (.iload 6, 2) := by decide +kernel
theorem dX3_isSetBy_59 : decode cX3_isSetBy 59 = .ok (.iaload, 1) := by decide +kernel
theorem dX3_isSetBy_60 : decode cX3_isSetBy 60 = .ok (.iload_n 3, 1) := by decide +kernel
theorem dX3_isSetBy_61 : decode cX3_isSetBy 61 = .ok (.if_icmp .ne 17, 3) := by decide +kernel
theorem dX3_isSetBy_64 : decode cX3_isSetBy 64 = .ok (.aload_n 0, 1) := by decide +kernel
theorem dX3_isSetBy_65 : decode cX3_isSetBy 65 = .ok (.iload_n 1, 1) := by decide +kernel
theorem dX3_isSetBy_66 : decode cX3_isSetBy 66 = .ok (.iload 6, 2) := by decide +kernel
theorem dX3_isSetBy_68 : decode cX3_isSetBy 68 = .ok (.invokevirtual 171, 3) := by decide +kernel
theorem dX3_isSetBy_71 : decode cX3_isSetBy 71 = .ok (.ifCond .eq 7, 3) := by decide +kernel
theorem dX3_isSetBy_74 : decode cX3_isSetBy 74 = .ok (.iconst 1, 1) := by decide +kernel
theorem dX3_isSetBy_75 : decode cX3_isSetBy 75 = .ok (.goto 4, 3) := by decide +kernel
theorem dX3_isSetBy_78 : decode cX3_isSetBy 78 = .ok (.iconst 0, 1) := by decide +kernel
theorem dX3_isSetBy_79 : decode cX3_isSetBy 79 = .ok (.istore 4, 2) := by decide +kernel
theorem dX3_isSetBy_81 : decode cX3_isSetBy 81 = .ok (.iinc 5 1, 3) := by decide +kernel
theorem dX3_isSetBy_84 : decode cX3_isSetBy 84 = .ok (.goto (-78), 3) := by decide +kernel
theorem dX3_isSetBy_87 : decode cX3_isSetBy 87 = .ok (.iload 4, 2) := by decide +kernel
theorem dX3_isSetBy_89 : decode cX3_isSetBy 89 = .ok (.ireturn, 1) := by decide +kernel
theorem dX3_allGo_0 : decode cX3_allGo 0 = .ok (.iconst 0, 1) := by decide +kernel
theorem dX3_allGo_1 : decode cX3_allGo 1 = .ok (.istore_n 2, 1) := by decide +kernel
theorem dX3_allGo_2 : decode cX3_allGo 2 = .ok (.iload_n 2, 1) := by decide +kernel
theorem dX3_allGo_3 : decode cX3_allGo 3 = .ok (.aload_n 0, 1) := by decide +kernel
theorem dX3_allGo_4 : decode cX3_allGo 4 = .ok (.getfield 115, 3) := by decide +kernel
theorem dX3_allGo_7 : decode cX3_allGo 7 = .ok (.if_icmp .ge 43, 3) := by decide +kernel
theorem dX3_allGo_10 : decode cX3_allGo 10 = .ok (.iconst 0, 1) := by decide +kernel
theorem dX3_allGo_11 : decode cX3_allGo 11 = .ok (.istore_n 3, 1) := by decide +kernel
theorem dX3_allGo_12 : decode cX3_allGo 12 = .ok (.iload_n 3, 1) := by decide +kernel
theorem dX3_allGo_13 : decode cX3_allGo 13 = .ok (.iconst 3, 1) := by decide +kernel
theorem dX3_allGo_14 : decode cX3_allGo 14 = .ok (.if_icmp .ge 30, 3) := by decide +kernel
theorem dX3_allGo_17 : decode cX3_allGo 17 = .ok (.aload_n 0, 1) := by decide +kernel
theorem dX3_allGo_18 : decode cX3_allGo 18 = .ok (.iload_n 2, 1) := by decide +kernel
theorem dX3_allGo_19 : decode cX3_allGo 19 = .ok (.iload_n 3, 1) := by decide +kernel
theorem dX3_allGo_20 : decode cX3_allGo 20 = .ok (.iload_n 1, 1) := by decide +kernel
theorem dX3_allGo_21 : decode cX3_allGo 21 = .ok (.invokevirtual 215, 3) := by decide +kernel
theorem dX3_allGo_24 : decode cX3_allGo 24 = .ok (.ifCond .eq 14, 3) := by decide +kernel
theorem dX3_allGo_27 : decode cX3_allGo 27 = .ok (.aload_n 0, 1) := by decide +kernel
theorem dX3_allGo_28 : decode cX3_allGo 28 = .ok (.iload_n 2, 1) := by decide +kernel
theorem dX3_allGo_29 : decode cX3_allGo 29 = .ok (.iload_n 3, 1) := by decide +kernel
theorem dX3_allGo_30 : decode cX3_allGo 30 = .ok (.invokevirtual 175, 3) := by decide +kernel
theorem dX3_allGo_33 : decode cX3_allGo 33 = .ok (.ifCond .ne 5, 3) := by decide +kernel
theorem dX3_allGo_36 : decode cX3_allGo 36 = .ok (.iconst 0, 1) := by decide +kernel
theorem dX3_allGo_37 : decode cX3_allGo 37 = .ok (.ireturn, 1) := by decide +kernel
theorem dX3_allGo_38 : decode cX3_allGo 38 = .ok (.iinc 3 1, 3) := by decide +kernel
theorem dX3_allGo_41 : decode cX3_allGo 41 = .ok (.goto (-29), 3) := by decide +kernel
theorem dX3_allGo_44 : decode cX3_allGo 44 = .ok (.iinc 2 1, 3) := by decide +kernel
theorem dX3_allGo_47 : decode cX3_allGo 47 = .ok (.goto (-45), 3) := by decide +kernel
theorem dX3_allGo_50 : decode cX3_allGo 50 = .ok (.iconst 1, 1) := by decide +kernel
theorem dX3_allGo_51 : decode cX3_allGo 51 = .ok (.ireturn, 1) := by decide +kernel
theorem dX3_slipped_0 : decode cX3_slipped 0 = .ok (.iload_n 1, 1) := by decide +kernel
theorem dX3_slipped_1 : decode cX3_slipped 1 = .ok (.invokestatic 146, 3) := by decide +kernel
theorem dX3_slipped_4 : decode cX3_slipped 4 = .ok (.ifCond .ne 6, 3) := by decide +kernel
theorem dX3_slipped_7 : decode cX3_slipped 7 = .ok (.ldc 150, 2) := by decide +kernel
theorem dX3_slipped_9 : decode cX3_slipped 9 = .ok (.ireturn, 1) := by decide +kernel
theorem dX3_slipped_10 : decode cX3_slipped 10 = .ok (.iload_n 2, 1) := by decide +kernel
theorem dX3_slipped_11 : decode cX3_slipped 11 = .ok (.invokestatic 151, 3) := by decide +kernel
theorem dX3_slipped_14 : decode cX3_slipped 14 = .ok (.ifCond .ne 6, 3) := by decide +kernel
theorem dX3_slipped_17 : decode cX3_slipped 17 = .ok (.ldc 154, 2) := by decide +kernel
theorem dX3_slipped_19 : decode cX3_slipped 19 = .ok (.ireturn, 1) := by decide +kernel
theorem dX3_slipped_20 : decode cX3_slipped 20 = .ok (.aload_n 0, 1) := by decide +kernel
theorem dX3_slipped_21 : decode cX3_slipped 21 = .ok (.getfield 35, 3) := by decide +kernel
theorem dX3_slipped_24 : decode cX3_slipped 24 = .ok (.iload_n 1, 1) := by decide +kernel
theorem dX3_slipped_25 : decode cX3_slipped 25 = .ok (.iaload, 1) := by decide +kernel
theorem dX3_slipped_26 : decode cX3_slipped 26 = .ok (.istore_n 3, 1) := by decide +kernel
theorem dX3_slipped_27 : decode cX3_slipped 27 = .ok (.ldc 218, 2) := by decide +kernel
theorem dX3_slipped_29 : decode cX3_slipped 29 = .ok (.istore 4, 2) := by decide +kernel
theorem dX3_slipped_31 : decode cX3_slipped 31 = .ok (.iconst 0, 1) := by decide +kernel
theorem dX3_slipped_32 : decode cX3_slipped 32 = .ok (.istore 5, 2) := by decide +kernel
theorem dX3_slipped_34 : decode cX3_slipped 34 = .ok (.iload 5, 2) := by decide +kernel
theorem dX3_slipped_36 : decode cX3_slipped 36 = .ok (.bipush 121, 2) := by decide +kernel
theorem dX3_slipped_38 : decode cX3_slipped 38 = .ok (.if_icmp .ge 60, 3) := by decide +kernel
theorem dX3_slipped_41 : decode cX3_slipped 41 = .ok (.iload 4, 2) := by decide +kernel
theorem dX3_slipped_43 : decode cX3_slipped 43 = .ok (.ldc 218, 2) := by decide +kernel
theorem dX3_slipped_45 : decode cX3_slipped 45 = .ok (.if_icmp .ne 53, 3) := by decide +kernel
theorem dX3_slipped_48 : decode cX3_slipped 48 = .ok (.iload_n 2, 1) := by decide +kernel
theorem dX3_slipped_49 : decode cX3_slipped 49 = .ok (.ifCond .ne 11, 3) := by decide +kernel
theorem dX3_slipped_52 : decode cX3_slipped 52 = .ok (.iload 5, 2) := by decide +kernel
theorem dX3_slipped_54 : decode cX3_slipped 54 = .ok (.bipush 60, 2) := by decide +kernel
theorem dX3_slipped_56 : decode cX3_slipped 56 = .ok (.isub, 1) := by decide +kernel
theorem dX3_slipped_57 : decode cX3_slipped 57 = .ok (.goto 8, 3) := by decide +kernel
theorem dX3_slipped_60 : decode cX3_slipped 60 = .ok (.bipush 60, 2) := by decide +kernel
theorem dX3_slipped_62 : decode cX3_slipped 62 = .ok (.iload 5, 2) := by decide +kernel
theorem dX3_slipped_64 : decode cX3_slipped 64 = .ok (.isub, 1) := by decide +kernel
theorem dX3_slipped_65 : decode cX3_slipped 65 = .ok (.istore 6, 2) := by decide +kernel
theorem dX3_slipped_67 : decode cX3_slipped 67 = .ok (.aload_n 0, 1) := by decide +kernel
theorem dX3_slipped_68 : decode cX3_slipped 68 = .ok (.getfield 35, 3) := by decide +kernel
theorem dX3_slipped_71 : decode cX3_slipped 71 = .ok (.iload_n 1, 1) := by decide +kernel
theorem dX3_slipped_72 : decode cX3_slipped 72 = .ok (.iload 6, 2) := by decide +kernel
theorem dX3_slipped_74 : decode cX3_slipped 74 = .ok (.iastore, 1) := by decide +kernel
theorem dX3_slipped_75 : decode cX3_slipped 75 = .ok (.aload_n 0, 1) := by decide +kernel
theorem dX3_slipped_76 : decode cX3_slipped 76 = .ok (.iload_n 1, 1) := by decide +kernel
theorem dX3_slipped_77 : decode cX3_slipped 77 = .ok (.invokevirtual 219, 3) := by decide +kernel
theorem dX3_slipped_80 : decode cX3_slipped 80 = .ok (.ifCond .eq 8, 3) := by decide +kernel
theorem dX3_slipped_83 : decode cX3_slipped 83 = .ok (.iload 6, 2) := by decide +kernel
theorem dX3_slipped_85 : decode cX3_slipped 85 = .ok (.goto 5, 3) := by decide +kernel
theorem dX3_slipped_88 : decode cX3_slipped 88 = .ok (.iload 4, 2) := by decide +kernel
theorem dX3_slipped_90 : decode cX3_slipped 90 = .ok (.istore 4, 2) := by decide +kernel
theorem dX3_slipped_92 : decode cX3_slipped 92 = .ok (.iinc 5 1, 3) := by decide +kernel
theorem dX3_slipped_95 : decode cX3_slipped 95 = .ok (.goto (-61), 3) := by decide +kernel
theorem dX3_slipped_98 : decode cX3_slipped 98 = .ok (.aload_n 0, 1) := by decide +kernel
theorem dX3_slipped_99 : decode cX3_slipped 99 = .ok (.getfield 35, 3) := by decide +kernel
theorem dX3_slipped_102 : decode cX3_slipped 102 = .ok (.iload_n 1, 1) := by decide +kernel
theorem dX3_slipped_103 : decode cX3_slipped 103 = .ok (.iload_n 3, 1) := by decide +kernel
theorem dX3_slipped_104 : decode cX3_slipped 104 = .ok (.iastore, 1) := by decide +kernel
theorem dX3_slipped_105 : decode cX3_slipped 105 = .ok (.iload 4, 2) := by decide +kernel
theorem dX3_slipped_107 : decode cX3_slipped 107 = .ok (.ireturn, 1) := by decide +kernel
theorem dX3_isMarked_0 : decode cX3_isMarked 0 = .ok (.iconst 0, 1) := by decide +kernel
theorem dX3_isMarked_1 : decode cX3_isMarked 1 = .ok (.istore_n 3, 1) := by decide +kernel
theorem dX3_isMarked_2 : decode cX3_isMarked 2 = .ok (.iconst 0, 1) := by decide +kernel
theorem dX3_isMarked_3 : decode cX3_isMarked 3 = .ok (.istore 4, 2) := by decide +kernel
theorem dX3_isMarked_5 : decode cX3_isMarked 5 = .ok (.iload 4, 2) := by decide +kernel
theorem dX3_isMarked_7 : decode cX3_isMarked 7 = .ok (.aload_n 0, 1) := by decide +kernel
theorem dX3_isMarked_8 : decode cX3_isMarked 8 = .ok (.getfield 45, 3) := by decide +kernel
theorem dX3_isMarked_11 : decode cX3_isMarked 11 = .ok (.iload_n 1, 1) := by decide +kernel
theorem dX3_isMarked_12 : decode cX3_isMarked 12 = .ok (.iaload, 1) := by decide +kernel
theorem dX3_isMarked_13 : decode cX3_isMarked 13 = .ok (.if_icmp .ge 49, 3) := by decide +kernel
theorem dX3_isMarked_16 : decode cX3_isMarked 16 = .ok (.bipush 12, 2) := by decide +kernel
theorem dX3_isMarked_18 : decode cX3_isMarked 18 = .ok (.iload_n 1, 1) := by decide +kernel
theorem dX3_isMarked_19 : decode cX3_isMarked 19 = .ok (.imul, 1) := by decide +kernel
theorem dX3_isMarked_20 : decode cX3_isMarked 20 = .ok (.iload 4, 2) := by decide +kernel
theorem dX3_isMarked_22 : decode cX3_isMarked 22 = .ok (.iadd, 1) := by decide +kernel
theorem dX3_isMarked_23 : decode cX3_isMarked 23 = .ok (.istore 5, 2) := by decide +kernel
theorem dX3_isMarked_25 : decode cX3_isMarked 25 = .ok (.iload_n 3, 1) := by decide +kernel
theorem dX3_isMarked_26 : decode cX3_isMarked 26 = .ok (.ifCond .ne 24, 3) := by decide +kernel
theorem dX3_isMarked_29 : decode cX3_isMarked 29 = .ok (.aload_n 0, 1) := by decide +kernel
theorem dX3_isMarked_30 : decode cX3_isMarked 30 = .ok (.getfield 48, 3) := by decide +kernel
theorem dX3_isMarked_33 : decode cX3_isMarked 33 = .ok (.iload 5, 2) := by decide +kernel
theorem dX3_isMarked_35 : decode cX3_isMarked 35 = .ok (.iaload, 1) := by decide +kernel
theorem dX3_isMarked_36 : decode cX3_isMarked 36 = .ok (.iload_n 2, 1) := by decide +kernel
theorem dX3_isMarked_37 : decode cX3_isMarked 37 = .ok (.if_icmp .ne 17, 3) := by decide +kernel
theorem dX3_isMarked_40 : decode cX3_isMarked 40 = .ok (.aload_n 0, 1) := by decide +kernel
theorem dX3_isMarked_41 : decode cX3_isMarked 41 = .ok (.iload_n 1, 1) := by decide +kernel
theorem dX3_isMarked_42 : decode cX3_isMarked 42 = .ok (.iload 5, 2) := by decide +kernel
theorem dX3_isMarked_44 : decode cX3_isMarked 44 = .ok (.invokevirtual 171, 3) := by decide +kernel
theorem dX3_isMarked_47 : decode cX3_isMarked 47 = .ok (.ifCond .eq 7, 3) := by decide +kernel
theorem dX3_isMarked_50 : decode cX3_isMarked 50 = .ok (.iconst 1, 1) := by decide +kernel
theorem dX3_isMarked_51 : decode cX3_isMarked 51 = .ok (.goto 4, 3) := by decide +kernel
theorem dX3_isMarked_54 : decode cX3_isMarked 54 = .ok (.iconst 0, 1) := by decide +kernel
theorem dX3_isMarked_55 : decode cX3_isMarked 55 = .ok (.istore_n 3, 1) := by decide +kernel
theorem dX3_isMarked_56 : decode cX3_isMarked 56 = .ok (.iinc 4 1, 3) := by decide +kernel
theorem dX3_isMarked_59 : decode cX3_isMarked 59 = .ok (.goto (-54), 3) := by decide +kernel
theorem dX3_isMarked_62 : decode cX3_isMarked 62 = .ok (.iload_n 3, 1) := by decide +kernel
theorem dX3_isMarked_63 : decode cX3_isMarked 63 = .ok (.ireturn, 1) := by decide +kernel
theorem dX3_ask_0 : decode cX3_ask 0 = .ok (.iload_n 1, 1) := by decide +kernel
theorem dX3_ask_1 : decode cX3_ask 1 = .ok (.invokestatic 146, 3) := by decide +kernel
theorem dX3_ask_4 : decode cX3_ask 4 = .ok (.ifCond .ne 5, 3) := by decide +kernel
theorem dX3_ask_7 : decode cX3_ask 7 = .ok (.iconst (-1), 1) := by decide +kernel
theorem dX3_ask_8 : decode cX3_ask 8 = .ok (.ireturn, 1) := by decide +kernel
theorem dX3_ask_9 : decode cX3_ask 9 = .ok (.bipush (-6), 2) := by decide +kernel
theorem dX3_ask_11 : decode cX3_ask 11 = .ok (.istore_n 2, 1) := by decide +kernel
theorem dX3_ask_12 : decode cX3_ask 12 = .ok (.iconst 0, 1) := by decide +kernel
theorem dX3_ask_13 : decode cX3_ask 13 = .ok (.istore_n 3, 1) := by decide +kernel
theorem dX3_ask_14 : decode cX3_ask 14 = .ok (.iconst 0, 1) := by decide +kernel
theorem dX3_ask_15 : decode cX3_ask 15 = .ok (.istore 4, 2) := by decide +kernel
theorem dX3_ask_17 : decode cX3_ask 17 = .ok (.iload 4, 2) := by decide +kernel
theorem dX3_ask_19 : decode cX3_ask 19 = .ok (.aload_n 0, 1) := by decide +kernel
theorem dX3_ask_20 : decode cX3_ask 20 = .ok (.getfield 115, 3) := by decide +kernel
theorem dX3_ask_23 : decode cX3_ask 23 = .ok (.if_icmp .ge 90, 3) := by decide +kernel
theorem dX3_ask_26 : decode cX3_ask 26 = .ok (.iconst 0, 1) := by decide +kernel
theorem dX3_ask_27 : decode cX3_ask 27 = .ok (.istore 5, 2) := by decide +kernel
theorem dX3_ask_29 : decode cX3_ask 29 = .ok (.iload 5, 2) := by decide +kernel
theorem dX3_ask_31 : decode cX3_ask 31 = .ok (.iconst 3, 1) := by decide +kernel
theorem dX3_ask_32 : decode cX3_ask 32 = .ok (.if_icmp .ge 75, 3) := by decide +kernel
theorem dX3_ask_35 : decode cX3_ask 35 = .ok (.aload_n 0, 1) := by decide +kernel
theorem dX3_ask_36 : decode cX3_ask 36 = .ok (.iload 4, 2) := by decide +kernel
theorem dX3_ask_38 : decode cX3_ask 38 = .ok (.iload 5, 2) := by decide +kernel
theorem dX3_ask_40 : decode cX3_ask 40 = .ok (.invokevirtual 222, 3) := by decide +kernel
theorem dX3_ask_43 : decode cX3_ask 43 = .ok (.ifCond .eq 58, 3) := by decide +kernel
theorem dX3_ask_46 : decode cX3_ask 46 = .ok (.aload_n 0, 1) := by decide +kernel
theorem dX3_ask_47 : decode cX3_ask 47 = .ok (.iload 4, 2) := by decide +kernel
theorem dX3_ask_49 : decode cX3_ask 49 = .ok (.iload 5, 2) := by decide +kernel
theorem dX3_ask_51 : decode cX3_ask 51 = .ok (.invokevirtual 175, 3) := by decide +kernel
theorem dX3_ask_54 : decode cX3_ask 54 = .ok (.ifCond .eq 47, 3) := by decide +kernel
theorem dX3_ask_57 : decode cX3_ask 57 = .ok (.iload_n 2, 1) := by decide +kernel
theorem dX3_ask_58 : decode cX3_ask 58 = .ok (.ifCond .lt 20, 3) := by decide +kernel
theorem dX3_ask_61 : decode cX3_ask 61 = .ok (.aload_n 0, 1) := by decide +kernel
theorem dX3_ask_62 : decode cX3_ask 62 = .ok (.getfield 87, 3) := by decide +kernel
theorem dX3_ask_65 : decode cX3_ask 65 = .ok (.iload_n 1, 1) := by decide +kernel
theorem dX3_ask_66 : decode cX3_ask 66 = .ok (.iaload, 1) := by decide +kernel
theorem dX3_ask_67 : decode cX3_ask 67 = .ok (.aload_n 0, 1) := by decide +kernel
theorem dX3_ask_68 : decode cX3_ask 68 = .ok (.getfield 84, 3) := by decide +kernel
theorem dX3_ask_71 : decode cX3_ask 71 = .ok (.iload_n 1, 1) := by decide +kernel
theorem dX3_ask_72 : decode cX3_ask 72 = .ok (.iaload, 1) := by decide +kernel
theorem dX3_ask_73 : decode cX3_ask 73 = .ok (.isub, 1) := by decide +kernel
theorem dX3_ask_74 : decode cX3_ask 74 = .ok (.iload_n 3, 1) := by decide +kernel
theorem dX3_ask_75 : decode cX3_ask 75 = .ok (.if_icmp .ge 26, 3) := by decide +kernel
theorem dX3_ask_78 : decode cX3_ask 78 = .ok (.bipush 10, 2) := by decide +kernel
theorem dX3_ask_80 : decode cX3_ask 80 = .ok (.iload 4, 2) := by decide +kernel
theorem dX3_ask_82 : decode cX3_ask 82 = .ok (.imul, 1) := by decide +kernel
theorem dX3_ask_83 : decode cX3_ask 83 = .ok (.iload 5, 2) := by decide +kernel
theorem dX3_ask_85 : decode cX3_ask 85 = .ok (.iadd, 1) := by decide +kernel
theorem dX3_ask_86 : decode cX3_ask 86 = .ok (.istore_n 2, 1) := by decide +kernel
theorem dX3_ask_87 : decode cX3_ask 87 = .ok (.aload_n 0, 1) := by decide +kernel
theorem dX3_ask_88 : decode cX3_ask 88 = .ok (.getfield 87, 3) := by decide +kernel
theorem dX3_ask_91 : decode cX3_ask 91 = .ok (.iload_n 1, 1) := by decide +kernel
theorem dX3_ask_92 : decode cX3_ask 92 = .ok (.iaload, 1) := by decide +kernel
theorem dX3_ask_93 : decode cX3_ask 93 = .ok (.aload_n 0, 1) := by decide +kernel
theorem dX3_ask_94 : decode cX3_ask 94 = .ok (.getfield 84, 3) := by decide +kernel
theorem dX3_ask_97 : decode cX3_ask 97 = .ok (.iload_n 1, 1) := by decide +kernel
theorem dX3_ask_98 : decode cX3_ask 98 = .ok (.iaload, 1) := by decide +kernel
theorem dX3_ask_99 : decode cX3_ask 99 = .ok (.isub, 1) := by decide +kernel
theorem dX3_ask_100 : decode cX3_ask 100 = .ok (.istore_n 3, 1) := by decide +kernel
theorem dX3_ask_101 : decode cX3_ask 101 = .ok (.iinc 5 1, 3) := by decide +kernel
theorem dX3_ask_104 : decode cX3_ask 104 = .ok (.goto (-75), 3) := by decide +kernel
theorem dX3_ask_107 : decode cX3_ask 107 = .ok (.iinc 4 1, 3) := by decide +kernel
theorem dX3_ask_110 : decode cX3_ask 110 = .ok (.goto (-93), 3) := by decide +kernel
theorem dX3_ask_113 : decode cX3_ask 113 = .ok (.iload_n 2, 1) := by decide +kernel
theorem dX3_ask_114 : decode cX3_ask 114 = .ok (.ireturn, 1) := by decide +kernel
theorem dX3_carry_0 : decode cX3_carry 0 = .ok (.iload_n 1, 1) := by decide +kernel
theorem dX3_carry_1 : decode cX3_carry 1 = .ok (.iconst 0, 1) := by decide +kernel
theorem dX3_carry_2 : decode cX3_carry 2 = .ok (.iconst 3, 1) := by decide +kernel
theorem dX3_carry_3 : decode cX3_carry 3 = .ok (.invokestatic 111, 3) := by decide +kernel
theorem dX3_carry_6 : decode cX3_carry 6 = .ok (.ifCond .eq 14, 3) := by decide +kernel
theorem dX3_carry_9 : decode cX3_carry 9 = .ok (.aload_n 0, 1) := by decide +kernel
theorem dX3_carry_10 : decode cX3_carry 10 = .ok (.iload_n 2, 1) := by decide +kernel
theorem dX3_carry_11 : decode cX3_carry 11 = .ok (.iload_n 3, 1) := by decide +kernel
theorem dX3_carry_12 : decode cX3_carry 12 = .ok (.iload 4, 2) := by decide +kernel
theorem dX3_carry_14 : decode cX3_carry 14 = .ok (.invokevirtual 164, 3) := by decide +kernel
theorem dX3_carry_17 : decode cX3_carry 17 = .ok (.ifCond .ne 5, 3) := by decide +kernel
theorem dX3_carry_20 : decode cX3_carry 20 = .ok (.iconst (-1), 1) := by decide +kernel
theorem dX3_carry_21 : decode cX3_carry 21 = .ok (.ireturn, 1) := by decide +kernel
theorem dX3_carry_22 : decode cX3_carry 22 = .ok (.iload 5, 2) := by decide +kernel
theorem dX3_carry_24 : decode cX3_carry 24 = .ok (.sipush (-9999), 3) := by decide +kernel
theorem dX3_carry_27 : decode cX3_carry 27 = .ok (.sipush 9999, 3) := by decide +kernel
theorem dX3_carry_30 : decode cX3_carry 30 = .ok (.invokestatic 111, 3) := by decide +kernel
theorem dX3_carry_33 : decode cX3_carry 33 = .ok (.ifCond .ne 6, 3) := by decide +kernel
theorem dX3_carry_36 : decode cX3_carry 36 = .ok (.bipush (-2), 2) := by decide +kernel
theorem dX3_carry_38 : decode cX3_carry 38 = .ok (.ireturn, 1) := by decide +kernel
theorem dX3_carry_39 : decode cX3_carry 39 = .ok (.aload_n 0, 1) := by decide +kernel
theorem dX3_carry_40 : decode cX3_carry 40 = .ok (.iload_n 2, 1) := by decide +kernel
theorem dX3_carry_41 : decode cX3_carry 41 = .ok (.iload_n 3, 1) := by decide +kernel
theorem dX3_carry_42 : decode cX3_carry 42 = .ok (.invokevirtual 175, 3) := by decide +kernel
theorem dX3_carry_45 : decode cX3_carry 45 = .ok (.ifCond .ne 6, 3) := by decide +kernel
theorem dX3_carry_48 : decode cX3_carry 48 = .ok (.bipush (-3), 2) := by decide +kernel
theorem dX3_carry_50 : decode cX3_carry 50 = .ok (.ireturn, 1) := by decide +kernel
theorem dX3_carry_51 : decode cX3_carry 51 = .ok (.iload 5, 2) := by decide +kernel
theorem dX3_carry_53 : decode cX3_carry 53 = .ok (.aload_n 0, 1) := by decide +kernel
theorem dX3_carry_54 : decode cX3_carry 54 = .ok (.getfield 87, 3) := by decide +kernel
theorem dX3_carry_57 : decode cX3_carry 57 = .ok (.iload 4, 2) := by decide +kernel
theorem dX3_carry_59 : decode cX3_carry 59 = .ok (.iaload, 1) := by decide +kernel
theorem dX3_carry_60 : decode cX3_carry 60 = .ok (.isub, 1) := by decide +kernel
theorem dX3_carry_61 : decode cX3_carry 61 = .ok (.iconst 2, 1) := by decide +kernel
theorem dX3_carry_62 : decode cX3_carry 62 = .ok (.isub, 1) := by decide +kernel
theorem dX3_carry_63 : decode cX3_carry 63 = .ok (.istore 6, 2) := by decide +kernel
theorem dX3_carry_65 : decode cX3_carry 65 = .ok (.iload 5, 2) := by decide +kernel
theorem dX3_carry_67 : decode cX3_carry 67 = .ok (.aload_n 0, 1) := by decide +kernel
theorem dX3_carry_68 : decode cX3_carry 68 = .ok (.getfield 84, 3) := by decide +kernel
theorem dX3_carry_71 : decode cX3_carry 71 = .ok (.iload 4, 2) := by decide +kernel
theorem dX3_carry_73 : decode cX3_carry 73 = .ok (.iaload, 1) := by decide +kernel
theorem dX3_carry_74 : decode cX3_carry 74 = .ok (.isub, 1) := by decide +kernel
theorem dX3_carry_75 : decode cX3_carry 75 = .ok (.iconst 2, 1) := by decide +kernel
theorem dX3_carry_76 : decode cX3_carry 76 = .ok (.iadd, 1) := by decide +kernel
theorem dX3_carry_77 : decode cX3_carry 77 = .ok (.istore 7, 2) := by decide +kernel
theorem dX3_carry_79 : decode cX3_carry 79 = .ok (.iload 6, 2) := by decide +kernel
theorem dX3_carry_81 : decode cX3_carry 81 = .ok (.aload_n 0, 1) := by decide +kernel
theorem dX3_carry_82 : decode cX3_carry 82 = .ok (.getfield 78, 3) := by decide +kernel
theorem dX3_carry_85 : decode cX3_carry 85 = .ok (.iload_n 1, 1) := by decide +kernel
theorem dX3_carry_86 : decode cX3_carry 86 = .ok (.iaload, 1) := by decide +kernel
theorem dX3_carry_87 : decode cX3_carry 87 = .ok (.if_icmp .le 8, 3) := by decide +kernel
theorem dX3_carry_90 : decode cX3_carry 90 = .ok (.iload 6, 2) := by decide +kernel
theorem dX3_carry_92 : decode cX3_carry 92 = .ok (.goto 9, 3) := by decide +kernel
theorem dX3_carry_95 : decode cX3_carry 95 = .ok (.aload_n 0, 1) := by decide +kernel
theorem dX3_carry_96 : decode cX3_carry 96 = .ok (.getfield 78, 3) := by decide +kernel
theorem dX3_carry_99 : decode cX3_carry 99 = .ok (.iload_n 1, 1) := by decide +kernel
theorem dX3_carry_100 : decode cX3_carry 100 = .ok (.iaload, 1) := by decide +kernel
theorem dX3_carry_101 : decode cX3_carry 101 = .ok (.istore 6, 2) := by decide +kernel
theorem dX3_carry_103 : decode cX3_carry 103 = .ok (.iload 7, 2) := by decide +kernel
theorem dX3_carry_105 : decode cX3_carry 105 = .ok (.aload_n 0, 1) := by decide +kernel
theorem dX3_carry_106 : decode cX3_carry 106 = .ok (.getfield 81, 3) := by decide +kernel
theorem dX3_carry_109 : decode cX3_carry 109 = .ok (.iload_n 1, 1) := by decide +kernel
theorem dX3_carry_110 : decode cX3_carry 110 = .ok (.iaload, 1) := by decide +kernel
theorem dX3_carry_111 : decode cX3_carry 111 = .ok (.if_icmp .ge 8, 3) := by decide +kernel
theorem dX3_carry_114 : decode cX3_carry 114 = .ok (.iload 7, 2) := by decide +kernel
theorem dX3_carry_116 : decode cX3_carry 116 = .ok (.goto 9, 3) := by decide +kernel
theorem dX3_carry_119 : decode cX3_carry 119 = .ok (.aload_n 0, 1) := by decide +kernel
theorem dX3_carry_120 : decode cX3_carry 120 = .ok (.getfield 81, 3) := by decide +kernel
theorem dX3_carry_123 : decode cX3_carry 123 = .ok (.iload_n 1, 1) := by decide +kernel
theorem dX3_carry_124 : decode cX3_carry 124 = .ok (.iaload, 1) := by decide +kernel
theorem dX3_carry_125 : decode cX3_carry 125 = .ok (.istore 7, 2) := by decide +kernel
theorem dX3_carry_127 : decode cX3_carry 127 = .ok (.iload 6, 2) := by decide +kernel
theorem dX3_carry_129 : decode cX3_carry 129 = .ok (.iload 7, 2) := by decide +kernel
theorem dX3_carry_131 : decode cX3_carry 131 = .ok (.if_icmp .le 6, 3) := by decide +kernel
theorem dX3_carry_134 : decode cX3_carry 134 = .ok (.bipush (-5), 2) := by decide +kernel
theorem dX3_carry_136 : decode cX3_carry 136 = .ok (.ireturn, 1) := by decide +kernel
theorem dX3_carry_137 : decode cX3_carry 137 = .ok (.aload_n 0, 1) := by decide +kernel
theorem dX3_carry_138 : decode cX3_carry 138 = .ok (.getfield 78, 3) := by decide +kernel
theorem dX3_carry_141 : decode cX3_carry 141 = .ok (.iload_n 1, 1) := by decide +kernel
theorem dX3_carry_142 : decode cX3_carry 142 = .ok (.iload 6, 2) := by decide +kernel
theorem dX3_carry_144 : decode cX3_carry 144 = .ok (.iastore, 1) := by decide +kernel
theorem dX3_carry_145 : decode cX3_carry 145 = .ok (.aload_n 0, 1) := by decide +kernel
theorem dX3_carry_146 : decode cX3_carry 146 = .ok (.getfield 81, 3) := by decide +kernel
theorem dX3_carry_149 : decode cX3_carry 149 = .ok (.iload_n 1, 1) := by decide +kernel
theorem dX3_carry_150 : decode cX3_carry 150 = .ok (.iload 7, 2) := by decide +kernel
theorem dX3_carry_152 : decode cX3_carry 152 = .ok (.iastore, 1) := by decide +kernel
theorem dX3_carry_153 : decode cX3_carry 153 = .ok (.iconst 1, 1) := by decide +kernel
theorem dX3_carry_154 : decode cX3_carry 154 = .ok (.ireturn, 1) := by decide +kernel
theorem dX3_port_0 : decode cX3_port 0 = .ok (.iload_n 1, 1) := by decide +kernel
theorem dX3_port_1 : decode cX3_port 1 = .ok (.iconst 0, 1) := by decide +kernel
theorem dX3_port_2 : decode cX3_port 2 = .ok (.iconst 3, 1) := by decide +kernel
theorem dX3_port_3 : decode cX3_port 3 = .ok (.invokestatic 111, 3) := by decide +kernel
theorem dX3_port_6 : decode cX3_port 6 = .ok (.ifCond .ne 6, 3) := by decide +kernel
theorem dX3_port_9 : decode cX3_port 9 = .ok (.ldc 150, 2) := by decide +kernel
theorem dX3_port_11 : decode cX3_port 11 = .ok (.ireturn, 1) := by decide +kernel
theorem dX3_port_12 : decode cX3_port 12 = .ok (.iload_n 2, 1) := by decide +kernel
theorem dX3_port_13 : decode cX3_port 13 = .ok (.invokestatic 151, 3) := by decide +kernel
theorem dX3_port_16 : decode cX3_port 16 = .ok (.ifCond .ne 8, 3) := by decide +kernel
theorem dX3_port_19 : decode cX3_port 19 = .ok (.ldc 154, 2) := by decide +kernel
theorem dX3_port_21 : decode cX3_port 21 = .ok (.goto 22, 3) := by decide +kernel
theorem dX3_port_24 : decode cX3_port 24 = .ok (.iload_n 2, 1) := by decide +kernel
theorem dX3_port_25 : decode cX3_port 25 = .ok (.ifCond .ne 12, 3) := by decide +kernel
theorem dX3_port_28 : decode cX3_port 28 = .ok (.aload_n 0, 1) := by decide +kernel
theorem dX3_port_29 : decode cX3_port 29 = .ok (.getfield 78, 3) := by decide +kernel
theorem dX3_port_32 : decode cX3_port 32 = .ok (.iload_n 1, 1) := by decide +kernel
theorem dX3_port_33 : decode cX3_port 33 = .ok (.iaload, 1) := by decide +kernel
theorem dX3_port_34 : decode cX3_port 34 = .ok (.goto 9, 3) := by decide +kernel
theorem dX3_port_37 : decode cX3_port 37 = .ok (.aload_n 0, 1) := by decide +kernel
theorem dX3_port_38 : decode cX3_port 38 = .ok (.getfield 81, 3) := by decide +kernel
theorem dX3_port_41 : decode cX3_port 41 = .ok (.iload_n 1, 1) := by decide +kernel
theorem dX3_port_42 : decode cX3_port 42 = .ok (.iaload, 1) := by decide +kernel
theorem dX3_port_43 : decode cX3_port 43 = .ok (.ireturn, 1) := by decide +kernel
theorem dX3_told_0 : decode cX3_told 0 = .ok (.iconst 0, 1) := by decide +kernel
theorem dX3_told_1 : decode cX3_told 1 = .ok (.istore_n 2, 1) := by decide +kernel
theorem dX3_told_2 : decode cX3_told 2 = .ok (.iconst 0, 1) := by decide +kernel
theorem dX3_told_3 : decode cX3_told 3 = .ok (.istore_n 3, 1) := by decide +kernel
theorem dX3_told_4 : decode cX3_told 4 = .ok (.iload_n 3, 1) := by decide +kernel
theorem dX3_told_5 : decode cX3_told 5 = .ok (.bipush 20, 2) := by decide +kernel
theorem dX3_told_7 : decode cX3_told 7 = .ok (.if_icmp .ge 28, 3) := by decide +kernel
theorem dX3_told_10 : decode cX3_told 10 = .ok (.iload_n 2, 1) := by decide +kernel
theorem dX3_told_11 : decode cX3_told 11 = .ok (.aload_n 0, 1) := by decide +kernel
theorem dX3_told_12 : decode cX3_told 12 = .ok (.getfield 38, 3) := by decide +kernel
theorem dX3_told_15 : decode cX3_told 15 = .ok (.iload_n 3, 1) := by decide +kernel
theorem dX3_told_16 : decode cX3_told 16 = .ok (.baload, 1) := by decide +kernel
theorem dX3_told_17 : decode cX3_told 17 = .ok (.ifCond .eq 9, 3) := by decide +kernel
theorem dX3_told_20 : decode cX3_told 20 = .ok (.iconst 1, 1) := by decide +kernel
theorem dX3_told_21 : decode cX3_told 21 = .ok (.iload_n 3, 1) := by decide +kernel
theorem dX3_told_22 : decode cX3_told 22 = .ok (.ishl, 1) := by decide +kernel
theorem dX3_told_23 : decode cX3_told 23 = .ok (.goto 4, 3) := by decide +kernel
theorem dX3_told_26 : decode cX3_told 26 = .ok (.iconst 0, 1) := by decide +kernel
theorem dX3_told_27 : decode cX3_told 27 = .ok (.ior, 1) := by decide +kernel
theorem dX3_told_28 : decode cX3_told 28 = .ok (.istore_n 2, 1) := by decide +kernel
theorem dX3_told_29 : decode cX3_told 29 = .ok (.iinc 3 1, 3) := by decide +kernel
theorem dX3_told_32 : decode cX3_told 32 = .ok (.goto (-28), 3) := by decide +kernel
theorem dX3_told_35 : decode cX3_told 35 = .ok (.iload_n 1, 1) := by decide +kernel
theorem dX3_told_36 : decode cX3_told 36 = .ok (.iconst 4, 1) := by decide +kernel
theorem dX3_told_37 : decode cX3_told 37 = .ok (.bipush 7, 2) := by decide +kernel
theorem dX3_told_39 : decode cX3_told 39 = .ok (.invokestatic 111, 3) := by decide +kernel
theorem dX3_told_42 : decode cX3_told 42 = .ok (.ifCond .eq 27, 3) := by decide +kernel
theorem dX3_told_45 : decode cX3_told 45 = .ok (.aload_n 0, 1) := by decide +kernel
theorem dX3_told_46 : decode cX3_told 46 = .ok (.iload_n 1, 1) := by decide +kernel
theorem dX3_told_47 : decode cX3_told 47 = .ok (.iconst 4, 1) := by decide +kernel
theorem dX3_told_48 : decode cX3_told 48 = .ok (.isub, 1) := by decide +kernel
theorem dX3_told_49 : decode cX3_told 49 = .ok (.invokevirtual 158, 3) := by decide +kernel
theorem dX3_told_52 : decode cX3_told 52 = .ok (.ifCond .eq 14, 3) := by decide +kernel
theorem dX3_told_55 : decode cX3_told 55 = .ok (.aload_n 0, 1) := by decide +kernel
theorem dX3_told_56 : decode cX3_told 56 = .ok (.getfield 45, 3) := by decide +kernel
theorem dX3_told_59 : decode cX3_told 59 = .ok (.iload_n 1, 1) := by decide +kernel
theorem dX3_told_60 : decode cX3_told 60 = .ok (.iconst 4, 1) := by decide +kernel
theorem dX3_told_61 : decode cX3_told 61 = .ok (.isub, 1) := by decide +kernel
theorem dX3_told_62 : decode cX3_told 62 = .ok (.iaload, 1) := by decide +kernel
theorem dX3_told_63 : decode cX3_told 63 = .ok (.goto 5, 3) := by decide +kernel
theorem dX3_told_66 : decode cX3_told 66 = .ok (.bipush (-6), 2) := by decide +kernel
theorem dX3_told_68 : decode cX3_told 68 = .ok (.ireturn, 1) := by decide +kernel
theorem dX3_told_69 : decode cX3_told 69 = .ok (.iload_n 1, 1) := by decide +kernel
theorem dX3_told_70 : decode cX3_told 70 = .ok (.ifCond .ne 10, 3) := by decide +kernel
theorem dX3_told_73 : decode cX3_told 73 = .ok (.aload_n 0, 1) := by decide +kernel
theorem dX3_told_74 : decode cX3_told 74 = .ok (.getfield 140, 3) := by decide +kernel
theorem dX3_told_77 : decode cX3_told 77 = .ok (.goto 38, 3) := by decide +kernel
theorem dX3_told_80 : decode cX3_told 80 = .ok (.iload_n 1, 1) := by decide +kernel
theorem dX3_told_81 : decode cX3_told 81 = .ok (.iconst 1, 1) := by decide +kernel
theorem dX3_told_82 : decode cX3_told 82 = .ok (.if_icmp .ne 10, 3) := by decide +kernel
theorem dX3_told_85 : decode cX3_told 85 = .ok (.aload_n 0, 1) := by decide +kernel
theorem dX3_told_86 : decode cX3_told 86 = .ok (.getfield 115, 3) := by decide +kernel
theorem dX3_told_89 : decode cX3_told 89 = .ok (.goto 26, 3) := by decide +kernel
theorem dX3_told_92 : decode cX3_told 92 = .ok (.iload_n 1, 1) := by decide +kernel
theorem dX3_told_93 : decode cX3_told 93 = .ok (.iconst 2, 1) := by decide +kernel
theorem dX3_told_94 : decode cX3_told 94 = .ok (.if_icmp .ne 10, 3) := by decide +kernel
theorem dX3_told_97 : decode cX3_told 97 = .ok (.aload_n 0, 1) := by decide +kernel
theorem dX3_told_98 : decode cX3_told 98 = .ok (.getfield 19, 3) := by decide +kernel
theorem dX3_told_101 : decode cX3_told 101 = .ok (.goto 14, 3) := by decide +kernel
theorem dX3_told_104 : decode cX3_told 104 = .ok (.iload_n 1, 1) := by decide +kernel
theorem dX3_told_105 : decode cX3_told 105 = .ok (.iconst 3, 1) := by decide +kernel
theorem dX3_told_106 : decode cX3_told 106 = .ok (.if_icmp .ne 7, 3) := by decide +kernel
theorem dX3_told_109 : decode cX3_told 109 = .ok (.iload_n 2, 1) := by decide +kernel
theorem dX3_told_110 : decode cX3_told 110 = .ok (.goto 5, 3) := by decide +kernel
theorem dX3_told_113 : decode cX3_told 113 = .ok (.bipush (-2), 2) := by decide +kernel
theorem dX3_told_115 : decode cX3_told 115 = .ok (.ireturn, 1) := by decide +kernel
