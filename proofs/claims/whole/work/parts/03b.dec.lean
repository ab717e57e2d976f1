theorem dX10_init_0 : decode cX10_init 0 = .ok (.aload_n 0, 1) := by decide +kernel
theorem dX10_init_1 : decode cX10_init 1 = .ok (.invokespecial 1, 3) := by decide +kernel
theorem dX10_init_4 : decode cX10_init 4 = .ok (.aload_n 0, 1) := by decide +kernel
theorem dX10_init_5 : decode cX10_init 5 = .ok (.bipush 12, 2) := by decide +kernel
theorem dX10_init_7 : decode cX10_init 7 = .ok (.newarray .int, 2) := by decide +kernel
theorem dX10_init_9 : decode cX10_init 9 = .ok (.putfield 7, 3) := by decide +kernel
theorem dX10_init_12 : decode cX10_init 12 = .ok (.aload_n 0, 1) := by decide +kernel
theorem dX10_init_13 : decode cX10_init 13 = .ok (.bipush 12, 2) := by decide +kernel
theorem dX10_init_15 : decode cX10_init 15 = .ok (.newarray .int, 2) := by decide +kernel
theorem dX10_init_17 : decode cX10_init 17 = .ok (.putfield 13, 3) := by decide +kernel
theorem dX10_init_20 : decode cX10_init 20 = .ok (.aload_n 0, 1) := by decide +kernel
theorem dX10_init_21 : decode cX10_init 21 = .ok (.bipush 12, 2) := by decide +kernel
theorem dX10_init_23 : decode cX10_init 23 = .ok (.newarray .int, 2) := by decide +kernel
theorem dX10_init_25 : decode cX10_init 25 = .ok (.putfield 16, 3) := by decide +kernel
theorem dX10_init_28 : decode cX10_init 28 = .ok (.aload_n 0, 1) := by decide +kernel
theorem dX10_init_29 : decode cX10_init 29 = .ok (.bipush 12, 2) := by decide +kernel
theorem dX10_init_31 : decode cX10_init 31 = .ok (.newarray .int, 2) := by decide +kernel
theorem dX10_init_33 : decode cX10_init 33 = .ok (.putfield 19, 3) := by decide +kernel
theorem dX10_init_36 : decode cX10_init 36 = .ok (.aload_n 0, 1) := by decide +kernel
theorem dX10_init_37 : decode cX10_init 37 = .ok (.bipush 12, 2) := by decide +kernel
theorem dX10_init_39 : decode cX10_init 39 = .ok (.newarray .int, 2) := by decide +kernel
theorem dX10_init_41 : decode cX10_init 41 = .ok (.putfield 22, 3) := by decide +kernel
theorem dX10_init_44 : decode cX10_init 44 = .ok (.aload_n 0, 1) := by decide +kernel
theorem dX10_init_45 : decode cX10_init 45 = .ok (.bipush 12, 2) := by decide +kernel
theorem dX10_init_47 : decode cX10_init 47 = .ok (.newarray .int, 2) := by decide +kernel
theorem dX10_init_49 : decode cX10_init 49 = .ok (.putfield 25, 3) := by decide +kernel
theorem dX10_init_52 : decode cX10_init 52 = .ok (.aload_n 0, 1) := by decide +kernel
theorem dX10_init_53 : decode cX10_init 53 = .ok (.bipush 12, 2) := by decide +kernel
theorem dX10_init_55 : decode cX10_init 55 = .ok (.newarray .boolean, 2) := by decide +kernel
theorem dX10_init_57 : decode cX10_init 57 = .ok (.putfield 28, 3) := by decide +kernel
theorem dX10_init_60 : decode cX10_init 60 = .ok (.aload_n 0, 1) := by decide +kernel
theorem dX10_init_61 : decode cX10_init 61 = .ok (.bipush 12, 2) := by decide +kernel
theorem dX10_init_63 : decode cX10_init 63 = .ok (.newarray .boolean, 2) := by decide +kernel
theorem dX10_init_65 : decode cX10_init 65 = .ok (.putfield 32, 3) := by decide +kernel
theorem dX10_init_68 : decode cX10_init 68 = .ok (.aload_n 0, 1) := by decide +kernel
theorem dX10_init_69 : decode cX10_init 69 = .ok (.bipush 36, 2) := by decide +kernel
theorem dX10_init_71 : decode cX10_init 71 = .ok (.newarray .boolean, 2) := by decide +kernel
theorem dX10_init_73 : decode cX10_init 73 = .ok (.putfield 35, 3) := by decide +kernel
theorem dX10_init_76 : decode cX10_init 76 = .ok (.aload_n 0, 1) := by decide +kernel
theorem dX10_init_77 : decode cX10_init 77 = .ok (.bipush 36, 2) := by decide +kernel
theorem dX10_init_79 : decode cX10_init 79 = .ok (.newarray .int, 2) := by decide +kernel
theorem dX10_init_81 : decode cX10_init 81 = .ok (.putfield 38, 3) := by decide +kernel
theorem dX10_init_84 : decode cX10_init 84 = .ok (.aload_n 0, 1) := by decide +kernel
theorem dX10_init_85 : decode cX10_init 85 = .ok (.bipush 36, 2) := by decide +kernel
theorem dX10_init_87 : decode cX10_init 87 = .ok (.newarray .int, 2) := by decide +kernel
theorem dX10_init_89 : decode cX10_init 89 = .ok (.putfield 41, 3) := by decide +kernel
theorem dX10_init_92 : decode cX10_init 92 = .ok (.aload_n 0, 1) := by decide +kernel
theorem dX10_init_93 : decode cX10_init 93 = .ok (.bipush 100, 2) := by decide +kernel
theorem dX10_init_95 : decode cX10_init 95 = .ok (.newarray .int, 2) := by decide +kernel
theorem dX10_init_97 : decode cX10_init 97 = .ok (.putfield 44, 3) := by decide +kernel
theorem dX10_init_100 : decode cX10_init 100 = .ok (.aload_n 0, 1) := by decide +kernel
theorem dX10_init_101 : decode cX10_init 101 = .ok (.iconst (-1), 1) := by decide +kernel
theorem dX10_init_102 : decode cX10_init 102 = .ok (.putfield 47, 3) := by decide +kernel
theorem dX10_init_105 : decode cX10_init 105 = .ok (.aload_n 0, 1) := by decide +kernel
theorem dX10_init_106 : decode cX10_init 106 = .ok (.bipush 48, 2) := by decide +kernel
theorem dX10_init_108 : decode cX10_init 108 = .ok (.newarray .int, 2) := by decide +kernel
theorem dX10_init_110 : decode cX10_init 110 = .ok (.putfield 51, 3) := by decide +kernel
theorem dX10_init_113 : decode cX10_init 113 = .ok (.aload_n 0, 1) := by decide +kernel
theorem dX10_init_114 : decode cX10_init 114 = .ok (.bipush 8, 2) := by decide +kernel
theorem dX10_init_116 : decode cX10_init 116 = .ok (.newarray .int, 2) := by decide +kernel
theorem dX10_init_118 : decode cX10_init 118 = .ok (.putfield 54, 3) := by decide +kernel
theorem dX10_init_121 : decode cX10_init 121 = .ok (.aload_n 0, 1) := by decide +kernel
theorem dX10_init_122 : decode cX10_init 122 = .ok (.iconst 2, 1) := by decide +kernel
theorem dX10_init_123 : decode cX10_init 123 = .ok (.newarray .int, 2) := by decide +kernel
theorem dX10_init_125 : decode cX10_init 125 = .ok (.putfield 57, 3) := by decide +kernel
theorem dX10_init_128 : decode cX10_init 128 = .ok (.aload_n 0, 1) := by decide +kernel
theorem dX10_init_129 : decode cX10_init 129 = .ok (.bipush 12, 2) := by decide +kernel
theorem dX10_init_131 : decode cX10_init 131 = .ok (.newarray .long, 2) := by decide +kernel
theorem dX10_init_133 : decode cX10_init 133 = .ok (.putfield 60, 3) := by decide +kernel
theorem dX10_init_136 : decode cX10_init 136 = .ok (.aload_n 0, 1) := by decide +kernel
theorem dX10_init_137 : decode cX10_init 137 = .ok (.bipush 12, 2) := by decide +kernel
theorem dX10_init_139 : decode cX10_init 139 = .ok (.newarray .long, 2) := by decide +kernel
theorem dX10_init_141 : decode cX10_init 141 = .ok (.putfield 64, 3) := by decide +kernel
theorem dX10_init_144 : decode cX10_init 144 = .ok (.aload_n 0, 1) := by decide +kernel
theorem dX10_init_145 : decode cX10_init 145 = .ok (.bipush 30, 2) := by decide +kernel
theorem dX10_init_147 : decode cX10_init 147 = .ok (.newarray .int, 2) := by decide +kernel
theorem dX10_init_149 : decode cX10_init 149 = .ok (.putfield 67, 3) := by decide +kernel
theorem dX10_init_152 : decode cX10_init 152 = .ok (.aload_n 0, 1) := by decide +kernel
theorem dX10_init_153 : decode cX10_init 153 = .ok (.bipush 19, 2) := by decide +kernel
theorem dX10_init_155 : decode cX10_init 155 = .ok (.newarray .long, 2) := by decide +kernel
theorem dX10_init_157 : decode cX10_init 157 = .ok (.putfield 70, 3) := by decide +kernel
theorem dX10_init_160 : decode cX10_init 160 = .ok (.aload_n 0, 1) := by decide +kernel
theorem dX10_init_161 : decode cX10_init 161 = .ok (.bipush 19, 2) := by decide +kernel
theorem dX10_init_163 : decode cX10_init 163 = .ok (.newarray .long, 2) := by decide +kernel
theorem dX10_init_165 : decode cX10_init 165 = .ok (.putfield 73, 3) := by decide +kernel
theorem dX10_init_168 : decode cX10_init 168 = .ok (.aload_n 0, 1) := by decide +kernel
theorem dX10_init_169 : decode cX10_init 169 = .ok (.bipush 24, 2) := by decide +kernel
theorem dX10_init_171 : decode cX10_init 171 = .ok (.newarray .int, 2) := by decide +kernel
theorem dX10_init_173 : decode cX10_init 173 = .ok (.putfield 76, 3) := by decide +kernel
theorem dX10_init_176 : decode cX10_init 176 = .ok (.aload_n 0, 1) := by decide +kernel
theorem dX10_init_177 : decode cX10_init 177 = .ok (.bipush 24, 2) := by decide +kernel
theorem dX10_init_179 : decode cX10_init 179 = .ok (.newarray .int, 2) := by decide +kernel
theorem dX10_init_181 : decode cX10_init 181 = .ok (.putfield 79, 3) := by decide +kernel
theorem dX10_init_184 : decode cX10_init 184 = .ok (.aload_n 0, 1) := by decide +kernel
theorem dX10_init_185 : decode cX10_init 185 = .ok (.bipush 24, 2) := by decide +kernel
theorem dX10_init_187 : decode cX10_init 187 = .ok (.newarray .int, 2) := by decide +kernel
theorem dX10_init_189 : decode cX10_init 189 = .ok (.putfield 82, 3) := by decide +kernel
theorem dX10_init_192 : decode cX10_init 192 = .ok (.aload_n 0, 1) := by decide +kernel
theorem dX10_init_193 : decode cX10_init 193 = .ok (.bipush 24, 2) := by decide +kernel
theorem dX10_init_195 : decode cX10_init 195 = .ok (.newarray .boolean, 2) := by decide +kernel
theorem dX10_init_197 : decode cX10_init 197 = .ok (.putfield 85, 3) := by decide +kernel
theorem dX10_init_200 : decode cX10_init 200 = .ok (.aload_n 0, 1) := by decide +kernel
theorem dX10_init_201 : decode cX10_init 201 = .ok (.bipush 24, 2) := by decide +kernel
theorem dX10_init_203 : decode cX10_init 203 = .ok (.newarray .int, 2) := by decide +kernel
theorem dX10_init_205 : decode cX10_init 205 = .ok (.putfield 88, 3) := by decide +kernel
theorem dX10_init_208 : decode cX10_init 208 = .ok (.aload_n 0, 1) := by decide +kernel
theorem dX10_init_209 : decode cX10_init 209 = .ok (.sipush 960, 3) := by decide +kernel
theorem dX10_init_212 : decode cX10_init 212 = .ok (.newarray .int, 2) := by decide +kernel
theorem dX10_init_214 : decode cX10_init 214 = .ok (.putfield 91, 3) := by decide +kernel
theorem dX10_init_217 : decode cX10_init 217 = .ok (.aload_n 0, 1) := by decide +kernel
theorem dX10_init_218 : decode cX10_init 218 = .ok (.iconst 5, 1) := by decide +kernel
theorem dX10_init_219 : decode cX10_init 219 = .ok (.newarray .int, 2) := by decide +kernel
theorem dX10_init_221 : decode cX10_init 221 = .ok (.putfield 94, 3) := by decide +kernel
theorem dX10_init_224 : decode cX10_init 224 = .ok (.aload_n 0, 1) := by decide +kernel
theorem dX10_init_225 : decode cX10_init 225 = .ok (.bipush 6, 2) := by decide +kernel
theorem dX10_init_227 : decode cX10_init 227 = .ok (.newarray .int, 2) := by decide +kernel
theorem dX10_init_229 : decode cX10_init 229 = .ok (.putfield 97, 3) := by decide +kernel
theorem dX10_init_232 : decode cX10_init 232 = .ok (.aload_n 0, 1) := by decide +kernel
theorem dX10_init_233 : decode cX10_init 233 = .ok (.bipush 6, 2) := by decide +kernel
theorem dX10_init_235 : decode cX10_init 235 = .ok (.newarray .int, 2) := by decide +kernel
theorem dX10_init_237 : decode cX10_init 237 = .ok (.putfield 100, 3) := by decide +kernel
theorem dX10_init_240 : decode cX10_init 240 = .ok (.iconst 0, 1) := by decide +kernel
theorem dX10_init_241 : decode cX10_init 241 = .ok (.istore_n 1, 1) := by decide +kernel
theorem dX10_init_242 : decode cX10_init 242 = .ok (.iload_n 1, 1) := by decide +kernel
theorem dX10_init_243 : decode cX10_init 243 = .ok (.bipush 6, 2) := by decide +kernel
theorem dX10_init_245 : decode cX10_init 245 = .ok (.if_icmp .ge 38, 3) := by decide +kernel
theorem dX10_init_248 : decode cX10_init 248 = .ok (.iconst 0, 1) := by decide +kernel
theorem dX10_init_249 : decode cX10_init 249 = .ok (.istore_n 2, 1) := by decide +kernel
theorem dX10_init_250 : decode cX10_init 250 = .ok (.iload_n 2, 1) := by decide +kernel
theorem dX10_init_251 : decode cX10_init 251 = .ok (.bipush 8, 2) := by decide +kernel
theorem dX10_init_253 : decode cX10_init 253 = .ok (.if_icmp .ge 24, 3) := by decide +kernel
theorem dX10_init_256 : decode cX10_init 256 = .ok (.aload_n 0, 1) := by decide +kernel
theorem dX10_init_257 : decode cX10_init 257 = .ok (.getfield 51, 3) := by decide +kernel
theorem dX10_init_260 : decode cX10_init 260 = .ok (.bipush 8, 2) := by decide +kernel
theorem dX10_init_262 : decode cX10_init 262 = .ok (.iload_n 1, 1) := by decide +kernel
theorem dX10_init_263 : decode cX10_init 263 = .ok (.imul, 1) := by decide +kernel
theorem dX10_init_264 : decode cX10_init 264 = .ok (.iload_n 2, 1) := by decide +kernel
theorem dX10_init_265 : decode cX10_init 265 = .ok (.iadd, 1) := by decide +kernel
theorem dX10_init_266 : decode cX10_init 266 = .ok (.iload_n 2, 1) := by decide +kernel
theorem dX10_init_267 : decode cX10_init 267 = .ok (.invokestatic 103, 3) := by decide +kernel
theorem dX10_init_270 : decode cX10_init 270 = .ok (.iastore, 1) := by decide +kernel
theorem dX10_init_271 : decode cX10_init 271 = .ok (.iinc 2 1, 3) := by decide +kernel
theorem dX10_init_274 : decode cX10_init 274 = .ok (.goto (-24), 3) := by decide +kernel
theorem dX10_init_277 : decode cX10_init 277 = .ok (.iinc 1 1, 3) := by decide +kernel
theorem dX10_init_280 : decode cX10_init 280 = .ok (.goto (-38), 3) := by decide +kernel
theorem dX10_init_283 : decode cX10_init 283 = .ok (.iconst 0, 1) := by decide +kernel
theorem dX10_init_284 : decode cX10_init 284 = .ok (.istore_n 1, 1) := by decide +kernel
theorem dX10_init_285 : decode cX10_init 285 = .ok (.iload_n 1, 1) := by decide +kernel
theorem dX10_init_286 : decode cX10_init 286 = .ok (.iconst 2, 1) := by decide +kernel
theorem dX10_init_287 : decode cX10_init 287 = .ok (.if_icmp .ge 51, 3) := by decide +kernel
theorem dX10_init_290 : decode cX10_init 290 = .ok (.aload_n 0, 1) := by decide +kernel
theorem dX10_init_291 : decode cX10_init 291 = .ok (.iload_n 1, 1) := by decide +kernel
theorem dX10_init_292 : decode cX10_init 292 = .ok (.iconst 0, 1) := by decide +kernel
theorem dX10_init_293 : decode cX10_init 293 = .ok (.iconst 0, 1) := by decide +kernel
theorem dX10_init_294 : decode cX10_init 294 = .ok (.bipush 10, 2) := by decide +kernel
theorem dX10_init_296 : decode cX10_init 296 = .ok (.bipush 20, 2) := by decide +kernel
theorem dX10_init_298 : decode cX10_init 298 = .ok (.bipush 20, 2) := by decide +kernel
theorem dX10_init_300 : decode cX10_init 300 = .ok (.bipush 10, 2) := by decide +kernel
theorem dX10_init_302 : decode cX10_init 302 = .ok (.invokevirtual 107, 3) := by decide +kernel
theorem dX10_init_305 : decode cX10_init 305 = .ok (.aload_n 0, 1) := by decide +kernel
theorem dX10_init_306 : decode cX10_init 306 = .ok (.iload_n 1, 1) := by decide +kernel
theorem dX10_init_307 : decode cX10_init 307 = .ok (.iconst 1, 1) := by decide +kernel
theorem dX10_init_308 : decode cX10_init 308 = .ok (.iconst 0, 1) := by decide +kernel
theorem dX10_init_309 : decode cX10_init 309 = .ok (.iconst 0, 1) := by decide +kernel
theorem dX10_init_310 : decode cX10_init 310 = .ok (.bipush 40, 2) := by decide +kernel
theorem dX10_init_312 : decode cX10_init 312 = .ok (.bipush 20, 2) := by decide +kernel
theorem dX10_init_314 : decode cX10_init 314 = .ok (.iconst 0, 1) := by decide +kernel
theorem dX10_init_315 : decode cX10_init 315 = .ok (.invokevirtual 107, 3) := by decide +kernel
theorem dX10_init_318 : decode cX10_init 318 = .ok (.aload_n 0, 1) := by decide +kernel
theorem dX10_init_319 : decode cX10_init 319 = .ok (.iload_n 1, 1) := by decide +kernel
theorem dX10_init_320 : decode cX10_init 320 = .ok (.iconst 2, 1) := by decide +kernel
theorem dX10_init_321 : decode cX10_init 321 = .ok (.bipush 20, 2) := by decide +kernel
theorem dX10_init_323 : decode cX10_init 323 = .ok (.iconst 0, 1) := by decide +kernel
theorem dX10_init_324 : decode cX10_init 324 = .ok (.bipush 10, 2) := by decide +kernel
theorem dX10_init_326 : decode cX10_init 326 = .ok (.iconst 0, 1) := by decide +kernel
theorem dX10_init_327 : decode cX10_init 327 = .ok (.bipush 30, 2) := by decide +kernel
theorem dX10_init_329 : decode cX10_init 329 = .ok (.invokevirtual 107, 3) := by decide +kernel
theorem dX10_init_332 : decode cX10_init 332 = .ok (.iinc 1 1, 3) := by decide +kernel
theorem dX10_init_335 : decode cX10_init 335 = .ok (.goto (-50), 3) := by decide +kernel
theorem dX10_init_338 : decode cX10_init 338 = .ok (.aload_n 0, 1) := by decide +kernel
theorem dX10_init_339 : decode cX10_init 339 = .ok (.getfield 94, 3) := by decide +kernel
theorem dX10_init_342 : decode cX10_init 342 = .ok (.iconst 0, 1) := by decide +kernel
theorem dX10_init_343 : decode cX10_init 343 = .ok (.iconst 0, 1) := by decide +kernel
theorem dX10_init_344 : decode cX10_init 344 = .ok (.iastore, 1) := by decide +kernel
theorem dX10_init_345 : decode cX10_init 345 = .ok (.aload_n 0, 1) := by decide +kernel
theorem dX10_init_346 : decode cX10_init 346 = .ok (.iconst 1, 1) := by decide +kernel
theorem dX10_init_347 : decode cX10_init 347 = .ok (.putfield 111, 3) := by decide +kernel
theorem dX10_init_350 : decode cX10_init 350 = .ok (.return_, 1) := by decide +kernel
theorem dX10_in_0 : decode cX10_in 0 = .ok (.lload_n 0, 1) := by decide +kernel
theorem dX10_in_1 : decode cX10_in 1 = .ok (.lload_n 2, 1) := by decide +kernel
theorem dX10_in_2 : decode cX10_in 2 = .ok (.lcmp, 1) := by decide +kernel
theorem dX10_in_3 : decode cX10_in 3 = .ok (.ifCond .lt 14, 3) := by decide +kernel
theorem dX10_in_6 : decode cX10_in 6 = .ok (.lload_n 0, 1) := by decide +kernel
theorem dX10_in_7 : decode cX10_in 7 = .ok (.lload 4, 2) := by decide +kernel
theorem dX10_in_9 : decode cX10_in 9 = .ok (.lcmp, 1) := by decide +kernel
theorem dX10_in_10 : decode cX10_in 10 = .ok (.ifCond .gt 7, 3) := by decide +kernel
theorem dX10_in_13 : decode cX10_in 13 = .ok (.iconst 1, 1) := by decide +kernel
theorem dX10_in_14 : decode cX10_in 14 = .ok (.goto 4, 3) := by decide +kernel
theorem dX10_in_17 : decode cX10_in 17 = .ok (.iconst 0, 1) := by decide +kernel
theorem dX10_in_18 : decode cX10_in 18 = .ok (.ireturn, 1) := by decide +kernel
theorem dX10_bit_0 : decode cX10_bit 0 = .ok (.iload_n 0, 1) := by decide +kernel
theorem dX10_bit_1 : decode cX10_bit 1 = .ok (.ifCond .eq 7, 3) := by decide +kernel
theorem dX10_bit_4 : decode cX10_bit 4 = .ok (.iconst 1, 1) := by decide +kernel
theorem dX10_bit_5 : decode cX10_bit 5 = .ok (.goto 4, 3) := by decide +kernel
theorem dX10_bit_8 : decode cX10_bit 8 = .ok (.iconst 0, 1) := by decide +kernel
theorem dX10_bit_9 : decode cX10_bit 9 = .ok (.ireturn, 1) := by decide +kernel
theorem dX10_gcd_0 : decode cX10_gcd 0 = .ok (.lload_n 0, 1) := by decide +kernel
theorem dX10_gcd_1 : decode cX10_gcd 1 = .ok (.lstore 4, 2) := by decide +kernel
theorem dX10_gcd_3 : decode cX10_gcd 3 = .ok (.lload_n 2, 1) := by decide +kernel
theorem dX10_gcd_4 : decode cX10_gcd 4 = .ok (.lstore 6, 2) := by decide +kernel
theorem dX10_gcd_6 : decode cX10_gcd 6 = .ok (.lload 6, 2) := by decide +kernel
theorem dX10_gcd_8 : decode cX10_gcd 8 = .ok (.lconst 0, 1) := by decide +kernel
theorem dX10_gcd_9 : decode cX10_gcd 9 = .ok (.lcmp, 1) := by decide +kernel
theorem dX10_gcd_10 : decode cX10_gcd 10 = .ok (.ifCond .eq 21, 3) := by decide +kernel
theorem dX10_gcd_13 : decode cX10_gcd 13 = .ok (.lload 4, 2) := by decide +kernel
theorem dX10_gcd_15 : decode cX10_gcd 15 = .ok (.lload 6, 2) := by decide +kernel
theorem dX10_gcd_17 : decode cX10_gcd 17 = .ok (.lrem, 1) := by decide +kernel
theorem dX10_gcd_18 : decode cX10_gcd 18 = .ok (.lstore 8, 2) := by decide +kernel
theorem dX10_gcd_20 : decode cX10_gcd 20 = .ok (.lload 6, 2) := by decide +kernel
theorem dX10_gcd_22 : decode cX10_gcd 22 = .ok (.lstore 4, 2) := by decide +kernel
theorem dX10_gcd_24 : decode cX10_gcd 24 = .ok (.lload 8, 2) := by decide +kernel
theorem dX10_gcd_26 : decode cX10_gcd 26 = .ok (.lstore 6, 2) := by decide +kernel
theorem dX10_gcd_28 : decode cX10_gcd 28 = .ok (.goto (-22), 3) := by decide +kernel
theorem dX10_gcd_31 : decode cX10_gcd 31 = .ok (.lload 4, 2) := by decide +kernel
theorem dX10_gcd_33 : decode cX10_gcd 33 = .ok (.lreturn, 1) := by decide +kernel
theorem dX10_noIron_0 : decode cX10_noIron 0 = .ok (.iload_n 1, 1) := by decide +kernel
theorem dX10_noIron_1 : decode cX10_noIron 1 = .ok (.i2l, 1) := by decide +kernel
theorem dX10_noIron_2 : decode cX10_noIron 2 = .ok (.lconst 0, 1) := by decide +kernel
theorem dX10_noIron_3 : decode cX10_noIron 3 = .ok (.aload_n 0, 1) := by decide +kernel
theorem dX10_noIron_4 : decode cX10_noIron 4 = .ok (.getfield 114, 3) := by decide +kernel
theorem dX10_noIron_7 : decode cX10_noIron 7 = .ok (.iconst 1, 1) := by decide +kernel
theorem dX10_noIron_8 : decode cX10_noIron 8 = .ok (.isub, 1) := by decide +kernel
theorem dX10_noIron_9 : decode cX10_noIron 9 = .ok (.i2l, 1) := by decide +kernel
theorem dX10_noIron_10 : decode cX10_noIron 10 = .ok (.invokestatic 117, 3) := by decide +kernel
theorem dX10_noIron_13 : decode cX10_noIron 13 = .ok (.ifCond .ne 7, 3) := by decide +kernel
theorem dX10_noIron_16 : decode cX10_noIron 16 = .ok (.iconst 1, 1) := by decide +kernel
theorem dX10_noIron_17 : decode cX10_noIron 17 = .ok (.goto 4, 3) := by decide +kernel
theorem dX10_noIron_20 : decode cX10_noIron 20 = .ok (.iconst 0, 1) := by decide +kernel
theorem dX10_noIron_21 : decode cX10_noIron 21 = .ok (.ireturn, 1) := by decide +kernel
theorem dX10_isPlace_0 : decode cX10_isPlace 0 = .ok (.iload_n 0, 1) := by decide +kernel
theorem dX10_isPlace_1 : decode cX10_isPlace 1 = .ok (.i2l, 1) := by decide +kernel
theorem dX10_isPlace_2 : decode cX10_isPlace 2 = .ok (.ldc2_w 121, 3) := by decide +kernel
theorem dX10_isPlace_5 : decode cX10_isPlace 5 = .ok (.ldc2_w 123, 3) := by decide +kernel
theorem dX10_isPlace_8 : decode cX10_isPlace 8 = .ok (.invokestatic 117, 3) := by decide +kernel
theorem dX10_isPlace_11 : decode cX10_isPlace 11 = .ok (.ifCond .eq 21, 3) := by decide +kernel
theorem dX10_isPlace_14 : decode cX10_isPlace 14 = .ok (.iload_n 1, 1) := by decide +kernel
theorem dX10_isPlace_15 : decode cX10_isPlace 15 = .ok (.i2l, 1) := by decide +kernel
theorem dX10_isPlace_16 : decode cX10_isPlace 16 = .ok (.ldc2_w 121, 3) := by decide +kernel
theorem dX10_isPlace_19 : decode cX10_isPlace 19 = .ok (.ldc2_w 123, 3) := by decide +kernel
theorem dX10_isPlace_22 : decode cX10_isPlace 22 = .ok (.invokestatic 117, 3) := by decide +kernel
theorem dX10_isPlace_25 : decode cX10_isPlace 25 = .ok (.ifCond .eq 7, 3) := by decide +kernel
theorem dX10_isPlace_28 : decode cX10_isPlace 28 = .ok (.iconst 1, 1) := by decide +kernel
theorem dX10_isPlace_29 : decode cX10_isPlace 29 = .ok (.goto 4, 3) := by decide +kernel
theorem dX10_isPlace_32 : decode cX10_isPlace 32 = .ok (.iconst 0, 1) := by decide +kernel
theorem dX10_isPlace_33 : decode cX10_isPlace 33 = .ok (.ireturn, 1) := by decide +kernel
theorem dX10_rake_0 : decode cX10_rake 0 = .ok (.aload_n 0, 1) := by decide +kernel
theorem dX10_rake_1 : decode cX10_rake 1 = .ok (.getfield 114, 3) := by decide +kernel
theorem dX10_rake_4 : decode cX10_rake 4 = .ok (.istore_n 1, 1) := by decide +kernel
theorem dX10_rake_5 : decode cX10_rake 5 = .ok (.aload_n 0, 1) := by decide +kernel
theorem dX10_rake_6 : decode cX10_rake 6 = .ok (.iconst 0, 1) := by decide +kernel
theorem dX10_rake_7 : decode cX10_rake 7 = .ok (.putfield 114, 3) := by decide +kernel
theorem dX10_rake_10 : decode cX10_rake 10 = .ok (.iload_n 1, 1) := by decide +kernel
theorem dX10_rake_11 : decode cX10_rake 11 = .ok (.ireturn, 1) := by decide +kernel
theorem dX10_forget_0 : decode cX10_forget 0 = .ok (.iconst 0, 1) := by decide +kernel
theorem dX10_forget_1 : decode cX10_forget 1 = .ok (.istore_n 2, 1) := by decide +kernel
theorem dX10_forget_2 : decode cX10_forget 2 = .ok (.iload_n 2, 1) := by decide +kernel
theorem dX10_forget_3 : decode cX10_forget 3 = .ok (.iconst 3, 1) := by decide +kernel
theorem dX10_forget_4 : decode cX10_forget 4 = .ok (.if_icmp .ge 20, 3) := by decide +kernel
theorem dX10_forget_7 : decode cX10_forget 7 = .ok (.aload_n 0, 1) := by decide +kernel
theorem dX10_forget_8 : decode cX10_forget 8 = .ok (.getfield 35, 3) := by decide +kernel
theorem dX10_forget_11 : decode cX10_forget 11 = .ok (.iconst 3, 1) := by decide +kernel
theorem dX10_forget_12 : decode cX10_forget 12 = .ok (.iload_n 1, 1) := by decide +kernel
theorem dX10_forget_13 : decode cX10_forget 13 = .ok (.imul, 1) := by decide +kernel
theorem dX10_forget_14 : decode cX10_forget 14 = .ok (.iload_n 2, 1) := by decide +kernel
theorem dX10_forget_15 : decode cX10_forget 15 = .ok (.iadd, 1) := by decide +kernel
theorem dX10_forget_16 : decode cX10_forget 16 = .ok (.iconst 0, 1) := by decide +kernel
theorem dX10_forget_17 : decode cX10_forget 17 = .ok (.bastore, 1) := by decide +kernel
theorem dX10_forget_18 : decode cX10_forget 18 = .ok (.iinc 2 1, 3) := by decide +kernel
theorem dX10_forget_21 : decode cX10_forget 21 = .ok (.goto (-19), 3) := by decide +kernel
theorem dX10_forget_24 : decode cX10_forget 24 = .ok (.return_, 1) := by decide +kernel
theorem dX10_iron_0 : decode cX10_iron 0 = .ok (.iload_n 1, 1) := by decide +kernel
theorem dX10_iron_1 : decode cX10_iron 1 = .ok (.i2l, 1) := by decide +kernel
theorem dX10_iron_2 : decode cX10_iron 2 = .ok (.lconst 0, 1) := by decide +kernel
theorem dX10_iron_3 : decode cX10_iron 3 = .ok (.lconst 1, 1) := by decide +kernel
theorem dX10_iron_4 : decode cX10_iron 4 = .ok (.invokestatic 117, 3) := by decide +kernel
theorem dX10_iron_7 : decode cX10_iron 7 = .ok (.ifCond .eq 54, 3) := by decide +kernel
theorem dX10_iron_10 : decode cX10_iron 10 = .ok (.iload_n 2, 1) := by decide +kernel
theorem dX10_iron_11 : decode cX10_iron 11 = .ok (.iload_n 3, 1) := by decide +kernel
theorem dX10_iron_12 : decode cX10_iron 12 = .ok (.invokestatic 125, 3) := by decide +kernel
theorem dX10_iron_15 : decode cX10_iron 15 = .ok (.ifCond .eq 46, 3) := by decide +kernel
theorem dX10_iron_18 : decode cX10_iron 18 = .ok (.iload 4, 2) := by decide +kernel
theorem dX10_iron_20 : decode cX10_iron 20 = .ok (.i2l, 1) := by decide +kernel
theorem dX10_iron_21 : decode cX10_iron 21 = .ok (.ldc2_w 129, 3) := by decide +kernel
theorem dX10_iron_24 : decode cX10_iron 24 = .ok (.ldc2_w 131, 3) := by decide +kernel
theorem dX10_iron_27 : decode cX10_iron 27 = .ok (.invokestatic 117, 3) := by decide +kernel
theorem dX10_iron_30 : decode cX10_iron 30 = .ok (.ifCond .eq 31, 3) := by decide +kernel
theorem dX10_iron_33 : decode cX10_iron 33 = .ok (.iload 5, 2) := by decide +kernel
theorem dX10_iron_35 : decode cX10_iron 35 = .ok (.i2l, 1) := by decide +kernel
theorem dX10_iron_36 : decode cX10_iron 36 = .ok (.lconst 1, 1) := by decide +kernel
theorem dX10_iron_37 : decode cX10_iron 37 = .ok (.iload 4, 2) := by decide +kernel
theorem dX10_iron_39 : decode cX10_iron 39 = .ok (.iconst 1, 1) := by decide +kernel
theorem dX10_iron_40 : decode cX10_iron 40 = .ok (.isub, 1) := by decide +kernel
theorem dX10_iron_41 : decode cX10_iron 41 = .ok (.i2l, 1) := by decide +kernel
theorem dX10_iron_42 : decode cX10_iron 42 = .ok (.invokestatic 117, 3) := by decide +kernel
theorem dX10_iron_45 : decode cX10_iron 45 = .ok (.ifCond .eq 16, 3) := by decide +kernel
theorem dX10_iron_48 : decode cX10_iron 48 = .ok (.iload 6, 2) := by decide +kernel
theorem dX10_iron_50 : decode cX10_iron 50 = .ok (.i2l, 1) := by decide +kernel
theorem dX10_iron_51 : decode cX10_iron 51 = .ok (.lconst 0, 1) := by decide +kernel
theorem dX10_iron_52 : decode cX10_iron 52 = .ok (.ldc2_w 133, 3) := by decide +kernel
theorem dX10_iron_55 : decode cX10_iron 55 = .ok (.invokestatic 117, 3) := by decide +kernel
theorem dX10_iron_58 : decode cX10_iron 58 = .ok (.ifCond .ne 7, 3) := by decide +kernel
theorem dX10_iron_61 : decode cX10_iron 61 = .ok (.sipush (-1002), 3) := by decide +kernel
theorem dX10_iron_64 : decode cX10_iron 64 = .ok (.ireturn, 1) := by decide +kernel
theorem dX10_iron_65 : decode cX10_iron 65 = .ok (.aload_n 0, 1) := by decide +kernel
theorem dX10_iron_66 : decode cX10_iron 66 = .ok (.getfield 114, 3) := by decide +kernel
theorem dX10_iron_69 : decode cX10_iron 69 = .ok (.bipush 12, 2) := by decide +kernel
theorem dX10_iron_71 : decode cX10_iron 71 = .ok (.if_icmp .ne 7, 3) := by decide +kernel
theorem dX10_iron_74 : decode cX10_iron 74 = .ok (.sipush (-1004), 3) := by decide +kernel
theorem dX10_iron_77 : decode cX10_iron 77 = .ok (.ireturn, 1) := by decide +kernel
theorem dX10_iron_78 : decode cX10_iron 78 = .ok (.aload_n 0, 1) := by decide +kernel
theorem dX10_iron_79 : decode cX10_iron 79 = .ok (.getfield 7, 3) := by decide +kernel
theorem dX10_iron_82 : decode cX10_iron 82 = .ok (.aload_n 0, 1) := by decide +kernel
theorem dX10_iron_83 : decode cX10_iron 83 = .ok (.getfield 114, 3) := by decide +kernel
theorem dX10_iron_86 : decode cX10_iron 86 = .ok (.iload_n 1, 1) := by decide +kernel
theorem dX10_iron_87 : decode cX10_iron 87 = .ok (.iastore, 1) := by decide +kernel
theorem dX10_iron_88 : decode cX10_iron 88 = .ok (.aload_n 0, 1) := by decide +kernel
theorem dX10_iron_89 : decode cX10_iron 89 = .ok (.getfield 13, 3) := by decide +kernel
theorem dX10_iron_92 : decode cX10_iron 92 = .ok (.aload_n 0, 1) := by decide +kernel
theorem dX10_iron_93 : decode cX10_iron 93 = .ok (.getfield 114, 3) := by decide +kernel
theorem dX10_iron_96 : decode cX10_iron 96 = .ok (.iload_n 2, 1) := by decide +kernel
theorem dX10_iron_97 : decode cX10_iron 97 = .ok (.iastore, 1) := by decide +kernel
theorem dX10_iron_98 : decode cX10_iron 98 = .ok (.aload_n 0, 1) := by decide +kernel
theorem dX10_iron_99 : decode cX10_iron 99 = .ok (.getfield 16, 3) := by decide +kernel
theorem dX10_iron_102 : decode cX10_iron 102 = .ok (.aload_n 0, 1) := by decide +kernel
theorem dX10_iron_103 : decode cX10_iron 103 = .ok (.getfield 114, 3) := by decide +kernel
theorem dX10_iron_106 : decode cX10_iron 106 = .ok (.iload_n 3, 1) := by decide +kernel
theorem dX10_iron_107 : decode cX10_iron 107 = .ok (.iastore, 1) := by decide +kernel
theorem dX10_iron_108 : decode cX10_iron 108 = .ok (.aload_n 0, 1) := by decide +kernel
theorem dX10_iron_109 : decode cX10_iron 109 = .ok (.getfield 19, 3) := by decide +kernel
theorem dX10_iron_112 : decode cX10_iron 112 = .ok (.aload_n 0, 1) := by decide +kernel
theorem dX10_iron_113 : decode cX10_iron 113 = .ok (.getfield 114, 3) := by decide +kernel
theorem dX10_iron_116 : decode cX10_iron 116 = .ok (.iload 4, 2) := by decide +kernel
theorem dX10_iron_118 : decode cX10_iron 118 = .ok (.iastore, 1) := by decide +kernel
theorem dX10_iron_119 : decode cX10_iron 119 = .ok (.aload_n 0, 1) := by decide +kernel
theorem dX10_iron_120 : decode cX10_iron 120 = .ok (.getfield 22, 3) := by decide +kernel
theorem dX10_iron_123 : decode cX10_iron 123 = .ok (.aload_n 0, 1) := by decide +kernel
theorem dX10_iron_124 : decode cX10_iron 124 = .ok (.getfield 114, 3) := by decide +kernel
theorem dX10_iron_127 : decode cX10_iron 127 = .ok (.iload 5, 2) := by decide +kernel
theorem dX10_iron_129 : decode cX10_iron 129 = .ok (.iastore, 1) := by decide +kernel
theorem dX10_iron_130 : decode cX10_iron 130 = .ok (.aload_n 0, 1) := by decide +kernel
theorem dX10_iron_131 : decode cX10_iron 131 = .ok (.getfield 25, 3) := by decide +kernel
theorem dX10_iron_134 : decode cX10_iron 134 = .ok (.aload_n 0, 1) := by decide +kernel
theorem dX10_iron_135 : decode cX10_iron 135 = .ok (.getfield 114, 3) := by decide +kernel
theorem dX10_iron_138 : decode cX10_iron 138 = .ok (.iload 6, 2) := by decide +kernel
theorem dX10_iron_140 : decode cX10_iron 140 = .ok (.iastore, 1) := by decide +kernel
theorem dX10_iron_141 : decode cX10_iron 141 = .ok (.aload_n 0, 1) := by decide +kernel
theorem dX10_iron_142 : decode cX10_iron 142 = .ok (.getfield 28, 3) := by decide +kernel
theorem dX10_iron_145 : decode cX10_iron 145 = .ok (.aload_n 0, 1) := by decide +kernel
theorem dX10_iron_146 : decode cX10_iron 146 = .ok (.getfield 114, 3) := by decide +kernel
theorem dX10_iron_149 : decode cX10_iron 149 = .ok (.iload 7, 2) := by decide +kernel
theorem dX10_iron_151 : decode cX10_iron 151 = .ok (.bastore, 1) := by decide +kernel
theorem dX10_iron_152 : decode cX10_iron 152 = .ok (.aload_n 0, 1) := by decide +kernel
theorem dX10_iron_153 : decode cX10_iron 153 = .ok (.getfield 32, 3) := by decide +kernel
theorem dX10_iron_156 : decode cX10_iron 156 = .ok (.aload_n 0, 1) := by decide +kernel
theorem dX10_iron_157 : decode cX10_iron 157 = .ok (.getfield 114, 3) := by decide +kernel
theorem dX10_iron_160 : decode cX10_iron 160 = .ok (.iconst 0, 1) := by decide +kernel
theorem dX10_iron_161 : decode cX10_iron 161 = .ok (.bastore, 1) := by decide +kernel
theorem dX10_iron_162 : decode cX10_iron 162 = .ok (.aload_n 0, 1) := by decide +kernel
theorem dX10_iron_163 : decode cX10_iron 163 = .ok (.aload_n 0, 1) := by decide +kernel
theorem dX10_iron_164 : decode cX10_iron 164 = .ok (.getfield 114, 3) := by decide +kernel
theorem dX10_iron_167 : decode cX10_iron 167 = .ok (.invokevirtual 135, 3) := by decide +kernel
theorem dX10_iron_170 : decode cX10_iron 170 = .ok (.aload_n 0, 1) := by decide +kernel
theorem dX10_iron_171 : decode cX10_iron 171 = .ok (.dup, 1) := by decide +kernel
theorem dX10_iron_172 : decode cX10_iron 172 = .ok (.getfield 114, 3) := by decide +kernel
theorem dX10_iron_175 : decode cX10_iron 175 = .ok (.iconst 1, 1) := by decide +kernel
theorem dX10_iron_176 : decode cX10_iron 176 = .ok (.iadd, 1) := by decide +kernel
theorem dX10_iron_177 : decode cX10_iron 177 = .ok (.putfield 114, 3) := by decide +kernel
theorem dX10_iron_180 : decode cX10_iron 180 = .ok (.aload_n 0, 1) := by decide +kernel
theorem dX10_iron_181 : decode cX10_iron 181 = .ok (.getfield 114, 3) := by decide +kernel
theorem dX10_iron_184 : decode cX10_iron 184 = .ok (.iconst 1, 1) := by decide +kernel
theorem dX10_iron_185 : decode cX10_iron 185 = .ok (.isub, 1) := by decide +kernel
theorem dX10_iron_186 : decode cX10_iron 186 = .ok (.ireturn, 1) := by decide +kernel
theorem dX10_knock_0 : decode cX10_knock 0 = .ok (.aload_n 0, 1) := by decide +kernel
theorem dX10_knock_1 : decode cX10_knock 1 = .ok (.iload_n 1, 1) := by decide +kernel
theorem dX10_knock_2 : decode cX10_knock 2 = .ok (.invokevirtual 139, 3) := by decide +kernel
theorem dX10_knock_5 : decode cX10_knock 5 = .ok (.ifCond .eq 7, 3) := by decide +kernel
theorem dX10_knock_8 : decode cX10_knock 8 = .ok (.sipush (-1001), 3) := by decide +kernel
theorem dX10_knock_11 : decode cX10_knock 11 = .ok (.ireturn, 1) := by decide +kernel
theorem dX10_knock_12 : decode cX10_knock 12 = .ok (.iload_n 2, 1) := by decide +kernel
theorem dX10_knock_13 : decode cX10_knock 13 = .ok (.iload_n 3, 1) := by decide +kernel
theorem dX10_knock_14 : decode cX10_knock 14 = .ok (.invokestatic 125, 3) := by decide +kernel
theorem dX10_knock_17 : decode cX10_knock 17 = .ok (.ifCond .ne 7, 3) := by decide +kernel
theorem dX10_knock_20 : decode cX10_knock 20 = .ok (.sipush (-1002), 3) := by decide +kernel
theorem dX10_knock_23 : decode cX10_knock 23 = .ok (.ireturn, 1) := by decide +kernel
theorem dX10_knock_24 : decode cX10_knock 24 = .ok (.aload_n 0, 1) := by decide +kernel
theorem dX10_knock_25 : decode cX10_knock 25 = .ok (.getfield 32, 3) := by decide +kernel
theorem dX10_knock_28 : decode cX10_knock 28 = .ok (.iload_n 1, 1) := by decide +kernel
theorem dX10_knock_29 : decode cX10_knock 29 = .ok (.baload, 1) := by decide +kernel
theorem dX10_knock_30 : decode cX10_knock 30 = .ok (.ifCond .eq 7, 3) := by decide +kernel
theorem dX10_knock_33 : decode cX10_knock 33 = .ok (.sipush (-1003), 3) := by decide +kernel
theorem dX10_knock_36 : decode cX10_knock 36 = .ok (.ireturn, 1) := by decide +kernel
theorem dX10_knock_37 : decode cX10_knock 37 = .ok (.aload_n 0, 1) := by decide +kernel
theorem dX10_knock_38 : decode cX10_knock 38 = .ok (.getfield 13, 3) := by decide +kernel
theorem dX10_knock_41 : decode cX10_knock 41 = .ok (.iload_n 1, 1) := by decide +kernel
theorem dX10_knock_42 : decode cX10_knock 42 = .ok (.iload_n 2, 1) := by decide +kernel
theorem dX10_knock_43 : decode cX10_knock 43 = .ok (.iastore, 1) := by decide +kernel
theorem dX10_knock_44 : decode cX10_knock 44 = .ok (.aload_n 0, 1) := by decide +kernel
theorem dX10_knock_45 : decode cX10_knock 45 = .ok (.getfield 16, 3) := by decide +kernel
theorem dX10_knock_48 : decode cX10_knock 48 = .ok (.iload_n 1, 1) := by decide +kernel
theorem dX10_knock_49 : decode cX10_knock 49 = .ok (.iload_n 3, 1) := by decide +kernel
theorem dX10_knock_50 : decode cX10_knock 50 = .ok (.iastore, 1) := by decide +kernel
theorem dX10_knock_51 : decode cX10_knock 51 = .ok (.aload_n 0, 1) := by decide +kernel
theorem dX10_knock_52 : decode cX10_knock 52 = .ok (.iload_n 1, 1) := by decide +kernel
theorem dX10_knock_53 : decode cX10_knock 53 = .ok (.invokevirtual 135, 3) := by decide +kernel
theorem dX10_knock_56 : decode cX10_knock 56 = .ok (.iconst 1, 1) := by decide +kernel
theorem dX10_knock_57 : decode cX10_knock 57 = .ok (.ireturn, 1) := by decide +kernel
theorem dX10_off_0 : decode cX10_off 0 = .ok (.aload_n 0, 1) := by decide +kernel
theorem dX10_off_1 : decode cX10_off 1 = .ok (.iload_n 1, 1) := by decide +kernel
theorem dX10_off_2 : decode cX10_off 2 = .ok (.invokevirtual 139, 3) := by decide +kernel
theorem dX10_off_5 : decode cX10_off 5 = .ok (.ifCond .eq 7, 3) := by decide +kernel
theorem dX10_off_8 : decode cX10_off 8 = .ok (.sipush (-1001), 3) := by decide +kernel
theorem dX10_off_11 : decode cX10_off 11 = .ok (.ireturn, 1) := by decide +kernel
theorem dX10_off_12 : decode cX10_off 12 = .ok (.aload_n 0, 1) := by decide +kernel
theorem dX10_off_13 : decode cX10_off 13 = .ok (.getfield 32, 3) := by decide +kernel
theorem dX10_off_16 : decode cX10_off 16 = .ok (.iload_n 1, 1) := by decide +kernel
theorem dX10_off_17 : decode cX10_off 17 = .ok (.baload, 1) := by decide +kernel
theorem dX10_off_18 : decode cX10_off 18 = .ok (.ifCond .eq 7, 3) := by decide +kernel
theorem dX10_off_21 : decode cX10_off 21 = .ok (.sipush (-1003), 3) := by decide +kernel
theorem dX10_off_24 : decode cX10_off 24 = .ok (.ireturn, 1) := by decide +kernel
theorem dX10_off_25 : decode cX10_off 25 = .ok (.aload_n 0, 1) := by decide +kernel
theorem dX10_off_26 : decode cX10_off 26 = .ok (.getfield 32, 3) := by decide +kernel
theorem dX10_off_29 : decode cX10_off 29 = .ok (.iload_n 1, 1) := by decide +kernel
theorem dX10_off_30 : decode cX10_off 30 = .ok (.iconst 1, 1) := by decide +kernel
theorem dX10_off_31 : decode cX10_off 31 = .ok (.bastore, 1) := by decide +kernel
theorem dX10_off_32 : decode cX10_off 32 = .ok (.iconst 1, 1) := by decide +kernel
theorem dX10_off_33 : decode cX10_off 33 = .ok (.ireturn, 1) := by decide +kernel
theorem dX10_square_0 : decode cX10_square 0 = .ok (.aload_n 0, 1) := by decide +kernel
theorem dX10_square_1 : decode cX10_square 1 = .ok (.getfield 13, 3) := by decide +kernel
theorem dX10_square_4 : decode cX10_square 4 = .ok (.iload_n 1, 1) := by decide +kernel
theorem dX10_square_5 : decode cX10_square 5 = .ok (.iaload, 1) := by decide +kernel
theorem dX10_square_6 : decode cX10_square 6 = .ok (.aload_n 0, 1) := by decide +kernel
theorem dX10_square_7 : decode cX10_square 7 = .ok (.getfield 13, 3) := by decide +kernel
theorem dX10_square_10 : decode cX10_square 10 = .ok (.iload_n 1, 1) := by decide +kernel
theorem dX10_square_11 : decode cX10_square 11 = .ok (.iaload, 1) := by decide +kernel
theorem dX10_square_12 : decode cX10_square 12 = .ok (.imul, 1) := by decide +kernel
theorem dX10_square_13 : decode cX10_square 13 = .ok (.aload_n 0, 1) := by decide +kernel
theorem dX10_square_14 : decode cX10_square 14 = .ok (.getfield 16, 3) := by decide +kernel
theorem dX10_square_17 : decode cX10_square 17 = .ok (.iload_n 1, 1) := by decide +kernel
theorem dX10_square_18 : decode cX10_square 18 = .ok (.iaload, 1) := by decide +kernel
theorem dX10_square_19 : decode cX10_square 19 = .ok (.aload_n 0, 1) := by decide +kernel
theorem dX10_square_20 : decode cX10_square 20 = .ok (.getfield 16, 3) := by decide +kernel
theorem dX10_square_23 : decode cX10_square 23 = .ok (.iload_n 1, 1) := by decide +kernel
theorem dX10_square_24 : decode cX10_square 24 = .ok (.iaload, 1) := by decide +kernel
theorem dX10_square_25 : decode cX10_square 25 = .ok (.imul, 1) := by decide +kernel
theorem dX10_square_26 : decode cX10_square 26 = .ok (.iadd, 1) := by decide +kernel
theorem dX10_square_27 : decode cX10_square 27 = .ok (.ireturn, 1) := by decide +kernel
theorem dX10_isRinger_0 : decode cX10_isRinger 0 = .ok (.aload_n 0, 1) := by decide +kernel
theorem dX10_isRinger_1 : decode cX10_isRinger 1 = .ok (.iload_n 1, 1) := by decide +kernel
theorem dX10_isRinger_2 : decode cX10_isRinger 2 = .ok (.invokevirtual 143, 3) := by decide +kernel
theorem dX10_isRinger_5 : decode cX10_isRinger 5 = .ok (.aload_n 0, 1) := by decide +kernel
theorem dX10_isRinger_6 : decode cX10_isRinger 6 = .ok (.getfield 22, 3) := by decide +kernel
theorem dX10_isRinger_9 : decode cX10_isRinger 9 = .ok (.iload_n 1, 1) := by decide +kernel
theorem dX10_isRinger_10 : decode cX10_isRinger 10 = .ok (.iaload, 1) := by decide +kernel
theorem dX10_isRinger_11 : decode cX10_isRinger 11 = .ok (.aload_n 0, 1) := by decide +kernel
theorem dX10_isRinger_12 : decode cX10_isRinger 12 = .ok (.getfield 22, 3) := by decide +kernel
theorem dX10_isRinger_15 : decode cX10_isRinger 15 = .ok (.iload_n 1, 1) := by decide +kernel
theorem dX10_isRinger_16 : decode cX10_isRinger 16 = .ok (.iaload, 1) := by decide +kernel
theorem dX10_isRinger_17 : decode cX10_isRinger 17 = .ok (.imul, 1) := by decide +kernel
theorem dX10_isRinger_18 : decode cX10_isRinger 18 = .ok (.if_icmp .ge 7, 3) := by decide +kernel
theorem dX10_isRinger_21 : decode cX10_isRinger 21 = .ok (.iconst 1, 1) := by decide +kernel
theorem dX10_isRinger_22 : decode cX10_isRinger 22 = .ok (.goto 4, 3) := by decide +kernel
theorem dX10_isRinger_25 : decode cX10_isRinger 25 = .ok (.iconst 0, 1) := by decide +kernel
theorem dX10_isRinger_26 : decode cX10_isRinger 26 = .ok (.ireturn, 1) := by decide +kernel
theorem dX10_liesOn_0 : decode cX10_liesOn 0 = .ok (.aload_n 0, 1) := by decide +kernel
theorem dX10_liesOn_1 : decode cX10_liesOn 1 = .ok (.getfield 13, 3) := by decide +kernel
theorem dX10_liesOn_4 : decode cX10_liesOn 4 = .ok (.iload_n 2, 1) := by decide +kernel
theorem dX10_liesOn_5 : decode cX10_liesOn 5 = .ok (.iaload, 1) := by decide +kernel
theorem dX10_liesOn_6 : decode cX10_liesOn 6 = .ok (.aload_n 0, 1) := by decide +kernel
theorem dX10_liesOn_7 : decode cX10_liesOn 7 = .ok (.getfield 13, 3) := by decide +kernel
theorem dX10_liesOn_10 : decode cX10_liesOn 10 = .ok (.iload_n 1, 1) := by decide +kernel
theorem dX10_liesOn_11 : decode cX10_liesOn 11 = .ok (.iaload, 1) := by decide +kernel
theorem dX10_liesOn_12 : decode cX10_liesOn 12 = .ok (.isub, 1) := by decide +kernel
theorem dX10_liesOn_13 : decode cX10_liesOn 13 = .ok (.istore_n 3, 1) := by decide +kernel
theorem dX10_liesOn_14 : decode cX10_liesOn 14 = .ok (.aload_n 0, 1) := by decide +kernel
theorem dX10_liesOn_15 : decode cX10_liesOn 15 = .ok (.getfield 16, 3) := by decide +kernel
theorem dX10_liesOn_18 : decode cX10_liesOn 18 = .ok (.iload_n 2, 1) := by decide +kernel
theorem dX10_liesOn_19 : decode cX10_liesOn 19 = .ok (.iaload, 1) := by decide +kernel
theorem dX10_liesOn_20 : decode cX10_liesOn 20 = .ok (.aload_n 0, 1) := by decide +kernel
theorem dX10_liesOn_21 : decode cX10_liesOn 21 = .ok (.getfield 16, 3) := by decide +kernel
theorem dX10_liesOn_24 : decode cX10_liesOn 24 = .ok (.iload_n 1, 1) := by decide +kernel
theorem dX10_liesOn_25 : decode cX10_liesOn 25 = .ok (.iaload, 1) := by decide +kernel
theorem dX10_liesOn_26 : decode cX10_liesOn 26 = .ok (.isub, 1) := by decide +kernel
theorem dX10_liesOn_27 : decode cX10_liesOn 27 = .ok (.istore 4, 2) := by decide +kernel
theorem dX10_liesOn_29 : decode cX10_liesOn 29 = .ok (.aload_n 0, 1) := by decide +kernel
theorem dX10_liesOn_30 : decode cX10_liesOn 30 = .ok (.getfield 19, 3) := by decide +kernel
theorem dX10_liesOn_33 : decode cX10_liesOn 33 = .ok (.iload_n 2, 1) := by decide +kernel
theorem dX10_liesOn_34 : decode cX10_liesOn 34 = .ok (.iaload, 1) := by decide +kernel
theorem dX10_liesOn_35 : decode cX10_liesOn 35 = .ok (.aload_n 0, 1) := by decide +kernel
theorem dX10_liesOn_36 : decode cX10_liesOn 36 = .ok (.getfield 19, 3) := by decide +kernel
theorem dX10_liesOn_39 : decode cX10_liesOn 39 = .ok (.iload_n 1, 1) := by decide +kernel
theorem dX10_liesOn_40 : decode cX10_liesOn 40 = .ok (.iaload, 1) := by decide +kernel
theorem dX10_liesOn_41 : decode cX10_liesOn 41 = .ok (.iadd, 1) := by decide +kernel
theorem dX10_liesOn_42 : decode cX10_liesOn 42 = .ok (.istore 5, 2) := by decide +kernel
theorem dX10_liesOn_44 : decode cX10_liesOn 44 = .ok (.iload_n 1, 1) := by decide +kernel
theorem dX10_liesOn_45 : decode cX10_liesOn 45 = .ok (.iload_n 2, 1) := by decide +kernel
theorem dX10_liesOn_46 : decode cX10_liesOn 46 = .ok (.if_icmp .le 42, 3) := by decide +kernel
theorem dX10_liesOn_49 : decode cX10_liesOn 49 = .ok (.aload_n 0, 1) := by decide +kernel
theorem dX10_liesOn_50 : decode cX10_liesOn 50 = .ok (.getfield 32, 3) := by decide +kernel
theorem dX10_liesOn_53 : decode cX10_liesOn 53 = .ok (.iload_n 2, 1) := by decide +kernel
theorem dX10_liesOn_54 : decode cX10_liesOn 54 = .ok (.baload, 1) := by decide +kernel
theorem dX10_liesOn_55 : decode cX10_liesOn 55 = .ok (.ifCond .ne 33, 3) := by decide +kernel
theorem dX10_liesOn_58 : decode cX10_liesOn 58 = .ok (.aload_n 0, 1) := by decide +kernel
theorem dX10_liesOn_59 : decode cX10_liesOn 59 = .ok (.getfield 32, 3) := by decide +kernel
theorem dX10_liesOn_62 : decode cX10_liesOn 62 = .ok (.iload_n 1, 1) := by decide +kernel
theorem dX10_liesOn_63 : decode cX10_liesOn 63 = .ok (.baload, 1) := by decide +kernel
theorem dX10_liesOn_64 : decode cX10_liesOn 64 = .ok (.ifCond .ne 24, 3) := by decide +kernel
theorem dX10_liesOn_67 : decode cX10_liesOn 67 = .ok (.iload_n 3, 1) := by decide +kernel
theorem dX10_liesOn_68 : decode cX10_liesOn 68 = .ok (.iload_n 3, 1) := by decide +kernel
theorem dX10_liesOn_69 : decode cX10_liesOn 69 = .ok (.imul, 1) := by decide +kernel
theorem dX10_liesOn_70 : decode cX10_liesOn 70 = .ok (.iload 4, 2) := by decide +kernel
theorem dX10_liesOn_72 : decode cX10_liesOn 72 = .ok (.iload 4, 2) := by decide +kernel
theorem dX10_liesOn_74 : decode cX10_liesOn 74 = .ok (.imul, 1) := by decide +kernel
theorem dX10_liesOn_75 : decode cX10_liesOn 75 = .ok (.iadd, 1) := by decide +kernel
theorem dX10_liesOn_76 : decode cX10_liesOn 76 = .ok (.iload 5, 2) := by decide +kernel
theorem dX10_liesOn_78 : decode cX10_liesOn 78 = .ok (.iload 5, 2) := by decide +kernel
theorem dX10_liesOn_80 : decode cX10_liesOn 80 = .ok (.imul, 1) := by decide +kernel
theorem dX10_liesOn_81 : decode cX10_liesOn 81 = .ok (.if_icmp .ge 7, 3) := by decide +kernel
theorem dX10_liesOn_84 : decode cX10_liesOn 84 = .ok (.iconst 1, 1) := by decide +kernel
theorem dX10_liesOn_85 : decode cX10_liesOn 85 = .ok (.goto 4, 3) := by decide +kernel
theorem dX10_liesOn_88 : decode cX10_liesOn 88 = .ok (.iconst 0, 1) := by decide +kernel
theorem dX10_liesOn_89 : decode cX10_liesOn 89 = .ok (.ireturn, 1) := by decide +kernel
theorem dX10_hasRoot_0 : decode cX10_hasRoot 0 = .ok (.aload_n 0, 1) := by decide +kernel
theorem dX10_hasRoot_1 : decode cX10_hasRoot 1 = .ok (.iload_n 1, 1) := by decide +kernel
theorem dX10_hasRoot_2 : decode cX10_hasRoot 2 = .ok (.invokevirtual 143, 3) := by decide +kernel
theorem dX10_hasRoot_5 : decode cX10_hasRoot 5 = .ok (.aload_n 0, 1) := by decide +kernel
theorem dX10_hasRoot_6 : decode cX10_hasRoot 6 = .ok (.getfield 19, 3) := by decide +kernel
theorem dX10_hasRoot_9 : decode cX10_hasRoot 9 = .ok (.iload_n 1, 1) := by decide +kernel
theorem dX10_hasRoot_10 : decode cX10_hasRoot 10 = .ok (.iaload, 1) := by decide +kernel
theorem dX10_hasRoot_11 : decode cX10_hasRoot 11 = .ok (.aload_n 0, 1) := by decide +kernel
theorem dX10_hasRoot_12 : decode cX10_hasRoot 12 = .ok (.getfield 19, 3) := by decide +kernel
theorem dX10_hasRoot_15 : decode cX10_hasRoot 15 = .ok (.iload_n 1, 1) := by decide +kernel
theorem dX10_hasRoot_16 : decode cX10_hasRoot 16 = .ok (.iaload, 1) := by decide +kernel
theorem dX10_hasRoot_17 : decode cX10_hasRoot 17 = .ok (.imul, 1) := by decide +kernel
theorem dX10_hasRoot_18 : decode cX10_hasRoot 18 = .ok (.if_icmp .lt 7, 3) := by decide +kernel
theorem dX10_hasRoot_21 : decode cX10_hasRoot 21 = .ok (.iconst 1, 1) := by decide +kernel
theorem dX10_hasRoot_22 : decode cX10_hasRoot 22 = .ok (.goto 4, 3) := by decide +kernel
theorem dX10_hasRoot_25 : decode cX10_hasRoot 25 = .ok (.iconst 0, 1) := by decide +kernel
theorem dX10_hasRoot_26 : decode cX10_hasRoot 26 = .ok (.ireturn, 1) := by decide +kernel
theorem dX10_rootOf_0 : decode cX10_rootOf 0 = .ok (.iconst 0, 1) := by decide +kernel
theorem dX10_rootOf_1 : decode cX10_rootOf 1 = .ok (.istore_n 1, 1) := by decide +kernel
theorem dX10_rootOf_2 : decode cX10_rootOf 2 = .ok (.iload_n 1, 1) := by decide +kernel
theorem dX10_rootOf_3 : decode cX10_rootOf 3 = .ok (.iconst 1, 1) := by decide +kernel
theorem dX10_rootOf_4 : decode cX10_rootOf 4 = .ok (.iadd, 1) := by decide +kernel
theorem dX10_rootOf_5 : decode cX10_rootOf 5 = .ok (.iload_n 1, 1) := by decide +kernel
theorem dX10_rootOf_6 : decode cX10_rootOf 6 = .ok (.iconst 1, 1) := by decide +kernel
theorem dX10_rootOf_7 : decode cX10_rootOf 7 = .ok (.iadd, 1) := by decide +kernel
theorem dX10_rootOf_8 : decode cX10_rootOf 8 = .ok (.imul, 1) := by decide +kernel
theorem dX10_rootOf_9 : decode cX10_rootOf 9 = .ok (.iload_n 0, 1) := by decide +kernel
theorem dX10_rootOf_10 : decode cX10_rootOf 10 = .ok (.if_icmp .gt 9, 3) := by decide +kernel
theorem dX10_rootOf_13 : decode cX10_rootOf 13 = .ok (.iinc 1 1, 3) := by decide +kernel
theorem dX10_rootOf_16 : decode cX10_rootOf 16 = .ok (.goto (-14), 3) := by decide +kernel
theorem dX10_rootOf_19 : decode cX10_rootOf 19 = .ok (.iload_n 1, 1) := by decide +kernel
theorem dX10_rootOf_20 : decode cX10_rootOf 20 = .ok (.ireturn, 1) := by decide +kernel
theorem dX10_nearness_0 : decode cX10_nearness 0 = .ok (.aload_n 0, 1) := by decide +kernel
theorem dX10_nearness_1 : decode cX10_nearness 1 = .ok (.getfield 25, 3) := by decide +kernel
theorem dX10_nearness_4 : decode cX10_nearness 4 = .ok (.iload_n 1, 1) := by decide +kernel
theorem dX10_nearness_5 : decode cX10_nearness 5 = .ok (.iaload, 1) := by decide +kernel
theorem dX10_nearness_6 : decode cX10_nearness 6 = .ok (.aload_n 0, 1) := by decide +kernel
theorem dX10_nearness_7 : decode cX10_nearness 7 = .ok (.iload_n 1, 1) := by decide +kernel
theorem dX10_nearness_8 : decode cX10_nearness 8 = .ok (.invokevirtual 146, 3) := by decide +kernel
theorem dX10_nearness_11 : decode cX10_nearness 11 = .ok (.ifCond .eq 21, 3) := by decide +kernel
theorem dX10_nearness_14 : decode cX10_nearness 14 = .ok (.aload_n 0, 1) := by decide +kernel
theorem dX10_nearness_15 : decode cX10_nearness 15 = .ok (.iload_n 1, 1) := by decide +kernel
theorem dX10_nearness_16 : decode cX10_nearness 16 = .ok (.invokevirtual 143, 3) := by decide +kernel
theorem dX10_nearness_19 : decode cX10_nearness 19 = .ok (.invokestatic 149, 3) := by decide +kernel
theorem dX10_nearness_22 : decode cX10_nearness 22 = .ok (.aload_n 0, 1) := by decide +kernel
theorem dX10_nearness_23 : decode cX10_nearness 23 = .ok (.getfield 19, 3) := by decide +kernel
theorem dX10_nearness_26 : decode cX10_nearness 26 = .ok (.iload_n 1, 1) := by decide +kernel
theorem dX10_nearness_27 : decode cX10_nearness 27 = .ok (.iaload, 1) := by decide +kernel
theorem dX10_nearness_28 : decode cX10_nearness 28 = .ok (.isub, 1) := by decide +kernel
theorem dX10_nearness_29 : decode cX10_nearness 29 = .ok (.goto 4, 3) := by decide +kernel
theorem dX10_nearness_32 : decode cX10_nearness 32 = .ok (.iconst 0, 1) := by decide +kernel
theorem dX10_nearness_33 : decode cX10_nearness 33 = .ok (.iadd, 1) := by decide +kernel
theorem dX10_nearness_34 : decode cX10_nearness 34 = .ok (.ireturn, 1) := by decide +kernel
theorem dX10_told_0 : decode cX10_told 0 = .ok (.aload_n 0, 1) := by decide +kernel
theorem dX10_told_1 : decode cX10_told 1 = .ok (.iload_n 1, 1) := by decide +kernel
theorem dX10_told_2 : decode cX10_told 2 = .ok (.invokevirtual 139, 3) := by decide +kernel
theorem dX10_told_5 : decode cX10_told 5 = .ok (.ifCond .eq 7, 3) := by decide +kernel
theorem dX10_told_8 : decode cX10_told 8 = .ok (.sipush (-1001), 3) := by decide +kernel
theorem dX10_told_11 : decode cX10_told 11 = .ok (.ireturn, 1) := by decide +kernel
theorem dX10_told_12 : decode cX10_told 12 = .ok (.iconst 0, 1) := by decide +kernel
theorem dX10_told_13 : decode cX10_told 13 = .ok (.istore_n 3, 1) := by decide +kernel
theorem dX10_told_14 : decode cX10_told 14 = .ok (.iconst 0, 1) := by decide +kernel
theorem dX10_told_15 : decode cX10_told 15 = .ok (.istore 4, 2) := by decide +kernel
theorem dX10_told_17 : decode cX10_told 17 = .ok (.iconst 0, 1) := by decide +kernel
theorem dX10_told_18 : decode cX10_told 18 = .ok (.istore 5, 2) := by decide +kernel
theorem dX10_told_20 : decode cX10_told 20 = .ok (.iload 5, 2) := by decide +kernel
theorem dX10_told_22 : decode cX10_told 22 = .ok (.aload_n 0, 1) := by decide +kernel
theorem dX10_told_23 : decode cX10_told 23 = .ok (.getfield 114, 3) := by decide +kernel
theorem dX10_told_26 : decode cX10_told 26 = .ok (.if_icmp .ge 43, 3) := by decide +kernel
theorem dX10_told_29 : decode cX10_told 29 = .ok (.iload_n 3, 1) := by decide +kernel
theorem dX10_told_30 : decode cX10_told 30 = .ok (.aload_n 0, 1) := by decide +kernel
theorem dX10_told_31 : decode cX10_told 31 = .ok (.iload 5, 2) := by decide +kernel
theorem dX10_told_33 : decode cX10_told 33 = .ok (.iload_n 1, 1) := by decide +kernel
theorem dX10_told_34 : decode cX10_told 34 = .ok (.invokevirtual 152, 3) := by decide +kernel
theorem dX10_told_37 : decode cX10_told 37 = .ok (.invokestatic 155, 3) := by decide +kernel
theorem dX10_told_40 : decode cX10_told 40 = .ok (.iload 5, 2) := by decide +kernel
theorem dX10_told_42 : decode cX10_told 42 = .ok (.ishl, 1) := by decide +kernel
theorem dX10_told_43 : decode cX10_told 43 = .ok (.ior, 1) := by decide +kernel
theorem dX10_told_44 : decode cX10_told 44 = .ok (.istore_n 3, 1) := by decide +kernel
theorem dX10_told_45 : decode cX10_told 45 = .ok (.iload 4, 2) := by decide +kernel
theorem dX10_told_47 : decode cX10_told 47 = .ok (.aload_n 0, 1) := by decide +kernel
theorem dX10_told_48 : decode cX10_told 48 = .ok (.iload_n 1, 1) := by decide +kernel
theorem dX10_told_49 : decode cX10_told 49 = .ok (.iload 5, 2) := by decide +kernel
theorem dX10_told_51 : decode cX10_told 51 = .ok (.invokevirtual 152, 3) := by decide +kernel
theorem dX10_told_54 : decode cX10_told 54 = .ok (.invokestatic 155, 3) := by decide +kernel
theorem dX10_told_57 : decode cX10_told 57 = .ok (.iload 5, 2) := by decide +kernel
theorem dX10_told_59 : decode cX10_told 59 = .ok (.ishl, 1) := by decide +kernel
theorem dX10_told_60 : decode cX10_told 60 = .ok (.ior, 1) := by decide +kernel
theorem dX10_told_61 : decode cX10_told 61 = .ok (.istore 4, 2) := by decide +kernel
theorem dX10_told_63 : decode cX10_told 63 = .ok (.iinc 5 1, 3) := by decide +kernel
theorem dX10_told_66 : decode cX10_told 66 = .ok (.goto (-46), 3) := by decide +kernel
theorem dX10_told_69 : decode cX10_told 69 = .ok (.iload_n 2, 1) := by decide +kernel
theorem dX10_told_70 : decode cX10_told 70 = .ok (.tableswitch 133 0 9 #[54, 61, 68, 75, 81, 90, 108, 118, 120, 123], 54) := by decide +kernel
theorem dX10_told_124 : decode cX10_told 124 = .ok (.aload_n 0, 1) := by decide +kernel
theorem dX10_told_125 : decode cX10_told 125 = .ok (.getfield 7, 3) := by decide +kernel
theorem dX10_told_128 : decode cX10_told 128 = .ok (.iload_n 1, 1) := by decide +kernel
theorem dX10_told_129 : decode cX10_told 129 = .ok (.iaload, 1) := by decide +kernel
theorem dX10_told_130 : decode cX10_told 130 = .ok (.ireturn, 1) := by decide +kernel
theorem dX10_told_131 : decode cX10_told 131 = .ok (.aload_n 0, 1) := by decide +kernel
theorem dX10_told_132 : decode cX10_told 132 = .ok (.getfield 13, 3) := by decide +kernel
theorem dX10_told_135 : decode cX10_told 135 = .ok (.iload_n 1, 1) := by decide +kernel
theorem dX10_told_136 : decode cX10_told 136 = .ok (.iaload, 1) := by decide +kernel
theorem dX10_told_137 : decode cX10_told 137 = .ok (.ireturn, 1) := by decide +kernel
theorem dX10_told_138 : decode cX10_told 138 = .ok (.aload_n 0, 1) := by decide +kernel
theorem dX10_told_139 : decode cX10_told 139 = .ok (.getfield 16, 3) := by decide +kernel
theorem dX10_told_142 : decode cX10_told 142 = .ok (.iload_n 1, 1) := by decide +kernel
theorem dX10_told_143 : decode cX10_told 143 = .ok (.iaload, 1) := by decide +kernel
theorem dX10_told_144 : decode cX10_told 144 = .ok (.ireturn, 1) := by decide +kernel
theorem dX10_told_145 : decode cX10_told 145 = .ok (.aload_n 0, 1) := by decide +kernel
theorem dX10_told_146 : decode cX10_told 146 = .ok (.iload_n 1, 1) := by decide +kernel
theorem dX10_told_147 : decode cX10_told 147 = .ok (.invokevirtual 143, 3) := by decide +kernel
theorem dX10_told_150 : decode cX10_told 150 = .ok (.ireturn, 1) := by decide +kernel
theorem dX10_told_151 : decode cX10_told 151 = .ok (.aload_n 0, 1) := by decide +kernel
theorem dX10_told_152 : decode cX10_told 152 = .ok (.iload_n 1, 1) := by decide +kernel
theorem dX10_told_153 : decode cX10_told 153 = .ok (.invokevirtual 159, 3) := by decide +kernel
theorem dX10_told_156 : decode cX10_told 156 = .ok (.invokestatic 155, 3) := by decide +kernel
theorem dX10_told_159 : decode cX10_told 159 = .ok (.ireturn, 1) := by decide +kernel
theorem dX10_told_160 : decode cX10_told 160 = .ok (.aload_n 0, 1) := by decide +kernel
theorem dX10_told_161 : decode cX10_told 161 = .ok (.iload_n 1, 1) := by decide +kernel
theorem dX10_told_162 : decode cX10_told 162 = .ok (.invokevirtual 159, 3) := by decide +kernel
theorem dX10_told_165 : decode cX10_told 165 = .ok (.ifCond .eq 7, 3) := by decide +kernel
theorem dX10_told_168 : decode cX10_told 168 = .ok (.iconst (-1), 1) := by decide +kernel
theorem dX10_told_169 : decode cX10_told 169 = .ok (.goto 8, 3) := by decide +kernel
theorem dX10_told_172 : decode cX10_told 172 = .ok (.aload_n 0, 1) := by decide +kernel
theorem dX10_told_173 : decode cX10_told 173 = .ok (.iload_n 1, 1) := by decide +kernel
theorem dX10_told_174 : decode cX10_told 174 = .ok (.invokevirtual 162, 3) := by decide +kernel
theorem dX10_told_177 : decode cX10_told 177 = .ok (.ireturn, 1) := by decide +kernel
theorem dX10_told_178 : decode cX10_told 178 = .ok (.aload_n 0, 1) := by decide +kernel
theorem dX10_told_179 : decode cX10_told 179 = .ok (.getfield 32, 3) := by decide +kernel
theorem dX10_told_182 : decode cX10_told 182 = .ok (.iload_n 1, 1) := by decide +kernel
theorem dX10_told_183 : decode cX10_told 183 = .ok (.baload, 1) := by decide +kernel
theorem dX10_told_184 : decode cX10_told 184 = .ok (.invokestatic 155, 3) := by decide +kernel
theorem dX10_told_187 : decode cX10_told 187 = .ok (.ireturn, 1) := by decide +kernel
theorem dX10_told_188 : decode cX10_told 188 = .ok (.iload_n 3, 1) := by decide +kernel
theorem dX10_told_189 : decode cX10_told 189 = .ok (.ireturn, 1) := by decide +kernel
theorem dX10_told_190 : decode cX10_told 190 = .ok (.iload 4, 2) := by decide +kernel
theorem dX10_told_192 : decode cX10_told 192 = .ok (.ireturn, 1) := by decide +kernel
theorem dX10_told_193 : decode cX10_told 193 = .ok (.aload_n 0, 1) := by decide +kernel
theorem dX10_told_194 : decode cX10_told 194 = .ok (.getfield 28, 3) := by decide +kernel
theorem dX10_told_197 : decode cX10_told 197 = .ok (.iload_n 1, 1) := by decide +kernel
theorem dX10_told_198 : decode cX10_told 198 = .ok (.baload, 1) := by decide +kernel
theorem dX10_told_199 : decode cX10_told 199 = .ok (.invokestatic 155, 3) := by decide +kernel
theorem dX10_told_202 : decode cX10_told 202 = .ok (.ireturn, 1) := by decide +kernel
theorem dX10_told_203 : decode cX10_told 203 = .ok (.sipush (-1002), 3) := by decide +kernel
theorem dX10_told_206 : decode cX10_told 206 = .ok (.ireturn, 1) := by decide +kernel
theorem dX10_held_0 : decode cX10_held 0 = .ok (.lload_n 2, 1) := by decide +kernel
theorem dX10_held_1 : decode cX10_held 1 = .ok (.lload 6, 2) := by decide +kernel
theorem dX10_held_3 : decode cX10_held 3 = .ok (.lsub, 1) := by decide +kernel
theorem dX10_held_4 : decode cX10_held 4 = .ok (.lstore 8, 2) := by decide +kernel
theorem dX10_held_6 : decode cX10_held 6 = .ok (.lload 8, 2) := by decide +kernel
theorem dX10_held_8 : decode cX10_held 8 = .ok (.lconst 0, 1) := by decide +kernel
theorem dX10_held_9 : decode cX10_held 9 = .ok (.lcmp, 1) := by decide +kernel
theorem dX10_held_10 : decode cX10_held 10 = .ok (.ifCond .ge 16, 3) := by decide +kernel
theorem dX10_held_13 : decode cX10_held 13 = .ok (.iconst 0, 1) := by decide +kernel
theorem dX10_held_14 : decode cX10_held 14 = .ok (.lload 4, 2) := by decide +kernel
theorem dX10_held_16 : decode cX10_held 16 = .ok (.lload_n 0, 1) := by decide +kernel
theorem dX10_held_17 : decode cX10_held 17 = .ok (.lconst 0, 1) := by decide +kernel
theorem dX10_held_18 : decode cX10_held 18 = .ok (.lload 8, 2) := by decide +kernel
theorem dX10_held_20 : decode cX10_held 20 = .ok (.lsub, 1) := by decide +kernel
theorem dX10_held_21 : decode cX10_held 21 = .ok (.invokestatic 165, 3) := by decide +kernel
theorem dX10_held_24 : decode cX10_held 24 = .ok (.isub, 1) := by decide +kernel
theorem dX10_held_25 : decode cX10_held 25 = .ok (.ireturn, 1) := by decide +kernel
theorem dX10_held_26 : decode cX10_held 26 = .ok (.lload_n 0, 1) := by decide +kernel
theorem dX10_held_27 : decode cX10_held 27 = .ok (.lload 4, 2) := by decide +kernel
theorem dX10_held_29 : decode cX10_held 29 = .ok (.lload 8, 2) := by decide +kernel
theorem dX10_held_31 : decode cX10_held 31 = .ok (.invokestatic 165, 3) := by decide +kernel
theorem dX10_held_34 : decode cX10_held 34 = .ok (.ireturn, 1) := by decide +kernel
theorem dX10_held2_0 : decode cX10_held2 0 = .ok (.lload_n 2, 1) := by decide +kernel
theorem dX10_held2_1 : decode cX10_held2 1 = .ok (.lload_n 0, 1) := by decide +kernel
theorem dX10_held2_2 : decode cX10_held2 2 = .ok (.lsub, 1) := by decide +kernel
theorem dX10_held2_3 : decode cX10_held2 3 = .ok (.lload 4, 2) := by decide +kernel
theorem dX10_held2_5 : decode cX10_held2 5 = .ok (.lload 4, 2) := by decide +kernel
theorem dX10_held2_7 : decode cX10_held2 7 = .ok (.lmul, 1) := by decide +kernel
theorem dX10_held2_8 : decode cX10_held2 8 = .ok (.lsub, 1) := by decide +kernel
theorem dX10_held2_9 : decode cX10_held2 9 = .ok (.lstore 6, 2) := by decide +kernel
theorem dX10_held2_11 : decode cX10_held2 11 = .ok (.lload 6, 2) := by decide +kernel
theorem dX10_held2_13 : decode cX10_held2 13 = .ok (.lconst 0, 1) := by decide +kernel
theorem dX10_held2_14 : decode cX10_held2 14 = .ok (.lcmp, 1) := by decide +kernel
theorem dX10_held2_15 : decode cX10_held2 15 = .ok (.ifCond .ge 5, 3) := by decide +kernel
theorem dX10_held2_18 : decode cX10_held2 18 = .ok (.iconst 1, 1) := by decide +kernel
theorem dX10_held2_19 : decode cX10_held2 19 = .ok (.ireturn, 1) := by decide +kernel
theorem dX10_held2_20 : decode cX10_held2 20 = .ok (.ldc2_w 169, 3) := by decide +kernel
theorem dX10_held2_23 : decode cX10_held2 23 = .ok (.lload 4, 2) := by decide +kernel
theorem dX10_held2_25 : decode cX10_held2 25 = .ok (.lmul, 1) := by decide +kernel
theorem dX10_held2_26 : decode cX10_held2 26 = .ok (.lload 4, 2) := by decide +kernel
theorem dX10_held2_28 : decode cX10_held2 28 = .ok (.lmul, 1) := by decide +kernel
theorem dX10_held2_29 : decode cX10_held2 29 = .ok (.lload_n 0, 1) := by decide +kernel
theorem dX10_held2_30 : decode cX10_held2 30 = .ok (.lmul, 1) := by decide +kernel
theorem dX10_held2_31 : decode cX10_held2 31 = .ok (.lstore 8, 2) := by decide +kernel
theorem dX10_held2_33 : decode cX10_held2 33 = .ok (.lload 6, 2) := by decide +kernel
theorem dX10_held2_35 : decode cX10_held2 35 = .ok (.lload 6, 2) := by decide +kernel
theorem dX10_held2_37 : decode cX10_held2 37 = .ok (.lmul, 1) := by decide +kernel
theorem dX10_held2_38 : decode cX10_held2 38 = .ok (.lstore 10, 2) := by decide +kernel
theorem dX10_held2_40 : decode cX10_held2 40 = .ok (.lload 8, 2) := by decide +kernel
theorem dX10_held2_42 : decode cX10_held2 42 = .ok (.lload 10, 2) := by decide +kernel
theorem dX10_held2_44 : decode cX10_held2 44 = .ok (.lcmp, 1) := by decide +kernel
theorem dX10_held2_45 : decode cX10_held2 45 = .ok (.ifCond .le 7, 3) := by decide +kernel
theorem dX10_held2_48 : decode cX10_held2 48 = .ok (.iconst 1, 1) := by decide +kernel
theorem dX10_held2_49 : decode cX10_held2 49 = .ok (.goto 16, 3) := by decide +kernel
theorem dX10_held2_52 : decode cX10_held2 52 = .ok (.lload 8, 2) := by decide +kernel
theorem dX10_held2_54 : decode cX10_held2 54 = .ok (.lload 10, 2) := by decide +kernel
theorem dX10_held2_56 : decode cX10_held2 56 = .ok (.lcmp, 1) := by decide +kernel
theorem dX10_held2_57 : decode cX10_held2 57 = .ok (.ifCond .ge 7, 3) := by decide +kernel
theorem dX10_held2_60 : decode cX10_held2 60 = .ok (.iconst (-1), 1) := by decide +kernel
theorem dX10_held2_61 : decode cX10_held2 61 = .ok (.goto 4, 3) := by decide +kernel
theorem dX10_held2_64 : decode cX10_held2 64 = .ok (.iconst 0, 1) := by decide +kernel
theorem dX10_held2_65 : decode cX10_held2 65 = .ok (.ireturn, 1) := by decide +kernel
theorem dX10_rootPart_0 : decode cX10_rootPart 0 = .ok (.aload_n 0, 1) := by decide +kernel
theorem dX10_rootPart_1 : decode cX10_rootPart 1 = .ok (.iload_n 1, 1) := by decide +kernel
theorem dX10_rootPart_2 : decode cX10_rootPart 2 = .ok (.invokevirtual 146, 3) := by decide +kernel
theorem dX10_rootPart_5 : decode cX10_rootPart 5 = .ok (.ifCond .eq 12, 3) := by decide +kernel
theorem dX10_rootPart_8 : decode cX10_rootPart 8 = .ok (.aload_n 0, 1) := by decide +kernel
theorem dX10_rootPart_9 : decode cX10_rootPart 9 = .ok (.iload_n 1, 1) := by decide +kernel
theorem dX10_rootPart_10 : decode cX10_rootPart 10 = .ok (.invokevirtual 143, 3) := by decide +kernel
theorem dX10_rootPart_13 : decode cX10_rootPart 13 = .ok (.i2l, 1) := by decide +kernel
theorem dX10_rootPart_14 : decode cX10_rootPart 14 = .ok (.goto 4, 3) := by decide +kernel
theorem dX10_rootPart_17 : decode cX10_rootPart 17 = .ok (.lconst 0, 1) := by decide +kernel
theorem dX10_rootPart_18 : decode cX10_rootPart 18 = .ok (.lreturn, 1) := by decide +kernel
theorem dX10_wholePart_0 : decode cX10_wholePart 0 = .ok (.aload_n 0, 1) := by decide +kernel
theorem dX10_wholePart_1 : decode cX10_wholePart 1 = .ok (.getfield 25, 3) := by decide +kernel
theorem dX10_wholePart_4 : decode cX10_wholePart 4 = .ok (.iload_n 1, 1) := by decide +kernel
theorem dX10_wholePart_5 : decode cX10_wholePart 5 = .ok (.iaload, 1) := by decide +kernel
theorem dX10_wholePart_6 : decode cX10_wholePart 6 = .ok (.i2l, 1) := by decide +kernel
theorem dX10_wholePart_7 : decode cX10_wholePart 7 = .ok (.aload_n 0, 1) := by decide +kernel
theorem dX10_wholePart_8 : decode cX10_wholePart 8 = .ok (.iload_n 1, 1) := by decide +kernel
theorem dX10_wholePart_9 : decode cX10_wholePart 9 = .ok (.invokevirtual 146, 3) := by decide +kernel
theorem dX10_wholePart_12 : decode cX10_wholePart 12 = .ok (.ifCond .eq 13, 3) := by decide +kernel
theorem dX10_wholePart_15 : decode cX10_wholePart 15 = .ok (.aload_n 0, 1) := by decide +kernel
theorem dX10_wholePart_16 : decode cX10_wholePart 16 = .ok (.getfield 19, 3) := by decide +kernel
theorem dX10_wholePart_19 : decode cX10_wholePart 19 = .ok (.iload_n 1, 1) := by decide +kernel
theorem dX10_wholePart_20 : decode cX10_wholePart 20 = .ok (.iaload, 1) := by decide +kernel
theorem dX10_wholePart_21 : decode cX10_wholePart 21 = .ok (.i2l, 1) := by decide +kernel
theorem dX10_wholePart_22 : decode cX10_wholePart 22 = .ok (.goto 4, 3) := by decide +kernel
theorem dX10_wholePart_25 : decode cX10_wholePart 25 = .ok (.lconst 0, 1) := by decide +kernel
theorem dX10_wholePart_26 : decode cX10_wholePart 26 = .ok (.lsub, 1) := by decide +kernel
theorem dX10_wholePart_27 : decode cX10_wholePart 27 = .ok (.lreturn, 1) := by decide +kernel
theorem dX10_nearer_0 : decode cX10_nearer 0 = .ok (.aload_n 0, 1) := by decide +kernel
theorem dX10_nearer_1 : decode cX10_nearer 1 = .ok (.iload_n 1, 1) := by decide +kernel
theorem dX10_nearer_2 : decode cX10_nearer 2 = .ok (.invokevirtual 139, 3) := by decide +kernel
theorem dX10_nearer_5 : decode cX10_nearer 5 = .ok (.ifCond .ne 11, 3) := by decide +kernel
theorem dX10_nearer_8 : decode cX10_nearer 8 = .ok (.aload_n 0, 1) := by decide +kernel
theorem dX10_nearer_9 : decode cX10_nearer 9 = .ok (.iload_n 2, 1) := by decide +kernel
theorem dX10_nearer_10 : decode cX10_nearer 10 = .ok (.invokevirtual 139, 3) := by decide +kernel
theorem dX10_nearer_13 : decode cX10_nearer 13 = .ok (.ifCond .eq 7, 3) := by decide +kernel
theorem dX10_nearer_16 : decode cX10_nearer 16 = .ok (.sipush (-1001), 3) := by decide +kernel
theorem dX10_nearer_19 : decode cX10_nearer 19 = .ok (.ireturn, 1) := by decide +kernel
theorem dX10_nearer_20 : decode cX10_nearer 20 = .ok (.iload_n 3, 1) := by decide +kernel
theorem dX10_nearer_21 : decode cX10_nearer 21 = .ok (.i2l, 1) := by decide +kernel
theorem dX10_nearer_22 : decode cX10_nearer 22 = .ok (.ldc2_w 171, 3) := by decide +kernel
theorem dX10_nearer_25 : decode cX10_nearer 25 = .ok (.ldc2_w 173, 3) := by decide +kernel
theorem dX10_nearer_28 : decode cX10_nearer 28 = .ok (.invokestatic 117, 3) := by decide +kernel
theorem dX10_nearer_31 : decode cX10_nearer 31 = .ok (.ifCond .ne 7, 3) := by decide +kernel
theorem dX10_nearer_34 : decode cX10_nearer 34 = .ok (.sipush (-1002), 3) := by decide +kernel
theorem dX10_nearer_37 : decode cX10_nearer 37 = .ok (.ireturn, 1) := by decide +kernel
theorem dX10_nearer_38 : decode cX10_nearer 38 = .ok (.aload_n 0, 1) := by decide +kernel
theorem dX10_nearer_39 : decode cX10_nearer 39 = .ok (.iload_n 1, 1) := by decide +kernel
theorem dX10_nearer_40 : decode cX10_nearer 40 = .ok (.invokevirtual 159, 3) := by decide +kernel
theorem dX10_nearer_43 : decode cX10_nearer 43 = .ok (.ifCond .ne 11, 3) := by decide +kernel
theorem dX10_nearer_46 : decode cX10_nearer 46 = .ok (.aload_n 0, 1) := by decide +kernel
theorem dX10_nearer_47 : decode cX10_nearer 47 = .ok (.iload_n 2, 1) := by decide +kernel
theorem dX10_nearer_48 : decode cX10_nearer 48 = .ok (.invokevirtual 159, 3) := by decide +kernel
theorem dX10_nearer_51 : decode cX10_nearer 51 = .ok (.ifCond .eq 7, 3) := by decide +kernel
theorem dX10_nearer_54 : decode cX10_nearer 54 = .ok (.sipush (-1003), 3) := by decide +kernel
theorem dX10_nearer_57 : decode cX10_nearer 57 = .ok (.ireturn, 1) := by decide +kernel
theorem dX10_nearer_58 : decode cX10_nearer 58 = .ok (.aload_n 0, 1) := by decide +kernel
theorem dX10_nearer_59 : decode cX10_nearer 59 = .ok (.iload_n 1, 1) := by decide +kernel
theorem dX10_nearer_60 : decode cX10_nearer 60 = .ok (.invokevirtual 175, 3) := by decide +kernel
theorem dX10_nearer_63 : decode cX10_nearer 63 = .ok (.aload_n 0, 1) := by decide +kernel
theorem dX10_nearer_64 : decode cX10_nearer 64 = .ok (.iload_n 1, 1) := by decide +kernel
theorem dX10_nearer_65 : decode cX10_nearer 65 = .ok (.invokevirtual 179, 3) := by decide +kernel
theorem dX10_nearer_68 : decode cX10_nearer 68 = .ok (.iload_n 3, 1) := by decide +kernel
theorem dX10_nearer_69 : decode cX10_nearer 69 = .ok (.i2l, 1) := by decide +kernel
theorem dX10_nearer_70 : decode cX10_nearer 70 = .ok (.ladd, 1) := by decide +kernel
theorem dX10_nearer_71 : decode cX10_nearer 71 = .ok (.aload_n 0, 1) := by decide +kernel
theorem dX10_nearer_72 : decode cX10_nearer 72 = .ok (.iload_n 2, 1) := by decide +kernel
theorem dX10_nearer_73 : decode cX10_nearer 73 = .ok (.invokevirtual 175, 3) := by decide +kernel
theorem dX10_nearer_76 : decode cX10_nearer 76 = .ok (.aload_n 0, 1) := by decide +kernel
theorem dX10_nearer_77 : decode cX10_nearer 77 = .ok (.iload_n 2, 1) := by decide +kernel
theorem dX10_nearer_78 : decode cX10_nearer 78 = .ok (.invokevirtual 179, 3) := by decide +kernel
theorem dX10_nearer_81 : decode cX10_nearer 81 = .ok (.invokestatic 182, 3) := by decide +kernel
theorem dX10_nearer_84 : decode cX10_nearer 84 = .ok (.ireturn, 1) := by decide +kernel
theorem dX10_ringersOf_0 : decode cX10_ringersOf 0 = .ok (.iconst 0, 1) := by decide +kernel
theorem dX10_ringersOf_1 : decode cX10_ringersOf 1 = .ok (.istore_n 2, 1) := by decide +kernel
theorem dX10_ringersOf_2 : decode cX10_ringersOf 2 = .ok (.iconst 0, 1) := by decide +kernel
theorem dX10_ringersOf_3 : decode cX10_ringersOf 3 = .ok (.istore_n 3, 1) := by decide +kernel
theorem dX10_ringersOf_4 : decode cX10_ringersOf 4 = .ok (.iload_n 3, 1) := by decide +kernel
theorem dX10_ringersOf_5 : decode cX10_ringersOf 5 = .ok (.aload_n 0, 1) := by decide +kernel
theorem dX10_ringersOf_6 : decode cX10_ringersOf 6 = .ok (.getfield 114, 3) := by decide +kernel
theorem dX10_ringersOf_9 : decode cX10_ringersOf 9 = .ok (.if_icmp .ge 47, 3) := by decide +kernel
theorem dX10_ringersOf_12 : decode cX10_ringersOf 12 = .ok (.iload_n 2, 1) := by decide +kernel
theorem dX10_ringersOf_13 : decode cX10_ringersOf 13 = .ok (.aload_n 0, 1) := by decide +kernel
theorem dX10_ringersOf_14 : decode cX10_ringersOf 14 = .ok (.getfield 32, 3) := by decide +kernel
theorem dX10_ringersOf_17 : decode cX10_ringersOf 17 = .ok (.iload_n 3, 1) := by decide +kernel
theorem dX10_ringersOf_18 : decode cX10_ringersOf 18 = .ok (.baload, 1) := by decide +kernel
theorem dX10_ringersOf_19 : decode cX10_ringersOf 19 = .ok (.ifCond .ne 25, 3) := by decide +kernel
theorem dX10_ringersOf_22 : decode cX10_ringersOf 22 = .ok (.aload_n 0, 1) := by decide +kernel
theorem dX10_ringersOf_23 : decode cX10_ringersOf 23 = .ok (.iload_n 3, 1) := by decide +kernel
theorem dX10_ringersOf_24 : decode cX10_ringersOf 24 = .ok (.invokevirtual 159, 3) := by decide +kernel
theorem dX10_ringersOf_27 : decode cX10_ringersOf 27 = .ok (.ifCond .eq 17, 3) := by decide +kernel
theorem dX10_ringersOf_30 : decode cX10_ringersOf 30 = .ok (.aload_n 0, 1) := by decide +kernel
theorem dX10_ringersOf_31 : decode cX10_ringersOf 31 = .ok (.getfield 7, 3) := by decide +kernel
theorem dX10_ringersOf_34 : decode cX10_ringersOf 34 = .ok (.iload_n 3, 1) := by decide +kernel
theorem dX10_ringersOf_35 : decode cX10_ringersOf 35 = .ok (.iaload, 1) := by decide +kernel
theorem dX10_ringersOf_36 : decode cX10_ringersOf 36 = .ok (.iload_n 1, 1) := by decide +kernel
theorem dX10_ringersOf_37 : decode cX10_ringersOf 37 = .ok (.if_icmp .ne 7, 3) := by decide +kernel
theorem dX10_ringersOf_40 : decode cX10_ringersOf 40 = .ok (.iconst 1, 1) := by decide +kernel
theorem dX10_ringersOf_41 : decode cX10_ringersOf 41 = .ok (.goto 4, 3) := by decide +kernel
theorem dX10_ringersOf_44 : decode cX10_ringersOf 44 = .ok (.iconst 0, 1) := by decide +kernel
theorem dX10_ringersOf_45 : decode cX10_ringersOf 45 = .ok (.invokestatic 155, 3) := by decide +kernel
theorem dX10_ringersOf_48 : decode cX10_ringersOf 48 = .ok (.iadd, 1) := by decide +kernel
theorem dX10_ringersOf_49 : decode cX10_ringersOf 49 = .ok (.istore_n 2, 1) := by decide +kernel
theorem dX10_ringersOf_50 : decode cX10_ringersOf 50 = .ok (.iinc 3 1, 3) := by decide +kernel
theorem dX10_ringersOf_53 : decode cX10_ringersOf 53 = .ok (.goto (-49), 3) := by decide +kernel
theorem dX10_ringersOf_56 : decode cX10_ringersOf 56 = .ok (.iload_n 2, 1) := by decide +kernel
theorem dX10_ringersOf_57 : decode cX10_ringersOf 57 = .ok (.ireturn, 1) := by decide +kernel
theorem dX10_count_0 : decode cX10_count 0 = .ok (.iconst 0, 1) := by decide +kernel
theorem dX10_count_1 : decode cX10_count 1 = .ok (.istore_n 2, 1) := by decide +kernel
theorem dX10_count_2 : decode cX10_count 2 = .ok (.iconst 0, 1) := by decide +kernel
theorem dX10_count_3 : decode cX10_count 3 = .ok (.istore_n 3, 1) := by decide +kernel
theorem dX10_count_4 : decode cX10_count 4 = .ok (.iconst 0, 1) := by decide +kernel
theorem dX10_count_5 : decode cX10_count 5 = .ok (.istore 4, 2) := by decide +kernel
theorem dX10_count_7 : decode cX10_count 7 = .ok (.iconst 0, 1) := by decide +kernel
theorem dX10_count_8 : decode cX10_count 8 = .ok (.istore 5, 2) := by decide +kernel
theorem dX10_count_10 : decode cX10_count 10 = .ok (.iload 5, 2) := by decide +kernel
theorem dX10_count_12 : decode cX10_count 12 = .ok (.aload_n 0, 1) := by decide +kernel
theorem dX10_count_13 : decode cX10_count 13 = .ok (.getfield 114, 3) := by decide +kernel
theorem dX10_count_16 : decode cX10_count 16 = .ok (.if_icmp .ge 48, 3) := by decide +kernel
theorem dX10_count_19 : decode cX10_count 19 = .ok (.iload_n 2, 1) := by decide +kernel
theorem dX10_count_20 : decode cX10_count 20 = .ok (.aload_n 0, 1) := by decide +kernel
theorem dX10_count_21 : decode cX10_count 21 = .ok (.getfield 32, 3) := by decide +kernel
theorem dX10_count_24 : decode cX10_count 24 = .ok (.iload 5, 2) := by decide +kernel
theorem dX10_count_26 : decode cX10_count 26 = .ok (.baload, 1) := by decide +kernel
theorem dX10_count_27 : decode cX10_count 27 = .ok (.invokestatic 155, 3) := by decide +kernel
theorem dX10_count_30 : decode cX10_count 30 = .ok (.iadd, 1) := by decide +kernel
theorem dX10_count_31 : decode cX10_count 31 = .ok (.istore_n 2, 1) := by decide +kernel
theorem dX10_count_32 : decode cX10_count 32 = .ok (.iload_n 3, 1) := by decide +kernel
theorem dX10_count_33 : decode cX10_count 33 = .ok (.aload_n 0, 1) := by decide +kernel
theorem dX10_count_34 : decode cX10_count 34 = .ok (.iload 5, 2) := by decide +kernel
theorem dX10_count_36 : decode cX10_count 36 = .ok (.invokevirtual 186, 3) := by decide +kernel
theorem dX10_count_39 : decode cX10_count 39 = .ok (.invokestatic 155, 3) := by decide +kernel
theorem dX10_count_42 : decode cX10_count 42 = .ok (.iadd, 1) := by decide +kernel
theorem dX10_count_43 : decode cX10_count 43 = .ok (.istore_n 3, 1) := by decide +kernel
theorem dX10_count_44 : decode cX10_count 44 = .ok (.iload 4, 2) := by decide +kernel
theorem dX10_count_46 : decode cX10_count 46 = .ok (.aload_n 0, 1) := by decide +kernel
theorem dX10_count_47 : decode cX10_count 47 = .ok (.iload 5, 2) := by decide +kernel
theorem dX10_count_49 : decode cX10_count 49 = .ok (.invokevirtual 189, 3) := by decide +kernel
theorem dX10_count_52 : decode cX10_count 52 = .ok (.invokestatic 155, 3) := by decide +kernel
theorem dX10_count_55 : decode cX10_count 55 = .ok (.iadd, 1) := by decide +kernel
theorem dX10_count_56 : decode cX10_count 56 = .ok (.istore 4, 2) := by decide +kernel
theorem dX10_count_58 : decode cX10_count 58 = .ok (.iinc 5 1, 3) := by decide +kernel
theorem dX10_count_61 : decode cX10_count 61 = .ok (.goto (-51), 3) := by decide +kernel
theorem dX10_count_64 : decode cX10_count 64 = .ok (.iload_n 1, 1) := by decide +kernel
theorem dX10_count_65 : decode cX10_count 65 = .ok (.tableswitch 99 0 9 #[55, 60, 62, 68, 74, 79, 84, 89, 94, 96], 55) := by decide +kernel
theorem dX10_count_120 : decode cX10_count 120 = .ok (.aload_n 0, 1) := by decide +kernel
theorem dX10_count_121 : decode cX10_count 121 = .ok (.getfield 114, 3) := by decide +kernel
theorem dX10_count_124 : decode cX10_count 124 = .ok (.ireturn, 1) := by decide +kernel
theorem dX10_count_125 : decode cX10_count 125 = .ok (.iload_n 2, 1) := by decide +kernel
theorem dX10_count_126 : decode cX10_count 126 = .ok (.ireturn, 1) := by decide +kernel
theorem dX10_count_127 : decode cX10_count 127 = .ok (.aload_n 0, 1) := by decide +kernel
theorem dX10_count_128 : decode cX10_count 128 = .ok (.iconst 0, 1) := by decide +kernel
theorem dX10_count_129 : decode cX10_count 129 = .ok (.invokevirtual 192, 3) := by decide +kernel
theorem dX10_count_132 : decode cX10_count 132 = .ok (.ireturn, 1) := by decide +kernel
theorem dX10_count_133 : decode cX10_count 133 = .ok (.aload_n 0, 1) := by decide +kernel
theorem dX10_count_134 : decode cX10_count 134 = .ok (.iconst 1, 1) := by decide +kernel
theorem dX10_count_135 : decode cX10_count 135 = .ok (.invokevirtual 192, 3) := by decide +kernel
theorem dX10_count_138 : decode cX10_count 138 = .ok (.ireturn, 1) := by decide +kernel
theorem dX10_count_139 : decode cX10_count 139 = .ok (.aload_n 0, 1) := by decide +kernel
theorem dX10_count_140 : decode cX10_count 140 = .ok (.getfield 195, 3) := by decide +kernel
theorem dX10_count_143 : decode cX10_count 143 = .ok (.ireturn, 1) := by decide +kernel
theorem dX10_count_144 : decode cX10_count 144 = .ok (.aload_n 0, 1) := by decide +kernel
theorem dX10_count_145 : decode cX10_count 145 = .ok (.invokevirtual 198, 3) := by decide +kernel
theorem dX10_count_148 : decode cX10_count 148 = .ok (.ireturn, 1) := by decide +kernel
theorem dX10_count_149 : decode cX10_count 149 = .ok (.aload_n 0, 1) := by decide +kernel
theorem dX10_count_150 : decode cX10_count 150 = .ok (.getfield 202, 3) := by decide +kernel
theorem dX10_count_153 : decode cX10_count 153 = .ok (.ireturn, 1) := by decide +kernel
theorem dX10_count_154 : decode cX10_count 154 = .ok (.aload_n 0, 1) := by decide +kernel
theorem dX10_count_155 : decode cX10_count 155 = .ok (.getfield 111, 3) := by decide +kernel
theorem dX10_count_158 : decode cX10_count 158 = .ok (.ireturn, 1) := by decide +kernel
theorem dX10_count_159 : decode cX10_count 159 = .ok (.iload_n 3, 1) := by decide +kernel
theorem dX10_count_160 : decode cX10_count 160 = .ok (.ireturn, 1) := by decide +kernel
theorem dX10_count_161 : decode cX10_count 161 = .ok (.iload 4, 2) := by decide +kernel
theorem dX10_count_163 : decode cX10_count 163 = .ok (.ireturn, 1) := by decide +kernel
theorem dX10_count_164 : decode cX10_count 164 = .ok (.sipush (-1002), 3) := by decide +kernel
theorem dX10_count_167 : decode cX10_count 167 = .ok (.ireturn, 1) := by decide +kernel
theorem dX10_feed_0 : decode cX10_feed 0 = .ok (.iload_n 1, 1) := by decide +kernel
theorem dX10_feed_1 : decode cX10_feed 1 = .ok (.i2l, 1) := by decide +kernel
theorem dX10_feed_2 : decode cX10_feed 2 = .ok (.lconst 1, 1) := by decide +kernel
theorem dX10_feed_3 : decode cX10_feed 3 = .ok (.ldc2_w 205, 3) := by decide +kernel
theorem dX10_feed_6 : decode cX10_feed 6 = .ok (.invokestatic 117, 3) := by decide +kernel
theorem dX10_feed_9 : decode cX10_feed 9 = .ok (.ifCond .ne 7, 3) := by decide +kernel
theorem dX10_feed_12 : decode cX10_feed 12 = .ok (.sipush (-1002), 3) := by decide +kernel
theorem dX10_feed_15 : decode cX10_feed 15 = .ok (.ireturn, 1) := by decide +kernel
theorem dX10_feed_16 : decode cX10_feed 16 = .ok (.aload_n 0, 1) := by decide +kernel
theorem dX10_feed_17 : decode cX10_feed 17 = .ok (.getfield 202, 3) := by decide +kernel
theorem dX10_feed_20 : decode cX10_feed 20 = .ok (.iload_n 1, 1) := by decide +kernel
theorem dX10_feed_21 : decode cX10_feed 21 = .ok (.iadd, 1) := by decide +kernel
theorem dX10_feed_22 : decode cX10_feed 22 = .ok (.bipush 100, 2) := by decide +kernel
theorem dX10_feed_24 : decode cX10_feed 24 = .ok (.if_icmp .le 7, 3) := by decide +kernel
theorem dX10_feed_27 : decode cX10_feed 27 = .ok (.sipush (-1004), 3) := by decide +kernel
theorem dX10_feed_30 : decode cX10_feed 30 = .ok (.ireturn, 1) := by decide +kernel
theorem dX10_feed_31 : decode cX10_feed 31 = .ok (.iload_n 1, 1) := by decide +kernel
theorem dX10_feed_32 : decode cX10_feed 32 = .ok (.iconst 1, 1) := by decide +kernel
theorem dX10_feed_33 : decode cX10_feed 33 = .ok (.isub, 1) := by decide +kernel
theorem dX10_feed_34 : decode cX10_feed 34 = .ok (.istore 4, 2) := by decide +kernel
theorem dX10_feed_36 : decode cX10_feed 36 = .ok (.iload 4, 2) := by decide +kernel
theorem dX10_feed_38 : decode cX10_feed 38 = .ok (.ifCond .lt 40, 3) := by decide +kernel
theorem dX10_feed_41 : decode cX10_feed 41 = .ok (.aload_n 0, 1) := by decide +kernel
theorem dX10_feed_42 : decode cX10_feed 42 = .ok (.getfield 44, 3) := by decide +kernel
theorem dX10_feed_45 : decode cX10_feed 45 = .ok (.aload_n 0, 1) := by decide +kernel
theorem dX10_feed_46 : decode cX10_feed 46 = .ok (.getfield 202, 3) := by decide +kernel
theorem dX10_feed_49 : decode cX10_feed 49 = .ok (.lload_n 2, 1) := by decide +kernel
theorem dX10_feed_50 : decode cX10_feed 50 = .ok (.bipush 8, 2) := by decide +kernel
theorem dX10_feed_52 : decode cX10_feed 52 = .ok (.iload 4, 2) := by decide +kernel
theorem dX10_feed_54 : decode cX10_feed 54 = .ok (.imul, 1) := by decide +kernel
theorem dX10_feed_55 : decode cX10_feed 55 = .ok (.lshr, 1) := by decide +kernel
theorem dX10_feed_56 : decode cX10_feed 56 = .ok (.ldc2_w 207, 3) := by decide +kernel
theorem dX10_feed_59 : decode cX10_feed 59 = .ok (.land, 1) := by decide +kernel
theorem dX10_feed_60 : decode cX10_feed 60 = .ok (.l2i, 1) := by decide +kernel
theorem dX10_feed_61 : decode cX10_feed 61 = .ok (.iastore, 1) := by decide +kernel
theorem dX10_feed_62 : decode cX10_feed 62 = .ok (.aload_n 0, 1) := by decide +kernel
theorem dX10_feed_63 : decode cX10_feed 63 = .ok (.dup, 1) := by decide +kernel
theorem dX10_feed_64 : decode cX10_feed 64 = .ok (.getfield 202, 3) := by decide +kernel
theorem dX10_feed_67 : decode cX10_feed 67 = .ok (.iconst 1, 1) := by decide +kernel
theorem dX10_feed_68 : decode cX10_feed 68 = .ok (.iadd, 1) := by decide +kernel
theorem dX10_feed_69 : decode cX10_feed 69 = .ok (.putfield 202, 3) := by decide +kernel
theorem dX10_feed_72 : decode cX10_feed 72 = .ok (.iinc 4 (-1), 3) := by decide +kernel
theorem dX10_feed_75 : decode cX10_feed 75 = .ok (.goto (-39), 3) := by decide +kernel
theorem dX10_feed_78 : decode cX10_feed 78 = .ok (.aload_n 0, 1) := by decide +kernel
theorem dX10_feed_79 : decode cX10_feed 79 = .ok (.getfield 202, 3) := by decide +kernel
theorem dX10_feed_82 : decode cX10_feed 82 = .ok (.ireturn, 1) := by decide +kernel
theorem dX10_here_0 : decode cX10_here 0 = .ok (.aload_n 0, 1) := by decide +kernel
theorem dX10_here_1 : decode cX10_here 1 = .ok (.getfield 209, 3) := by decide +kernel
theorem dX10_here_4 : decode cX10_here 4 = .ok (.iload_n 1, 1) := by decide +kernel
theorem dX10_here_5 : decode cX10_here 5 = .ok (.if_icmp .ge 30, 3) := by decide +kernel
theorem dX10_here_8 : decode cX10_here 8 = .ok (.aload_n 0, 1) := by decide +kernel
theorem dX10_here_9 : decode cX10_here 9 = .ok (.getfield 44, 3) := by decide +kernel
theorem dX10_here_12 : decode cX10_here 12 = .ok (.aload_n 0, 1) := by decide +kernel
theorem dX10_here_13 : decode cX10_here 13 = .ok (.getfield 209, 3) := by decide +kernel
theorem dX10_here_16 : decode cX10_here 16 = .ok (.iaload, 1) := by decide +kernel
theorem dX10_here_17 : decode cX10_here 17 = .ok (.bipush 32, 2) := by decide +kernel
theorem dX10_here_19 : decode cX10_here 19 = .ok (.if_icmp .ne 16, 3) := by decide +kernel
theorem dX10_here_22 : decode cX10_here 22 = .ok (.aload_n 0, 1) := by decide +kernel
theorem dX10_here_23 : decode cX10_here 23 = .ok (.dup, 1) := by decide +kernel
theorem dX10_here_24 : decode cX10_here 24 = .ok (.getfield 209, 3) := by decide +kernel
theorem dX10_here_27 : decode cX10_here 27 = .ok (.iconst 1, 1) := by decide +kernel
theorem dX10_here_28 : decode cX10_here 28 = .ok (.iadd, 1) := by decide +kernel
theorem dX10_here_29 : decode cX10_here 29 = .ok (.putfield 209, 3) := by decide +kernel
theorem dX10_here_32 : decode cX10_here 32 = .ok (.goto (-32), 3) := by decide +kernel
theorem dX10_here_35 : decode cX10_here 35 = .ok (.aload_n 0, 1) := by decide +kernel
theorem dX10_here_36 : decode cX10_here 36 = .ok (.getfield 209, 3) := by decide +kernel
theorem dX10_here_39 : decode cX10_here 39 = .ok (.iload_n 1, 1) := by decide +kernel
theorem dX10_here_40 : decode cX10_here 40 = .ok (.if_icmp .ge 15, 3) := by decide +kernel
theorem dX10_here_43 : decode cX10_here 43 = .ok (.aload_n 0, 1) := by decide +kernel
theorem dX10_here_44 : decode cX10_here 44 = .ok (.getfield 44, 3) := by decide +kernel
theorem dX10_here_47 : decode cX10_here 47 = .ok (.aload_n 0, 1) := by decide +kernel
theorem dX10_here_48 : decode cX10_here 48 = .ok (.getfield 209, 3) := by decide +kernel
theorem dX10_here_51 : decode cX10_here 51 = .ok (.iaload, 1) := by decide +kernel
theorem dX10_here_52 : decode cX10_here 52 = .ok (.goto 4, 3) := by decide +kernel
theorem dX10_here_55 : decode cX10_here 55 = .ok (.iconst (-1), 1) := by decide +kernel
theorem dX10_here_56 : decode cX10_here 56 = .ok (.ireturn, 1) := by decide +kernel
theorem dX10_want_0 : decode cX10_want 0 = .ok (.iload_n 1, 1) := by decide +kernel
theorem dX10_want_1 : decode cX10_want 1 = .ok (.ifCond .ne 20, 3) := by decide +kernel
theorem dX10_want_4 : decode cX10_want 4 = .ok (.aload_n 0, 1) := by decide +kernel
theorem dX10_want_5 : decode cX10_want 5 = .ok (.getfield 212, 3) := by decide +kernel
theorem dX10_want_8 : decode cX10_want 8 = .ok (.ifCond .ne 13, 3) := by decide +kernel
theorem dX10_want_11 : decode cX10_want 11 = .ok (.aload_n 0, 1) := by decide +kernel
theorem dX10_want_12 : decode cX10_want 12 = .ok (.iload_n 2, 1) := by decide +kernel
theorem dX10_want_13 : decode cX10_want 13 = .ok (.putfield 212, 3) := by decide +kernel
theorem dX10_want_16 : decode cX10_want 16 = .ok (.aload_n 0, 1) := by decide +kernel
theorem dX10_want_17 : decode cX10_want 17 = .ok (.iload_n 3, 1) := by decide +kernel
theorem dX10_want_18 : decode cX10_want 18 = .ok (.putfield 47, 3) := by decide +kernel
theorem dX10_want_21 : decode cX10_want 21 = .ok (.aload_n 0, 1) := by decide +kernel
theorem dX10_want_22 : decode cX10_want 22 = .ok (.getfield 212, 3) := by decide +kernel
theorem dX10_want_25 : decode cX10_want 25 = .ok (.ifCond .ne 7, 3) := by decide +kernel
theorem dX10_want_28 : decode cX10_want 28 = .ok (.iconst 1, 1) := by decide +kernel
theorem dX10_want_29 : decode cX10_want 29 = .ok (.goto 4, 3) := by decide +kernel
theorem dX10_want_32 : decode cX10_want 32 = .ok (.iconst 0, 1) := by decide +kernel
theorem dX10_want_33 : decode cX10_want 33 = .ok (.ireturn, 1) := by decide +kernel
theorem dX10_takeWord_0 : decode cX10_takeWord 0 = .ok (.aload_n 0, 1) := by decide +kernel
theorem dX10_takeWord_1 : decode cX10_takeWord 1 = .ok (.iload_n 1, 1) := by decide +kernel
theorem dX10_takeWord_2 : decode cX10_takeWord 2 = .ok (.invokevirtual 215, 3) := by decide +kernel
theorem dX10_takeWord_5 : decode cX10_takeWord 5 = .ok (.istore_n 2, 1) := by decide +kernel
theorem dX10_takeWord_6 : decode cX10_takeWord 6 = .ok (.aload_n 0, 1) := by decide +kernel
theorem dX10_takeWord_7 : decode cX10_takeWord 7 = .ok (.aload_n 0, 1) := by decide +kernel
theorem dX10_takeWord_8 : decode cX10_takeWord 8 = .ok (.getfield 209, 3) := by decide +kernel
theorem dX10_takeWord_11 : decode cX10_takeWord 11 = .ok (.putfield 218, 3) := by decide +kernel
theorem dX10_takeWord_14 : decode cX10_takeWord 14 = .ok (.aload_n 0, 1) := by decide +kernel
theorem dX10_takeWord_15 : decode cX10_takeWord 15 = .ok (.getfield 209, 3) := by decide +kernel
theorem dX10_takeWord_18 : decode cX10_takeWord 18 = .ok (.iload_n 1, 1) := by decide +kernel
theorem dX10_takeWord_19 : decode cX10_takeWord 19 = .ok (.if_icmp .ge 38, 3) := by decide +kernel
theorem dX10_takeWord_22 : decode cX10_takeWord 22 = .ok (.aload_n 0, 1) := by decide +kernel
theorem dX10_takeWord_23 : decode cX10_takeWord 23 = .ok (.getfield 44, 3) := by decide +kernel
theorem dX10_takeWord_26 : decode cX10_takeWord 26 = .ok (.aload_n 0, 1) := by decide +kernel
theorem dX10_takeWord_27 : decode cX10_takeWord 27 = .ok (.getfield 209, 3) := by decide +kernel
theorem dX10_takeWord_30 : decode cX10_takeWord 30 = .ok (.iaload, 1) := by decide +kernel
theorem dX10_takeWord_31 : decode cX10_takeWord 31 = .ok (.i2l, 1) := by decide +kernel
theorem dX10_takeWord_32 : decode cX10_takeWord 32 = .ok (.ldc2_w 221, 3) := by decide +kernel
theorem dX10_takeWord_35 : decode cX10_takeWord 35 = .ok (.ldc2_w 223, 3) := by decide +kernel
theorem dX10_takeWord_38 : decode cX10_takeWord 38 = .ok (.invokestatic 117, 3) := by decide +kernel
theorem dX10_takeWord_41 : decode cX10_takeWord 41 = .ok (.ifCond .eq 16, 3) := by decide +kernel
theorem dX10_takeWord_44 : decode cX10_takeWord 44 = .ok (.aload_n 0, 1) := by decide +kernel
theorem dX10_takeWord_45 : decode cX10_takeWord 45 = .ok (.dup, 1) := by decide +kernel
theorem dX10_takeWord_46 : decode cX10_takeWord 46 = .ok (.getfield 209, 3) := by decide +kernel
theorem dX10_takeWord_49 : decode cX10_takeWord 49 = .ok (.iconst 1, 1) := by decide +kernel
theorem dX10_takeWord_50 : decode cX10_takeWord 50 = .ok (.iadd, 1) := by decide +kernel
theorem dX10_takeWord_51 : decode cX10_takeWord 51 = .ok (.putfield 209, 3) := by decide +kernel
theorem dX10_takeWord_54 : decode cX10_takeWord 54 = .ok (.goto (-40), 3) := by decide +kernel
theorem dX10_takeWord_57 : decode cX10_takeWord 57 = .ok (.aload_n 0, 1) := by decide +kernel
theorem dX10_takeWord_58 : decode cX10_takeWord 58 = .ok (.aload_n 0, 1) := by decide +kernel
theorem dX10_takeWord_59 : decode cX10_takeWord 59 = .ok (.getfield 209, 3) := by decide +kernel
theorem dX10_takeWord_62 : decode cX10_takeWord 62 = .ok (.aload_n 0, 1) := by decide +kernel
theorem dX10_takeWord_63 : decode cX10_takeWord 63 = .ok (.getfield 218, 3) := by decide +kernel
theorem dX10_takeWord_66 : decode cX10_takeWord 66 = .ok (.isub, 1) := by decide +kernel
theorem dX10_takeWord_67 : decode cX10_takeWord 67 = .ok (.putfield 225, 3) := by decide +kernel
theorem dX10_takeWord_70 : decode cX10_takeWord 70 = .ok (.return_, 1) := by decide +kernel
theorem dX10_isWord_0 : decode cX10_isWord 0 = .ok (.lconst 0, 1) := by decide +kernel
theorem dX10_isWord_1 : decode cX10_isWord 1 = .ok (.lstore 4, 2) := by decide +kernel
theorem dX10_isWord_3 : decode cX10_isWord 3 = .ok (.iconst 0, 1) := by decide +kernel
theorem dX10_isWord_4 : decode cX10_isWord 4 = .ok (.istore 6, 2) := by decide +kernel
theorem dX10_isWord_6 : decode cX10_isWord 6 = .ok (.iload 6, 2) := by decide +kernel
theorem dX10_isWord_8 : decode cX10_isWord 8 = .ok (.aload_n 0, 1) := by decide +kernel
theorem dX10_isWord_9 : decode cX10_isWord 9 = .ok (.getfield 225, 3) := by decide +kernel
theorem dX10_isWord_12 : decode cX10_isWord 12 = .ok (.if_icmp .ge 42, 3) := by decide +kernel
theorem dX10_isWord_15 : decode cX10_isWord 15 = .ok (.iload 6, 2) := by decide +kernel
theorem dX10_isWord_17 : decode cX10_isWord 17 = .ok (.bipush 9, 2) := by decide +kernel
theorem dX10_isWord_19 : decode cX10_isWord 19 = .ok (.if_icmp .ge 35, 3) := by decide +kernel
theorem dX10_isWord_22 : decode cX10_isWord 22 = .ok (.ldc2_w 228, 3) := by decide +kernel
theorem dX10_isWord_25 : decode cX10_isWord 25 = .ok (.lload 4, 2) := by decide +kernel
theorem dX10_isWord_27 : decode cX10_isWord 27 = .ok (.lmul, 1) := by decide +kernel
theorem dX10_isWord_28 : decode cX10_isWord 28 = .ok (.aload_n 0, 1) := by decide +kernel
theorem dX10_isWord_29 : decode cX10_isWord 29 = .ok (.getfield 44, 3) := by decide +kernel
theorem dX10_isWord_32 : decode cX10_isWord 32 = .ok (.aload_n 0, 1) := by decide +kernel
theorem dX10_isWord_33 : decode cX10_isWord 33 = .ok (.getfield 218, 3) := by decide +kernel
theorem dX10_isWord_36 : decode cX10_isWord 36 = .ok (.iload 6, 2) := by decide +kernel
theorem dX10_isWord_38 : decode cX10_isWord 38 = .ok (.iadd, 1) := by decide +kernel
theorem dX10_isWord_39 : decode cX10_isWord 39 = .ok (.iaload, 1) := by decide +kernel
theorem dX10_isWord_40 : decode cX10_isWord 40 = .ok (.i2l, 1) := by decide +kernel
theorem dX10_isWord_41 : decode cX10_isWord 41 = .ok (.ladd, 1) := by decide +kernel
theorem dX10_isWord_42 : decode cX10_isWord 42 = .ok (.ldc2_w 230, 3) := by decide +kernel
theorem dX10_isWord_45 : decode cX10_isWord 45 = .ok (.lsub, 1) := by decide +kernel
theorem dX10_isWord_46 : decode cX10_isWord 46 = .ok (.lstore 4, 2) := by decide +kernel
theorem dX10_isWord_48 : decode cX10_isWord 48 = .ok (.iinc 6 1, 3) := by decide +kernel
theorem dX10_isWord_51 : decode cX10_isWord 51 = .ok (.goto (-45), 3) := by decide +kernel
theorem dX10_isWord_54 : decode cX10_isWord 54 = .ok (.aload_n 0, 1) := by decide +kernel
theorem dX10_isWord_55 : decode cX10_isWord 55 = .ok (.getfield 225, 3) := by decide +kernel
theorem dX10_isWord_58 : decode cX10_isWord 58 = .ok (.iload_n 3, 1) := by decide +kernel
theorem dX10_isWord_59 : decode cX10_isWord 59 = .ok (.if_icmp .ne 14, 3) := by decide +kernel
theorem dX10_isWord_62 : decode cX10_isWord 62 = .ok (.lload 4, 2) := by decide +kernel
theorem dX10_isWord_64 : decode cX10_isWord 64 = .ok (.lload_n 1, 1) := by decide +kernel
theorem dX10_isWord_65 : decode cX10_isWord 65 = .ok (.lcmp, 1) := by decide +kernel
theorem dX10_isWord_66 : decode cX10_isWord 66 = .ok (.ifCond .ne 7, 3) := by decide +kernel
theorem dX10_isWord_69 : decode cX10_isWord 69 = .ok (.iconst 1, 1) := by decide +kernel
theorem dX10_isWord_70 : decode cX10_isWord 70 = .ok (.goto 4, 3) := by decide +kernel
theorem dX10_isWord_73 : decode cX10_isWord 73 = .ok (.iconst 0, 1) := by decide +kernel
theorem dX10_isWord_74 : decode cX10_isWord 74 = .ok (.ireturn, 1) := by decide +kernel
theorem dX10_word5_0 : decode cX10_word5 0 = .ok (.iload_n 0, 1) := by decide +kernel
theorem dX10_word5_1 : decode cX10_word5 1 = .ok (.i2l, 1) := by decide +kernel
theorem dX10_word5_2 : decode cX10_word5 2 = .ok (.ldc2_w 228, 3) := by decide +kernel
theorem dX10_word5_5 : decode cX10_word5 5 = .ok (.lmul, 1) := by decide +kernel
theorem dX10_word5_6 : decode cX10_word5 6 = .ok (.iload_n 1, 1) := by decide +kernel
theorem dX10_word5_7 : decode cX10_word5 7 = .ok (.i2l, 1) := by decide +kernel
theorem dX10_word5_8 : decode cX10_word5 8 = .ok (.ladd, 1) := by decide +kernel
theorem dX10_word5_9 : decode cX10_word5 9 = .ok (.ldc2_w 228, 3) := by decide +kernel
theorem dX10_word5_12 : decode cX10_word5 12 = .ok (.lmul, 1) := by decide +kernel
theorem dX10_word5_13 : decode cX10_word5 13 = .ok (.iload_n 2, 1) := by decide +kernel
theorem dX10_word5_14 : decode cX10_word5 14 = .ok (.i2l, 1) := by decide +kernel
theorem dX10_word5_15 : decode cX10_word5 15 = .ok (.ladd, 1) := by decide +kernel
theorem dX10_word5_16 : decode cX10_word5 16 = .ok (.ldc2_w 228, 3) := by decide +kernel
theorem dX10_word5_19 : decode cX10_word5 19 = .ok (.lmul, 1) := by decide +kernel
theorem dX10_word5_20 : decode cX10_word5 20 = .ok (.iload_n 3, 1) := by decide +kernel
theorem dX10_word5_21 : decode cX10_word5 21 = .ok (.i2l, 1) := by decide +kernel
theorem dX10_word5_22 : decode cX10_word5 22 = .ok (.ladd, 1) := by decide +kernel
theorem dX10_word5_23 : decode cX10_word5 23 = .ok (.ldc2_w 228, 3) := by decide +kernel
theorem dX10_word5_26 : decode cX10_word5 26 = .ok (.lmul, 1) := by decide +kernel
theorem dX10_word5_27 : decode cX10_word5 27 = .ok (.iload 4, 2) := by decide +kernel
theorem dX10_word5_29 : decode cX10_word5 29 = .ok (.i2l, 1) := by decide +kernel
theorem dX10_word5_30 : decode cX10_word5 30 = .ok (.ladd, 1) := by decide +kernel
theorem dX10_word5_31 : decode cX10_word5 31 = .ok (.lreturn, 1) := by decide +kernel
theorem dX10_clauseOf_0 : decode cX10_clauseOf 0 = .ok (.aload_n 0, 1) := by decide +kernel
theorem dX10_clauseOf_1 : decode cX10_clauseOf 1 = .ok (.bipush 18, 2) := by decide +kernel
theorem dX10_clauseOf_3 : decode cX10_clauseOf 3 = .ok (.bipush 9, 2) := by decide +kernel
theorem dX10_clauseOf_5 : decode cX10_clauseOf 5 = .ok (.bipush 14, 2) := by decide +kernel
theorem dX10_clauseOf_7 : decode cX10_clauseOf 7 = .ok (.bipush 7, 2) := by decide +kernel
theorem dX10_clauseOf_9 : decode cX10_clauseOf 9 = .ok (.iconst 5, 1) := by decide +kernel
theorem dX10_clauseOf_10 : decode cX10_clauseOf 10 = .ok (.invokestatic 232, 3) := by decide +kernel
theorem dX10_clauseOf_13 : decode cX10_clauseOf 13 = .ok (.ldc2_w 228, 3) := by decide +kernel
theorem dX10_clauseOf_16 : decode cX10_clauseOf 16 = .ok (.lmul, 1) := by decide +kernel
theorem dX10_clauseOf_17 : decode cX10_clauseOf 17 = .ok (.ldc2_w 236, 3) := by decide +kernel
theorem dX10_clauseOf_20 : decode cX10_clauseOf 20 = .ok (.ladd, 1) := by decide +kernel
theorem dX10_clauseOf_21 : decode cX10_clauseOf 21 = .ok (.ldc2_w 230, 3) := by decide +kernel
theorem dX10_clauseOf_24 : decode cX10_clauseOf 24 = .ok (.lsub, 1) := by decide +kernel
theorem dX10_clauseOf_25 : decode cX10_clauseOf 25 = .ok (.bipush 6, 2) := by decide +kernel
theorem dX10_clauseOf_27 : decode cX10_clauseOf 27 = .ok (.invokevirtual 238, 3) := by decide +kernel
theorem dX10_clauseOf_30 : decode cX10_clauseOf 30 = .ok (.ifCond .eq 5, 3) := by decide +kernel
theorem dX10_clauseOf_33 : decode cX10_clauseOf 33 = .ok (.iconst 0, 1) := by decide +kernel
theorem dX10_clauseOf_34 : decode cX10_clauseOf 34 = .ok (.ireturn, 1) := by decide +kernel
theorem dX10_clauseOf_35 : decode cX10_clauseOf 35 = .ok (.aload_n 0, 1) := by decide +kernel
theorem dX10_clauseOf_36 : decode cX10_clauseOf 36 = .ok (.iconst 0, 1) := by decide +kernel
theorem dX10_clauseOf_37 : decode cX10_clauseOf 37 = .ok (.bipush 14, 2) := by decide +kernel
theorem dX10_clauseOf_39 : decode cX10_clauseOf 39 = .ok (.iconst 5, 1) := by decide +kernel
theorem dX10_clauseOf_40 : decode cX10_clauseOf 40 = .ok (.iconst 1, 1) := by decide +kernel
theorem dX10_clauseOf_41 : decode cX10_clauseOf 41 = .ok (.bipush 18, 2) := by decide +kernel
theorem dX10_clauseOf_43 : decode cX10_clauseOf 43 = .ok (.invokestatic 232, 3) := by decide +kernel
theorem dX10_clauseOf_46 : decode cX10_clauseOf 46 = .ok (.iconst 4, 1) := by decide +kernel
theorem dX10_clauseOf_47 : decode cX10_clauseOf 47 = .ok (.invokevirtual 238, 3) := by decide +kernel
theorem dX10_clauseOf_50 : decode cX10_clauseOf 50 = .ok (.ifCond .eq 5, 3) := by decide +kernel
theorem dX10_clauseOf_53 : decode cX10_clauseOf 53 = .ok (.iconst 1, 1) := by decide +kernel
theorem dX10_clauseOf_54 : decode cX10_clauseOf 54 = .ok (.ireturn, 1) := by decide +kernel
theorem dX10_clauseOf_55 : decode cX10_clauseOf 55 = .ok (.aload_n 0, 1) := by decide +kernel
theorem dX10_clauseOf_56 : decode cX10_clauseOf 56 = .ok (.iconst 0, 1) := by decide +kernel
theorem dX10_clauseOf_57 : decode cX10_clauseOf 57 = .ok (.bipush 13, 2) := by decide +kernel
theorem dX10_clauseOf_59 : decode cX10_clauseOf 59 = .ok (.bipush 15, 2) := by decide +kernel
theorem dX10_clauseOf_61 : decode cX10_clauseOf 61 = .ok (.bipush 19, 2) := by decide +kernel
theorem dX10_clauseOf_63 : decode cX10_clauseOf 63 = .ok (.bipush 20, 2) := by decide +kernel
theorem dX10_clauseOf_65 : decode cX10_clauseOf 65 = .ok (.invokestatic 232, 3) := by decide +kernel
theorem dX10_clauseOf_68 : decode cX10_clauseOf 68 = .ok (.iconst 4, 1) := by decide +kernel
theorem dX10_clauseOf_69 : decode cX10_clauseOf 69 = .ok (.invokevirtual 238, 3) := by decide +kernel
theorem dX10_clauseOf_72 : decode cX10_clauseOf 72 = .ok (.ifCond .eq 5, 3) := by decide +kernel
theorem dX10_clauseOf_75 : decode cX10_clauseOf 75 = .ok (.iconst 2, 1) := by decide +kernel
theorem dX10_clauseOf_76 : decode cX10_clauseOf 76 = .ok (.ireturn, 1) := by decide +kernel
theorem dX10_clauseOf_77 : decode cX10_clauseOf 77 = .ok (.aload_n 0, 1) := by decide +kernel
theorem dX10_clauseOf_78 : decode cX10_clauseOf 78 = .ok (.bipush 13, 2) := by decide +kernel
theorem dX10_clauseOf_80 : decode cX10_clauseOf 80 = .ok (.iconst 5, 1) := by decide +kernel
theorem dX10_clauseOf_81 : decode cX10_clauseOf 81 = .ok (.iconst 1, 1) := by decide +kernel
theorem dX10_clauseOf_82 : decode cX10_clauseOf 82 = .ok (.bipush 19, 2) := by decide +kernel
theorem dX10_clauseOf_84 : decode cX10_clauseOf 84 = .ok (.bipush 21, 2) := by decide +kernel
theorem dX10_clauseOf_86 : decode cX10_clauseOf 86 = .ok (.invokestatic 232, 3) := by decide +kernel
theorem dX10_clauseOf_89 : decode cX10_clauseOf 89 = .ok (.ldc2_w 228, 3) := by decide +kernel
theorem dX10_clauseOf_92 : decode cX10_clauseOf 92 = .ok (.lmul, 1) := by decide +kernel
theorem dX10_clauseOf_93 : decode cX10_clauseOf 93 = .ok (.ldc2_w 236, 3) := by decide +kernel
theorem dX10_clauseOf_96 : decode cX10_clauseOf 96 = .ok (.ladd, 1) := by decide +kernel
theorem dX10_clauseOf_97 : decode cX10_clauseOf 97 = .ok (.ldc2_w 230, 3) := by decide +kernel
theorem dX10_clauseOf_100 : decode cX10_clauseOf 100 = .ok (.lsub, 1) := by decide +kernel
theorem dX10_clauseOf_101 : decode cX10_clauseOf 101 = .ok (.ldc2_w 228, 3) := by decide +kernel
theorem dX10_clauseOf_104 : decode cX10_clauseOf 104 = .ok (.lmul, 1) := by decide +kernel
theorem dX10_clauseOf_105 : decode cX10_clauseOf 105 = .ok (.ldc2_w 242, 3) := by decide +kernel
theorem dX10_clauseOf_108 : decode cX10_clauseOf 108 = .ok (.ladd, 1) := by decide +kernel
theorem dX10_clauseOf_109 : decode cX10_clauseOf 109 = .ok (.ldc2_w 230, 3) := by decide +kernel
theorem dX10_clauseOf_112 : decode cX10_clauseOf 112 = .ok (.lsub, 1) := by decide +kernel
theorem dX10_clauseOf_113 : decode cX10_clauseOf 113 = .ok (.bipush 7, 2) := by decide +kernel
theorem dX10_clauseOf_115 : decode cX10_clauseOf 115 = .ok (.invokevirtual 238, 3) := by decide +kernel
theorem dX10_clauseOf_118 : decode cX10_clauseOf 118 = .ok (.ifCond .eq 5, 3) := by decide +kernel
theorem dX10_clauseOf_121 : decode cX10_clauseOf 121 = .ok (.iconst 3, 1) := by decide +kernel
theorem dX10_clauseOf_122 : decode cX10_clauseOf 122 = .ok (.ireturn, 1) := by decide +kernel
theorem dX10_clauseOf_123 : decode cX10_clauseOf 123 = .ok (.aload_n 0, 1) := by decide +kernel
theorem dX10_clauseOf_124 : decode cX10_clauseOf 124 = .ok (.iconst 0, 1) := by decide +kernel
theorem dX10_clauseOf_125 : decode cX10_clauseOf 125 = .ok (.bipush 7, 2) := by decide +kernel
theorem dX10_clauseOf_127 : decode cX10_clauseOf 127 = .ok (.iconst 1, 1) := by decide +kernel
theorem dX10_clauseOf_128 : decode cX10_clauseOf 128 = .ok (.bipush 13, 2) := by decide +kernel
theorem dX10_clauseOf_130 : decode cX10_clauseOf 130 = .ok (.iconst 5, 1) := by decide +kernel
theorem dX10_clauseOf_131 : decode cX10_clauseOf 131 = .ok (.invokestatic 232, 3) := by decide +kernel
theorem dX10_clauseOf_134 : decode cX10_clauseOf 134 = .ok (.iconst 4, 1) := by decide +kernel
theorem dX10_clauseOf_135 : decode cX10_clauseOf 135 = .ok (.invokevirtual 238, 3) := by decide +kernel
theorem dX10_clauseOf_138 : decode cX10_clauseOf 138 = .ok (.ifCond .eq 5, 3) := by decide +kernel
theorem dX10_clauseOf_141 : decode cX10_clauseOf 141 = .ok (.iconst 4, 1) := by decide +kernel
theorem dX10_clauseOf_142 : decode cX10_clauseOf 142 = .ok (.ireturn, 1) := by decide +kernel
theorem dX10_clauseOf_143 : decode cX10_clauseOf 143 = .ok (.aload_n 0, 1) := by decide +kernel
theorem dX10_clauseOf_144 : decode cX10_clauseOf 144 = .ok (.iconst 3, 1) := by decide +kernel
theorem dX10_clauseOf_145 : decode cX10_clauseOf 145 = .ok (.iconst 1, 1) := by decide +kernel
theorem dX10_clauseOf_146 : decode cX10_clauseOf 146 = .ok (.bipush 14, 2) := by decide +kernel
theorem dX10_clauseOf_148 : decode cX10_clauseOf 148 = .ok (.iconst 3, 1) := by decide +kernel
theorem dX10_clauseOf_149 : decode cX10_clauseOf 149 = .ok (.iconst 5, 1) := by decide +kernel
theorem dX10_clauseOf_150 : decode cX10_clauseOf 150 = .ok (.invokestatic 232, 3) := by decide +kernel
theorem dX10_clauseOf_153 : decode cX10_clauseOf 153 = .ok (.ldc2_w 228, 3) := by decide +kernel
theorem dX10_clauseOf_156 : decode cX10_clauseOf 156 = .ok (.lmul, 1) := by decide +kernel
theorem dX10_clauseOf_157 : decode cX10_clauseOf 157 = .ok (.ldc2_w 244, 3) := by decide +kernel
theorem dX10_clauseOf_160 : decode cX10_clauseOf 160 = .ok (.ladd, 1) := by decide +kernel
theorem dX10_clauseOf_161 : decode cX10_clauseOf 161 = .ok (.ldc2_w 230, 3) := by decide +kernel
theorem dX10_clauseOf_164 : decode cX10_clauseOf 164 = .ok (.lsub, 1) := by decide +kernel
theorem dX10_clauseOf_165 : decode cX10_clauseOf 165 = .ok (.bipush 6, 2) := by decide +kernel
theorem dX10_clauseOf_167 : decode cX10_clauseOf 167 = .ok (.invokevirtual 238, 3) := by decide +kernel
theorem dX10_clauseOf_170 : decode cX10_clauseOf 170 = .ok (.ifCond .eq 5, 3) := by decide +kernel
theorem dX10_clauseOf_173 : decode cX10_clauseOf 173 = .ok (.iconst 5, 1) := by decide +kernel
theorem dX10_clauseOf_174 : decode cX10_clauseOf 174 = .ok (.ireturn, 1) := by decide +kernel
theorem dX10_clauseOf_175 : decode cX10_clauseOf 175 = .ok (.aload_n 0, 1) := by decide +kernel
theorem dX10_clauseOf_176 : decode cX10_clauseOf 176 = .ok (.iconst 0, 1) := by decide +kernel
theorem dX10_clauseOf_177 : decode cX10_clauseOf 177 = .ok (.iconst 4, 1) := by decide +kernel
theorem dX10_clauseOf_178 : decode cX10_clauseOf 178 = .ok (.bipush 15, 2) := by decide +kernel
theorem dX10_clauseOf_180 : decode cX10_clauseOf 180 = .ok (.bipush 23, 2) := by decide +kernel
theorem dX10_clauseOf_182 : decode cX10_clauseOf 182 = .ok (.bipush 14, 2) := by decide +kernel
theorem dX10_clauseOf_184 : decode cX10_clauseOf 184 = .ok (.invokestatic 232, 3) := by decide +kernel
theorem dX10_clauseOf_187 : decode cX10_clauseOf 187 = .ok (.iconst 4, 1) := by decide +kernel
theorem dX10_clauseOf_188 : decode cX10_clauseOf 188 = .ok (.invokevirtual 238, 3) := by decide +kernel
theorem dX10_clauseOf_191 : decode cX10_clauseOf 191 = .ok (.ifCond .eq 6, 3) := by decide +kernel
theorem dX10_clauseOf_194 : decode cX10_clauseOf 194 = .ok (.bipush 6, 2) := by decide +kernel
theorem dX10_clauseOf_196 : decode cX10_clauseOf 196 = .ok (.ireturn, 1) := by decide +kernel
theorem dX10_clauseOf_197 : decode cX10_clauseOf 197 = .ok (.aload_n 0, 1) := by decide +kernel
theorem dX10_clauseOf_198 : decode cX10_clauseOf 198 = .ok (.bipush 21, 2) := by decide +kernel
theorem dX10_clauseOf_200 : decode cX10_clauseOf 200 = .ok (.bipush 14, 2) := by decide +kernel
theorem dX10_clauseOf_202 : decode cX10_clauseOf 202 = .ok (.iconst 4, 1) := by decide +kernel
theorem dX10_clauseOf_203 : decode cX10_clauseOf 203 = .ok (.iconst 5, 1) := by decide +kernel
theorem dX10_clauseOf_204 : decode cX10_clauseOf 204 = .ok (.bipush 18, 2) := by decide +kernel
theorem dX10_clauseOf_206 : decode cX10_clauseOf 206 = .ok (.invokestatic 232, 3) := by decide +kernel
theorem dX10_clauseOf_209 : decode cX10_clauseOf 209 = .ok (.iconst 5, 1) := by decide +kernel
theorem dX10_clauseOf_210 : decode cX10_clauseOf 210 = .ok (.invokevirtual 238, 3) := by decide +kernel
theorem dX10_clauseOf_213 : decode cX10_clauseOf 213 = .ok (.ifCond .eq 8, 3) := by decide +kernel
theorem dX10_clauseOf_216 : decode cX10_clauseOf 216 = .ok (.bipush 7, 2) := by decide +kernel
theorem dX10_clauseOf_218 : decode cX10_clauseOf 218 = .ok (.goto 4, 3) := by decide +kernel
theorem dX10_clauseOf_221 : decode cX10_clauseOf 221 = .ok (.iconst (-1), 1) := by decide +kernel
theorem dX10_clauseOf_222 : decode cX10_clauseOf 222 = .ok (.ireturn, 1) := by decide +kernel
theorem dX10_valueOf_0 : decode cX10_valueOf 0 = .ok (.iload_n 1, 1) := by decide +kernel
theorem dX10_valueOf_1 : decode cX10_valueOf 1 = .ok (.iconst 5, 1) := by decide +kernel
theorem dX10_valueOf_2 : decode cX10_valueOf 2 = .ok (.if_icmp .ne 83, 3) := by decide +kernel
theorem dX10_valueOf_5 : decode cX10_valueOf 5 = .ok (.aload_n 0, 1) := by decide +kernel
theorem dX10_valueOf_6 : decode cX10_valueOf 6 = .ok (.iconst 0, 1) := by decide +kernel
theorem dX10_valueOf_7 : decode cX10_valueOf 7 = .ok (.bipush 14, 2) := by decide +kernel
theorem dX10_valueOf_9 : decode cX10_valueOf 9 = .ok (.bipush 15, 2) := by decide +kernel
theorem dX10_valueOf_11 : decode cX10_valueOf 11 = .ok (.bipush 14, 2) := by decide +kernel
theorem dX10_valueOf_13 : decode cX10_valueOf 13 = .ok (.iconst 5, 1) := by decide +kernel
theorem dX10_valueOf_14 : decode cX10_valueOf 14 = .ok (.invokestatic 232, 3) := by decide +kernel
theorem dX10_valueOf_17 : decode cX10_valueOf 17 = .ok (.iconst 4, 1) := by decide +kernel
theorem dX10_valueOf_18 : decode cX10_valueOf 18 = .ok (.invokevirtual 238, 3) := by decide +kernel
theorem dX10_valueOf_21 : decode cX10_valueOf 21 = .ok (.istore_n 2, 1) := by decide +kernel
theorem dX10_valueOf_22 : decode cX10_valueOf 22 = .ok (.aload_n 0, 1) := by decide +kernel
theorem dX10_valueOf_23 : decode cX10_valueOf 23 = .ok (.bipush 16, 2) := by decide +kernel
theorem dX10_valueOf_25 : decode cX10_valueOf 25 = .ok (.iconst 1, 1) := by decide +kernel
theorem dX10_valueOf_26 : decode cX10_valueOf 26 = .ok (.bipush 9, 2) := by decide +kernel
theorem dX10_valueOf_28 : decode cX10_valueOf 28 = .ok (.bipush 18, 2) := by decide +kernel
theorem dX10_valueOf_30 : decode cX10_valueOf 30 = .ok (.bipush 19, 2) := by decide +kernel
theorem dX10_valueOf_32 : decode cX10_valueOf 32 = .ok (.invokestatic 232, 3) := by decide +kernel
theorem dX10_valueOf_35 : decode cX10_valueOf 35 = .ok (.iconst 5, 1) := by decide +kernel
theorem dX10_valueOf_36 : decode cX10_valueOf 36 = .ok (.invokevirtual 238, 3) := by decide +kernel
theorem dX10_valueOf_39 : decode cX10_valueOf 39 = .ok (.istore_n 3, 1) := by decide +kernel
theorem dX10_valueOf_40 : decode cX10_valueOf 40 = .ok (.aload_n 0, 1) := by decide +kernel
theorem dX10_valueOf_41 : decode cX10_valueOf 41 = .ok (.iconst 0, 1) := by decide +kernel
theorem dX10_valueOf_42 : decode cX10_valueOf 42 = .ok (.iconst 0, 1) := by decide +kernel
theorem dX10_valueOf_43 : decode cX10_valueOf 43 = .ok (.bipush 20, 2) := by decide +kernel
theorem dX10_valueOf_45 : decode cX10_valueOf 45 = .ok (.bipush 15, 2) := by decide +kernel
theorem dX10_valueOf_47 : decode cX10_valueOf 47 = .ok (.bipush 16, 2) := by decide +kernel
theorem dX10_valueOf_49 : decode cX10_valueOf 49 = .ok (.invokestatic 232, 3) := by decide +kernel
theorem dX10_valueOf_52 : decode cX10_valueOf 52 = .ok (.iconst 3, 1) := by decide +kernel
theorem dX10_valueOf_53 : decode cX10_valueOf 53 = .ok (.invokevirtual 238, 3) := by decide +kernel
theorem dX10_valueOf_56 : decode cX10_valueOf 56 = .ok (.istore 4, 2) := by decide +kernel
theorem dX10_valueOf_58 : decode cX10_valueOf 58 = .ok (.iload_n 2, 1) := by decide +kernel
theorem dX10_valueOf_59 : decode cX10_valueOf 59 = .ok (.ifCond .eq 7, 3) := by decide +kernel
theorem dX10_valueOf_62 : decode cX10_valueOf 62 = .ok (.iconst 0, 1) := by decide +kernel
theorem dX10_valueOf_63 : decode cX10_valueOf 63 = .ok (.goto 21, 3) := by decide +kernel
theorem dX10_valueOf_66 : decode cX10_valueOf 66 = .ok (.iload_n 3, 1) := by decide +kernel
theorem dX10_valueOf_67 : decode cX10_valueOf 67 = .ok (.ifCond .eq 7, 3) := by decide +kernel
theorem dX10_valueOf_70 : decode cX10_valueOf 70 = .ok (.iconst 1, 1) := by decide +kernel
theorem dX10_valueOf_71 : decode cX10_valueOf 71 = .ok (.goto 13, 3) := by decide +kernel
theorem dX10_valueOf_74 : decode cX10_valueOf 74 = .ok (.iload 4, 2) := by decide +kernel
theorem dX10_valueOf_76 : decode cX10_valueOf 76 = .ok (.ifCond .eq 7, 3) := by decide +kernel
theorem dX10_valueOf_79 : decode cX10_valueOf 79 = .ok (.iconst 2, 1) := by decide +kernel
theorem dX10_valueOf_80 : decode cX10_valueOf 80 = .ok (.goto 4, 3) := by decide +kernel
theorem dX10_valueOf_83 : decode cX10_valueOf 83 = .ok (.iconst (-1), 1) := by decide +kernel
theorem dX10_valueOf_84 : decode cX10_valueOf 84 = .ok (.ireturn, 1) := by decide +kernel
theorem dX10_valueOf_85 : decode cX10_valueOf 85 = .ok (.aload_n 0, 1) := by decide +kernel
theorem dX10_valueOf_86 : decode cX10_valueOf 86 = .ok (.iconst 0, 1) := by decide +kernel
theorem dX10_valueOf_87 : decode cX10_valueOf 87 = .ok (.iconst 0, 1) := by decide +kernel
theorem dX10_valueOf_88 : decode cX10_valueOf 88 = .ok (.bipush 25, 2) := by decide +kernel
theorem dX10_valueOf_90 : decode cX10_valueOf 90 = .ok (.iconst 5, 1) := by decide +kernel
theorem dX10_valueOf_91 : decode cX10_valueOf 91 = .ok (.bipush 19, 2) := by decide +kernel
theorem dX10_valueOf_93 : decode cX10_valueOf 93 = .ok (.invokestatic 232, 3) := by decide +kernel
theorem dX10_valueOf_96 : decode cX10_valueOf 96 = .ok (.iconst 3, 1) := by decide +kernel
theorem dX10_valueOf_97 : decode cX10_valueOf 97 = .ok (.invokevirtual 238, 3) := by decide +kernel
theorem dX10_valueOf_100 : decode cX10_valueOf 100 = .ok (.istore_n 2, 1) := by decide +kernel
theorem dX10_valueOf_101 : decode cX10_valueOf 101 = .ok (.aload_n 0, 1) := by decide +kernel
theorem dX10_valueOf_102 : decode cX10_valueOf 102 = .ok (.iconst 0, 1) := by decide +kernel
theorem dX10_valueOf_103 : decode cX10_valueOf 103 = .ok (.iconst 0, 1) := by decide +kernel
theorem dX10_valueOf_104 : decode cX10_valueOf 104 = .ok (.iconst 0, 1) := by decide +kernel
theorem dX10_valueOf_105 : decode cX10_valueOf 105 = .ok (.bipush 14, 2) := by decide +kernel
theorem dX10_valueOf_107 : decode cX10_valueOf 107 = .ok (.bipush 15, 2) := by decide +kernel
theorem dX10_valueOf_109 : decode cX10_valueOf 109 = .ok (.invokestatic 232, 3) := by decide +kernel
theorem dX10_valueOf_112 : decode cX10_valueOf 112 = .ok (.iconst 2, 1) := by decide +kernel
theorem dX10_valueOf_113 : decode cX10_valueOf 113 = .ok (.invokevirtual 238, 3) := by decide +kernel
theorem dX10_valueOf_116 : decode cX10_valueOf 116 = .ok (.istore_n 3, 1) := by decide +kernel
theorem dX10_valueOf_117 : decode cX10_valueOf 117 = .ok (.iload_n 2, 1) := by decide +kernel
theorem dX10_valueOf_118 : decode cX10_valueOf 118 = .ok (.ifCond .eq 7, 3) := by decide +kernel
theorem dX10_valueOf_121 : decode cX10_valueOf 121 = .ok (.iconst 1, 1) := by decide +kernel
theorem dX10_valueOf_122 : decode cX10_valueOf 122 = .ok (.goto 12, 3) := by decide +kernel
theorem dX10_valueOf_125 : decode cX10_valueOf 125 = .ok (.iload_n 3, 1) := by decide +kernel
theorem dX10_valueOf_126 : decode cX10_valueOf 126 = .ok (.ifCond .eq 7, 3) := by decide +kernel
theorem dX10_valueOf_129 : decode cX10_valueOf 129 = .ok (.iconst 0, 1) := by decide +kernel
theorem dX10_valueOf_130 : decode cX10_valueOf 130 = .ok (.goto 4, 3) := by decide +kernel
theorem dX10_valueOf_133 : decode cX10_valueOf 133 = .ok (.iconst (-1), 1) := by decide +kernel
theorem dX10_valueOf_134 : decode cX10_valueOf 134 = .ok (.ireturn, 1) := by decide +kernel
theorem dX10_first_0 : decode cX10_first 0 = .ok (.iload_n 0, 1) := by decide +kernel
theorem dX10_first_1 : decode cX10_first 1 = .ok (.tableswitch 45 0 4 #[35, 45, 37, 40, 42], 35) := by decide +kernel
theorem dX10_first_36 : decode cX10_first 36 = .ok (.iconst 2, 1) := by decide +kernel
theorem dX10_first_37 : decode cX10_first 37 = .ok (.ireturn, 1) := by decide +kernel
theorem dX10_first_38 : decode cX10_first 38 = .ok (.bipush 12, 2) := by decide +kernel
theorem dX10_first_40 : decode cX10_first 40 = .ok (.ireturn, 1) := by decide +kernel
theorem dX10_first_41 : decode cX10_first 41 = .ok (.iconst 0, 1) := by decide +kernel
theorem dX10_first_42 : decode cX10_first 42 = .ok (.ireturn, 1) := by decide +kernel
theorem dX10_first_43 : decode cX10_first 43 = .ok (.bipush 21, 2) := by decide +kernel
theorem dX10_first_45 : decode cX10_first 45 = .ok (.ireturn, 1) := by decide +kernel
theorem dX10_first_46 : decode cX10_first 46 = .ok (.iconst 1, 1) := by decide +kernel
theorem dX10_first_47 : decode cX10_first 47 = .ok (.ireturn, 1) := by decide +kernel
theorem dX10_least_0 : decode cX10_least 0 = .ok (.iload_n 0, 1) := by decide +kernel
theorem dX10_least_1 : decode cX10_least 1 = .ok (.iconst 2, 1) := by decide +kernel
theorem dX10_least_2 : decode cX10_least 2 = .ok (.if_icmp .eq 8, 3) := by decide +kernel
theorem dX10_least_5 : decode cX10_least 5 = .ok (.iload_n 0, 1) := by decide +kernel
theorem dX10_least_6 : decode cX10_least 6 = .ok (.iconst 4, 1) := by decide +kernel
theorem dX10_least_7 : decode cX10_least 7 = .ok (.if_icmp .ne 7, 3) := by decide +kernel
theorem dX10_least_10 : decode cX10_least 10 = .ok (.iconst 1, 1) := by decide +kernel
theorem dX10_least_11 : decode cX10_least 11 = .ok (.goto 4, 3) := by decide +kernel
theorem dX10_least_14 : decode cX10_least 14 = .ok (.iconst 0, 1) := by decide +kernel
theorem dX10_least_15 : decode cX10_least 15 = .ok (.ireturn, 1) := by decide +kernel
theorem dX10_greatest_0 : decode cX10_greatest 0 = .ok (.iload_n 0, 1) := by decide +kernel
theorem dX10_greatest_1 : decode cX10_greatest 1 = .ok (.tableswitch 36 2 4 #[27, 30, 33], 27) := by decide +kernel
theorem dX10_greatest_28 : decode cX10_greatest 28 = .ok (.bipush 12, 2) := by decide +kernel
theorem dX10_greatest_30 : decode cX10_greatest 30 = .ok (.ireturn, 1) := by decide +kernel
theorem dX10_greatest_31 : decode cX10_greatest 31 = .ok (.bipush 20, 2) := by decide +kernel
theorem dX10_greatest_33 : decode cX10_greatest 33 = .ok (.ireturn, 1) := by decide +kernel
theorem dX10_greatest_34 : decode cX10_greatest 34 = .ok (.bipush 99, 2) := by decide +kernel
theorem dX10_greatest_36 : decode cX10_greatest 36 = .ok (.ireturn, 1) := by decide +kernel
theorem dX10_greatest_37 : decode cX10_greatest 37 = .ok (.bipush 9, 2) := by decide +kernel
theorem dX10_greatest_39 : decode cX10_greatest 39 = .ok (.ireturn, 1) := by decide +kernel
theorem dX10_readValue_0 : decode cX10_readValue 0 = .ok (.iload_n 1, 1) := by decide +kernel
theorem dX10_readValue_1 : decode cX10_readValue 1 = .ok (.iconst 5, 1) := by decide +kernel
theorem dX10_readValue_2 : decode cX10_readValue 2 = .ok (.if_icmp .ge 176, 3) := by decide +kernel
theorem dX10_readValue_5 : decode cX10_readValue 5 = .ok (.aload_n 0, 1) := by decide +kernel
theorem dX10_readValue_6 : decode cX10_readValue 6 = .ok (.aload_n 0, 1) := by decide +kernel
theorem dX10_readValue_7 : decode cX10_readValue 7 = .ok (.getfield 202, 3) := by decide +kernel
theorem dX10_readValue_10 : decode cX10_readValue 10 = .ok (.invokevirtual 215, 3) := by decide +kernel
theorem dX10_readValue_13 : decode cX10_readValue 13 = .ok (.istore_n 2, 1) := by decide +kernel
theorem dX10_readValue_14 : decode cX10_readValue 14 = .ok (.aload_n 0, 1) := by decide +kernel
theorem dX10_readValue_15 : decode cX10_readValue 15 = .ok (.iload_n 2, 1) := by decide +kernel
theorem dX10_readValue_16 : decode cX10_readValue 16 = .ok (.i2l, 1) := by decide +kernel
theorem dX10_readValue_17 : decode cX10_readValue 17 = .ok (.ldc2_w 246, 3) := by decide +kernel
theorem dX10_readValue_20 : decode cX10_readValue 20 = .ok (.ldc2_w 248, 3) := by decide +kernel
theorem dX10_readValue_23 : decode cX10_readValue 23 = .ok (.invokestatic 117, 3) := by decide +kernel
theorem dX10_readValue_26 : decode cX10_readValue 26 = .ok (.iconst 1, 1) := by decide +kernel
theorem dX10_readValue_27 : decode cX10_readValue 27 = .ok (.aload_n 0, 1) := by decide +kernel
theorem dX10_readValue_28 : decode cX10_readValue 28 = .ok (.getfield 209, 3) := by decide +kernel
theorem dX10_readValue_31 : decode cX10_readValue 31 = .ok (.invokevirtual 250, 3) := by decide +kernel
theorem dX10_readValue_34 : decode cX10_readValue 34 = .ok (.ifCond .ne 4, 3) := by decide +kernel
theorem dX10_readValue_37 : decode cX10_readValue 37 = .ok (.return_, 1) := by decide +kernel
theorem dX10_readValue_38 : decode cX10_readValue 38 = .ok (.aload_n 0, 1) := by decide +kernel
theorem dX10_readValue_39 : decode cX10_readValue 39 = .ok (.getfield 209, 3) := by decide +kernel
theorem dX10_readValue_42 : decode cX10_readValue 42 = .ok (.istore_n 3, 1) := by decide +kernel
theorem dX10_readValue_43 : decode cX10_readValue 43 = .ok (.iconst 0, 1) := by decide +kernel
theorem dX10_readValue_44 : decode cX10_readValue 44 = .ok (.istore 4, 2) := by decide +kernel
theorem dX10_readValue_46 : decode cX10_readValue 46 = .ok (.aload_n 0, 1) := by decide +kernel
theorem dX10_readValue_47 : decode cX10_readValue 47 = .ok (.getfield 209, 3) := by decide +kernel
theorem dX10_readValue_50 : decode cX10_readValue 50 = .ok (.aload_n 0, 1) := by decide +kernel
theorem dX10_readValue_51 : decode cX10_readValue 51 = .ok (.getfield 202, 3) := by decide +kernel
theorem dX10_readValue_54 : decode cX10_readValue 54 = .ok (.if_icmp .ge 71, 3) := by decide +kernel
theorem dX10_readValue_57 : decode cX10_readValue 57 = .ok (.aload_n 0, 1) := by decide +kernel
theorem dX10_readValue_58 : decode cX10_readValue 58 = .ok (.getfield 44, 3) := by decide +kernel
theorem dX10_readValue_61 : decode cX10_readValue 61 = .ok (.aload_n 0, 1) := by decide +kernel
theorem dX10_readValue_62 : decode cX10_readValue 62 = .ok (.getfield 209, 3) := by decide +kernel
theorem dX10_readValue_65 : decode cX10_readValue 65 = .ok (.iaload, 1) := by decide +kernel
theorem dX10_readValue_66 : decode cX10_readValue 66 = .ok (.i2l, 1) := by decide +kernel
theorem dX10_readValue_67 : decode cX10_readValue 67 = .ok (.ldc2_w 246, 3) := by decide +kernel
theorem dX10_readValue_70 : decode cX10_readValue 70 = .ok (.ldc2_w 248, 3) := by decide +kernel
theorem dX10_readValue_73 : decode cX10_readValue 73 = .ok (.invokestatic 117, 3) := by decide +kernel
theorem dX10_readValue_76 : decode cX10_readValue 76 = .ok (.ifCond .eq 49, 3) := by decide +kernel
theorem dX10_readValue_79 : decode cX10_readValue 79 = .ok (.iload 4, 2) := by decide +kernel
theorem dX10_readValue_81 : decode cX10_readValue 81 = .ok (.sipush 999, 3) := by decide +kernel
theorem dX10_readValue_84 : decode cX10_readValue 84 = .ok (.if_icmp .le 8, 3) := by decide +kernel
theorem dX10_readValue_87 : decode cX10_readValue 87 = .ok (.iload 4, 2) := by decide +kernel
theorem dX10_readValue_89 : decode cX10_readValue 89 = .ok (.goto 21, 3) := by decide +kernel
theorem dX10_readValue_92 : decode cX10_readValue 92 = .ok (.bipush 10, 2) := by decide +kernel
theorem dX10_readValue_94 : decode cX10_readValue 94 = .ok (.iload 4, 2) := by decide +kernel
theorem dX10_readValue_96 : decode cX10_readValue 96 = .ok (.imul, 1) := by decide +kernel
theorem dX10_readValue_97 : decode cX10_readValue 97 = .ok (.aload_n 0, 1) := by decide +kernel
theorem dX10_readValue_98 : decode cX10_readValue 98 = .ok (.getfield 44, 3) := by decide +kernel
theorem dX10_readValue_101 : decode cX10_readValue 101 = .ok (.aload_n 0, 1) := by decide +kernel
theorem dX10_readValue_102 : decode cX10_readValue 102 = .ok (.getfield 209, 3) := by decide +kernel
theorem dX10_readValue_105 : decode cX10_readValue 105 = .ok (.iaload, 1) := by decide +kernel
theorem dX10_readValue_106 : decode cX10_readValue 106 = .ok (.iadd, 1) := by decide +kernel
theorem dX10_readValue_107 : decode cX10_readValue 107 = .ok (.bipush 48, 2) := by decide +kernel
theorem dX10_readValue_109 : decode cX10_readValue 109 = .ok (.isub, 1) := by decide +kernel
theorem dX10_readValue_110 : decode cX10_readValue 110 = .ok (.istore 4, 2) := by decide +kernel
theorem dX10_readValue_112 : decode cX10_readValue 112 = .ok (.aload_n 0, 1) := by decide +kernel
theorem dX10_readValue_113 : decode cX10_readValue 113 = .ok (.dup, 1) := by decide +kernel
theorem dX10_readValue_114 : decode cX10_readValue 114 = .ok (.getfield 209, 3) := by decide +kernel
theorem dX10_readValue_117 : decode cX10_readValue 117 = .ok (.iconst 1, 1) := by decide +kernel
theorem dX10_readValue_118 : decode cX10_readValue 118 = .ok (.iadd, 1) := by decide +kernel
theorem dX10_readValue_119 : decode cX10_readValue 119 = .ok (.putfield 209, 3) := by decide +kernel
theorem dX10_readValue_122 : decode cX10_readValue 122 = .ok (.goto (-76), 3) := by decide +kernel
theorem dX10_readValue_125 : decode cX10_readValue 125 = .ok (.aload_n 0, 1) := by decide +kernel
theorem dX10_readValue_126 : decode cX10_readValue 126 = .ok (.aload_n 0, 1) := by decide +kernel
theorem dX10_readValue_127 : decode cX10_readValue 127 = .ok (.getfield 209, 3) := by decide +kernel
theorem dX10_readValue_130 : decode cX10_readValue 130 = .ok (.iload_n 3, 1) := by decide +kernel
theorem dX10_readValue_131 : decode cX10_readValue 131 = .ok (.isub, 1) := by decide +kernel
theorem dX10_readValue_132 : decode cX10_readValue 132 = .ok (.iconst 3, 1) := by decide +kernel
theorem dX10_readValue_133 : decode cX10_readValue 133 = .ok (.if_icmp .ge 26, 3) := by decide +kernel
theorem dX10_readValue_136 : decode cX10_readValue 136 = .ok (.iload 4, 2) := by decide +kernel
theorem dX10_readValue_138 : decode cX10_readValue 138 = .ok (.i2l, 1) := by decide +kernel
theorem dX10_readValue_139 : decode cX10_readValue 139 = .ok (.iload_n 1, 1) := by decide +kernel
theorem dX10_readValue_140 : decode cX10_readValue 140 = .ok (.invokestatic 254, 3) := by decide +kernel
theorem dX10_readValue_143 : decode cX10_readValue 143 = .ok (.i2l, 1) := by decide +kernel
theorem dX10_readValue_144 : decode cX10_readValue 144 = .ok (.iload_n 1, 1) := by decide +kernel
theorem dX10_readValue_145 : decode cX10_readValue 145 = .ok (.invokestatic 257, 3) := by decide +kernel
theorem dX10_readValue_148 : decode cX10_readValue 148 = .ok (.i2l, 1) := by decide +kernel
theorem dX10_readValue_149 : decode cX10_readValue 149 = .ok (.invokestatic 117, 3) := by decide +kernel
theorem dX10_readValue_152 : decode cX10_readValue 152 = .ok (.ifCond .eq 7, 3) := by decide +kernel
theorem dX10_readValue_155 : decode cX10_readValue 155 = .ok (.iconst 1, 1) := by decide +kernel
theorem dX10_readValue_156 : decode cX10_readValue 156 = .ok (.goto 4, 3) := by decide +kernel
theorem dX10_readValue_159 : decode cX10_readValue 159 = .ok (.iconst 0, 1) := by decide +kernel
theorem dX10_readValue_160 : decode cX10_readValue 160 = .ok (.iconst 2, 1) := by decide +kernel
theorem dX10_readValue_161 : decode cX10_readValue 161 = .ok (.iload_n 3, 1) := by decide +kernel
theorem dX10_readValue_162 : decode cX10_readValue 162 = .ok (.invokevirtual 250, 3) := by decide +kernel
theorem dX10_readValue_165 : decode cX10_readValue 165 = .ok (.istore 5, 2) := by decide +kernel
theorem dX10_readValue_167 : decode cX10_readValue 167 = .ok (.aload_n 0, 1) := by decide +kernel
theorem dX10_readValue_168 : decode cX10_readValue 168 = .ok (.getfield 54, 3) := by decide +kernel
theorem dX10_readValue_171 : decode cX10_readValue 171 = .ok (.iload_n 1, 1) := by decide +kernel
theorem dX10_readValue_172 : decode cX10_readValue 172 = .ok (.iload 4, 2) := by decide +kernel
theorem dX10_readValue_174 : decode cX10_readValue 174 = .ok (.iastore, 1) := by decide +kernel
theorem dX10_readValue_175 : decode cX10_readValue 175 = .ok (.goto 43, 3) := by decide +kernel
theorem dX10_readValue_178 : decode cX10_readValue 178 = .ok (.aload_n 0, 1) := by decide +kernel
theorem dX10_readValue_179 : decode cX10_readValue 179 = .ok (.aload_n 0, 1) := by decide +kernel
theorem dX10_readValue_180 : decode cX10_readValue 180 = .ok (.getfield 202, 3) := by decide +kernel
theorem dX10_readValue_183 : decode cX10_readValue 183 = .ok (.invokevirtual 260, 3) := by decide +kernel
theorem dX10_readValue_186 : decode cX10_readValue 186 = .ok (.aload_n 0, 1) := by decide +kernel
theorem dX10_readValue_187 : decode cX10_readValue 187 = .ok (.iload_n 1, 1) := by decide +kernel
theorem dX10_readValue_188 : decode cX10_readValue 188 = .ok (.invokevirtual 263, 3) := by decide +kernel
theorem dX10_readValue_191 : decode cX10_readValue 191 = .ok (.istore_n 2, 1) := by decide +kernel
theorem dX10_readValue_192 : decode cX10_readValue 192 = .ok (.aload_n 0, 1) := by decide +kernel
theorem dX10_readValue_193 : decode cX10_readValue 193 = .ok (.iload_n 2, 1) := by decide +kernel
theorem dX10_readValue_194 : decode cX10_readValue 194 = .ok (.ifCond .lt 7, 3) := by decide +kernel
theorem dX10_readValue_197 : decode cX10_readValue 197 = .ok (.iconst 1, 1) := by decide +kernel
theorem dX10_readValue_198 : decode cX10_readValue 198 = .ok (.goto 4, 3) := by decide +kernel
theorem dX10_readValue_201 : decode cX10_readValue 201 = .ok (.iconst 0, 1) := by decide +kernel
theorem dX10_readValue_202 : decode cX10_readValue 202 = .ok (.iconst 1, 1) := by decide +kernel
theorem dX10_readValue_203 : decode cX10_readValue 203 = .ok (.aload_n 0, 1) := by decide +kernel
theorem dX10_readValue_204 : decode cX10_readValue 204 = .ok (.getfield 218, 3) := by decide +kernel
theorem dX10_readValue_207 : decode cX10_readValue 207 = .ok (.invokevirtual 250, 3) := by decide +kernel
theorem dX10_readValue_210 : decode cX10_readValue 210 = .ok (.istore_n 3, 1) := by decide +kernel
theorem dX10_readValue_211 : decode cX10_readValue 211 = .ok (.aload_n 0, 1) := by decide +kernel
theorem dX10_readValue_212 : decode cX10_readValue 212 = .ok (.getfield 54, 3) := by decide +kernel
theorem dX10_readValue_215 : decode cX10_readValue 215 = .ok (.iload_n 1, 1) := by decide +kernel
theorem dX10_readValue_216 : decode cX10_readValue 216 = .ok (.iload_n 2, 1) := by decide +kernel
theorem dX10_readValue_217 : decode cX10_readValue 217 = .ok (.iastore, 1) := by decide +kernel
theorem dX10_readValue_218 : decode cX10_readValue 218 = .ok (.return_, 1) := by decide +kernel
theorem dX10_readClause_0 : decode cX10_readClause 0 = .ok (.aload_n 0, 1) := by decide +kernel
theorem dX10_readClause_1 : decode cX10_readClause 1 = .ok (.aload_n 0, 1) := by decide +kernel
theorem dX10_readClause_2 : decode cX10_readClause 2 = .ok (.getfield 202, 3) := by decide +kernel
theorem dX10_readClause_5 : decode cX10_readClause 5 = .ok (.invokevirtual 260, 3) := by decide +kernel
theorem dX10_readClause_8 : decode cX10_readClause 8 = .ok (.aload_n 0, 1) := by decide +kernel
theorem dX10_readClause_9 : decode cX10_readClause 9 = .ok (.invokevirtual 266, 3) := by decide +kernel
theorem dX10_readClause_12 : decode cX10_readClause 12 = .ok (.istore_n 1, 1) := by decide +kernel
theorem dX10_readClause_13 : decode cX10_readClause 13 = .ok (.aload_n 0, 1) := by decide +kernel
theorem dX10_readClause_14 : decode cX10_readClause 14 = .ok (.iload_n 1, 1) := by decide +kernel
theorem dX10_readClause_15 : decode cX10_readClause 15 = .ok (.ifCond .lt 7, 3) := by decide +kernel
theorem dX10_readClause_18 : decode cX10_readClause 18 = .ok (.iconst 1, 1) := by decide +kernel
theorem dX10_readClause_19 : decode cX10_readClause 19 = .ok (.goto 4, 3) := by decide +kernel
theorem dX10_readClause_22 : decode cX10_readClause 22 = .ok (.iconst 0, 1) := by decide +kernel
theorem dX10_readClause_23 : decode cX10_readClause 23 = .ok (.iconst 1, 1) := by decide +kernel
theorem dX10_readClause_24 : decode cX10_readClause 24 = .ok (.aload_n 0, 1) := by decide +kernel
theorem dX10_readClause_25 : decode cX10_readClause 25 = .ok (.getfield 218, 3) := by decide +kernel
theorem dX10_readClause_28 : decode cX10_readClause 28 = .ok (.invokevirtual 250, 3) := by decide +kernel
theorem dX10_readClause_31 : decode cX10_readClause 31 = .ok (.ifCond .eq 31, 3) := by decide +kernel
theorem dX10_readClause_34 : decode cX10_readClause 34 = .ok (.aload_n 0, 1) := by decide +kernel
theorem dX10_readClause_35 : decode cX10_readClause 35 = .ok (.aload_n 0, 1) := by decide +kernel
theorem dX10_readClause_36 : decode cX10_readClause 36 = .ok (.getfield 269, 3) := by decide +kernel
theorem dX10_readClause_39 : decode cX10_readClause 39 = .ok (.iload_n 1, 1) := by decide +kernel
theorem dX10_readClause_40 : decode cX10_readClause 40 = .ok (.ishr, 1) := by decide +kernel
theorem dX10_readClause_41 : decode cX10_readClause 41 = .ok (.iconst 1, 1) := by decide +kernel
theorem dX10_readClause_42 : decode cX10_readClause 42 = .ok (.iand, 1) := by decide +kernel
theorem dX10_readClause_43 : decode cX10_readClause 43 = .ok (.ifCond .ne 7, 3) := by decide +kernel
theorem dX10_readClause_46 : decode cX10_readClause 46 = .ok (.iconst 1, 1) := by decide +kernel
theorem dX10_readClause_47 : decode cX10_readClause 47 = .ok (.goto 4, 3) := by decide +kernel
theorem dX10_readClause_50 : decode cX10_readClause 50 = .ok (.iconst 0, 1) := by decide +kernel
theorem dX10_readClause_51 : decode cX10_readClause 51 = .ok (.iconst 3, 1) := by decide +kernel
theorem dX10_readClause_52 : decode cX10_readClause 52 = .ok (.aload_n 0, 1) := by decide +kernel
theorem dX10_readClause_53 : decode cX10_readClause 53 = .ok (.getfield 218, 3) := by decide +kernel
theorem dX10_readClause_56 : decode cX10_readClause 56 = .ok (.invokevirtual 250, 3) := by decide +kernel
theorem dX10_readClause_59 : decode cX10_readClause 59 = .ok (.ifCond .ne 4, 3) := by decide +kernel
theorem dX10_readClause_62 : decode cX10_readClause 62 = .ok (.return_, 1) := by decide +kernel
theorem dX10_readClause_63 : decode cX10_readClause 63 = .ok (.aload_n 0, 1) := by decide +kernel
theorem dX10_readClause_64 : decode cX10_readClause 64 = .ok (.dup, 1) := by decide +kernel
theorem dX10_readClause_65 : decode cX10_readClause 65 = .ok (.getfield 269, 3) := by decide +kernel
theorem dX10_readClause_68 : decode cX10_readClause 68 = .ok (.iconst 1, 1) := by decide +kernel
theorem dX10_readClause_69 : decode cX10_readClause 69 = .ok (.iload_n 1, 1) := by decide +kernel
theorem dX10_readClause_70 : decode cX10_readClause 70 = .ok (.ishl, 1) := by decide +kernel
theorem dX10_readClause_71 : decode cX10_readClause 71 = .ok (.ior, 1) := by decide +kernel
theorem dX10_readClause_72 : decode cX10_readClause 72 = .ok (.putfield 269, 3) := by decide +kernel
theorem dX10_readClause_75 : decode cX10_readClause 75 = .ok (.aload_n 0, 1) := by decide +kernel
theorem dX10_readClause_76 : decode cX10_readClause 76 = .ok (.iload_n 1, 1) := by decide +kernel
theorem dX10_readClause_77 : decode cX10_readClause 77 = .ok (.invokevirtual 272, 3) := by decide +kernel
theorem dX10_readClause_80 : decode cX10_readClause 80 = .ok (.aload_n 0, 1) := by decide +kernel
theorem dX10_readClause_81 : decode cX10_readClause 81 = .ok (.aload_n 0, 1) := by decide +kernel
theorem dX10_readClause_82 : decode cX10_readClause 82 = .ok (.getfield 202, 3) := by decide +kernel
theorem dX10_readClause_85 : decode cX10_readClause 85 = .ok (.invokevirtual 215, 3) := by decide +kernel
theorem dX10_readClause_88 : decode cX10_readClause 88 = .ok (.istore_n 2, 1) := by decide +kernel
theorem dX10_readClause_89 : decode cX10_readClause 89 = .ok (.aload_n 0, 1) := by decide +kernel
theorem dX10_readClause_90 : decode cX10_readClause 90 = .ok (.getfield 212, 3) := by decide +kernel
theorem dX10_readClause_93 : decode cX10_readClause 93 = .ok (.ifCond .ne 36, 3) := by decide +kernel
theorem dX10_readClause_96 : decode cX10_readClause 96 = .ok (.aload_n 0, 1) := by decide +kernel
theorem dX10_readClause_97 : decode cX10_readClause 97 = .ok (.iload_n 2, 1) := by decide +kernel
theorem dX10_readClause_98 : decode cX10_readClause 98 = .ok (.bipush 59, 2) := by decide +kernel
theorem dX10_readClause_100 : decode cX10_readClause 100 = .ok (.if_icmp .ne 7, 3) := by decide +kernel
theorem dX10_readClause_103 : decode cX10_readClause 103 = .ok (.iconst 1, 1) := by decide +kernel
theorem dX10_readClause_104 : decode cX10_readClause 104 = .ok (.goto 4, 3) := by decide +kernel
theorem dX10_readClause_107 : decode cX10_readClause 107 = .ok (.iconst 0, 1) := by decide +kernel
theorem dX10_readClause_108 : decode cX10_readClause 108 = .ok (.iconst 1, 1) := by decide +kernel
theorem dX10_readClause_109 : decode cX10_readClause 109 = .ok (.aload_n 0, 1) := by decide +kernel
theorem dX10_readClause_110 : decode cX10_readClause 110 = .ok (.getfield 209, 3) := by decide +kernel
theorem dX10_readClause_113 : decode cX10_readClause 113 = .ok (.invokevirtual 250, 3) := by decide +kernel
theorem dX10_readClause_116 : decode cX10_readClause 116 = .ok (.ifCond .eq 13, 3) := by decide +kernel
theorem dX10_readClause_119 : decode cX10_readClause 119 = .ok (.aload_n 0, 1) := by decide +kernel
theorem dX10_readClause_120 : decode cX10_readClause 120 = .ok (.dup, 1) := by decide +kernel
theorem dX10_readClause_121 : decode cX10_readClause 121 = .ok (.getfield 209, 3) := by decide +kernel
theorem dX10_readClause_124 : decode cX10_readClause 124 = .ok (.iconst 1, 1) := by decide +kernel
theorem dX10_readClause_125 : decode cX10_readClause 125 = .ok (.iadd, 1) := by decide +kernel
theorem dX10_readClause_126 : decode cX10_readClause 126 = .ok (.putfield 209, 3) := by decide +kernel
theorem dX10_readClause_129 : decode cX10_readClause 129 = .ok (.return_, 1) := by decide +kernel
theorem dX10_isVillage_0 : decode cX10_isVillage 0 = .ok (.iload_n 0, 1) := by decide +kernel
theorem dX10_isVillage_1 : decode cX10_isVillage 1 = .ok (.i2l, 1) := by decide +kernel
theorem dX10_isVillage_2 : decode cX10_isVillage 2 = .ok (.lconst 0, 1) := by decide +kernel
theorem dX10_isVillage_3 : decode cX10_isVillage 3 = .ok (.ldc2_w 275, 3) := by decide +kernel
theorem dX10_isVillage_6 : decode cX10_isVillage 6 = .ok (.invokestatic 117, 3) := by decide +kernel
theorem dX10_isVillage_9 : decode cX10_isVillage 9 = .ok (.ireturn, 1) := by decide +kernel
theorem dX10_rule_0 : decode cX10_rule 0 = .ok (.iload_n 1, 1) := by decide +kernel
theorem dX10_rule_1 : decode cX10_rule 1 = .ok (.invokestatic 277, 3) := by decide +kernel
theorem dX10_rule_4 : decode cX10_rule 4 = .ok (.ifCond .ne 7, 3) := by decide +kernel
theorem dX10_rule_7 : decode cX10_rule 7 = .ok (.sipush (-1001), 3) := by decide +kernel
theorem dX10_rule_10 : decode cX10_rule 10 = .ok (.ireturn, 1) := by decide +kernel
theorem dX10_rule_11 : decode cX10_rule 11 = .ok (.aload_n 0, 1) := by decide +kernel
theorem dX10_rule_12 : decode cX10_rule 12 = .ok (.iconst 0, 1) := by decide +kernel
theorem dX10_rule_13 : decode cX10_rule 13 = .ok (.putfield 209, 3) := by decide +kernel
theorem dX10_rule_16 : decode cX10_rule 16 = .ok (.aload_n 0, 1) := by decide +kernel
theorem dX10_rule_17 : decode cX10_rule 17 = .ok (.iconst 0, 1) := by decide +kernel
theorem dX10_rule_18 : decode cX10_rule 18 = .ok (.putfield 212, 3) := by decide +kernel
theorem dX10_rule_21 : decode cX10_rule 21 = .ok (.aload_n 0, 1) := by decide +kernel
theorem dX10_rule_22 : decode cX10_rule 22 = .ok (.iconst (-1), 1) := by decide +kernel
theorem dX10_rule_23 : decode cX10_rule 23 = .ok (.putfield 47, 3) := by decide +kernel
theorem dX10_rule_26 : decode cX10_rule 26 = .ok (.aload_n 0, 1) := by decide +kernel
theorem dX10_rule_27 : decode cX10_rule 27 = .ok (.iconst 0, 1) := by decide +kernel
theorem dX10_rule_28 : decode cX10_rule 28 = .ok (.putfield 269, 3) := by decide +kernel
theorem dX10_rule_31 : decode cX10_rule 31 = .ok (.iconst 0, 1) := by decide +kernel
theorem dX10_rule_32 : decode cX10_rule 32 = .ok (.istore_n 2, 1) := by decide +kernel
theorem dX10_rule_33 : decode cX10_rule 33 = .ok (.iload_n 2, 1) := by decide +kernel
theorem dX10_rule_34 : decode cX10_rule 34 = .ok (.bipush 8, 2) := by decide +kernel
theorem dX10_rule_36 : decode cX10_rule 36 = .ok (.if_icmp .ge 19, 3) := by decide +kernel
theorem dX10_rule_39 : decode cX10_rule 39 = .ok (.aload_n 0, 1) := by decide +kernel
theorem dX10_rule_40 : decode cX10_rule 40 = .ok (.getfield 54, 3) := by decide +kernel
theorem dX10_rule_43 : decode cX10_rule 43 = .ok (.iload_n 2, 1) := by decide +kernel
theorem dX10_rule_44 : decode cX10_rule 44 = .ok (.iload_n 2, 1) := by decide +kernel
theorem dX10_rule_45 : decode cX10_rule 45 = .ok (.invokestatic 103, 3) := by decide +kernel
theorem dX10_rule_48 : decode cX10_rule 48 = .ok (.iastore, 1) := by decide +kernel
theorem dX10_rule_49 : decode cX10_rule 49 = .ok (.iinc 2 1, 3) := by decide +kernel
theorem dX10_rule_52 : decode cX10_rule 52 = .ok (.goto (-19), 3) := by decide +kernel
theorem dX10_rule_55 : decode cX10_rule 55 = .ok (.iconst 0, 1) := by decide +kernel
theorem dX10_rule_56 : decode cX10_rule 56 = .ok (.istore_n 2, 1) := by decide +kernel
theorem dX10_rule_57 : decode cX10_rule 57 = .ok (.aload_n 0, 1) := by decide +kernel
theorem dX10_rule_58 : decode cX10_rule 58 = .ok (.getfield 212, 3) := by decide +kernel
theorem dX10_rule_61 : decode cX10_rule 61 = .ok (.ifCond .ne 24, 3) := by decide +kernel
theorem dX10_rule_64 : decode cX10_rule 64 = .ok (.aload_n 0, 1) := by decide +kernel
theorem dX10_rule_65 : decode cX10_rule 65 = .ok (.aload_n 0, 1) := by decide +kernel
theorem dX10_rule_66 : decode cX10_rule 66 = .ok (.getfield 202, 3) := by decide +kernel
theorem dX10_rule_69 : decode cX10_rule 69 = .ok (.invokevirtual 215, 3) := by decide +kernel
theorem dX10_rule_72 : decode cX10_rule 72 = .ok (.ifCond .lt 13, 3) := by decide +kernel
theorem dX10_rule_75 : decode cX10_rule 75 = .ok (.aload_n 0, 1) := by decide +kernel
theorem dX10_rule_76 : decode cX10_rule 76 = .ok (.invokevirtual 280, 3) := by decide +kernel
theorem dX10_rule_79 : decode cX10_rule 79 = .ok (.iinc 2 1, 3) := by decide +kernel
theorem dX10_rule_82 : decode cX10_rule 82 = .ok (.goto (-25), 3) := by decide +kernel
theorem dX10_rule_85 : decode cX10_rule 85 = .ok (.aload_n 0, 1) := by decide +kernel
theorem dX10_rule_86 : decode cX10_rule 86 = .ok (.iconst 0, 1) := by decide +kernel
theorem dX10_rule_87 : decode cX10_rule 87 = .ok (.putfield 202, 3) := by decide +kernel
theorem dX10_rule_90 : decode cX10_rule 90 = .ok (.aload_n 0, 1) := by decide +kernel
theorem dX10_rule_91 : decode cX10_rule 91 = .ok (.getfield 212, 3) := by decide +kernel
theorem dX10_rule_94 : decode cX10_rule 94 = .ok (.ifCond .le 11, 3) := by decide +kernel
theorem dX10_rule_97 : decode cX10_rule 97 = .ok (.bipush (-10), 2) := by decide +kernel
theorem dX10_rule_99 : decode cX10_rule 99 = .ok (.aload_n 0, 1) := by decide +kernel
theorem dX10_rule_100 : decode cX10_rule 100 = .ok (.getfield 212, 3) := by decide +kernel
theorem dX10_rule_103 : decode cX10_rule 103 = .ok (.isub, 1) := by decide +kernel
theorem dX10_rule_104 : decode cX10_rule 104 = .ok (.ireturn, 1) := by decide +kernel
theorem dX10_rule_105 : decode cX10_rule 105 = .ok (.iconst 0, 1) := by decide +kernel
theorem dX10_rule_106 : decode cX10_rule 106 = .ok (.istore_n 3, 1) := by decide +kernel
theorem dX10_rule_107 : decode cX10_rule 107 = .ok (.iload_n 3, 1) := by decide +kernel
theorem dX10_rule_108 : decode cX10_rule 108 = .ok (.bipush 8, 2) := by decide +kernel
theorem dX10_rule_110 : decode cX10_rule 110 = .ok (.if_icmp .ge 26, 3) := by decide +kernel
theorem dX10_rule_113 : decode cX10_rule 113 = .ok (.aload_n 0, 1) := by decide +kernel
theorem dX10_rule_114 : decode cX10_rule 114 = .ok (.getfield 51, 3) := by decide +kernel
theorem dX10_rule_117 : decode cX10_rule 117 = .ok (.bipush 8, 2) := by decide +kernel
theorem dX10_rule_119 : decode cX10_rule 119 = .ok (.iload_n 1, 1) := by decide +kernel
theorem dX10_rule_120 : decode cX10_rule 120 = .ok (.imul, 1) := by decide +kernel
theorem dX10_rule_121 : decode cX10_rule 121 = .ok (.iload_n 3, 1) := by decide +kernel
theorem dX10_rule_122 : decode cX10_rule 122 = .ok (.iadd, 1) := by decide +kernel
theorem dX10_rule_123 : decode cX10_rule 123 = .ok (.aload_n 0, 1) := by decide +kernel
theorem dX10_rule_124 : decode cX10_rule 124 = .ok (.getfield 54, 3) := by decide +kernel
theorem dX10_rule_127 : decode cX10_rule 127 = .ok (.iload_n 3, 1) := by decide +kernel
theorem dX10_rule_128 : decode cX10_rule 128 = .ok (.iaload, 1) := by decide +kernel
theorem dX10_rule_129 : decode cX10_rule 129 = .ok (.iastore, 1) := by decide +kernel
theorem dX10_rule_130 : decode cX10_rule 130 = .ok (.iinc 3 1, 3) := by decide +kernel
theorem dX10_rule_133 : decode cX10_rule 133 = .ok (.goto (-26), 3) := by decide +kernel
theorem dX10_rule_136 : decode cX10_rule 136 = .ok (.iload_n 2, 1) := by decide +kernel
theorem dX10_rule_137 : decode cX10_rule 137 = .ok (.ireturn, 1) := by decide +kernel
theorem dX10_fault_0 : decode cX10_fault 0 = .ok (.aload_n 0, 1) := by decide +kernel
theorem dX10_fault_1 : decode cX10_fault 1 = .ok (.getfield 47, 3) := by decide +kernel
theorem dX10_fault_4 : decode cX10_fault 4 = .ok (.ireturn, 1) := by decide +kernel
theorem dX10_says_0 : decode cX10_says 0 = .ok (.iload_n 1, 1) := by decide +kernel
theorem dX10_says_1 : decode cX10_says 1 = .ok (.invokestatic 277, 3) := by decide +kernel
theorem dX10_says_4 : decode cX10_says 4 = .ok (.ifCond .ne 7, 3) := by decide +kernel
theorem dX10_says_7 : decode cX10_says 7 = .ok (.sipush (-1001), 3) := by decide +kernel
theorem dX10_says_10 : decode cX10_says 10 = .ok (.ireturn, 1) := by decide +kernel
theorem dX10_says_11 : decode cX10_says 11 = .ok (.iload_n 2, 1) := by decide +kernel
theorem dX10_says_12 : decode cX10_says 12 = .ok (.i2l, 1) := by decide +kernel
theorem dX10_says_13 : decode cX10_says 13 = .ok (.lconst 0, 1) := by decide +kernel
theorem dX10_says_14 : decode cX10_says 14 = .ok (.ldc2_w 283, 3) := by decide +kernel
theorem dX10_says_17 : decode cX10_says 17 = .ok (.invokestatic 117, 3) := by decide +kernel
theorem dX10_says_20 : decode cX10_says 20 = .ok (.ifCond .eq 17, 3) := by decide +kernel
theorem dX10_says_23 : decode cX10_says 23 = .ok (.aload_n 0, 1) := by decide +kernel
theorem dX10_says_24 : decode cX10_says 24 = .ok (.getfield 51, 3) := by decide +kernel
theorem dX10_says_27 : decode cX10_says 27 = .ok (.bipush 8, 2) := by decide +kernel
theorem dX10_says_29 : decode cX10_says 29 = .ok (.iload_n 1, 1) := by decide +kernel
theorem dX10_says_30 : decode cX10_says 30 = .ok (.imul, 1) := by decide +kernel
theorem dX10_says_31 : decode cX10_says 31 = .ok (.iload_n 2, 1) := by decide +kernel
theorem dX10_says_32 : decode cX10_says 32 = .ok (.iadd, 1) := by decide +kernel
theorem dX10_says_33 : decode cX10_says 33 = .ok (.iaload, 1) := by decide +kernel
theorem dX10_says_34 : decode cX10_says 34 = .ok (.goto 6, 3) := by decide +kernel
theorem dX10_says_37 : decode cX10_says 37 = .ok (.sipush (-1002), 3) := by decide +kernel
theorem dX10_says_40 : decode cX10_says 40 = .ok (.ireturn, 1) := by decide +kernel
theorem dX10_counts_0 : decode cX10_counts 0 = .ok (.aload_n 0, 1) := by decide +kernel
theorem dX10_counts_1 : decode cX10_counts 1 = .ok (.getfield 32, 3) := by decide +kernel
theorem dX10_counts_4 : decode cX10_counts 4 = .ok (.iload_n 2, 1) := by decide +kernel
theorem dX10_counts_5 : decode cX10_counts 5 = .ok (.baload, 1) := by decide +kernel
theorem dX10_counts_6 : decode cX10_counts 6 = .ok (.ifCond .ne 32, 3) := by decide +kernel
theorem dX10_counts_9 : decode cX10_counts 9 = .ok (.aload_n 0, 1) := by decide +kernel
theorem dX10_counts_10 : decode cX10_counts 10 = .ok (.getfield 51, 3) := by decide +kernel
theorem dX10_counts_13 : decode cX10_counts 13 = .ok (.bipush 8, 2) := by decide +kernel
theorem dX10_counts_15 : decode cX10_counts 15 = .ok (.iload_n 1, 1) := by decide +kernel
theorem dX10_counts_16 : decode cX10_counts 16 = .ok (.imul, 1) := by decide +kernel
theorem dX10_counts_17 : decode cX10_counts 17 = .ok (.bipush 6, 2) := by decide +kernel
theorem dX10_counts_19 : decode cX10_counts 19 = .ok (.iadd, 1) := by decide +kernel
theorem dX10_counts_20 : decode cX10_counts 20 = .ok (.iaload, 1) := by decide +kernel
theorem dX10_counts_21 : decode cX10_counts 21 = .ok (.iconst 1, 1) := by decide +kernel
theorem dX10_counts_22 : decode cX10_counts 22 = .ok (.if_icmp .eq 12, 3) := by decide +kernel
theorem dX10_counts_25 : decode cX10_counts 25 = .ok (.aload_n 0, 1) := by decide +kernel
theorem dX10_counts_26 : decode cX10_counts 26 = .ok (.getfield 28, 3) := by decide +kernel
theorem dX10_counts_29 : decode cX10_counts 29 = .ok (.iload_n 2, 1) := by decide +kernel
theorem dX10_counts_30 : decode cX10_counts 30 = .ok (.baload, 1) := by decide +kernel
theorem dX10_counts_31 : decode cX10_counts 31 = .ok (.ifCond .eq 7, 3) := by decide +kernel
theorem dX10_counts_34 : decode cX10_counts 34 = .ok (.iconst 1, 1) := by decide +kernel
theorem dX10_counts_35 : decode cX10_counts 35 = .ok (.goto 4, 3) := by decide +kernel
theorem dX10_counts_38 : decode cX10_counts 38 = .ok (.iconst 0, 1) := by decide +kernel
theorem dX10_counts_39 : decode cX10_counts 39 = .ok (.istore_n 3, 1) := by decide +kernel
theorem dX10_counts_40 : decode cX10_counts 40 = .ok (.iconst 0, 1) := by decide +kernel
theorem dX10_counts_41 : decode cX10_counts 41 = .ok (.istore 4, 2) := by decide +kernel
theorem dX10_counts_43 : decode cX10_counts 43 = .ok (.iload 4, 2) := by decide +kernel
theorem dX10_counts_45 : decode cX10_counts 45 = .ok (.aload_n 0, 1) := by decide +kernel
theorem dX10_counts_46 : decode cX10_counts 46 = .ok (.getfield 114, 3) := by decide +kernel
theorem dX10_counts_49 : decode cX10_counts 49 = .ok (.if_icmp .ge 61, 3) := by decide +kernel
theorem dX10_counts_52 : decode cX10_counts 52 = .ok (.iload_n 3, 1) := by decide +kernel
theorem dX10_counts_53 : decode cX10_counts 53 = .ok (.ifCond .eq 49, 3) := by decide +kernel
theorem dX10_counts_56 : decode cX10_counts 56 = .ok (.aload_n 0, 1) := by decide +kernel
theorem dX10_counts_57 : decode cX10_counts 57 = .ok (.getfield 51, 3) := by decide +kernel
theorem dX10_counts_60 : decode cX10_counts 60 = .ok (.bipush 8, 2) := by decide +kernel
theorem dX10_counts_62 : decode cX10_counts 62 = .ok (.iload_n 1, 1) := by decide +kernel
theorem dX10_counts_63 : decode cX10_counts 63 = .ok (.imul, 1) := by decide +kernel
theorem dX10_counts_64 : decode cX10_counts 64 = .ok (.bipush 7, 2) := by decide +kernel
theorem dX10_counts_66 : decode cX10_counts 66 = .ok (.iadd, 1) := by decide +kernel
theorem dX10_counts_67 : decode cX10_counts 67 = .ok (.iaload, 1) := by decide +kernel
theorem dX10_counts_68 : decode cX10_counts 68 = .ok (.iconst 1, 1) := by decide +kernel
theorem dX10_counts_69 : decode cX10_counts 69 = .ok (.if_icmp .eq 29, 3) := by decide +kernel
theorem dX10_counts_72 : decode cX10_counts 72 = .ok (.aload_n 0, 1) := by decide +kernel
theorem dX10_counts_73 : decode cX10_counts 73 = .ok (.getfield 7, 3) := by decide +kernel
theorem dX10_counts_76 : decode cX10_counts 76 = .ok (.iload 4, 2) := by decide +kernel
theorem dX10_counts_78 : decode cX10_counts 78 = .ok (.iaload, 1) := by decide +kernel
theorem dX10_counts_79 : decode cX10_counts 79 = .ok (.aload_n 0, 1) := by decide +kernel
theorem dX10_counts_80 : decode cX10_counts 80 = .ok (.getfield 7, 3) := by decide +kernel
theorem dX10_counts_83 : decode cX10_counts 83 = .ok (.iload_n 2, 1) := by decide +kernel
theorem dX10_counts_84 : decode cX10_counts 84 = .ok (.iaload, 1) := by decide +kernel
theorem dX10_counts_85 : decode cX10_counts 85 = .ok (.if_icmp .eq 13, 3) := by decide +kernel
theorem dX10_counts_88 : decode cX10_counts 88 = .ok (.aload_n 0, 1) := by decide +kernel
theorem dX10_counts_89 : decode cX10_counts 89 = .ok (.iload 4, 2) := by decide +kernel
theorem dX10_counts_91 : decode cX10_counts 91 = .ok (.iload_n 2, 1) := by decide +kernel
theorem dX10_counts_92 : decode cX10_counts 92 = .ok (.invokevirtual 152, 3) := by decide +kernel
theorem dX10_counts_95 : decode cX10_counts 95 = .ok (.ifCond .ne 7, 3) := by decide +kernel
theorem dX10_counts_98 : decode cX10_counts 98 = .ok (.iconst 1, 1) := by decide +kernel
theorem dX10_counts_99 : decode cX10_counts 99 = .ok (.goto 4, 3) := by decide +kernel
theorem dX10_counts_102 : decode cX10_counts 102 = .ok (.iconst 0, 1) := by decide +kernel
theorem dX10_counts_103 : decode cX10_counts 103 = .ok (.istore_n 3, 1) := by decide +kernel
theorem dX10_counts_104 : decode cX10_counts 104 = .ok (.iinc 4 1, 3) := by decide +kernel
theorem dX10_counts_107 : decode cX10_counts 107 = .ok (.goto (-64), 3) := by decide +kernel
theorem dX10_counts_110 : decode cX10_counts 110 = .ok (.iload_n 3, 1) := by decide +kernel
theorem dX10_counts_111 : decode cX10_counts 111 = .ok (.ireturn, 1) := by decide +kernel
theorem dX10_ones_0 : decode cX10_ones 0 = .ok (.iconst 0, 1) := by decide +kernel
theorem dX10_ones_1 : decode cX10_ones 1 = .ok (.istore_n 1, 1) := by decide +kernel
theorem dX10_ones_2 : decode cX10_ones 2 = .ok (.iconst 0, 1) := by decide +kernel
theorem dX10_ones_3 : decode cX10_ones 3 = .ok (.istore_n 2, 1) := by decide +kernel
theorem dX10_ones_4 : decode cX10_ones 4 = .ok (.iload_n 2, 1) := by decide +kernel
theorem dX10_ones_5 : decode cX10_ones 5 = .ok (.bipush 12, 2) := by decide +kernel
theorem dX10_ones_7 : decode cX10_ones 7 = .ok (.if_icmp .ge 17, 3) := by decide +kernel
theorem dX10_ones_10 : decode cX10_ones 10 = .ok (.iload_n 1, 1) := by decide +kernel
theorem dX10_ones_11 : decode cX10_ones 11 = .ok (.iload_n 0, 1) := by decide +kernel
theorem dX10_ones_12 : decode cX10_ones 12 = .ok (.iload_n 2, 1) := by decide +kernel
theorem dX10_ones_13 : decode cX10_ones 13 = .ok (.ishr, 1) := by decide +kernel
theorem dX10_ones_14 : decode cX10_ones 14 = .ok (.iconst 1, 1) := by decide +kernel
theorem dX10_ones_15 : decode cX10_ones 15 = .ok (.iand, 1) := by decide +kernel
theorem dX10_ones_16 : decode cX10_ones 16 = .ok (.iadd, 1) := by decide +kernel
theorem dX10_ones_17 : decode cX10_ones 17 = .ok (.istore_n 1, 1) := by decide +kernel
theorem dX10_ones_18 : decode cX10_ones 18 = .ok (.iinc 2 1, 3) := by decide +kernel
theorem dX10_ones_21 : decode cX10_ones 21 = .ok (.goto (-17), 3) := by decide +kernel
theorem dX10_ones_24 : decode cX10_ones 24 = .ok (.iload_n 1, 1) := by decide +kernel
theorem dX10_ones_25 : decode cX10_ones 25 = .ok (.ireturn, 1) := by decide +kernel
theorem dX10_lastOf_0 : decode cX10_lastOf 0 = .ok (.iconst 0, 1) := by decide +kernel
theorem dX10_lastOf_1 : decode cX10_lastOf 1 = .ok (.istore_n 2, 1) := by decide +kernel
theorem dX10_lastOf_2 : decode cX10_lastOf 2 = .ok (.iload_n 1, 1) := by decide +kernel
theorem dX10_lastOf_3 : decode cX10_lastOf 3 = .ok (.istore_n 3, 1) := by decide +kernel
theorem dX10_lastOf_4 : decode cX10_lastOf 4 = .ok (.bipush 11, 2) := by decide +kernel
theorem dX10_lastOf_6 : decode cX10_lastOf 6 = .ok (.istore 4, 2) := by decide +kernel
theorem dX10_lastOf_8 : decode cX10_lastOf 8 = .ok (.iload 4, 2) := by decide +kernel
theorem dX10_lastOf_10 : decode cX10_lastOf 10 = .ok (.ifCond .lt 33, 3) := by decide +kernel
theorem dX10_lastOf_13 : decode cX10_lastOf 13 = .ok (.iload_n 0, 1) := by decide +kernel
theorem dX10_lastOf_14 : decode cX10_lastOf 14 = .ok (.iload 4, 2) := by decide +kernel
theorem dX10_lastOf_16 : decode cX10_lastOf 16 = .ok (.ishr, 1) := by decide +kernel
theorem dX10_lastOf_17 : decode cX10_lastOf 17 = .ok (.iconst 1, 1) := by decide +kernel
theorem dX10_lastOf_18 : decode cX10_lastOf 18 = .ok (.iand, 1) := by decide +kernel
theorem dX10_lastOf_19 : decode cX10_lastOf 19 = .ok (.iconst 1, 1) := by decide +kernel
theorem dX10_lastOf_20 : decode cX10_lastOf 20 = .ok (.if_icmp .ne 17, 3) := by decide +kernel
theorem dX10_lastOf_23 : decode cX10_lastOf 23 = .ok (.iload_n 3, 1) := by decide +kernel
theorem dX10_lastOf_24 : decode cX10_lastOf 24 = .ok (.ifCond .le 13, 3) := by decide +kernel
theorem dX10_lastOf_27 : decode cX10_lastOf 27 = .ok (.iload_n 2, 1) := by decide +kernel
theorem dX10_lastOf_28 : decode cX10_lastOf 28 = .ok (.iconst 1, 1) := by decide +kernel
theorem dX10_lastOf_29 : decode cX10_lastOf 29 = .ok (.iload 4, 2) := by decide +kernel
theorem dX10_lastOf_31 : decode cX10_lastOf 31 = .ok (.ishl, 1) := by decide +kernel
theorem dX10_lastOf_32 : decode cX10_lastOf 32 = .ok (.ior, 1) := by decide +kernel
theorem dX10_lastOf_33 : decode cX10_lastOf 33 = .ok (.istore_n 2, 1) := by decide +kernel
theorem dX10_lastOf_34 : decode cX10_lastOf 34 = .ok (.iinc 3 (-1), 3) := by decide +kernel
theorem dX10_lastOf_37 : decode cX10_lastOf 37 = .ok (.iinc 4 (-1), 3) := by decide +kernel
theorem dX10_lastOf_40 : decode cX10_lastOf 40 = .ok (.goto (-32), 3) := by decide +kernel
theorem dX10_lastOf_43 : decode cX10_lastOf 43 = .ok (.iload_n 2, 1) := by decide +kernel
theorem dX10_lastOf_44 : decode cX10_lastOf 44 = .ok (.ireturn, 1) := by decide +kernel
theorem dX10_firstOf_0 : decode cX10_firstOf 0 = .ok (.iconst 0, 1) := by decide +kernel
theorem dX10_firstOf_1 : decode cX10_firstOf 1 = .ok (.istore_n 2, 1) := by decide +kernel
theorem dX10_firstOf_2 : decode cX10_firstOf 2 = .ok (.iload_n 1, 1) := by decide +kernel
theorem dX10_firstOf_3 : decode cX10_firstOf 3 = .ok (.istore_n 3, 1) := by decide +kernel
theorem dX10_firstOf_4 : decode cX10_firstOf 4 = .ok (.iconst 0, 1) := by decide +kernel
theorem dX10_firstOf_5 : decode cX10_firstOf 5 = .ok (.istore 4, 2) := by decide +kernel
theorem dX10_firstOf_7 : decode cX10_firstOf 7 = .ok (.iload 4, 2) := by decide +kernel
theorem dX10_firstOf_9 : decode cX10_firstOf 9 = .ok (.bipush 12, 2) := by decide +kernel
theorem dX10_firstOf_11 : decode cX10_firstOf 11 = .ok (.if_icmp .ge 33, 3) := by decide +kernel
theorem dX10_firstOf_14 : decode cX10_firstOf 14 = .ok (.iload_n 0, 1) := by decide +kernel
theorem dX10_firstOf_15 : decode cX10_firstOf 15 = .ok (.iload 4, 2) := by decide +kernel
theorem dX10_firstOf_17 : decode cX10_firstOf 17 = .ok (.ishr, 1) := by decide +kernel
theorem dX10_firstOf_18 : decode cX10_firstOf 18 = .ok (.iconst 1, 1) := by decide +kernel
theorem dX10_firstOf_19 : decode cX10_firstOf 19 = .ok (.iand, 1) := by decide +kernel
theorem dX10_firstOf_20 : decode cX10_firstOf 20 = .ok (.iconst 1, 1) := by decide +kernel
theorem dX10_firstOf_21 : decode cX10_firstOf 21 = .ok (.if_icmp .ne 17, 3) := by decide +kernel
theorem dX10_firstOf_24 : decode cX10_firstOf 24 = .ok (.iload_n 3, 1) := by decide +kernel
theorem dX10_firstOf_25 : decode cX10_firstOf 25 = .ok (.ifCond .le 13, 3) := by decide +kernel
theorem dX10_firstOf_28 : decode cX10_firstOf 28 = .ok (.iload_n 2, 1) := by decide +kernel
theorem dX10_firstOf_29 : decode cX10_firstOf 29 = .ok (.iconst 1, 1) := by decide +kernel
theorem dX10_firstOf_30 : decode cX10_firstOf 30 = .ok (.iload 4, 2) := by decide +kernel
theorem dX10_firstOf_32 : decode cX10_firstOf 32 = .ok (.ishl, 1) := by decide +kernel
theorem dX10_firstOf_33 : decode cX10_firstOf 33 = .ok (.ior, 1) := by decide +kernel
theorem dX10_firstOf_34 : decode cX10_firstOf 34 = .ok (.istore_n 2, 1) := by decide +kernel
theorem dX10_firstOf_35 : decode cX10_firstOf 35 = .ok (.iinc 3 (-1), 3) := by decide +kernel
theorem dX10_firstOf_38 : decode cX10_firstOf 38 = .ok (.iinc 4 1, 3) := by decide +kernel
theorem dX10_firstOf_41 : decode cX10_firstOf 41 = .ok (.goto (-34), 3) := by decide +kernel
theorem dX10_firstOf_44 : decode cX10_firstOf 44 = .ok (.iload_n 2, 1) := by decide +kernel
theorem dX10_firstOf_45 : decode cX10_firstOf 45 = .ok (.ireturn, 1) := by decide +kernel
theorem dX10_findRingers_0 : decode cX10_findRingers 0 = .ok (.aload_n 0, 1) := by decide +kernel
theorem dX10_findRingers_1 : decode cX10_findRingers 1 = .ok (.getfield 51, 3) := by decide +kernel
theorem dX10_findRingers_4 : decode cX10_findRingers 4 = .ok (.bipush 8, 2) := by decide +kernel
theorem dX10_findRingers_6 : decode cX10_findRingers 6 = .ok (.iload_n 1, 1) := by decide +kernel
theorem dX10_findRingers_7 : decode cX10_findRingers 7 = .ok (.imul, 1) := by decide +kernel
theorem dX10_findRingers_8 : decode cX10_findRingers 8 = .ok (.iconst 5, 1) := by decide +kernel
theorem dX10_findRingers_9 : decode cX10_findRingers 9 = .ok (.iadd, 1) := by decide +kernel
theorem dX10_findRingers_10 : decode cX10_findRingers 10 = .ok (.iaload, 1) := by decide +kernel
theorem dX10_findRingers_11 : decode cX10_findRingers 11 = .ok (.istore 4, 2) := by decide +kernel
theorem dX10_findRingers_13 : decode cX10_findRingers 13 = .ok (.iload 4, 2) := by decide +kernel
theorem dX10_findRingers_15 : decode cX10_findRingers 15 = .ok (.ifCond .ne 13, 3) := by decide +kernel
theorem dX10_findRingers_18 : decode cX10_findRingers 18 = .ok (.aload_n 0, 1) := by decide +kernel
theorem dX10_findRingers_19 : decode cX10_findRingers 19 = .ok (.iload_n 2, 1) := by decide +kernel
theorem dX10_findRingers_20 : decode cX10_findRingers 20 = .ok (.iload_n 3, 1) := by decide +kernel
theorem dX10_findRingers_21 : decode cX10_findRingers 21 = .ok (.ior, 1) := by decide +kernel
theorem dX10_findRingers_22 : decode cX10_findRingers 22 = .ok (.putfield 285, 3) := by decide +kernel
theorem dX10_findRingers_25 : decode cX10_findRingers 25 = .ok (.goto 60, 3) := by decide +kernel
theorem dX10_findRingers_28 : decode cX10_findRingers 28 = .ok (.iload 4, 2) := by decide +kernel
theorem dX10_findRingers_30 : decode cX10_findRingers 30 = .ok (.iconst 2, 1) := by decide +kernel
theorem dX10_findRingers_31 : decode cX10_findRingers 31 = .ok (.if_icmp .ne 17, 3) := by decide +kernel
theorem dX10_findRingers_34 : decode cX10_findRingers 34 = .ok (.aload_n 0, 1) := by decide +kernel
theorem dX10_findRingers_35 : decode cX10_findRingers 35 = .ok (.iload_n 2, 1) := by decide +kernel
theorem dX10_findRingers_36 : decode cX10_findRingers 36 = .ok (.iload_n 3, 1) := by decide +kernel
theorem dX10_findRingers_37 : decode cX10_findRingers 37 = .ok (.ior, 1) := by decide +kernel
theorem dX10_findRingers_38 : decode cX10_findRingers 38 = .ok (.iconst 1, 1) := by decide +kernel
theorem dX10_findRingers_39 : decode cX10_findRingers 39 = .ok (.invokestatic 288, 3) := by decide +kernel
theorem dX10_findRingers_42 : decode cX10_findRingers 42 = .ok (.putfield 285, 3) := by decide +kernel
theorem dX10_findRingers_45 : decode cX10_findRingers 45 = .ok (.goto 40, 3) := by decide +kernel
theorem dX10_findRingers_48 : decode cX10_findRingers 48 = .ok (.iload_n 2, 1) := by decide +kernel
theorem dX10_findRingers_49 : decode cX10_findRingers 49 = .ok (.invokestatic 292, 3) := by decide +kernel
theorem dX10_findRingers_52 : decode cX10_findRingers 52 = .ok (.iload_n 3, 1) := by decide +kernel
theorem dX10_findRingers_53 : decode cX10_findRingers 53 = .ok (.invokestatic 292, 3) := by decide +kernel
theorem dX10_findRingers_56 : decode cX10_findRingers 56 = .ok (.isub, 1) := by decide +kernel
theorem dX10_findRingers_57 : decode cX10_findRingers 57 = .ok (.istore 5, 2) := by decide +kernel
theorem dX10_findRingers_59 : decode cX10_findRingers 59 = .ok (.aload_n 0, 1) := by decide +kernel
theorem dX10_findRingers_60 : decode cX10_findRingers 60 = .ok (.iload 5, 2) := by decide +kernel
theorem dX10_findRingers_62 : decode cX10_findRingers 62 = .ok (.ifCond .le 12, 3) := by decide +kernel
theorem dX10_findRingers_65 : decode cX10_findRingers 65 = .ok (.iload_n 2, 1) := by decide +kernel
theorem dX10_findRingers_66 : decode cX10_findRingers 66 = .ok (.iload 5, 2) := by decide +kernel
theorem dX10_findRingers_68 : decode cX10_findRingers 68 = .ok (.invokestatic 288, 3) := by decide +kernel
theorem dX10_findRingers_71 : decode cX10_findRingers 71 = .ok (.goto 11, 3) := by decide +kernel
theorem dX10_findRingers_74 : decode cX10_findRingers 74 = .ok (.iload_n 3, 1) := by decide +kernel
theorem dX10_findRingers_75 : decode cX10_findRingers 75 = .ok (.iconst 0, 1) := by decide +kernel
theorem dX10_findRingers_76 : decode cX10_findRingers 76 = .ok (.iload 5, 2) := by decide +kernel
theorem dX10_findRingers_78 : decode cX10_findRingers 78 = .ok (.isub, 1) := by decide +kernel
theorem dX10_findRingers_79 : decode cX10_findRingers 79 = .ok (.invokestatic 288, 3) := by decide +kernel
theorem dX10_findRingers_82 : decode cX10_findRingers 82 = .ok (.putfield 285, 3) := by decide +kernel
theorem dX10_findRingers_85 : decode cX10_findRingers 85 = .ok (.return_, 1) := by decide +kernel
theorem dX10_isAhead_0 : decode cX10_isAhead 0 = .ok (.iconst 1, 1) := by decide +kernel
theorem dX10_isAhead_1 : decode cX10_isAhead 1 = .ok (.istore 4, 2) := by decide +kernel
theorem dX10_isAhead_3 : decode cX10_isAhead 3 = .ok (.ldc2_w 295, 3) := by decide +kernel
theorem dX10_isAhead_6 : decode cX10_isAhead 6 = .ok (.aload_n 0, 1) := by decide +kernel
theorem dX10_isAhead_7 : decode cX10_isAhead 7 = .ok (.getfield 51, 3) := by decide +kernel
theorem dX10_isAhead_10 : decode cX10_isAhead 10 = .ok (.bipush 8, 2) := by decide +kernel
theorem dX10_isAhead_12 : decode cX10_isAhead 12 = .ok (.iload_n 1, 1) := by decide +kernel
theorem dX10_isAhead_13 : decode cX10_isAhead 13 = .ok (.imul, 1) := by decide +kernel
theorem dX10_isAhead_14 : decode cX10_isAhead 14 = .ok (.iconst 3, 1) := by decide +kernel
theorem dX10_isAhead_15 : decode cX10_isAhead 15 = .ok (.iadd, 1) := by decide +kernel
theorem dX10_isAhead_16 : decode cX10_isAhead 16 = .ok (.iaload, 1) := by decide +kernel
theorem dX10_isAhead_17 : decode cX10_isAhead 17 = .ok (.i2l, 1) := by decide +kernel
theorem dX10_isAhead_18 : decode cX10_isAhead 18 = .ok (.lmul, 1) := by decide +kernel
theorem dX10_isAhead_19 : decode cX10_isAhead 19 = .ok (.lstore 5, 2) := by decide +kernel
theorem dX10_isAhead_21 : decode cX10_isAhead 21 = .ok (.iconst 0, 1) := by decide +kernel
theorem dX10_isAhead_22 : decode cX10_isAhead 22 = .ok (.istore 7, 2) := by decide +kernel
theorem dX10_isAhead_24 : decode cX10_isAhead 24 = .ok (.iload 7, 2) := by decide +kernel
theorem dX10_isAhead_26 : decode cX10_isAhead 26 = .ok (.aload_n 0, 1) := by decide +kernel
theorem dX10_isAhead_27 : decode cX10_isAhead 27 = .ok (.getfield 114, 3) := by decide +kernel
theorem dX10_isAhead_30 : decode cX10_isAhead 30 = .ok (.if_icmp .ge 65, 3) := by decide +kernel
theorem dX10_isAhead_33 : decode cX10_isAhead 33 = .ok (.iload 4, 2) := by decide +kernel
theorem dX10_isAhead_35 : decode cX10_isAhead 35 = .ok (.ifCond .eq 51, 3) := by decide +kernel
theorem dX10_isAhead_38 : decode cX10_isAhead 38 = .ok (.iload_n 3, 1) := by decide +kernel
theorem dX10_isAhead_39 : decode cX10_isAhead 39 = .ok (.iload 7, 2) := by decide +kernel
theorem dX10_isAhead_41 : decode cX10_isAhead 41 = .ok (.ishr, 1) := by decide +kernel
theorem dX10_isAhead_42 : decode cX10_isAhead 42 = .ok (.iconst 1, 1) := by decide +kernel
theorem dX10_isAhead_43 : decode cX10_isAhead 43 = .ok (.iand, 1) := by decide +kernel
theorem dX10_isAhead_44 : decode cX10_isAhead 44 = .ok (.ifCond .eq 38, 3) := by decide +kernel
theorem dX10_isAhead_47 : decode cX10_isAhead 47 = .ok (.aload_n 0, 1) := by decide +kernel
theorem dX10_isAhead_48 : decode cX10_isAhead 48 = .ok (.getfield 60, 3) := by decide +kernel
theorem dX10_isAhead_51 : decode cX10_isAhead 51 = .ok (.iload_n 2, 1) := by decide +kernel
theorem dX10_isAhead_52 : decode cX10_isAhead 52 = .ok (.laload, 1) := by decide +kernel
theorem dX10_isAhead_53 : decode cX10_isAhead 53 = .ok (.aload_n 0, 1) := by decide +kernel
theorem dX10_isAhead_54 : decode cX10_isAhead 54 = .ok (.getfield 64, 3) := by decide +kernel
theorem dX10_isAhead_57 : decode cX10_isAhead 57 = .ok (.iload_n 2, 1) := by decide +kernel
theorem dX10_isAhead_58 : decode cX10_isAhead 58 = .ok (.laload, 1) := by decide +kernel
theorem dX10_isAhead_59 : decode cX10_isAhead 59 = .ok (.lload 5, 2) := by decide +kernel
theorem dX10_isAhead_61 : decode cX10_isAhead 61 = .ok (.ladd, 1) := by decide +kernel
theorem dX10_isAhead_62 : decode cX10_isAhead 62 = .ok (.aload_n 0, 1) := by decide +kernel
theorem dX10_isAhead_63 : decode cX10_isAhead 63 = .ok (.getfield 60, 3) := by decide +kernel
theorem dX10_isAhead_66 : decode cX10_isAhead 66 = .ok (.iload 7, 2) := by decide +kernel
theorem dX10_isAhead_68 : decode cX10_isAhead 68 = .ok (.laload, 1) := by decide +kernel
theorem dX10_isAhead_69 : decode cX10_isAhead 69 = .ok (.aload_n 0, 1) := by decide +kernel
theorem dX10_isAhead_70 : decode cX10_isAhead 70 = .ok (.getfield 64, 3) := by decide +kernel
theorem dX10_isAhead_73 : decode cX10_isAhead 73 = .ok (.iload 7, 2) := by decide +kernel
theorem dX10_isAhead_75 : decode cX10_isAhead 75 = .ok (.laload, 1) := by decide +kernel
theorem dX10_isAhead_76 : decode cX10_isAhead 76 = .ok (.invokestatic 182, 3) := by decide +kernel
theorem dX10_isAhead_79 : decode cX10_isAhead 79 = .ok (.ifCond .ge 7, 3) := by decide +kernel
theorem dX10_isAhead_82 : decode cX10_isAhead 82 = .ok (.iconst 1, 1) := by decide +kernel
theorem dX10_isAhead_83 : decode cX10_isAhead 83 = .ok (.goto 4, 3) := by decide +kernel
theorem dX10_isAhead_86 : decode cX10_isAhead 86 = .ok (.iconst 0, 1) := by decide +kernel
theorem dX10_isAhead_87 : decode cX10_isAhead 87 = .ok (.istore 4, 2) := by decide +kernel
theorem dX10_isAhead_89 : decode cX10_isAhead 89 = .ok (.iinc 7 1, 3) := by decide +kernel
theorem dX10_isAhead_92 : decode cX10_isAhead 92 = .ok (.goto (-68), 3) := by decide +kernel
theorem dX10_isAhead_95 : decode cX10_isAhead 95 = .ok (.iload 4, 2) := by decide +kernel
theorem dX10_isAhead_97 : decode cX10_isAhead 97 = .ok (.ireturn, 1) := by decide +kernel
theorem dX10_findScore_0 : decode cX10_findScore 0 = .ok (.aload_n 0, 1) := by decide +kernel
theorem dX10_findScore_1 : decode cX10_findScore 1 = .ok (.iconst 0, 1) := by decide +kernel
theorem dX10_findScore_2 : decode cX10_findScore 2 = .ok (.putfield 297, 3) := by decide +kernel
theorem dX10_findScore_5 : decode cX10_findScore 5 = .ok (.iconst 0, 1) := by decide +kernel
theorem dX10_findScore_6 : decode cX10_findScore 6 = .ok (.istore_n 2, 1) := by decide +kernel
theorem dX10_findScore_7 : decode cX10_findScore 7 = .ok (.iconst 0, 1) := by decide +kernel
theorem dX10_findScore_8 : decode cX10_findScore 8 = .ok (.istore_n 3, 1) := by decide +kernel
theorem dX10_findScore_9 : decode cX10_findScore 9 = .ok (.iconst 0, 1) := by decide +kernel
theorem dX10_findScore_10 : decode cX10_findScore 10 = .ok (.istore 4, 2) := by decide +kernel
theorem dX10_findScore_12 : decode cX10_findScore 12 = .ok (.iload 4, 2) := by decide +kernel
theorem dX10_findScore_14 : decode cX10_findScore 14 = .ok (.aload_n 0, 1) := by decide +kernel
theorem dX10_findScore_15 : decode cX10_findScore 15 = .ok (.getfield 114, 3) := by decide +kernel
theorem dX10_findScore_18 : decode cX10_findScore 18 = .ok (.if_icmp .ge 59, 3) := by decide +kernel
theorem dX10_findScore_21 : decode cX10_findScore 21 = .ok (.aload_n 0, 1) := by decide +kernel
theorem dX10_findScore_22 : decode cX10_findScore 22 = .ok (.dup, 1) := by decide +kernel
theorem dX10_findScore_23 : decode cX10_findScore 23 = .ok (.getfield 297, 3) := by decide +kernel
theorem dX10_findScore_26 : decode cX10_findScore 26 = .ok (.aload_n 0, 1) := by decide +kernel
theorem dX10_findScore_27 : decode cX10_findScore 27 = .ok (.iload_n 1, 1) := by decide +kernel
theorem dX10_findScore_28 : decode cX10_findScore 28 = .ok (.iload 4, 2) := by decide +kernel
theorem dX10_findScore_30 : decode cX10_findScore 30 = .ok (.invokevirtual 300, 3) := by decide +kernel
theorem dX10_findScore_33 : decode cX10_findScore 33 = .ok (.invokestatic 155, 3) := by decide +kernel
theorem dX10_findScore_36 : decode cX10_findScore 36 = .ok (.iload 4, 2) := by decide +kernel
theorem dX10_findScore_38 : decode cX10_findScore 38 = .ok (.ishl, 1) := by decide +kernel
theorem dX10_findScore_39 : decode cX10_findScore 39 = .ok (.ior, 1) := by decide +kernel
theorem dX10_findScore_40 : decode cX10_findScore 40 = .ok (.putfield 297, 3) := by decide +kernel
theorem dX10_findScore_43 : decode cX10_findScore 43 = .ok (.iload_n 2, 1) := by decide +kernel
theorem dX10_findScore_44 : decode cX10_findScore 44 = .ok (.aload_n 0, 1) := by decide +kernel
theorem dX10_findScore_45 : decode cX10_findScore 45 = .ok (.iload 4, 2) := by decide +kernel
theorem dX10_findScore_47 : decode cX10_findScore 47 = .ok (.invokevirtual 159, 3) := by decide +kernel
theorem dX10_findScore_50 : decode cX10_findScore 50 = .ok (.invokestatic 155, 3) := by decide +kernel
theorem dX10_findScore_53 : decode cX10_findScore 53 = .ok (.iload 4, 2) := by decide +kernel
theorem dX10_findScore_55 : decode cX10_findScore 55 = .ok (.ishl, 1) := by decide +kernel
theorem dX10_findScore_56 : decode cX10_findScore 56 = .ok (.ior, 1) := by decide +kernel
theorem dX10_findScore_57 : decode cX10_findScore 57 = .ok (.istore_n 2, 1) := by decide +kernel
theorem dX10_findScore_58 : decode cX10_findScore 58 = .ok (.iload_n 3, 1) := by decide +kernel
theorem dX10_findScore_59 : decode cX10_findScore 59 = .ok (.aload_n 0, 1) := by decide +kernel
theorem dX10_findScore_60 : decode cX10_findScore 60 = .ok (.getfield 7, 3) := by decide +kernel
theorem dX10_findScore_63 : decode cX10_findScore 63 = .ok (.iload 4, 2) := by decide +kernel
theorem dX10_findScore_65 : decode cX10_findScore 65 = .ok (.iaload, 1) := by decide +kernel
theorem dX10_findScore_66 : decode cX10_findScore 66 = .ok (.iload 4, 2) := by decide +kernel
theorem dX10_findScore_68 : decode cX10_findScore 68 = .ok (.ishl, 1) := by decide +kernel
theorem dX10_findScore_69 : decode cX10_findScore 69 = .ok (.ior, 1) := by decide +kernel
theorem dX10_findScore_70 : decode cX10_findScore 70 = .ok (.istore_n 3, 1) := by decide +kernel
theorem dX10_findScore_71 : decode cX10_findScore 71 = .ok (.iinc 4 1, 3) := by decide +kernel
theorem dX10_findScore_74 : decode cX10_findScore 74 = .ok (.goto (-62), 3) := by decide +kernel
theorem dX10_findScore_77 : decode cX10_findScore 77 = .ok (.aload_n 0, 1) := by decide +kernel
theorem dX10_findScore_78 : decode cX10_findScore 78 = .ok (.iload_n 1, 1) := by decide +kernel
theorem dX10_findScore_79 : decode cX10_findScore 79 = .ok (.aload_n 0, 1) := by decide +kernel
theorem dX10_findScore_80 : decode cX10_findScore 80 = .ok (.getfield 297, 3) := by decide +kernel
theorem dX10_findScore_83 : decode cX10_findScore 83 = .ok (.iload_n 2, 1) := by decide +kernel
theorem dX10_findScore_84 : decode cX10_findScore 84 = .ok (.iand, 1) := by decide +kernel
theorem dX10_findScore_85 : decode cX10_findScore 85 = .ok (.iload_n 3, 1) := by decide +kernel
theorem dX10_findScore_86 : decode cX10_findScore 86 = .ok (.iconst (-1), 1) := by decide +kernel
theorem dX10_findScore_87 : decode cX10_findScore 87 = .ok (.ixor, 1) := by decide +kernel
theorem dX10_findScore_88 : decode cX10_findScore 88 = .ok (.iand, 1) := by decide +kernel
theorem dX10_findScore_89 : decode cX10_findScore 89 = .ok (.aload_n 0, 1) := by decide +kernel
theorem dX10_findScore_90 : decode cX10_findScore 90 = .ok (.getfield 297, 3) := by decide +kernel
theorem dX10_findScore_93 : decode cX10_findScore 93 = .ok (.iload_n 2, 1) := by decide +kernel
theorem dX10_findScore_94 : decode cX10_findScore 94 = .ok (.iand, 1) := by decide +kernel
theorem dX10_findScore_95 : decode cX10_findScore 95 = .ok (.iload_n 3, 1) := by decide +kernel
theorem dX10_findScore_96 : decode cX10_findScore 96 = .ok (.iand, 1) := by decide +kernel
theorem dX10_findScore_97 : decode cX10_findScore 97 = .ok (.invokevirtual 303, 3) := by decide +kernel
theorem dX10_findScore_100 : decode cX10_findScore 100 = .ok (.aload_n 0, 1) := by decide +kernel
theorem dX10_findScore_101 : decode cX10_findScore 101 = .ok (.iconst 0, 1) := by decide +kernel
theorem dX10_findScore_102 : decode cX10_findScore 102 = .ok (.putfield 307, 3) := by decide +kernel
theorem dX10_findScore_105 : decode cX10_findScore 105 = .ok (.iconst 0, 1) := by decide +kernel
theorem dX10_findScore_106 : decode cX10_findScore 106 = .ok (.istore 4, 2) := by decide +kernel
theorem dX10_findScore_108 : decode cX10_findScore 108 = .ok (.iload 4, 2) := by decide +kernel
theorem dX10_findScore_110 : decode cX10_findScore 110 = .ok (.iconst 2, 1) := by decide +kernel
theorem dX10_findScore_111 : decode cX10_findScore 111 = .ok (.if_icmp .ge 201, 3) := by decide +kernel
theorem dX10_findScore_114 : decode cX10_findScore 114 = .ok (.aload_n 0, 1) := by decide +kernel
