theorem dX10_findScore_115 : decode cX10_findScore 115 = .ok (.getfield 297, 3) := by decide +kernel
theorem dX10_findScore_118 : decode cX10_findScore 118 = .ok (.iload_n 2, 1) := by decide +kernel
theorem dX10_findScore_119 : decode cX10_findScore 119 = .ok (.iconst (-1), 1) := by decide +kernel
theorem dX10_findScore_120 : decode cX10_findScore 120 = .ok (.ixor, 1) := by decide +kernel
theorem dX10_findScore_121 : decode cX10_findScore 121 = .ok (.iand, 1) := by decide +kernel
theorem dX10_findScore_122 : decode cX10_findScore 122 = .ok (.iload 4, 2) := by decide +kernel
theorem dX10_findScore_124 : decode cX10_findScore 124 = .ok (.ifCond .ne 9, 3) := by decide +kernel
theorem dX10_findScore_127 : decode cX10_findScore 127 = .ok (.iload_n 3, 1) := by decide +kernel
theorem dX10_findScore_128 : decode cX10_findScore 128 = .ok (.iconst (-1), 1) := by decide +kernel
theorem dX10_findScore_129 : decode cX10_findScore 129 = .ok (.ixor, 1) := by decide +kernel
theorem dX10_findScore_130 : decode cX10_findScore 130 = .ok (.goto 4, 3) := by decide +kernel
theorem dX10_findScore_133 : decode cX10_findScore 133 = .ok (.iload_n 3, 1) := by decide +kernel
theorem dX10_findScore_134 : decode cX10_findScore 134 = .ok (.iand, 1) := by decide +kernel
theorem dX10_findScore_135 : decode cX10_findScore 135 = .ok (.istore 5, 2) := by decide +kernel
theorem dX10_findScore_137 : decode cX10_findScore 137 = .ok (.aload_n 0, 1) := by decide +kernel
theorem dX10_findScore_138 : decode cX10_findScore 138 = .ok (.getfield 297, 3) := by decide +kernel
theorem dX10_findScore_141 : decode cX10_findScore 141 = .ok (.iload_n 2, 1) := by decide +kernel
theorem dX10_findScore_142 : decode cX10_findScore 142 = .ok (.iconst (-1), 1) := by decide +kernel
theorem dX10_findScore_143 : decode cX10_findScore 143 = .ok (.ixor, 1) := by decide +kernel
theorem dX10_findScore_144 : decode cX10_findScore 144 = .ok (.iand, 1) := by decide +kernel
theorem dX10_findScore_145 : decode cX10_findScore 145 = .ok (.iload 5, 2) := by decide +kernel
theorem dX10_findScore_147 : decode cX10_findScore 147 = .ok (.iconst (-1), 1) := by decide +kernel
theorem dX10_findScore_148 : decode cX10_findScore 148 = .ok (.ixor, 1) := by decide +kernel
theorem dX10_findScore_149 : decode cX10_findScore 149 = .ok (.iand, 1) := by decide +kernel
theorem dX10_findScore_150 : decode cX10_findScore 150 = .ok (.istore 6, 2) := by decide +kernel
theorem dX10_findScore_152 : decode cX10_findScore 152 = .ok (.iconst 0, 1) := by decide +kernel
theorem dX10_findScore_153 : decode cX10_findScore 153 = .ok (.istore 7, 2) := by decide +kernel
theorem dX10_findScore_155 : decode cX10_findScore 155 = .ok (.iconst 0, 1) := by decide +kernel
theorem dX10_findScore_156 : decode cX10_findScore 156 = .ok (.istore 8, 2) := by decide +kernel
theorem dX10_findScore_158 : decode cX10_findScore 158 = .ok (.iload 8, 2) := by decide +kernel
theorem dX10_findScore_160 : decode cX10_findScore 160 = .ok (.aload_n 0, 1) := by decide +kernel
theorem dX10_findScore_161 : decode cX10_findScore 161 = .ok (.getfield 114, 3) := by decide +kernel
theorem dX10_findScore_164 : decode cX10_findScore 164 = .ok (.if_icmp .ge 48, 3) := by decide +kernel
theorem dX10_findScore_167 : decode cX10_findScore 167 = .ok (.iload 7, 2) := by decide +kernel
theorem dX10_findScore_169 : decode cX10_findScore 169 = .ok (.iload 5, 2) := by decide +kernel
theorem dX10_findScore_171 : decode cX10_findScore 171 = .ok (.iload 8, 2) := by decide +kernel
theorem dX10_findScore_173 : decode cX10_findScore 173 = .ok (.ishr, 1) := by decide +kernel
theorem dX10_findScore_174 : decode cX10_findScore 174 = .ok (.iconst 1, 1) := by decide +kernel
theorem dX10_findScore_175 : decode cX10_findScore 175 = .ok (.iand, 1) := by decide +kernel
theorem dX10_findScore_176 : decode cX10_findScore 176 = .ok (.iconst 1, 1) := by decide +kernel
theorem dX10_findScore_177 : decode cX10_findScore 177 = .ok (.if_icmp .ne 19, 3) := by decide +kernel
theorem dX10_findScore_180 : decode cX10_findScore 180 = .ok (.aload_n 0, 1) := by decide +kernel
theorem dX10_findScore_181 : decode cX10_findScore 181 = .ok (.iload_n 1, 1) := by decide +kernel
theorem dX10_findScore_182 : decode cX10_findScore 182 = .ok (.iload 8, 2) := by decide +kernel
theorem dX10_findScore_184 : decode cX10_findScore 184 = .ok (.iload 6, 2) := by decide +kernel
theorem dX10_findScore_186 : decode cX10_findScore 186 = .ok (.invokevirtual 310, 3) := by decide +kernel
theorem dX10_findScore_189 : decode cX10_findScore 189 = .ok (.ifCond .eq 7, 3) := by decide +kernel
theorem dX10_findScore_192 : decode cX10_findScore 192 = .ok (.iconst 1, 1) := by decide +kernel
theorem dX10_findScore_193 : decode cX10_findScore 193 = .ok (.goto 4, 3) := by decide +kernel
theorem dX10_findScore_196 : decode cX10_findScore 196 = .ok (.iconst 0, 1) := by decide +kernel
theorem dX10_findScore_197 : decode cX10_findScore 197 = .ok (.invokestatic 155, 3) := by decide +kernel
theorem dX10_findScore_200 : decode cX10_findScore 200 = .ok (.iload 8, 2) := by decide +kernel
theorem dX10_findScore_202 : decode cX10_findScore 202 = .ok (.ishl, 1) := by decide +kernel
theorem dX10_findScore_203 : decode cX10_findScore 203 = .ok (.ior, 1) := by decide +kernel
theorem dX10_findScore_204 : decode cX10_findScore 204 = .ok (.istore 7, 2) := by decide +kernel
theorem dX10_findScore_206 : decode cX10_findScore 206 = .ok (.iinc 8 1, 3) := by decide +kernel
theorem dX10_findScore_209 : decode cX10_findScore 209 = .ok (.goto (-51), 3) := by decide +kernel
theorem dX10_findScore_212 : decode cX10_findScore 212 = .ok (.iload 7, 2) := by decide +kernel
theorem dX10_findScore_214 : decode cX10_findScore 214 = .ok (.aload_n 0, 1) := by decide +kernel
theorem dX10_findScore_215 : decode cX10_findScore 215 = .ok (.getfield 51, 3) := by decide +kernel
theorem dX10_findScore_218 : decode cX10_findScore 218 = .ok (.bipush 8, 2) := by decide +kernel
theorem dX10_findScore_220 : decode cX10_findScore 220 = .ok (.iload_n 1, 1) := by decide +kernel
theorem dX10_findScore_221 : decode cX10_findScore 221 = .ok (.imul, 1) := by decide +kernel
theorem dX10_findScore_222 : decode cX10_findScore 222 = .ok (.iconst 2, 1) := by decide +kernel
theorem dX10_findScore_223 : decode cX10_findScore 223 = .ok (.iadd, 1) := by decide +kernel
theorem dX10_findScore_224 : decode cX10_findScore 224 = .ok (.iaload, 1) := by decide +kernel
theorem dX10_findScore_225 : decode cX10_findScore 225 = .ok (.invokestatic 314, 3) := by decide +kernel
theorem dX10_findScore_228 : decode cX10_findScore 228 = .ok (.istore 8, 2) := by decide +kernel
theorem dX10_findScore_230 : decode cX10_findScore 230 = .ok (.aload_n 0, 1) := by decide +kernel
theorem dX10_findScore_231 : decode cX10_findScore 231 = .ok (.dup, 1) := by decide +kernel
theorem dX10_findScore_232 : decode cX10_findScore 232 = .ok (.getfield 307, 3) := by decide +kernel
theorem dX10_findScore_235 : decode cX10_findScore 235 = .ok (.iload 8, 2) := by decide +kernel
theorem dX10_findScore_237 : decode cX10_findScore 237 = .ok (.ior, 1) := by decide +kernel
theorem dX10_findScore_238 : decode cX10_findScore 238 = .ok (.putfield 307, 3) := by decide +kernel
theorem dX10_findScore_241 : decode cX10_findScore 241 = .ok (.aload_n 0, 1) := by decide +kernel
theorem dX10_findScore_242 : decode cX10_findScore 242 = .ok (.getfield 285, 3) := by decide +kernel
theorem dX10_findScore_245 : decode cX10_findScore 245 = .ok (.iload 4, 2) := by decide +kernel
theorem dX10_findScore_247 : decode cX10_findScore 247 = .ok (.ifCond .ne 9, 3) := by decide +kernel
theorem dX10_findScore_250 : decode cX10_findScore 250 = .ok (.iload_n 3, 1) := by decide +kernel
theorem dX10_findScore_251 : decode cX10_findScore 251 = .ok (.iconst (-1), 1) := by decide +kernel
theorem dX10_findScore_252 : decode cX10_findScore 252 = .ok (.ixor, 1) := by decide +kernel
theorem dX10_findScore_253 : decode cX10_findScore 253 = .ok (.goto 4, 3) := by decide +kernel
theorem dX10_findScore_256 : decode cX10_findScore 256 = .ok (.iload_n 3, 1) := by decide +kernel
theorem dX10_findScore_257 : decode cX10_findScore 257 = .ok (.iand, 1) := by decide +kernel
theorem dX10_findScore_258 : decode cX10_findScore 258 = .ok (.istore 9, 2) := by decide +kernel
theorem dX10_findScore_260 : decode cX10_findScore 260 = .ok (.aload_n 0, 1) := by decide +kernel
theorem dX10_findScore_261 : decode cX10_findScore 261 = .ok (.getfield 57, 3) := by decide +kernel
theorem dX10_findScore_264 : decode cX10_findScore 264 = .ok (.iload 4, 2) := by decide +kernel
theorem dX10_findScore_266 : decode cX10_findScore 266 = .ok (.aload_n 0, 1) := by decide +kernel
theorem dX10_findScore_267 : decode cX10_findScore 267 = .ok (.getfield 51, 3) := by decide +kernel
theorem dX10_findScore_270 : decode cX10_findScore 270 = .ok (.bipush 8, 2) := by decide +kernel
theorem dX10_findScore_272 : decode cX10_findScore 272 = .ok (.iload_n 1, 1) := by decide +kernel
theorem dX10_findScore_273 : decode cX10_findScore 273 = .ok (.imul, 1) := by decide +kernel
theorem dX10_findScore_274 : decode cX10_findScore 274 = .ok (.iconst 1, 1) := by decide +kernel
theorem dX10_findScore_275 : decode cX10_findScore 275 = .ok (.iadd, 1) := by decide +kernel
theorem dX10_findScore_276 : decode cX10_findScore 276 = .ok (.iaload, 1) := by decide +kernel
theorem dX10_findScore_277 : decode cX10_findScore 277 = .ok (.iload 8, 2) := by decide +kernel
theorem dX10_findScore_279 : decode cX10_findScore 279 = .ok (.invokestatic 292, 3) := by decide +kernel
theorem dX10_findScore_282 : decode cX10_findScore 282 = .ok (.imul, 1) := by decide +kernel
theorem dX10_findScore_283 : decode cX10_findScore 283 = .ok (.aload_n 0, 1) := by decide +kernel
theorem dX10_findScore_284 : decode cX10_findScore 284 = .ok (.getfield 51, 3) := by decide +kernel
theorem dX10_findScore_287 : decode cX10_findScore 287 = .ok (.bipush 8, 2) := by decide +kernel
theorem dX10_findScore_289 : decode cX10_findScore 289 = .ok (.iload_n 1, 1) := by decide +kernel
theorem dX10_findScore_290 : decode cX10_findScore 290 = .ok (.imul, 1) := by decide +kernel
theorem dX10_findScore_291 : decode cX10_findScore 291 = .ok (.iconst 0, 1) := by decide +kernel
theorem dX10_findScore_292 : decode cX10_findScore 292 = .ok (.iadd, 1) := by decide +kernel
theorem dX10_findScore_293 : decode cX10_findScore 293 = .ok (.iaload, 1) := by decide +kernel
theorem dX10_findScore_294 : decode cX10_findScore 294 = .ok (.iload 9, 2) := by decide +kernel
theorem dX10_findScore_296 : decode cX10_findScore 296 = .ok (.sipush 4095, 3) := by decide +kernel
theorem dX10_findScore_299 : decode cX10_findScore 299 = .ok (.iand, 1) := by decide +kernel
theorem dX10_findScore_300 : decode cX10_findScore 300 = .ok (.invokestatic 292, 3) := by decide +kernel
theorem dX10_findScore_303 : decode cX10_findScore 303 = .ok (.imul, 1) := by decide +kernel
theorem dX10_findScore_304 : decode cX10_findScore 304 = .ok (.iadd, 1) := by decide +kernel
theorem dX10_findScore_305 : decode cX10_findScore 305 = .ok (.iastore, 1) := by decide +kernel
theorem dX10_findScore_306 : decode cX10_findScore 306 = .ok (.iinc 4 1, 3) := by decide +kernel
theorem dX10_findScore_309 : decode cX10_findScore 309 = .ok (.goto (-201), 3) := by decide +kernel
theorem dX10_findScore_312 : decode cX10_findScore 312 = .ok (.return_, 1) := by decide +kernel
theorem dX10_layNearness_0 : decode cX10_layNearness 0 = .ok (.aload_n 0, 1) := by decide +kernel
theorem dX10_layNearness_1 : decode cX10_layNearness 1 = .ok (.getfield 60, 3) := by decide +kernel
theorem dX10_layNearness_4 : decode cX10_layNearness 4 = .ok (.iload_n 1, 1) := by decide +kernel
theorem dX10_layNearness_5 : decode cX10_layNearness 5 = .ok (.ldc2_w 317, 3) := by decide +kernel
theorem dX10_layNearness_8 : decode cX10_layNearness 8 = .ok (.aload_n 0, 1) := by decide +kernel
theorem dX10_layNearness_9 : decode cX10_layNearness 9 = .ok (.iload_n 1, 1) := by decide +kernel
theorem dX10_layNearness_10 : decode cX10_layNearness 10 = .ok (.invokevirtual 175, 3) := by decide +kernel
theorem dX10_layNearness_13 : decode cX10_layNearness 13 = .ok (.lmul, 1) := by decide +kernel
theorem dX10_layNearness_14 : decode cX10_layNearness 14 = .ok (.lastore, 1) := by decide +kernel
theorem dX10_layNearness_15 : decode cX10_layNearness 15 = .ok (.aload_n 0, 1) := by decide +kernel
theorem dX10_layNearness_16 : decode cX10_layNearness 16 = .ok (.getfield 64, 3) := by decide +kernel
theorem dX10_layNearness_19 : decode cX10_layNearness 19 = .ok (.iload_n 1, 1) := by decide +kernel
theorem dX10_layNearness_20 : decode cX10_layNearness 20 = .ok (.ldc2_w 295, 3) := by decide +kernel
theorem dX10_layNearness_23 : decode cX10_layNearness 23 = .ok (.aload_n 0, 1) := by decide +kernel
theorem dX10_layNearness_24 : decode cX10_layNearness 24 = .ok (.iload_n 1, 1) := by decide +kernel
theorem dX10_layNearness_25 : decode cX10_layNearness 25 = .ok (.invokevirtual 179, 3) := by decide +kernel
theorem dX10_layNearness_28 : decode cX10_layNearness 28 = .ok (.lmul, 1) := by decide +kernel
theorem dX10_layNearness_29 : decode cX10_layNearness 29 = .ok (.lastore, 1) := by decide +kernel
theorem dX10_layNearness_30 : decode cX10_layNearness 30 = .ok (.return_, 1) := by decide +kernel
theorem dX10_score_0 : decode cX10_score 0 = .ok (.iload_n 1, 1) := by decide +kernel
theorem dX10_score_1 : decode cX10_score 1 = .ok (.invokestatic 277, 3) := by decide +kernel
theorem dX10_score_4 : decode cX10_score 4 = .ok (.ifCond .ne 7, 3) := by decide +kernel
theorem dX10_score_7 : decode cX10_score 7 = .ok (.sipush (-1001), 3) := by decide +kernel
theorem dX10_score_10 : decode cX10_score 10 = .ok (.ireturn, 1) := by decide +kernel
theorem dX10_score_11 : decode cX10_score 11 = .ok (.iconst 0, 1) := by decide +kernel
theorem dX10_score_12 : decode cX10_score 12 = .ok (.istore_n 3, 1) := by decide +kernel
theorem dX10_score_13 : decode cX10_score 13 = .ok (.iload_n 3, 1) := by decide +kernel
theorem dX10_score_14 : decode cX10_score 14 = .ok (.aload_n 0, 1) := by decide +kernel
theorem dX10_score_15 : decode cX10_score 15 = .ok (.getfield 114, 3) := by decide +kernel
theorem dX10_score_18 : decode cX10_score 18 = .ok (.if_icmp .ge 14, 3) := by decide +kernel
theorem dX10_score_21 : decode cX10_score 21 = .ok (.aload_n 0, 1) := by decide +kernel
theorem dX10_score_22 : decode cX10_score 22 = .ok (.iload_n 3, 1) := by decide +kernel
theorem dX10_score_23 : decode cX10_score 23 = .ok (.invokevirtual 319, 3) := by decide +kernel
theorem dX10_score_26 : decode cX10_score 26 = .ok (.iinc 3 1, 3) := by decide +kernel
theorem dX10_score_29 : decode cX10_score 29 = .ok (.goto (-16), 3) := by decide +kernel
theorem dX10_score_32 : decode cX10_score 32 = .ok (.aload_n 0, 1) := by decide +kernel
theorem dX10_score_33 : decode cX10_score 33 = .ok (.iload_n 1, 1) := by decide +kernel
theorem dX10_score_34 : decode cX10_score 34 = .ok (.invokevirtual 322, 3) := by decide +kernel
theorem dX10_score_37 : decode cX10_score 37 = .ok (.iload_n 2, 1) := by decide +kernel
theorem dX10_score_38 : decode cX10_score 38 = .ok (.tableswitch 81 0 5 #[38, 52, 59, 66, 71, 76], 38) := by decide +kernel
theorem dX10_score_76 : decode cX10_score 76 = .ok (.aload_n 0, 1) := by decide +kernel
theorem dX10_score_77 : decode cX10_score 77 = .ok (.getfield 57, 3) := by decide +kernel
theorem dX10_score_80 : decode cX10_score 80 = .ok (.iconst 0, 1) := by decide +kernel
theorem dX10_score_81 : decode cX10_score 81 = .ok (.iaload, 1) := by decide +kernel
theorem dX10_score_82 : decode cX10_score 82 = .ok (.aload_n 0, 1) := by decide +kernel
theorem dX10_score_83 : decode cX10_score 83 = .ok (.getfield 57, 3) := by decide +kernel
theorem dX10_score_86 : decode cX10_score 86 = .ok (.iconst 1, 1) := by decide +kernel
theorem dX10_score_87 : decode cX10_score 87 = .ok (.iaload, 1) := by decide +kernel
theorem dX10_score_88 : decode cX10_score 88 = .ok (.isub, 1) := by decide +kernel
theorem dX10_score_89 : decode cX10_score 89 = .ok (.ireturn, 1) := by decide +kernel
theorem dX10_score_90 : decode cX10_score 90 = .ok (.aload_n 0, 1) := by decide +kernel
theorem dX10_score_91 : decode cX10_score 91 = .ok (.getfield 57, 3) := by decide +kernel
theorem dX10_score_94 : decode cX10_score 94 = .ok (.iconst 0, 1) := by decide +kernel
theorem dX10_score_95 : decode cX10_score 95 = .ok (.iaload, 1) := by decide +kernel
theorem dX10_score_96 : decode cX10_score 96 = .ok (.ireturn, 1) := by decide +kernel
theorem dX10_score_97 : decode cX10_score 97 = .ok (.aload_n 0, 1) := by decide +kernel
theorem dX10_score_98 : decode cX10_score 98 = .ok (.getfield 57, 3) := by decide +kernel
theorem dX10_score_101 : decode cX10_score 101 = .ok (.iconst 1, 1) := by decide +kernel
theorem dX10_score_102 : decode cX10_score 102 = .ok (.iaload, 1) := by decide +kernel
theorem dX10_score_103 : decode cX10_score 103 = .ok (.ireturn, 1) := by decide +kernel
theorem dX10_score_104 : decode cX10_score 104 = .ok (.aload_n 0, 1) := by decide +kernel
theorem dX10_score_105 : decode cX10_score 105 = .ok (.getfield 297, 3) := by decide +kernel
theorem dX10_score_108 : decode cX10_score 108 = .ok (.ireturn, 1) := by decide +kernel
theorem dX10_score_109 : decode cX10_score 109 = .ok (.aload_n 0, 1) := by decide +kernel
theorem dX10_score_110 : decode cX10_score 110 = .ok (.getfield 285, 3) := by decide +kernel
theorem dX10_score_113 : decode cX10_score 113 = .ok (.ireturn, 1) := by decide +kernel
theorem dX10_score_114 : decode cX10_score 114 = .ok (.aload_n 0, 1) := by decide +kernel
theorem dX10_score_115 : decode cX10_score 115 = .ok (.getfield 307, 3) := by decide +kernel
theorem dX10_score_118 : decode cX10_score 118 = .ok (.ireturn, 1) := by decide +kernel
theorem dX10_score_119 : decode cX10_score 119 = .ok (.sipush (-1002), 3) := by decide +kernel
theorem dX10_score_122 : decode cX10_score 122 = .ok (.ireturn, 1) := by decide +kernel
theorem dX10_hasSpan_0 : decode cX10_hasSpan 0 = .ok (.aload_n 0, 1) := by decide +kernel
theorem dX10_hasSpan_1 : decode cX10_hasSpan 1 = .ok (.getfield 35, 3) := by decide +kernel
theorem dX10_hasSpan_4 : decode cX10_hasSpan 4 = .ok (.iconst 3, 1) := by decide +kernel
theorem dX10_hasSpan_5 : decode cX10_hasSpan 5 = .ok (.iload_n 1, 1) := by decide +kernel
theorem dX10_hasSpan_6 : decode cX10_hasSpan 6 = .ok (.imul, 1) := by decide +kernel
theorem dX10_hasSpan_7 : decode cX10_hasSpan 7 = .ok (.baload, 1) := by decide +kernel
theorem dX10_hasSpan_8 : decode cX10_hasSpan 8 = .ok (.ifCond .ne 29, 3) := by decide +kernel
theorem dX10_hasSpan_11 : decode cX10_hasSpan 11 = .ok (.aload_n 0, 1) := by decide +kernel
theorem dX10_hasSpan_12 : decode cX10_hasSpan 12 = .ok (.getfield 35, 3) := by decide +kernel
theorem dX10_hasSpan_15 : decode cX10_hasSpan 15 = .ok (.iconst 3, 1) := by decide +kernel
theorem dX10_hasSpan_16 : decode cX10_hasSpan 16 = .ok (.iload_n 1, 1) := by decide +kernel
theorem dX10_hasSpan_17 : decode cX10_hasSpan 17 = .ok (.imul, 1) := by decide +kernel
theorem dX10_hasSpan_18 : decode cX10_hasSpan 18 = .ok (.iconst 1, 1) := by decide +kernel
theorem dX10_hasSpan_19 : decode cX10_hasSpan 19 = .ok (.iadd, 1) := by decide +kernel
theorem dX10_hasSpan_20 : decode cX10_hasSpan 20 = .ok (.baload, 1) := by decide +kernel
theorem dX10_hasSpan_21 : decode cX10_hasSpan 21 = .ok (.ifCond .ne 16, 3) := by decide +kernel
theorem dX10_hasSpan_24 : decode cX10_hasSpan 24 = .ok (.aload_n 0, 1) := by decide +kernel
theorem dX10_hasSpan_25 : decode cX10_hasSpan 25 = .ok (.getfield 35, 3) := by decide +kernel
theorem dX10_hasSpan_28 : decode cX10_hasSpan 28 = .ok (.iconst 3, 1) := by decide +kernel
theorem dX10_hasSpan_29 : decode cX10_hasSpan 29 = .ok (.iload_n 1, 1) := by decide +kernel
theorem dX10_hasSpan_30 : decode cX10_hasSpan 30 = .ok (.imul, 1) := by decide +kernel
theorem dX10_hasSpan_31 : decode cX10_hasSpan 31 = .ok (.iconst 2, 1) := by decide +kernel
theorem dX10_hasSpan_32 : decode cX10_hasSpan 32 = .ok (.iadd, 1) := by decide +kernel
theorem dX10_hasSpan_33 : decode cX10_hasSpan 33 = .ok (.baload, 1) := by decide +kernel
theorem dX10_hasSpan_34 : decode cX10_hasSpan 34 = .ok (.ifCond .eq 7, 3) := by decide +kernel
theorem dX10_hasSpan_37 : decode cX10_hasSpan 37 = .ok (.iconst 1, 1) := by decide +kernel
theorem dX10_hasSpan_38 : decode cX10_hasSpan 38 = .ok (.goto 4, 3) := by decide +kernel
theorem dX10_hasSpan_41 : decode cX10_hasSpan 41 = .ok (.iconst 0, 1) := by decide +kernel
theorem dX10_hasSpan_42 : decode cX10_hasSpan 42 = .ok (.ireturn, 1) := by decide +kernel
theorem dX10_spanOf_0 : decode cX10_spanOf 0 = .ok (.iload_n 2, 1) := by decide +kernel
theorem dX10_spanOf_1 : decode cX10_spanOf 1 = .ok (.ifCond .eq 9, 3) := by decide +kernel
theorem dX10_spanOf_4 : decode cX10_spanOf 4 = .ok (.sipush 9999, 3) := by decide +kernel
theorem dX10_spanOf_7 : decode cX10_spanOf 7 = .ok (.goto 4, 3) := by decide +kernel
theorem dX10_spanOf_10 : decode cX10_spanOf 10 = .ok (.iconst 0, 1) := by decide +kernel
theorem dX10_spanOf_11 : decode cX10_spanOf 11 = .ok (.istore_n 3, 1) := by decide +kernel
theorem dX10_spanOf_12 : decode cX10_spanOf 12 = .ok (.iconst 0, 1) := by decide +kernel
theorem dX10_spanOf_13 : decode cX10_spanOf 13 = .ok (.istore 4, 2) := by decide +kernel
theorem dX10_spanOf_15 : decode cX10_spanOf 15 = .ok (.iload 4, 2) := by decide +kernel
theorem dX10_spanOf_17 : decode cX10_spanOf 17 = .ok (.iconst 3, 1) := by decide +kernel
theorem dX10_spanOf_18 : decode cX10_spanOf 18 = .ok (.if_icmp .ge 79, 3) := by decide +kernel
theorem dX10_spanOf_21 : decode cX10_spanOf 21 = .ok (.iconst 3, 1) := by decide +kernel
theorem dX10_spanOf_22 : decode cX10_spanOf 22 = .ok (.iload_n 1, 1) := by decide +kernel
theorem dX10_spanOf_23 : decode cX10_spanOf 23 = .ok (.imul, 1) := by decide +kernel
theorem dX10_spanOf_24 : decode cX10_spanOf 24 = .ok (.iload 4, 2) := by decide +kernel
theorem dX10_spanOf_26 : decode cX10_spanOf 26 = .ok (.iadd, 1) := by decide +kernel
theorem dX10_spanOf_27 : decode cX10_spanOf 27 = .ok (.istore 5, 2) := by decide +kernel
theorem dX10_spanOf_29 : decode cX10_spanOf 29 = .ok (.aload_n 0, 1) := by decide +kernel
theorem dX10_spanOf_30 : decode cX10_spanOf 30 = .ok (.getfield 35, 3) := by decide +kernel
theorem dX10_spanOf_33 : decode cX10_spanOf 33 = .ok (.iload 5, 2) := by decide +kernel
theorem dX10_spanOf_35 : decode cX10_spanOf 35 = .ok (.baload, 1) := by decide +kernel
theorem dX10_spanOf_36 : decode cX10_spanOf 36 = .ok (.ifCond .eq 55, 3) := by decide +kernel
theorem dX10_spanOf_39 : decode cX10_spanOf 39 = .ok (.iload_n 2, 1) := by decide +kernel
theorem dX10_spanOf_40 : decode cX10_spanOf 40 = .ok (.ifCond .eq 28, 3) := by decide +kernel
theorem dX10_spanOf_43 : decode cX10_spanOf 43 = .ok (.aload_n 0, 1) := by decide +kernel
theorem dX10_spanOf_44 : decode cX10_spanOf 44 = .ok (.getfield 41, 3) := by decide +kernel
theorem dX10_spanOf_47 : decode cX10_spanOf 47 = .ok (.iload 5, 2) := by decide +kernel
theorem dX10_spanOf_49 : decode cX10_spanOf 49 = .ok (.iaload, 1) := by decide +kernel
theorem dX10_spanOf_50 : decode cX10_spanOf 50 = .ok (.iload_n 3, 1) := by decide +kernel
theorem dX10_spanOf_51 : decode cX10_spanOf 51 = .ok (.if_icmp .ge 13, 3) := by decide +kernel
theorem dX10_spanOf_54 : decode cX10_spanOf 54 = .ok (.aload_n 0, 1) := by decide +kernel
theorem dX10_spanOf_55 : decode cX10_spanOf 55 = .ok (.getfield 41, 3) := by decide +kernel
theorem dX10_spanOf_58 : decode cX10_spanOf 58 = .ok (.iload 5, 2) := by decide +kernel
theorem dX10_spanOf_60 : decode cX10_spanOf 60 = .ok (.iaload, 1) := by decide +kernel
theorem dX10_spanOf_61 : decode cX10_spanOf 61 = .ok (.goto 29, 3) := by decide +kernel
theorem dX10_spanOf_64 : decode cX10_spanOf 64 = .ok (.iload_n 3, 1) := by decide +kernel
theorem dX10_spanOf_65 : decode cX10_spanOf 65 = .ok (.goto 25, 3) := by decide +kernel
theorem dX10_spanOf_68 : decode cX10_spanOf 68 = .ok (.aload_n 0, 1) := by decide +kernel
theorem dX10_spanOf_69 : decode cX10_spanOf 69 = .ok (.getfield 38, 3) := by decide +kernel
theorem dX10_spanOf_72 : decode cX10_spanOf 72 = .ok (.iload 5, 2) := by decide +kernel
theorem dX10_spanOf_74 : decode cX10_spanOf 74 = .ok (.iaload, 1) := by decide +kernel
theorem dX10_spanOf_75 : decode cX10_spanOf 75 = .ok (.iload_n 3, 1) := by decide +kernel
theorem dX10_spanOf_76 : decode cX10_spanOf 76 = .ok (.if_icmp .le 13, 3) := by decide +kernel
theorem dX10_spanOf_79 : decode cX10_spanOf 79 = .ok (.aload_n 0, 1) := by decide +kernel
theorem dX10_spanOf_80 : decode cX10_spanOf 80 = .ok (.getfield 38, 3) := by decide +kernel
theorem dX10_spanOf_83 : decode cX10_spanOf 83 = .ok (.iload 5, 2) := by decide +kernel
theorem dX10_spanOf_85 : decode cX10_spanOf 85 = .ok (.iaload, 1) := by decide +kernel
theorem dX10_spanOf_86 : decode cX10_spanOf 86 = .ok (.goto 4, 3) := by decide +kernel
theorem dX10_spanOf_89 : decode cX10_spanOf 89 = .ok (.iload_n 3, 1) := by decide +kernel
theorem dX10_spanOf_90 : decode cX10_spanOf 90 = .ok (.istore_n 3, 1) := by decide +kernel
theorem dX10_spanOf_91 : decode cX10_spanOf 91 = .ok (.iinc 4 1, 3) := by decide +kernel
theorem dX10_spanOf_94 : decode cX10_spanOf 94 = .ok (.goto (-79), 3) := by decide +kernel
theorem dX10_spanOf_97 : decode cX10_spanOf 97 = .ok (.iload_n 3, 1) := by decide +kernel
theorem dX10_spanOf_98 : decode cX10_spanOf 98 = .ok (.ireturn, 1) := by decide +kernel
theorem dX10_isDisputed_0 : decode cX10_isDisputed 0 = .ok (.aload_n 0, 1) := by decide +kernel
theorem dX10_isDisputed_1 : decode cX10_isDisputed 1 = .ok (.iload_n 1, 1) := by decide +kernel
theorem dX10_isDisputed_2 : decode cX10_isDisputed 2 = .ok (.invokevirtual 186, 3) := by decide +kernel
theorem dX10_isDisputed_5 : decode cX10_isDisputed 5 = .ok (.ifCond .eq 22, 3) := by decide +kernel
theorem dX10_isDisputed_8 : decode cX10_isDisputed 8 = .ok (.aload_n 0, 1) := by decide +kernel
theorem dX10_isDisputed_9 : decode cX10_isDisputed 9 = .ok (.iload_n 1, 1) := by decide +kernel
theorem dX10_isDisputed_10 : decode cX10_isDisputed 10 = .ok (.iconst 0, 1) := by decide +kernel
theorem dX10_isDisputed_11 : decode cX10_isDisputed 11 = .ok (.invokevirtual 325, 3) := by decide +kernel
theorem dX10_isDisputed_14 : decode cX10_isDisputed 14 = .ok (.aload_n 0, 1) := by decide +kernel
theorem dX10_isDisputed_15 : decode cX10_isDisputed 15 = .ok (.iload_n 1, 1) := by decide +kernel
theorem dX10_isDisputed_16 : decode cX10_isDisputed 16 = .ok (.iconst 1, 1) := by decide +kernel
theorem dX10_isDisputed_17 : decode cX10_isDisputed 17 = .ok (.invokevirtual 325, 3) := by decide +kernel
theorem dX10_isDisputed_20 : decode cX10_isDisputed 20 = .ok (.if_icmp .le 7, 3) := by decide +kernel
theorem dX10_isDisputed_23 : decode cX10_isDisputed 23 = .ok (.iconst 1, 1) := by decide +kernel
theorem dX10_isDisputed_24 : decode cX10_isDisputed 24 = .ok (.goto 4, 3) := by decide +kernel
theorem dX10_isDisputed_27 : decode cX10_isDisputed 27 = .ok (.iconst 0, 1) := by decide +kernel
theorem dX10_isDisputed_28 : decode cX10_isDisputed 28 = .ok (.ireturn, 1) := by decide +kernel
theorem dX10_measure_0 : decode cX10_measure 0 = .ok (.aload_n 0, 1) := by decide +kernel
theorem dX10_measure_1 : decode cX10_measure 1 = .ok (.iload_n 1, 1) := by decide +kernel
theorem dX10_measure_2 : decode cX10_measure 2 = .ok (.invokevirtual 139, 3) := by decide +kernel
theorem dX10_measure_5 : decode cX10_measure 5 = .ok (.ifCond .eq 7, 3) := by decide +kernel
theorem dX10_measure_8 : decode cX10_measure 8 = .ok (.sipush (-1001), 3) := by decide +kernel
theorem dX10_measure_11 : decode cX10_measure 11 = .ok (.ireturn, 1) := by decide +kernel
theorem dX10_measure_12 : decode cX10_measure 12 = .ok (.iload_n 2, 1) := by decide +kernel
theorem dX10_measure_13 : decode cX10_measure 13 = .ok (.i2l, 1) := by decide +kernel
theorem dX10_measure_14 : decode cX10_measure 14 = .ok (.lconst 0, 1) := by decide +kernel
theorem dX10_measure_15 : decode cX10_measure 15 = .ok (.ldc2_w 129, 3) := by decide +kernel
theorem dX10_measure_18 : decode cX10_measure 18 = .ok (.invokestatic 117, 3) := by decide +kernel
theorem dX10_measure_21 : decode cX10_measure 21 = .ok (.ifCond .eq 29, 3) := by decide +kernel
theorem dX10_measure_24 : decode cX10_measure 24 = .ok (.iload_n 3, 1) := by decide +kernel
theorem dX10_measure_25 : decode cX10_measure 25 = .ok (.i2l, 1) := by decide +kernel
theorem dX10_measure_26 : decode cX10_measure 26 = .ok (.lconst 0, 1) := by decide +kernel
theorem dX10_measure_27 : decode cX10_measure 27 = .ok (.ldc2_w 173, 3) := by decide +kernel
theorem dX10_measure_30 : decode cX10_measure 30 = .ok (.invokestatic 117, 3) := by decide +kernel
theorem dX10_measure_33 : decode cX10_measure 33 = .ok (.ifCond .eq 17, 3) := by decide +kernel
theorem dX10_measure_36 : decode cX10_measure 36 = .ok (.iload 4, 2) := by decide +kernel
theorem dX10_measure_38 : decode cX10_measure 38 = .ok (.i2l, 1) := by decide +kernel
theorem dX10_measure_39 : decode cX10_measure 39 = .ok (.iload_n 3, 1) := by decide +kernel
theorem dX10_measure_40 : decode cX10_measure 40 = .ok (.i2l, 1) := by decide +kernel
theorem dX10_measure_41 : decode cX10_measure 41 = .ok (.ldc2_w 173, 3) := by decide +kernel
theorem dX10_measure_44 : decode cX10_measure 44 = .ok (.invokestatic 117, 3) := by decide +kernel
theorem dX10_measure_47 : decode cX10_measure 47 = .ok (.ifCond .ne 7, 3) := by decide +kernel
theorem dX10_measure_50 : decode cX10_measure 50 = .ok (.sipush (-1002), 3) := by decide +kernel
theorem dX10_measure_53 : decode cX10_measure 53 = .ok (.ireturn, 1) := by decide +kernel
theorem dX10_measure_54 : decode cX10_measure 54 = .ok (.aload_n 0, 1) := by decide +kernel
theorem dX10_measure_55 : decode cX10_measure 55 = .ok (.iload_n 1, 1) := by decide +kernel
theorem dX10_measure_56 : decode cX10_measure 56 = .ok (.invokevirtual 159, 3) := by decide +kernel
theorem dX10_measure_59 : decode cX10_measure 59 = .ok (.ifCond .ne 12, 3) := by decide +kernel
theorem dX10_measure_62 : decode cX10_measure 62 = .ok (.aload_n 0, 1) := by decide +kernel
theorem dX10_measure_63 : decode cX10_measure 63 = .ok (.getfield 32, 3) := by decide +kernel
theorem dX10_measure_66 : decode cX10_measure 66 = .ok (.iload_n 1, 1) := by decide +kernel
theorem dX10_measure_67 : decode cX10_measure 67 = .ok (.baload, 1) := by decide +kernel
theorem dX10_measure_68 : decode cX10_measure 68 = .ok (.ifCond .eq 7, 3) := by decide +kernel
theorem dX10_measure_71 : decode cX10_measure 71 = .ok (.sipush (-1003), 3) := by decide +kernel
theorem dX10_measure_74 : decode cX10_measure 74 = .ok (.ireturn, 1) := by decide +kernel
theorem dX10_measure_75 : decode cX10_measure 75 = .ok (.aload_n 0, 1) := by decide +kernel
theorem dX10_measure_76 : decode cX10_measure 76 = .ok (.getfield 35, 3) := by decide +kernel
theorem dX10_measure_79 : decode cX10_measure 79 = .ok (.iconst 3, 1) := by decide +kernel
theorem dX10_measure_80 : decode cX10_measure 80 = .ok (.iload_n 1, 1) := by decide +kernel
theorem dX10_measure_81 : decode cX10_measure 81 = .ok (.imul, 1) := by decide +kernel
theorem dX10_measure_82 : decode cX10_measure 82 = .ok (.iload_n 2, 1) := by decide +kernel
theorem dX10_measure_83 : decode cX10_measure 83 = .ok (.iadd, 1) := by decide +kernel
theorem dX10_measure_84 : decode cX10_measure 84 = .ok (.iconst 1, 1) := by decide +kernel
theorem dX10_measure_85 : decode cX10_measure 85 = .ok (.bastore, 1) := by decide +kernel
theorem dX10_measure_86 : decode cX10_measure 86 = .ok (.aload_n 0, 1) := by decide +kernel
theorem dX10_measure_87 : decode cX10_measure 87 = .ok (.getfield 38, 3) := by decide +kernel
theorem dX10_measure_90 : decode cX10_measure 90 = .ok (.iconst 3, 1) := by decide +kernel
theorem dX10_measure_91 : decode cX10_measure 91 = .ok (.iload_n 1, 1) := by decide +kernel
theorem dX10_measure_92 : decode cX10_measure 92 = .ok (.imul, 1) := by decide +kernel
theorem dX10_measure_93 : decode cX10_measure 93 = .ok (.iload_n 2, 1) := by decide +kernel
theorem dX10_measure_94 : decode cX10_measure 94 = .ok (.iadd, 1) := by decide +kernel
theorem dX10_measure_95 : decode cX10_measure 95 = .ok (.iload_n 3, 1) := by decide +kernel
theorem dX10_measure_96 : decode cX10_measure 96 = .ok (.iastore, 1) := by decide +kernel
theorem dX10_measure_97 : decode cX10_measure 97 = .ok (.aload_n 0, 1) := by decide +kernel
theorem dX10_measure_98 : decode cX10_measure 98 = .ok (.getfield 41, 3) := by decide +kernel
theorem dX10_measure_101 : decode cX10_measure 101 = .ok (.iconst 3, 1) := by decide +kernel
theorem dX10_measure_102 : decode cX10_measure 102 = .ok (.iload_n 1, 1) := by decide +kernel
theorem dX10_measure_103 : decode cX10_measure 103 = .ok (.imul, 1) := by decide +kernel
theorem dX10_measure_104 : decode cX10_measure 104 = .ok (.iload_n 2, 1) := by decide +kernel
theorem dX10_measure_105 : decode cX10_measure 105 = .ok (.iadd, 1) := by decide +kernel
theorem dX10_measure_106 : decode cX10_measure 106 = .ok (.iload 4, 2) := by decide +kernel
theorem dX10_measure_108 : decode cX10_measure 108 = .ok (.iastore, 1) := by decide +kernel
theorem dX10_measure_109 : decode cX10_measure 109 = .ok (.aload_n 0, 1) := by decide +kernel
theorem dX10_measure_110 : decode cX10_measure 110 = .ok (.getfield 35, 3) := by decide +kernel
theorem dX10_measure_113 : decode cX10_measure 113 = .ok (.iconst 3, 1) := by decide +kernel
theorem dX10_measure_114 : decode cX10_measure 114 = .ok (.iload_n 1, 1) := by decide +kernel
theorem dX10_measure_115 : decode cX10_measure 115 = .ok (.imul, 1) := by decide +kernel
theorem dX10_measure_116 : decode cX10_measure 116 = .ok (.baload, 1) := by decide +kernel
theorem dX10_measure_117 : decode cX10_measure 117 = .ok (.invokestatic 155, 3) := by decide +kernel
theorem dX10_measure_120 : decode cX10_measure 120 = .ok (.aload_n 0, 1) := by decide +kernel
theorem dX10_measure_121 : decode cX10_measure 121 = .ok (.getfield 35, 3) := by decide +kernel
theorem dX10_measure_124 : decode cX10_measure 124 = .ok (.iconst 3, 1) := by decide +kernel
theorem dX10_measure_125 : decode cX10_measure 125 = .ok (.iload_n 1, 1) := by decide +kernel
theorem dX10_measure_126 : decode cX10_measure 126 = .ok (.imul, 1) := by decide +kernel
theorem dX10_measure_127 : decode cX10_measure 127 = .ok (.iconst 1, 1) := by decide +kernel
theorem dX10_measure_128 : decode cX10_measure 128 = .ok (.iadd, 1) := by decide +kernel
theorem dX10_measure_129 : decode cX10_measure 129 = .ok (.baload, 1) := by decide +kernel
theorem dX10_measure_130 : decode cX10_measure 130 = .ok (.invokestatic 155, 3) := by decide +kernel
theorem dX10_measure_133 : decode cX10_measure 133 = .ok (.iadd, 1) := by decide +kernel
theorem dX10_measure_134 : decode cX10_measure 134 = .ok (.aload_n 0, 1) := by decide +kernel
theorem dX10_measure_135 : decode cX10_measure 135 = .ok (.getfield 35, 3) := by decide +kernel
theorem dX10_measure_138 : decode cX10_measure 138 = .ok (.iconst 3, 1) := by decide +kernel
theorem dX10_measure_139 : decode cX10_measure 139 = .ok (.iload_n 1, 1) := by decide +kernel
theorem dX10_measure_140 : decode cX10_measure 140 = .ok (.imul, 1) := by decide +kernel
theorem dX10_measure_141 : decode cX10_measure 141 = .ok (.iconst 2, 1) := by decide +kernel
theorem dX10_measure_142 : decode cX10_measure 142 = .ok (.iadd, 1) := by decide +kernel
theorem dX10_measure_143 : decode cX10_measure 143 = .ok (.baload, 1) := by decide +kernel
theorem dX10_measure_144 : decode cX10_measure 144 = .ok (.invokestatic 155, 3) := by decide +kernel
theorem dX10_measure_147 : decode cX10_measure 147 = .ok (.iadd, 1) := by decide +kernel
theorem dX10_measure_148 : decode cX10_measure 148 = .ok (.ireturn, 1) := by decide +kernel
theorem dX10_known_0 : decode cX10_known 0 = .ok (.aload_n 0, 1) := by decide +kernel
theorem dX10_known_1 : decode cX10_known 1 = .ok (.iload_n 1, 1) := by decide +kernel
theorem dX10_known_2 : decode cX10_known 2 = .ok (.invokevirtual 139, 3) := by decide +kernel
theorem dX10_known_5 : decode cX10_known 5 = .ok (.ifCond .eq 7, 3) := by decide +kernel
theorem dX10_known_8 : decode cX10_known 8 = .ok (.sipush (-1001), 3) := by decide +kernel
theorem dX10_known_11 : decode cX10_known 11 = .ok (.ireturn, 1) := by decide +kernel
theorem dX10_known_12 : decode cX10_known 12 = .ok (.iload_n 2, 1) := by decide +kernel
theorem dX10_known_13 : decode cX10_known 13 = .ok (.i2l, 1) := by decide +kernel
theorem dX10_known_14 : decode cX10_known 14 = .ok (.lconst 0, 1) := by decide +kernel
theorem dX10_known_15 : decode cX10_known 15 = .ok (.lconst 1, 1) := by decide +kernel
theorem dX10_known_16 : decode cX10_known 16 = .ok (.invokestatic 117, 3) := by decide +kernel
theorem dX10_known_19 : decode cX10_known 19 = .ok (.ifCond .ne 7, 3) := by decide +kernel
theorem dX10_known_22 : decode cX10_known 22 = .ok (.sipush (-1002), 3) := by decide +kernel
theorem dX10_known_25 : decode cX10_known 25 = .ok (.ireturn, 1) := by decide +kernel
theorem dX10_known_26 : decode cX10_known 26 = .ok (.aload_n 0, 1) := by decide +kernel
theorem dX10_known_27 : decode cX10_known 27 = .ok (.iload_n 1, 1) := by decide +kernel
theorem dX10_known_28 : decode cX10_known 28 = .ok (.invokevirtual 186, 3) := by decide +kernel
theorem dX10_known_31 : decode cX10_known 31 = .ok (.ifCond .eq 11, 3) := by decide +kernel
theorem dX10_known_34 : decode cX10_known 34 = .ok (.aload_n 0, 1) := by decide +kernel
theorem dX10_known_35 : decode cX10_known 35 = .ok (.iload_n 1, 1) := by decide +kernel
theorem dX10_known_36 : decode cX10_known 36 = .ok (.invokevirtual 189, 3) := by decide +kernel
theorem dX10_known_39 : decode cX10_known 39 = .ok (.ifCond .eq 7, 3) := by decide +kernel
theorem dX10_known_42 : decode cX10_known 42 = .ok (.iconst (-1), 1) := by decide +kernel
theorem dX10_known_43 : decode cX10_known 43 = .ok (.goto 18, 3) := by decide +kernel
theorem dX10_known_46 : decode cX10_known 46 = .ok (.aload_n 0, 1) := by decide +kernel
theorem dX10_known_47 : decode cX10_known 47 = .ok (.iload_n 1, 1) := by decide +kernel
theorem dX10_known_48 : decode cX10_known 48 = .ok (.iload_n 2, 1) := by decide +kernel
theorem dX10_known_49 : decode cX10_known 49 = .ok (.iconst 1, 1) := by decide +kernel
theorem dX10_known_50 : decode cX10_known 50 = .ok (.if_icmp .ne 7, 3) := by decide +kernel
theorem dX10_known_53 : decode cX10_known 53 = .ok (.iconst 1, 1) := by decide +kernel
theorem dX10_known_54 : decode cX10_known 54 = .ok (.goto 4, 3) := by decide +kernel
theorem dX10_known_57 : decode cX10_known 57 = .ok (.iconst 0, 1) := by decide +kernel
theorem dX10_known_58 : decode cX10_known 58 = .ok (.invokevirtual 325, 3) := by decide +kernel
theorem dX10_known_61 : decode cX10_known 61 = .ok (.ireturn, 1) := by decide +kernel
theorem dX10_scoreFor_0 : decode cX10_scoreFor 0 = .ok (.iconst 0, 1) := by decide +kernel
theorem dX10_scoreFor_1 : decode cX10_scoreFor 1 = .ok (.istore_n 3, 1) := by decide +kernel
theorem dX10_scoreFor_2 : decode cX10_scoreFor 2 = .ok (.iload_n 3, 1) := by decide +kernel
theorem dX10_scoreFor_3 : decode cX10_scoreFor 3 = .ok (.aload_n 0, 1) := by decide +kernel
theorem dX10_scoreFor_4 : decode cX10_scoreFor 4 = .ok (.getfield 114, 3) := by decide +kernel
theorem dX10_scoreFor_7 : decode cX10_scoreFor 7 = .ok (.if_icmp .ge 56, 3) := by decide +kernel
theorem dX10_scoreFor_10 : decode cX10_scoreFor 10 = .ok (.aload_n 0, 1) := by decide +kernel
theorem dX10_scoreFor_11 : decode cX10_scoreFor 11 = .ok (.iload_n 3, 1) := by decide +kernel
theorem dX10_scoreFor_12 : decode cX10_scoreFor 12 = .ok (.invokevirtual 319, 3) := by decide +kernel
theorem dX10_scoreFor_15 : decode cX10_scoreFor 15 = .ok (.aload_n 0, 1) := by decide +kernel
theorem dX10_scoreFor_16 : decode cX10_scoreFor 16 = .ok (.iload_n 3, 1) := by decide +kernel
theorem dX10_scoreFor_17 : decode cX10_scoreFor 17 = .ok (.invokevirtual 186, 3) := by decide +kernel
theorem dX10_scoreFor_20 : decode cX10_scoreFor 20 = .ok (.ifCond .eq 37, 3) := by decide +kernel
theorem dX10_scoreFor_23 : decode cX10_scoreFor 23 = .ok (.aload_n 0, 1) := by decide +kernel
theorem dX10_scoreFor_24 : decode cX10_scoreFor 24 = .ok (.getfield 60, 3) := by decide +kernel
theorem dX10_scoreFor_27 : decode cX10_scoreFor 27 = .ok (.iload_n 3, 1) := by decide +kernel
theorem dX10_scoreFor_28 : decode cX10_scoreFor 28 = .ok (.lconst 0, 1) := by decide +kernel
theorem dX10_scoreFor_29 : decode cX10_scoreFor 29 = .ok (.lastore, 1) := by decide +kernel
theorem dX10_scoreFor_30 : decode cX10_scoreFor 30 = .ok (.aload_n 0, 1) := by decide +kernel
theorem dX10_scoreFor_31 : decode cX10_scoreFor 31 = .ok (.getfield 64, 3) := by decide +kernel
theorem dX10_scoreFor_34 : decode cX10_scoreFor 34 = .ok (.iload_n 3, 1) := by decide +kernel
theorem dX10_scoreFor_35 : decode cX10_scoreFor 35 = .ok (.aload_n 0, 1) := by decide +kernel
theorem dX10_scoreFor_36 : decode cX10_scoreFor 36 = .ok (.iload_n 3, 1) := by decide +kernel
theorem dX10_scoreFor_37 : decode cX10_scoreFor 37 = .ok (.aload_n 0, 1) := by decide +kernel
theorem dX10_scoreFor_38 : decode cX10_scoreFor 38 = .ok (.getfield 7, 3) := by decide +kernel
theorem dX10_scoreFor_41 : decode cX10_scoreFor 41 = .ok (.iload_n 3, 1) := by decide +kernel
theorem dX10_scoreFor_42 : decode cX10_scoreFor 42 = .ok (.iaload, 1) := by decide +kernel
theorem dX10_scoreFor_43 : decode cX10_scoreFor 43 = .ok (.iload_n 2, 1) := by decide +kernel
theorem dX10_scoreFor_44 : decode cX10_scoreFor 44 = .ok (.if_icmp .eq 7, 3) := by decide +kernel
theorem dX10_scoreFor_47 : decode cX10_scoreFor 47 = .ok (.iconst 1, 1) := by decide +kernel
theorem dX10_scoreFor_48 : decode cX10_scoreFor 48 = .ok (.goto 4, 3) := by decide +kernel
theorem dX10_scoreFor_51 : decode cX10_scoreFor 51 = .ok (.iconst 0, 1) := by decide +kernel
theorem dX10_scoreFor_52 : decode cX10_scoreFor 52 = .ok (.invokevirtual 325, 3) := by decide +kernel
theorem dX10_scoreFor_55 : decode cX10_scoreFor 55 = .ok (.i2l, 1) := by decide +kernel
theorem dX10_scoreFor_56 : decode cX10_scoreFor 56 = .ok (.lastore, 1) := by decide +kernel
theorem dX10_scoreFor_57 : decode cX10_scoreFor 57 = .ok (.iinc 3 1, 3) := by decide +kernel
theorem dX10_scoreFor_60 : decode cX10_scoreFor 60 = .ok (.goto (-58), 3) := by decide +kernel
theorem dX10_scoreFor_63 : decode cX10_scoreFor 63 = .ok (.aload_n 0, 1) := by decide +kernel
theorem dX10_scoreFor_64 : decode cX10_scoreFor 64 = .ok (.iload_n 1, 1) := by decide +kernel
theorem dX10_scoreFor_65 : decode cX10_scoreFor 65 = .ok (.invokevirtual 322, 3) := by decide +kernel
theorem dX10_scoreFor_68 : decode cX10_scoreFor 68 = .ok (.aload_n 0, 1) := by decide +kernel
theorem dX10_scoreFor_69 : decode cX10_scoreFor 69 = .ok (.getfield 57, 3) := by decide +kernel
theorem dX10_scoreFor_72 : decode cX10_scoreFor 72 = .ok (.iconst 0, 1) := by decide +kernel
theorem dX10_scoreFor_73 : decode cX10_scoreFor 73 = .ok (.iaload, 1) := by decide +kernel
theorem dX10_scoreFor_74 : decode cX10_scoreFor 74 = .ok (.aload_n 0, 1) := by decide +kernel
theorem dX10_scoreFor_75 : decode cX10_scoreFor 75 = .ok (.getfield 57, 3) := by decide +kernel
theorem dX10_scoreFor_78 : decode cX10_scoreFor 78 = .ok (.iconst 1, 1) := by decide +kernel
theorem dX10_scoreFor_79 : decode cX10_scoreFor 79 = .ok (.iaload, 1) := by decide +kernel
theorem dX10_scoreFor_80 : decode cX10_scoreFor 80 = .ok (.isub, 1) := by decide +kernel
theorem dX10_scoreFor_81 : decode cX10_scoreFor 81 = .ok (.ireturn, 1) := by decide +kernel
theorem dX10_sure_0 : decode cX10_sure 0 = .ok (.iload_n 1, 1) := by decide +kernel
theorem dX10_sure_1 : decode cX10_sure 1 = .ok (.invokestatic 277, 3) := by decide +kernel
theorem dX10_sure_4 : decode cX10_sure 4 = .ok (.ifCond .ne 7, 3) := by decide +kernel
theorem dX10_sure_7 : decode cX10_sure 7 = .ok (.sipush (-1001), 3) := by decide +kernel
theorem dX10_sure_10 : decode cX10_sure 10 = .ok (.ireturn, 1) := by decide +kernel
theorem dX10_sure_11 : decode cX10_sure 11 = .ok (.iload_n 2, 1) := by decide +kernel
theorem dX10_sure_12 : decode cX10_sure 12 = .ok (.i2l, 1) := by decide +kernel
theorem dX10_sure_13 : decode cX10_sure 13 = .ok (.lconst 0, 1) := by decide +kernel
theorem dX10_sure_14 : decode cX10_sure 14 = .ok (.ldc2_w 129, 3) := by decide +kernel
theorem dX10_sure_17 : decode cX10_sure 17 = .ok (.invokestatic 117, 3) := by decide +kernel
theorem dX10_sure_20 : decode cX10_sure 20 = .ok (.ifCond .ne 7, 3) := by decide +kernel
theorem dX10_sure_23 : decode cX10_sure 23 = .ok (.sipush (-1002), 3) := by decide +kernel
theorem dX10_sure_26 : decode cX10_sure 26 = .ok (.ireturn, 1) := by decide +kernel
theorem dX10_sure_27 : decode cX10_sure 27 = .ok (.iconst 0, 1) := by decide +kernel
theorem dX10_sure_28 : decode cX10_sure 28 = .ok (.istore_n 3, 1) := by decide +kernel
theorem dX10_sure_29 : decode cX10_sure 29 = .ok (.iload_n 3, 1) := by decide +kernel
theorem dX10_sure_30 : decode cX10_sure 30 = .ok (.aload_n 0, 1) := by decide +kernel
theorem dX10_sure_31 : decode cX10_sure 31 = .ok (.getfield 114, 3) := by decide +kernel
theorem dX10_sure_34 : decode cX10_sure 34 = .ok (.if_icmp .ge 38, 3) := by decide +kernel
theorem dX10_sure_37 : decode cX10_sure 37 = .ok (.aload_n 0, 1) := by decide +kernel
theorem dX10_sure_38 : decode cX10_sure 38 = .ok (.iload_n 3, 1) := by decide +kernel
theorem dX10_sure_39 : decode cX10_sure 39 = .ok (.invokevirtual 189, 3) := by decide +kernel
theorem dX10_sure_42 : decode cX10_sure 42 = .ok (.ifCond .eq 24, 3) := by decide +kernel
theorem dX10_sure_45 : decode cX10_sure 45 = .ok (.aload_n 0, 1) := by decide +kernel
theorem dX10_sure_46 : decode cX10_sure 46 = .ok (.iload_n 1, 1) := by decide +kernel
theorem dX10_sure_47 : decode cX10_sure 47 = .ok (.iload_n 3, 1) := by decide +kernel
theorem dX10_sure_48 : decode cX10_sure 48 = .ok (.invokevirtual 300, 3) := by decide +kernel
theorem dX10_sure_51 : decode cX10_sure 51 = .ok (.ifCond .eq 15, 3) := by decide +kernel
theorem dX10_sure_54 : decode cX10_sure 54 = .ok (.aload_n 0, 1) := by decide +kernel
theorem dX10_sure_55 : decode cX10_sure 55 = .ok (.iload_n 3, 1) := by decide +kernel
theorem dX10_sure_56 : decode cX10_sure 56 = .ok (.invokevirtual 159, 3) := by decide +kernel
theorem dX10_sure_59 : decode cX10_sure 59 = .ok (.ifCond .ne 7, 3) := by decide +kernel
theorem dX10_sure_62 : decode cX10_sure 62 = .ok (.sipush (-1003), 3) := by decide +kernel
theorem dX10_sure_65 : decode cX10_sure 65 = .ok (.ireturn, 1) := by decide +kernel
theorem dX10_sure_66 : decode cX10_sure 66 = .ok (.iinc 3 1, 3) := by decide +kernel
theorem dX10_sure_69 : decode cX10_sure 69 = .ok (.goto (-40), 3) := by decide +kernel
theorem dX10_sure_72 : decode cX10_sure 72 = .ok (.aload_n 0, 1) := by decide +kernel
theorem dX10_sure_73 : decode cX10_sure 73 = .ok (.iload_n 1, 1) := by decide +kernel
theorem dX10_sure_74 : decode cX10_sure 74 = .ok (.iconst 1, 1) := by decide +kernel
theorem dX10_sure_75 : decode cX10_sure 75 = .ok (.invokevirtual 329, 3) := by decide +kernel
theorem dX10_sure_78 : decode cX10_sure 78 = .ok (.istore_n 3, 1) := by decide +kernel
theorem dX10_sure_79 : decode cX10_sure 79 = .ok (.aload_n 0, 1) := by decide +kernel
theorem dX10_sure_80 : decode cX10_sure 80 = .ok (.iload_n 1, 1) := by decide +kernel
theorem dX10_sure_81 : decode cX10_sure 81 = .ok (.iconst 0, 1) := by decide +kernel
theorem dX10_sure_82 : decode cX10_sure 82 = .ok (.invokevirtual 329, 3) := by decide +kernel
theorem dX10_sure_85 : decode cX10_sure 85 = .ok (.istore 4, 2) := by decide +kernel
theorem dX10_sure_87 : decode cX10_sure 87 = .ok (.iload_n 2, 1) := by decide +kernel
theorem dX10_sure_88 : decode cX10_sure 88 = .ok (.ifCond .ne 7, 3) := by decide +kernel
theorem dX10_sure_91 : decode cX10_sure 91 = .ok (.iload_n 3, 1) := by decide +kernel
theorem dX10_sure_92 : decode cX10_sure 92 = .ok (.goto 27, 3) := by decide +kernel
theorem dX10_sure_95 : decode cX10_sure 95 = .ok (.iload_n 2, 1) := by decide +kernel
theorem dX10_sure_96 : decode cX10_sure 96 = .ok (.iconst 1, 1) := by decide +kernel
theorem dX10_sure_97 : decode cX10_sure 97 = .ok (.if_icmp .ne 8, 3) := by decide +kernel
theorem dX10_sure_100 : decode cX10_sure 100 = .ok (.iload 4, 2) := by decide +kernel
theorem dX10_sure_102 : decode cX10_sure 102 = .ok (.goto 17, 3) := by decide +kernel
theorem dX10_sure_105 : decode cX10_sure 105 = .ok (.iload_n 3, 1) := by decide +kernel
theorem dX10_sure_106 : decode cX10_sure 106 = .ok (.iload 4, 2) := by decide +kernel
theorem dX10_sure_108 : decode cX10_sure 108 = .ok (.if_icmp .ne 7, 3) := by decide +kernel
theorem dX10_sure_111 : decode cX10_sure 111 = .ok (.iconst 1, 1) := by decide +kernel
theorem dX10_sure_112 : decode cX10_sure 112 = .ok (.goto 4, 3) := by decide +kernel
theorem dX10_sure_115 : decode cX10_sure 115 = .ok (.iconst 0, 1) := by decide +kernel
theorem dX10_sure_116 : decode cX10_sure 116 = .ok (.invokestatic 155, 3) := by decide +kernel
theorem dX10_sure_119 : decode cX10_sure 119 = .ok (.ireturn, 1) := by decide +kernel
theorem dX10_layAct_0 : decode cX10_layAct 0 = .ok (.bipush 15, 2) := by decide +kernel
theorem dX10_layAct_2 : decode cX10_layAct 2 = .ok (.iload_n 1, 1) := by decide +kernel
theorem dX10_layAct_3 : decode cX10_layAct 3 = .ok (.imul, 1) := by decide +kernel
theorem dX10_layAct_4 : decode cX10_layAct 4 = .ok (.iconst 5, 1) := by decide +kernel
theorem dX10_layAct_5 : decode cX10_layAct 5 = .ok (.iload_n 2, 1) := by decide +kernel
theorem dX10_layAct_6 : decode cX10_layAct 6 = .ok (.imul, 1) := by decide +kernel
theorem dX10_layAct_7 : decode cX10_layAct 7 = .ok (.iadd, 1) := by decide +kernel
theorem dX10_layAct_8 : decode cX10_layAct 8 = .ok (.istore 8, 2) := by decide +kernel
theorem dX10_layAct_10 : decode cX10_layAct 10 = .ok (.aload_n 0, 1) := by decide +kernel
theorem dX10_layAct_11 : decode cX10_layAct 11 = .ok (.getfield 67, 3) := by decide +kernel
theorem dX10_layAct_14 : decode cX10_layAct 14 = .ok (.iload 8, 2) := by decide +kernel
theorem dX10_layAct_16 : decode cX10_layAct 16 = .ok (.iload_n 3, 1) := by decide +kernel
theorem dX10_layAct_17 : decode cX10_layAct 17 = .ok (.iastore, 1) := by decide +kernel
theorem dX10_layAct_18 : decode cX10_layAct 18 = .ok (.aload_n 0, 1) := by decide +kernel
theorem dX10_layAct_19 : decode cX10_layAct 19 = .ok (.getfield 67, 3) := by decide +kernel
theorem dX10_layAct_22 : decode cX10_layAct 22 = .ok (.iload 8, 2) := by decide +kernel
theorem dX10_layAct_24 : decode cX10_layAct 24 = .ok (.iconst 1, 1) := by decide +kernel
theorem dX10_layAct_25 : decode cX10_layAct 25 = .ok (.iadd, 1) := by decide +kernel
theorem dX10_layAct_26 : decode cX10_layAct 26 = .ok (.iload 4, 2) := by decide +kernel
theorem dX10_layAct_28 : decode cX10_layAct 28 = .ok (.iastore, 1) := by decide +kernel
theorem dX10_layAct_29 : decode cX10_layAct 29 = .ok (.aload_n 0, 1) := by decide +kernel
theorem dX10_layAct_30 : decode cX10_layAct 30 = .ok (.getfield 67, 3) := by decide +kernel
theorem dX10_layAct_33 : decode cX10_layAct 33 = .ok (.iload 8, 2) := by decide +kernel
theorem dX10_layAct_35 : decode cX10_layAct 35 = .ok (.iconst 2, 1) := by decide +kernel
theorem dX10_layAct_36 : decode cX10_layAct 36 = .ok (.iadd, 1) := by decide +kernel
theorem dX10_layAct_37 : decode cX10_layAct 37 = .ok (.iload 5, 2) := by decide +kernel
theorem dX10_layAct_39 : decode cX10_layAct 39 = .ok (.iastore, 1) := by decide +kernel
theorem dX10_layAct_40 : decode cX10_layAct 40 = .ok (.aload_n 0, 1) := by decide +kernel
theorem dX10_layAct_41 : decode cX10_layAct 41 = .ok (.getfield 67, 3) := by decide +kernel
theorem dX10_layAct_44 : decode cX10_layAct 44 = .ok (.iload 8, 2) := by decide +kernel
theorem dX10_layAct_46 : decode cX10_layAct 46 = .ok (.iconst 3, 1) := by decide +kernel
theorem dX10_layAct_47 : decode cX10_layAct 47 = .ok (.iadd, 1) := by decide +kernel
theorem dX10_layAct_48 : decode cX10_layAct 48 = .ok (.iload 6, 2) := by decide +kernel
theorem dX10_layAct_50 : decode cX10_layAct 50 = .ok (.iastore, 1) := by decide +kernel
theorem dX10_layAct_51 : decode cX10_layAct 51 = .ok (.aload_n 0, 1) := by decide +kernel
theorem dX10_layAct_52 : decode cX10_layAct 52 = .ok (.getfield 67, 3) := by decide +kernel
theorem dX10_layAct_55 : decode cX10_layAct 55 = .ok (.iload 8, 2) := by decide +kernel
theorem dX10_layAct_57 : decode cX10_layAct 57 = .ok (.iconst 4, 1) := by decide +kernel
theorem dX10_layAct_58 : decode cX10_layAct 58 = .ok (.iadd, 1) := by decide +kernel
theorem dX10_layAct_59 : decode cX10_layAct 59 = .ok (.iload 7, 2) := by decide +kernel
theorem dX10_layAct_61 : decode cX10_layAct 61 = .ok (.iastore, 1) := by decide +kernel
theorem dX10_layAct_62 : decode cX10_layAct 62 = .ok (.return_, 1) := by decide +kernel
theorem dX10_isWeight_0 : decode cX10_isWeight 0 = .ok (.iload_n 0, 1) := by decide +kernel
theorem dX10_isWeight_1 : decode cX10_isWeight 1 = .ok (.i2l, 1) := by decide +kernel
theorem dX10_isWeight_2 : decode cX10_isWeight 2 = .ok (.lconst 0, 1) := by decide +kernel
theorem dX10_isWeight_3 : decode cX10_isWeight 3 = .ok (.ldc2_w 131, 3) := by decide +kernel
theorem dX10_isWeight_6 : decode cX10_isWeight 6 = .ok (.invokestatic 117, 3) := by decide +kernel
theorem dX10_isWeight_9 : decode cX10_isWeight 9 = .ok (.ireturn, 1) := by decide +kernel
theorem dX10_act_0 : decode cX10_act 0 = .ok (.iload_n 3, 1) := by decide +kernel
theorem dX10_act_1 : decode cX10_act 1 = .ok (.invokestatic 332, 3) := by decide +kernel
theorem dX10_act_4 : decode cX10_act 4 = .ok (.ifCond .eq 39, 3) := by decide +kernel
theorem dX10_act_7 : decode cX10_act 7 = .ok (.iload 4, 2) := by decide +kernel
theorem dX10_act_9 : decode cX10_act 9 = .ok (.invokestatic 332, 3) := by decide +kernel
theorem dX10_act_12 : decode cX10_act 12 = .ok (.ifCond .eq 31, 3) := by decide +kernel
theorem dX10_act_15 : decode cX10_act 15 = .ok (.iload 5, 2) := by decide +kernel
theorem dX10_act_17 : decode cX10_act 17 = .ok (.invokestatic 332, 3) := by decide +kernel
theorem dX10_act_20 : decode cX10_act 20 = .ok (.ifCond .eq 23, 3) := by decide +kernel
theorem dX10_act_23 : decode cX10_act 23 = .ok (.iload 6, 2) := by decide +kernel
theorem dX10_act_25 : decode cX10_act 25 = .ok (.invokestatic 332, 3) := by decide +kernel
theorem dX10_act_28 : decode cX10_act 28 = .ok (.ifCond .eq 15, 3) := by decide +kernel
theorem dX10_act_31 : decode cX10_act 31 = .ok (.iload 7, 2) := by decide +kernel
theorem dX10_act_33 : decode cX10_act 33 = .ok (.invokestatic 332, 3) := by decide +kernel
theorem dX10_act_36 : decode cX10_act 36 = .ok (.ifCond .eq 7, 3) := by decide +kernel
theorem dX10_act_39 : decode cX10_act 39 = .ok (.iconst 1, 1) := by decide +kernel
theorem dX10_act_40 : decode cX10_act 40 = .ok (.goto 4, 3) := by decide +kernel
theorem dX10_act_43 : decode cX10_act 43 = .ok (.iconst 0, 1) := by decide +kernel
theorem dX10_act_44 : decode cX10_act 44 = .ok (.istore 8, 2) := by decide +kernel
theorem dX10_act_46 : decode cX10_act 46 = .ok (.iload_n 1, 1) := by decide +kernel
theorem dX10_act_47 : decode cX10_act 47 = .ok (.i2l, 1) := by decide +kernel
theorem dX10_act_48 : decode cX10_act 48 = .ok (.lconst 0, 1) := by decide +kernel
theorem dX10_act_49 : decode cX10_act 49 = .ok (.lconst 1, 1) := by decide +kernel
theorem dX10_act_50 : decode cX10_act 50 = .ok (.invokestatic 117, 3) := by decide +kernel
theorem dX10_act_53 : decode cX10_act 53 = .ok (.ifCond .eq 38, 3) := by decide +kernel
theorem dX10_act_56 : decode cX10_act 56 = .ok (.iload_n 2, 1) := by decide +kernel
theorem dX10_act_57 : decode cX10_act 57 = .ok (.i2l, 1) := by decide +kernel
theorem dX10_act_58 : decode cX10_act 58 = .ok (.lconst 0, 1) := by decide +kernel
theorem dX10_act_59 : decode cX10_act 59 = .ok (.ldc2_w 129, 3) := by decide +kernel
theorem dX10_act_62 : decode cX10_act 62 = .ok (.invokestatic 117, 3) := by decide +kernel
theorem dX10_act_65 : decode cX10_act 65 = .ok (.ifCond .eq 26, 3) := by decide +kernel
theorem dX10_act_68 : decode cX10_act 68 = .ok (.iload 8, 2) := by decide +kernel
theorem dX10_act_70 : decode cX10_act 70 = .ok (.ifCond .eq 21, 3) := by decide +kernel
theorem dX10_act_73 : decode cX10_act 73 = .ok (.iload_n 3, 1) := by decide +kernel
theorem dX10_act_74 : decode cX10_act 74 = .ok (.iload 4, 2) := by decide +kernel
theorem dX10_act_76 : decode cX10_act 76 = .ok (.iadd, 1) := by decide +kernel
theorem dX10_act_77 : decode cX10_act 77 = .ok (.iload 5, 2) := by decide +kernel
theorem dX10_act_79 : decode cX10_act 79 = .ok (.iadd, 1) := by decide +kernel
theorem dX10_act_80 : decode cX10_act 80 = .ok (.iload 6, 2) := by decide +kernel
theorem dX10_act_82 : decode cX10_act 82 = .ok (.iadd, 1) := by decide +kernel
theorem dX10_act_83 : decode cX10_act 83 = .ok (.iload 7, 2) := by decide +kernel
theorem dX10_act_85 : decode cX10_act 85 = .ok (.iadd, 1) := by decide +kernel
theorem dX10_act_86 : decode cX10_act 86 = .ok (.bipush 60, 2) := by decide +kernel
theorem dX10_act_88 : decode cX10_act 88 = .ok (.if_icmp .eq 7, 3) := by decide +kernel
theorem dX10_act_91 : decode cX10_act 91 = .ok (.sipush (-1002), 3) := by decide +kernel
theorem dX10_act_94 : decode cX10_act 94 = .ok (.ireturn, 1) := by decide +kernel
theorem dX10_act_95 : decode cX10_act 95 = .ok (.aload_n 0, 1) := by decide +kernel
theorem dX10_act_96 : decode cX10_act 96 = .ok (.iload_n 1, 1) := by decide +kernel
theorem dX10_act_97 : decode cX10_act 97 = .ok (.iload_n 2, 1) := by decide +kernel
theorem dX10_act_98 : decode cX10_act 98 = .ok (.iload_n 3, 1) := by decide +kernel
theorem dX10_act_99 : decode cX10_act 99 = .ok (.iload 4, 2) := by decide +kernel
theorem dX10_act_101 : decode cX10_act 101 = .ok (.iload 5, 2) := by decide +kernel
theorem dX10_act_103 : decode cX10_act 103 = .ok (.iload 6, 2) := by decide +kernel
theorem dX10_act_105 : decode cX10_act 105 = .ok (.iload 7, 2) := by decide +kernel
theorem dX10_act_107 : decode cX10_act 107 = .ok (.invokevirtual 107, 3) := by decide +kernel
theorem dX10_act_110 : decode cX10_act 110 = .ok (.iconst 1, 1) := by decide +kernel
theorem dX10_act_111 : decode cX10_act 111 = .ok (.ireturn, 1) := by decide +kernel
theorem dX10_worth_0 : decode cX10_worth 0 = .ok (.lconst 0, 1) := by decide +kernel
theorem dX10_worth_1 : decode cX10_worth 1 = .ok (.lstore 4, 2) := by decide +kernel
theorem dX10_worth_3 : decode cX10_worth 3 = .ok (.iconst 0, 1) := by decide +kernel
theorem dX10_worth_4 : decode cX10_worth 4 = .ok (.istore 6, 2) := by decide +kernel
theorem dX10_worth_6 : decode cX10_worth 6 = .ok (.iload 6, 2) := by decide +kernel
theorem dX10_worth_8 : decode cX10_worth 8 = .ok (.iconst 5, 1) := by decide +kernel
theorem dX10_worth_9 : decode cX10_worth 9 = .ok (.if_icmp .ge 89, 3) := by decide +kernel
theorem dX10_worth_12 : decode cX10_worth 12 = .ok (.iload_n 3, 1) := by decide +kernel
theorem dX10_worth_13 : decode cX10_worth 13 = .ok (.iload_n 1, 1) := by decide +kernel
theorem dX10_worth_14 : decode cX10_worth 14 = .ok (.ifCond .ne 10, 3) := by decide +kernel
theorem dX10_worth_17 : decode cX10_worth 17 = .ok (.iload 6, 2) := by decide +kernel
theorem dX10_worth_19 : decode cX10_worth 19 = .ok (.iconst 2, 1) := by decide +kernel
theorem dX10_worth_20 : decode cX10_worth 20 = .ok (.isub, 1) := by decide +kernel
theorem dX10_worth_21 : decode cX10_worth 21 = .ok (.goto 7, 3) := by decide +kernel
theorem dX10_worth_24 : decode cX10_worth 24 = .ok (.iconst 2, 1) := by decide +kernel
theorem dX10_worth_25 : decode cX10_worth 25 = .ok (.iload 6, 2) := by decide +kernel
theorem dX10_worth_27 : decode cX10_worth 27 = .ok (.isub, 1) := by decide +kernel
theorem dX10_worth_28 : decode cX10_worth 28 = .ok (.iadd, 1) := by decide +kernel
theorem dX10_worth_29 : decode cX10_worth 29 = .ok (.istore 7, 2) := by decide +kernel
theorem dX10_worth_31 : decode cX10_worth 31 = .ok (.iload 7, 2) := by decide +kernel
theorem dX10_worth_33 : decode cX10_worth 33 = .ok (.bipush 9, 2) := by decide +kernel
theorem dX10_worth_35 : decode cX10_worth 35 = .ok (.if_icmp .le 8, 3) := by decide +kernel
theorem dX10_worth_38 : decode cX10_worth 38 = .ok (.bipush 9, 2) := by decide +kernel
theorem dX10_worth_40 : decode cX10_worth 40 = .ok (.goto 17, 3) := by decide +kernel
theorem dX10_worth_43 : decode cX10_worth 43 = .ok (.iload 7, 2) := by decide +kernel
theorem dX10_worth_45 : decode cX10_worth 45 = .ok (.bipush (-9), 2) := by decide +kernel
theorem dX10_worth_47 : decode cX10_worth 47 = .ok (.if_icmp .ge 8, 3) := by decide +kernel
theorem dX10_worth_50 : decode cX10_worth 50 = .ok (.bipush (-9), 2) := by decide +kernel
theorem dX10_worth_52 : decode cX10_worth 52 = .ok (.goto 5, 3) := by decide +kernel
theorem dX10_worth_55 : decode cX10_worth 55 = .ok (.iload 7, 2) := by decide +kernel
theorem dX10_worth_57 : decode cX10_worth 57 = .ok (.istore 7, 2) := by decide +kernel
theorem dX10_worth_59 : decode cX10_worth 59 = .ok (.lload 4, 2) := by decide +kernel
theorem dX10_worth_61 : decode cX10_worth 61 = .ok (.aload_n 0, 1) := by decide +kernel
theorem dX10_worth_62 : decode cX10_worth 62 = .ok (.getfield 67, 3) := by decide +kernel
theorem dX10_worth_65 : decode cX10_worth 65 = .ok (.bipush 15, 2) := by decide +kernel
theorem dX10_worth_67 : decode cX10_worth 67 = .ok (.iload_n 1, 1) := by decide +kernel
theorem dX10_worth_68 : decode cX10_worth 68 = .ok (.imul, 1) := by decide +kernel
theorem dX10_worth_69 : decode cX10_worth 69 = .ok (.iconst 5, 1) := by decide +kernel
theorem dX10_worth_70 : decode cX10_worth 70 = .ok (.iload_n 2, 1) := by decide +kernel
theorem dX10_worth_71 : decode cX10_worth 71 = .ok (.imul, 1) := by decide +kernel
theorem dX10_worth_72 : decode cX10_worth 72 = .ok (.iadd, 1) := by decide +kernel
theorem dX10_worth_73 : decode cX10_worth 73 = .ok (.iload 6, 2) := by decide +kernel
theorem dX10_worth_75 : decode cX10_worth 75 = .ok (.iadd, 1) := by decide +kernel
theorem dX10_worth_76 : decode cX10_worth 76 = .ok (.iaload, 1) := by decide +kernel
theorem dX10_worth_77 : decode cX10_worth 77 = .ok (.i2l, 1) := by decide +kernel
theorem dX10_worth_78 : decode cX10_worth 78 = .ok (.aload_n 0, 1) := by decide +kernel
theorem dX10_worth_79 : decode cX10_worth 79 = .ok (.getfield 70, 3) := by decide +kernel
theorem dX10_worth_82 : decode cX10_worth 82 = .ok (.iload 7, 2) := by decide +kernel
theorem dX10_worth_84 : decode cX10_worth 84 = .ok (.bipush 9, 2) := by decide +kernel
theorem dX10_worth_86 : decode cX10_worth 86 = .ok (.iadd, 1) := by decide +kernel
theorem dX10_worth_87 : decode cX10_worth 87 = .ok (.laload, 1) := by decide +kernel
theorem dX10_worth_88 : decode cX10_worth 88 = .ok (.lmul, 1) := by decide +kernel
theorem dX10_worth_89 : decode cX10_worth 89 = .ok (.ladd, 1) := by decide +kernel
theorem dX10_worth_90 : decode cX10_worth 90 = .ok (.lstore 4, 2) := by decide +kernel
theorem dX10_worth_92 : decode cX10_worth 92 = .ok (.iinc 6 1, 3) := by decide +kernel
theorem dX10_worth_95 : decode cX10_worth 95 = .ok (.goto (-89), 3) := by decide +kernel
theorem dX10_worth_98 : decode cX10_worth 98 = .ok (.lload 4, 2) := by decide +kernel
theorem dX10_worth_100 : decode cX10_worth 100 = .ok (.lreturn, 1) := by decide +kernel
theorem dX10_bestWorth_0 : decode cX10_bestWorth 0 = .ok (.aload_n 0, 1) := by decide +kernel
theorem dX10_bestWorth_1 : decode cX10_bestWorth 1 = .ok (.iconst 0, 1) := by decide +kernel
theorem dX10_bestWorth_2 : decode cX10_bestWorth 2 = .ok (.putfield 335, 3) := by decide +kernel
theorem dX10_bestWorth_5 : decode cX10_bestWorth 5 = .ok (.aload_n 0, 1) := by decide +kernel
theorem dX10_bestWorth_6 : decode cX10_bestWorth 6 = .ok (.iload_n 1, 1) := by decide +kernel
theorem dX10_bestWorth_7 : decode cX10_bestWorth 7 = .ok (.iconst 0, 1) := by decide +kernel
theorem dX10_bestWorth_8 : decode cX10_bestWorth 8 = .ok (.iload_n 2, 1) := by decide +kernel
theorem dX10_bestWorth_9 : decode cX10_bestWorth 9 = .ok (.invokevirtual 338, 3) := by decide +kernel
theorem dX10_bestWorth_12 : decode cX10_bestWorth 12 = .ok (.lstore_n 3, 1) := by decide +kernel
theorem dX10_bestWorth_13 : decode cX10_bestWorth 13 = .ok (.iconst 1, 1) := by decide +kernel
theorem dX10_bestWorth_14 : decode cX10_bestWorth 14 = .ok (.istore 5, 2) := by decide +kernel
theorem dX10_bestWorth_16 : decode cX10_bestWorth 16 = .ok (.iload 5, 2) := by decide +kernel
theorem dX10_bestWorth_18 : decode cX10_bestWorth 18 = .ok (.iconst 3, 1) := by decide +kernel
theorem dX10_bestWorth_19 : decode cX10_bestWorth 19 = .ok (.if_icmp .ge 49, 3) := by decide +kernel
theorem dX10_bestWorth_22 : decode cX10_bestWorth 22 = .ok (.aload_n 0, 1) := by decide +kernel
theorem dX10_bestWorth_23 : decode cX10_bestWorth 23 = .ok (.iload_n 1, 1) := by decide +kernel
theorem dX10_bestWorth_24 : decode cX10_bestWorth 24 = .ok (.iload 5, 2) := by decide +kernel
theorem dX10_bestWorth_26 : decode cX10_bestWorth 26 = .ok (.iload_n 2, 1) := by decide +kernel
theorem dX10_bestWorth_27 : decode cX10_bestWorth 27 = .ok (.invokevirtual 338, 3) := by decide +kernel
theorem dX10_bestWorth_30 : decode cX10_bestWorth 30 = .ok (.lstore 6, 2) := by decide +kernel
theorem dX10_bestWorth_32 : decode cX10_bestWorth 32 = .ok (.iload_n 1, 1) := by decide +kernel
theorem dX10_bestWorth_33 : decode cX10_bestWorth 33 = .ok (.ifCond .ne 13, 3) := by decide +kernel
theorem dX10_bestWorth_36 : decode cX10_bestWorth 36 = .ok (.lload 6, 2) := by decide +kernel
theorem dX10_bestWorth_38 : decode cX10_bestWorth 38 = .ok (.lload_n 3, 1) := by decide +kernel
theorem dX10_bestWorth_39 : decode cX10_bestWorth 39 = .ok (.lcmp, 1) := by decide +kernel
theorem dX10_bestWorth_40 : decode cX10_bestWorth 40 = .ok (.ifCond .le 22, 3) := by decide +kernel
theorem dX10_bestWorth_43 : decode cX10_bestWorth 43 = .ok (.goto 10, 3) := by decide +kernel
theorem dX10_bestWorth_46 : decode cX10_bestWorth 46 = .ok (.lload 6, 2) := by decide +kernel
theorem dX10_bestWorth_48 : decode cX10_bestWorth 48 = .ok (.lload_n 3, 1) := by decide +kernel
theorem dX10_bestWorth_49 : decode cX10_bestWorth 49 = .ok (.lcmp, 1) := by decide +kernel
theorem dX10_bestWorth_50 : decode cX10_bestWorth 50 = .ok (.ifCond .ge 12, 3) := by decide +kernel
theorem dX10_bestWorth_53 : decode cX10_bestWorth 53 = .ok (.lload 6, 2) := by decide +kernel
theorem dX10_bestWorth_55 : decode cX10_bestWorth 55 = .ok (.lstore_n 3, 1) := by decide +kernel
theorem dX10_bestWorth_56 : decode cX10_bestWorth 56 = .ok (.aload_n 0, 1) := by decide +kernel
theorem dX10_bestWorth_57 : decode cX10_bestWorth 57 = .ok (.iload 5, 2) := by decide +kernel
theorem dX10_bestWorth_59 : decode cX10_bestWorth 59 = .ok (.putfield 335, 3) := by decide +kernel
theorem dX10_bestWorth_62 : decode cX10_bestWorth 62 = .ok (.iinc 5 1, 3) := by decide +kernel
theorem dX10_bestWorth_65 : decode cX10_bestWorth 65 = .ok (.goto (-49), 3) := by decide +kernel
theorem dX10_bestWorth_68 : decode cX10_bestWorth 68 = .ok (.lload_n 3, 1) := by decide +kernel
theorem dX10_bestWorth_69 : decode cX10_bestWorth 69 = .ok (.lreturn, 1) := by decide +kernel
theorem dX10_win_0 : decode cX10_win 0 = .ok (.iload_n 1, 1) := by decide +kernel
theorem dX10_win_1 : decode cX10_win 1 = .ok (.i2l, 1) := by decide +kernel
theorem dX10_win_2 : decode cX10_win 2 = .ok (.lconst 0, 1) := by decide +kernel
theorem dX10_win_3 : decode cX10_win 3 = .ok (.ldc2_w 342, 3) := by decide +kernel
theorem dX10_win_6 : decode cX10_win 6 = .ok (.invokestatic 117, 3) := by decide +kernel
theorem dX10_win_9 : decode cX10_win 9 = .ok (.ifCond .eq 55, 3) := by decide +kernel
theorem dX10_win_12 : decode cX10_win 12 = .ok (.iload_n 2, 1) := by decide +kernel
theorem dX10_win_13 : decode cX10_win 13 = .ok (.i2l, 1) := by decide +kernel
theorem dX10_win_14 : decode cX10_win 14 = .ok (.lconst 0, 1) := by decide +kernel
theorem dX10_win_15 : decode cX10_win 15 = .ok (.lconst 1, 1) := by decide +kernel
theorem dX10_win_16 : decode cX10_win 16 = .ok (.invokestatic 117, 3) := by decide +kernel
theorem dX10_win_19 : decode cX10_win 19 = .ok (.ifCond .eq 45, 3) := by decide +kernel
theorem dX10_win_22 : decode cX10_win 22 = .ok (.iload_n 3, 1) := by decide +kernel
theorem dX10_win_23 : decode cX10_win 23 = .ok (.i2l, 1) := by decide +kernel
theorem dX10_win_24 : decode cX10_win 24 = .ok (.ldc2_w 344, 3) := by decide +kernel
theorem dX10_win_27 : decode cX10_win 27 = .ok (.ldc2_w 133, 3) := by decide +kernel
theorem dX10_win_30 : decode cX10_win 30 = .ok (.invokestatic 117, 3) := by decide +kernel
theorem dX10_win_33 : decode cX10_win 33 = .ok (.ifCond .eq 31, 3) := by decide +kernel
theorem dX10_win_36 : decode cX10_win 36 = .ok (.iload 4, 2) := by decide +kernel
theorem dX10_win_38 : decode cX10_win 38 = .ok (.i2l, 1) := by decide +kernel
theorem dX10_win_39 : decode cX10_win 39 = .ok (.ldc2_w 344, 3) := by decide +kernel
theorem dX10_win_42 : decode cX10_win 42 = .ok (.ldc2_w 133, 3) := by decide +kernel
theorem dX10_win_45 : decode cX10_win 45 = .ok (.invokestatic 117, 3) := by decide +kernel
theorem dX10_win_48 : decode cX10_win 48 = .ok (.ifCond .eq 16, 3) := by decide +kernel
theorem dX10_win_51 : decode cX10_win 51 = .ok (.iload 5, 2) := by decide +kernel
theorem dX10_win_53 : decode cX10_win 53 = .ok (.i2l, 1) := by decide +kernel
theorem dX10_win_54 : decode cX10_win 54 = .ok (.lconst 0, 1) := by decide +kernel
theorem dX10_win_55 : decode cX10_win 55 = .ok (.ldc2_w 129, 3) := by decide +kernel
theorem dX10_win_58 : decode cX10_win 58 = .ok (.invokestatic 117, 3) := by decide +kernel
theorem dX10_win_61 : decode cX10_win 61 = .ok (.ifCond .ne 7, 3) := by decide +kernel
theorem dX10_win_64 : decode cX10_win 64 = .ok (.ldc2_w 346, 3) := by decide +kernel
theorem dX10_win_67 : decode cX10_win 67 = .ok (.lreturn, 1) := by decide +kernel
theorem dX10_win_68 : decode cX10_win 68 = .ok (.bipush (-9), 2) := by decide +kernel
theorem dX10_win_70 : decode cX10_win 70 = .ok (.istore 6, 2) := by decide +kernel
theorem dX10_win_72 : decode cX10_win 72 = .ok (.iload 6, 2) := by decide +kernel
theorem dX10_win_74 : decode cX10_win 74 = .ok (.bipush 9, 2) := by decide +kernel
theorem dX10_win_76 : decode cX10_win 76 = .ok (.if_icmp .gt 31, 3) := by decide +kernel
theorem dX10_win_79 : decode cX10_win 79 = .ok (.aload_n 0, 1) := by decide +kernel
theorem dX10_win_80 : decode cX10_win 80 = .ok (.getfield 70, 3) := by decide +kernel
theorem dX10_win_83 : decode cX10_win 83 = .ok (.iload 6, 2) := by decide +kernel
theorem dX10_win_85 : decode cX10_win 85 = .ok (.bipush 9, 2) := by decide +kernel
theorem dX10_win_87 : decode cX10_win 87 = .ok (.iadd, 1) := by decide +kernel
theorem dX10_win_88 : decode cX10_win 88 = .ok (.iload 6, 2) := by decide +kernel
theorem dX10_win_90 : decode cX10_win 90 = .ok (.iload 4, 2) := by decide +kernel
theorem dX10_win_92 : decode cX10_win 92 = .ok (.if_icmp .lt 7, 3) := by decide +kernel
theorem dX10_win_95 : decode cX10_win 95 = .ok (.lconst 1, 1) := by decide +kernel
theorem dX10_win_96 : decode cX10_win 96 = .ok (.goto 4, 3) := by decide +kernel
theorem dX10_win_99 : decode cX10_win 99 = .ok (.lconst 0, 1) := by decide +kernel
theorem dX10_win_100 : decode cX10_win 100 = .ok (.lastore, 1) := by decide +kernel
theorem dX10_win_101 : decode cX10_win 101 = .ok (.iinc 6 1, 3) := by decide +kernel
theorem dX10_win_104 : decode cX10_win 104 = .ok (.goto (-32), 3) := by decide +kernel
theorem dX10_win_107 : decode cX10_win 107 = .ok (.lconst 1, 1) := by decide +kernel
theorem dX10_win_108 : decode cX10_win 108 = .ok (.lstore 6, 2) := by decide +kernel
theorem dX10_win_110 : decode cX10_win 110 = .ok (.aload_n 0, 1) := by decide +kernel
theorem dX10_win_111 : decode cX10_win 111 = .ok (.iconst (-1), 1) := by decide +kernel
theorem dX10_win_112 : decode cX10_win 112 = .ok (.putfield 335, 3) := by decide +kernel
theorem dX10_win_115 : decode cX10_win 115 = .ok (.iload_n 1, 1) := by decide +kernel
theorem dX10_win_116 : decode cX10_win 116 = .ok (.iconst 1, 1) := by decide +kernel
theorem dX10_win_117 : decode cX10_win 117 = .ok (.isub, 1) := by decide +kernel
theorem dX10_win_118 : decode cX10_win 118 = .ok (.istore 8, 2) := by decide +kernel
theorem dX10_win_120 : decode cX10_win 120 = .ok (.iload 8, 2) := by decide +kernel
theorem dX10_win_122 : decode cX10_win 122 = .ok (.ifCond .lt 112, 3) := by decide +kernel
theorem dX10_win_125 : decode cX10_win 125 = .ok (.iload 8, 2) := by decide +kernel
theorem dX10_win_127 : decode cX10_win 127 = .ok (.iconst 2, 1) := by decide +kernel
theorem dX10_win_128 : decode cX10_win 128 = .ok (.irem, 1) := by decide +kernel
theorem dX10_win_129 : decode cX10_win 129 = .ok (.ifCond .ne 7, 3) := by decide +kernel
theorem dX10_win_132 : decode cX10_win 132 = .ok (.iload_n 2, 1) := by decide +kernel
theorem dX10_win_133 : decode cX10_win 133 = .ok (.goto 6, 3) := by decide +kernel
theorem dX10_win_136 : decode cX10_win 136 = .ok (.iconst 1, 1) := by decide +kernel
theorem dX10_win_137 : decode cX10_win 137 = .ok (.iload_n 2, 1) := by decide +kernel
theorem dX10_win_138 : decode cX10_win 138 = .ok (.isub, 1) := by decide +kernel
theorem dX10_win_139 : decode cX10_win 139 = .ok (.istore 9, 2) := by decide +kernel
theorem dX10_win_141 : decode cX10_win 141 = .ok (.bipush (-9), 2) := by decide +kernel
theorem dX10_win_143 : decode cX10_win 143 = .ok (.istore 10, 2) := by decide +kernel
theorem dX10_win_145 : decode cX10_win 145 = .ok (.iload 10, 2) := by decide +kernel
theorem dX10_win_147 : decode cX10_win 147 = .ok (.bipush 9, 2) := by decide +kernel
theorem dX10_win_149 : decode cX10_win 149 = .ok (.if_icmp .gt 27, 3) := by decide +kernel
theorem dX10_win_152 : decode cX10_win 152 = .ok (.aload_n 0, 1) := by decide +kernel
theorem dX10_win_153 : decode cX10_win 153 = .ok (.getfield 73, 3) := by decide +kernel
theorem dX10_win_156 : decode cX10_win 156 = .ok (.iload 10, 2) := by decide +kernel
theorem dX10_win_158 : decode cX10_win 158 = .ok (.bipush 9, 2) := by decide +kernel
theorem dX10_win_160 : decode cX10_win 160 = .ok (.iadd, 1) := by decide +kernel
theorem dX10_win_161 : decode cX10_win 161 = .ok (.aload_n 0, 1) := by decide +kernel
theorem dX10_win_162 : decode cX10_win 162 = .ok (.iload 9, 2) := by decide +kernel
theorem dX10_win_164 : decode cX10_win 164 = .ok (.iload 10, 2) := by decide +kernel
theorem dX10_win_166 : decode cX10_win 166 = .ok (.invokevirtual 348, 3) := by decide +kernel
theorem dX10_win_169 : decode cX10_win 169 = .ok (.lastore, 1) := by decide +kernel
theorem dX10_win_170 : decode cX10_win 170 = .ok (.iinc 10 1, 3) := by decide +kernel
theorem dX10_win_173 : decode cX10_win 173 = .ok (.goto (-28), 3) := by decide +kernel
theorem dX10_win_176 : decode cX10_win 176 = .ok (.iload 8, 2) := by decide +kernel
theorem dX10_win_178 : decode cX10_win 178 = .ok (.ifCond .ne 12, 3) := by decide +kernel
theorem dX10_win_181 : decode cX10_win 181 = .ok (.aload_n 0, 1) := by decide +kernel
theorem dX10_win_182 : decode cX10_win 182 = .ok (.iload 9, 2) := by decide +kernel
theorem dX10_win_184 : decode cX10_win 184 = .ok (.iload_n 3, 1) := by decide +kernel
theorem dX10_win_185 : decode cX10_win 185 = .ok (.invokevirtual 348, 3) := by decide +kernel
theorem dX10_win_188 : decode cX10_win 188 = .ok (.lstore 10, 2) := by decide +kernel
theorem dX10_win_190 : decode cX10_win 190 = .ok (.iconst 0, 1) := by decide +kernel
theorem dX10_win_191 : decode cX10_win 191 = .ok (.istore 10, 2) := by decide +kernel
theorem dX10_win_193 : decode cX10_win 193 = .ok (.iload 10, 2) := by decide +kernel
theorem dX10_win_195 : decode cX10_win 195 = .ok (.bipush 19, 2) := by decide +kernel
theorem dX10_win_197 : decode cX10_win 197 = .ok (.if_icmp .ge 23, 3) := by decide +kernel
theorem dX10_win_200 : decode cX10_win 200 = .ok (.aload_n 0, 1) := by decide +kernel
theorem dX10_win_201 : decode cX10_win 201 = .ok (.getfield 70, 3) := by decide +kernel
theorem dX10_win_204 : decode cX10_win 204 = .ok (.iload 10, 2) := by decide +kernel
theorem dX10_win_206 : decode cX10_win 206 = .ok (.aload_n 0, 1) := by decide +kernel
theorem dX10_win_207 : decode cX10_win 207 = .ok (.getfield 73, 3) := by decide +kernel
theorem dX10_win_210 : decode cX10_win 210 = .ok (.iload 10, 2) := by decide +kernel
theorem dX10_win_212 : decode cX10_win 212 = .ok (.laload, 1) := by decide +kernel
theorem dX10_win_213 : decode cX10_win 213 = .ok (.lastore, 1) := by decide +kernel
theorem dX10_win_214 : decode cX10_win 214 = .ok (.iinc 10 1, 3) := by decide +kernel
theorem dX10_win_217 : decode cX10_win 217 = .ok (.goto (-24), 3) := by decide +kernel
theorem dX10_win_220 : decode cX10_win 220 = .ok (.lload 6, 2) := by decide +kernel
theorem dX10_win_222 : decode cX10_win 222 = .ok (.ldc2_w 131, 3) := by decide +kernel
theorem dX10_win_225 : decode cX10_win 225 = .ok (.lmul, 1) := by decide +kernel
theorem dX10_win_226 : decode cX10_win 226 = .ok (.lstore 6, 2) := by decide +kernel
theorem dX10_win_228 : decode cX10_win 228 = .ok (.iinc 8 (-1), 3) := by decide +kernel
theorem dX10_win_231 : decode cX10_win 231 = .ok (.goto (-111), 3) := by decide +kernel
theorem dX10_win_234 : decode cX10_win 234 = .ok (.aload_n 0, 1) := by decide +kernel
theorem dX10_win_235 : decode cX10_win 235 = .ok (.getfield 70, 3) := by decide +kernel
theorem dX10_win_238 : decode cX10_win 238 = .ok (.iload_n 3, 1) := by decide +kernel
theorem dX10_win_239 : decode cX10_win 239 = .ok (.bipush 9, 2) := by decide +kernel
theorem dX10_win_241 : decode cX10_win 241 = .ok (.iadd, 1) := by decide +kernel
theorem dX10_win_242 : decode cX10_win 242 = .ok (.laload, 1) := by decide +kernel
theorem dX10_win_243 : decode cX10_win 243 = .ok (.lstore 8, 2) := by decide +kernel
theorem dX10_win_245 : decode cX10_win 245 = .ok (.lload 8, 2) := by decide +kernel
theorem dX10_win_247 : decode cX10_win 247 = .ok (.lload 6, 2) := by decide +kernel
theorem dX10_win_249 : decode cX10_win 249 = .ok (.invokestatic 352, 3) := by decide +kernel
theorem dX10_win_252 : decode cX10_win 252 = .ok (.lstore 10, 2) := by decide +kernel
theorem dX10_win_254 : decode cX10_win 254 = .ok (.iload 5, 2) := by decide +kernel
theorem dX10_win_256 : decode cX10_win 256 = .ok (.ifCond .ne 11, 3) := by decide +kernel
theorem dX10_win_259 : decode cX10_win 259 = .ok (.lload 8, 2) := by decide +kernel
theorem dX10_win_261 : decode cX10_win 261 = .ok (.lload 10, 2) := by decide +kernel
theorem dX10_win_263 : decode cX10_win 263 = .ok (.ldiv, 1) := by decide +kernel
theorem dX10_win_264 : decode cX10_win 264 = .ok (.goto 22, 3) := by decide +kernel
theorem dX10_win_267 : decode cX10_win 267 = .ok (.iload 5, 2) := by decide +kernel
theorem dX10_win_269 : decode cX10_win 269 = .ok (.iconst 1, 1) := by decide +kernel
theorem dX10_win_270 : decode cX10_win 270 = .ok (.if_icmp .ne 11, 3) := by decide +kernel
theorem dX10_win_273 : decode cX10_win 273 = .ok (.lload 6, 2) := by decide +kernel
theorem dX10_win_275 : decode cX10_win 275 = .ok (.lload 10, 2) := by decide +kernel
theorem dX10_win_277 : decode cX10_win 277 = .ok (.ldiv, 1) := by decide +kernel
theorem dX10_win_278 : decode cX10_win 278 = .ok (.goto 8, 3) := by decide +kernel
theorem dX10_win_281 : decode cX10_win 281 = .ok (.aload_n 0, 1) := by decide +kernel
theorem dX10_win_282 : decode cX10_win 282 = .ok (.getfield 335, 3) := by decide +kernel
theorem dX10_win_285 : decode cX10_win 285 = .ok (.i2l, 1) := by decide +kernel
theorem dX10_win_286 : decode cX10_win 286 = .ok (.lreturn, 1) := by decide +kernel
theorem dX10_noMatch_0 : decode cX10_noMatch 0 = .ok (.iload_n 1, 1) := by decide +kernel
theorem dX10_noMatch_1 : decode cX10_noMatch 1 = .ok (.i2l, 1) := by decide +kernel
theorem dX10_noMatch_2 : decode cX10_noMatch 2 = .ok (.lconst 0, 1) := by decide +kernel
theorem dX10_noMatch_3 : decode cX10_noMatch 3 = .ok (.aload_n 0, 1) := by decide +kernel
theorem dX10_noMatch_4 : decode cX10_noMatch 4 = .ok (.getfield 195, 3) := by decide +kernel
theorem dX10_noMatch_7 : decode cX10_noMatch 7 = .ok (.iconst 1, 1) := by decide +kernel
theorem dX10_noMatch_8 : decode cX10_noMatch 8 = .ok (.isub, 1) := by decide +kernel
theorem dX10_noMatch_9 : decode cX10_noMatch 9 = .ok (.i2l, 1) := by decide +kernel
theorem dX10_noMatch_10 : decode cX10_noMatch 10 = .ok (.invokestatic 117, 3) := by decide +kernel
theorem dX10_noMatch_13 : decode cX10_noMatch 13 = .ok (.ifCond .ne 7, 3) := by decide +kernel
theorem dX10_noMatch_16 : decode cX10_noMatch 16 = .ok (.iconst 1, 1) := by decide +kernel
theorem dX10_noMatch_17 : decode cX10_noMatch 17 = .ok (.goto 4, 3) := by decide +kernel
theorem dX10_noMatch_20 : decode cX10_noMatch 20 = .ok (.iconst 0, 1) := by decide +kernel
theorem dX10_noMatch_21 : decode cX10_noMatch 21 = .ok (.ireturn, 1) := by decide +kernel
theorem dX10_gameOf_0 : decode cX10_gameOf 0 = .ok (.aload_n 0, 1) := by decide +kernel
theorem dX10_gameOf_1 : decode cX10_gameOf 1 = .ok (.getfield 82, 3) := by decide +kernel
theorem dX10_gameOf_4 : decode cX10_gameOf 4 = .ok (.iload_n 1, 1) := by decide +kernel
theorem dX10_gameOf_5 : decode cX10_gameOf 5 = .ok (.iaload, 1) := by decide +kernel
theorem dX10_gameOf_6 : decode cX10_gameOf 6 = .ok (.ifCond .eq 19, 3) := by decide +kernel
theorem dX10_gameOf_9 : decode cX10_gameOf 9 = .ok (.aload_n 0, 1) := by decide +kernel
theorem dX10_gameOf_10 : decode cX10_gameOf 10 = .ok (.getfield 82, 3) := by decide +kernel
theorem dX10_gameOf_13 : decode cX10_gameOf 13 = .ok (.iload_n 1, 1) := by decide +kernel
theorem dX10_gameOf_14 : decode cX10_gameOf 14 = .ok (.iaload, 1) := by decide +kernel
theorem dX10_gameOf_15 : decode cX10_gameOf 15 = .ok (.iconst 2, 1) := by decide +kernel
theorem dX10_gameOf_16 : decode cX10_gameOf 16 = .ok (.if_icmp .ne 18, 3) := by decide +kernel
theorem dX10_gameOf_19 : decode cX10_gameOf 19 = .ok (.iload_n 2, 1) := by decide +kernel
theorem dX10_gameOf_20 : decode cX10_gameOf 20 = .ok (.iconst 2, 1) := by decide +kernel
theorem dX10_gameOf_21 : decode cX10_gameOf 21 = .ok (.irem, 1) := by decide +kernel
theorem dX10_gameOf_22 : decode cX10_gameOf 22 = .ok (.ifCond .ne 12, 3) := by decide +kernel
theorem dX10_gameOf_25 : decode cX10_gameOf 25 = .ok (.aload_n 0, 1) := by decide +kernel
theorem dX10_gameOf_26 : decode cX10_gameOf 26 = .ok (.getfield 76, 3) := by decide +kernel
theorem dX10_gameOf_29 : decode cX10_gameOf 29 = .ok (.iload_n 1, 1) := by decide +kernel
theorem dX10_gameOf_30 : decode cX10_gameOf 30 = .ok (.iaload, 1) := by decide +kernel
theorem dX10_gameOf_31 : decode cX10_gameOf 31 = .ok (.goto 9, 3) := by decide +kernel
theorem dX10_gameOf_34 : decode cX10_gameOf 34 = .ok (.aload_n 0, 1) := by decide +kernel
theorem dX10_gameOf_35 : decode cX10_gameOf 35 = .ok (.getfield 79, 3) := by decide +kernel
theorem dX10_gameOf_38 : decode cX10_gameOf 38 = .ok (.iload_n 1, 1) := by decide +kernel
theorem dX10_gameOf_39 : decode cX10_gameOf 39 = .ok (.iaload, 1) := by decide +kernel
theorem dX10_gameOf_40 : decode cX10_gameOf 40 = .ok (.istore_n 3, 1) := by decide +kernel
theorem dX10_gameOf_41 : decode cX10_gameOf 41 = .ok (.aload_n 0, 1) := by decide +kernel
theorem dX10_gameOf_42 : decode cX10_gameOf 42 = .ok (.getfield 51, 3) := by decide +kernel
theorem dX10_gameOf_45 : decode cX10_gameOf 45 = .ok (.bipush 8, 2) := by decide +kernel
theorem dX10_gameOf_47 : decode cX10_gameOf 47 = .ok (.iload_n 3, 1) := by decide +kernel
theorem dX10_gameOf_48 : decode cX10_gameOf 48 = .ok (.imul, 1) := by decide +kernel
theorem dX10_gameOf_49 : decode cX10_gameOf 49 = .ok (.iconst 4, 1) := by decide +kernel
theorem dX10_gameOf_50 : decode cX10_gameOf 50 = .ok (.iadd, 1) := by decide +kernel
theorem dX10_gameOf_51 : decode cX10_gameOf 51 = .ok (.iaload, 1) := by decide +kernel
theorem dX10_gameOf_52 : decode cX10_gameOf 52 = .ok (.ireturn, 1) := by decide +kernel
theorem dX10_stateOf_0 : decode cX10_stateOf 0 = .ok (.aload_n 0, 1) := by decide +kernel
theorem dX10_stateOf_1 : decode cX10_stateOf 1 = .ok (.iconst 0, 1) := by decide +kernel
theorem dX10_stateOf_2 : decode cX10_stateOf 2 = .ok (.putfield 356, 3) := by decide +kernel
theorem dX10_stateOf_5 : decode cX10_stateOf 5 = .ok (.aload_n 0, 1) := by decide +kernel
theorem dX10_stateOf_6 : decode cX10_stateOf 6 = .ok (.iconst 0, 1) := by decide +kernel
theorem dX10_stateOf_7 : decode cX10_stateOf 7 = .ok (.putfield 359, 3) := by decide +kernel
theorem dX10_stateOf_10 : decode cX10_stateOf 10 = .ok (.aload_n 0, 1) := by decide +kernel
theorem dX10_stateOf_11 : decode cX10_stateOf 11 = .ok (.iconst 0, 1) := by decide +kernel
theorem dX10_stateOf_12 : decode cX10_stateOf 12 = .ok (.putfield 362, 3) := by decide +kernel
theorem dX10_stateOf_15 : decode cX10_stateOf 15 = .ok (.iconst 0, 1) := by decide +kernel
theorem dX10_stateOf_16 : decode cX10_stateOf 16 = .ok (.istore_n 2, 1) := by decide +kernel
theorem dX10_stateOf_17 : decode cX10_stateOf 17 = .ok (.iload_n 2, 1) := by decide +kernel
theorem dX10_stateOf_18 : decode cX10_stateOf 18 = .ok (.aload_n 0, 1) := by decide +kernel
theorem dX10_stateOf_19 : decode cX10_stateOf 19 = .ok (.getfield 88, 3) := by decide +kernel
theorem dX10_stateOf_22 : decode cX10_stateOf 22 = .ok (.iload_n 1, 1) := by decide +kernel
theorem dX10_stateOf_23 : decode cX10_stateOf 23 = .ok (.iaload, 1) := by decide +kernel
theorem dX10_stateOf_24 : decode cX10_stateOf 24 = .ok (.if_icmp .ge 123, 3) := by decide +kernel
theorem dX10_stateOf_27 : decode cX10_stateOf 27 = .ok (.aload_n 0, 1) := by decide +kernel
theorem dX10_stateOf_28 : decode cX10_stateOf 28 = .ok (.getfield 91, 3) := by decide +kernel
theorem dX10_stateOf_31 : decode cX10_stateOf 31 = .ok (.bipush 40, 2) := by decide +kernel
theorem dX10_stateOf_33 : decode cX10_stateOf 33 = .ok (.iload_n 1, 1) := by decide +kernel
theorem dX10_stateOf_34 : decode cX10_stateOf 34 = .ok (.imul, 1) := by decide +kernel
theorem dX10_stateOf_35 : decode cX10_stateOf 35 = .ok (.iload_n 2, 1) := by decide +kernel
theorem dX10_stateOf_36 : decode cX10_stateOf 36 = .ok (.iadd, 1) := by decide +kernel
theorem dX10_stateOf_37 : decode cX10_stateOf 37 = .ok (.iaload, 1) := by decide +kernel
theorem dX10_stateOf_38 : decode cX10_stateOf 38 = .ok (.istore_n 3, 1) := by decide +kernel
theorem dX10_stateOf_39 : decode cX10_stateOf 39 = .ok (.aload_n 0, 1) := by decide +kernel
theorem dX10_stateOf_40 : decode cX10_stateOf 40 = .ok (.dup, 1) := by decide +kernel
theorem dX10_stateOf_41 : decode cX10_stateOf 41 = .ok (.getfield 356, 3) := by decide +kernel
theorem dX10_stateOf_44 : decode cX10_stateOf 44 = .ok (.iload_n 3, 1) := by decide +kernel
theorem dX10_stateOf_45 : decode cX10_stateOf 45 = .ok (.ifCond .le 7, 3) := by decide +kernel
theorem dX10_stateOf_48 : decode cX10_stateOf 48 = .ok (.iload_n 3, 1) := by decide +kernel
theorem dX10_stateOf_49 : decode cX10_stateOf 49 = .ok (.goto 4, 3) := by decide +kernel
theorem dX10_stateOf_52 : decode cX10_stateOf 52 = .ok (.iconst 0, 1) := by decide +kernel
theorem dX10_stateOf_53 : decode cX10_stateOf 53 = .ok (.iadd, 1) := by decide +kernel
theorem dX10_stateOf_54 : decode cX10_stateOf 54 = .ok (.putfield 356, 3) := by decide +kernel
theorem dX10_stateOf_57 : decode cX10_stateOf 57 = .ok (.aload_n 0, 1) := by decide +kernel
theorem dX10_stateOf_58 : decode cX10_stateOf 58 = .ok (.dup, 1) := by decide +kernel
theorem dX10_stateOf_59 : decode cX10_stateOf 59 = .ok (.getfield 359, 3) := by decide +kernel
theorem dX10_stateOf_62 : decode cX10_stateOf 62 = .ok (.iload_n 3, 1) := by decide +kernel
theorem dX10_stateOf_63 : decode cX10_stateOf 63 = .ok (.ifCond .ge 9, 3) := by decide +kernel
theorem dX10_stateOf_66 : decode cX10_stateOf 66 = .ok (.iconst 0, 1) := by decide +kernel
theorem dX10_stateOf_67 : decode cX10_stateOf 67 = .ok (.iload_n 3, 1) := by decide +kernel
theorem dX10_stateOf_68 : decode cX10_stateOf 68 = .ok (.isub, 1) := by decide +kernel
theorem dX10_stateOf_69 : decode cX10_stateOf 69 = .ok (.goto 4, 3) := by decide +kernel
theorem dX10_stateOf_72 : decode cX10_stateOf 72 = .ok (.iconst 0, 1) := by decide +kernel
theorem dX10_stateOf_73 : decode cX10_stateOf 73 = .ok (.iadd, 1) := by decide +kernel
theorem dX10_stateOf_74 : decode cX10_stateOf 74 = .ok (.putfield 359, 3) := by decide +kernel
theorem dX10_stateOf_77 : decode cX10_stateOf 77 = .ok (.aload_n 0, 1) := by decide +kernel
theorem dX10_stateOf_78 : decode cX10_stateOf 78 = .ok (.dup, 1) := by decide +kernel
theorem dX10_stateOf_79 : decode cX10_stateOf 79 = .ok (.getfield 362, 3) := by decide +kernel
theorem dX10_stateOf_82 : decode cX10_stateOf 82 = .ok (.iconst 1, 1) := by decide +kernel
theorem dX10_stateOf_83 : decode cX10_stateOf 83 = .ok (.iadd, 1) := by decide +kernel
theorem dX10_stateOf_84 : decode cX10_stateOf 84 = .ok (.putfield 362, 3) := by decide +kernel
theorem dX10_stateOf_87 : decode cX10_stateOf 87 = .ok (.aload_n 0, 1) := by decide +kernel
theorem dX10_stateOf_88 : decode cX10_stateOf 88 = .ok (.iload_n 1, 1) := by decide +kernel
theorem dX10_stateOf_89 : decode cX10_stateOf 89 = .ok (.iload_n 2, 1) := by decide +kernel
theorem dX10_stateOf_90 : decode cX10_stateOf 90 = .ok (.invokevirtual 365, 3) := by decide +kernel
theorem dX10_stateOf_93 : decode cX10_stateOf 93 = .ok (.istore 4, 2) := by decide +kernel
theorem dX10_stateOf_95 : decode cX10_stateOf 95 = .ok (.aload_n 0, 1) := by decide +kernel
theorem dX10_stateOf_96 : decode cX10_stateOf 96 = .ok (.getfield 356, 3) := by decide +kernel
theorem dX10_stateOf_99 : decode cX10_stateOf 99 = .ok (.aload_n 0, 1) := by decide +kernel
theorem dX10_stateOf_100 : decode cX10_stateOf 100 = .ok (.getfield 359, 3) := by decide +kernel
theorem dX10_stateOf_103 : decode cX10_stateOf 103 = .ok (.if_icmp .eq 38, 3) := by decide +kernel
theorem dX10_stateOf_106 : decode cX10_stateOf 106 = .ok (.aload_n 0, 1) := by decide +kernel
theorem dX10_stateOf_107 : decode cX10_stateOf 107 = .ok (.getfield 356, 3) := by decide +kernel
theorem dX10_stateOf_110 : decode cX10_stateOf 110 = .ok (.iload 4, 2) := by decide +kernel
theorem dX10_stateOf_112 : decode cX10_stateOf 112 = .ok (.if_icmp .ge 12, 3) := by decide +kernel
theorem dX10_stateOf_115 : decode cX10_stateOf 115 = .ok (.aload_n 0, 1) := by decide +kernel
theorem dX10_stateOf_116 : decode cX10_stateOf 116 = .ok (.getfield 359, 3) := by decide +kernel
theorem dX10_stateOf_119 : decode cX10_stateOf 119 = .ok (.iload 4, 2) := by decide +kernel
theorem dX10_stateOf_121 : decode cX10_stateOf 121 = .ok (.if_icmp .lt 20, 3) := by decide +kernel
theorem dX10_stateOf_124 : decode cX10_stateOf 124 = .ok (.aload_n 0, 1) := by decide +kernel
theorem dX10_stateOf_125 : decode cX10_stateOf 125 = .ok (.getfield 356, 3) := by decide +kernel
theorem dX10_stateOf_128 : decode cX10_stateOf 128 = .ok (.aload_n 0, 1) := by decide +kernel
theorem dX10_stateOf_129 : decode cX10_stateOf 129 = .ok (.getfield 359, 3) := by decide +kernel
theorem dX10_stateOf_132 : decode cX10_stateOf 132 = .ok (.if_icmp .le 7, 3) := by decide +kernel
theorem dX10_stateOf_135 : decode cX10_stateOf 135 = .ok (.iconst 1, 1) := by decide +kernel
theorem dX10_stateOf_136 : decode cX10_stateOf 136 = .ok (.goto 4, 3) := by decide +kernel
theorem dX10_stateOf_139 : decode cX10_stateOf 139 = .ok (.iconst 2, 1) := by decide +kernel
theorem dX10_stateOf_140 : decode cX10_stateOf 140 = .ok (.ireturn, 1) := by decide +kernel
theorem dX10_stateOf_141 : decode cX10_stateOf 141 = .ok (.iinc 2 1, 3) := by decide +kernel
theorem dX10_stateOf_144 : decode cX10_stateOf 144 = .ok (.goto (-127), 3) := by decide +kernel
theorem dX10_stateOf_147 : decode cX10_stateOf 147 = .ok (.aload_n 0, 1) := by decide +kernel
theorem dX10_stateOf_148 : decode cX10_stateOf 148 = .ok (.getfield 85, 3) := by decide +kernel
theorem dX10_stateOf_151 : decode cX10_stateOf 151 = .ok (.iload_n 1, 1) := by decide +kernel
theorem dX10_stateOf_152 : decode cX10_stateOf 152 = .ok (.baload, 1) := by decide +kernel
theorem dX10_stateOf_153 : decode cX10_stateOf 153 = .ok (.ifCond .ne 7, 3) := by decide +kernel
theorem dX10_stateOf_156 : decode cX10_stateOf 156 = .ok (.iconst 0, 1) := by decide +kernel
theorem dX10_stateOf_157 : decode cX10_stateOf 157 = .ok (.goto 34, 3) := by decide +kernel
theorem dX10_stateOf_160 : decode cX10_stateOf 160 = .ok (.aload_n 0, 1) := by decide +kernel
theorem dX10_stateOf_161 : decode cX10_stateOf 161 = .ok (.getfield 356, 3) := by decide +kernel
theorem dX10_stateOf_164 : decode cX10_stateOf 164 = .ok (.aload_n 0, 1) := by decide +kernel
theorem dX10_stateOf_165 : decode cX10_stateOf 165 = .ok (.getfield 359, 3) := by decide +kernel
theorem dX10_stateOf_168 : decode cX10_stateOf 168 = .ok (.if_icmp .le 7, 3) := by decide +kernel
theorem dX10_stateOf_171 : decode cX10_stateOf 171 = .ok (.iconst 1, 1) := by decide +kernel
theorem dX10_stateOf_172 : decode cX10_stateOf 172 = .ok (.goto 19, 3) := by decide +kernel
theorem dX10_stateOf_175 : decode cX10_stateOf 175 = .ok (.aload_n 0, 1) := by decide +kernel
theorem dX10_stateOf_176 : decode cX10_stateOf 176 = .ok (.getfield 359, 3) := by decide +kernel
theorem dX10_stateOf_179 : decode cX10_stateOf 179 = .ok (.aload_n 0, 1) := by decide +kernel
theorem dX10_stateOf_180 : decode cX10_stateOf 180 = .ok (.getfield 356, 3) := by decide +kernel
theorem dX10_stateOf_183 : decode cX10_stateOf 183 = .ok (.if_icmp .le 7, 3) := by decide +kernel
theorem dX10_stateOf_186 : decode cX10_stateOf 186 = .ok (.iconst 2, 1) := by decide +kernel
theorem dX10_stateOf_187 : decode cX10_stateOf 187 = .ok (.goto 4, 3) := by decide +kernel
theorem dX10_stateOf_190 : decode cX10_stateOf 190 = .ok (.iconst 3, 1) := by decide +kernel
theorem dX10_stateOf_191 : decode cX10_stateOf 191 = .ok (.ireturn, 1) := by decide +kernel
theorem dX10_openOnes_0 : decode cX10_openOnes 0 = .ok (.iconst 0, 1) := by decide +kernel
theorem dX10_openOnes_1 : decode cX10_openOnes 1 = .ok (.istore_n 1, 1) := by decide +kernel
theorem dX10_openOnes_2 : decode cX10_openOnes 2 = .ok (.iconst 0, 1) := by decide +kernel
theorem dX10_openOnes_3 : decode cX10_openOnes 3 = .ok (.istore_n 2, 1) := by decide +kernel
theorem dX10_openOnes_4 : decode cX10_openOnes 4 = .ok (.iload_n 2, 1) := by decide +kernel
theorem dX10_openOnes_5 : decode cX10_openOnes 5 = .ok (.aload_n 0, 1) := by decide +kernel
theorem dX10_openOnes_6 : decode cX10_openOnes 6 = .ok (.getfield 195, 3) := by decide +kernel
theorem dX10_openOnes_9 : decode cX10_openOnes 9 = .ok (.if_icmp .ge 28, 3) := by decide +kernel
theorem dX10_openOnes_12 : decode cX10_openOnes 12 = .ok (.iload_n 1, 1) := by decide +kernel
theorem dX10_openOnes_13 : decode cX10_openOnes 13 = .ok (.aload_n 0, 1) := by decide +kernel
theorem dX10_openOnes_14 : decode cX10_openOnes 14 = .ok (.iload_n 2, 1) := by decide +kernel
theorem dX10_openOnes_15 : decode cX10_openOnes 15 = .ok (.invokevirtual 368, 3) := by decide +kernel
theorem dX10_openOnes_18 : decode cX10_openOnes 18 = .ok (.ifCond .ne 7, 3) := by decide +kernel
theorem dX10_openOnes_21 : decode cX10_openOnes 21 = .ok (.iconst 1, 1) := by decide +kernel
theorem dX10_openOnes_22 : decode cX10_openOnes 22 = .ok (.goto 4, 3) := by decide +kernel
theorem dX10_openOnes_25 : decode cX10_openOnes 25 = .ok (.iconst 0, 1) := by decide +kernel
theorem dX10_openOnes_26 : decode cX10_openOnes 26 = .ok (.invokestatic 155, 3) := by decide +kernel
theorem dX10_openOnes_29 : decode cX10_openOnes 29 = .ok (.iadd, 1) := by decide +kernel
theorem dX10_openOnes_30 : decode cX10_openOnes 30 = .ok (.istore_n 1, 1) := by decide +kernel
theorem dX10_openOnes_31 : decode cX10_openOnes 31 = .ok (.iinc 2 1, 3) := by decide +kernel
theorem dX10_openOnes_34 : decode cX10_openOnes 34 = .ok (.goto (-30), 3) := by decide +kernel
theorem dX10_openOnes_37 : decode cX10_openOnes 37 = .ok (.iload_n 1, 1) := by decide +kernel
theorem dX10_openOnes_38 : decode cX10_openOnes 38 = .ok (.ireturn, 1) := by decide +kernel
theorem dX10_match_0 : decode cX10_match 0 = .ok (.iload_n 1, 1) := by decide +kernel
theorem dX10_match_1 : decode cX10_match 1 = .ok (.invokestatic 277, 3) := by decide +kernel
theorem dX10_match_4 : decode cX10_match 4 = .ok (.ifCond .eq 10, 3) := by decide +kernel
theorem dX10_match_7 : decode cX10_match 7 = .ok (.iload_n 2, 1) := by decide +kernel
theorem dX10_match_8 : decode cX10_match 8 = .ok (.invokestatic 277, 3) := by decide +kernel
theorem dX10_match_11 : decode cX10_match 11 = .ok (.ifCond .ne 7, 3) := by decide +kernel
theorem dX10_match_14 : decode cX10_match 14 = .ok (.sipush (-1001), 3) := by decide +kernel
theorem dX10_match_17 : decode cX10_match 17 = .ok (.ireturn, 1) := by decide +kernel
theorem dX10_match_18 : decode cX10_match 18 = .ok (.iload_n 3, 1) := by decide +kernel
theorem dX10_match_19 : decode cX10_match 19 = .ok (.i2l, 1) := by decide +kernel
theorem dX10_match_20 : decode cX10_match 20 = .ok (.lconst 0, 1) := by decide +kernel
theorem dX10_match_21 : decode cX10_match 21 = .ok (.ldc2_w 129, 3) := by decide +kernel
theorem dX10_match_24 : decode cX10_match 24 = .ok (.invokestatic 117, 3) := by decide +kernel
theorem dX10_match_27 : decode cX10_match 27 = .ok (.ifCond .eq 8, 3) := by decide +kernel
theorem dX10_match_30 : decode cX10_match 30 = .ok (.iload_n 1, 1) := by decide +kernel
theorem dX10_match_31 : decode cX10_match 31 = .ok (.iload_n 2, 1) := by decide +kernel
theorem dX10_match_32 : decode cX10_match 32 = .ok (.if_icmp .ne 7, 3) := by decide +kernel
theorem dX10_match_35 : decode cX10_match 35 = .ok (.sipush (-1002), 3) := by decide +kernel
theorem dX10_match_38 : decode cX10_match 38 = .ok (.ireturn, 1) := by decide +kernel
theorem dX10_match_39 : decode cX10_match 39 = .ok (.aload_n 0, 1) := by decide +kernel
theorem dX10_match_40 : decode cX10_match 40 = .ok (.getfield 195, 3) := by decide +kernel
theorem dX10_match_43 : decode cX10_match 43 = .ok (.bipush 24, 2) := by decide +kernel
theorem dX10_match_45 : decode cX10_match 45 = .ok (.if_icmp .ne 7, 3) := by decide +kernel
theorem dX10_match_48 : decode cX10_match 48 = .ok (.sipush (-1004), 3) := by decide +kernel
theorem dX10_match_51 : decode cX10_match 51 = .ok (.ireturn, 1) := by decide +kernel
theorem dX10_match_52 : decode cX10_match 52 = .ok (.aload_n 0, 1) := by decide +kernel
theorem dX10_match_53 : decode cX10_match 53 = .ok (.getfield 76, 3) := by decide +kernel
theorem dX10_match_56 : decode cX10_match 56 = .ok (.aload_n 0, 1) := by decide +kernel
theorem dX10_match_57 : decode cX10_match 57 = .ok (.getfield 195, 3) := by decide +kernel
theorem dX10_match_60 : decode cX10_match 60 = .ok (.iload_n 1, 1) := by decide +kernel
theorem dX10_match_61 : decode cX10_match 61 = .ok (.iastore, 1) := by decide +kernel
theorem dX10_match_62 : decode cX10_match 62 = .ok (.aload_n 0, 1) := by decide +kernel
theorem dX10_match_63 : decode cX10_match 63 = .ok (.getfield 79, 3) := by decide +kernel
theorem dX10_match_66 : decode cX10_match 66 = .ok (.aload_n 0, 1) := by decide +kernel
theorem dX10_match_67 : decode cX10_match 67 = .ok (.getfield 195, 3) := by decide +kernel
theorem dX10_match_70 : decode cX10_match 70 = .ok (.iload_n 2, 1) := by decide +kernel
theorem dX10_match_71 : decode cX10_match 71 = .ok (.iastore, 1) := by decide +kernel
theorem dX10_match_72 : decode cX10_match 72 = .ok (.aload_n 0, 1) := by decide +kernel
theorem dX10_match_73 : decode cX10_match 73 = .ok (.getfield 82, 3) := by decide +kernel
theorem dX10_match_76 : decode cX10_match 76 = .ok (.aload_n 0, 1) := by decide +kernel
theorem dX10_match_77 : decode cX10_match 77 = .ok (.getfield 195, 3) := by decide +kernel
theorem dX10_match_80 : decode cX10_match 80 = .ok (.iload_n 3, 1) := by decide +kernel
theorem dX10_match_81 : decode cX10_match 81 = .ok (.iastore, 1) := by decide +kernel
theorem dX10_match_82 : decode cX10_match 82 = .ok (.aload_n 0, 1) := by decide +kernel
theorem dX10_match_83 : decode cX10_match 83 = .ok (.getfield 85, 3) := by decide +kernel
theorem dX10_match_86 : decode cX10_match 86 = .ok (.aload_n 0, 1) := by decide +kernel
theorem dX10_match_87 : decode cX10_match 87 = .ok (.getfield 195, 3) := by decide +kernel
theorem dX10_match_90 : decode cX10_match 90 = .ok (.iconst 0, 1) := by decide +kernel
theorem dX10_match_91 : decode cX10_match 91 = .ok (.bastore, 1) := by decide +kernel
theorem dX10_match_92 : decode cX10_match 92 = .ok (.aload_n 0, 1) := by decide +kernel
theorem dX10_match_93 : decode cX10_match 93 = .ok (.getfield 88, 3) := by decide +kernel
theorem dX10_match_96 : decode cX10_match 96 = .ok (.aload_n 0, 1) := by decide +kernel
theorem dX10_match_97 : decode cX10_match 97 = .ok (.getfield 195, 3) := by decide +kernel
theorem dX10_match_100 : decode cX10_match 100 = .ok (.iconst 0, 1) := by decide +kernel
theorem dX10_match_101 : decode cX10_match 101 = .ok (.iastore, 1) := by decide +kernel
theorem dX10_match_102 : decode cX10_match 102 = .ok (.aload_n 0, 1) := by decide +kernel
theorem dX10_match_103 : decode cX10_match 103 = .ok (.dup, 1) := by decide +kernel
theorem dX10_match_104 : decode cX10_match 104 = .ok (.getfield 195, 3) := by decide +kernel
theorem dX10_match_107 : decode cX10_match 107 = .ok (.iconst 1, 1) := by decide +kernel
theorem dX10_match_108 : decode cX10_match 108 = .ok (.iadd, 1) := by decide +kernel
theorem dX10_match_109 : decode cX10_match 109 = .ok (.putfield 195, 3) := by decide +kernel
theorem dX10_match_112 : decode cX10_match 112 = .ok (.aload_n 0, 1) := by decide +kernel
theorem dX10_match_113 : decode cX10_match 113 = .ok (.getfield 195, 3) := by decide +kernel
theorem dX10_match_116 : decode cX10_match 116 = .ok (.iconst 1, 1) := by decide +kernel
theorem dX10_match_117 : decode cX10_match 117 = .ok (.isub, 1) := by decide +kernel
theorem dX10_match_118 : decode cX10_match 118 = .ok (.ireturn, 1) := by decide +kernel
theorem dX10_end_0 : decode cX10_end 0 = .ok (.aload_n 0, 1) := by decide +kernel
theorem dX10_end_1 : decode cX10_end 1 = .ok (.iload_n 1, 1) := by decide +kernel
theorem dX10_end_2 : decode cX10_end 2 = .ok (.invokevirtual 371, 3) := by decide +kernel
theorem dX10_end_5 : decode cX10_end 5 = .ok (.ifCond .eq 7, 3) := by decide +kernel
theorem dX10_end_8 : decode cX10_end 8 = .ok (.sipush (-1001), 3) := by decide +kernel
theorem dX10_end_11 : decode cX10_end 11 = .ok (.ireturn, 1) := by decide +kernel
theorem dX10_end_12 : decode cX10_end 12 = .ok (.iload_n 2, 1) := by decide +kernel
theorem dX10_end_13 : decode cX10_end 13 = .ok (.i2l, 1) := by decide +kernel
theorem dX10_end_14 : decode cX10_end 14 = .ok (.ldc2_w 374, 3) := by decide +kernel
theorem dX10_end_17 : decode cX10_end 17 = .ok (.ldc2_w 376, 3) := by decide +kernel
theorem dX10_end_20 : decode cX10_end 20 = .ok (.invokestatic 117, 3) := by decide +kernel
theorem dX10_end_23 : decode cX10_end 23 = .ok (.ifCond .ne 7, 3) := by decide +kernel
theorem dX10_end_26 : decode cX10_end 26 = .ok (.sipush (-1002), 3) := by decide +kernel
theorem dX10_end_29 : decode cX10_end 29 = .ok (.ireturn, 1) := by decide +kernel
theorem dX10_end_30 : decode cX10_end 30 = .ok (.aload_n 0, 1) := by decide +kernel
theorem dX10_end_31 : decode cX10_end 31 = .ok (.iload_n 1, 1) := by decide +kernel
theorem dX10_end_32 : decode cX10_end 32 = .ok (.invokevirtual 368, 3) := by decide +kernel
theorem dX10_end_35 : decode cX10_end 35 = .ok (.ifCond .eq 7, 3) := by decide +kernel
theorem dX10_end_38 : decode cX10_end 38 = .ok (.sipush (-1003), 3) := by decide +kernel
theorem dX10_end_41 : decode cX10_end 41 = .ok (.ireturn, 1) := by decide +kernel
theorem dX10_end_42 : decode cX10_end 42 = .ok (.aload_n 0, 1) := by decide +kernel
theorem dX10_end_43 : decode cX10_end 43 = .ok (.getfield 88, 3) := by decide +kernel
theorem dX10_end_46 : decode cX10_end 46 = .ok (.iload_n 1, 1) := by decide +kernel
theorem dX10_end_47 : decode cX10_end 47 = .ok (.iaload, 1) := by decide +kernel
theorem dX10_end_48 : decode cX10_end 48 = .ok (.bipush 40, 2) := by decide +kernel
theorem dX10_end_50 : decode cX10_end 50 = .ok (.if_icmp .ne 7, 3) := by decide +kernel
theorem dX10_end_53 : decode cX10_end 53 = .ok (.sipush (-1004), 3) := by decide +kernel
theorem dX10_end_56 : decode cX10_end 56 = .ok (.ireturn, 1) := by decide +kernel
theorem dX10_end_57 : decode cX10_end 57 = .ok (.aload_n 0, 1) := by decide +kernel
theorem dX10_end_58 : decode cX10_end 58 = .ok (.getfield 91, 3) := by decide +kernel
theorem dX10_end_61 : decode cX10_end 61 = .ok (.bipush 40, 2) := by decide +kernel
theorem dX10_end_63 : decode cX10_end 63 = .ok (.iload_n 1, 1) := by decide +kernel
theorem dX10_end_64 : decode cX10_end 64 = .ok (.imul, 1) := by decide +kernel
theorem dX10_end_65 : decode cX10_end 65 = .ok (.aload_n 0, 1) := by decide +kernel
theorem dX10_end_66 : decode cX10_end 66 = .ok (.getfield 88, 3) := by decide +kernel
theorem dX10_end_69 : decode cX10_end 69 = .ok (.iload_n 1, 1) := by decide +kernel
theorem dX10_end_70 : decode cX10_end 70 = .ok (.iaload, 1) := by decide +kernel
theorem dX10_end_71 : decode cX10_end 71 = .ok (.iadd, 1) := by decide +kernel
theorem dX10_end_72 : decode cX10_end 72 = .ok (.iload_n 2, 1) := by decide +kernel
theorem dX10_end_73 : decode cX10_end 73 = .ok (.iastore, 1) := by decide +kernel
theorem dX10_end_74 : decode cX10_end 74 = .ok (.aload_n 0, 1) := by decide +kernel
theorem dX10_end_75 : decode cX10_end 75 = .ok (.getfield 88, 3) := by decide +kernel
theorem dX10_end_78 : decode cX10_end 78 = .ok (.iload_n 1, 1) := by decide +kernel
theorem dX10_end_79 : decode cX10_end 79 = .ok (.dup2, 1) := by decide +kernel
theorem dX10_end_80 : decode cX10_end 80 = .ok (.iaload, 1) := by decide +kernel
theorem dX10_end_81 : decode cX10_end 81 = .ok (.iconst 1, 1) := by decide +kernel
theorem dX10_end_82 : decode cX10_end 82 = .ok (.iadd, 1) := by decide +kernel
theorem dX10_end_83 : decode cX10_end 83 = .ok (.iastore, 1) := by decide +kernel
theorem dX10_end_84 : decode cX10_end 84 = .ok (.aload_n 0, 1) := by decide +kernel
theorem dX10_end_85 : decode cX10_end 85 = .ok (.getfield 88, 3) := by decide +kernel
theorem dX10_end_88 : decode cX10_end 88 = .ok (.iload_n 1, 1) := by decide +kernel
theorem dX10_end_89 : decode cX10_end 89 = .ok (.iaload, 1) := by decide +kernel
theorem dX10_end_90 : decode cX10_end 90 = .ok (.iconst 1, 1) := by decide +kernel
theorem dX10_end_91 : decode cX10_end 91 = .ok (.isub, 1) := by decide +kernel
theorem dX10_end_92 : decode cX10_end 92 = .ok (.ireturn, 1) := by decide +kernel
theorem dX10_mend_0 : decode cX10_mend 0 = .ok (.aload_n 0, 1) := by decide +kernel
theorem dX10_mend_1 : decode cX10_mend 1 = .ok (.iload_n 1, 1) := by decide +kernel
theorem dX10_mend_2 : decode cX10_mend 2 = .ok (.invokevirtual 371, 3) := by decide +kernel
theorem dX10_mend_5 : decode cX10_mend 5 = .ok (.ifCond .ne 21, 3) := by decide +kernel
theorem dX10_mend_8 : decode cX10_mend 8 = .ok (.iload_n 2, 1) := by decide +kernel
theorem dX10_mend_9 : decode cX10_mend 9 = .ok (.i2l, 1) := by decide +kernel
theorem dX10_mend_10 : decode cX10_mend 10 = .ok (.lconst 0, 1) := by decide +kernel
theorem dX10_mend_11 : decode cX10_mend 11 = .ok (.aload_n 0, 1) := by decide +kernel
theorem dX10_mend_12 : decode cX10_mend 12 = .ok (.getfield 88, 3) := by decide +kernel
theorem dX10_mend_15 : decode cX10_mend 15 = .ok (.iload_n 1, 1) := by decide +kernel
theorem dX10_mend_16 : decode cX10_mend 16 = .ok (.iaload, 1) := by decide +kernel
theorem dX10_mend_17 : decode cX10_mend 17 = .ok (.iconst 1, 1) := by decide +kernel
theorem dX10_mend_18 : decode cX10_mend 18 = .ok (.isub, 1) := by decide +kernel
theorem dX10_mend_19 : decode cX10_mend 19 = .ok (.i2l, 1) := by decide +kernel
theorem dX10_mend_20 : decode cX10_mend 20 = .ok (.invokestatic 117, 3) := by decide +kernel
theorem dX10_mend_23 : decode cX10_mend 23 = .ok (.ifCond .ne 7, 3) := by decide +kernel
theorem dX10_mend_26 : decode cX10_mend 26 = .ok (.sipush (-1001), 3) := by decide +kernel
theorem dX10_mend_29 : decode cX10_mend 29 = .ok (.ireturn, 1) := by decide +kernel
theorem dX10_mend_30 : decode cX10_mend 30 = .ok (.iload_n 3, 1) := by decide +kernel
theorem dX10_mend_31 : decode cX10_mend 31 = .ok (.i2l, 1) := by decide +kernel
theorem dX10_mend_32 : decode cX10_mend 32 = .ok (.ldc2_w 374, 3) := by decide +kernel
theorem dX10_mend_35 : decode cX10_mend 35 = .ok (.ldc2_w 376, 3) := by decide +kernel
theorem dX10_mend_38 : decode cX10_mend 38 = .ok (.invokestatic 117, 3) := by decide +kernel
theorem dX10_mend_41 : decode cX10_mend 41 = .ok (.ifCond .ne 7, 3) := by decide +kernel
theorem dX10_mend_44 : decode cX10_mend 44 = .ok (.sipush (-1002), 3) := by decide +kernel
theorem dX10_mend_47 : decode cX10_mend 47 = .ok (.ireturn, 1) := by decide +kernel
theorem dX10_mend_48 : decode cX10_mend 48 = .ok (.aload_n 0, 1) := by decide +kernel
theorem dX10_mend_49 : decode cX10_mend 49 = .ok (.getfield 91, 3) := by decide +kernel
theorem dX10_mend_52 : decode cX10_mend 52 = .ok (.bipush 40, 2) := by decide +kernel
theorem dX10_mend_54 : decode cX10_mend 54 = .ok (.iload_n 1, 1) := by decide +kernel
theorem dX10_mend_55 : decode cX10_mend 55 = .ok (.imul, 1) := by decide +kernel
theorem dX10_mend_56 : decode cX10_mend 56 = .ok (.iload_n 2, 1) := by decide +kernel
theorem dX10_mend_57 : decode cX10_mend 57 = .ok (.iadd, 1) := by decide +kernel
theorem dX10_mend_58 : decode cX10_mend 58 = .ok (.iaload, 1) := by decide +kernel
theorem dX10_mend_59 : decode cX10_mend 59 = .ok (.istore 4, 2) := by decide +kernel
theorem dX10_mend_61 : decode cX10_mend 61 = .ok (.aload_n 0, 1) := by decide +kernel
theorem dX10_mend_62 : decode cX10_mend 62 = .ok (.getfield 91, 3) := by decide +kernel
theorem dX10_mend_65 : decode cX10_mend 65 = .ok (.bipush 40, 2) := by decide +kernel
theorem dX10_mend_67 : decode cX10_mend 67 = .ok (.iload_n 1, 1) := by decide +kernel
theorem dX10_mend_68 : decode cX10_mend 68 = .ok (.imul, 1) := by decide +kernel
theorem dX10_mend_69 : decode cX10_mend 69 = .ok (.iload_n 2, 1) := by decide +kernel
theorem dX10_mend_70 : decode cX10_mend 70 = .ok (.iadd, 1) := by decide +kernel
theorem dX10_mend_71 : decode cX10_mend 71 = .ok (.iload_n 3, 1) := by decide +kernel
theorem dX10_mend_72 : decode cX10_mend 72 = .ok (.iastore, 1) := by decide +kernel
theorem dX10_mend_73 : decode cX10_mend 73 = .ok (.iload 4, 2) := by decide +kernel
theorem dX10_mend_75 : decode cX10_mend 75 = .ok (.ireturn, 1) := by decide +kernel
theorem dX10_dusk_0 : decode cX10_dusk 0 = .ok (.aload_n 0, 1) := by decide +kernel
theorem dX10_dusk_1 : decode cX10_dusk 1 = .ok (.iload_n 1, 1) := by decide +kernel
theorem dX10_dusk_2 : decode cX10_dusk 2 = .ok (.invokevirtual 371, 3) := by decide +kernel
theorem dX10_dusk_5 : decode cX10_dusk 5 = .ok (.ifCond .eq 7, 3) := by decide +kernel
theorem dX10_dusk_8 : decode cX10_dusk 8 = .ok (.sipush (-1001), 3) := by decide +kernel
theorem dX10_dusk_11 : decode cX10_dusk 11 = .ok (.ireturn, 1) := by decide +kernel
theorem dX10_dusk_12 : decode cX10_dusk 12 = .ok (.aload_n 0, 1) := by decide +kernel
theorem dX10_dusk_13 : decode cX10_dusk 13 = .ok (.iload_n 1, 1) := by decide +kernel
theorem dX10_dusk_14 : decode cX10_dusk 14 = .ok (.invokevirtual 368, 3) := by decide +kernel
theorem dX10_dusk_17 : decode cX10_dusk 17 = .ok (.ifCond .eq 7, 3) := by decide +kernel
theorem dX10_dusk_20 : decode cX10_dusk 20 = .ok (.sipush (-1003), 3) := by decide +kernel
theorem dX10_dusk_23 : decode cX10_dusk 23 = .ok (.ireturn, 1) := by decide +kernel
theorem dX10_dusk_24 : decode cX10_dusk 24 = .ok (.aload_n 0, 1) := by decide +kernel
theorem dX10_dusk_25 : decode cX10_dusk 25 = .ok (.getfield 85, 3) := by decide +kernel
theorem dX10_dusk_28 : decode cX10_dusk 28 = .ok (.iload_n 1, 1) := by decide +kernel
theorem dX10_dusk_29 : decode cX10_dusk 29 = .ok (.iconst 1, 1) := by decide +kernel
theorem dX10_dusk_30 : decode cX10_dusk 30 = .ok (.bastore, 1) := by decide +kernel
theorem dX10_dusk_31 : decode cX10_dusk 31 = .ok (.iconst 1, 1) := by decide +kernel
theorem dX10_dusk_32 : decode cX10_dusk 32 = .ok (.ireturn, 1) := by decide +kernel
theorem dX10_about_0 : decode cX10_about 0 = .ok (.aload_n 0, 1) := by decide +kernel
theorem dX10_about_1 : decode cX10_about 1 = .ok (.iload_n 1, 1) := by decide +kernel
theorem dX10_about_2 : decode cX10_about 2 = .ok (.invokevirtual 371, 3) := by decide +kernel
theorem dX10_about_5 : decode cX10_about 5 = .ok (.ifCond .eq 7, 3) := by decide +kernel
theorem dX10_about_8 : decode cX10_about 8 = .ok (.sipush (-1001), 3) := by decide +kernel
theorem dX10_about_11 : decode cX10_about 11 = .ok (.ireturn, 1) := by decide +kernel
theorem dX10_about_12 : decode cX10_about 12 = .ok (.aload_n 0, 1) := by decide +kernel
theorem dX10_about_13 : decode cX10_about 13 = .ok (.iload_n 1, 1) := by decide +kernel
theorem dX10_about_14 : decode cX10_about 14 = .ok (.invokevirtual 368, 3) := by decide +kernel
theorem dX10_about_17 : decode cX10_about 17 = .ok (.istore_n 3, 1) := by decide +kernel
theorem dX10_about_18 : decode cX10_about 18 = .ok (.iload_n 2, 1) := by decide +kernel
theorem dX10_about_19 : decode cX10_about 19 = .ok (.tableswitch 90 0 7 #[45, 52, 59, 66, 73, 78, 83, 88], 45) := by decide +kernel
theorem dX10_about_64 : decode cX10_about 64 = .ok (.aload_n 0, 1) := by decide +kernel
theorem dX10_about_65 : decode cX10_about 65 = .ok (.getfield 76, 3) := by decide +kernel
theorem dX10_about_68 : decode cX10_about 68 = .ok (.iload_n 1, 1) := by decide +kernel
theorem dX10_about_69 : decode cX10_about 69 = .ok (.iaload, 1) := by decide +kernel
theorem dX10_about_70 : decode cX10_about 70 = .ok (.ireturn, 1) := by decide +kernel
theorem dX10_about_71 : decode cX10_about 71 = .ok (.aload_n 0, 1) := by decide +kernel
theorem dX10_about_72 : decode cX10_about 72 = .ok (.getfield 79, 3) := by decide +kernel
theorem dX10_about_75 : decode cX10_about 75 = .ok (.iload_n 1, 1) := by decide +kernel
theorem dX10_about_76 : decode cX10_about 76 = .ok (.iaload, 1) := by decide +kernel
theorem dX10_about_77 : decode cX10_about 77 = .ok (.ireturn, 1) := by decide +kernel
theorem dX10_about_78 : decode cX10_about 78 = .ok (.aload_n 0, 1) := by decide +kernel
theorem dX10_about_79 : decode cX10_about 79 = .ok (.getfield 82, 3) := by decide +kernel
theorem dX10_about_82 : decode cX10_about 82 = .ok (.iload_n 1, 1) := by decide +kernel
theorem dX10_about_83 : decode cX10_about 83 = .ok (.iaload, 1) := by decide +kernel
theorem dX10_about_84 : decode cX10_about 84 = .ok (.ireturn, 1) := by decide +kernel
theorem dX10_about_85 : decode cX10_about 85 = .ok (.aload_n 0, 1) := by decide +kernel
theorem dX10_about_86 : decode cX10_about 86 = .ok (.getfield 88, 3) := by decide +kernel
theorem dX10_about_89 : decode cX10_about 89 = .ok (.iload_n 1, 1) := by decide +kernel
theorem dX10_about_90 : decode cX10_about 90 = .ok (.iaload, 1) := by decide +kernel
theorem dX10_about_91 : decode cX10_about 91 = .ok (.ireturn, 1) := by decide +kernel
theorem dX10_about_92 : decode cX10_about 92 = .ok (.aload_n 0, 1) := by decide +kernel
theorem dX10_about_93 : decode cX10_about 93 = .ok (.getfield 362, 3) := by decide +kernel
theorem dX10_about_96 : decode cX10_about 96 = .ok (.ireturn, 1) := by decide +kernel
theorem dX10_about_97 : decode cX10_about 97 = .ok (.aload_n 0, 1) := by decide +kernel
theorem dX10_about_98 : decode cX10_about 98 = .ok (.getfield 356, 3) := by decide +kernel
theorem dX10_about_101 : decode cX10_about 101 = .ok (.ireturn, 1) := by decide +kernel
theorem dX10_about_102 : decode cX10_about 102 = .ok (.aload_n 0, 1) := by decide +kernel
theorem dX10_about_103 : decode cX10_about 103 = .ok (.getfield 359, 3) := by decide +kernel
theorem dX10_about_106 : decode cX10_about 106 = .ok (.ireturn, 1) := by decide +kernel
theorem dX10_about_107 : decode cX10_about 107 = .ok (.iload_n 3, 1) := by decide +kernel
theorem dX10_about_108 : decode cX10_about 108 = .ok (.ireturn, 1) := by decide +kernel
theorem dX10_about_109 : decode cX10_about 109 = .ok (.sipush (-1002), 3) := by decide +kernel
theorem dX10_about_112 : decode cX10_about 112 = .ok (.ireturn, 1) := by decide +kernel
theorem dX10_sumOf_0 : decode cX10_sumOf 0 = .ok (.iconst 0, 1) := by decide +kernel
theorem dX10_sumOf_1 : decode cX10_sumOf 1 = .ok (.istore 4, 2) := by decide +kernel
theorem dX10_sumOf_3 : decode cX10_sumOf 3 = .ok (.iconst 0, 1) := by decide +kernel
theorem dX10_sumOf_4 : decode cX10_sumOf 4 = .ok (.istore 5, 2) := by decide +kernel
theorem dX10_sumOf_6 : decode cX10_sumOf 6 = .ok (.iload 5, 2) := by decide +kernel
theorem dX10_sumOf_8 : decode cX10_sumOf 8 = .ok (.aload_n 0, 1) := by decide +kernel
theorem dX10_sumOf_9 : decode cX10_sumOf 9 = .ok (.getfield 195, 3) := by decide +kernel
theorem dX10_sumOf_12 : decode cX10_sumOf 12 = .ok (.if_icmp .ge 262, 3) := by decide +kernel
theorem dX10_sumOf_15 : decode cX10_sumOf 15 = .ok (.aload_n 0, 1) := by decide +kernel
theorem dX10_sumOf_16 : decode cX10_sumOf 16 = .ok (.getfield 76, 3) := by decide +kernel
theorem dX10_sumOf_19 : decode cX10_sumOf 19 = .ok (.iload 5, 2) := by decide +kernel
theorem dX10_sumOf_21 : decode cX10_sumOf 21 = .ok (.iaload, 1) := by decide +kernel
theorem dX10_sumOf_22 : decode cX10_sumOf 22 = .ok (.iload_n 1, 1) := by decide +kernel
theorem dX10_sumOf_23 : decode cX10_sumOf 23 = .ok (.if_icmp .eq 14, 3) := by decide +kernel
theorem dX10_sumOf_26 : decode cX10_sumOf 26 = .ok (.aload_n 0, 1) := by decide +kernel
theorem dX10_sumOf_27 : decode cX10_sumOf 27 = .ok (.getfield 79, 3) := by decide +kernel
theorem dX10_sumOf_30 : decode cX10_sumOf 30 = .ok (.iload 5, 2) := by decide +kernel
theorem dX10_sumOf_32 : decode cX10_sumOf 32 = .ok (.iaload, 1) := by decide +kernel
theorem dX10_sumOf_33 : decode cX10_sumOf 33 = .ok (.iload_n 1, 1) := by decide +kernel
theorem dX10_sumOf_34 : decode cX10_sumOf 34 = .ok (.if_icmp .ne 7, 3) := by decide +kernel
theorem dX10_sumOf_37 : decode cX10_sumOf 37 = .ok (.iconst 1, 1) := by decide +kernel
theorem dX10_sumOf_38 : decode cX10_sumOf 38 = .ok (.goto 4, 3) := by decide +kernel
theorem dX10_sumOf_41 : decode cX10_sumOf 41 = .ok (.iconst 0, 1) := by decide +kernel
theorem dX10_sumOf_42 : decode cX10_sumOf 42 = .ok (.istore 6, 2) := by decide +kernel
theorem dX10_sumOf_44 : decode cX10_sumOf 44 = .ok (.aload_n 0, 1) := by decide +kernel
theorem dX10_sumOf_45 : decode cX10_sumOf 45 = .ok (.getfield 76, 3) := by decide +kernel
theorem dX10_sumOf_48 : decode cX10_sumOf 48 = .ok (.iload 5, 2) := by decide +kernel
theorem dX10_sumOf_50 : decode cX10_sumOf 50 = .ok (.iaload, 1) := by decide +kernel
theorem dX10_sumOf_51 : decode cX10_sumOf 51 = .ok (.iload_n 1, 1) := by decide +kernel
theorem dX10_sumOf_52 : decode cX10_sumOf 52 = .ok (.if_icmp .ne 13, 3) := by decide +kernel
theorem dX10_sumOf_55 : decode cX10_sumOf 55 = .ok (.aload_n 0, 1) := by decide +kernel
theorem dX10_sumOf_56 : decode cX10_sumOf 56 = .ok (.getfield 79, 3) := by decide +kernel
theorem dX10_sumOf_59 : decode cX10_sumOf 59 = .ok (.iload 5, 2) := by decide +kernel
theorem dX10_sumOf_61 : decode cX10_sumOf 61 = .ok (.iaload, 1) := by decide +kernel
theorem dX10_sumOf_62 : decode cX10_sumOf 62 = .ok (.goto 10, 3) := by decide +kernel
theorem dX10_sumOf_65 : decode cX10_sumOf 65 = .ok (.aload_n 0, 1) := by decide +kernel
theorem dX10_sumOf_66 : decode cX10_sumOf 66 = .ok (.getfield 76, 3) := by decide +kernel
theorem dX10_sumOf_69 : decode cX10_sumOf 69 = .ok (.iload 5, 2) := by decide +kernel
theorem dX10_sumOf_71 : decode cX10_sumOf 71 = .ok (.iaload, 1) := by decide +kernel
theorem dX10_sumOf_72 : decode cX10_sumOf 72 = .ok (.istore 7, 2) := by decide +kernel
theorem dX10_sumOf_74 : decode cX10_sumOf 74 = .ok (.iload 6, 2) := by decide +kernel
theorem dX10_sumOf_76 : decode cX10_sumOf 76 = .ok (.ifCond .eq 192, 3) := by decide +kernel
theorem dX10_sumOf_79 : decode cX10_sumOf 79 = .ok (.iload_n 2, 1) := by decide +kernel
theorem dX10_sumOf_80 : decode cX10_sumOf 80 = .ok (.iload 7, 2) := by decide +kernel
theorem dX10_sumOf_82 : decode cX10_sumOf 82 = .ok (.ishr, 1) := by decide +kernel
theorem dX10_sumOf_83 : decode cX10_sumOf 83 = .ok (.iconst 1, 1) := by decide +kernel
theorem dX10_sumOf_84 : decode cX10_sumOf 84 = .ok (.iand, 1) := by decide +kernel
theorem dX10_sumOf_85 : decode cX10_sumOf 85 = .ok (.iconst 1, 1) := by decide +kernel
theorem dX10_sumOf_86 : decode cX10_sumOf 86 = .ok (.if_icmp .ne 182, 3) := by decide +kernel
theorem dX10_sumOf_89 : decode cX10_sumOf 89 = .ok (.aload_n 0, 1) := by decide +kernel
theorem dX10_sumOf_90 : decode cX10_sumOf 90 = .ok (.iload 5, 2) := by decide +kernel
theorem dX10_sumOf_92 : decode cX10_sumOf 92 = .ok (.invokevirtual 368, 3) := by decide +kernel
theorem dX10_sumOf_95 : decode cX10_sumOf 95 = .ok (.istore 8, 2) := by decide +kernel
theorem dX10_sumOf_97 : decode cX10_sumOf 97 = .ok (.aload_n 0, 1) := by decide +kernel
theorem dX10_sumOf_98 : decode cX10_sumOf 98 = .ok (.getfield 76, 3) := by decide +kernel
theorem dX10_sumOf_101 : decode cX10_sumOf 101 = .ok (.iload 5, 2) := by decide +kernel
theorem dX10_sumOf_103 : decode cX10_sumOf 103 = .ok (.iaload, 1) := by decide +kernel
theorem dX10_sumOf_104 : decode cX10_sumOf 104 = .ok (.iload_n 1, 1) := by decide +kernel
theorem dX10_sumOf_105 : decode cX10_sumOf 105 = .ok (.if_icmp .ne 7, 3) := by decide +kernel
theorem dX10_sumOf_108 : decode cX10_sumOf 108 = .ok (.iconst 1, 1) := by decide +kernel
theorem dX10_sumOf_109 : decode cX10_sumOf 109 = .ok (.goto 4, 3) := by decide +kernel
theorem dX10_sumOf_112 : decode cX10_sumOf 112 = .ok (.iconst 0, 1) := by decide +kernel
theorem dX10_sumOf_113 : decode cX10_sumOf 113 = .ok (.istore 9, 2) := by decide +kernel
theorem dX10_sumOf_115 : decode cX10_sumOf 115 = .ok (.iload 8, 2) := by decide +kernel
theorem dX10_sumOf_117 : decode cX10_sumOf 117 = .ok (.iload 9, 2) := by decide +kernel
theorem dX10_sumOf_119 : decode cX10_sumOf 119 = .ok (.ifCond .eq 7, 3) := by decide +kernel
theorem dX10_sumOf_122 : decode cX10_sumOf 122 = .ok (.iconst 1, 1) := by decide +kernel
theorem dX10_sumOf_123 : decode cX10_sumOf 123 = .ok (.goto 4, 3) := by decide +kernel
theorem dX10_sumOf_126 : decode cX10_sumOf 126 = .ok (.iconst 2, 1) := by decide +kernel
theorem dX10_sumOf_127 : decode cX10_sumOf 127 = .ok (.if_icmp .ne 7, 3) := by decide +kernel
theorem dX10_sumOf_130 : decode cX10_sumOf 130 = .ok (.iconst 1, 1) := by decide +kernel
theorem dX10_sumOf_131 : decode cX10_sumOf 131 = .ok (.goto 4, 3) := by decide +kernel
theorem dX10_sumOf_134 : decode cX10_sumOf 134 = .ok (.iconst 0, 1) := by decide +kernel
theorem dX10_sumOf_135 : decode cX10_sumOf 135 = .ok (.istore 10, 2) := by decide +kernel
theorem dX10_sumOf_137 : decode cX10_sumOf 137 = .ok (.iload 8, 2) := by decide +kernel
theorem dX10_sumOf_139 : decode cX10_sumOf 139 = .ok (.iload 9, 2) := by decide +kernel
theorem dX10_sumOf_141 : decode cX10_sumOf 141 = .ok (.ifCond .eq 7, 3) := by decide +kernel
theorem dX10_sumOf_144 : decode cX10_sumOf 144 = .ok (.iconst 2, 1) := by decide +kernel
theorem dX10_sumOf_145 : decode cX10_sumOf 145 = .ok (.goto 4, 3) := by decide +kernel
theorem dX10_sumOf_148 : decode cX10_sumOf 148 = .ok (.iconst 1, 1) := by decide +kernel
theorem dX10_sumOf_149 : decode cX10_sumOf 149 = .ok (.if_icmp .ne 7, 3) := by decide +kernel
theorem dX10_sumOf_152 : decode cX10_sumOf 152 = .ok (.iconst 1, 1) := by decide +kernel
theorem dX10_sumOf_153 : decode cX10_sumOf 153 = .ok (.goto 4, 3) := by decide +kernel
theorem dX10_sumOf_156 : decode cX10_sumOf 156 = .ok (.iconst 0, 1) := by decide +kernel
theorem dX10_sumOf_157 : decode cX10_sumOf 157 = .ok (.istore 11, 2) := by decide +kernel
theorem dX10_sumOf_159 : decode cX10_sumOf 159 = .ok (.iload 9, 2) := by decide +kernel
theorem dX10_sumOf_161 : decode cX10_sumOf 161 = .ok (.ifCond .eq 10, 3) := by decide +kernel
theorem dX10_sumOf_164 : decode cX10_sumOf 164 = .ok (.aload_n 0, 1) := by decide +kernel
theorem dX10_sumOf_165 : decode cX10_sumOf 165 = .ok (.getfield 356, 3) := by decide +kernel
theorem dX10_sumOf_168 : decode cX10_sumOf 168 = .ok (.goto 7, 3) := by decide +kernel
theorem dX10_sumOf_171 : decode cX10_sumOf 171 = .ok (.aload_n 0, 1) := by decide +kernel
theorem dX10_sumOf_172 : decode cX10_sumOf 172 = .ok (.getfield 359, 3) := by decide +kernel
theorem dX10_sumOf_175 : decode cX10_sumOf 175 = .ok (.istore 12, 2) := by decide +kernel
theorem dX10_sumOf_177 : decode cX10_sumOf 177 = .ok (.iload 9, 2) := by decide +kernel
theorem dX10_sumOf_179 : decode cX10_sumOf 179 = .ok (.ifCond .eq 10, 3) := by decide +kernel
theorem dX10_sumOf_182 : decode cX10_sumOf 182 = .ok (.aload_n 0, 1) := by decide +kernel
theorem dX10_sumOf_183 : decode cX10_sumOf 183 = .ok (.getfield 359, 3) := by decide +kernel
theorem dX10_sumOf_186 : decode cX10_sumOf 186 = .ok (.goto 7, 3) := by decide +kernel
theorem dX10_sumOf_189 : decode cX10_sumOf 189 = .ok (.aload_n 0, 1) := by decide +kernel
theorem dX10_sumOf_190 : decode cX10_sumOf 190 = .ok (.getfield 356, 3) := by decide +kernel
theorem dX10_sumOf_193 : decode cX10_sumOf 193 = .ok (.istore 13, 2) := by decide +kernel
theorem dX10_sumOf_195 : decode cX10_sumOf 195 = .ok (.iload 4, 2) := by decide +kernel
theorem dX10_sumOf_197 : decode cX10_sumOf 197 = .ok (.iload_n 3, 1) := by decide +kernel
theorem dX10_sumOf_198 : decode cX10_sumOf 198 = .ok (.ifCond .ne 7, 3) := by decide +kernel
theorem dX10_sumOf_201 : decode cX10_sumOf 201 = .ok (.iconst 1, 1) := by decide +kernel
theorem dX10_sumOf_202 : decode cX10_sumOf 202 = .ok (.goto 63, 3) := by decide +kernel
theorem dX10_sumOf_205 : decode cX10_sumOf 205 = .ok (.iload_n 3, 1) := by decide +kernel
theorem dX10_sumOf_206 : decode cX10_sumOf 206 = .ok (.iconst 1, 1) := by decide +kernel
theorem dX10_sumOf_207 : decode cX10_sumOf 207 = .ok (.if_icmp .ne 11, 3) := by decide +kernel
theorem dX10_sumOf_210 : decode cX10_sumOf 210 = .ok (.iload 10, 2) := by decide +kernel
theorem dX10_sumOf_212 : decode cX10_sumOf 212 = .ok (.invokestatic 155, 3) := by decide +kernel
theorem dX10_sumOf_215 : decode cX10_sumOf 215 = .ok (.goto 50, 3) := by decide +kernel
theorem dX10_sumOf_218 : decode cX10_sumOf 218 = .ok (.iload_n 3, 1) := by decide +kernel
theorem dX10_sumOf_219 : decode cX10_sumOf 219 = .ok (.iconst 2, 1) := by decide +kernel
theorem dX10_sumOf_220 : decode cX10_sumOf 220 = .ok (.if_icmp .ne 20, 3) := by decide +kernel
theorem dX10_sumOf_223 : decode cX10_sumOf 223 = .ok (.iload 8, 2) := by decide +kernel
theorem dX10_sumOf_225 : decode cX10_sumOf 225 = .ok (.iconst 3, 1) := by decide +kernel
theorem dX10_sumOf_226 : decode cX10_sumOf 226 = .ok (.if_icmp .ne 7, 3) := by decide +kernel
theorem dX10_sumOf_229 : decode cX10_sumOf 229 = .ok (.iconst 1, 1) := by decide +kernel
theorem dX10_sumOf_230 : decode cX10_sumOf 230 = .ok (.goto 4, 3) := by decide +kernel
theorem dX10_sumOf_233 : decode cX10_sumOf 233 = .ok (.iconst 0, 1) := by decide +kernel
theorem dX10_sumOf_234 : decode cX10_sumOf 234 = .ok (.invokestatic 155, 3) := by decide +kernel
theorem dX10_sumOf_237 : decode cX10_sumOf 237 = .ok (.goto 28, 3) := by decide +kernel
theorem dX10_sumOf_240 : decode cX10_sumOf 240 = .ok (.iload_n 3, 1) := by decide +kernel
theorem dX10_sumOf_241 : decode cX10_sumOf 241 = .ok (.iconst 3, 1) := by decide +kernel
theorem dX10_sumOf_242 : decode cX10_sumOf 242 = .ok (.if_icmp .ne 11, 3) := by decide +kernel
theorem dX10_sumOf_245 : decode cX10_sumOf 245 = .ok (.iload 11, 2) := by decide +kernel
theorem dX10_sumOf_247 : decode cX10_sumOf 247 = .ok (.invokestatic 155, 3) := by decide +kernel
theorem dX10_sumOf_250 : decode cX10_sumOf 250 = .ok (.goto 15, 3) := by decide +kernel
theorem dX10_sumOf_253 : decode cX10_sumOf 253 = .ok (.iload_n 3, 1) := by decide +kernel
theorem dX10_sumOf_254 : decode cX10_sumOf 254 = .ok (.iconst 4, 1) := by decide +kernel
theorem dX10_sumOf_255 : decode cX10_sumOf 255 = .ok (.if_icmp .ne 8, 3) := by decide +kernel
theorem dX10_sumOf_258 : decode cX10_sumOf 258 = .ok (.iload 12, 2) := by decide +kernel
theorem dX10_sumOf_260 : decode cX10_sumOf 260 = .ok (.goto 5, 3) := by decide +kernel
theorem dX10_sumOf_263 : decode cX10_sumOf 263 = .ok (.iload 13, 2) := by decide +kernel
theorem dX10_sumOf_265 : decode cX10_sumOf 265 = .ok (.iadd, 1) := by decide +kernel
theorem dX10_sumOf_266 : decode cX10_sumOf 266 = .ok (.istore 4, 2) := by decide +kernel
theorem dX10_sumOf_268 : decode cX10_sumOf 268 = .ok (.iinc 5 1, 3) := by decide +kernel
theorem dX10_sumOf_271 : decode cX10_sumOf 271 = .ok (.goto (-265), 3) := by decide +kernel
theorem dX10_sumOf_274 : decode cX10_sumOf 274 = .ok (.iload 4, 2) := by decide +kernel
theorem dX10_sumOf_276 : decode cX10_sumOf 276 = .ok (.ireturn, 1) := by decide +kernel
theorem dX10_tableOf_0 : decode cX10_tableOf 0 = .ok (.iconst 2, 1) := by decide +kernel
theorem dX10_tableOf_1 : decode cX10_tableOf 1 = .ok (.aload_n 0, 1) := by decide +kernel
theorem dX10_tableOf_2 : decode cX10_tableOf 2 = .ok (.iload_n 1, 1) := by decide +kernel
theorem dX10_tableOf_3 : decode cX10_tableOf 3 = .ok (.iload_n 2, 1) := by decide +kernel
theorem dX10_tableOf_4 : decode cX10_tableOf 4 = .ok (.iconst 1, 1) := by decide +kernel
theorem dX10_tableOf_5 : decode cX10_tableOf 5 = .ok (.invokevirtual 378, 3) := by decide +kernel
theorem dX10_tableOf_8 : decode cX10_tableOf 8 = .ok (.imul, 1) := by decide +kernel
theorem dX10_tableOf_9 : decode cX10_tableOf 9 = .ok (.aload_n 0, 1) := by decide +kernel
theorem dX10_tableOf_10 : decode cX10_tableOf 10 = .ok (.iload_n 1, 1) := by decide +kernel
theorem dX10_tableOf_11 : decode cX10_tableOf 11 = .ok (.iload_n 2, 1) := by decide +kernel
theorem dX10_tableOf_12 : decode cX10_tableOf 12 = .ok (.iconst 2, 1) := by decide +kernel
theorem dX10_tableOf_13 : decode cX10_tableOf 13 = .ok (.invokevirtual 378, 3) := by decide +kernel
theorem dX10_tableOf_16 : decode cX10_tableOf 16 = .ok (.iadd, 1) := by decide +kernel
theorem dX10_tableOf_17 : decode cX10_tableOf 17 = .ok (.ireturn, 1) := by decide +kernel
theorem dX10_valueOf__0 : decode cX10_valueOf_ 0 = .ok (.iload_n 2, 1) := by decide +kernel
theorem dX10_valueOf__1 : decode cX10_valueOf_ 1 = .ok (.tableswitch 75 0 3 #[31, 39, 48, 66], 31) := by decide +kernel
theorem dX10_valueOf__32 : decode cX10_valueOf_ 32 = .ok (.aload_n 0, 1) := by decide +kernel
theorem dX10_valueOf__33 : decode cX10_valueOf_ 33 = .ok (.iload_n 1, 1) := by decide +kernel
theorem dX10_valueOf__34 : decode cX10_valueOf_ 34 = .ok (.bipush 63, 2) := by decide +kernel
theorem dX10_valueOf__36 : decode cX10_valueOf_ 36 = .ok (.invokevirtual 382, 3) := by decide +kernel
theorem dX10_valueOf__39 : decode cX10_valueOf_ 39 = .ok (.ireturn, 1) := by decide +kernel
theorem dX10_valueOf__40 : decode cX10_valueOf_ 40 = .ok (.aload_n 0, 1) := by decide +kernel
theorem dX10_valueOf__41 : decode cX10_valueOf_ 41 = .ok (.iload_n 1, 1) := by decide +kernel
theorem dX10_valueOf__42 : decode cX10_valueOf_ 42 = .ok (.bipush 63, 2) := by decide +kernel
theorem dX10_valueOf__44 : decode cX10_valueOf_ 44 = .ok (.iconst 1, 1) := by decide +kernel
theorem dX10_valueOf__45 : decode cX10_valueOf_ 45 = .ok (.invokevirtual 378, 3) := by decide +kernel
theorem dX10_valueOf__48 : decode cX10_valueOf_ 48 = .ok (.ireturn, 1) := by decide +kernel
theorem dX10_valueOf__49 : decode cX10_valueOf_ 49 = .ok (.aload_n 0, 1) := by decide +kernel
theorem dX10_valueOf__50 : decode cX10_valueOf_ 50 = .ok (.iload_n 1, 1) := by decide +kernel
theorem dX10_valueOf__51 : decode cX10_valueOf_ 51 = .ok (.bipush 63, 2) := by decide +kernel
theorem dX10_valueOf__53 : decode cX10_valueOf_ 53 = .ok (.iconst 4, 1) := by decide +kernel
theorem dX10_valueOf__54 : decode cX10_valueOf_ 54 = .ok (.invokevirtual 378, 3) := by decide +kernel
theorem dX10_valueOf__57 : decode cX10_valueOf_ 57 = .ok (.aload_n 0, 1) := by decide +kernel
theorem dX10_valueOf__58 : decode cX10_valueOf_ 58 = .ok (.iload_n 1, 1) := by decide +kernel
theorem dX10_valueOf__59 : decode cX10_valueOf_ 59 = .ok (.bipush 63, 2) := by decide +kernel
theorem dX10_valueOf__61 : decode cX10_valueOf_ 61 = .ok (.iconst 5, 1) := by decide +kernel
theorem dX10_valueOf__62 : decode cX10_valueOf_ 62 = .ok (.invokevirtual 378, 3) := by decide +kernel
theorem dX10_valueOf__65 : decode cX10_valueOf_ 65 = .ok (.isub, 1) := by decide +kernel
theorem dX10_valueOf__66 : decode cX10_valueOf_ 66 = .ok (.ireturn, 1) := by decide +kernel
theorem dX10_valueOf__67 : decode cX10_valueOf_ 67 = .ok (.aload_n 0, 1) := by decide +kernel
theorem dX10_valueOf__68 : decode cX10_valueOf_ 68 = .ok (.iload_n 1, 1) := by decide +kernel
theorem dX10_valueOf__69 : decode cX10_valueOf_ 69 = .ok (.bipush 63, 2) := by decide +kernel
theorem dX10_valueOf__71 : decode cX10_valueOf_ 71 = .ok (.iconst 4, 1) := by decide +kernel
theorem dX10_valueOf__72 : decode cX10_valueOf_ 72 = .ok (.invokevirtual 378, 3) := by decide +kernel
theorem dX10_valueOf__75 : decode cX10_valueOf_ 75 = .ok (.ireturn, 1) := by decide +kernel
theorem dX10_valueOf__76 : decode cX10_valueOf_ 76 = .ok (.aload_n 0, 1) := by decide +kernel
theorem dX10_valueOf__77 : decode cX10_valueOf_ 77 = .ok (.iload_n 1, 1) := by decide +kernel
theorem dX10_valueOf__78 : decode cX10_valueOf_ 78 = .ok (.iload_n 3, 1) := by decide +kernel
theorem dX10_valueOf__79 : decode cX10_valueOf_ 79 = .ok (.invokevirtual 382, 3) := by decide +kernel
theorem dX10_valueOf__82 : decode cX10_valueOf_ 82 = .ok (.ireturn, 1) := by decide +kernel
theorem dX10_aheadOf_0 : decode cX10_aheadOf 0 = .ok (.bipush 63, 2) := by decide +kernel
theorem dX10_aheadOf_2 : decode cX10_aheadOf 2 = .ok (.istore_n 2, 1) := by decide +kernel
theorem dX10_aheadOf_3 : decode cX10_aheadOf 3 = .ok (.iconst 0, 1) := by decide +kernel
theorem dX10_aheadOf_4 : decode cX10_aheadOf 4 = .ok (.istore_n 3, 1) := by decide +kernel
theorem dX10_aheadOf_5 : decode cX10_aheadOf 5 = .ok (.iconst 0, 1) := by decide +kernel
theorem dX10_aheadOf_6 : decode cX10_aheadOf 6 = .ok (.istore 4, 2) := by decide +kernel
theorem dX10_aheadOf_8 : decode cX10_aheadOf 8 = .ok (.iload 4, 2) := by decide +kernel
theorem dX10_aheadOf_10 : decode cX10_aheadOf 10 = .ok (.aload_n 0, 1) := by decide +kernel
theorem dX10_aheadOf_11 : decode cX10_aheadOf 11 = .ok (.getfield 111, 3) := by decide +kernel
theorem dX10_aheadOf_14 : decode cX10_aheadOf 14 = .ok (.if_icmp .ge 113, 3) := by decide +kernel
theorem dX10_aheadOf_17 : decode cX10_aheadOf 17 = .ok (.aload_n 0, 1) := by decide +kernel
theorem dX10_aheadOf_18 : decode cX10_aheadOf 18 = .ok (.iload_n 1, 1) := by decide +kernel
theorem dX10_aheadOf_19 : decode cX10_aheadOf 19 = .ok (.aload_n 0, 1) := by decide +kernel
theorem dX10_aheadOf_20 : decode cX10_aheadOf 20 = .ok (.getfield 94, 3) := by decide +kernel
theorem dX10_aheadOf_23 : decode cX10_aheadOf 23 = .ok (.iload 4, 2) := by decide +kernel
theorem dX10_aheadOf_25 : decode cX10_aheadOf 25 = .ok (.iaload, 1) := by decide +kernel
theorem dX10_aheadOf_26 : decode cX10_aheadOf 26 = .ok (.iload_n 2, 1) := by decide +kernel
theorem dX10_aheadOf_27 : decode cX10_aheadOf 27 = .ok (.invokevirtual 385, 3) := by decide +kernel
theorem dX10_aheadOf_30 : decode cX10_aheadOf 30 = .ok (.istore 5, 2) := by decide +kernel
theorem dX10_aheadOf_32 : decode cX10_aheadOf 32 = .ok (.iconst 0, 1) := by decide +kernel
theorem dX10_aheadOf_33 : decode cX10_aheadOf 33 = .ok (.istore 6, 2) := by decide +kernel
theorem dX10_aheadOf_35 : decode cX10_aheadOf 35 = .ok (.iconst 0, 1) := by decide +kernel
theorem dX10_aheadOf_36 : decode cX10_aheadOf 36 = .ok (.istore 7, 2) := by decide +kernel
theorem dX10_aheadOf_38 : decode cX10_aheadOf 38 = .ok (.iload 7, 2) := by decide +kernel
theorem dX10_aheadOf_40 : decode cX10_aheadOf 40 = .ok (.bipush 6, 2) := by decide +kernel
theorem dX10_aheadOf_42 : decode cX10_aheadOf 42 = .ok (.if_icmp .ge 76, 3) := by decide +kernel
theorem dX10_aheadOf_45 : decode cX10_aheadOf 45 = .ok (.iload_n 2, 1) := by decide +kernel
theorem dX10_aheadOf_46 : decode cX10_aheadOf 46 = .ok (.iload 7, 2) := by decide +kernel
theorem dX10_aheadOf_48 : decode cX10_aheadOf 48 = .ok (.ishr, 1) := by decide +kernel
theorem dX10_aheadOf_49 : decode cX10_aheadOf 49 = .ok (.iconst 1, 1) := by decide +kernel
theorem dX10_aheadOf_50 : decode cX10_aheadOf 50 = .ok (.iand, 1) := by decide +kernel
theorem dX10_aheadOf_51 : decode cX10_aheadOf 51 = .ok (.iconst 1, 1) := by decide +kernel
theorem dX10_aheadOf_52 : decode cX10_aheadOf 52 = .ok (.if_icmp .ne 60, 3) := by decide +kernel
theorem dX10_aheadOf_55 : decode cX10_aheadOf 55 = .ok (.aload_n 0, 1) := by decide +kernel
theorem dX10_aheadOf_56 : decode cX10_aheadOf 56 = .ok (.iload 7, 2) := by decide +kernel
theorem dX10_aheadOf_58 : decode cX10_aheadOf 58 = .ok (.aload_n 0, 1) := by decide +kernel
theorem dX10_aheadOf_59 : decode cX10_aheadOf 59 = .ok (.getfield 94, 3) := by decide +kernel
theorem dX10_aheadOf_62 : decode cX10_aheadOf 62 = .ok (.iload 4, 2) := by decide +kernel
theorem dX10_aheadOf_64 : decode cX10_aheadOf 64 = .ok (.iaload, 1) := by decide +kernel
theorem dX10_aheadOf_65 : decode cX10_aheadOf 65 = .ok (.iload_n 2, 1) := by decide +kernel
theorem dX10_aheadOf_66 : decode cX10_aheadOf 66 = .ok (.invokevirtual 385, 3) := by decide +kernel
theorem dX10_aheadOf_69 : decode cX10_aheadOf 69 = .ok (.istore 8, 2) := by decide +kernel
theorem dX10_aheadOf_71 : decode cX10_aheadOf 71 = .ok (.iload_n 3, 1) := by decide +kernel
theorem dX10_aheadOf_72 : decode cX10_aheadOf 72 = .ok (.iload 8, 2) := by decide +kernel
theorem dX10_aheadOf_74 : decode cX10_aheadOf 74 = .ok (.iload 5, 2) := by decide +kernel
theorem dX10_aheadOf_76 : decode cX10_aheadOf 76 = .ok (.if_icmp .le 7, 3) := by decide +kernel
theorem dX10_aheadOf_79 : decode cX10_aheadOf 79 = .ok (.iconst 1, 1) := by decide +kernel
theorem dX10_aheadOf_80 : decode cX10_aheadOf 80 = .ok (.goto 4, 3) := by decide +kernel
theorem dX10_aheadOf_83 : decode cX10_aheadOf 83 = .ok (.iconst 0, 1) := by decide +kernel
theorem dX10_aheadOf_84 : decode cX10_aheadOf 84 = .ok (.invokestatic 155, 3) := by decide +kernel
theorem dX10_aheadOf_87 : decode cX10_aheadOf 87 = .ok (.iadd, 1) := by decide +kernel
theorem dX10_aheadOf_88 : decode cX10_aheadOf 88 = .ok (.istore_n 3, 1) := by decide +kernel
theorem dX10_aheadOf_89 : decode cX10_aheadOf 89 = .ok (.iload 6, 2) := by decide +kernel
theorem dX10_aheadOf_91 : decode cX10_aheadOf 91 = .ok (.iload 8, 2) := by decide +kernel
theorem dX10_aheadOf_93 : decode cX10_aheadOf 93 = .ok (.iload 5, 2) := by decide +kernel
theorem dX10_aheadOf_95 : decode cX10_aheadOf 95 = .ok (.if_icmp .ne 7, 3) := by decide +kernel
theorem dX10_aheadOf_98 : decode cX10_aheadOf 98 = .ok (.iconst 1, 1) := by decide +kernel
theorem dX10_aheadOf_99 : decode cX10_aheadOf 99 = .ok (.goto 4, 3) := by decide +kernel
theorem dX10_aheadOf_102 : decode cX10_aheadOf 102 = .ok (.iconst 0, 1) := by decide +kernel
theorem dX10_aheadOf_103 : decode cX10_aheadOf 103 = .ok (.invokestatic 155, 3) := by decide +kernel
theorem dX10_aheadOf_106 : decode cX10_aheadOf 106 = .ok (.iload 7, 2) := by decide +kernel
theorem dX10_aheadOf_108 : decode cX10_aheadOf 108 = .ok (.ishl, 1) := by decide +kernel
theorem dX10_aheadOf_109 : decode cX10_aheadOf 109 = .ok (.ior, 1) := by decide +kernel
theorem dX10_aheadOf_110 : decode cX10_aheadOf 110 = .ok (.istore 6, 2) := by decide +kernel
theorem dX10_aheadOf_112 : decode cX10_aheadOf 112 = .ok (.iinc 7 1, 3) := by decide +kernel
theorem dX10_aheadOf_115 : decode cX10_aheadOf 115 = .ok (.goto (-77), 3) := by decide +kernel
theorem dX10_aheadOf_118 : decode cX10_aheadOf 118 = .ok (.iload 6, 2) := by decide +kernel
theorem dX10_aheadOf_120 : decode cX10_aheadOf 120 = .ok (.istore_n 2, 1) := by decide +kernel
theorem dX10_aheadOf_121 : decode cX10_aheadOf 121 = .ok (.iinc 4 1, 3) := by decide +kernel
theorem dX10_aheadOf_124 : decode cX10_aheadOf 124 = .ok (.goto (-116), 3) := by decide +kernel
theorem dX10_aheadOf_127 : decode cX10_aheadOf 127 = .ok (.iload_n 3, 1) := by decide +kernel
theorem dX10_aheadOf_128 : decode cX10_aheadOf 128 = .ok (.ireturn, 1) := by decide +kernel
theorem dX10_standing_0 : decode cX10_standing 0 = .ok (.iload_n 1, 1) := by decide +kernel
theorem dX10_standing_1 : decode cX10_standing 1 = .ok (.invokestatic 277, 3) := by decide +kernel
theorem dX10_standing_4 : decode cX10_standing 4 = .ok (.ifCond .ne 7, 3) := by decide +kernel
theorem dX10_standing_7 : decode cX10_standing 7 = .ok (.sipush (-1001), 3) := by decide +kernel
theorem dX10_standing_10 : decode cX10_standing 10 = .ok (.ireturn, 1) := by decide +kernel
theorem dX10_standing_11 : decode cX10_standing 11 = .ok (.iload_n 2, 1) := by decide +kernel
theorem dX10_standing_12 : decode cX10_standing 12 = .ok (.i2l, 1) := by decide +kernel
theorem dX10_standing_13 : decode cX10_standing 13 = .ok (.lconst 0, 1) := by decide +kernel
theorem dX10_standing_14 : decode cX10_standing 14 = .ok (.ldc2_w 283, 3) := by decide +kernel
theorem dX10_standing_17 : decode cX10_standing 17 = .ok (.invokestatic 117, 3) := by decide +kernel
theorem dX10_standing_20 : decode cX10_standing 20 = .ok (.ifCond .ne 7, 3) := by decide +kernel
theorem dX10_standing_23 : decode cX10_standing 23 = .ok (.sipush (-1002), 3) := by decide +kernel
theorem dX10_standing_26 : decode cX10_standing 26 = .ok (.ireturn, 1) := by decide +kernel
theorem dX10_standing_27 : decode cX10_standing 27 = .ok (.iload_n 2, 1) := by decide +kernel
theorem dX10_standing_28 : decode cX10_standing 28 = .ok (.bipush 6, 2) := by decide +kernel
theorem dX10_standing_30 : decode cX10_standing 30 = .ok (.if_icmp .ge 14, 3) := by decide +kernel
theorem dX10_standing_33 : decode cX10_standing 33 = .ok (.aload_n 0, 1) := by decide +kernel
theorem dX10_standing_34 : decode cX10_standing 34 = .ok (.iload_n 1, 1) := by decide +kernel
theorem dX10_standing_35 : decode cX10_standing 35 = .ok (.bipush 63, 2) := by decide +kernel
theorem dX10_standing_37 : decode cX10_standing 37 = .ok (.iload_n 2, 1) := by decide +kernel
theorem dX10_standing_38 : decode cX10_standing 38 = .ok (.invokevirtual 378, 3) := by decide +kernel
theorem dX10_standing_41 : decode cX10_standing 41 = .ok (.goto 26, 3) := by decide +kernel
theorem dX10_standing_44 : decode cX10_standing 44 = .ok (.iload_n 2, 1) := by decide +kernel
theorem dX10_standing_45 : decode cX10_standing 45 = .ok (.bipush 6, 2) := by decide +kernel
theorem dX10_standing_47 : decode cX10_standing 47 = .ok (.if_icmp .ne 13, 3) := by decide +kernel
theorem dX10_standing_50 : decode cX10_standing 50 = .ok (.aload_n 0, 1) := by decide +kernel
theorem dX10_standing_51 : decode cX10_standing 51 = .ok (.iload_n 1, 1) := by decide +kernel
theorem dX10_standing_52 : decode cX10_standing 52 = .ok (.bipush 63, 2) := by decide +kernel
theorem dX10_standing_54 : decode cX10_standing 54 = .ok (.invokevirtual 382, 3) := by decide +kernel
theorem dX10_standing_57 : decode cX10_standing 57 = .ok (.goto 10, 3) := by decide +kernel
theorem dX10_standing_60 : decode cX10_standing 60 = .ok (.iconst 1, 1) := by decide +kernel
theorem dX10_standing_61 : decode cX10_standing 61 = .ok (.aload_n 0, 1) := by decide +kernel
theorem dX10_standing_62 : decode cX10_standing 62 = .ok (.iload_n 1, 1) := by decide +kernel
theorem dX10_standing_63 : decode cX10_standing 63 = .ok (.invokevirtual 387, 3) := by decide +kernel
theorem dX10_standing_66 : decode cX10_standing 66 = .ok (.iadd, 1) := by decide +kernel
theorem dX10_standing_67 : decode cX10_standing 67 = .ok (.ireturn, 1) := by decide +kernel
theorem dX10_orderWord_0 : decode cX10_orderWord 0 = .ok (.aload_n 0, 1) := by decide +kernel
theorem dX10_orderWord_1 : decode cX10_orderWord 1 = .ok (.bipush 20, 2) := by decide +kernel
theorem dX10_orderWord_3 : decode cX10_orderWord 3 = .ok (.iconst 1, 1) := by decide +kernel
theorem dX10_orderWord_4 : decode cX10_orderWord 4 = .ok (.iconst 2, 1) := by decide +kernel
theorem dX10_orderWord_5 : decode cX10_orderWord 5 = .ok (.bipush 12, 2) := by decide +kernel
theorem dX10_orderWord_7 : decode cX10_orderWord 7 = .ok (.iconst 5, 1) := by decide +kernel
theorem dX10_orderWord_8 : decode cX10_orderWord 8 = .ok (.invokestatic 232, 3) := by decide +kernel
theorem dX10_orderWord_11 : decode cX10_orderWord 11 = .ok (.iconst 5, 1) := by decide +kernel
theorem dX10_orderWord_12 : decode cX10_orderWord 12 = .ok (.invokevirtual 238, 3) := by decide +kernel
theorem dX10_orderWord_15 : decode cX10_orderWord 15 = .ok (.ifCond .eq 5, 3) := by decide +kernel
theorem dX10_orderWord_18 : decode cX10_orderWord 18 = .ok (.iconst 0, 1) := by decide +kernel
theorem dX10_orderWord_19 : decode cX10_orderWord 19 = .ok (.ireturn, 1) := by decide +kernel
theorem dX10_orderWord_20 : decode cX10_orderWord 20 = .ok (.aload_n 0, 1) := by decide +kernel
theorem dX10_orderWord_21 : decode cX10_orderWord 21 = .ok (.iconst 0, 1) := by decide +kernel
theorem dX10_orderWord_22 : decode cX10_orderWord 22 = .ok (.iconst 0, 1) := by decide +kernel
theorem dX10_orderWord_23 : decode cX10_orderWord 23 = .ok (.bipush 23, 2) := by decide +kernel
theorem dX10_orderWord_25 : decode cX10_orderWord 25 = .ok (.bipush 15, 2) := by decide +kernel
theorem dX10_orderWord_27 : decode cX10_orderWord 27 = .ok (.bipush 14, 2) := by decide +kernel
theorem dX10_orderWord_29 : decode cX10_orderWord 29 = .ok (.invokestatic 232, 3) := by decide +kernel
theorem dX10_orderWord_32 : decode cX10_orderWord 32 = .ok (.iconst 3, 1) := by decide +kernel
theorem dX10_orderWord_33 : decode cX10_orderWord 33 = .ok (.invokevirtual 238, 3) := by decide +kernel
theorem dX10_orderWord_36 : decode cX10_orderWord 36 = .ok (.ifCond .eq 5, 3) := by decide +kernel
theorem dX10_orderWord_39 : decode cX10_orderWord 39 = .ok (.iconst 1, 1) := by decide +kernel
theorem dX10_orderWord_40 : decode cX10_orderWord 40 = .ok (.ireturn, 1) := by decide +kernel
theorem dX10_orderWord_41 : decode cX10_orderWord 41 = .ok (.aload_n 0, 1) := by decide +kernel
theorem dX10_orderWord_42 : decode cX10_orderWord 42 = .ok (.iconst 0, 1) := by decide +kernel
theorem dX10_orderWord_43 : decode cX10_orderWord 43 = .ok (.iconst 4, 1) := by decide +kernel
theorem dX10_orderWord_44 : decode cX10_orderWord 44 = .ok (.bipush 9, 2) := by decide +kernel
theorem dX10_orderWord_46 : decode cX10_orderWord 46 = .ok (.bipush 6, 2) := by decide +kernel
theorem dX10_orderWord_48 : decode cX10_orderWord 48 = .ok (.bipush 6, 2) := by decide +kernel
theorem dX10_orderWord_50 : decode cX10_orderWord 50 = .ok (.invokestatic 232, 3) := by decide +kernel
theorem dX10_orderWord_53 : decode cX10_orderWord 53 = .ok (.iconst 4, 1) := by decide +kernel
theorem dX10_orderWord_54 : decode cX10_orderWord 54 = .ok (.invokevirtual 238, 3) := by decide +kernel
theorem dX10_orderWord_57 : decode cX10_orderWord 57 = .ok (.ifCond .eq 5, 3) := by decide +kernel
theorem dX10_orderWord_60 : decode cX10_orderWord 60 = .ok (.iconst 2, 1) := by decide +kernel
theorem dX10_orderWord_61 : decode cX10_orderWord 61 = .ok (.ireturn, 1) := by decide +kernel
theorem dX10_orderWord_62 : decode cX10_orderWord 62 = .ok (.aload_n 0, 1) := by decide +kernel
theorem dX10_orderWord_63 : decode cX10_orderWord 63 = .ok (.iconst 0, 1) := by decide +kernel
theorem dX10_orderWord_64 : decode cX10_orderWord 64 = .ok (.iconst 0, 1) := by decide +kernel
theorem dX10_orderWord_65 : decode cX10_orderWord 65 = .ok (.bipush 6, 2) := by decide +kernel
theorem dX10_orderWord_67 : decode cX10_orderWord 67 = .ok (.bipush 15, 2) := by decide +kernel
theorem dX10_orderWord_69 : decode cX10_orderWord 69 = .ok (.bipush 18, 2) := by decide +kernel
theorem dX10_orderWord_71 : decode cX10_orderWord 71 = .ok (.invokestatic 232, 3) := by decide +kernel
theorem dX10_orderWord_74 : decode cX10_orderWord 74 = .ok (.iconst 3, 1) := by decide +kernel
theorem dX10_orderWord_75 : decode cX10_orderWord 75 = .ok (.invokevirtual 238, 3) := by decide +kernel
theorem dX10_orderWord_78 : decode cX10_orderWord 78 = .ok (.ifCond .eq 5, 3) := by decide +kernel
theorem dX10_orderWord_81 : decode cX10_orderWord 81 = .ok (.iconst 3, 1) := by decide +kernel
theorem dX10_orderWord_82 : decode cX10_orderWord 82 = .ok (.ireturn, 1) := by decide +kernel
theorem dX10_orderWord_83 : decode cX10_orderWord 83 = .ok (.aload_n 0, 1) := by decide +kernel
theorem dX10_orderWord_84 : decode cX10_orderWord 84 = .ok (.iconst 0, 1) := by decide +kernel
theorem dX10_orderWord_85 : decode cX10_orderWord 85 = .ok (.iconst 0, 1) := by decide +kernel
theorem dX10_orderWord_86 : decode cX10_orderWord 86 = .ok (.bipush 13, 2) := by decide +kernel
theorem dX10_orderWord_88 : decode cX10_orderWord 88 = .ok (.iconst 5, 1) := by decide +kernel
theorem dX10_orderWord_89 : decode cX10_orderWord 89 = .ok (.bipush 20, 2) := by decide +kernel
theorem dX10_orderWord_91 : decode cX10_orderWord 91 = .ok (.invokestatic 232, 3) := by decide +kernel
theorem dX10_orderWord_94 : decode cX10_orderWord 94 = .ok (.iconst 3, 1) := by decide +kernel
theorem dX10_orderWord_95 : decode cX10_orderWord 95 = .ok (.invokevirtual 238, 3) := by decide +kernel
theorem dX10_orderWord_98 : decode cX10_orderWord 98 = .ok (.ifCond .eq 7, 3) := by decide +kernel
theorem dX10_orderWord_101 : decode cX10_orderWord 101 = .ok (.iconst 4, 1) := by decide +kernel
theorem dX10_orderWord_102 : decode cX10_orderWord 102 = .ok (.goto 4, 3) := by decide +kernel
theorem dX10_orderWord_105 : decode cX10_orderWord 105 = .ok (.iconst (-1), 1) := by decide +kernel
theorem dX10_orderWord_106 : decode cX10_orderWord 106 = .ok (.ireturn, 1) := by decide +kernel
theorem dX10_order_0 : decode cX10_order 0 = .ok (.aload_n 0, 1) := by decide +kernel
theorem dX10_order_1 : decode cX10_order 1 = .ok (.iconst 0, 1) := by decide +kernel
theorem dX10_order_2 : decode cX10_order 2 = .ok (.putfield 209, 3) := by decide +kernel
theorem dX10_order_5 : decode cX10_order 5 = .ok (.aload_n 0, 1) := by decide +kernel
theorem dX10_order_6 : decode cX10_order 6 = .ok (.iconst 0, 1) := by decide +kernel
theorem dX10_order_7 : decode cX10_order 7 = .ok (.putfield 212, 3) := by decide +kernel
theorem dX10_order_10 : decode cX10_order 10 = .ok (.aload_n 0, 1) := by decide +kernel
theorem dX10_order_11 : decode cX10_order 11 = .ok (.iconst (-1), 1) := by decide +kernel
theorem dX10_order_12 : decode cX10_order 12 = .ok (.putfield 47, 3) := by decide +kernel
theorem dX10_order_15 : decode cX10_order 15 = .ok (.iconst 0, 1) := by decide +kernel
theorem dX10_order_16 : decode cX10_order 16 = .ok (.istore_n 1, 1) := by decide +kernel
theorem dX10_order_17 : decode cX10_order 17 = .ok (.iconst 0, 1) := by decide +kernel
theorem dX10_order_18 : decode cX10_order 18 = .ok (.istore_n 2, 1) := by decide +kernel
theorem dX10_order_19 : decode cX10_order 19 = .ok (.aload_n 0, 1) := by decide +kernel
theorem dX10_order_20 : decode cX10_order 20 = .ok (.getfield 212, 3) := by decide +kernel
theorem dX10_order_23 : decode cX10_order 23 = .ok (.ifCond .ne 101, 3) := by decide +kernel
theorem dX10_order_26 : decode cX10_order 26 = .ok (.aload_n 0, 1) := by decide +kernel
theorem dX10_order_27 : decode cX10_order 27 = .ok (.aload_n 0, 1) := by decide +kernel
theorem dX10_order_28 : decode cX10_order 28 = .ok (.getfield 202, 3) := by decide +kernel
theorem dX10_order_31 : decode cX10_order 31 = .ok (.invokevirtual 215, 3) := by decide +kernel
theorem dX10_order_34 : decode cX10_order 34 = .ok (.ifCond .lt 90, 3) := by decide +kernel
theorem dX10_order_37 : decode cX10_order 37 = .ok (.aload_n 0, 1) := by decide +kernel
theorem dX10_order_38 : decode cX10_order 38 = .ok (.getfield 209, 3) := by decide +kernel
theorem dX10_order_41 : decode cX10_order 41 = .ok (.bipush 60, 2) := by decide +kernel
theorem dX10_order_43 : decode cX10_order 43 = .ok (.if_icmp .ge 81, 3) := by decide +kernel
theorem dX10_order_46 : decode cX10_order 46 = .ok (.aload_n 0, 1) := by decide +kernel
theorem dX10_order_47 : decode cX10_order 47 = .ok (.aload_n 0, 1) := by decide +kernel
theorem dX10_order_48 : decode cX10_order 48 = .ok (.getfield 202, 3) := by decide +kernel
theorem dX10_order_51 : decode cX10_order 51 = .ok (.invokevirtual 260, 3) := by decide +kernel
theorem dX10_order_54 : decode cX10_order 54 = .ok (.aload_n 0, 1) := by decide +kernel
theorem dX10_order_55 : decode cX10_order 55 = .ok (.invokevirtual 390, 3) := by decide +kernel
theorem dX10_order_58 : decode cX10_order 58 = .ok (.istore_n 3, 1) := by decide +kernel
theorem dX10_order_59 : decode cX10_order 59 = .ok (.aload_n 0, 1) := by decide +kernel
theorem dX10_order_60 : decode cX10_order 60 = .ok (.iload_n 3, 1) := by decide +kernel
theorem dX10_order_61 : decode cX10_order 61 = .ok (.ifCond .lt 7, 3) := by decide +kernel
theorem dX10_order_64 : decode cX10_order 64 = .ok (.iconst 1, 1) := by decide +kernel
theorem dX10_order_65 : decode cX10_order 65 = .ok (.goto 4, 3) := by decide +kernel
theorem dX10_order_68 : decode cX10_order 68 = .ok (.iconst 0, 1) := by decide +kernel
theorem dX10_order_69 : decode cX10_order 69 = .ok (.iconst 1, 1) := by decide +kernel
theorem dX10_order_70 : decode cX10_order 70 = .ok (.aload_n 0, 1) := by decide +kernel
theorem dX10_order_71 : decode cX10_order 71 = .ok (.getfield 218, 3) := by decide +kernel
theorem dX10_order_74 : decode cX10_order 74 = .ok (.invokevirtual 250, 3) := by decide +kernel
theorem dX10_order_77 : decode cX10_order 77 = .ok (.ifCond .eq 44, 3) := by decide +kernel
theorem dX10_order_80 : decode cX10_order 80 = .ok (.aload_n 0, 1) := by decide +kernel
theorem dX10_order_81 : decode cX10_order 81 = .ok (.iload_n 1, 1) := by decide +kernel
theorem dX10_order_82 : decode cX10_order 82 = .ok (.iload_n 3, 1) := by decide +kernel
theorem dX10_order_83 : decode cX10_order 83 = .ok (.ishr, 1) := by decide +kernel
theorem dX10_order_84 : decode cX10_order 84 = .ok (.iconst 1, 1) := by decide +kernel
theorem dX10_order_85 : decode cX10_order 85 = .ok (.iand, 1) := by decide +kernel
theorem dX10_order_86 : decode cX10_order 86 = .ok (.ifCond .ne 7, 3) := by decide +kernel
theorem dX10_order_89 : decode cX10_order 89 = .ok (.iconst 1, 1) := by decide +kernel
theorem dX10_order_90 : decode cX10_order 90 = .ok (.goto 4, 3) := by decide +kernel
theorem dX10_order_93 : decode cX10_order 93 = .ok (.iconst 0, 1) := by decide +kernel
theorem dX10_order_94 : decode cX10_order 94 = .ok (.iconst 3, 1) := by decide +kernel
theorem dX10_order_95 : decode cX10_order 95 = .ok (.aload_n 0, 1) := by decide +kernel
theorem dX10_order_96 : decode cX10_order 96 = .ok (.getfield 218, 3) := by decide +kernel
theorem dX10_order_99 : decode cX10_order 99 = .ok (.invokevirtual 250, 3) := by decide +kernel
theorem dX10_order_102 : decode cX10_order 102 = .ok (.ifCond .eq 19, 3) := by decide +kernel
theorem dX10_order_105 : decode cX10_order 105 = .ok (.iload_n 1, 1) := by decide +kernel
theorem dX10_order_106 : decode cX10_order 106 = .ok (.iconst 1, 1) := by decide +kernel
theorem dX10_order_107 : decode cX10_order 107 = .ok (.iload_n 3, 1) := by decide +kernel
theorem dX10_order_108 : decode cX10_order 108 = .ok (.ishl, 1) := by decide +kernel
theorem dX10_order_109 : decode cX10_order 109 = .ok (.ior, 1) := by decide +kernel
theorem dX10_order_110 : decode cX10_order 110 = .ok (.istore_n 1, 1) := by decide +kernel
theorem dX10_order_111 : decode cX10_order 111 = .ok (.aload_n 0, 1) := by decide +kernel
theorem dX10_order_112 : decode cX10_order 112 = .ok (.getfield 54, 3) := by decide +kernel
theorem dX10_order_115 : decode cX10_order 115 = .ok (.iload_n 2, 1) := by decide +kernel
theorem dX10_order_116 : decode cX10_order 116 = .ok (.iload_n 3, 1) := by decide +kernel
theorem dX10_order_117 : decode cX10_order 117 = .ok (.iastore, 1) := by decide +kernel
theorem dX10_order_118 : decode cX10_order 118 = .ok (.iinc 2 1, 3) := by decide +kernel
theorem dX10_order_121 : decode cX10_order 121 = .ok (.goto (-102), 3) := by decide +kernel
theorem dX10_order_124 : decode cX10_order 124 = .ok (.aload_n 0, 1) := by decide +kernel
theorem dX10_order_125 : decode cX10_order 125 = .ok (.aload_n 0, 1) := by decide +kernel
theorem dX10_order_126 : decode cX10_order 126 = .ok (.getfield 202, 3) := by decide +kernel
theorem dX10_order_129 : decode cX10_order 129 = .ok (.bipush 60, 2) := by decide +kernel
theorem dX10_order_131 : decode cX10_order 131 = .ok (.if_icmp .gt 7, 3) := by decide +kernel
theorem dX10_order_134 : decode cX10_order 134 = .ok (.iconst 1, 1) := by decide +kernel
theorem dX10_order_135 : decode cX10_order 135 = .ok (.goto 4, 3) := by decide +kernel
theorem dX10_order_138 : decode cX10_order 138 = .ok (.iconst 0, 1) := by decide +kernel
theorem dX10_order_139 : decode cX10_order 139 = .ok (.iconst 1, 1) := by decide +kernel
theorem dX10_order_140 : decode cX10_order 140 = .ok (.bipush 60, 2) := by decide +kernel
theorem dX10_order_142 : decode cX10_order 142 = .ok (.invokevirtual 250, 3) := by decide +kernel
theorem dX10_order_145 : decode cX10_order 145 = .ok (.ifCond .eq 28, 3) := by decide +kernel
theorem dX10_order_148 : decode cX10_order 148 = .ok (.aload_n 0, 1) := by decide +kernel
theorem dX10_order_149 : decode cX10_order 149 = .ok (.iload_n 2, 1) := by decide +kernel
theorem dX10_order_150 : decode cX10_order 150 = .ok (.ifCond .le 7, 3) := by decide +kernel
theorem dX10_order_153 : decode cX10_order 153 = .ok (.iconst 1, 1) := by decide +kernel
theorem dX10_order_154 : decode cX10_order 154 = .ok (.goto 4, 3) := by decide +kernel
theorem dX10_order_157 : decode cX10_order 157 = .ok (.iconst 0, 1) := by decide +kernel
theorem dX10_order_158 : decode cX10_order 158 = .ok (.iconst 1, 1) := by decide +kernel
theorem dX10_order_159 : decode cX10_order 159 = .ok (.aload_n 0, 1) := by decide +kernel
theorem dX10_order_160 : decode cX10_order 160 = .ok (.getfield 202, 3) := by decide +kernel
theorem dX10_order_163 : decode cX10_order 163 = .ok (.invokevirtual 250, 3) := by decide +kernel
theorem dX10_order_166 : decode cX10_order 166 = .ok (.ifCond .eq 7, 3) := by decide +kernel
theorem dX10_order_169 : decode cX10_order 169 = .ok (.iconst 1, 1) := by decide +kernel
theorem dX10_order_170 : decode cX10_order 170 = .ok (.goto 4, 3) := by decide +kernel
theorem dX10_order_173 : decode cX10_order 173 = .ok (.iconst 0, 1) := by decide +kernel
theorem dX10_order_174 : decode cX10_order 174 = .ok (.istore_n 3, 1) := by decide +kernel
theorem dX10_order_175 : decode cX10_order 175 = .ok (.aload_n 0, 1) := by decide +kernel
theorem dX10_order_176 : decode cX10_order 176 = .ok (.iconst 0, 1) := by decide +kernel
theorem dX10_order_177 : decode cX10_order 177 = .ok (.putfield 202, 3) := by decide +kernel
theorem dX10_order_180 : decode cX10_order 180 = .ok (.aload_n 0, 1) := by decide +kernel
theorem dX10_order_181 : decode cX10_order 181 = .ok (.getfield 212, 3) := by decide +kernel
theorem dX10_order_184 : decode cX10_order 184 = .ok (.ifCond .le 11, 3) := by decide +kernel
theorem dX10_order_187 : decode cX10_order 187 = .ok (.bipush (-10), 2) := by decide +kernel
theorem dX10_order_189 : decode cX10_order 189 = .ok (.aload_n 0, 1) := by decide +kernel
theorem dX10_order_190 : decode cX10_order 190 = .ok (.getfield 212, 3) := by decide +kernel
theorem dX10_order_193 : decode cX10_order 193 = .ok (.isub, 1) := by decide +kernel
theorem dX10_order_194 : decode cX10_order 194 = .ok (.ireturn, 1) := by decide +kernel
theorem dX10_order_195 : decode cX10_order 195 = .ok (.iconst 0, 1) := by decide +kernel
theorem dX10_order_196 : decode cX10_order 196 = .ok (.istore 4, 2) := by decide +kernel
theorem dX10_order_198 : decode cX10_order 198 = .ok (.iload 4, 2) := by decide +kernel
theorem dX10_order_200 : decode cX10_order 200 = .ok (.iload_n 2, 1) := by decide +kernel
theorem dX10_order_201 : decode cX10_order 201 = .ok (.if_icmp .ge 23, 3) := by decide +kernel
theorem dX10_order_204 : decode cX10_order 204 = .ok (.aload_n 0, 1) := by decide +kernel
theorem dX10_order_205 : decode cX10_order 205 = .ok (.getfield 94, 3) := by decide +kernel
theorem dX10_order_208 : decode cX10_order 208 = .ok (.iload 4, 2) := by decide +kernel
theorem dX10_order_210 : decode cX10_order 210 = .ok (.aload_n 0, 1) := by decide +kernel
theorem dX10_order_211 : decode cX10_order 211 = .ok (.getfield 54, 3) := by decide +kernel
theorem dX10_order_214 : decode cX10_order 214 = .ok (.iload 4, 2) := by decide +kernel
theorem dX10_order_216 : decode cX10_order 216 = .ok (.iaload, 1) := by decide +kernel
theorem dX10_order_217 : decode cX10_order 217 = .ok (.iastore, 1) := by decide +kernel
theorem dX10_order_218 : decode cX10_order 218 = .ok (.iinc 4 1, 3) := by decide +kernel
theorem dX10_order_221 : decode cX10_order 221 = .ok (.goto (-23), 3) := by decide +kernel
theorem dX10_order_224 : decode cX10_order 224 = .ok (.aload_n 0, 1) := by decide +kernel
theorem dX10_order_225 : decode cX10_order 225 = .ok (.iload_n 2, 1) := by decide +kernel
theorem dX10_order_226 : decode cX10_order 226 = .ok (.putfield 111, 3) := by decide +kernel
theorem dX10_order_229 : decode cX10_order 229 = .ok (.iload_n 2, 1) := by decide +kernel
theorem dX10_order_230 : decode cX10_order 230 = .ok (.ireturn, 1) := by decide +kernel
theorem dX10_reach_0 : decode cX10_reach 0 = .ok (.iload_n 1, 1) := by decide +kernel
theorem dX10_reach_1 : decode cX10_reach 1 = .ok (.invokestatic 277, 3) := by decide +kernel
theorem dX10_reach_4 : decode cX10_reach 4 = .ok (.ifCond .ne 7, 3) := by decide +kernel
theorem dX10_reach_7 : decode cX10_reach 7 = .ok (.sipush (-1001), 3) := by decide +kernel
theorem dX10_reach_10 : decode cX10_reach 10 = .ok (.ireturn, 1) := by decide +kernel
theorem dX10_reach_11 : decode cX10_reach 11 = .ok (.iload_n 2, 1) := by decide +kernel
theorem dX10_reach_12 : decode cX10_reach 12 = .ok (.i2l, 1) := by decide +kernel
theorem dX10_reach_13 : decode cX10_reach 13 = .ok (.lconst 0, 1) := by decide +kernel
theorem dX10_reach_14 : decode cX10_reach 14 = .ok (.lconst 1, 1) := by decide +kernel
theorem dX10_reach_15 : decode cX10_reach 15 = .ok (.invokestatic 117, 3) := by decide +kernel
theorem dX10_reach_18 : decode cX10_reach 18 = .ok (.ifCond .ne 7, 3) := by decide +kernel
theorem dX10_reach_21 : decode cX10_reach 21 = .ok (.sipush (-1002), 3) := by decide +kernel
theorem dX10_reach_24 : decode cX10_reach 24 = .ok (.ireturn, 1) := by decide +kernel
theorem dX10_reach_25 : decode cX10_reach 25 = .ok (.aload_n 0, 1) := by decide +kernel
theorem dX10_reach_26 : decode cX10_reach 26 = .ok (.invokevirtual 198, 3) := by decide +kernel
theorem dX10_reach_29 : decode cX10_reach 29 = .ok (.istore_n 3, 1) := by decide +kernel
theorem dX10_reach_30 : decode cX10_reach 30 = .ok (.iload_n 3, 1) := by decide +kernel
theorem dX10_reach_31 : decode cX10_reach 31 = .ok (.bipush 6, 2) := by decide +kernel
theorem dX10_reach_33 : decode cX10_reach 33 = .ok (.if_icmp .le 7, 3) := by decide +kernel
theorem dX10_reach_36 : decode cX10_reach 36 = .ok (.sipush (-1005), 3) := by decide +kernel
theorem dX10_reach_39 : decode cX10_reach 39 = .ok (.ireturn, 1) := by decide +kernel
theorem dX10_reach_40 : decode cX10_reach 40 = .ok (.iconst 0, 1) := by decide +kernel
theorem dX10_reach_41 : decode cX10_reach 41 = .ok (.istore 4, 2) := by decide +kernel
theorem dX10_reach_43 : decode cX10_reach 43 = .ok (.iconst 1, 1) := by decide +kernel
theorem dX10_reach_44 : decode cX10_reach 44 = .ok (.istore 5, 2) := by decide +kernel
theorem dX10_reach_46 : decode cX10_reach 46 = .ok (.iconst 0, 1) := by decide +kernel
theorem dX10_reach_47 : decode cX10_reach 47 = .ok (.istore 6, 2) := by decide +kernel
theorem dX10_reach_49 : decode cX10_reach 49 = .ok (.iload 6, 2) := by decide +kernel
theorem dX10_reach_51 : decode cX10_reach 51 = .ok (.aload_n 0, 1) := by decide +kernel
theorem dX10_reach_52 : decode cX10_reach 52 = .ok (.getfield 195, 3) := by decide +kernel
theorem dX10_reach_55 : decode cX10_reach 55 = .ok (.if_icmp .ge 36, 3) := by decide +kernel
theorem dX10_reach_58 : decode cX10_reach 58 = .ok (.aload_n 0, 1) := by decide +kernel
theorem dX10_reach_59 : decode cX10_reach 59 = .ok (.iload 6, 2) := by decide +kernel
theorem dX10_reach_61 : decode cX10_reach 61 = .ok (.invokevirtual 368, 3) := by decide +kernel
theorem dX10_reach_64 : decode cX10_reach 64 = .ok (.ifCond .ne 21, 3) := by decide +kernel
theorem dX10_reach_67 : decode cX10_reach 67 = .ok (.aload_n 0, 1) := by decide +kernel
theorem dX10_reach_68 : decode cX10_reach 68 = .ok (.getfield 100, 3) := by decide +kernel
theorem dX10_reach_71 : decode cX10_reach 71 = .ok (.iload 4, 2) := by decide +kernel
theorem dX10_reach_73 : decode cX10_reach 73 = .ok (.iload 6, 2) := by decide +kernel
theorem dX10_reach_75 : decode cX10_reach 75 = .ok (.iastore, 1) := by decide +kernel
theorem dX10_reach_76 : decode cX10_reach 76 = .ok (.iinc 4 1, 3) := by decide +kernel
theorem dX10_reach_79 : decode cX10_reach 79 = .ok (.iload 5, 2) := by decide +kernel
theorem dX10_reach_81 : decode cX10_reach 81 = .ok (.iconst 3, 1) := by decide +kernel
theorem dX10_reach_82 : decode cX10_reach 82 = .ok (.imul, 1) := by decide +kernel
theorem dX10_reach_83 : decode cX10_reach 83 = .ok (.istore 5, 2) := by decide +kernel
theorem dX10_reach_85 : decode cX10_reach 85 = .ok (.iinc 6 1, 3) := by decide +kernel
theorem dX10_reach_88 : decode cX10_reach 88 = .ok (.goto (-39), 3) := by decide +kernel
theorem dX10_reach_91 : decode cX10_reach 91 = .ok (.bipush 99, 2) := by decide +kernel
theorem dX10_reach_93 : decode cX10_reach 93 = .ok (.istore 6, 2) := by decide +kernel
theorem dX10_reach_95 : decode cX10_reach 95 = .ok (.iconst 0, 1) := by decide +kernel
theorem dX10_reach_96 : decode cX10_reach 96 = .ok (.istore 7, 2) := by decide +kernel
theorem dX10_reach_98 : decode cX10_reach 98 = .ok (.iconst 0, 1) := by decide +kernel
theorem dX10_reach_99 : decode cX10_reach 99 = .ok (.istore 8, 2) := by decide +kernel
theorem dX10_reach_101 : decode cX10_reach 101 = .ok (.iload 8, 2) := by decide +kernel
theorem dX10_reach_103 : decode cX10_reach 103 = .ok (.iload 5, 2) := by decide +kernel
theorem dX10_reach_105 : decode cX10_reach 105 = .ok (.if_icmp .ge 231, 3) := by decide +kernel
theorem dX10_reach_108 : decode cX10_reach 108 = .ok (.iconst 0, 1) := by decide +kernel
theorem dX10_reach_109 : decode cX10_reach 109 = .ok (.istore 9, 2) := by decide +kernel
theorem dX10_reach_111 : decode cX10_reach 111 = .ok (.iload 9, 2) := by decide +kernel
theorem dX10_reach_113 : decode cX10_reach 113 = .ok (.bipush 6, 2) := by decide +kernel
theorem dX10_reach_115 : decode cX10_reach 115 = .ok (.if_icmp .ge 24, 3) := by decide +kernel
theorem dX10_reach_118 : decode cX10_reach 118 = .ok (.aload_n 0, 1) := by decide +kernel
theorem dX10_reach_119 : decode cX10_reach 119 = .ok (.getfield 97, 3) := by decide +kernel
theorem dX10_reach_122 : decode cX10_reach 122 = .ok (.iload 9, 2) := by decide +kernel
theorem dX10_reach_124 : decode cX10_reach 124 = .ok (.aload_n 0, 1) := by decide +kernel
theorem dX10_reach_125 : decode cX10_reach 125 = .ok (.iload 9, 2) := by decide +kernel
theorem dX10_reach_127 : decode cX10_reach 127 = .ok (.bipush 63, 2) := by decide +kernel
theorem dX10_reach_129 : decode cX10_reach 129 = .ok (.invokevirtual 382, 3) := by decide +kernel
theorem dX10_reach_132 : decode cX10_reach 132 = .ok (.iastore, 1) := by decide +kernel
theorem dX10_reach_133 : decode cX10_reach 133 = .ok (.iinc 9 1, 3) := by decide +kernel
theorem dX10_reach_136 : decode cX10_reach 136 = .ok (.goto (-25), 3) := by decide +kernel
theorem dX10_reach_139 : decode cX10_reach 139 = .ok (.iload 8, 2) := by decide +kernel
theorem dX10_reach_141 : decode cX10_reach 141 = .ok (.istore 9, 2) := by decide +kernel
theorem dX10_reach_143 : decode cX10_reach 143 = .ok (.iconst 0, 1) := by decide +kernel
theorem dX10_reach_144 : decode cX10_reach 144 = .ok (.istore 10, 2) := by decide +kernel
theorem dX10_reach_146 : decode cX10_reach 146 = .ok (.iload 10, 2) := by decide +kernel
theorem dX10_reach_148 : decode cX10_reach 148 = .ok (.iload_n 3, 1) := by decide +kernel
theorem dX10_reach_149 : decode cX10_reach 149 = .ok (.if_icmp .ge 101, 3) := by decide +kernel
theorem dX10_reach_152 : decode cX10_reach 152 = .ok (.iload 9, 2) := by decide +kernel
theorem dX10_reach_154 : decode cX10_reach 154 = .ok (.iconst 3, 1) := by decide +kernel
theorem dX10_reach_155 : decode cX10_reach 155 = .ok (.irem, 1) := by decide +kernel
theorem dX10_reach_156 : decode cX10_reach 156 = .ok (.istore 11, 2) := by decide +kernel
theorem dX10_reach_158 : decode cX10_reach 158 = .ok (.iload 9, 2) := by decide +kernel
theorem dX10_reach_160 : decode cX10_reach 160 = .ok (.iconst 3, 1) := by decide +kernel
theorem dX10_reach_161 : decode cX10_reach 161 = .ok (.idiv, 1) := by decide +kernel
theorem dX10_reach_162 : decode cX10_reach 162 = .ok (.istore 9, 2) := by decide +kernel
theorem dX10_reach_164 : decode cX10_reach 164 = .ok (.aload_n 0, 1) := by decide +kernel
theorem dX10_reach_165 : decode cX10_reach 165 = .ok (.getfield 97, 3) := by decide +kernel
theorem dX10_reach_168 : decode cX10_reach 168 = .ok (.aload_n 0, 1) := by decide +kernel
theorem dX10_reach_169 : decode cX10_reach 169 = .ok (.getfield 76, 3) := by decide +kernel
theorem dX10_reach_172 : decode cX10_reach 172 = .ok (.aload_n 0, 1) := by decide +kernel
theorem dX10_reach_173 : decode cX10_reach 173 = .ok (.getfield 100, 3) := by decide +kernel
theorem dX10_reach_176 : decode cX10_reach 176 = .ok (.iload 10, 2) := by decide +kernel
theorem dX10_reach_178 : decode cX10_reach 178 = .ok (.iaload, 1) := by decide +kernel
theorem dX10_reach_179 : decode cX10_reach 179 = .ok (.iaload, 1) := by decide +kernel
theorem dX10_reach_180 : decode cX10_reach 180 = .ok (.dup2, 1) := by decide +kernel
theorem dX10_reach_181 : decode cX10_reach 181 = .ok (.iaload, 1) := by decide +kernel
theorem dX10_reach_182 : decode cX10_reach 182 = .ok (.iload 11, 2) := by decide +kernel
theorem dX10_reach_184 : decode cX10_reach 184 = .ok (.ifCond .ne 7, 3) := by decide +kernel
theorem dX10_reach_187 : decode cX10_reach 187 = .ok (.iconst 2, 1) := by decide +kernel
theorem dX10_reach_188 : decode cX10_reach 188 = .ok (.goto 14, 3) := by decide +kernel
theorem dX10_reach_191 : decode cX10_reach 191 = .ok (.iload 11, 2) := by decide +kernel
theorem dX10_reach_193 : decode cX10_reach 193 = .ok (.iconst 1, 1) := by decide +kernel
theorem dX10_reach_194 : decode cX10_reach 194 = .ok (.if_icmp .ne 7, 3) := by decide +kernel
theorem dX10_reach_197 : decode cX10_reach 197 = .ok (.iconst 0, 1) := by decide +kernel
theorem dX10_reach_198 : decode cX10_reach 198 = .ok (.goto 4, 3) := by decide +kernel
theorem dX10_reach_201 : decode cX10_reach 201 = .ok (.iconst 1, 1) := by decide +kernel
theorem dX10_reach_202 : decode cX10_reach 202 = .ok (.iadd, 1) := by decide +kernel
theorem dX10_reach_203 : decode cX10_reach 203 = .ok (.iastore, 1) := by decide +kernel
theorem dX10_reach_204 : decode cX10_reach 204 = .ok (.aload_n 0, 1) := by decide +kernel
theorem dX10_reach_205 : decode cX10_reach 205 = .ok (.getfield 97, 3) := by decide +kernel
theorem dX10_reach_208 : decode cX10_reach 208 = .ok (.aload_n 0, 1) := by decide +kernel
theorem dX10_reach_209 : decode cX10_reach 209 = .ok (.getfield 79, 3) := by decide +kernel
theorem dX10_reach_212 : decode cX10_reach 212 = .ok (.aload_n 0, 1) := by decide +kernel
theorem dX10_reach_213 : decode cX10_reach 213 = .ok (.getfield 100, 3) := by decide +kernel
theorem dX10_reach_216 : decode cX10_reach 216 = .ok (.iload 10, 2) := by decide +kernel
theorem dX10_reach_218 : decode cX10_reach 218 = .ok (.iaload, 1) := by decide +kernel
theorem dX10_reach_219 : decode cX10_reach 219 = .ok (.iaload, 1) := by decide +kernel
theorem dX10_reach_220 : decode cX10_reach 220 = .ok (.dup2, 1) := by decide +kernel
theorem dX10_reach_221 : decode cX10_reach 221 = .ok (.iaload, 1) := by decide +kernel
theorem dX10_reach_222 : decode cX10_reach 222 = .ok (.iload 11, 2) := by decide +kernel
theorem dX10_reach_224 : decode cX10_reach 224 = .ok (.ifCond .ne 7, 3) := by decide +kernel
theorem dX10_reach_227 : decode cX10_reach 227 = .ok (.iconst 0, 1) := by decide +kernel
theorem dX10_reach_228 : decode cX10_reach 228 = .ok (.goto 14, 3) := by decide +kernel
theorem dX10_reach_231 : decode cX10_reach 231 = .ok (.iload 11, 2) := by decide +kernel
theorem dX10_reach_233 : decode cX10_reach 233 = .ok (.iconst 1, 1) := by decide +kernel
theorem dX10_reach_234 : decode cX10_reach 234 = .ok (.if_icmp .ne 7, 3) := by decide +kernel
theorem dX10_reach_237 : decode cX10_reach 237 = .ok (.iconst 2, 1) := by decide +kernel
theorem dX10_reach_238 : decode cX10_reach 238 = .ok (.goto 4, 3) := by decide +kernel
theorem dX10_reach_241 : decode cX10_reach 241 = .ok (.iconst 1, 1) := by decide +kernel
theorem dX10_reach_242 : decode cX10_reach 242 = .ok (.iadd, 1) := by decide +kernel
theorem dX10_reach_243 : decode cX10_reach 243 = .ok (.iastore, 1) := by decide +kernel
theorem dX10_reach_244 : decode cX10_reach 244 = .ok (.iinc 10 1, 3) := by decide +kernel
theorem dX10_reach_247 : decode cX10_reach 247 = .ok (.goto (-101), 3) := by decide +kernel
theorem dX10_reach_250 : decode cX10_reach 250 = .ok (.iconst 1, 1) := by decide +kernel
theorem dX10_reach_251 : decode cX10_reach 251 = .ok (.istore 10, 2) := by decide +kernel
theorem dX10_reach_253 : decode cX10_reach 253 = .ok (.iconst 0, 1) := by decide +kernel
theorem dX10_reach_254 : decode cX10_reach 254 = .ok (.istore 11, 2) := by decide +kernel
theorem dX10_reach_256 : decode cX10_reach 256 = .ok (.iload 11, 2) := by decide +kernel
theorem dX10_reach_258 : decode cX10_reach 258 = .ok (.bipush 6, 2) := by decide +kernel
theorem dX10_reach_260 : decode cX10_reach 260 = .ok (.if_icmp .ge 38, 3) := by decide +kernel
theorem dX10_reach_263 : decode cX10_reach 263 = .ok (.iload 10, 2) := by decide +kernel
theorem dX10_reach_265 : decode cX10_reach 265 = .ok (.aload_n 0, 1) := by decide +kernel
theorem dX10_reach_266 : decode cX10_reach 266 = .ok (.getfield 97, 3) := by decide +kernel
theorem dX10_reach_269 : decode cX10_reach 269 = .ok (.iload 11, 2) := by decide +kernel
theorem dX10_reach_271 : decode cX10_reach 271 = .ok (.iaload, 1) := by decide +kernel
theorem dX10_reach_272 : decode cX10_reach 272 = .ok (.aload_n 0, 1) := by decide +kernel
theorem dX10_reach_273 : decode cX10_reach 273 = .ok (.getfield 97, 3) := by decide +kernel
theorem dX10_reach_276 : decode cX10_reach 276 = .ok (.iload_n 1, 1) := by decide +kernel
theorem dX10_reach_277 : decode cX10_reach 277 = .ok (.iaload, 1) := by decide +kernel
theorem dX10_reach_278 : decode cX10_reach 278 = .ok (.if_icmp .le 7, 3) := by decide +kernel
theorem dX10_reach_281 : decode cX10_reach 281 = .ok (.iconst 1, 1) := by decide +kernel
theorem dX10_reach_282 : decode cX10_reach 282 = .ok (.goto 4, 3) := by decide +kernel
theorem dX10_reach_285 : decode cX10_reach 285 = .ok (.iconst 0, 1) := by decide +kernel
theorem dX10_reach_286 : decode cX10_reach 286 = .ok (.invokestatic 155, 3) := by decide +kernel
theorem dX10_reach_289 : decode cX10_reach 289 = .ok (.iadd, 1) := by decide +kernel
theorem dX10_reach_290 : decode cX10_reach 290 = .ok (.istore 10, 2) := by decide +kernel
theorem dX10_reach_292 : decode cX10_reach 292 = .ok (.iinc 11 1, 3) := by decide +kernel
theorem dX10_reach_295 : decode cX10_reach 295 = .ok (.goto (-39), 3) := by decide +kernel
theorem dX10_reach_298 : decode cX10_reach 298 = .ok (.iload 10, 2) := by decide +kernel
theorem dX10_reach_300 : decode cX10_reach 300 = .ok (.iload 6, 2) := by decide +kernel
theorem dX10_reach_302 : decode cX10_reach 302 = .ok (.if_icmp .ge 8, 3) := by decide +kernel
theorem dX10_reach_305 : decode cX10_reach 305 = .ok (.iload 10, 2) := by decide +kernel
theorem dX10_reach_307 : decode cX10_reach 307 = .ok (.goto 5, 3) := by decide +kernel
theorem dX10_reach_310 : decode cX10_reach 310 = .ok (.iload 6, 2) := by decide +kernel
theorem dX10_reach_312 : decode cX10_reach 312 = .ok (.istore 6, 2) := by decide +kernel
theorem dX10_reach_314 : decode cX10_reach 314 = .ok (.iload 10, 2) := by decide +kernel
theorem dX10_reach_316 : decode cX10_reach 316 = .ok (.iload 7, 2) := by decide +kernel
theorem dX10_reach_318 : decode cX10_reach 318 = .ok (.if_icmp .le 8, 3) := by decide +kernel
theorem dX10_reach_321 : decode cX10_reach 321 = .ok (.iload 10, 2) := by decide +kernel
theorem dX10_reach_323 : decode cX10_reach 323 = .ok (.goto 5, 3) := by decide +kernel
theorem dX10_reach_326 : decode cX10_reach 326 = .ok (.iload 7, 2) := by decide +kernel
theorem dX10_reach_328 : decode cX10_reach 328 = .ok (.istore 7, 2) := by decide +kernel
theorem dX10_reach_330 : decode cX10_reach 330 = .ok (.iinc 8 1, 3) := by decide +kernel
theorem dX10_reach_333 : decode cX10_reach 333 = .ok (.goto (-232), 3) := by decide +kernel
theorem dX10_reach_336 : decode cX10_reach 336 = .ok (.iload_n 2, 1) := by decide +kernel
theorem dX10_reach_337 : decode cX10_reach 337 = .ok (.ifCond .ne 8, 3) := by decide +kernel
theorem dX10_reach_340 : decode cX10_reach 340 = .ok (.iload 6, 2) := by decide +kernel
theorem dX10_reach_342 : decode cX10_reach 342 = .ok (.goto 5, 3) := by decide +kernel
theorem dX10_reach_345 : decode cX10_reach 345 = .ok (.iload 7, 2) := by decide +kernel
theorem dX10_reach_347 : decode cX10_reach 347 = .ok (.ireturn, 1) := by decide +kernel
